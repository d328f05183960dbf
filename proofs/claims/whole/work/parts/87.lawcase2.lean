section LAWLOOP2
variable {μ : Nat} {r : Nat → Nat}
theorem case_setTube {S : bS} {A : Nat → Nat → Nat} {cp : Nat → Nat} {P : pP} {out B K : Nat} (hj : jS S A cp P μ r out) (hcz : cZ P.1 cp) (hB : B + 600 < 2 ^ 31) (hK : K + 886001 < 2 ^ 31) (hw : wI B K P.1 P.2) (hX : iX P.1 P.2) {xs : Nat → Int32} {Ln : Nat} {post : Int32 → bS → Prop} {rec : Nat → Nat → Nat → Nat → Nat → Int32 → bS → Prop} {mc ms R : Nat} {v4 : Int32} (hmc : potA P.1 cp + 20 + R ≤ mc) (hms : potA P.1 cp + 20 + R ≤ ms) (IH : ∀ (Q : pP) (cp' : Nat → Nat) (A' : Nat → Nat → Nat) (Sn : bS) (mc' ms' : Nat), jS Sn A' cp' Q μ r out → A' 0 = A 0 → cZ Q.1 cp' → okQ B K Q → potA Q.1 cp' + R ≤ mc' → potA Q.1 cp' + R ≤ ms' → rec mc' ms' (A 0 0) μ out (v4 + 6) Sn) (h1 : vp_in (v4 + (1 : Int32)) Ln) (h2 : vp_in (v4 + (2 : Int32)) Ln) (h3 : vp_in (v4 + (3 : Int32)) Ln) {op x1 x2 : Int32} (e1 : xs (Int32.toNatClampNeg (v4 + (1 : Int32))) = x1) (e2 : xs (Int32.toNatClampNeg (v4 + (2 : Int32))) = x2) (hop : ((xs (Int32.toNatClampNeg (v4 + (3 : Int32)))) = (0 : Int32) ∧ op = 0) ∨ (¬ ((xs (Int32.toNatClampNeg (v4 + (3 : Int32)))) = (0 : Int32)) ∧ op = 1)) : wb_L_law_391 xs Ln post rec mc ms (A 0 0) μ out v4 op x2 x1 (A 0 0) S := by
  have hop' : op = 0 ∨ op = 1 := by
    rcases hop with q | q
    · exact Or.inl q.2
    · exact Or.inr q.2
  obtain ⟨cp', hL⟩ := (cQ_z (L_setTube hw x1 x2 hop') : ∃ cp', cQz P cp cp' (qSet P x1 x2 op) (fun post MC MS out A S => wp_L_setTube post MC MS (A 0 0) x1 x2 op out S))
  have hq := ok_set hw hX x1 x2 op
  have hz := hL.2.1 hcz
  have hle := hL.1
  generalize hk : potA P.1 cp - potA (qSet P x1 x2 op).2.1 cp' + 6 = k
  unfold wb_L_law_391
  rw [e1, e2]
  refine ⟨k, k, by omega, by omega, ?_⟩
  rw [← hk]
  refine op_gen (wL := fun post MC MS out A S => wp_L_setTube post MC MS (A 0 0) x1 x2 op out S) (wM := fun po X => wp_X6_setTube po μ x1 x2 op X) (go := fun Sn => wb_L_law_457 xs Ln post rec (mc - k) (ms - k) (A 0 0) μ out v4 Sn) (post := post) hj hcz hL (fun X hM f g po h => M_setTube hM hw (fun f' g' => h X f' g' (sEx_rf X))) (fun Sn A' hjn a0 => ?_) (fun r21 S22 hh => ?_)
  · exact IH _ cp' A' Sn _ _ hjn a0 hz hq (by omega) (by omega)
  · rw [hk]
    refine ⟨h1, h2, h3, fun q => ?_, fun q => ?_⟩
    · rcases hop with ⟨-, y⟩ | ⟨y, -⟩
      · rw [y] at hh
        exact hh
      · exact absurd q y
    · rcases hop with ⟨y, -⟩ | ⟨-, y⟩
      · exact absurd y q
      · rw [y] at hh
        exact hh
theorem j_same {S : bS} {A : Nat → Nat → Nat} {cp : Nat → Nat} {P : pP} {out : Nat} (hj : jS S A cp P μ r out) (f g : Nat → Int32) : jS (mW μ r S (mX (T0 P).1 f g)) A cp (T0 P) μ r out := j_ref (cR_T0 hj.1) hj.2.1 hj.2.2.2.1 hj.2.2.2.2.1 hj.2.2.2.2.2 (sEx_rf S) f g
theorem case_mean {S : bS} {A : Nat → Nat → Nat} {cp : Nat → Nat} {P : pP} {out B K : Nat} (hj : jS S A cp P μ r out) (hcz : cZ P.1 cp) (hB : B + 600 < 2 ^ 31) (hK : K + 886001 < 2 ^ 31) (hw : wI B K P.1 P.2) (hX : iX P.1 P.2) {xs : Nat → Int32} {Ln : Nat} {post : Int32 → bS → Prop} {rec : Nat → Nat → Nat → Nat → Nat → Int32 → bS → Prop} {mc ms R : Nat} {v4 : Int32} (hmc : potA P.1 cp + 20 + R ≤ mc) (hms : potA P.1 cp + 20 + R ≤ ms) (IH : ∀ (Q : pP) (cp' : Nat → Nat) (A' : Nat → Nat → Nat) (Sn : bS) (mc' ms' : Nat), jS Sn A' cp' Q μ r out → A' 0 = A 0 → cZ Q.1 cp' → okQ B K Q → potA Q.1 cp' + R ≤ mc' → potA Q.1 cp' + R ≤ ms' → rec mc' ms' (A 0 0) μ out (v4 + 6) Sn) : gK S (A 0 0) = 7 ∧ (wp_X5_mean (fun r261 S262 => gK S262 μ = 8 ∧ (wp_X6_mean (fun r265 S266 => ((Op.cmpValue (FP.dcmp r261 r265) CmpOp.l) = (0 : Int32) → wb_L_law_1258 xs Ln post rec mc ms (A 0 0) μ out v4 S266) ∧ (¬ ((Op.cmpValue (FP.dcmp r261 r265) CmpOp.l) = (0 : Int32)) → ((Op.cmpValue (FP.dcmp r261 r261) CmpOp.l) = (0 : Int32) → wb_L_law_1256 xs Ln post mc ms S266) ∧ (¬ ((Op.cmpValue (FP.dcmp r261 r261) CmpOp.l) = (0 : Int32)) → ((Op.cmpValue (FP.dcmp r265 r265) CmpOp.l) ≠ (0 : Int32) → wb_L_law_1258 xs Ln post rec mc ms (A 0 0) μ out v4 S266) ∧ ((Op.cmpValue (FP.dcmp r265 r265) CmpOp.l) = (0 : Int32) → wb_L_law_1256 xs Ln post mc ms S266)))) μ S262)) (A 0 0) S) := by
  refine ⟨hj.1.1.1.1, C_mean hj.1 (fun v hv => ⟨hj.2.1.1, ?_⟩)⟩
  obtain ⟨f, g, hS⟩ := hj.2.2.1
  have key : wp_X6_mean (fun r265 S266 => ((Op.cmpValue (FP.dcmp v r265) CmpOp.l) = (0 : Int32) → wb_L_law_1258 xs Ln post rec mc ms (A 0 0) μ out v4 S266) ∧ (¬ ((Op.cmpValue (FP.dcmp v r265) CmpOp.l) = (0 : Int32)) → ((Op.cmpValue (FP.dcmp v v) CmpOp.l) = (0 : Int32) → wb_L_law_1256 xs Ln post mc ms S266) ∧ (¬ ((Op.cmpValue (FP.dcmp v v) CmpOp.l) = (0 : Int32)) → ((Op.cmpValue (FP.dcmp r265 r265) CmpOp.l) ≠ (0 : Int32) → wb_L_law_1258 xs Ln post rec mc ms (A 0 0) μ out v4 S266) ∧ ((Op.cmpValue (FP.dcmp r265 r265) CmpOp.l) = (0 : Int32) → wb_L_law_1256 xs Ln post mc ms S266)))) μ (mW μ r S (mX P.1 f g)) := by
    refine M_mean hj.2.1 (fun v2 hv2 => ?_)
    have hgo : wb_L_law_1258 xs Ln post rec mc ms (A 0 0) μ out v4 (mW μ r S (mX (T0 P).1 f g)) := IH (T0 P) cp A _ mc ms (j_same hj f g) rfl hcz (okT0 hw hX) (by show potA P.1 cp + R ≤ mc; omega) (by show potA P.1 cp + R ≤ ms; omega)
    have hb : (Op.cmpValue (FP.dcmp v v2) CmpOp.l) = 0 ∨ ((Op.cmpValue (FP.dcmp v v) CmpOp.l) ≠ 0 ∧ (Op.cmpValue (FP.dcmp v2 v2) CmpOp.l) ≠ 0) := by
      unfold meanOK at hv hv2
      by_cases h0 : P.1 0 6 = 0
      · rw [if_pos h0] at hv hv2
        rw [hv, hv2]
        exact mean_both (X := FP.dconst0) (alike64_refl _) (alike64_refl _)
      · rw [if_neg h0] at hv hv2
        exact mean_both hv hv2
    rcases hb with h0 | ⟨ha, hb⟩
    · exact ⟨fun _ => hgo, fun q => absurd h0 q⟩
    · exact ⟨fun _ => hgo, fun _ => ⟨fun q => absurd q ha, fun _ => ⟨fun _ => hgo, fun q => absurd q hb⟩⟩⟩
  rw [hS] at key
  exact key
theorem case_digest {S : bS} {A : Nat → Nat → Nat} {cp : Nat → Nat} {P : pP} {out B K : Nat} (hj : jS S A cp P μ r out) (hcz : cZ P.1 cp) (hB : B + 600 < 2 ^ 31) (hK : K + 886001 < 2 ^ 31) (hw : wI B K P.1 P.2) (hX : iX P.1 P.2) {xs : Nat → Int32} {Ln : Nat} {post : Int32 → bS → Prop} {rec : Nat → Nat → Nat → Nat → Nat → Int32 → bS → Prop} {mc ms R : Nat} {v4 : Int32} (hmc : potA P.1 cp + 20 + R ≤ mc) (hms : potA P.1 cp + 20 + R ≤ ms) (IH : ∀ (Q : pP) (cp' : Nat → Nat) (A' : Nat → Nat → Nat) (Sn : bS) (mc' ms' : Nat), jS Sn A' cp' Q μ r out → A' 0 = A 0 → cZ Q.1 cp' → okQ B K Q → potA Q.1 cp' + R ≤ mc' → potA Q.1 cp' + R ≤ ms' → rec mc' ms' (A 0 0) μ out (v4 + 6) Sn) : gK S (A 0 0) = 7 ∧ (∃ k271 n272, k271 ≤ mc ∧ n272 ≤ ms ∧ (wp_X5_digest (fun r269 S270 => gK S270 μ = 8 ∧ (wp_X6_digest (fun r274 S275 => ((lg_cmp r269 r274) = (0 : Int32) → wb_L_law_1275 xs Ln post rec (mc - k271) (ms - n272) (A 0 0) μ out v4 S275) ∧ (¬ ((lg_cmp r269 r274) = (0 : Int32)) → post (0 : Int32) S275)) μ S270)) (fun _ _ => False) k271 n272 (A 0 0) S)) := by
  refine ⟨hj.1.1.1.1, 0, 0, Nat.zero_le _, Nat.zero_le _, C_digest (P := T0 P) (cR_T0 hj.1) (wI_T0 hw) ⟨hj.2.1.1, ?_⟩⟩
  obtain ⟨f, g, hS⟩ := hj.2.2.1
  have key : wp_X6_digest (fun r274 S275 => ((lg_cmp (dgP (T0 P)) r274) = (0 : Int32) → wb_L_law_1275 xs Ln post rec (mc - 0) (ms - 0) (A 0 0) μ out v4 S275) ∧ (¬ ((lg_cmp (dgP (T0 P)) r274) = (0 : Int32)) → post (0 : Int32) S275)) μ (mW μ r S (mX P.1 f g)) := by
    refine M_digest hj.2.1 hw (fun f' g' => ?_)
    have hgo : wb_L_law_1275 xs Ln post rec (mc - 0) (ms - 0) (A 0 0) μ out v4 (mW μ r S (mX (T0 P).1 f' g')) := IH (T0 P) cp A _ (mc - 0) (ms - 0) (j_same hj f' g') rfl hcz (okT0 hw hX) (by show potA P.1 cp + R ≤ mc; omega) (by show potA P.1 cp + R ≤ ms; omega)
    exact ⟨fun _ => hgo, fun q => absurd ((lg_cmp_eq _ _).mpr rfl) q⟩
  rw [hS] at key
  exact key
end LAWLOOP2
