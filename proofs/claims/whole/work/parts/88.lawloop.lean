section LAWL
variable {μ : Nat} {r : Nat → Nat}
set_option maxRecDepth 4000 in
theorem law_loop {xs : Nat → Int32} {Ln : Nat} (hLn : Ln ≤ 3072) {out : Nat} : ∀ (n c : Nat) (S : bS) (A : Nat → Nat → Nat) (cp : Nat → Nat) (P : pP) (mc ms : Nat), c + n = Ln / 6 → jS S A cp P μ r out → cZ P.1 cp → wI (500 * c) (886000 * c) P.1 P.2 → iX P.1 P.2 → potA P.1 cp + 20 * n ≤ mc → potA P.1 cp + 20 * n ≤ ms → wb_L_law_23 xs Ln (fun v _ => v = 1) (n + 1) mc ms (A 0 0) μ out (nI (6 * c)) S := by
  intro n
  induction n with
  | zero =>
    intro c S A cp P mc ms hc hj hcz hw hX hmc hms
    unfold wb_L_law_23
    refine ⟨fun _ => rfl, fun q => absurd ?_ q⟩
    show nI Ln - nI 6 < nI (6 * c)
    by_cases h6 : 6 ≤ Ln
    · rw [pk_sub h6]
      exact nI_lt (by omega) (by omega)
    · have hc0 : c = 0 := by omega
      subst hc0
      exact pk_sneg (by decide) (by omega)
  | succ n ih =>
    intro c S A cp P mc ms hc hj hcz hw hX hmc hms
    have hc512 : c < 512 := by omega
    have hB : 500 * c + 600 < 2 ^ 31 := by omega
    have hK : 886000 * c + 886001 < 2 ^ 31 := by omega
    have hvp : ∀ k : Nat, k < 6 → vp_in (nI (6 * c) + nI k) Ln := fun k hk => by
      rw [nI_add]
      exact vp_in_nI (by omega) (by omega)
    have h1 : vp_in (nI (6 * c) + (1 : Int32)) Ln := hvp 1 (by decide)
    have h2 : vp_in (nI (6 * c) + (2 : Int32)) Ln := hvp 2 (by decide)
    have h3 : vp_in (nI (6 * c) + (3 : Int32)) Ln := hvp 3 (by decide)
    have h4 : vp_in (nI (6 * c) + (4 : Int32)) Ln := hvp 4 (by decide)
    have h5 : vp_in (nI (6 * c) + (5 : Int32)) Ln := hvp 5 (by decide)
    have IH : ∀ (Q : pP) (cp' : Nat → Nat) (A' : Nat → Nat → Nat) (Sn : bS) (mc' ms' : Nat), jS Sn A' cp' Q μ r out → A' 0 = A 0 → cZ Q.1 cp' → okQ (500 * c) (886000 * c) Q → potA Q.1 cp' + 20 * n ≤ mc' → potA Q.1 cp' + 20 * n ≤ ms' → wb_L_law_23 xs Ln (fun v _ => v = 1) (n + 1) mc' ms' (A 0 0) μ out (nI (6 * c) + 6) Sn := by
      intro Q cp' A' Sn mc' ms' hjn a0 hz hq hm1 hm2
      have := ih (c + 1) Sn A' cp' Q mc' ms' (by omega) hjn hz (wI_mono (by omega) (by omega) hq.1) hq.2 hm1 hm2
      rw [a0, show 6 * (c + 1) = 6 * c + 6 by omega, ← nI_add] at this
      exact this
    have hmc' : potA P.1 cp + 20 + 20 * n ≤ mc := by omega
    have hms' : potA P.1 cp + 20 + 20 * n ≤ ms := by omega
    unfold wb_L_law_23
    refine ⟨fun q => absurd q ?_, fun _ => ⟨?_, ?_⟩⟩
    · show ¬ nI Ln - nI 6 < nI (6 * c)
      rw [pk_sub (by omega)]
      exact nI_nlt (by omega) (by omega)
    · exact vp_in_nI (by omega) (by omega)
    · refine ⟨fun _ => ⟨h1, h2, case_addStation hj hcz hB hK hw hX hmc' hms' IH h1 h2⟩, fun _ => ⟨h1, h2, h3, h4, h5, case_addTube hj hcz hB hK hw hX hmc' hms' IH h1 h2 h3 h4 h5⟩, fun _ => ⟨h1, h2, case_turn hj hcz hB hK hw hX hmc' hms' IH h1 h2⟩, fun _ => ⟨h1, h2, h3, fun q => case_setTube hj hcz hB hK hw hX hmc' hms' IH h1 h2 h3 rfl rfl (Or.inl ⟨q, rfl⟩), fun q => case_setTube hj hcz hB hK hw hX hmc' hms' IH h1 h2 h3 rfl rfl (Or.inr ⟨q, rfl⟩)⟩, fun _ => ⟨h1, h2, h3, h4, h5, case_addEntry hj hcz hB hK hw hX hmc' hms' IH h1 h2 h3 h4 h5⟩, fun _ => ⟨h1, h2, h3, case_send hj hcz hB hK hw hX hmc' hms' IH h1 h2 h3⟩, fun _ => ⟨h1, case_run hj hcz hB hK hw hX hmc' hms' IH h1⟩, fun _ => ⟨h1, h2, case_carrier hj hcz hB hK hw hX hmc' hms' IH h1 h2⟩, fun _ => ⟨h1, case_count hj hcz hB hK hw hX hmc' hms' IH h1⟩, fun _ => ⟨h1, h2, case_station hj hcz hB hK hw hX hmc' hms' IH h1 h2⟩, fun _ => ⟨h1, h2, case_tube hj hcz hB hK hw hX hmc' hms' IH h1 h2⟩, fun _ => ⟨h1, h2, case_there hj hcz hB hK hw hX hmc' hms' IH h1 h2⟩, fun _ => ⟨h1, h2, case_time hj hcz hB hK hw hX hmc' hms' IH h1 h2⟩, fun _ => ⟨h1, h2, case_next hj hcz hB hK hw hX hmc' hms' IH h1 h2⟩, fun _ => ⟨h1, case_parts hj hcz hB hK hw hX hmc' hms' IH h1⟩, fun _ => case_mean hj hcz hB hK hw hX hmc' hms' IH, fun _ => case_digest hj hcz hB hK hw hX hmc' hms' IH, fun _ _ _ _ _ _ _ _ _ _ _ _ _ _ _ _ _ => ?_⟩
      exact IH P cp A S mc ms hj rfl hcz ⟨wI_mono (by omega) (by omega) hw, hX⟩ (by omega) (by omega)
end LAWL
