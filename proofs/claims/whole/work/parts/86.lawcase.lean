section LAWLOOP
variable {μ : Nat} {r : Nat → Nat}
theorem case_addStation {S : bS} {A : Nat → Nat → Nat} {cp : Nat → Nat} {P : pP} {out B K : Nat} (hj : jS S A cp P μ r out) (hcz : cZ P.1 cp) (hB : B + 600 < 2 ^ 31) (hK : K + 886001 < 2 ^ 31) (hw : wI B K P.1 P.2) (hX : iX P.1 P.2) {xs : Nat → Int32} {Ln : Nat} {post : Int32 → bS → Prop} {rec : Nat → Nat → Nat → Nat → Nat → Int32 → bS → Prop} {mc ms R : Nat} {v4 : Int32} (hmc : potA P.1 cp + 20 + R ≤ mc) (hms : potA P.1 cp + 20 + R ≤ ms) (IH : ∀ (Q : pP) (cp' : Nat → Nat) (A' : Nat → Nat → Nat) (Sn : bS) (mc' ms' : Nat), jS Sn A' cp' Q μ r out → A' 0 = A 0 → cZ Q.1 cp' → okQ B K Q → potA Q.1 cp' + R ≤ mc' → potA Q.1 cp' + R ≤ ms' → rec mc' ms' (A 0 0) μ out (v4 + 6) Sn) {x1 x2 : Int32} (h1 : vp_in (v4 + (1 : Int32)) Ln) (h2 : vp_in (v4 + (2 : Int32)) Ln) : ∃ k k', k ≤ mc ∧ k' ≤ ms ∧ (wp_L_addStation (fun r21 S22 => vp_in (v4 + (1 : Int32)) Ln ∧ (vp_in (v4 + (2 : Int32)) Ln ∧ (gK S22 μ = 8 ∧ (∃ k30 n31, k30 ≤ (mc - k) ∧ n31 ≤ (ms - k') ∧ (wp_X6_addStation (fun r28 S29 => gK S29 μ = 8 ∧ (wp_X6_thrown (fun r33 S34 => (r33 = r21 → (r21 ≠ (0 : Int32) → wb_L_law_189 xs Ln post rec ((mc - k) - k30) ((ms - k') - n31) (A 0 0) μ out v4 S34) ∧ (r21 = (0 : Int32) → gK S34 out = 13 ∧ (vp_in (0 : Int32) (gN S34 out) ∧ (((lg_cmp (gL S34 out (Int32.toNatClampNeg (0 : Int32))) (Int32.toInt64 r28)) = (0 : Int32) → wb_L_law_189 xs Ln post rec ((mc - k) - k30) ((ms - k') - n31) (A 0 0) μ out v4 S34) ∧ (¬ ((lg_cmp (gL S34 out (Int32.toNatClampNeg (0 : Int32))) (Int32.toInt64 r28)) = (0 : Int32)) → post (0 : Int32) S34))))) ∧ (¬ (r33 = r21) → post (0 : Int32) S34)) μ S29)) k30 n31 μ x1 x2 S22))))) k k' (A 0 0) x1 x2 out S) := by
  obtain ⟨cp', hL⟩ := (L_addStation hw x1 x2 : ∃ cp', cQz P cp cp' (qAddStation P x1 x2) (fun post MC MS out A S => wp_L_addStation post MC MS (A 0 0) x1 x2 out S))
  have hq := ok_addStation hw hX x1 x2
  have hz := hL.2.1 hcz
  have hle := hL.1
  generalize hk : potA P.1 cp - potA (qAddStation P x1 x2).2.1 cp' + 6 = k
  refine ⟨k, k, by omega, by omega, ?_⟩
  rw [← hk]
  refine op_gen (wL := fun post MC MS out A S => wp_L_addStation post MC MS (A 0 0) x1 x2 out S) (wM := fun po X => wp_X6_addStation po 8 8 μ x1 x2 X) (go := fun Sn => wb_L_law_189 xs Ln post rec ((mc - k) - 8) ((ms - k) - 8) (A 0 0) μ out v4 Sn) (post := post) hj hcz hL (fun X hM f g po h => M_addStation hM hw (by decide) (by decide) h) (fun Sn A' hjn a0 => ?_) (fun r21 S22 hh => ?_)
  · exact IH _ cp' A' Sn _ _ hjn a0 hz hq (by omega) (by omega)
  · rw [hk]
    exact ⟨h1, h2, hh.1, 8, 8, by omega, by omega, hh.2⟩
theorem case_addTube {S : bS} {A : Nat → Nat → Nat} {cp : Nat → Nat} {P : pP} {out B K : Nat} (hj : jS S A cp P μ r out) (hcz : cZ P.1 cp) (hB : B + 600 < 2 ^ 31) (hK : K + 886001 < 2 ^ 31) (hw : wI B K P.1 P.2) (hX : iX P.1 P.2) {xs : Nat → Int32} {Ln : Nat} {post : Int32 → bS → Prop} {rec : Nat → Nat → Nat → Nat → Nat → Int32 → bS → Prop} {mc ms R : Nat} {v4 : Int32} (hmc : potA P.1 cp + 20 + R ≤ mc) (hms : potA P.1 cp + 20 + R ≤ ms) (IH : ∀ (Q : pP) (cp' : Nat → Nat) (A' : Nat → Nat → Nat) (Sn : bS) (mc' ms' : Nat), jS Sn A' cp' Q μ r out → A' 0 = A 0 → cZ Q.1 cp' → okQ B K Q → potA Q.1 cp' + R ≤ mc' → potA Q.1 cp' + R ≤ ms' → rec mc' ms' (A 0 0) μ out (v4 + 6) Sn) {x1 x2 x3 x4 x5 : Int32} (h1 : vp_in (v4 + (1 : Int32)) Ln) (h2 : vp_in (v4 + (2 : Int32)) Ln) (h3 : vp_in (v4 + (3 : Int32)) Ln) (h4 : vp_in (v4 + (4 : Int32)) Ln) (h5 : vp_in (v4 + (5 : Int32)) Ln) : ∃ k k', k ≤ mc ∧ k' ≤ ms ∧ (wp_L_addTube (fun r21 S22 => vp_in (v4 + (1 : Int32)) Ln ∧ (vp_in (v4 + (2 : Int32)) Ln ∧ (vp_in (v4 + (3 : Int32)) Ln ∧ (vp_in (v4 + (4 : Int32)) Ln ∧ (vp_in (v4 + (5 : Int32)) Ln ∧ (gK S22 μ = 8 ∧ (∃ k30 n31, k30 ≤ (mc - k) ∧ n31 ≤ (ms - k') ∧ (wp_X6_addTube (fun r28 S29 => gK S29 μ = 8 ∧ (wp_X6_thrown (fun r33 S34 => (r33 = r21 → (r21 ≠ (0 : Int32) → wb_L_law_293 xs Ln post rec ((mc - k) - k30) ((ms - k') - n31) (A 0 0) μ out v4 S34) ∧ (r21 = (0 : Int32) → gK S34 out = 13 ∧ (vp_in (0 : Int32) (gN S34 out) ∧ (((lg_cmp (gL S34 out (Int32.toNatClampNeg (0 : Int32))) (Int32.toInt64 r28)) = (0 : Int32) → wb_L_law_293 xs Ln post rec ((mc - k) - k30) ((ms - k') - n31) (A 0 0) μ out v4 S34) ∧ (¬ ((lg_cmp (gL S34 out (Int32.toNatClampNeg (0 : Int32))) (Int32.toInt64 r28)) = (0 : Int32)) → post (0 : Int32) S34))))) ∧ (¬ (r33 = r21) → post (0 : Int32) S34)) μ S29)) k30 n31 μ x1 x2 x3 x4 x5 S22)))))))) k k' (A 0 0) x1 x2 x3 x4 x5 out S) := by
  obtain ⟨cp', hL⟩ := (L_addTube hw x1 x2 x3 x4 x5 : ∃ cp', cQz P cp cp' (qAddTube P x1 x2 x3 x4 x5) (fun post MC MS out A S => wp_L_addTube post MC MS (A 0 0) x1 x2 x3 x4 x5 out S))
  have hq := ok_addTube hw hX x1 x2 x3 x4 x5
  have hz := hL.2.1 hcz
  have hle := hL.1
  generalize hk : potA P.1 cp - potA (qAddTube P x1 x2 x3 x4 x5).2.1 cp' + 6 = k
  refine ⟨k, k, by omega, by omega, ?_⟩
  rw [← hk]
  refine op_gen (wL := fun post MC MS out A S => wp_L_addTube post MC MS (A 0 0) x1 x2 x3 x4 x5 out S) (wM := fun po X => wp_X6_addTube po 8 8 μ x1 x2 x3 x4 x5 X) (go := fun Sn => wb_L_law_293 xs Ln post rec ((mc - k) - 8) ((ms - k) - 8) (A 0 0) μ out v4 Sn) (post := post) hj hcz hL (fun X hM f g po h => M_addTube hM hw (by decide) (by decide) h) (fun Sn A' hjn a0 => ?_) (fun r21 S22 hh => ?_)
  · exact IH _ cp' A' Sn _ _ hjn a0 hz hq (by omega) (by omega)
  · rw [hk]
    exact ⟨h1, h2, h3, h4, h5, hh.1, 8, 8, by omega, by omega, hh.2⟩
theorem case_turn {S : bS} {A : Nat → Nat → Nat} {cp : Nat → Nat} {P : pP} {out B K : Nat} (hj : jS S A cp P μ r out) (hcz : cZ P.1 cp) (hB : B + 600 < 2 ^ 31) (hK : K + 886001 < 2 ^ 31) (hw : wI B K P.1 P.2) (hX : iX P.1 P.2) {xs : Nat → Int32} {Ln : Nat} {post : Int32 → bS → Prop} {rec : Nat → Nat → Nat → Nat → Nat → Int32 → bS → Prop} {mc ms R : Nat} {v4 : Int32} (hmc : potA P.1 cp + 20 + R ≤ mc) (hms : potA P.1 cp + 20 + R ≤ ms) (IH : ∀ (Q : pP) (cp' : Nat → Nat) (A' : Nat → Nat → Nat) (Sn : bS) (mc' ms' : Nat), jS Sn A' cp' Q μ r out → A' 0 = A 0 → cZ Q.1 cp' → okQ B K Q → potA Q.1 cp' + R ≤ mc' → potA Q.1 cp' + R ≤ ms' → rec mc' ms' (A 0 0) μ out (v4 + 6) Sn) {x1 x2 : Int32} (h1 : vp_in (v4 + (1 : Int32)) Ln) (h2 : vp_in (v4 + (2 : Int32)) Ln) : ∃ k k', k ≤ mc ∧ k' ≤ ms ∧ (wp_L_turn (fun r21 S22 => vp_in (v4 + (1 : Int32)) Ln ∧ (vp_in (v4 + (2 : Int32)) Ln ∧ (gK S22 μ = 8 ∧ (wp_X6_turn (fun r28 S29 => gK S29 μ = 8 ∧ (wp_X6_thrown (fun r33 S34 => (r33 = r21 → (r21 ≠ (0 : Int32) → wb_L_law_361 xs Ln post rec (mc - k) (ms - k') (A 0 0) μ out v4 S34) ∧ (r21 = (0 : Int32) → gK S34 out = 13 ∧ (vp_in (0 : Int32) (gN S34 out) ∧ (((lg_cmp (gL S34 out (Int32.toNatClampNeg (0 : Int32))) (Int32.toInt64 r28)) = (0 : Int32) → wb_L_law_361 xs Ln post rec (mc - k) (ms - k') (A 0 0) μ out v4 S34) ∧ (¬ ((lg_cmp (gL S34 out (Int32.toNatClampNeg (0 : Int32))) (Int32.toInt64 r28)) = (0 : Int32)) → post (0 : Int32) S34))))) ∧ (¬ (r33 = r21) → post (0 : Int32) S34)) μ S29)) μ x1 x2 S22)))) k k' (A 0 0) x1 x2 out S) := by
  obtain ⟨cp', hL⟩ := (cQ_z (L_turn hw x1 x2) : ∃ cp', cQz P cp cp' (qTurn P x1 x2) (fun post MC MS out A S => wp_L_turn post MC MS (A 0 0) x1 x2 out S))
  have hq := ok_turn hw hX x1 x2
  have hz := hL.2.1 hcz
  have hle := hL.1
  generalize hk : potA P.1 cp - potA (qTurn P x1 x2).2.1 cp' + 6 = k
  refine ⟨k, k, by omega, by omega, ?_⟩
  rw [← hk]
  refine op_gen (wL := fun post MC MS out A S => wp_L_turn post MC MS (A 0 0) x1 x2 out S) (wM := fun po X => wp_X6_turn po μ x1 x2 X) (go := fun Sn => wb_L_law_361 xs Ln post rec (mc - k) (ms - k) (A 0 0) μ out v4 Sn) (post := post) hj hcz hL (fun X hM f g po h => M_turn hM hw (fun f' g' => h X f' g' (sEx_rf X))) (fun Sn A' hjn a0 => ?_) (fun r21 S22 hh => ?_)
  · exact IH _ cp' A' Sn _ _ hjn a0 hz hq (by omega) (by omega)
  · rw [hk]
    exact ⟨h1, h2, hh.1, hh.2⟩
theorem case_addEntry {S : bS} {A : Nat → Nat → Nat} {cp : Nat → Nat} {P : pP} {out B K : Nat} (hj : jS S A cp P μ r out) (hcz : cZ P.1 cp) (hB : B + 600 < 2 ^ 31) (hK : K + 886001 < 2 ^ 31) (hw : wI B K P.1 P.2) (hX : iX P.1 P.2) {xs : Nat → Int32} {Ln : Nat} {post : Int32 → bS → Prop} {rec : Nat → Nat → Nat → Nat → Nat → Int32 → bS → Prop} {mc ms R : Nat} {v4 : Int32} (hmc : potA P.1 cp + 20 + R ≤ mc) (hms : potA P.1 cp + 20 + R ≤ ms) (IH : ∀ (Q : pP) (cp' : Nat → Nat) (A' : Nat → Nat → Nat) (Sn : bS) (mc' ms' : Nat), jS Sn A' cp' Q μ r out → A' 0 = A 0 → cZ Q.1 cp' → okQ B K Q → potA Q.1 cp' + R ≤ mc' → potA Q.1 cp' + R ≤ ms' → rec mc' ms' (A 0 0) μ out (v4 + 6) Sn) {x1 x2 x3 x4 x5 : Int32} (h1 : vp_in (v4 + (1 : Int32)) Ln) (h2 : vp_in (v4 + (2 : Int32)) Ln) (h3 : vp_in (v4 + (3 : Int32)) Ln) (h4 : vp_in (v4 + (4 : Int32)) Ln) (h5 : vp_in (v4 + (5 : Int32)) Ln) : ∃ k k', k ≤ mc ∧ k' ≤ ms ∧ (wp_L_addEntry (fun r21 S22 => vp_in (v4 + (1 : Int32)) Ln ∧ (vp_in (v4 + (2 : Int32)) Ln ∧ (vp_in (v4 + (3 : Int32)) Ln ∧ (vp_in (v4 + (4 : Int32)) Ln ∧ (vp_in (v4 + (5 : Int32)) Ln ∧ (gK S22 μ = 8 ∧ (∃ k30 n31, k30 ≤ (mc - k) ∧ n31 ≤ (ms - k') ∧ (wp_X6_addEntry (fun r28 S29 => gK S29 μ = 8 ∧ (wp_X6_thrown (fun r33 S34 => (r33 = r21 → (r21 ≠ (0 : Int32) → wb_L_law_561 xs Ln post rec ((mc - k) - k30) ((ms - k') - n31) (A 0 0) μ out v4 S34) ∧ (r21 = (0 : Int32) → gK S34 out = 13 ∧ (vp_in (0 : Int32) (gN S34 out) ∧ (((lg_cmp (gL S34 out (Int32.toNatClampNeg (0 : Int32))) (Int32.toInt64 r28)) = (0 : Int32) → wb_L_law_561 xs Ln post rec ((mc - k) - k30) ((ms - k') - n31) (A 0 0) μ out v4 S34) ∧ (¬ ((lg_cmp (gL S34 out (Int32.toNatClampNeg (0 : Int32))) (Int32.toInt64 r28)) = (0 : Int32)) → post (0 : Int32) S34))))) ∧ (¬ (r33 = r21) → post (0 : Int32) S34)) μ S29)) k30 n31 μ x1 x2 x3 x4 x5 S22)))))))) k k' (A 0 0) x1 x2 x3 x4 x5 out S) := by
  obtain ⟨cp', hL⟩ := (L_addEntry hw x1 x2 x3 x4 x5 : ∃ cp', cQz P cp cp' (qAddEntry P x1 x2 x3 x4 x5) (fun post MC MS out A S => wp_L_addEntry post MC MS (A 0 0) x1 x2 x3 x4 x5 out S))
  have hq := ok_addEntry hw hX x1 x2 x3 x4 x5
  have hz := hL.2.1 hcz
  have hle := hL.1
  generalize hk : potA P.1 cp - potA (qAddEntry P x1 x2 x3 x4 x5).2.1 cp' + 6 = k
  refine ⟨k, k, by omega, by omega, ?_⟩
  rw [← hk]
  refine op_gen (wL := fun post MC MS out A S => wp_L_addEntry post MC MS (A 0 0) x1 x2 x3 x4 x5 out S) (wM := fun po X => wp_X6_addEntry po 8 8 μ x1 x2 x3 x4 x5 X) (go := fun Sn => wb_L_law_561 xs Ln post rec ((mc - k) - 8) ((ms - k) - 8) (A 0 0) μ out v4 Sn) (post := post) hj hcz hL (fun X hM f g po h => M_addEntry hM hw (by decide) (by decide) h) (fun Sn A' hjn a0 => ?_) (fun r21 S22 hh => ?_)
  · exact IH _ cp' A' Sn _ _ hjn a0 hz hq (by omega) (by omega)
  · rw [hk]
    exact ⟨h1, h2, h3, h4, h5, hh.1, 8, 8, by omega, by omega, hh.2⟩
theorem case_send {S : bS} {A : Nat → Nat → Nat} {cp : Nat → Nat} {P : pP} {out B K : Nat} (hj : jS S A cp P μ r out) (hcz : cZ P.1 cp) (hB : B + 600 < 2 ^ 31) (hK : K + 886001 < 2 ^ 31) (hw : wI B K P.1 P.2) (hX : iX P.1 P.2) {xs : Nat → Int32} {Ln : Nat} {post : Int32 → bS → Prop} {rec : Nat → Nat → Nat → Nat → Nat → Int32 → bS → Prop} {mc ms R : Nat} {v4 : Int32} (hmc : potA P.1 cp + 20 + R ≤ mc) (hms : potA P.1 cp + 20 + R ≤ ms) (IH : ∀ (Q : pP) (cp' : Nat → Nat) (A' : Nat → Nat → Nat) (Sn : bS) (mc' ms' : Nat), jS Sn A' cp' Q μ r out → A' 0 = A 0 → cZ Q.1 cp' → okQ B K Q → potA Q.1 cp' + R ≤ mc' → potA Q.1 cp' + R ≤ ms' → rec mc' ms' (A 0 0) μ out (v4 + 6) Sn) {x1 x2 x3 : Int32} (h1 : vp_in (v4 + (1 : Int32)) Ln) (h2 : vp_in (v4 + (2 : Int32)) Ln) (h3 : vp_in (v4 + (3 : Int32)) Ln) : ∃ k k', k ≤ mc ∧ k' ≤ ms ∧ (wp_L_send (fun r21 S22 => vp_in (v4 + (1 : Int32)) Ln ∧ (vp_in (v4 + (2 : Int32)) Ln ∧ (vp_in (v4 + (3 : Int32)) Ln ∧ (gK S22 μ = 8 ∧ (wp_X6_send (fun r28 S29 => gK S29 μ = 8 ∧ (wp_X6_thrown (fun r33 S34 => (r33 = r21 → (r21 ≠ (0 : Int32) → wb_L_law_641 xs Ln post rec (mc - k) (ms - k') (A 0 0) μ out v4 S34) ∧ (r21 = (0 : Int32) → gK S34 out = 13 ∧ (vp_in (0 : Int32) (gN S34 out) ∧ (((lg_cmp (gL S34 out (Int32.toNatClampNeg (0 : Int32))) (Int32.toInt64 r28)) = (0 : Int32) → wb_L_law_641 xs Ln post rec (mc - k) (ms - k') (A 0 0) μ out v4 S34) ∧ (¬ ((lg_cmp (gL S34 out (Int32.toNatClampNeg (0 : Int32))) (Int32.toInt64 r28)) = (0 : Int32)) → post (0 : Int32) S34))))) ∧ (¬ (r33 = r21) → post (0 : Int32) S34)) μ S29)) μ x1 x2 x3 S22))))) k k' (A 0 0) x1 x2 x3 out S) := by
  obtain ⟨cp', hL⟩ := (cQ_z (L_send hw x1 x2 x3) : ∃ cp', cQz P cp cp' (qSend P x1 x2 x3) (fun post MC MS out A S => wp_L_send post MC MS (A 0 0) x1 x2 x3 out S))
  have hq := ok_send (by omega) hw hX x1 x2 x3
  have hz := hL.2.1 hcz
  have hle := hL.1
  generalize hk : potA P.1 cp - potA (qSend P x1 x2 x3).2.1 cp' + 6 = k
  refine ⟨k, k, by omega, by omega, ?_⟩
  rw [← hk]
  refine op_gen (wL := fun post MC MS out A S => wp_L_send post MC MS (A 0 0) x1 x2 x3 out S) (wM := fun po X => wp_X6_send po μ x1 x2 x3 X) (go := fun Sn => wb_L_law_641 xs Ln post rec (mc - k) (ms - k) (A 0 0) μ out v4 Sn) (post := post) hj hcz hL (fun X hM f g po h => M_send hM hw (fun f' g' => h X f' g' (sEx_rf X))) (fun Sn A' hjn a0 => ?_) (fun r21 S22 hh => ?_)
  · exact IH _ cp' A' Sn _ _ hjn a0 hz hq (by omega) (by omega)
  · rw [hk]
    exact ⟨h1, h2, h3, hh.1, hh.2⟩
theorem case_run {S : bS} {A : Nat → Nat → Nat} {cp : Nat → Nat} {P : pP} {out B K : Nat} (hj : jS S A cp P μ r out) (hcz : cZ P.1 cp) (hB : B + 600 < 2 ^ 31) (hK : K + 886001 < 2 ^ 31) (hw : wI B K P.1 P.2) (hX : iX P.1 P.2) {xs : Nat → Int32} {Ln : Nat} {post : Int32 → bS → Prop} {rec : Nat → Nat → Nat → Nat → Nat → Int32 → bS → Prop} {mc ms R : Nat} {v4 : Int32} (hmc : potA P.1 cp + 20 + R ≤ mc) (hms : potA P.1 cp + 20 + R ≤ ms) (IH : ∀ (Q : pP) (cp' : Nat → Nat) (A' : Nat → Nat → Nat) (Sn : bS) (mc' ms' : Nat), jS Sn A' cp' Q μ r out → A' 0 = A 0 → cZ Q.1 cp' → okQ B K Q → potA Q.1 cp' + R ≤ mc' → potA Q.1 cp' + R ≤ ms' → rec mc' ms' (A 0 0) μ out (v4 + 6) Sn) {x1 : Int32} (h1 : vp_in (v4 + (1 : Int32)) Ln) : ∃ k k', k ≤ mc ∧ k' ≤ ms ∧ (wp_L_run (fun r21 S22 => vp_in (v4 + (1 : Int32)) Ln ∧ (gK S22 μ = 8 ∧ (wp_X6_run (fun r28 S29 => gK S29 μ = 8 ∧ (wp_X6_thrown (fun r33 S34 => (r33 = r21 → (r21 ≠ (0 : Int32) → wb_L_law_697 xs Ln post rec (mc - k) (ms - k') (A 0 0) μ out v4 S34) ∧ (r21 = (0 : Int32) → gK S34 out = 13 ∧ (vp_in (0 : Int32) (gN S34 out) ∧ (((lg_cmp (gL S34 out (Int32.toNatClampNeg (0 : Int32))) (Int32.toInt64 r28)) = (0 : Int32) → wb_L_law_697 xs Ln post rec (mc - k) (ms - k') (A 0 0) μ out v4 S34) ∧ (¬ ((lg_cmp (gL S34 out (Int32.toNatClampNeg (0 : Int32))) (Int32.toInt64 r28)) = (0 : Int32)) → post (0 : Int32) S34))))) ∧ (¬ (r33 = r21) → post (0 : Int32) S34)) μ S29)) μ x1 S22))) k k' (A 0 0) x1 out S) := by
  obtain ⟨cp', hL⟩ := (cQ_z (L_run (by omega) (by omega) hw hX x1) : ∃ cp', cQz P cp cp' (qRun P x1) (fun post MC MS out A S => wp_L_run post MC MS (A 0 0) x1 out S))
  have hq := ok_run (by omega) (by omega) hw hX x1
  have hz := hL.2.1 hcz
  have hle := hL.1
  generalize hk : potA P.1 cp - potA (qRun P x1).2.1 cp' + 6 = k
  refine ⟨k, k, by omega, by omega, ?_⟩
  rw [← hk]
  refine op_gen (wL := fun post MC MS out A S => wp_L_run post MC MS (A 0 0) x1 out S) (wM := fun po X => wp_X6_run po μ x1 X) (go := fun Sn => wb_L_law_697 xs Ln post rec (mc - k) (ms - k) (A 0 0) μ out v4 Sn) (post := post) hj hcz hL (fun X hM f g po h => M_runP hM (by omega) (by omega) hw (fun f' g' => h X f' g' (sEx_rf X))) (fun Sn A' hjn a0 => ?_) (fun r21 S22 hh => ?_)
  · exact IH _ cp' A' Sn _ _ hjn a0 hz hq (by omega) (by omega)
  · rw [hk]
    exact ⟨h1, hh.1, hh.2⟩
theorem case_carrier {S : bS} {A : Nat → Nat → Nat} {cp : Nat → Nat} {P : pP} {out B K : Nat} (hj : jS S A cp P μ r out) (hcz : cZ P.1 cp) (hB : B + 600 < 2 ^ 31) (hK : K + 886001 < 2 ^ 31) (hw : wI B K P.1 P.2) (hX : iX P.1 P.2) {xs : Nat → Int32} {Ln : Nat} {post : Int32 → bS → Prop} {rec : Nat → Nat → Nat → Nat → Nat → Int32 → bS → Prop} {mc ms R : Nat} {v4 : Int32} (hmc : potA P.1 cp + 20 + R ≤ mc) (hms : potA P.1 cp + 20 + R ≤ ms) (IH : ∀ (Q : pP) (cp' : Nat → Nat) (A' : Nat → Nat → Nat) (Sn : bS) (mc' ms' : Nat), jS Sn A' cp' Q μ r out → A' 0 = A 0 → cZ Q.1 cp' → okQ B K Q → potA Q.1 cp' + R ≤ mc' → potA Q.1 cp' + R ≤ ms' → rec mc' ms' (A 0 0) μ out (v4 + 6) Sn) {x1 x2 : Int32} (h1 : vp_in (v4 + (1 : Int32)) Ln) (h2 : vp_in (v4 + (2 : Int32)) Ln) : ∃ k k', k ≤ mc ∧ k' ≤ ms ∧ (wp_L_carrier (fun r21 S22 => vp_in (v4 + (1 : Int32)) Ln ∧ (vp_in (v4 + (2 : Int32)) Ln ∧ (gK S22 μ = 8 ∧ (wp_X6_carrier (fun r28 S29 => gK S29 μ = 8 ∧ (wp_X6_thrown (fun r33 S34 => (r33 = r21 → (r21 ≠ (0 : Int32) → wb_L_law_765 xs Ln post rec (mc - k) (ms - k') (A 0 0) μ out v4 S34) ∧ (r21 = (0 : Int32) → gK S34 out = 13 ∧ (vp_in (0 : Int32) (gN S34 out) ∧ (((lg_cmp (gL S34 out (Int32.toNatClampNeg (0 : Int32))) (Int32.toInt64 r28)) = (0 : Int32) → wb_L_law_765 xs Ln post rec (mc - k) (ms - k') (A 0 0) μ out v4 S34) ∧ (¬ ((lg_cmp (gL S34 out (Int32.toNatClampNeg (0 : Int32))) (Int32.toInt64 r28)) = (0 : Int32)) → post (0 : Int32) S34))))) ∧ (¬ (r33 = r21) → post (0 : Int32) S34)) μ S29)) μ x1 x2 S22)))) k k' (A 0 0) x1 x2 out S) := by
  obtain ⟨cp', hL⟩ := (cQ_z (L_carrier hw x1 x2) : ∃ cp', cQz P cp cp' (qCarrier P x1 x2) (fun post MC MS out A S => wp_L_carrier post MC MS (A 0 0) x1 x2 out S))
  have hq := ok_carrier hw hX x1 x2
  have hz := hL.2.1 hcz
  have hle := hL.1
  generalize hk : potA P.1 cp - potA (qCarrier P x1 x2).2.1 cp' + 6 = k
  refine ⟨k, k, by omega, by omega, ?_⟩
  rw [← hk]
  refine op_gen (wL := fun post MC MS out A S => wp_L_carrier post MC MS (A 0 0) x1 x2 out S) (wM := fun po X => wp_X6_carrier po μ x1 x2 X) (go := fun Sn => wb_L_law_765 xs Ln post rec (mc - k) (ms - k) (A 0 0) μ out v4 Sn) (post := post) hj hcz hL (fun X hM f g po h => M_carrier hM hw (fun f' g' => h X f' g' (sEx_rf X))) (fun Sn A' hjn a0 => ?_) (fun r21 S22 hh => ?_)
  · exact IH _ cp' A' Sn _ _ hjn a0 hz hq (by omega) (by omega)
  · rw [hk]
    exact ⟨h1, h2, hh.1, hh.2⟩
theorem case_count {S : bS} {A : Nat → Nat → Nat} {cp : Nat → Nat} {P : pP} {out B K : Nat} (hj : jS S A cp P μ r out) (hcz : cZ P.1 cp) (hB : B + 600 < 2 ^ 31) (hK : K + 886001 < 2 ^ 31) (hw : wI B K P.1 P.2) (hX : iX P.1 P.2) {xs : Nat → Int32} {Ln : Nat} {post : Int32 → bS → Prop} {rec : Nat → Nat → Nat → Nat → Nat → Int32 → bS → Prop} {mc ms R : Nat} {v4 : Int32} (hmc : potA P.1 cp + 20 + R ≤ mc) (hms : potA P.1 cp + 20 + R ≤ ms) (IH : ∀ (Q : pP) (cp' : Nat → Nat) (A' : Nat → Nat → Nat) (Sn : bS) (mc' ms' : Nat), jS Sn A' cp' Q μ r out → A' 0 = A 0 → cZ Q.1 cp' → okQ B K Q → potA Q.1 cp' + R ≤ mc' → potA Q.1 cp' + R ≤ ms' → rec mc' ms' (A 0 0) μ out (v4 + 6) Sn) {x1 : Int32} (h1 : vp_in (v4 + (1 : Int32)) Ln) : ∃ k k', k ≤ mc ∧ k' ≤ ms ∧ (wp_L_count (fun r21 S22 => vp_in (v4 + (1 : Int32)) Ln ∧ (gK S22 μ = 8 ∧ (wp_X6_count (fun r28 S29 => gK S29 μ = 8 ∧ (wp_X6_thrown (fun r33 S34 => (r33 = r21 → (r21 ≠ (0 : Int32) → wb_L_law_821 xs Ln post rec (mc - k) (ms - k') (A 0 0) μ out v4 S34) ∧ (r21 = (0 : Int32) → gK S34 out = 13 ∧ (vp_in (0 : Int32) (gN S34 out) ∧ (((lg_cmp (gL S34 out (Int32.toNatClampNeg (0 : Int32))) (Int32.toInt64 r28)) = (0 : Int32) → wb_L_law_821 xs Ln post rec (mc - k) (ms - k') (A 0 0) μ out v4 S34) ∧ (¬ ((lg_cmp (gL S34 out (Int32.toNatClampNeg (0 : Int32))) (Int32.toInt64 r28)) = (0 : Int32)) → post (0 : Int32) S34))))) ∧ (¬ (r33 = r21) → post (0 : Int32) S34)) μ S29)) μ x1 S22))) k k' (A 0 0) x1 out S) := by
  obtain ⟨cp', hL⟩ := (cQ_z (L_count hw x1) : ∃ cp', cQz P cp cp' (qCount P x1) (fun post MC MS out A S => wp_L_count post MC MS (A 0 0) x1 out S))
  have hq := ok_count hw hX x1
  have hz := hL.2.1 hcz
  have hle := hL.1
  generalize hk : potA P.1 cp - potA (qCount P x1).2.1 cp' + 6 = k
  refine ⟨k, k, by omega, by omega, ?_⟩
  rw [← hk]
  refine op_gen (wL := fun post MC MS out A S => wp_L_count post MC MS (A 0 0) x1 out S) (wM := fun po X => wp_X6_count po μ x1 X) (go := fun Sn => wb_L_law_821 xs Ln post rec (mc - k) (ms - k) (A 0 0) μ out v4 Sn) (post := post) hj hcz hL (fun X hM f g po h => M_count hM hw (fun f' g' => h X f' g' (sEx_rf X))) (fun Sn A' hjn a0 => ?_) (fun r21 S22 hh => ?_)
  · exact IH _ cp' A' Sn _ _ hjn a0 hz hq (by omega) (by omega)
  · rw [hk]
    exact ⟨h1, hh.1, hh.2⟩
theorem case_station {S : bS} {A : Nat → Nat → Nat} {cp : Nat → Nat} {P : pP} {out B K : Nat} (hj : jS S A cp P μ r out) (hcz : cZ P.1 cp) (hB : B + 600 < 2 ^ 31) (hK : K + 886001 < 2 ^ 31) (hw : wI B K P.1 P.2) (hX : iX P.1 P.2) {xs : Nat → Int32} {Ln : Nat} {post : Int32 → bS → Prop} {rec : Nat → Nat → Nat → Nat → Nat → Int32 → bS → Prop} {mc ms R : Nat} {v4 : Int32} (hmc : potA P.1 cp + 20 + R ≤ mc) (hms : potA P.1 cp + 20 + R ≤ ms) (IH : ∀ (Q : pP) (cp' : Nat → Nat) (A' : Nat → Nat → Nat) (Sn : bS) (mc' ms' : Nat), jS Sn A' cp' Q μ r out → A' 0 = A 0 → cZ Q.1 cp' → okQ B K Q → potA Q.1 cp' + R ≤ mc' → potA Q.1 cp' + R ≤ ms' → rec mc' ms' (A 0 0) μ out (v4 + 6) Sn) {x1 x2 : Int32} (h1 : vp_in (v4 + (1 : Int32)) Ln) (h2 : vp_in (v4 + (2 : Int32)) Ln) : ∃ k k', k ≤ mc ∧ k' ≤ ms ∧ (wp_L_station (fun r21 S22 => vp_in (v4 + (1 : Int32)) Ln ∧ (vp_in (v4 + (2 : Int32)) Ln ∧ (gK S22 μ = 8 ∧ (wp_X6_station (fun r28 S29 => gK S29 μ = 8 ∧ (wp_X6_thrown (fun r33 S34 => (r33 = r21 → (r21 ≠ (0 : Int32) → wb_L_law_889 xs Ln post rec (mc - k) (ms - k') (A 0 0) μ out v4 S34) ∧ (r21 = (0 : Int32) → gK S34 out = 13 ∧ (vp_in (0 : Int32) (gN S34 out) ∧ (((lg_cmp (gL S34 out (Int32.toNatClampNeg (0 : Int32))) (Int32.toInt64 r28)) = (0 : Int32) → wb_L_law_889 xs Ln post rec (mc - k) (ms - k') (A 0 0) μ out v4 S34) ∧ (¬ ((lg_cmp (gL S34 out (Int32.toNatClampNeg (0 : Int32))) (Int32.toInt64 r28)) = (0 : Int32)) → post (0 : Int32) S34))))) ∧ (¬ (r33 = r21) → post (0 : Int32) S34)) μ S29)) μ x1 x2 S22)))) k k' (A 0 0) x1 x2 out S) := by
  obtain ⟨cp', hL⟩ := (cQ_z (L_station hw x1 x2) : ∃ cp', cQz P cp cp' (qStation P x1 x2) (fun post MC MS out A S => wp_L_station post MC MS (A 0 0) x1 x2 out S))
  have hq := ok_station hw hX x1 x2
  have hz := hL.2.1 hcz
  have hle := hL.1
  generalize hk : potA P.1 cp - potA (qStation P x1 x2).2.1 cp' + 6 = k
  refine ⟨k, k, by omega, by omega, ?_⟩
  rw [← hk]
  refine op_gen (wL := fun post MC MS out A S => wp_L_station post MC MS (A 0 0) x1 x2 out S) (wM := fun po X => wp_X6_station po μ x1 x2 X) (go := fun Sn => wb_L_law_889 xs Ln post rec (mc - k) (ms - k) (A 0 0) μ out v4 Sn) (post := post) hj hcz hL (fun X hM f g po h => M_station hM hw (fun f' g' => h X f' g' (sEx_rf X))) (fun Sn A' hjn a0 => ?_) (fun r21 S22 hh => ?_)
  · exact IH _ cp' A' Sn _ _ hjn a0 hz hq (by omega) (by omega)
  · rw [hk]
    exact ⟨h1, h2, hh.1, hh.2⟩
theorem case_tube {S : bS} {A : Nat → Nat → Nat} {cp : Nat → Nat} {P : pP} {out B K : Nat} (hj : jS S A cp P μ r out) (hcz : cZ P.1 cp) (hB : B + 600 < 2 ^ 31) (hK : K + 886001 < 2 ^ 31) (hw : wI B K P.1 P.2) (hX : iX P.1 P.2) {xs : Nat → Int32} {Ln : Nat} {post : Int32 → bS → Prop} {rec : Nat → Nat → Nat → Nat → Nat → Int32 → bS → Prop} {mc ms R : Nat} {v4 : Int32} (hmc : potA P.1 cp + 20 + R ≤ mc) (hms : potA P.1 cp + 20 + R ≤ ms) (IH : ∀ (Q : pP) (cp' : Nat → Nat) (A' : Nat → Nat → Nat) (Sn : bS) (mc' ms' : Nat), jS Sn A' cp' Q μ r out → A' 0 = A 0 → cZ Q.1 cp' → okQ B K Q → potA Q.1 cp' + R ≤ mc' → potA Q.1 cp' + R ≤ ms' → rec mc' ms' (A 0 0) μ out (v4 + 6) Sn) {x1 x2 : Int32} (h1 : vp_in (v4 + (1 : Int32)) Ln) (h2 : vp_in (v4 + (2 : Int32)) Ln) : ∃ k k', k ≤ mc ∧ k' ≤ ms ∧ (wp_L_tube (fun r21 S22 => vp_in (v4 + (1 : Int32)) Ln ∧ (vp_in (v4 + (2 : Int32)) Ln ∧ (gK S22 μ = 8 ∧ (wp_X6_tube (fun r28 S29 => gK S29 μ = 8 ∧ (wp_X6_thrown (fun r33 S34 => (r33 = r21 → (r21 ≠ (0 : Int32) → wb_L_law_957 xs Ln post rec (mc - k) (ms - k') (A 0 0) μ out v4 S34) ∧ (r21 = (0 : Int32) → gK S34 out = 13 ∧ (vp_in (0 : Int32) (gN S34 out) ∧ (((lg_cmp (gL S34 out (Int32.toNatClampNeg (0 : Int32))) (Int32.toInt64 r28)) = (0 : Int32) → wb_L_law_957 xs Ln post rec (mc - k) (ms - k') (A 0 0) μ out v4 S34) ∧ (¬ ((lg_cmp (gL S34 out (Int32.toNatClampNeg (0 : Int32))) (Int32.toInt64 r28)) = (0 : Int32)) → post (0 : Int32) S34))))) ∧ (¬ (r33 = r21) → post (0 : Int32) S34)) μ S29)) μ x1 x2 S22)))) k k' (A 0 0) x1 x2 out S) := by
  obtain ⟨cp', hL⟩ := (cQ_z (L_tube hw x1 x2) : ∃ cp', cQz P cp cp' (qTube P x1 x2) (fun post MC MS out A S => wp_L_tube post MC MS (A 0 0) x1 x2 out S))
  have hq := ok_tube hw hX x1 x2
  have hz := hL.2.1 hcz
  have hle := hL.1
  generalize hk : potA P.1 cp - potA (qTube P x1 x2).2.1 cp' + 6 = k
  refine ⟨k, k, by omega, by omega, ?_⟩
  rw [← hk]
  refine op_gen (wL := fun post MC MS out A S => wp_L_tube post MC MS (A 0 0) x1 x2 out S) (wM := fun po X => wp_X6_tube po μ x1 x2 X) (go := fun Sn => wb_L_law_957 xs Ln post rec (mc - k) (ms - k) (A 0 0) μ out v4 Sn) (post := post) hj hcz hL (fun X hM f g po h => M_tube hM hw (fun f' g' => h X f' g' (sEx_rf X))) (fun Sn A' hjn a0 => ?_) (fun r21 S22 hh => ?_)
  · exact IH _ cp' A' Sn _ _ hjn a0 hz hq (by omega) (by omega)
  · rw [hk]
    exact ⟨h1, h2, hh.1, hh.2⟩
theorem case_there {S : bS} {A : Nat → Nat → Nat} {cp : Nat → Nat} {P : pP} {out B K : Nat} (hj : jS S A cp P μ r out) (hcz : cZ P.1 cp) (hB : B + 600 < 2 ^ 31) (hK : K + 886001 < 2 ^ 31) (hw : wI B K P.1 P.2) (hX : iX P.1 P.2) {xs : Nat → Int32} {Ln : Nat} {post : Int32 → bS → Prop} {rec : Nat → Nat → Nat → Nat → Nat → Int32 → bS → Prop} {mc ms R : Nat} {v4 : Int32} (hmc : potA P.1 cp + 20 + R ≤ mc) (hms : potA P.1 cp + 20 + R ≤ ms) (IH : ∀ (Q : pP) (cp' : Nat → Nat) (A' : Nat → Nat → Nat) (Sn : bS) (mc' ms' : Nat), jS Sn A' cp' Q μ r out → A' 0 = A 0 → cZ Q.1 cp' → okQ B K Q → potA Q.1 cp' + R ≤ mc' → potA Q.1 cp' + R ≤ ms' → rec mc' ms' (A 0 0) μ out (v4 + 6) Sn) {x1 x2 : Int32} (h1 : vp_in (v4 + (1 : Int32)) Ln) (h2 : vp_in (v4 + (2 : Int32)) Ln) : ∃ k k', k ≤ mc ∧ k' ≤ ms ∧ (wp_L_there (fun r21 S22 => vp_in (v4 + (1 : Int32)) Ln ∧ (vp_in (v4 + (2 : Int32)) Ln ∧ (gK S22 μ = 8 ∧ (wp_X6_there (fun r28 S29 => gK S29 μ = 8 ∧ (wp_X6_thrown (fun r33 S34 => (r33 = r21 → (r21 ≠ (0 : Int32) → wb_L_law_1025 xs Ln post rec (mc - k) (ms - k') (A 0 0) μ out v4 S34) ∧ (r21 = (0 : Int32) → gK S34 out = 13 ∧ (vp_in (0 : Int32) (gN S34 out) ∧ (((lg_cmp (gL S34 out (Int32.toNatClampNeg (0 : Int32))) (Int32.toInt64 r28)) = (0 : Int32) → wb_L_law_1025 xs Ln post rec (mc - k) (ms - k') (A 0 0) μ out v4 S34) ∧ (¬ ((lg_cmp (gL S34 out (Int32.toNatClampNeg (0 : Int32))) (Int32.toInt64 r28)) = (0 : Int32)) → post (0 : Int32) S34))))) ∧ (¬ (r33 = r21) → post (0 : Int32) S34)) μ S29)) μ x1 x2 S22)))) k k' (A 0 0) x1 x2 out S) := by
  obtain ⟨cp', hL⟩ := (cQ_z (L_there hw x1 x2) : ∃ cp', cQz P cp cp' (qThere P x1 x2) (fun post MC MS out A S => wp_L_there post MC MS (A 0 0) x1 x2 out S))
  have hq := ok_there hw hX x1 x2
  have hz := hL.2.1 hcz
  have hle := hL.1
  generalize hk : potA P.1 cp - potA (qThere P x1 x2).2.1 cp' + 6 = k
  refine ⟨k, k, by omega, by omega, ?_⟩
  rw [← hk]
  refine op_gen (wL := fun post MC MS out A S => wp_L_there post MC MS (A 0 0) x1 x2 out S) (wM := fun po X => wp_X6_there po μ x1 x2 X) (go := fun Sn => wb_L_law_1025 xs Ln post rec (mc - k) (ms - k) (A 0 0) μ out v4 Sn) (post := post) hj hcz hL (fun X hM f g po h => M_there hM hw (fun f' g' => h X f' g' (sEx_rf X))) (fun Sn A' hjn a0 => ?_) (fun r21 S22 hh => ?_)
  · exact IH _ cp' A' Sn _ _ hjn a0 hz hq (by omega) (by omega)
  · rw [hk]
    exact ⟨h1, h2, hh.1, hh.2⟩
theorem case_time {S : bS} {A : Nat → Nat → Nat} {cp : Nat → Nat} {P : pP} {out B K : Nat} (hj : jS S A cp P μ r out) (hcz : cZ P.1 cp) (hB : B + 600 < 2 ^ 31) (hK : K + 886001 < 2 ^ 31) (hw : wI B K P.1 P.2) (hX : iX P.1 P.2) {xs : Nat → Int32} {Ln : Nat} {post : Int32 → bS → Prop} {rec : Nat → Nat → Nat → Nat → Nat → Int32 → bS → Prop} {mc ms R : Nat} {v4 : Int32} (hmc : potA P.1 cp + 20 + R ≤ mc) (hms : potA P.1 cp + 20 + R ≤ ms) (IH : ∀ (Q : pP) (cp' : Nat → Nat) (A' : Nat → Nat → Nat) (Sn : bS) (mc' ms' : Nat), jS Sn A' cp' Q μ r out → A' 0 = A 0 → cZ Q.1 cp' → okQ B K Q → potA Q.1 cp' + R ≤ mc' → potA Q.1 cp' + R ≤ ms' → rec mc' ms' (A 0 0) μ out (v4 + 6) Sn) {x1 x2 : Int32} (h1 : vp_in (v4 + (1 : Int32)) Ln) (h2 : vp_in (v4 + (2 : Int32)) Ln) : ∃ k k', k ≤ mc ∧ k' ≤ ms ∧ (wp_L_time (fun r21 S22 => vp_in (v4 + (1 : Int32)) Ln ∧ (vp_in (v4 + (2 : Int32)) Ln ∧ (gK S22 μ = 8 ∧ (wp_X6_time (fun r28 S29 => gK S29 μ = 8 ∧ (wp_X6_thrown (fun r33 S34 => (r33 = r21 → (r21 ≠ (0 : Int32) → wb_L_law_1093 xs Ln post rec (mc - k) (ms - k') (A 0 0) μ out v4 S34) ∧ (r21 = (0 : Int32) → gK S34 out = 13 ∧ (vp_in (0 : Int32) (gN S34 out) ∧ (((lg_cmp (gL S34 out (Int32.toNatClampNeg (0 : Int32))) (Int32.toInt64 r28)) = (0 : Int32) → wb_L_law_1093 xs Ln post rec (mc - k) (ms - k') (A 0 0) μ out v4 S34) ∧ (¬ ((lg_cmp (gL S34 out (Int32.toNatClampNeg (0 : Int32))) (Int32.toInt64 r28)) = (0 : Int32)) → post (0 : Int32) S34))))) ∧ (¬ (r33 = r21) → post (0 : Int32) S34)) μ S29)) μ x1 x2 S22)))) k k' (A 0 0) x1 x2 out S) := by
  obtain ⟨cp', hL⟩ := (cQ_z (L_time hw x1 x2) : ∃ cp', cQz P cp cp' (qTime P x1 x2) (fun post MC MS out A S => wp_L_time post MC MS (A 0 0) x1 x2 out S))
  have hq := ok_time hw hX x1 x2
  have hz := hL.2.1 hcz
  have hle := hL.1
  generalize hk : potA P.1 cp - potA (qTime P x1 x2).2.1 cp' + 6 = k
  refine ⟨k, k, by omega, by omega, ?_⟩
  rw [← hk]
  refine op_gen (wL := fun post MC MS out A S => wp_L_time post MC MS (A 0 0) x1 x2 out S) (wM := fun po X => wp_X6_time po μ x1 x2 X) (go := fun Sn => wb_L_law_1093 xs Ln post rec (mc - k) (ms - k) (A 0 0) μ out v4 Sn) (post := post) hj hcz hL (fun X hM f g po h => M_time hM hw (fun f' g' => h X f' g' (sEx_rf X))) (fun Sn A' hjn a0 => ?_) (fun r21 S22 hh => ?_)
  · exact IH _ cp' A' Sn _ _ hjn a0 hz hq (by omega) (by omega)
  · rw [hk]
    exact ⟨h1, h2, hh.1, hh.2⟩
theorem case_next {S : bS} {A : Nat → Nat → Nat} {cp : Nat → Nat} {P : pP} {out B K : Nat} (hj : jS S A cp P μ r out) (hcz : cZ P.1 cp) (hB : B + 600 < 2 ^ 31) (hK : K + 886001 < 2 ^ 31) (hw : wI B K P.1 P.2) (hX : iX P.1 P.2) {xs : Nat → Int32} {Ln : Nat} {post : Int32 → bS → Prop} {rec : Nat → Nat → Nat → Nat → Nat → Int32 → bS → Prop} {mc ms R : Nat} {v4 : Int32} (hmc : potA P.1 cp + 20 + R ≤ mc) (hms : potA P.1 cp + 20 + R ≤ ms) (IH : ∀ (Q : pP) (cp' : Nat → Nat) (A' : Nat → Nat → Nat) (Sn : bS) (mc' ms' : Nat), jS Sn A' cp' Q μ r out → A' 0 = A 0 → cZ Q.1 cp' → okQ B K Q → potA Q.1 cp' + R ≤ mc' → potA Q.1 cp' + R ≤ ms' → rec mc' ms' (A 0 0) μ out (v4 + 6) Sn) {x1 x2 : Int32} (h1 : vp_in (v4 + (1 : Int32)) Ln) (h2 : vp_in (v4 + (2 : Int32)) Ln) : ∃ k k', k ≤ mc ∧ k' ≤ ms ∧ (wp_L_next (fun r21 S22 => vp_in (v4 + (1 : Int32)) Ln ∧ (vp_in (v4 + (2 : Int32)) Ln ∧ (gK S22 μ = 8 ∧ (wp_X6_next (fun r28 S29 => gK S29 μ = 8 ∧ (wp_X6_thrown (fun r33 S34 => (r33 = r21 → (r21 ≠ (0 : Int32) → wb_L_law_1161 xs Ln post rec (mc - k) (ms - k') (A 0 0) μ out v4 S34) ∧ (r21 = (0 : Int32) → gK S34 out = 13 ∧ (vp_in (0 : Int32) (gN S34 out) ∧ (((lg_cmp (gL S34 out (Int32.toNatClampNeg (0 : Int32))) (Int32.toInt64 r28)) = (0 : Int32) → wb_L_law_1161 xs Ln post rec (mc - k) (ms - k') (A 0 0) μ out v4 S34) ∧ (¬ ((lg_cmp (gL S34 out (Int32.toNatClampNeg (0 : Int32))) (Int32.toInt64 r28)) = (0 : Int32)) → post (0 : Int32) S34))))) ∧ (¬ (r33 = r21) → post (0 : Int32) S34)) μ S29)) μ x1 x2 S22)))) k k' (A 0 0) x1 x2 out S) := by
  obtain ⟨cp', hL⟩ := (cQ_z (L_next hw x1 x2) : ∃ cp', cQz P cp cp' (qNext P x1 x2) (fun post MC MS out A S => wp_L_next post MC MS (A 0 0) x1 x2 out S))
  have hq := ok_next hw hX x1 x2
  have hz := hL.2.1 hcz
  have hle := hL.1
  generalize hk : potA P.1 cp - potA (qNext P x1 x2).2.1 cp' + 6 = k
  refine ⟨k, k, by omega, by omega, ?_⟩
  rw [← hk]
  refine op_gen (wL := fun post MC MS out A S => wp_L_next post MC MS (A 0 0) x1 x2 out S) (wM := fun po X => wp_X6_next po μ x1 x2 X) (go := fun Sn => wb_L_law_1161 xs Ln post rec (mc - k) (ms - k) (A 0 0) μ out v4 Sn) (post := post) hj hcz hL (fun X hM f g po h => M_next hM hw (fun f' g' => h X f' g' (sEx_rf X))) (fun Sn A' hjn a0 => ?_) (fun r21 S22 hh => ?_)
  · exact IH _ cp' A' Sn _ _ hjn a0 hz hq (by omega) (by omega)
  · rw [hk]
    exact ⟨h1, h2, hh.1, hh.2⟩
theorem case_parts {S : bS} {A : Nat → Nat → Nat} {cp : Nat → Nat} {P : pP} {out B K : Nat} (hj : jS S A cp P μ r out) (hcz : cZ P.1 cp) (hB : B + 600 < 2 ^ 31) (hK : K + 886001 < 2 ^ 31) (hw : wI B K P.1 P.2) (hX : iX P.1 P.2) {xs : Nat → Int32} {Ln : Nat} {post : Int32 → bS → Prop} {rec : Nat → Nat → Nat → Nat → Nat → Int32 → bS → Prop} {mc ms R : Nat} {v4 : Int32} (hmc : potA P.1 cp + 20 + R ≤ mc) (hms : potA P.1 cp + 20 + R ≤ ms) (IH : ∀ (Q : pP) (cp' : Nat → Nat) (A' : Nat → Nat → Nat) (Sn : bS) (mc' ms' : Nat), jS Sn A' cp' Q μ r out → A' 0 = A 0 → cZ Q.1 cp' → okQ B K Q → potA Q.1 cp' + R ≤ mc' → potA Q.1 cp' + R ≤ ms' → rec mc' ms' (A 0 0) μ out (v4 + 6) Sn) {x1 : Int32} (h1 : vp_in (v4 + (1 : Int32)) Ln) : ∃ k k', k ≤ mc ∧ k' ≤ ms ∧ (wp_L_parts (fun r21 S22 => vp_in (v4 + (1 : Int32)) Ln ∧ (gK S22 μ = 8 ∧ (wp_X6_parts (fun r28 S29 => gK S29 μ = 8 ∧ (wp_X6_thrown (fun r33 S34 => (r33 = r21 → (r21 ≠ (0 : Int32) → wb_L_law_1217 xs Ln post rec (mc - k) (ms - k') (A 0 0) μ out v4 S34) ∧ (r21 = (0 : Int32) → gK S34 out = 13 ∧ (vp_in (0 : Int32) (gN S34 out) ∧ (((lg_cmp (gL S34 out (Int32.toNatClampNeg (0 : Int32))) (Int32.toInt64 r28)) = (0 : Int32) → wb_L_law_1217 xs Ln post rec (mc - k) (ms - k') (A 0 0) μ out v4 S34) ∧ (¬ ((lg_cmp (gL S34 out (Int32.toNatClampNeg (0 : Int32))) (Int32.toInt64 r28)) = (0 : Int32)) → post (0 : Int32) S34))))) ∧ (¬ (r33 = r21) → post (0 : Int32) S34)) μ S29)) μ x1 S22))) k k' (A 0 0) x1 out S) := by
  obtain ⟨cp', hL⟩ := (cQ_z (L_parts hw x1) : ∃ cp', cQz P cp cp' (qParts P x1) (fun post MC MS out A S => wp_L_parts post MC MS (A 0 0) x1 out S))
  have hq := ok_parts hw hX x1
  have hz := hL.2.1 hcz
  have hle := hL.1
  generalize hk : potA P.1 cp - potA (qParts P x1).2.1 cp' + 6 = k
  refine ⟨k, k, by omega, by omega, ?_⟩
  rw [← hk]
  refine op_gen (wL := fun post MC MS out A S => wp_L_parts post MC MS (A 0 0) x1 out S) (wM := fun po X => wp_X6_parts po μ x1 X) (go := fun Sn => wb_L_law_1217 xs Ln post rec (mc - k) (ms - k) (A 0 0) μ out v4 Sn) (post := post) hj hcz hL (fun X hM f g po h => M_parts hM hw (fun f' g' => h X f' g' (sEx_rf X))) (fun Sn A' hjn a0 => ?_) (fun r21 S22 hh => ?_)
  · exact IH _ cp' A' Sn _ _ hjn a0 hz hq (by omega) (by omega)
  · rw [hk]
    exact ⟨h1, hh.1, hh.2⟩
end LAWLOOP
