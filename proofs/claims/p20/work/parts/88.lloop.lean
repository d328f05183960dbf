/-! ===== the law's loop over the ticks ===== -/
section LLOOP
variable {post : Int32 → bS → Prop} {xs : Nat → Int32} {LL : Nat}
set_option maxRecDepth 4000 in
theorem K_ticks (hL : LL < 2 ^ 31) (hend : ∀ S, post 1 S) {n0 T0 a0 v5 v6 : Nat} {bL : Nat → Nat} (hn2 : 0 < n0) (hn7 : n0 ≤ 7) (hT : T0 ≤ 12) : ∀ (m e : Nat) (S : bS) (A : Nat → Nat → Nat) (cp : Nat → Nat) (P : pP) (F : Nat → Nat) (mc ms : Nat), e + m = 60 → lI S A cp P F v5 v6 bL e → nS P.1 = n0 → nT P.1 = T0 → A 0 0 = a0 → potA P.1 cp + 20 * m ≤ mc → potA P.1 cp + 800 * m ≤ ms → wb_L_law_105 xs LL post (m + 1) mc ms a0 (nI n0) (nI T0) v5 v6 (nI (nC P.1)) (P.1 0 6) (nI (e + 1)) S := by
  intro m
  induction m with
  | zero =>
    intro e S A cp P F mc ms he hI hn hT' ha hc hs
    unfold wb_L_law_105
    exact ⟨fun _ => hend S, fun q => absurd (nI_lt (a := 60) (b := e + 1) (by omega) (by omega)) q⟩
  | succ m ih =>
    intro e S A cp P F mc ms he hI hn hT' ha hc hs
    subst hn
    subst hT'
    subst ha
    obtain ⟨h, hw, hX, hj, hS, ⟨ht, hcn⟩, d6, dL, dL6, hA⟩ := hI
    have again : ∀ {P' : pP} {F' : Nat → Nat} {A1 : Nat → Nat → Nat}, wI e (1773 * e + 1) P'.1 P'.2 → nE P'.1 = 0 → nS P'.1 = nS P.1 → nT P'.1 = nT P.1 → A1 0 = A 0 → ∀ cp' S' A' mc' ms', lI S' A' cp' (sTick P') F' v5 v6 bL (e + 1) → A' 0 = A1 0 → potA (sTick P').1 cp' + 20 * (m + 1) ≤ mc' + 20 → potA (sTick P').1 cp' + 800 * (m + 1) ≤ ms' + 800 → wb_L_law_105 xs LL post (m + 1) mc' ms' (A1 0 0) (nI (nS P'.1)) (nI (nT P'.1)) v5 v6 (nI (nC P'.1)) ((sTick P').1 0 6) (nI (e + 1) + 1) S' := by
      intro P' F' A1 hw' hE' en eT e1 cp' S' A' mc' ms' hI' e2 b1 b2
      have hst := sTick_sta hE'
      obtain ⟨-, t5⟩ := tick_0 (B := e) (K := 1773 * e + 1) (by omega) (by omega) hw' hE'
      have hcn : nC (sTick P').1 = nC P'.1 := by unfold nC; rw [t5]
      have := ih (e + 1) S' A' cp' (sTick P') F' mc' ms' (by omega) hI' ((sta_S hst).trans en) ((sta_T hst).trans eT) (by rw [e2, e1]) (by omega) (by omega)
      rw [en, eT, nI_1, ← hcn, e1]
      exact this
    have skip : wb_L_law_219 xs LL post (wb_L_law_105 xs LL post (m + 1)) mc ms (A 0 0) (nI (nS P.1)) (nI (nT P.1)) v5 v6 (nI (nC P.1)) (P.1 0 6) (nI (e + 1)) S := by
      have hw1 := wI_mono (B' := e) (K' := 1773 * e + 1) (Nat.le_refl _) (by omega) hw
      exact K_tick (x := 20 * (m + 1)) (y := 800 * (m + 1)) (by omega) hn7 hT h hw1 hX hj hS ht (by omega) d6 dL dL6 hA hc hs (by omega) (by omega) (again hw1 hj.2.2.2.2.2.2.1 rfl rfl rfl)
    unfold wb_L_law_105
    refine ⟨fun q => absurd q (nI_nlt (b := e + 1) (a := 60) (by omega) (by decide)), fun _ => ⟨by decide, D_cell hL (k := (e + 1) % 16) (pk_rem (a := e + 1) (d := 16) (by omega) (by decide) (by decide)) (by omega) (fun v => ⟨by decide, D_below rfl hn2 (by omega) (fun a ha => D_below rfl hn2 (by omega) (fun b hb => ⟨fun _ => skip, fun hab => ⟨h.1.1.1, 0, 0, Nat.zero_le _, Nat.zero_le _, D_station h hw (s := a) (k := 4) rfl ha rfl (by decide) ⟨h.1.1.1, 0, 0, Nat.zero_le _, Nat.zero_le _, D_station h hw (s := a) (k := 0) rfl ha rfl (by decide) ⟨fun _ => skip, fun q1 => ⟨h.1.1.1, 0, 0, Nat.zero_le _, Nat.zero_le _, D_count h hw (k := 5) rfl (by decide) ⟨fun _ => skip, fun q2 => D_below (m := 4) rfl (by decide) (by decide) (fun k hk => ?_)⟩⟩⟩⟩⟩⟩))⟩)⟩⟩
    have hne : a ≠ b := fun z => hab (by rw [z])
    have h14 := hw.1.1.2
    have hl := len_at hw (t := a) (by omega)
    have hrm := (hw.2.2.1 a ha).1
    have u14 := hw.2.2.2.2.1.2.2.1
    have hcs : canS P.1 (P.2 (1 + a)).length a := by
      refine ⟨?_, ?_, ?_⟩
      · have q1 : ¬ P.1 1 (9 * a + 0) ≤ nI (P.2 (1 + a)).length := q1
        rw [hrm.1] at q1 ⊢
        exact (nI_ltI (by omega) (by omega)).mpr (Nat.lt_of_not_le (fun z => q1 ((nI_leI (by omega) (by omega)).mpr z)))
      · have q2 : ¬ (40 : Int32) ≤ P.1 0 14 := q2
        have u40 := u14.2.1
        rw [u14.1] at q2 ⊢
        exact (nI_ltI (b := 40) (by omega) (by decide)).mpr (Nat.lt_of_not_le (fun z => q2 ((nI_leI (a := 40) (by decide) (by omega)).mpr z)))
      · rw [hw.1.2.2.2.1]
        exact (nI_ltI (b := 500) (by omega) (by decide)).mpr (by omega)
    obtain ⟨c1, c2, c3⟩ := canS_spec hw ha hcs
    obtain ⟨cp1, m1, m2, m3⟩ := D_send (cp := cp) hw ha hb hne (k := k) (by omega) hcs
    have m1' : potA (sndM P.1 a (nI b) (nI k)) cp1 ≤ potA P.1 cp := m1
    have hst := sta_snd (M := P.1) a (nI b) (nI k)
    have hw1 : wI e (1773 * e + 1) (sndM P.1 a (nI b) (nI k)) (sndL P.1 P.2 a (nI b) (nI k)) := wI_snd (by omega) hw ha hb (by omega) c1 c2 c3
    have hX1 := iX_snd (s := a) (aim := nI b) (rank := nI k) hX (by rw [u_nI (by omega)]; exact hne.symm)
    have hj1 := jI_snd hw (by omega) hj ha hb hne (k := k) c3
    have nC1 := snd_C hw.1 c3 (s := a) (aim := nI b) (rank := nI k)
    have e5 : P.1 0 5 = nI (nC P.1) := hw.1.2.2.2.1
    have e6 : (sndM P.1 a (nI b) (nI k)) 0 6 = P.1 0 6 := by simp (disch := omega) only [sndM, pM, mU_r, mU_c]
    have e1 : (sndM P.1 a (nI b) (nI k)) 0 1 = P.1 0 1 := snd_r0 _ _ _ _ _ (by decide)
    have tcC : Int32.toNatClampNeg (nI (nC P.1)) = nC P.1 := u_nI (by omega)
    refine ⟨h.1.1.1, potA P.1 cp - potA (sndM P.1 a (nI b) (nI k)) cp1, potA P.1 cp - potA (sndM P.1 a (nI b) (nI k)) cp1, by omega, by omega, m3 S A _ _ _ h ?_ ?_ (fun S1 A1 h1 a0 a6 hF => ⟨fun _ => ?_, fun q => absurd e5 q⟩)⟩
    · show potA P.1 cp ≤ _ + potA (sndM P.1 a (nI b) (nI k)) cp1
      omega
    · show potA P.1 cp ≤ _ + potA (sndM P.1 a (nI b) (nI k)) cp1
      omega
    obtain ⟨⟨f1, f2, f3⟩, g1, g2, g3⟩ := lS_cF hS hF d6 dL
    rw [tcC, show A 0 0 = A1 0 0 from (congrFun a0 0).symm, nI_1, ← nC1, ← e6]
    refine ⟨f1, by rw [f2]; exact vp_in_nI (by omega) (by decide), ?_⟩
    have h2 : cR (sV S1 9 v6 (nC P.1) (nI a)) A1 cp1 (sndM P.1 a (nI b) (nI k), sndL P.1 P.2 a (nI b) (nI k)) := cR_9 h1 (fun q _ => by rw [a6]; exact (d6 q).symm)
    have hS2 : lS (sV S1 9 v6 (nC P.1) (nI a)) (sndM P.1 a (nI b) (nI k), sndL P.1 P.2 a (nI b) (nI k)) (Fput F (nC P.1) a) v5 v6 bL := by
      refine ⟨⟨f1, f2, fun d hd => ?_⟩, g1, g2.trans (sta_S hst).symm, fun s hs => ?_⟩
      · by_cases q : d = nC P.1
        · rw [gV_sV, if_pos ⟨rfl, rfl, q⟩]
          unfold Fput
          rw [if_pos q]
        · rw [gV_sV, if_neg (fun z => q z.2.2)]
          unfold Fput
          rw [if_neg q]
          refine f3 d ?_
          have hd : d < nC (sndM P.1 a (nI b) (nI k)) := hd
          omega
      · have hs : s < nS (sndM P.1 a (nI b) (nI k)) := hs
        rw [sta_S hst] at hs
        obtain ⟨b1, b2, b3, b4⟩ := g3 s hs
        refine ⟨b1, b2, b3.trans (sta_S hst).symm, fun w hw => ?_⟩
        have hw : w < nS (sndM P.1 a (nI b) (nI k)) := hw
        rw [sta_S hst] at hw
        show gV (sV S1 9 v6 (nC P.1) (nI a)) 9 (bL s) w = oN (dD (sndM P.1 a (nI b) (nI k)) w s)
        rw [gV_sV, if_neg (fun z => dL6 s hs z.2.1), sta_dD hst]
        exact b4 w hw
    rw [← sta_S hst, ← sta_T hst]
    exact K_tick (P := (sndM P.1 a (nI b) (nI k), sndL P.1 P.2 a (nI b) (nI k))) (A := A1) (cp := cp1) (F := Fput F (nC P.1) a) (x := 20 * (m + 1)) (y := 800 * (m + 1)) (by omega) (by show nS (sndM P.1 a (nI b) (nI k)) ≤ 7; rw [sta_S hst]; exact hn7) (by show nT (sndM P.1 a (nI b) (nI k)) ≤ 12; rw [sta_T hst]; exact hT) h2 hw1 hX1 hj1 hS2 (e1.trans ht) (by show nC (sndM P.1 a (nI b) (nI k)) ≤ e + 1; omega) (fun q => by rw [a6]; exact d6 q) (fun s q hs => by rw [a6]; exact dL s q (by rw [← sta_S hst]; exact hs)) (fun s hs => dL6 s (by rw [← sta_S hst]; exact hs)) (fun q => by rw [a6]; show gK S1 (A 6 q) ≠ 0; rw [(hF.1 _ (hA q)).1]; exact hA q) (by show potA (sndM P.1 a (nI b) (nI k)) cp1 + _ ≤ _; omega) (by show potA (sndM P.1 a (nI b) (nI k)) cp1 + _ ≤ _; omega) (by omega) (by omega) (again hw1 hj1.2.2.2.2.2.2.1 (sta_S hst) (sta_T hst) a0)
end LLOOP
