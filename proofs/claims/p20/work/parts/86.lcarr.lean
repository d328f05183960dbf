/-! ===== the law's loops: the carriers ===== -/
theorem cR_9 {S : bS} {A : Nat → Nat → Nat} {cp : Nat → Nat} {P : pP} (h : cR S A cp P) {a j : Nat} {v : Int32} (ha : ∀ k, k < nS P.1 → A 6 k ≠ a) : cR (sV S 9 a j v) A cp P := by
  obtain ⟨⟨hP, hNt, hAr, hSt, hTb, hCa, hEn, hIn, hTm⟩, hL⟩ := h
  refine ⟨⟨hP, hNt, hAr, hSt, hTb, hCa, hEn, hIn, fun k hk => ?_⟩, hL⟩
  rcases hTm k hk with x | ⟨x1, x2⟩
  · exact Or.inl x
  · refine Or.inr ⟨x1, fun w hw => ?_⟩
    rw [gV_sV, if_neg (fun q => ha k hk q.2.1)]
    exact x2 w hw
theorem cR_10 {S : bS} {A : Nat → Nat → Nat} {cp : Nat → Nat} {P : pP} (h : cR S A cp P) {a j : Nat} {v : Int32} : cR (sV S 10 a j v) A cp P := by
  obtain ⟨⟨hP, hNt, hAr, hSt, hTb, hCa, hEn, hIn, hTm⟩, hL⟩ := h
  exact ⟨⟨hP, hNt, hAr, hSt, hTb, hCa, hEn, hIn, hTm⟩, hL⟩
/-- a row of counts -/
def cA (S : bS) (v n : Nat) (f : Nat → Nat) : Prop := gK S v = 9 ∧ gN S v = n ∧ ∀ i, i < n → gV S 9 v i = nI (f i)
theorem cA_ext {S : bS} {v n : Nat} {f g : Nat → Nat} (h : cA S v n f) (e : ∀ i, i < n → g i = f i) : cA S v n g := ⟨h.1, h.2.1, fun i hi => by rw [e i hi]; exact h.2.2 i hi⟩
theorem cA_off {S : bS} {v n a j : Nat} {f : Nat → Nat} {x : Int32} (h : cA S v n f) (ha : v ≠ a) : cA (sV S 9 a j x) v n f := ⟨h.1, h.2.1, fun i hi => by rw [gV_sV, if_neg (fun q => ha q.2.1)]; exact h.2.2 i hi⟩
theorem cA_10 {S : bS} {v n a j : Nat} {f : Nat → Nat} {x : Int32} (h : cA S v n f) : cA (sV S 10 a j x) v n f := ⟨h.1, h.2.1, h.2.2⟩
theorem cA_up {S : bS} {v n k : Nat} {f : Nat → Nat} (h : cA S v n f) (hk : k < n) : cA (sV S 9 v k (gV S 9 v k + 1)) v n (fun i => f i + if i = k then 1 else 0) := by
  refine ⟨h.1, h.2.1, fun i hi => ?_⟩
  show gV (sV S 9 v k (gV S 9 v k + 1)) 9 v i = nI (f i + if i = k then 1 else 0)
  by_cases q : i = k
  · rw [gV_sV, if_pos ⟨rfl, rfl, q⟩, h.2.2 k hk, if_pos q, q, nI_1]
  · rw [gV_sV, if_neg (fun e => q e.2.2), if_neg q]
    exact h.2.2 i hi
/-- the rows of marks: what is marked is so -/
def eA (S : bS) (v n m : Nat) (bE : Nat → Nat) (E : Nat → Nat → Prop) : Prop := gK S v = 17 ∧ gN S v = n ∧ ∀ t, t < n → gQ S 17 v t = some (bE t) ∧ gK S (bE t) = 10 ∧ gN S (bE t) = m ∧ ∀ j, gV S 10 (bE t) j ≠ 0 → E t j
theorem eA_mono {S : bS} {v n m : Nat} {bE : Nat → Nat} {E E' : Nat → Nat → Prop} (h : eA S v n m bE E) (e : ∀ t j, E t j → E' t j) : eA S v n m bE E' := ⟨h.1, h.2.1, fun t ht => ⟨(h.2.2 t ht).1, (h.2.2 t ht).2.1, (h.2.2 t ht).2.2.1, fun j hj => e t j ((h.2.2 t ht).2.2.2 j hj)⟩⟩
theorem eA_9 {S : bS} {v n m a j : Nat} {bE : Nat → Nat} {E : Nat → Nat → Prop} {x : Int32} (h : eA S v n m bE E) : eA (sV S 9 a j x) v n m bE E := ⟨h.1, h.2.1, h.2.2⟩
theorem eA_up {S : bS} {v n m k j0 : Nat} {bE : Nat → Nat} {E : Nat → Nat → Prop} {x : Int32} (h : eA S v n m bE E) (hk : k < n) (hi : ∀ i j, i < n → j < n → bE i = bE j → i = j) (he : E k j0) : eA (sV S 10 (bE k) j0 x) v n m bE E := by
  refine ⟨h.1, h.2.1, fun t ht => ⟨(h.2.2 t ht).1, (h.2.2 t ht).2.1, (h.2.2 t ht).2.2.1, fun j hj => ?_⟩⟩
  by_cases q : bE t = bE k ∧ j = j0
  · rw [hi t k ht hk q.1, q.2]
    exact he
  · rw [gV_sV, if_neg (fun e => q e.2)] at hj
    exact (h.2.2 t ht).2.2.2 j hj
/-- who was sent from where, and the least times -/
def lS (S : bS) (P : pP) (F : Nat → Nat) (v5 v6 : Nat) (bL : Nat → Nat) : Prop := (gK S v6 = 9 ∧ gN S v6 = 500 ∧ ∀ d, d < nC P.1 → gV S 9 v6 d = nI (F d)) ∧ gK S v5 = 12 ∧ gN S v5 = nS P.1 ∧ ∀ s, s < nS P.1 → gQ S 12 v5 s = some (bL s) ∧ gK S (bL s) = 9 ∧ gN S (bL s) = nS P.1 ∧ ∀ a, a < nS P.1 → gV S 9 (bL s) a = oN (dD P.1 a s)
theorem lS_off {S : bS} {P : pP} {F : Nat → Nat} {v5 v6 a j : Nat} {bL : Nat → Nat} {x : Int32} (h : lS S P F v5 v6 bL) (h6 : v6 ≠ a) (hL : ∀ s, s < nS P.1 → bL s ≠ a) : lS (sV S 9 a j x) P F v5 v6 bL := by
  obtain ⟨⟨a1, a2, a3⟩, b1, b2, b3⟩ := h
  refine ⟨⟨a1, a2, fun d hd => ?_⟩, b1, b2, fun s hs => ?_⟩
  · rw [gV_sV, if_neg (fun q => h6 q.2.1)]
    exact a3 d hd
  · obtain ⟨c1, c2, c3, c4⟩ := b3 s hs
    refine ⟨c1, c2, c3, fun i hi => ?_⟩
    rw [gV_sV, if_neg (fun q => hL s hs q.2.1)]
    exact c4 i hi
theorem lS_10 {S : bS} {P : pP} {F : Nat → Nat} {v5 v6 a j : Nat} {bL : Nat → Nat} {x : Int32} (h : lS S P F v5 v6 bL) : lS (sV S 10 a j x) P F v5 v6 bL := ⟨⟨h.1.1, h.1.2.1, h.1.2.2⟩, h.2.1, h.2.2.1, h.2.2.2⟩
/-- the addresses of the law's own rows, apart from all that stays -/
def ap3 (A : Nat → Nat → Nat) (M : Nat → Nat → Int32) (v6 : Nat) (bL : Nat → Nat) (v : Nat) : Prop := v6 ≠ v ∧ (∀ s, s < nS M → bL s ≠ v) ∧ ∀ k, k < nS M → A 6 k ≠ v
/-- what was marked so far -/
def mkE (M : Nat → Nat → Int32) (c t j : Nat) : Prop := ∃ d, d < c ∧ M 4 (9 * d + 0) = 2 ∧ M 4 (9 * d + 1) = nI t ∧ tauM M d = j
/-- the law's rows after c carriers -/
def lT (S : bS) (P : pP) (v13 v14 v15 v17 : Nat) (bE : Nat → Nat) (c : Nat) : Prop := cA S v13 (nS P.1) (fun s => cnt (atS P.1 (nI s)) c) ∧ cA S v14 (nT P.1) (fun t => cnt (inT P.1 (nI t)) c) ∧ cA S v15 (nS P.1) (fun s => cnt (dlB P.1 s) c) ∧ eA S v17 (nT P.1) (u (P.1 0 1) + 1) bE (mkE P.1 c)
theorem cnt_s (p : Nat → Bool) (c : Nat) : cnt p (c + 1) = cnt p c + if p c = true then 1 else 0 := rfl
theorem cnt_no {p : Nat → Bool} {c : Nat} (h : p c = false) : cnt p (c + 1) = cnt p c := by rw [cnt_s, h]; rfl
section LCARR
variable {A : Nat → Nat → Nat} {cp : Nat → Nat} {P : pP} {B K : Nat} {mc ms : Nat} {post : Int32 → bS → Prop} {xs : Nat → Int32} {LL : Nat} {F : Nat → Nat}
theorem K_carr (hw : wI B K P.1 P.2) (hj : jI P.1 P.2 F) (hB : B < 2 ^ 30) (hKb : K < 2 ^ 30) {rec105 : Nat → Nat → Nat → Int32 → Int32 → Nat → Nat → Int32 → Int32 → Int32 → bS → Prop} {v5 v6 v13 v14 v15 v17 : Nat} {bL bE : Nat → Nat} (d34 : v13 ≠ v14) (d35 : v13 ≠ v15) (d45 : v14 ≠ v15) (a3 : ap3 A P.1 v6 bL v13) (a4 : ap3 A P.1 v6 bL v14) (a5 : ap3 A P.1 v6 bL v15) (hbE : ∀ i j, i < nT P.1 → j < nT P.1 → bE i = bE j → i = j) (K0 : Nat → Nat) (hgo : ∀ S', gK S' = K0 → cR S' A cp P → lS S' P F v5 v6 bL → rec105 mc ms (A 0 0) (nI (nS P.1)) (nI (nT P.1)) v5 v6 (nI (nC P.1)) (P.1 0 6) (P.1 0 1 + 1) S') : ∀ (n c : Nat) (S : bS), c + n = nC P.1 → gK S = K0 → cR S A cp P → lS S P F v5 v6 bL → lT S P v13 v14 v15 v17 bE c → wb_L_law_309 xs LL post rec105 (n + 1) mc ms (A 0 0) (nI (nS P.1)) (nI (nT P.1)) v5 v6 (nI (nC P.1)) (P.1 0 6) (P.1 0 1) v13 v14 v15 (smT P.1 c) v17 (nI c) S := by
  have h14 := hw.1.1.2
  have h30 := hw.1.2.1.2
  have h500 := hw.1.2.2.2.2
  intro n
  induction n with
  | zero =>
    intro c S hc hK0 h hS hT
    have hc' : c = nC P.1 := by omega
    subst hc'
    obtain ⟨⟨t1, t2, t3⟩, ⟨u1, u2, u3⟩, ⟨w1, w2, w3⟩, -⟩ := hT
    unfold wb_L_law_309
    refine ⟨fun _ => ⟨nS P.1 + 1, ?_⟩, fun q => absurd (nI_le (Nat.le_refl _) (by omega)) q⟩
    rw [← hj.2.2.2.2.1]
    exact K_stats h hw hj (by omega) (by omega) t1 t2 (fun s hs => by rw [t3 s hs, at_cnt hw hj (by omega)]) u1 u2 (fun t ht => by rw [u3 t ht, in_cnt hw hj (by omega)]) w1 w2 (fun s hs => by rw [w3 s hs, hj.2.2.2.1 s hs]) (hgo S hK0 h hS) (nS P.1) 0 (by omega)
  | succ n ih =>
    intro c S hc hK0 h hS hT
    have hcn : c < nC P.1 := by omega
    have tcc : Int32.toNatClampNeg (nI c) = c := u_nI (by omega)
    obtain ⟨⟨f1, f2⟩, ⟨⟨n1, n2⟩, n3, n4⟩, sj, mj⟩ := hj.1 c hcn
    obtain ⟨c2, c2S, c5, c5t, t1, tB⟩ := w_c hw hcn
    have hst : P.1 4 (9 * c + 0) = 1 ∨ P.1 4 (9 * c + 0) = 2 ∨ P.1 4 (9 * c + 0) = 3 := by
      rcases sj with x | x | x
      · exact Or.inl x.1
      · exact Or.inr (Or.inl x.1)
      · exact Or.inr (Or.inr x.1)
    unfold wb_L_law_309
    refine ⟨fun q => absurd q (nI_ge hcn (by omega)), fun _ => ⟨h.1.1.1, 0, 0, Nat.zero_le _, Nat.zero_le _, D_carrier h hw (k := 0) rfl hcn rfl (by decide) ⟨h.1.1.1, 0, 0, Nat.zero_le _, Nat.zero_le _, D_carrier h hw (k := 1) rfl hcn rfl (by decide) ⟨h.1.1.1, 0, 0, Nat.zero_le _, Nat.zero_le _, D_carrier h hw (k := 5) rfl hcn rfl (by decide) ⟨fun q => absurd q ?_, fun _ => ⟨fun q => absurd q ?_, fun _ => ⟨h.1.1.1, 0, 0, Nat.zero_le _, Nat.zero_le _, D_carrier h hw (k := 4) rfl hcn rfl (by decide) ⟨fun q => absurd q ?_, fun _ => ⟨fun _ => ⟨fun hne => ?_, fun h1 => ?_⟩, fun q => absurd ?_ q⟩⟩⟩⟩⟩⟩⟩⟩⟩
    · rcases hst with e | e | e <;> rw [e] <;> decide
    · rcases hst with e | e | e <;> rw [e] <;> decide
    · rw [c5, n1]
      exact nI_nlt n2 (by omega)
    · obtain ⟨q3, q4, q5, q7⟩ := hT
      rcases sj with ⟨e, -⟩ | ⟨e, t, ht, et, k1, k8, -⟩ | ⟨e, ea, x, hx, hle⟩
      · exact absurd e hne
      · -- in a tube
        have tct : Int32.toNatClampNeg (nI t) = t := u_nI (by omega)
        have tcu : Int32.toNatClampNeg (nI (tauM P.1 c)) = tauM P.1 c := u_nI (by omega)
        have hvt : vp_in (nI t) (nT P.1) := vp_in_nI ht (by omega)
        have hcm := in_mem hw hj (by omega) hcn e et
        obtain ⟨r1, r2, r3, r4⟩ := q7.2.2 t ht
        have hvu : vp_in (nI (tauM P.1 c)) (u (P.1 0 1) + 1) := vp_in_nI (by omega) (by omega)
        have es : smT P.1 (c + 1) = smT P.1 c := by
          show smT P.1 c + (if P.1 4 (9 * c + 0) = 3 then _ else 0) = _
          rw [if_neg (by rw [e]; decide), Int32.add_zero]
        have h' : cR (sV S 9 v14 t (gV S 9 v14 t + 1)) A cp P := cR_9 h a4.2.2
        have free : gV S 10 (bE t) (tauM P.1 c) = 0 := by
          by_cases q : gV S 10 (bE t) (tauM P.1 c) = 0
          · exact q
          · obtain ⟨d, dc, d0, d1, dt⟩ := r4 _ q
            have dm := in_mem hw hj (by omega) (by omega) d0 d1
            exact absurd dt (in_dist hj ht dm hcm (by omega))
        have done := ih (c + 1) (sV (sV S 9 v14 t (gV S 9 v14 t + 1)) 10 (bE t) (tauM P.1 c) (vp_nar .boolean (1 : Int32))) (by omega) hK0 (cR_10 h') (lS_10 (lS_off hS a4.1 a4.2.1)) ⟨cA_10 (cA_off (cA_ext q3 (fun s hs => cnt_no (by unfold atS; rw [e]; rfl))) d34), cA_10 (cA_ext (cA_up q4 ht) (fun i hi => ?_)), cA_10 (cA_off (cA_ext q5 (fun s hs => cnt_no (by unfold dlB; rw [e]; rfl))) d45.symm), eA_up (eA_9 (eA_mono q7 (fun t j x => by obtain ⟨d, x1, x2⟩ := x; exact ⟨d, by omega, x2⟩))) ht hbE ⟨c, by omega, e, et, rfl⟩⟩
        · rw [es, ← nI_1] at done
          unfold wb_L_law_391
          rw [e, et, c5, tct, tcu]
          refine ⟨fun q => absurd rfl q, fun _ => ⟨q4.1, (by rw [q4.2.1]; exact hvt), (by rw [q4.2.1]; exact hvt), q7.1, (by show vp_in _ (gN S v17); rw [q7.2.1]; exact hvt), _, r1, r2, (by show vp_in _ (gN S (bE t)); rw [r3]; exact hvu), fun _ => ⟨(by show vp_in _ (gN S v17); rw [q7.2.1]; exact hvt), _, r1, r2, (by show vp_in _ (gN S (bE t)); rw [r3]; exact hvu), h'.1.1.1, 0, 0, Nat.zero_le _, Nat.zero_le _, D_carrier (cR_10 h') hw (k := 6) rfl hcn rfl (by decide) ⟨fun _ => ?_, fun q => absurd ?_ q⟩⟩, fun q => absurd free q⟩⟩
          · unfold wb_L_law_442 wb_L_law_533
            exact ⟨fun q => absurd q (by decide), fun _ => done⟩
          · rw [n3]
            have h8 := (w_8 hw).2
            exact nI_le (a := 1) k1 (by omega)
        · rw [cnt_s]
          congr 1
          by_cases q : i = t
          · rw [if_pos (inT_iff.mpr ⟨e, by rw [et, q]⟩), if_pos q]
          · rw [if_neg (fun z => q ?_), if_neg q]
            have := (inT_iff.mp z).2
            rw [et] at this
            exact ((nI_eq (by omega) (by omega)).mp this).symm
      · -- delivered
        have tca : Int32.toNatClampNeg (nI (aimM P.1 c)) = aimM P.1 c := u_nI (by omega)
        have hva : vp_in (nI (aimM P.1 c)) (nS P.1) := vp_in_nI c2S (by omega)
        have hvF : vp_in (nI (F c)) (nS P.1) := vp_in_nI f1 (by omega)
        have hxb := dR_bound hw.1 hw.2.1 hw.2.2.1 (aim := aimM P.1 c) (by decide) _ x hx
        have es : smT P.1 (c + 1) = smT P.1 c + (P.1 4 (9 * c + 5) - P.1 4 (9 * c + 4)) := by
          show smT P.1 c + (if P.1 4 (9 * c + 0) = 3 then _ else 0) = _
          rw [if_pos e]
        have h' : cR (sV S 9 v15 (aimM P.1 c) (gV S 9 v15 (aimM P.1 c) + 1)) A cp P := cR_9 h a5.2.2
        have hS' := lS_off (j := aimM P.1 c) (x := gV S 9 v15 (aimM P.1 c) + 1) hS a5.1 a5.2.1
        have done := ih (c + 1) (sV S 9 v15 (aimM P.1 c) (gV S 9 v15 (aimM P.1 c) + 1)) (by omega) hK0 h' hS' ⟨cA_off (cA_ext q3 (fun s hs => cnt_no (by unfold atS; rw [e]; rfl))) d35, cA_off (cA_ext q4 (fun s hs => cnt_no (by unfold inT; rw [e]; rfl))) d45, cA_ext (cA_up q5 c2S) (fun i hi => ?_), eA_9 (eA_mono q7 (fun t j x => by obtain ⟨d, x1, x2⟩ := x; exact ⟨d, by omega, x2⟩))⟩
        · rw [es, ← nI_1] at done
          obtain ⟨⟨s1, s2, s3⟩, s4, s5, s6⟩ := hS'
          obtain ⟨l1, l2, l3, l4⟩ := s6 (F c) f1
          have eF := s3 c hcn
          unfold wb_L_law_391
          refine ⟨fun _ => ?_, fun q => absurd (q.symm.trans e) (by decide)⟩
          unfold wb_L_law_442
          rw [e, ea, tca]
          refine ⟨fun _ => ⟨q5.1, (by rw [q5.2.1]; exact hva), (by rw [q5.2.1]; exact hva), h'.1.1.1, 0, 0, Nat.zero_le _, Nat.zero_le _, D_carrier h' hw (k := 4) rfl hcn rfl (by decide) ?_⟩, fun q => absurd (by decide) q⟩
          rw [tcc, eF]
          refine ⟨s1, (by rw [s2]; exact vp_in_nI (by omega) (by decide)), s4, (by rw [s5]; exact hvF), bL (F c), (by rw [show Int32.toNatClampNeg (nI (F c)) = F c from u_nI (by omega)]; exact l1), l2, (by rw [l3]; exact hva), h'.1.1.1, 0, 0, Nat.zero_le _, Nat.zero_le _, D_carrier h' hw (k := 2) rfl hcn rfl (by decide) ⟨fun q => absurd c2.symm q, fun _ => ⟨fun q => absurd q ?_, fun _ => ⟨h'.1.1.1, 0, 0, Nat.zero_le _, Nat.zero_le _, D_carrier h' hw (k := 4) rfl hcn rfl (by decide) ⟨s1, (by rw [s2]; exact vp_in_nI (by omega) (by decide)), h'.1.1.1, 0, 0, Nat.zero_le _, Nat.zero_le _, D_station h' hw (s := F c) (k := 1) eF f1 rfl (by decide) ⟨fun _ => ?_, fun q => absurd ?_ q⟩⟩⟩⟩⟩⟩
          · rw [l4 _ c2S, hx]
            exact nI_pos (by omega)
          · unfold wb_L_law_533
            exact done
          · rw [l4 _ c2S, hx, c5, n1, pk_sub n2]
            have hh := (hw.2.2.1 (F c) f1).2.1
            show nI x + P.1 1 (9 * F c + 1) ≤ _
            rw [hh.1, nI_add]
            have hle : hnd P.1 (F c) + x + sgM P.1 c ≤ tauM P.1 c := hle
            exact nI_le (by show x + hnd P.1 (F c) ≤ _; omega) (by omega)
        · rw [cnt_s]
          congr 1
          by_cases q : i = aimM P.1 c
          · rw [if_pos (by unfold dlB; rw [e, ea, q]; simp), if_pos q]
          · rw [if_neg (fun z => q ?_), if_neg q]
            unfold dlB at z
            simp only [Bool.and_eq_true, decide_eq_true_eq] at z
            have := z.2
            rw [ea] at this
            exact ((nI_eq (by omega) (by omega)).mp this).symm
    · obtain ⟨q3, q4, q5, q7⟩ := hT
      rcases sj with ⟨e, s, hs, es0, -⟩ | ⟨e, -⟩ | ⟨e, -⟩
      · have tcs : Int32.toNatClampNeg (nI s) = s := u_nI (by omega)
        have hvs : vp_in (nI s) (nS P.1) := vp_in_nI hs (by omega)
        have es : smT P.1 (c + 1) = smT P.1 c := by
          show smT P.1 c + (if P.1 4 (9 * c + 0) = 3 then _ else 0) = _
          rw [if_neg (by rw [e]; decide), Int32.add_zero]
        have done := ih (c + 1) (sV S 9 v13 s (gV S 9 v13 s + 1)) (by omega) hK0 (cR_9 h a3.2.2) (lS_off hS a3.1 a3.2.1) ⟨cA_ext (cA_up q3 hs) (fun i hi => ?_), cA_off (cA_ext q4 (fun s hs => cnt_no (by unfold inT; rw [e]; rfl))) d34.symm, cA_off (cA_ext q5 (fun s hs => cnt_no (by unfold dlB; rw [e]; rfl))) d35.symm, eA_9 (eA_mono q7 (fun t j x => by obtain ⟨d, x1, x2⟩ := x; exact ⟨d, by omega, x2⟩))⟩
        · rw [es, ← nI_1] at done
          rw [e, es0, tcs]
          refine ⟨q3.1, (by rw [q3.2.1]; exact hvs), (by rw [q3.2.1]; exact hvs), ?_⟩
          unfold wb_L_law_391 wb_L_law_442 wb_L_law_533
          exact ⟨fun _ => ⟨fun q => absurd q (by decide), fun _ => done⟩, fun q => absurd q (by decide)⟩
        · rw [cnt_s]
          congr 1
          by_cases q : i = s
          · rw [if_pos (atS_iff.mpr ⟨e, by rw [es0, q]⟩), if_pos q]
          · rw [if_neg (fun z => q ?_), if_neg q]
            have := (atS_iff.mp z).2
            rw [es0] at this
            exact ((nI_eq (by omega) (by omega)).mp this).symm
      · rw [e] at h1
        exact absurd h1 (by decide)
      · rw [e] at h1
        exact absurd h1 (by decide)
    · rw [c5, t1]
      exact nI_le c5t (by omega)
end LCARR
