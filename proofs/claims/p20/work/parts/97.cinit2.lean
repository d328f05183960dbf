/-! ===== the post's start ===== -/
theorem sEx_B {S X Y : bS} {q : Nat} (h : sEx S X) (h' : sB q X Y) (hq : gK S q = 0) : sEx S Y := by
  refine ⟨fun a ha => ?_, fun a ha => h.2 a (h'.1.2 a ha)⟩
  obtain ⟨x1, x2, x3, x4, x5⟩ := h.1 a ha
  obtain ⟨y1, y2, y3, y4, y5⟩ := h'.1.1 a (by rw [x1]; exact ha) (fun e => ha (e ▸ hq))
  exact ⟨y1.trans x1, y2.trans x2, fun κ j => (y3 κ j).trans (x3 κ j), fun κ j => (y4 κ j).trans (x4 κ j), fun j => (y5 j).trans (x5 j)⟩
/-- the addresses at the start -/
def nA (p qn q1 q7 q9 q16 : Nat) (i j : Nat) : Nat :=
  if i = 0 then (if j = 0 then p else qn)
  else if i = 5 then (if j = 0 then q1 else if j = 1 then q7 else if j = 2 then q9 else q16)
  else if i = 6 then p else 0
def M0 : Nat → Nat → Int32 := fun _ _ => 0
def L0 : Nat → List Nat := fun _ => []
theorem nS0 : nS M0 = 0 := u0
theorem nT0 : nT M0 = 0 := u0
theorem nE0 : nE M0 = 0 := u0
theorem nC0 : nC M0 = 0 := u0
theorem lvC0 {i : Nat} (h : lvC M0 i) : i < 4 := by
  unfold lvC at h
  rw [nS0, nT0] at h
  omega
theorem lsC0 {A : Nat → Nat → Nat} {i : Nat} (h : i < 4) : lsC A M0 L0 i = [] := by
  unfold lsC
  rw [nS0, nT0, nE0, nC0]
  rcases (show i = 0 ∨ i = 1 ∨ i = 2 ∨ i = 3 by omega) with e | e | e | e <;> subst e <;> rfl
theorem C_init {S : bS} {p z : Nat} (hk : gK S p = 7) (hz : gK S z = 14) (hzn : gN S z = 0) (h14 : ∀ a, gK S a = 14 → a = z) {MC MS : Nat} (hMC : 23 ≤ MC) (hMS : 270 ≤ MS) {post : bS → Prop} (hp : ∀ (Y : bS) (A : Nat → Nat → Nat), cR Y A (fun _ => 0) (M0, L0) → A 0 0 = p → (∀ k, A 6 k = p) → gK Y p = 7 → gK Y z = 14 → gN Y z = 0 → (∀ a, gK Y a = 14 → a = z) → post Y) : wp_X5_init post MC MS p S := by
  unfold wp_X5_init
  refine ⟨by omega, by omega, fun qn hqn => ⟨2, 6, by omega, by omega, ?_⟩⟩
  have E0 : sEx S (sNew S qn 4 0) := sEx_new hqn (sEx_rf S)
  have kn : gK (sNew S qn 4 0) qn = 4 := by rw [gK_sNew, if_pos rfl]
  refine C_initN kn (fun a ha => h14 a (E0.2 a ha)) (Nat.le_refl _) (Nat.le_refl _) (fun Y1 q1 q7 B1 N1 L1 L7 n17 => ?_)
  have E1 : sEx S Y1 := sEx_B E0 B1 hqn
  have kp1 : gK Y1 p = 7 := (E1.1 p (by rw [hk]; decide)).1.trans hk
  have kz1 : gK Y1 z = 14 := (E1.1 z (by rw [hz]; decide)).1.trans hz
  have nz1 : gN Y1 z = 0 := (E1.1 z (by rw [hz]; decide)).2.1.trans hzn
  have ne : ∀ {Y : bS} {a κ : Nat}, gK Y p = 7 → gK Y a = κ → κ ≠ 7 → a ≠ p := fun h h' hκ e => by rw [e, h] at h'; exact hκ h'.symm
  refine ⟨kp1, by omega, by omega, fun q9 hq9 => ?_⟩
  have B2 : sB p Y1 (sQ Y1 7 p 0 (some qn)) := sB_Q
  have f0 : gQ (sQ Y1 7 p 0 (some qn)) 7 p 0 = some qn := by rw [gQ_sQ, if_pos ⟨rfl, rfl, rfl⟩]
  have kp2 : gK (sQ Y1 7 p 0 (some qn)) p = 7 := kp1
  generalize hY2 : sQ Y1 7 p 0 (some qn) = Y2 at *
  have n9 : q9 ≠ p := ne kp2 hq9 (by decide)
  have L12 := isL0_B L1 B2 (ne kp1 L1.1 (by decide))
  have L72 := isL0_B L7 B2 (ne kp1 L7.1 (by decide))
  have n19 : q1 ≠ q9 := fun e => by rw [← e, L12.1] at hq9; cases hq9
  have n79 : q7 ≠ q9 := fun e => by rw [← e, L72.1] at hq9; cases hq9
  refine C_linit hq9 (fun z1 hz1 => ?_)
  have ez1 : z1 = z := h14 z1 (E1.2 z1 (B2.1.2 z1 hz1))
  subst ez1
  have L93 := isL0_lin (X := Y2) (q := q9) (z := z1)
  have E3 : sEx Y2 _ := sEx_lin (v := some z1) hq9
  generalize hY3 : sQ (sV (sNew Y2 q9 1 0) 1 q9 0 0) 1 q9 1 (some z1) = Y3 at *
  have kp3 : gK Y3 p = 7 := ((sB_ex (b := p) E3).2 (by rw [kp2]; decide)).trans kp2
  have g0 := kQ E3 (by rw [kp2]; decide) f0
  have B23 := sB_tr B2 (sB_ex (b := p) E3)
  refine ⟨kp3, by omega, by omega, fun q16 hq16 => ?_⟩
  have B4 : sB p Y3 (sQ Y3 7 p 1 (some q9)) := sB_Q
  have h0 := kQ2 (j := 1) (w := some q9) g0 (by decide)
  have h1 : gQ (sQ Y3 7 p 1 (some q9)) 7 p 1 = some q9 := by rw [gQ_sQ, if_pos ⟨rfl, rfl, rfl⟩]
  have kp4 : gK (sQ Y3 7 p 1 (some q9)) p = 7 := kp3
  generalize hY4 : sQ Y3 7 p 1 (some q9) = Y4 at *
  have n16 : q16 ≠ p := ne kp4 hq16 (by decide)
  have B24 := sB_tr B23 B4
  have L14 := isL0_B L1 B24 (ne kp1 L1.1 (by decide))
  have L74 := isL0_B L7 B24 (ne kp1 L7.1 (by decide))
  have L94 := isL0_B L93 B4 n9
  have n116 : q1 ≠ q16 := fun e => by rw [← e, L14.1] at hq16; cases hq16
  have n716 : q7 ≠ q16 := fun e => by rw [← e, L74.1] at hq16; cases hq16
  have n916 : q9 ≠ q16 := fun e => by rw [← e, L94.1] at hq16; cases hq16
  refine C_linit hq16 (fun z2 hz2 => ?_)
  have ez2 : z2 = z1 := h14 z2 (E1.2 z2 (B24.1.2 z2 hz2))
  subst ez2
  have L165 := isL0_lin (X := Y4) (q := q16) (z := z2)
  have E5 : sEx Y4 _ := sEx_lin (v := some z2) hq16
  generalize hY5 : sQ (sV (sNew Y4 q16 1 0) 1 q16 0 0) 1 q16 1 (some z2) = Y5 at *
  have kp5 : gK Y5 p = 7 := ((sB_ex (b := p) E5).2 (by rw [kp4]; decide)).trans kp4
  have i0 := kQ E5 (by rw [kp4]; decide) h0
  have i1 := kQ E5 (by rw [kp4]; decide) h1
  refine ⟨kp5, ?_⟩
  have B6 : sB p Y5 (sV (sV (sV (sQ Y5 7 p 2 (some q16)) 7 p 3 (0 : Int32)) 7 p 4 (0 : Int32)) 7 p 5 (0 : Int32)) := sB_tr sB_Q (sB_tr sB_V (sB_tr sB_V sB_V))
  have j0 : gQ (sV (sV (sV (sQ Y5 7 p 2 (some q16)) 7 p 3 (0 : Int32)) 7 p 4 (0 : Int32)) 7 p 5 (0 : Int32)) 7 p 0 = some qn := kQ2 (j := 2) (w := some q16) i0 (by decide)
  have j1 : gQ (sV (sV (sV (sQ Y5 7 p 2 (some q16)) 7 p 3 (0 : Int32)) 7 p 4 (0 : Int32)) 7 p 5 (0 : Int32)) 7 p 1 = some q9 := kQ2 (j := 2) (w := some q16) i1 (by decide)
  have j2 : gQ (sV (sV (sV (sQ Y5 7 p 2 (some q16)) 7 p 3 (0 : Int32)) 7 p 4 (0 : Int32)) 7 p 5 (0 : Int32)) 7 p 2 = some q16 := by
    show gQ (sQ Y5 7 p 2 (some q16)) 7 p 2 = some q16
    rw [gQ_sQ, if_pos ⟨rfl, rfl, rfl⟩]
  have v5 : gV (sV (sV (sV (sQ Y5 7 p 2 (some q16)) 7 p 3 (0 : Int32)) 7 p 4 (0 : Int32)) 7 p 5 (0 : Int32)) 7 p 5 = 0 := by rw [gV_sV, if_pos ⟨rfl, rfl, rfl⟩]
  have v4 : gV (sV (sV (sV (sQ Y5 7 p 2 (some q16)) 7 p 3 (0 : Int32)) 7 p 4 (0 : Int32)) 7 p 5 (0 : Int32)) 7 p 4 = 0 := by rw [gV_sV, if_neg (fun x => by omega), gV_sV, if_pos ⟨rfl, rfl, rfl⟩]
  have v3 : gV (sV (sV (sV (sQ Y5 7 p 2 (some q16)) 7 p 3 (0 : Int32)) 7 p 4 (0 : Int32)) 7 p 5 (0 : Int32)) 7 p 3 = 0 := by rw [gV_sV, if_neg (fun x => by omega), gV_sV, if_neg (fun x => by omega), gV_sV, if_pos ⟨rfl, rfl, rfl⟩]
  have kp6 : gK (sV (sV (sV (sQ Y5 7 p 2 (some q16)) 7 p 3 (0 : Int32)) 7 p 4 (0 : Int32)) 7 p 5 (0 : Int32)) p = 7 := kp5
  generalize hY6 : sV (sV (sV (sQ Y5 7 p 2 (some q16)) 7 p 3 (0 : Int32)) 7 p 4 (0 : Int32)) 7 p 5 (0 : Int32) = Y6 at *
  have T5 := sB_tr (sB_ex (b := p) E5) B6
  have T4 := sB_tr B4 T5
  have T : sB p Y1 Y6 := sB_tr B23 T4
  have zp : z2 ≠ p := ne kp1 kz1 (by decide)
  have kz6 : gK Y6 z2 = 14 := (T.1.1 z2 (by rw [kz1]; decide) zp).1.trans kz1
  have nz6 : gN Y6 z2 = 0 := (T.1.1 z2 (by rw [kz1]; decide) zp).2.1.trans nz1
  have u14 : ∀ a, gK Y6 a = 14 → a = z2 := fun a ha => h14 a (E1.2 a (T.1.2 a ha))
  have I1 := isL0_B L1 T (ne kp1 L1.1 (by decide))
  have I7 := isL0_B L7 T (ne kp1 L7.1 (by decide))
  have I9 := isL0_B L93 T4 n9
  have I16 := isL0_B L165 B6 n16
  obtain ⟨N0, N2⟩ := N1
  obtain ⟨t1, -, -, t4, -⟩ := T.1.1 qn (by rw [N0]; decide) (ne kp1 N0 (by decide))
  refine hp Y6 (nA p qn q1 q7 q9 q16) ⟨⟨⟨kp6, j0, j1, j2, v3, v4, v5⟩, ?_, ⟨fun k hk' => ?_, fun j k hj hk' e => ?_⟩, fun s hs => ?_, fun t ht => ?_, fun c hc => ?_, fun e he => ?_, ⟨fun a b ha => ?_, fun a b ha => ?_, fun a b ha => ?_⟩, fun k hk' => ?_⟩, fun _ => z2, fun i hi => ?_, fun i j hi hj e => ?_, fun i j hi hj h => ?_, fun a b ha hb => ?_⟩ rfl (fun _ => rfl) kp6 kz6 nz6 u14
  · refine ⟨t1.trans N0, ?_⟩
    show gQ Y6 4 qn 0 = some q1 ∧ gQ Y6 4 qn 1 = some q7 ∧ True
    rw [t4, t4]
    exact ⟨N2.1, N2.2, trivial⟩
  · rw [show nS (M0, L0).1 = 0 from nS0] at hk'
    omega
  · rw [show nS (M0, L0).1 = 0 from nS0] at hk'
    omega
  · rw [show nS (M0, L0).1 = 0 from nS0] at hs
    omega
  · rw [show nT (M0, L0).1 = 0 from nT0] at ht
    omega
  · rw [show nC (M0, L0).1 = 0 from nC0] at hc
    omega
  · rw [show nE (M0, L0).1 = 0 from nE0] at he
    omega
  · rw [show nS (M0, L0).1 = 0 from nS0] at ha
    omega
  · rw [show nT (M0, L0).1 = 0 from nT0] at ha
    omega
  · rw [show nC (M0, L0).1 = 0 from nC0] at ha
    omega
  · rw [show nS (M0, L0).1 = 0 from nS0] at hk'
    omega
  · have h4 := lvC0 hi
    show isLe Y6 (nA p qn q1 q7 q9 q16 5 i) z2 (lsC _ M0 L0 i) 0
    rw [lsC0 h4]
    have mk : ∀ {q : Nat}, isL0 Y6 q z2 → isLe Y6 q z2 [] 0 := fun h => ⟨h.1, h.2.1, h.2.2, Or.inl ⟨rfl, kz6, nz6⟩, Nat.le_refl _, by decide, fun k a q => by cases q⟩
    rcases (show i = 0 ∨ i = 1 ∨ i = 2 ∨ i = 3 by omega) with e | e | e | e <;> subst e
    · exact mk I1
    · exact mk I7
    · exact mk I9
    · exact mk I16
  · have h4 := lvC0 hi
    have h5 := lvC0 hj
    rcases (show i = 0 ∨ i = 1 ∨ i = 2 ∨ i = 3 by omega) with e1 | e1 | e1 | e1 <;> subst e1 <;> rcases (show j = 0 ∨ j = 1 ∨ j = 2 ∨ j = 3 by omega) with e2 | e2 | e2 | e2 <;> subst e2 <;> first | rfl | exact absurd e n17 | exact absurd e n17.symm | exact absurd e n19 | exact absurd e n19.symm | exact absurd e n79 | exact absurd e n79.symm | exact absurd e n116 | exact absurd e n116.symm | exact absurd e n716 | exact absurd e n716.symm | exact absurd e n916 | exact absurd e n916.symm
  · exact absurd h (Nat.lt_irrefl 0)
  · rw [u14 a ha, u14 b hb]
