/-! ===== the class's start ===== -/
def sB (b : Nat) (X X' : bS) : Prop := sExB b X X' ∧ (gK X b ≠ 0 → gK X' b = gK X b)
theorem sB_rf (b : Nat) (X : bS) : sB b X X := ⟨⟨fun _ _ _ => ⟨rfl, rfl, fun _ _ => rfl, fun _ _ => rfl, fun _ => rfl⟩, fun _ h => h⟩, fun _ => rfl⟩
theorem sB_ex {b : Nat} {X X' : bS} (h : sEx X X') : sB b X X' := ⟨⟨fun a ha _ => h.1 a ha, h.2⟩, fun hb => (h.1 b hb).1⟩
theorem sB_Q {b κ j : Nat} {v : Option Nat} {X : bS} : sB b X (sQ X κ b j v) := ⟨⟨fun a ha hab => ⟨rfl, rfl, fun _ _ => rfl, fun κ' j' => by rw [gQ_sQ, if_neg (fun q => hab q.2.1)], fun _ => rfl⟩, fun _ h => h⟩, fun _ => rfl⟩
theorem sB_V {b κ j : Nat} {v : Int32} {X : bS} : sB b X (sV X κ b j v) := ⟨⟨fun a ha hab => ⟨rfl, rfl, fun κ' j' => by rw [gV_sV, if_neg (fun q => hab q.2.1)], fun _ _ => rfl, fun _ => rfl⟩, fun _ h => h⟩, fun _ => rfl⟩
theorem sB_tr {b : Nat} {X X' X'' : bS} (h : sB b X X') (h' : sB b X' X'') : sB b X X'' := by
  obtain ⟨⟨a1, a2⟩, a3⟩ := h
  obtain ⟨⟨b1, b2⟩, b3⟩ := h'
  refine ⟨⟨fun a ha hab => ?_, fun a ha => a2 a (b2 a ha)⟩, fun hb => ?_⟩
  · obtain ⟨x1, x2, x3, x4, x5⟩ := a1 a ha hab
    obtain ⟨y1, y2, y3, y4, y5⟩ := b1 a (by rw [x1]; exact ha) hab
    exact ⟨y1.trans x1, y2.trans x2, fun κ j => (y3 κ j).trans (x3 κ j), fun κ j => (y4 κ j).trans (x4 κ j), fun j => (y5 j).trans (x5 j)⟩
  · have e := a3 hb
    rw [b3 (by rw [e]; exact hb), e]
theorem sB_0 {b : Nat} {X X' : bS} (h : sB b X X') {a : Nat} (ha : gK X' a = 0) : gK X a = 0 := by
  by_cases q : gK X a = 0
  · exact q
  · by_cases hab : a = b
    · rw [hab] at q ha
      rw [h.2 q] at ha
      exact absurd ha q
    · rw [(h.1.1 a q hab).1] at ha
      exact absurd ha q
theorem sEx_lin {X : bS} {q : Nat} {v : Option Nat} (hq : gK X q = 0) : sEx X (sQ (sV (sNew X q 1 0) 1 q 0 0) 1 q 1 v) := sEx_Q hq (sEx_V hq (sEx_new hq (sEx_rf X)))
theorem sEx_M {X : bS} {q N K : Nat} {r : Nat → Nat} (hq : gK X q = 0) (hr : ∀ i, i < N → gK X (r i) = 0 ∧ r i ≠ q) (hinj : ∀ i j : Nat, i < N → j < N → r i = r j → i = j) : sEx X (sMn X q r N K) := by
  refine ⟨fun a ha => sMn_old (fun e => ha (e ▸ hq)) (fun i hi e => ha (e ▸ (hr i hi).1)), fun a ha => ?_⟩
  by_cases e : a = q
  · rw [e, sMn_out.1] at ha
    cases ha
  · by_cases e2 : ∃ i, i < N ∧ r i = a
    · obtain ⟨i, hi, e3⟩ := e2
      rw [← e3, (sMn_row (fun i hi => (hr i hi).2) hinj hi).1] at ha
      cases ha
    · rw [(sMn_old e (fun i hi e3 => e2 ⟨i, hi, e3⟩)).1] at ha
      exact ha
/-- an empty list object -/
def isL0 (X : bS) (q z : Nat) : Prop := gK X q = 1 ∧ gV X 1 q 2 = 0 ∧ gQ X 1 q 1 = some z
theorem isL0_lin {X : bS} {q z : Nat} : isL0 (sQ (sV (sNew X q 1 0) 1 q 0 0) 1 q 1 (some z)) q z := by
  refine ⟨?_, ?_, ?_⟩
  · rw [gK_sQ, gK_sV, gK_sNew, if_pos rfl]
  · rw [gV_sQ, gV_sV, if_neg (fun x => by omega), gV_sNew, if_pos rfl]
  · rw [gQ_sQ, if_pos ⟨rfl, rfl, rfl⟩]
theorem isL0_B {b : Nat} {X X' : bS} {q z : Nat} (h : isL0 X q z) (hx : sB b X X') (hqb : q ≠ b) : isL0 X' q z := by
  obtain ⟨h1, h2, h3⟩ := h
  obtain ⟨x1, -, x3, x4, -⟩ := hx.1.1 q (by rw [h1]; decide) hqb
  exact ⟨x1.trans h1, (x3 1 2).trans h2, (x4 1 1).trans h3⟩
/-- an array -/
def isAr (X : bS) (q κ n : Nat) : Prop := gK X q = κ ∧ gN X q = n
theorem isAr_B {b : Nat} {X X' : bS} {q κ n : Nat} (h : isAr X q κ n) (hκ : κ ≠ 0) (hx : sB b X X') (hqb : q ≠ b) : isAr X' q κ n := by
  obtain ⟨x1, x2, -⟩ := hx.1.1 q (by rw [h.1]; exact hκ) hqb
  exact ⟨x1.trans h.1, x2.trans h.2⟩
theorem kQ {X X' : bS} {b κ i : Nat} {v : Option Nat} (hx : sEx X X') (hk : gK X b ≠ 0) (h : gQ X κ b i = v) : gQ X' κ b i = v := ((hx.1 b hk).2.2.2.1 κ i).trans h
theorem kQ2 {X : bS} {b κ i j : Nat} {v w : Option Nat} (h : gQ X κ b i = v) (hij : i ≠ j) : gQ (sQ X κ b j w) κ b i = v := by
  rw [gQ_sQ, if_neg (fun q => hij q.2.2)]
  exact h
/-- the net's start -/
theorem C_initN {X : bS} {qn z : Nat} (hk : gK X qn = 4) (h14 : ∀ a, gK X a = 14 → a = z) {MC MS : Nat} (hMC : 20 ≤ MC) (hMS : 258 ≤ MS) {post : bS → Prop} (hp : ∀ (Y : bS) (q1 q7 q14 q18 q23 q29 : Nat) (r : Nat → Nat), sB qn X Y → (gK Y qn = 4 ∧ gQ Y 4 qn 0 = some q1 ∧ gQ Y 4 qn 1 = some q7 ∧ gQ Y 4 qn 2 = some q14 ∧ gQ Y 4 qn 3 = some q18 ∧ gQ Y 4 qn 4 = some q23 ∧ gQ Y 4 qn 5 = some q29) → isL0 Y q1 z → isL0 Y q7 z → q1 ≠ q7 → isAr Y q14 12 14 → isAr Y q18 10 14 → isAr Y q23 9 14 → isAr Y q29 9 14 → q23 ≠ q29 → (∀ k, k < 14 → gQ Y 12 q14 k = some (r k) ∧ isAr Y (r k) 9 14 ∧ r k ≠ q23 ∧ r k ≠ q29) → (∀ i j : Nat, i < 14 → j < 14 → r i = r j → i = j) → (∀ j, gV Y 10 q18 j = 0) → post Y) : wp_X2_init post MC MS qn X := by
  have c14 : Int32.toNatClampNeg (14 : Int32) = 14 := by decide
  have k0 : gK X qn ≠ 0 := by rw [hk]; decide
  have fr : ∀ {Y : bS} {q a : Nat}, gK Y q = 0 → gK Y a ≠ 0 → a ≠ q := fun hq ha e => ha (e ▸ hq)
  unfold wp_X2_init
  rw [c14]
  refine ⟨by omega, by omega, fun q1 hq1 => C_linit hq1 (fun z1 hz1 => ?_)⟩
  have ez1 := h14 z1 hz1
  subst ez1
  have L2 := isL0_lin (X := X) (q := q1) (z := z1)
  have E2 : sEx X _ := sEx_lin (v := some z1) hq1
  generalize hY2 : sQ (sV (sNew X q1 1 0) 1 q1 0 0) 1 q1 1 (some z1) = Y2 at *
  have B2 : sB qn X Y2 := sB_ex E2
  have K2 : gK Y2 qn = 4 := (B2.2 k0).trans hk
  have n1 : q1 ≠ qn := fun e => by rw [e, hk] at hq1; cases hq1
  refine ⟨K2, by omega, by omega, fun q7 hq7 => ?_⟩
  have B3 : sB qn Y2 (sQ Y2 4 qn 0 (some q1)) := sB_Q
  have f0 : gQ (sQ Y2 4 qn 0 (some q1)) 4 qn 0 = some q1 := by rw [gQ_sQ, if_pos ⟨rfl, rfl, rfl⟩]
  have K3 : gK (sQ Y2 4 qn 0 (some q1)) qn = 4 := K2
  have L3 := isL0_B L2 B3 n1
  generalize hY3 : sQ Y2 4 qn 0 (some q1) = Y3 at *
  have n17 : q1 ≠ q7 := fr hq7 (by rw [L3.1]; decide)
  have n7 : q7 ≠ qn := fun e => by rw [e, K3] at hq7; cases hq7
  refine C_linit hq7 (fun z7 hz7 => ?_)
  have ez7 : z7 = z1 := h14 z7 (B2.1.2 z7 (B3.1.2 z7 hz7))
  subst ez7
  have L74 := isL0_lin (X := Y3) (q := q7) (z := z7)
  have E4 : sEx Y3 _ := sEx_lin (v := some z7) hq7
  generalize hY4 : sQ (sV (sNew Y3 q7 1 0) 1 q7 0 0) 1 q7 1 (some z7) = Y4 at *
  have K4 : gK Y4 qn = 4 := ((sB_ex (b := qn) E4).2 (by rw [K3]; decide)).trans K3
  have g0 := kQ E4 (by rw [K3]; decide) f0
  refine ⟨K4, by decide, by decide, by decide, by decide, by omega, by omega, fun q14 r hq14 hr hinj => ?_⟩
  have B5 : sB qn Y4 (sQ Y4 4 qn 1 (some q7)) := sB_Q
  have h0 := kQ2 (j := 1) (w := some q7) g0 (by decide)
  have h1 : gQ (sQ Y4 4 qn 1 (some q7)) 4 qn 1 = some q7 := by rw [gQ_sQ, if_pos ⟨rfl, rfl, rfl⟩]
  have K5 : gK (sQ Y4 4 qn 1 (some q7)) qn = 4 := K4
  generalize hY5 : sQ Y4 4 qn 1 (some q7) = Y5 at *
  have E6 : sEx Y5 (sMn Y5 q14 r 14 14) := sEx_M hq14 hr hinj
  have A14 := sMn_out (S := Y5) (q := q14) (r := r) (N := 14) (K := 14)
  have Ar := fun (i : Nat) (hi : i < 14) => sMn_row (S := Y5) (q := q14) (r := r) (N := 14) (K := 14) (fun i hi => (hr i hi).2) hinj hi
  have n14 : q14 ≠ qn := fun e => by rw [e, K5] at hq14; cases hq14
  have nr : ∀ i, i < 14 → r i ≠ qn := fun i hi e => by
    have := (hr i hi).1
    rw [e, K5] at this
    cases this
  generalize hY6 : sMn Y5 q14 r 14 14 = Y6 at *
  have K6 : gK Y6 qn = 4 := ((sB_ex (b := qn) E6).2 (by rw [K5]; decide)).trans K5
  have i0 := kQ E6 (by rw [K5]; decide) h0
  have i1 := kQ E6 (by rw [K5]; decide) h1
  refine ⟨by decide, by decide, by omega, by omega, fun q18 hq18 => ?_⟩
  have B7 : sB qn Y6 (sQ Y6 4 qn 2 (some q14)) := sB_Q
  have j0 := kQ2 (j := 2) (w := some q14) i0 (by decide)
  have j1 := kQ2 (j := 2) (w := some q14) i1 (by decide)
  have j2 : gQ (sQ Y6 4 qn 2 (some q14)) 4 qn 2 = some q14 := by rw [gQ_sQ, if_pos ⟨rfl, rfl, rfl⟩]
  have K7 : gK (sQ Y6 4 qn 2 (some q14)) qn = 4 := K6
  generalize hY7 : sQ Y6 4 qn 2 (some q14) = Y7 at *
  have n18 : q18 ≠ qn := fun e => by rw [e, K7] at hq18; cases hq18
  have E8 : sEx Y7 (sNew Y7 q18 10 14) := sEx_new hq18 (sEx_rf Y7)
  have A18 : isAr (sNew Y7 q18 10 14) q18 10 14 := ⟨by rw [gK_sNew, if_pos rfl], by rw [gN_sNew, if_pos rfl]⟩
  have V18 : ∀ j, gV (sNew Y7 q18 10 14) 10 q18 j = 0 := fun j => by rw [gV_sNew, if_pos rfl]
  generalize hY8 : sNew Y7 q18 10 14 = Y8 at *
  have K8 : gK Y8 qn = 4 := ((sB_ex (b := qn) E8).2 (by rw [K7]; decide)).trans K7
  have l0 := kQ E8 (by rw [K7]; decide) j0
  have l1 := kQ E8 (by rw [K7]; decide) j1
  have l2 := kQ E8 (by rw [K7]; decide) j2
  refine ⟨by decide, by decide, by omega, by omega, fun q23 hq23 => ?_⟩
  have B9 : sB qn Y8 (sQ Y8 4 qn 3 (some q18)) := sB_Q
  have m0 := kQ2 (j := 3) (w := some q18) l0 (by decide)
  have m1 := kQ2 (j := 3) (w := some q18) l1 (by decide)
  have m2 := kQ2 (j := 3) (w := some q18) l2 (by decide)
  have m3 : gQ (sQ Y8 4 qn 3 (some q18)) 4 qn 3 = some q18 := by rw [gQ_sQ, if_pos ⟨rfl, rfl, rfl⟩]
  have K9 : gK (sQ Y8 4 qn 3 (some q18)) qn = 4 := K8
  generalize hY9 : sQ Y8 4 qn 3 (some q18) = Y9 at *
  have n23 : q23 ≠ qn := fun e => by rw [e, K9] at hq23; cases hq23
  have E10 : sEx Y9 (sNew Y9 q23 9 14) := sEx_new hq23 (sEx_rf Y9)
  have A23 : isAr (sNew Y9 q23 9 14) q23 9 14 := ⟨by rw [gK_sNew, if_pos rfl], by rw [gN_sNew, if_pos rfl]⟩
  generalize hY10 : sNew Y9 q23 9 14 = Y10 at *
  have K10 : gK Y10 qn = 4 := ((sB_ex (b := qn) E10).2 (by rw [K9]; decide)).trans K9
  have o0 := kQ E10 (by rw [K9]; decide) m0
  have o1 := kQ E10 (by rw [K9]; decide) m1
  have o2 := kQ E10 (by rw [K9]; decide) m2
  have o3 := kQ E10 (by rw [K9]; decide) m3
  refine ⟨by decide, by decide, by omega, by omega, fun q29 hq29 => ?_⟩
  have B11 : sB qn Y10 (sQ Y10 4 qn 4 (some q23)) := sB_Q
  have p0 := kQ2 (j := 4) (w := some q23) o0 (by decide)
  have p1 := kQ2 (j := 4) (w := some q23) o1 (by decide)
  have p2 := kQ2 (j := 4) (w := some q23) o2 (by decide)
  have p3 := kQ2 (j := 4) (w := some q23) o3 (by decide)
  have p4 : gQ (sQ Y10 4 qn 4 (some q23)) 4 qn 4 = some q23 := by rw [gQ_sQ, if_pos ⟨rfl, rfl, rfl⟩]
  have K11 : gK (sQ Y10 4 qn 4 (some q23)) qn = 4 := K10
  generalize hY11 : sQ Y10 4 qn 4 (some q23) = Y11 at *
  have n29 : q29 ≠ qn := fun e => by rw [e, K11] at hq29; cases hq29
  have E12 : sEx Y11 (sNew Y11 q29 9 14) := sEx_new hq29 (sEx_rf Y11)
  have A29 : isAr (sNew Y11 q29 9 14) q29 9 14 := ⟨by rw [gK_sNew, if_pos rfl], by rw [gN_sNew, if_pos rfl]⟩
  generalize hY12 : sNew Y11 q29 9 14 = Y12 at *
  have K12 : gK Y12 qn = 4 := ((sB_ex (b := qn) E12).2 (by rw [K11]; decide)).trans K11
  have u0 := kQ E12 (by rw [K11]; decide) p0
  have u1 := kQ E12 (by rw [K11]; decide) p1
  have u2 := kQ E12 (by rw [K11]; decide) p2
  have u3 := kQ E12 (by rw [K11]; decide) p3
  have u4 := kQ E12 (by rw [K11]; decide) p4
  have B13 : sB qn Y12 (sQ Y12 4 qn 5 (some q29)) := sB_Q
  have w0 := kQ2 (j := 5) (w := some q29) u0 (by decide)
  have w1 := kQ2 (j := 5) (w := some q29) u1 (by decide)
  have w2 := kQ2 (j := 5) (w := some q29) u2 (by decide)
  have w3 := kQ2 (j := 5) (w := some q29) u3 (by decide)
  have w4 := kQ2 (j := 5) (w := some q29) u4 (by decide)
  have w5 : gQ (sQ Y12 4 qn 5 (some q29)) 4 qn 5 = some q29 := by rw [gQ_sQ, if_pos ⟨rfl, rfl, rfl⟩]
  have K13 : gK (sQ Y12 4 qn 5 (some q29)) qn = 4 := K12
  generalize hY13 : sQ Y12 4 qn 5 (some q29) = Y13 at *
  have T12 := B13
  have T11 := sB_tr (sB_ex (b := qn) E12) T12
  have T10 := sB_tr B11 T11
  have T9 := sB_tr (sB_ex (b := qn) E10) T10
  have T8 := sB_tr B9 T9
  have T7 := sB_tr (sB_ex (b := qn) E8) T8
  have T6 := sB_tr B7 T7
  have T5 := sB_tr (sB_ex (b := qn) E6) T6
  have T4 := sB_tr B5 T5
  have T3 := sB_tr (sB_ex (b := qn) E4) T4
  have T2 := sB_tr B3 T3
  have T1 := sB_tr B2 T2
  have Ar6 : ∀ i, i < 14 → isAr Y6 (r i) 9 14 := fun i hi => ⟨(Ar i hi).1, (Ar i hi).2.1⟩
  have nr23 : ∀ i, i < 14 → r i ≠ q23 := fun i hi => fr hq23 (by rw [(isAr_B (Ar6 i hi) (by decide) (sB_tr B7 (sB_tr (sB_ex (b := qn) E8) B9)) (nr i hi)).1]; decide)
  have nr29 : ∀ i, i < 14 → r i ≠ q29 := fun i hi => fr hq29 (by rw [(isAr_B (Ar6 i hi) (by decide) (sB_tr B7 (sB_tr (sB_ex (b := qn) E8) (sB_tr B9 (sB_tr (sB_ex (b := qn) E10) B11)))) (nr i hi)).1]; decide)
  refine hp Y13 q1 q7 q14 q18 q23 q29 r T1 ⟨K13, w0, w1, w2, w3, w4, w5⟩ (isL0_B L2 T2 n1) (isL0_B L74 T4 n7) n17 (isAr_B ⟨A14.1, A14.2.1⟩ (by decide) T6 n14) (isAr_B A18 (by decide) T8 n18) (isAr_B A23 (by decide) T10 n23) (isAr_B A29 (by decide) T12 n29) (fr hq29 (by rw [(isAr_B A23 (by decide) B11 n23).1]; decide)) (fun k hk' => ⟨?_, isAr_B (Ar6 k hk') (by decide) T6 (nr k hk'), nr23 k hk', nr29 k hk'⟩) hinj (fun j => ?_)
  · rw [(T6.1.1 q14 (by rw [A14.1]; decide) n14).2.2.2.1 12 k, A14.2.2 k, if_pos hk']
  · rw [(T8.1.1 q18 (by rw [A18.1]; decide) n18).2.2.1 10 j]
    exact V18 j
