/-! ===== the class's start ===== -/
def sB (b : Nat) (X X' : bS) : Prop := sExB b X X' ∧ (gK X b ≠ 0 → gK X' b = gK X b)
theorem sB_rf (b : Nat) (X : bS) : sB b X X := ⟨⟨fun _ _ _ => ⟨rfl, rfl, fun _ _ => rfl, fun _ _ => rfl, fun _ => rfl⟩, fun _ h => h⟩, fun _ => rfl⟩
theorem sB_ex {b : Nat} {X X' : bS} (h : sEx X X') : sB b X X' := ⟨⟨fun a ha _ => h.1 a ha, h.2⟩, fun hb => (h.1 b hb).1⟩
theorem sB_Q {b κ j : Nat} {v : Option Nat} {X : bS} : sB b X (sQ X κ b j v) := ⟨⟨fun a ha hab => ⟨rfl, rfl, fun _ _ => rfl, fun κ' j' => by rw [gQ_sQ, if_neg (fun q => hab q.2.1)], fun _ => rfl⟩, fun _ h => h⟩, fun _ => rfl⟩
theorem sB_V {b κ j : Nat} {v : Int32} {X : bS} : sB b X (sV X κ b j v) := ⟨⟨fun a ha hab => ⟨rfl, rfl, fun κ' j' => by rw [gV_sV, if_neg (fun q => hab q.2.1)], fun _ _ => rfl, fun _ => rfl⟩, fun _ h => h⟩, fun _ => rfl⟩
theorem sB_tr {b : Nat} {X X' X'' : bS} (h : sB b X X') (h' : sB b X' X'') : sB b X X'' := by
  obtain ⟨⟨a1, a2⟩, a3⟩ := h
  obtain ⟨⟨b1, b2⟩, b3⟩ := h'
  refine ⟨⟨fun a ha hab => ?_, fun a ha => a2 a (b2 a ha)⟩, fun hb => ?_⟩
  · obtain ⟨x1, x2, x3, x4, x5⟩ := a1 a ha hab
    obtain ⟨y1, y2, y3, y4, y5⟩ := b1 a (by rw [x1]; exact ha) hab
    exact ⟨y1.trans x1, y2.trans x2, fun κ j => (y3 κ j).trans (x3 κ j), fun κ j => (y4 κ j).trans (x4 κ j), fun j => (y5 j).trans (x5 j)⟩
  · have e := a3 hb
    rw [b3 (by rw [e]; exact hb), e]
theorem sB_0 {b : Nat} {X X' : bS} (h : sB b X X') {a : Nat} (ha : gK X' a = 0) : gK X a = 0 := by
  by_cases q : gK X a = 0
  · exact q
  · by_cases hab : a = b
    · rw [hab] at q ha
      rw [h.2 q] at ha
      exact absurd ha q
    · rw [(h.1.1 a q hab).1] at ha
      exact absurd ha q
theorem sEx_lin {X : bS} {q : Nat} {v : Option Nat} (hq : gK X q = 0) : sEx X (sQ (sV (sNew X q 1 0) 1 q 0 0) 1 q 1 v) := sEx_Q hq (sEx_V hq (sEx_new hq (sEx_rf X)))
/-- an empty list object -/
def isL0 (X : bS) (q z : Nat) : Prop := gK X q = 1 ∧ gV X 1 q 2 = 0 ∧ gQ X 1 q 1 = some z
theorem isL0_lin {X : bS} {q z : Nat} : isL0 (sQ (sV (sNew X q 1 0) 1 q 0 0) 1 q 1 (some z)) q z := by
  refine ⟨?_, ?_, ?_⟩
  · rw [gK_sQ, gK_sV, gK_sNew, if_pos rfl]
  · rw [gV_sQ, gV_sV, if_neg (fun x => by omega), gV_sNew, if_pos rfl]
  · rw [gQ_sQ, if_pos ⟨rfl, rfl, rfl⟩]
theorem isL0_B {b : Nat} {X X' : bS} {q z : Nat} (h : isL0 X q z) (hx : sB b X X') (hqb : q ≠ b) : isL0 X' q z := by
  obtain ⟨h1, h2, h3⟩ := h
  obtain ⟨x1, -, x3, x4, -⟩ := hx.1.1 q (by rw [h1]; decide) hqb
  exact ⟨x1.trans h1, (x3 1 2).trans h2, (x4 1 1).trans h3⟩
/-- an array -/
def isAr (X : bS) (q κ n : Nat) : Prop := gK X q = κ ∧ gN X q = n
theorem isAr_B {b : Nat} {X X' : bS} {q κ n : Nat} (h : isAr X q κ n) (hκ : κ ≠ 0) (hx : sB b X X') (hqb : q ≠ b) : isAr X' q κ n := by
  obtain ⟨x1, x2, -⟩ := hx.1.1 q (by rw [h.1]; exact hκ) hqb
  exact ⟨x1.trans h.1, x2.trans h.2⟩
theorem kQ {X X' : bS} {b κ i : Nat} {v : Option Nat} (hx : sEx X X') (hk : gK X b ≠ 0) (h : gQ X κ b i = v) : gQ X' κ b i = v := ((hx.1 b hk).2.2.2.1 κ i).trans h
theorem kQ2 {X : bS} {b κ i j : Nat} {v w : Option Nat} (h : gQ X κ b i = v) (hij : i ≠ j) : gQ (sQ X κ b j w) κ b i = v := by
  rw [gQ_sQ, if_neg (fun q => hij q.2.2)]
  exact h
/-- the net's start -/
theorem C_initN {X : bS} {qn z : Nat} (hk : gK X qn = 4) (h14 : ∀ a, gK X a = 14 → a = z) {MC MS : Nat} (hMC : 2 ≤ MC) (hMS : 6 ≤ MS) {post : bS → Prop} (hp : ∀ (Y : bS) (q1 q7 : Nat), sB qn X Y → (gK Y qn = 4 ∧ gQ Y 4 qn 0 = some q1 ∧ gQ Y 4 qn 1 = some q7) → isL0 Y q1 z → isL0 Y q7 z → q1 ≠ q7 → post Y) : wp_X2_init post MC MS qn X := by
  have k0 : gK X qn ≠ 0 := by rw [hk]; decide
  have fr : ∀ {Y : bS} {q a : Nat}, gK Y q = 0 → gK Y a ≠ 0 → a ≠ q := fun hq ha e => ha (e ▸ hq)
  unfold wp_X2_init
  refine ⟨by omega, by omega, fun q1 hq1 => C_linit hq1 (fun z1 hz1 => ?_)⟩
  have ez1 := h14 z1 hz1
  subst ez1
  have L2 := isL0_lin (X := X) (q := q1) (z := z1)
  have E2 : sEx X _ := sEx_lin (v := some z1) hq1
  generalize hY2 : sQ (sV (sNew X q1 1 0) 1 q1 0 0) 1 q1 1 (some z1) = Y2 at *
  have B2 : sB qn X Y2 := sB_ex E2
  have K2 : gK Y2 qn = 4 := (B2.2 k0).trans hk
  have n1 : q1 ≠ qn := fun e => by rw [e, hk] at hq1; cases hq1
  refine ⟨K2, by omega, by omega, fun q7 hq7 => ?_⟩
  have B3 : sB qn Y2 (sQ Y2 4 qn 0 (some q1)) := sB_Q
  have f0 : gQ (sQ Y2 4 qn 0 (some q1)) 4 qn 0 = some q1 := by rw [gQ_sQ, if_pos ⟨rfl, rfl, rfl⟩]
  have K3 : gK (sQ Y2 4 qn 0 (some q1)) qn = 4 := K2
  have L3 := isL0_B L2 B3 n1
  generalize hY3 : sQ Y2 4 qn 0 (some q1) = Y3 at *
  have n17 : q1 ≠ q7 := fr hq7 (by rw [L3.1]; decide)
  have n7 : q7 ≠ qn := fun e => by rw [e, K3] at hq7; cases hq7
  refine C_linit hq7 (fun z7 hz7 => ?_)
  have ez7 : z7 = z1 := h14 z7 (B2.1.2 z7 (B3.1.2 z7 hz7))
  subst ez7
  have L74 := isL0_lin (X := Y3) (q := q7) (z := z7)
  have E4 : sEx Y3 _ := sEx_lin (v := some z7) hq7
  generalize hY4 : sQ (sV (sNew Y3 q7 1 0) 1 q7 0 0) 1 q7 1 (some z7) = Y4 at *
  have K4 : gK Y4 qn = 4 := ((sB_ex (b := qn) E4).2 (by rw [K3]; decide)).trans K3
  have g0 := kQ E4 (by rw [K3]; decide) f0
  refine ⟨K4, ?_⟩
  have B5 : sB qn Y4 (sQ Y4 4 qn 1 (some q7)) := sB_Q
  have h0 := kQ2 (j := 1) (w := some q7) g0 (by decide)
  have h1 : gQ (sQ Y4 4 qn 1 (some q7)) 4 qn 1 = some q7 := by rw [gQ_sQ, if_pos ⟨rfl, rfl, rfl⟩]
  have K5 : gK (sQ Y4 4 qn 1 (some q7)) qn = 4 := K4
  generalize hY5 : sQ Y4 4 qn 1 (some q7) = Y5 at *
  have T4 := B5
  have T3 := sB_tr (sB_ex (b := qn) E4) T4
  have T2 := sB_tr B3 T3
  have T1 := sB_tr B2 T2
  exact hp Y5 q1 q7 T1 ⟨K5, h0, h1⟩ (isL0_B L2 T2 n1) (isL0_B L74 T4 n7) n17
