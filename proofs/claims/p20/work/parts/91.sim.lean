/-! ===== the law's own copy of the net ===== -/
def jF (S S' : bS) : Prop := (∀ a, gK S a ≠ 0 → gK S' a = gK S a ∧ gN S' a = gN S a ∧ (∀ κ j, gV S' κ a j = gV S κ a j) ∧ (∀ κ j, κ ≠ 8 → κ ≠ 12 → κ ≠ 16 → gQ S' κ a j = gQ S κ a j) ∧ ∀ j, gL S' a j = gL S a j) ∧ ∀ a, gK S' a = 14 → gK S a = 14
theorem jF_ex {S S' : bS} (h : sEx S S') : jF S S' := ⟨fun a ha => ⟨(h.1 a ha).1, (h.1 a ha).2.1, (h.1 a ha).2.2.1, fun κ j _ _ _ => (h.1 a ha).2.2.2.1 κ j, (h.1 a ha).2.2.2.2⟩, h.2⟩
theorem jF_rf (S : bS) : jF S S := jF_ex (sEx_rf S)
theorem jF_tr {S S' S'' : bS} (h : jF S S') (h' : jF S' S'') : jF S S'' := by
  refine ⟨fun a ha => ?_, fun a ha => h.2 a (h'.2 a ha)⟩
  obtain ⟨x1, x2, x3, x4, x5⟩ := h.1 a ha
  obtain ⟨y1, y2, y3, y4, y5⟩ := h'.1 a (by rw [x1]; exact ha)
  exact ⟨y1.trans x1, y2.trans x2, fun κ j => (y3 κ j).trans (x3 κ j), fun κ j h1 h2 h3 => (y4 κ j h1 h2 h3).trans (x4 κ j h1 h2 h3), fun j => (y5 j).trans (x5 j)⟩
theorem jF_Q {S : bS} {κ a j : Nat} {v : Option Nat} (hκ : κ = 8 ∨ κ = 12 ∨ κ = 16) : jF S (sQ S κ a j v) := by
  refine ⟨fun b _ => ⟨rfl, rfl, fun _ _ => rfl, fun κ' j' h1 h2 h3 => ?_, fun _ => rfl⟩, fun _ h => h⟩
  rw [gQ_sQ, if_neg (fun z => by have := z.1; omega)]
theorem cR_jF {S S' : bS} {A : Nat → Nat → Nat} {cp : Nat → Nat} {P : pP} (h : cR S A cp P) (hj : jF S S') : cR S' A cp P := by
  have hx : sEx S (S'.1, S'.2.1, S'.2.2.1, (fun κ a j => if κ = 8 ∨ κ = 12 ∨ κ = 16 then gQ S κ a j else gQ S' κ a j), S'.2.2.2.2) := by
    refine ⟨fun a ha => ?_, hj.2⟩
    obtain ⟨x1, x2, x3, x4, x5⟩ := hj.1 a ha
    refine ⟨x1, x2, x3, fun κ j => ?_, x5⟩
    show (if κ = 8 ∨ κ = 12 ∨ κ = 16 then gQ S κ a j else gQ S' κ a j) = _
    by_cases q : κ = 8 ∨ κ = 12 ∨ κ = 16
    · rw [if_pos q]
    · rw [if_neg q]
      exact x4 κ j (by omega) (by omega) (by omega)
  have := cR_ex h hx
  exact this
/-- an array of arrays -/
def rO (S : bS) (b κ κr n : Nat) (f : Nat → Nat → Prop) : Prop := gK S b = κ ∧ gN S b = n ∧ ∀ i, i < n → ∃ c, gQ S κ b i = some c ∧ gK S c = κr ∧ f i (gN S c)
theorem rO_ex {S S' : bS} {b κ κr n : Nat} {f : Nat → Nat → Prop} (h : rO S b κ κr n f) (hκ : κ ≠ 0) (hr : κr ≠ 0) (hx : sEx S S') : rO S' b κ κr n f := by
  obtain ⟨h1, h2, h3⟩ := h
  obtain ⟨x1, x2, -, x4, -⟩ := hx.1 b (by rw [h1]; exact hκ)
  refine ⟨x1.trans h1, x2.trans h2, fun i hi => ?_⟩
  obtain ⟨c, c1, c2, c3⟩ := h3 i hi
  obtain ⟨y1, y2, -⟩ := hx.1 c (by rw [c2]; exact hr)
  exact ⟨c, (x4 κ i).trans c1, y1.trans c2, by rw [y2]; exact c3⟩
theorem rO_cF {S S' : bS} {A : Nat → Nat → Nat} {b κ κr n : Nat} {f : Nat → Nat → Prop} (h : rO S b κ κr n f) (hκ : κ = 12 ∨ κ = 16) (hr : κr ≠ 0) (hx : cF A S S') : rO S' b κ κr n f := by
  obtain ⟨h1, h2, h3⟩ := h
  obtain ⟨x1, x2⟩ := hx.1 b (by rw [h1]; omega)
  refine ⟨x1.trans h1, x2.trans h2, fun i hi => ?_⟩
  obtain ⟨c, c1, c2, c3⟩ := h3 i hi
  obtain ⟨y1, y2⟩ := hx.1 c (by rw [c2]; exact hr)
  refine ⟨c, ?_, y1.trans c2, by rw [y2]; exact c3⟩
  rcases hκ with q | q
  · subst q
    exact ((hx.2.2.2 b i).1 h1).trans c1
  · subst q
    exact ((hx.2.2.2 b i).2 h1).trans c1
theorem rO_Q8 {S : bS} {b κ κr n a j : Nat} {v : Option Nat} {f : Nat → Nat → Prop} (h : rO S b κ κr n f) (hκ : κ ≠ 8) : rO (sQ S 8 a j v) b κ κr n f := by
  obtain ⟨h1, h2, h3⟩ := h
  refine ⟨h1, h2, fun i hi => ?_⟩
  obtain ⟨c, c1, c2, c3⟩ := h3 i hi
  exact ⟨c, by rw [gQ_sQ, if_neg (fun z => hκ z.1)]; exact c1, c2, c3⟩
theorem rO_12 {S : bS} {b n a j q : Nat} (h : rO S b 12 9 n (fun _ _ => True)) (hq : gK S q = 9) : rO (sQ S 12 a j (some q)) b 12 9 n (fun _ _ => True) := by
  obtain ⟨h1, h2, h3⟩ := h
  refine ⟨h1, h2, fun i hi => ?_⟩
  by_cases z : b = a ∧ i = j
  · exact ⟨q, by rw [gQ_sQ, if_pos ⟨rfl, z.1, z.2⟩], hq, trivial⟩
  · obtain ⟨c, c1, c2, c3⟩ := h3 i hi
    exact ⟨c, by rw [gQ_sQ, if_neg (fun y => z y.2)]; exact c1, c2, c3⟩
theorem rO_16o {S : bS} {b n a j : Nat} {v : Option Nat} {f : Nat → Nat → Prop} (h : rO S b 16 15 n f) : rO (sQ S 12 a j v) b 16 15 n f := by
  obtain ⟨h1, h2, h3⟩ := h
  refine ⟨h1, h2, fun i hi => ?_⟩
  obtain ⟨c, c1, c2, c3⟩ := h3 i hi
  exact ⟨c, by rw [gQ_sQ, if_neg (fun z => by have := z.1; omega)]; exact c1, c2, c3⟩
def rT : Nat → Nat → Prop := fun _ _ => True
/-- the copy of a net with n stations and T tubes, m of them out of each -/
def sI (S : bS) (q n T : Nat) (m : Nat → Nat) : Prop := gK S q = 8 ∧ (∃ b, gQ S 8 q 1 = some b ∧ rO S b 12 9 n rT) ∧ (∃ b, gQ S 8 q 2 = some b ∧ rO S b 12 9 T rT) ∧ (∃ b, gQ S 8 q 5 = some b ∧ rO S b 16 15 n rT) ∧ (∃ b, gQ S 8 q 6 = some b ∧ rO S b 16 15 T rT) ∧ ∃ b, gQ S 8 q 7 = some b ∧ rO S b 12 9 n (fun i k => k = m i)
theorem sI_ex {S S' : bS} {q n T : Nat} {m : Nat → Nat} (h : sI S q n T m) (hx : sEx S S') : sI S' q n T m := by
  obtain ⟨h0, ⟨b1, x1, y1⟩, ⟨b2, x2, y2⟩, ⟨b5, x5, y5⟩, ⟨b6, x6, y6⟩, b7, x7, y7⟩ := h
  obtain ⟨z1, -, -, z4, -⟩ := hx.1 q (by rw [h0]; decide)
  exact ⟨z1.trans h0, ⟨b1, (z4 8 1).trans x1, rO_ex y1 (by decide) (by decide) hx⟩, ⟨b2, (z4 8 2).trans x2, rO_ex y2 (by decide) (by decide) hx⟩, ⟨b5, (z4 8 5).trans x5, rO_ex y5 (by decide) (by decide) hx⟩, ⟨b6, (z4 8 6).trans x6, rO_ex y6 (by decide) (by decide) hx⟩, b7, (z4 8 7).trans x7, rO_ex y7 (by decide) (by decide) hx⟩
theorem sI_cF {S S' : bS} {A : Nat → Nat → Nat} {q n T : Nat} {m : Nat → Nat} (h : sI S q n T m) (hx : cF A S S') : sI S' q n T m := by
  obtain ⟨h0, ⟨b1, x1, y1⟩, ⟨b2, x2, y2⟩, ⟨b5, x5, y5⟩, ⟨b6, x6, y6⟩, b7, x7, y7⟩ := h
  have z1 := (hx.1 q (by rw [h0]; decide)).1
  have z4 := fun j => (hx.2.1 q j h0).2
  exact ⟨z1.trans h0, ⟨b1, (z4 1).trans x1, rO_cF y1 (Or.inl rfl) (by decide) hx⟩, ⟨b2, (z4 2).trans x2, rO_cF y2 (Or.inl rfl) (by decide) hx⟩, ⟨b5, (z4 5).trans x5, rO_cF y5 (Or.inr rfl) (by decide) hx⟩, ⟨b6, (z4 6).trans x6, rO_cF y6 (Or.inr rfl) (by decide) hx⟩, b7, (z4 7).trans x7, rO_cF y7 (Or.inl rfl) (by decide) hx⟩
/-- a row more -/
theorem C_more {S : bS} {p1 p2 n : Nat} {f : Nat → Nat → Prop} (h : rO S p1 12 9 n f) (h2 : gK S p2 = 9) (hn : n ≤ 100) {MC MS : Nat} (hMC : 1 ≤ MC) (hMS : n + 1 ≤ MS) {post : Option Nat → bS → Prop} (hp : ∀ S' q, sEx S S' → gK S q = 0 → rO S' q 12 9 (n + 1) (fun i k => (i < n → f i k) ∧ (i = n → k = gN S p2)) → post (some q) S') : wp_X7_more post MC MS p1 p2 S := by
  have ofn : (Int32.ofNat n : Int32) = nI n := rfl
  obtain ⟨h1, hN, h3⟩ := h
  have tc1 : Int32.toNatClampNeg (nI n + 1) = n + 1 := by rw [nI_1]; exact u_nI (by omega)
  have tcn : Int32.toNatClampNeg (nI n) = n := u_nI (by omega)
  unfold wp_X7_more
  rw [hN, ofn, tc1]
  refine ⟨h1, by rw [nI_1]; exact nI_pos (by omega), by omega, hMC, hMS, fun q hq => ⟨n + 1, ?_⟩⟩
  have loop : ∀ (m i : Nat) (X : bS), i + m = n → sEx S X → gK X q = 12 → gN X q = n + 1 → (∀ j, j < i → gQ X 12 q j = gQ S 12 p1 j) → wb_X7_more_10 post (m + 1) (MC - 1) (MS - (n + 1)) p1 p2 q (nI i) X := by
    intro m
    induction m with
    | zero =>
      intro i X hi hx kq nq hc
      obtain ⟨x1, x2, -, x4, -⟩ := hx.1 p1 (by rw [h1]; decide)
      obtain ⟨y1, y2, -⟩ := hx.1 p2 (by rw [h2]; decide)
      unfold wb_X7_more_10
      rw [x2, hN, ofn, tcn]
      refine ⟨x1.trans h1, fun _ => ⟨kq, by rw [nq]; exact vp_in_nI (by omega) (by omega), y1.trans h2, hp _ q (sEx_Q hq hx) hq ⟨kq, nq, fun j hj => ?_⟩⟩, fun z => absurd (nI_le (by omega) (by omega)) z⟩
      by_cases q2 : j = n
      · refine ⟨p2, by rw [gQ_sQ, if_pos ⟨rfl, rfl, q2⟩], y1.trans h2, fun z => absurd z (by omega), fun _ => y2⟩
      · obtain ⟨c, c1, c2, c3⟩ := h3 j (by omega)
        obtain ⟨z1, z2, -⟩ := hx.1 c (by rw [c2]; decide)
        refine ⟨c, by rw [gQ_sQ, if_neg (fun z => q2 z.2.2), hc j (by omega)]; exact c1, z1.trans c2, fun _ => ?_, fun z => absurd z q2⟩
        show f j (gN X c)
        rw [z2]
        exact c3
    | succ m ih =>
      intro i X hi hx kq nq hc
      obtain ⟨x1, x2, -, x4, -⟩ := hx.1 p1 (by rw [h1]; decide)
      obtain ⟨c, c1, c2, c3⟩ := h3 i (by omega)
      obtain ⟨z1, -⟩ := hx.1 c (by rw [c2]; decide)
      have tci : Int32.toNatClampNeg (nI i) = i := u_nI (by omega)
      unfold wb_X7_more_10
      rw [x2, hN, ofn, tci]
      refine ⟨x1.trans h1, fun z => absurd z (nI_ge (by omega) (by omega)), fun _ => ⟨vp_in_nI (by omega) (by omega), c, (x4 12 i).trans c1, kq, by rw [nq]; exact vp_in_nI (by omega) (by omega), z1.trans c2, ?_⟩⟩
      rw [nI_1]
      refine ih (i + 1) _ (by omega) (sEx_Q hq hx) kq nq (fun j hj => ?_)
      by_cases q2 : j = i
      · rw [gQ_sQ, if_pos ⟨rfl, rfl, q2⟩, q2, c1]
      · rw [gQ_sQ, if_neg (fun z => q2 z.2.2)]
        exact hc j (by omega)
  exact loop n 0 _ (by omega) (sEx_new hq (sEx_rf S)) (if_pos rfl) (if_pos rfl) (fun j hj => absurd hj (by omega))
