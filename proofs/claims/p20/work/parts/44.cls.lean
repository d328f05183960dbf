/-! ===== the class's objects ===== -/
/-- a time kept: 1000000 for none -/
def oV : Option Nat → Int32
  | none => 1000000
  | some x => nI x
def lvC (M : Nat → Nat → Int32) (i : Nat) : Prop := i < 4 ∨ (4 ≤ i ∧ i < 4 + nS M) ∨ (18 ≤ i ∧ i < 18 + nS M) ∨ (32 ≤ i ∧ i < 32 + nT M)
/-- the addresses in each list -/
def lsC (A : Nat → Nat → Nat) (M : Nat → Nat → Int32) (L : Nat → List Nat) (i : Nat) : List Nat :=
  if i = 0 then (List.range (nS M)).map (A 1) else if i = 1 then (List.range (nT M)).map (A 2) else if i = 2 then (List.range (nE M)).map (A 4) else if i = 3 then (List.range (nC M)).map (A 3)
  else if i < 18 then (List.range (mny M (i - 4))).map (fun k => A 2 (way M (i - 4) k)) else if i < 32 then (L (1 + (i - 18))).map (A 3) else (L (15 + (i - 32))).map (A 3)
/-- A 0: post, net; A 1 stations, A 2 tubes, A 3 carriers, A 4 entries, A 5 lists, A 6 the stations' rows of times -/
def oP (S : bS) (A : Nat → Nat → Nat) (M : Nat → Nat → Int32) : Prop := gK S (A 0 0) = 7 ∧ gQ S 7 (A 0 0) 0 = some (A 0 1) ∧ gQ S 7 (A 0 0) 1 = some (A 5 2) ∧ gQ S 7 (A 0 0) 2 = some (A 5 3) ∧ gV S 7 (A 0 0) 3 = M 0 1 ∧ gV S 7 (A 0 0) 4 = M 0 6 ∧ gV S 7 (A 0 0) 5 = M 0 7
def oNt (S : bS) (A : Nat → Nat → Nat) : Prop := gK S (A 0 1) = 4 ∧ gQ S 4 (A 0 1) 0 = some (A 5 0) ∧ gQ S 4 (A 0 1) 1 = some (A 5 1) ∧ True
/-- each station's row of times -/
def oAr (S : bS) (A : Nat → Nat → Nat) (M : Nat → Nat → Int32) : Prop := (∀ k, k < nS M → gQ S 5 (A 1 k) 5 = some (A 6 k) ∧ gK S (A 6 k) = 9 ∧ gN S (A 6 k) = 14) ∧ ∀ j k, j < nS M → k < nS M → A 6 j = A 6 k → j = k
theorem oAr_n {S : bS} {A : Nat → Nat → Nat} {M M' : Nat → Nat → Int32} (h : oAr S A M) (hn : nS M' = nS M) : oAr S A M' := by
  unfold oAr
  rw [hn]
  exact h
def oSt (S : bS) (A : Nat → Nat → Nat) (M : Nat → Nat → Int32) : Prop := ∀ s, s < nS M → gK S (A 1 s) = 5 ∧ gV S 5 (A 1 s) 0 = nI s ∧ gV S 5 (A 1 s) 1 = M 1 (9 * s + 0) ∧ gV S 5 (A 1 s) 2 = M 1 (9 * s + 1) ∧ gQ S 5 (A 1 s) 3 = some (A 5 (4 + s)) ∧ gQ S 5 (A 1 s) 4 = some (A 5 (18 + s)) ∧ gV S 5 (A 1 s) 8 = M 1 (9 * s + 3) ∧ gV S 5 (A 1 s) 9 = M 1 (9 * s + 4)
def oTb (S : bS) (A : Nat → Nat → Nat) (M : Nat → Nat → Int32) : Prop := ∀ t, t < nT M → gK S (A 2 t) = 6 ∧ gV S 6 (A 2 t) 0 = nI t ∧ gQ S 6 (A 2 t) 1 = some (A 1 (tFr M t)) ∧ gQ S 6 (A 2 t) 2 = some (A 1 (tTo M t)) ∧ gV S 6 (A 2 t) 3 = M 2 (8 * t + 2) ∧ gV S 6 (A 2 t) 4 = M 2 (8 * t + 4) ∧ gQ S 6 (A 2 t) 5 = some (A 5 (32 + t)) ∧ gV S 6 (A 2 t) 6 = M 2 (8 * t + 3) ∧ gV S 6 (A 2 t) 7 = nI (thr M t) ∧ gV S 6 (A 2 t) 8 = M 2 (8 * t + 5) ∧ gV S 6 (A 2 t) 9 = M 2 (8 * t + 6) ∧ gV S 6 (A 2 t) 10 = (if M 2 (8 * t + 7) = -1 then 0 else M 2 (8 * t + 7))
def oCa (S : bS) (A : Nat → Nat → Nat) (M : Nat → Nat → Int32) : Prop := ∀ c, c < nC M → gK S (A 3 c) = 2 ∧ gV S 2 (A 3 c) 0 = nI c ∧ gQ S 2 (A 3 c) 1 = some (A 1 (u (M 4 (9 * c + 2)))) ∧ gV S 2 (A 3 c) 2 = M 4 (9 * c + 3) ∧ gV S 2 (A 3 c) 3 = M 4 (9 * c + 4) ∧ gV S 2 (A 3 c) 4 = M 4 (9 * c + 0) ∧ gV S 2 (A 3 c) 5 = M 4 (9 * c + 1) ∧ gV S 2 (A 3 c) 6 = M 4 (9 * c + 5) ∧ (M 4 (9 * c + 0) = 2 → gV S 2 (A 3 c) 7 = M 4 (9 * c + 8)) ∧ gV S 2 (A 3 c) 8 = M 4 (9 * c + 6)
def oEn (S : bS) (A : Nat → Nat → Nat) (M : Nat → Nat → Int32) : Prop := ∀ e, e < nE M → gK S (A 4 e) = 3 ∧ ∀ w, w < 5 → gV S 3 (A 4 e) w = M 3 (5 * e + w)
def oIn (A : Nat → Nat → Nat) (M : Nat → Nat → Int32) : Prop := (∀ a b, a < nS M → b < nS M → A 1 a = A 1 b → a = b) ∧ (∀ a b, a < nT M → b < nT M → A 2 a = A 2 b → a = b) ∧ ∀ a b, a < nC M → b < nC M → A 3 a = A 3 b → a = b
def oTm (S : bS) (A : Nat → Nat → Nat) (M : Nat → Nat → Int32) : Prop := ∀ k, k < nS M → gV S 5 (A 1 k) 6 = 0 ∨ (gV S 5 (A 1 k) 6 = 1 ∧ ∀ v, v < nS M → gV S 9 (A 6 k) v = oV (dD M k v))
def cO (S : bS) (A : Nat → Nat → Nat) (M : Nat → Nat → Int32) : Prop := oP S A M ∧ oNt S A ∧ oAr S A M ∧ oSt S A M ∧ oTb S A M ∧ oCa S A M ∧ oEn S A M ∧ oIn A M ∧ oTm S A M
def cL (S : bS) (A : Nat → Nat → Nat) (cp : Nat → Nat) (M : Nat → Nat → Int32) (L : Nat → List Nat) : Prop := ∃ ea, LSr S (lvC M) (A 5) ea (lsC A M L) cp
/-- the class's store has the value -/
def cR (S : bS) (A : Nat → Nat → Nat) (cp : Nat → Nat) (P : pP) : Prop := cO S A P.1 ∧ cL S A cp P.1 P.2
/-- what is not the class's is as before -/
def cF (A : Nat → Nat → Nat) (S S' : bS) : Prop := (∀ a, gK S a ≠ 0 → gK S' a = gK S a ∧ gN S' a = gN S a) ∧ (∀ a j, gK S a = 8 → gV S' 8 a j = gV S 8 a j ∧ gQ S' 8 a j = gQ S 8 a j) ∧ (∀ a j, gK S a = 9 → (∀ k, a ≠ A 6 k) → gV S' 9 a j = gV S 9 a j) ∧ ∀ a j, (gK S a = 12 → gQ S' 12 a j = gQ S 12 a j) ∧ (gK S a = 16 → gQ S' 16 a j = gQ S 16 a j)
theorem cF_rf (A : Nat → Nat → Nat) (S : bS) : cF A S S := ⟨fun _ _ => ⟨rfl, rfl⟩, fun _ _ _ => ⟨rfl, rfl⟩, fun _ _ _ _ => rfl, fun _ _ => ⟨fun _ => rfl, fun _ => rfl⟩⟩
theorem cF_tr {A : Nat → Nat → Nat} {S S' S'' : bS} (h : cF A S S') (h' : cF A S' S'') : cF A S S'' := by
  obtain ⟨a1, a2, a3, a4⟩ := h
  obtain ⟨b1, b2, b3, b4⟩ := h'
  have hk : ∀ a, gK S a ≠ 0 → gK S' a = gK S a := fun a ha => (a1 a ha).1
  refine ⟨fun a ha => ?_, fun a j ha => ?_, fun a j ha h3 => ?_, fun a j => ⟨fun ha => ?_, fun ha => ?_⟩⟩
  · obtain ⟨x1, x2⟩ := a1 a ha
    obtain ⟨y1, y2⟩ := b1 a (by rw [x1]; exact ha)
    exact ⟨y1.trans x1, y2.trans x2⟩
  · have e := hk a (by rw [ha]; decide)
    obtain ⟨x1, x2⟩ := a2 a j ha
    obtain ⟨y1, y2⟩ := b2 a j (by rw [e, ha])
    exact ⟨y1.trans x1, y2.trans x2⟩
  · have e := hk a (by rw [ha]; decide)
    exact (b3 a j (by rw [e, ha]) h3).trans (a3 a j ha h3)
  · have e := hk a (by rw [ha]; decide)
    exact ((b4 a j).1 (by rw [e, ha])).trans ((a4 a j).1 ha)
  · have e := hk a (by rw [ha]; decide)
    exact ((b4 a j).2 (by rw [e, ha])).trans ((a4 a j).2 ha)
theorem cF_l {A : Nat → Nat → Nat} {S S' : bS} (h : lF S S') : cF A S S' := by
  obtain ⟨⟨a1, -⟩, a2, a3, a4⟩ := h
  exact ⟨a1, fun a j ha => ⟨a2 8 a j (by decide) (by rw [ha]; decide), a3 8 a j (by decide) (by decide) (by rw [ha]; decide)⟩, fun a j ha _ => a2 9 a j (by decide) (by rw [ha]; decide), fun a j => ⟨fun ha => a3 12 a j (by decide) (by decide) (by rw [ha]; decide), fun ha => a3 16 a j (by decide) (by decide) (by rw [ha]; decide)⟩⟩
/-- the objects are as before where only lists changed -/
theorem cO_l {A : Nat → Nat → Nat} {M : Nat → Nat → Int32} {S S' : bS} (h : cO S A M) (hl : lF S S') : cO S' A M := by
  obtain ⟨⟨a1, -⟩, a2, a3, a4⟩ := hl
  obtain ⟨p, n, ar, st, tb, ca, en, inj, tm⟩ := h
  have K : ∀ {a k : Nat}, gK S a = k → k ≠ 0 → gK S' a = k := fun h h0 => by rw [(a1 _ (by rw [h]; exact h0)).1]; exact h
  have N : ∀ {a k n : Nat}, gK S a = k → k ≠ 0 → gN S a = n → gN S' a = n := fun h h0 hn => by rw [(a1 _ (by rw [h]; exact h0)).2]; exact hn
  have V : ∀ {a k : Nat} (κ j : Nat), gK S a = k → k ≠ 0 → κ ≠ 1 → gV S' κ a j = gV S κ a j := fun κ j h h0 h1 => a2 κ _ j h1 (by rw [h]; exact h0)
  have Q : ∀ {a k : Nat} (κ j : Nat), gK S a = k → k ≠ 0 → κ ≠ 1 → κ ≠ 11 → gQ S' κ a j = gQ S κ a j := fun κ j h h0 h1 h2 => a3 κ _ j h1 h2 (by rw [h]; exact h0)
  refine ⟨?_, ?_, ?_, fun s hs => ?_, fun t ht => ?_, fun c hc => ?_, fun e he => ?_, inj, fun k hk => ?_⟩
  · obtain ⟨h, p2⟩ := p
    unfold oP
    rw [Q 7 0 h (by decide) (by decide) (by decide), Q 7 1 h (by decide) (by decide) (by decide), Q 7 2 h (by decide) (by decide) (by decide), V 7 3 h (by decide) (by decide), V 7 4 h (by decide) (by decide), V 7 5 h (by decide) (by decide)]
    exact ⟨K h (by decide), p2⟩
  · obtain ⟨h, p2⟩ := n
    unfold oNt
    rw [Q 4 0 h (by decide) (by decide) (by decide), Q 4 1 h (by decide) (by decide) (by decide)]
    exact ⟨K h (by decide), p2⟩
  · obtain ⟨x6, x7⟩ := ar
    refine ⟨fun k hk => ?_, x7⟩
    obtain ⟨y1, y2, y3⟩ := x6 k hk
    rw [Q 5 5 (st k hk).1 (by decide) (by decide) (by decide)]
    exact ⟨y1, K y2 (by decide), N y2 (by decide) y3⟩
  · obtain ⟨h, p2⟩ := st s hs
    rw [V 5 0 h (by decide) (by decide), V 5 1 h (by decide) (by decide), V 5 2 h (by decide) (by decide), V 5 8 h (by decide) (by decide), V 5 9 h (by decide) (by decide), Q 5 3 h (by decide) (by decide) (by decide), Q 5 4 h (by decide) (by decide) (by decide)]
    exact ⟨K h (by decide), p2⟩
  · obtain ⟨h, p2⟩ := tb t ht
    rw [V 6 0 h (by decide) (by decide), V 6 3 h (by decide) (by decide), V 6 4 h (by decide) (by decide), V 6 6 h (by decide) (by decide), V 6 7 h (by decide) (by decide), V 6 8 h (by decide) (by decide), V 6 9 h (by decide) (by decide), V 6 10 h (by decide) (by decide), Q 6 1 h (by decide) (by decide) (by decide), Q 6 2 h (by decide) (by decide) (by decide), Q 6 5 h (by decide) (by decide) (by decide)]
    exact ⟨K h (by decide), p2⟩
  · obtain ⟨h, p2⟩ := ca c hc
    rw [V 2 0 h (by decide) (by decide), V 2 2 h (by decide) (by decide), V 2 3 h (by decide) (by decide), V 2 4 h (by decide) (by decide), V 2 5 h (by decide) (by decide), V 2 6 h (by decide) (by decide), V 2 7 h (by decide) (by decide), V 2 8 h (by decide) (by decide), Q 2 1 h (by decide) (by decide) (by decide)]
    exact ⟨K h (by decide), p2⟩
  · obtain ⟨h, p2⟩ := en e he
    refine ⟨K h (by decide), fun w hw => ?_⟩
    rw [V 3 w h (by decide) (by decide)]
    exact p2 w hw
  · have h5 := (st k hk).1
    have h9 := (ar.1 k hk).2.1
    rw [V 5 6 h5 (by decide) (by decide)]
    rcases tm k hk with x | ⟨x1, x3⟩
    · exact Or.inl x
    · refine Or.inr ⟨x1, fun v hv => ?_⟩
      rw [V 9 v h9 (by decide) (by decide)]
      exact x3 v hv
