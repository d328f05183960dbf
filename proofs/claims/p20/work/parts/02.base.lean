/-! ===== the world: one store of kinds, lengths, numbers, references ===== -/
abbrev bCl : List vw_C := [(RJx4a65c, TJx4a65c, 3), (RX0, TX0, 9), (RX0, TX0, 9), (RX2, TX2, 2), (RX3, TX3, 10), (RX4, TX4, 11), (RX5, TX5, 6), (RX7, TX7, 10)]
/-- kind of each cell (1 a list, 2 carrier, 3 entry, 4 net, 5 station, 6 tube, 7 post, 8 the law's table; 9 ints, 10 booleans, 11 objects, 12 rows of ints, 14 the empty row, 15 the law's carriers, 16 rows of these, 17 rows of booleans), its length, its numbers, its references, its longs: by kind, address, place -/
abbrev bS : Type := (Nat → Nat) × (Nat → Nat) × (Nat → Nat → Nat → Int32) × (Nat → Nat → Nat → Option Nat) × (Nat → Nat → Int64)
def gK (S : bS) (a : Nat) : Nat := S.1 a
def gN (S : bS) (a : Nat) : Nat := S.2.1 a
def gV (S : bS) (κ a j : Nat) : Int32 := S.2.2.1 κ a j
def gQ (S : bS) (κ a j : Nat) : Option Nat := S.2.2.2.1 κ a j
def gL (S : bS) (a j : Nat) : Int64 := S.2.2.2.2 a j
def sV (S : bS) (κ a j : Nat) (x : Int32) : bS := (S.1, S.2.1, (fun κ' a' j' => if κ' = κ ∧ a' = a ∧ j' = j then x else S.2.2.1 κ' a' j'), S.2.2.2)
def sQ (S : bS) (κ a j : Nat) (x : Option Nat) : bS := (S.1, S.2.1, S.2.2.1, (fun κ' a' j' => if κ' = κ ∧ a' = a ∧ j' = j then x else S.2.2.2.1 κ' a' j'), S.2.2.2.2)
def sL (S : bS) (a j : Nat) (x : Int64) : bS := (S.1, S.2.1, S.2.2.1, S.2.2.2.1, (fun a' j' => if a' = a ∧ j' = j then x else S.2.2.2.2 a' j'))
/-- a whole row of numbers, of references -/
def sF (S : bS) (κ a : Nat) (f : Nat → Int32) : bS := (S.1, S.2.1, (fun κ' a' j' => if κ' = κ ∧ a' = a then f j' else S.2.2.1 κ' a' j'), S.2.2.2)
def sG (S : bS) (κ a : Nat) (f : Nat → Option Nat) : bS := (S.1, S.2.1, S.2.2.1, (fun κ' a' j' => if κ' = κ ∧ a' = a then f j' else S.2.2.2.1 κ' a' j'), S.2.2.2.2)
/-- a new cell of a kind -/
def sNew (S : bS) (a κ n : Nat) : bS := ((fun b => if b = a then κ else S.1 b), (fun b => if b = a then n else S.2.1 b), (fun κ' b j => if b = a then 0 else S.2.2.1 κ' b j), (fun κ' b j => if b = a then none else S.2.2.2.1 κ' b j), (fun b j => if b = a then 0 else S.2.2.2.2 b j))
theorem gK_sV (S : bS) (κ a j : Nat) (x : Int32) (b : Nat) : gK (sV S κ a j x) b = gK S b := rfl
theorem gK_sQ (S : bS) (κ a j : Nat) (x : Option Nat) (b : Nat) : gK (sQ S κ a j x) b = gK S b := rfl
theorem gK_sL (S : bS) (a j : Nat) (x : Int64) (b : Nat) : gK (sL S a j x) b = gK S b := rfl
theorem gK_sF (S : bS) (κ a : Nat) (f : Nat → Int32) (b : Nat) : gK (sF S κ a f) b = gK S b := rfl
theorem gK_sG (S : bS) (κ a : Nat) (f : Nat → Option Nat) (b : Nat) : gK (sG S κ a f) b = gK S b := rfl
theorem gN_sV (S : bS) (κ a j : Nat) (x : Int32) (b : Nat) : gN (sV S κ a j x) b = gN S b := rfl
theorem gN_sQ (S : bS) (κ a j : Nat) (x : Option Nat) (b : Nat) : gN (sQ S κ a j x) b = gN S b := rfl
theorem gN_sL (S : bS) (a j : Nat) (x : Int64) (b : Nat) : gN (sL S a j x) b = gN S b := rfl
theorem gN_sF (S : bS) (κ a : Nat) (f : Nat → Int32) (b : Nat) : gN (sF S κ a f) b = gN S b := rfl
theorem gN_sG (S : bS) (κ a : Nat) (f : Nat → Option Nat) (b : Nat) : gN (sG S κ a f) b = gN S b := rfl
theorem gV_sV (S : bS) (κ a j : Nat) (x : Int32) (κ2 b i : Nat) : gV (sV S κ a j x) κ2 b i = if κ2 = κ ∧ b = a ∧ i = j then x else gV S κ2 b i := rfl
theorem gV_sQ (S : bS) (κ a j : Nat) (x : Option Nat) (κ2 b i : Nat) : gV (sQ S κ a j x) κ2 b i = gV S κ2 b i := rfl
theorem gV_sL (S : bS) (a j : Nat) (x : Int64) (κ2 b i : Nat) : gV (sL S a j x) κ2 b i = gV S κ2 b i := rfl
theorem gV_sF (S : bS) (κ a : Nat) (f : Nat → Int32) (κ2 b i : Nat) : gV (sF S κ a f) κ2 b i = if κ2 = κ ∧ b = a then f i else gV S κ2 b i := rfl
theorem gV_sG (S : bS) (κ a : Nat) (f : Nat → Option Nat) (κ2 b i : Nat) : gV (sG S κ a f) κ2 b i = gV S κ2 b i := rfl
theorem gQ_sV (S : bS) (κ a j : Nat) (x : Int32) (κ2 b i : Nat) : gQ (sV S κ a j x) κ2 b i = gQ S κ2 b i := rfl
theorem gQ_sQ (S : bS) (κ a j : Nat) (x : Option Nat) (κ2 b i : Nat) : gQ (sQ S κ a j x) κ2 b i = if κ2 = κ ∧ b = a ∧ i = j then x else gQ S κ2 b i := rfl
theorem gQ_sL (S : bS) (a j : Nat) (x : Int64) (κ2 b i : Nat) : gQ (sL S a j x) κ2 b i = gQ S κ2 b i := rfl
theorem gQ_sF (S : bS) (κ a : Nat) (f : Nat → Int32) (κ2 b i : Nat) : gQ (sF S κ a f) κ2 b i = gQ S κ2 b i := rfl
theorem gQ_sG (S : bS) (κ a : Nat) (f : Nat → Option Nat) (κ2 b i : Nat) : gQ (sG S κ a f) κ2 b i = if κ2 = κ ∧ b = a then f i else gQ S κ2 b i := rfl
theorem gL_sV (S : bS) (κ a j : Nat) (x : Int32) (b i : Nat) : gL (sV S κ a j x) b i = gL S b i := rfl
theorem gL_sQ (S : bS) (κ a j : Nat) (x : Option Nat) (b i : Nat) : gL (sQ S κ a j x) b i = gL S b i := rfl
theorem gL_sL (S : bS) (a j : Nat) (x : Int64) (b i : Nat) : gL (sL S a j x) b i = if b = a ∧ i = j then x else gL S b i := rfl
theorem gL_sF (S : bS) (κ a : Nat) (f : Nat → Int32) (b i : Nat) : gL (sF S κ a f) b i = gL S b i := rfl
theorem gL_sG (S : bS) (κ a : Nat) (f : Nat → Option Nat) (b i : Nat) : gL (sG S κ a f) b i = gL S b i := rfl
theorem gK_sNew (S : bS) (a κ n : Nat) (b : Nat) : gK (sNew S a κ n) b = if b = a then κ else gK S b := rfl
theorem gN_sNew (S : bS) (a κ n : Nat) (b : Nat) : gN (sNew S a κ n) b = if b = a then n else gN S b := rfl
theorem gV_sNew (S : bS) (a κ n : Nat) (κ2 b i : Nat) : gV (sNew S a κ n) κ2 b i = if b = a then 0 else gV S κ2 b i := rfl
theorem gQ_sNew (S : bS) (a κ n : Nat) (κ2 b i : Nat) : gQ (sNew S a κ n) κ2 b i = if b = a then none else gQ S κ2 b i := rfl
theorem gL_sNew (S : bS) (a κ n : Nat) (b i : Nat) : gL (sNew S a κ n) b i = if b = a then 0 else gL S b i := rfl
/-- the cell at an address, as the store has it -/
def ce (y : Nat → ClassId) (S : bS) (a : Nat) : Option va_E := match gK S a with
  | 1 => some (.inr (0, [.int (gV S 1 a 0), va_rf (gQ S 1 a 1), .int (gV S 1 a 2)]))
  | 2 => some (.inr (1, [.int (gV S 2 a 0), va_rf (gQ S 2 a 1), .int (gV S 2 a 2), .int (gV S 2 a 3), .int (gV S 2 a 4), .int (gV S 2 a 5), .int (gV S 2 a 6), .int (gV S 2 a 7), .int (gV S 2 a 8)]))
  | 3 => some (.inr (2, [.int (gV S 3 a 0), va_rf (gQ S 3 a 1), .int (gV S 3 a 2), .int (gV S 3 a 3), .int (gV S 3 a 4), .int (gV S 3 a 5), .int (gV S 3 a 6), .int (gV S 3 a 7), .int (gV S 3 a 8)]))
  | 4 => some (.inr (3, [va_rf (gQ S 4 a 0), va_rf (gQ S 4 a 1)]))
  | 5 => some (.inr (4, [.int (gV S 5 a 0), .int (gV S 5 a 1), .int (gV S 5 a 2), va_rf (gQ S 5 a 3), va_rf (gQ S 5 a 4), va_rf (gQ S 5 a 5), .int (gV S 5 a 6), .int (gV S 5 a 7), .int (gV S 5 a 8), .int (gV S 5 a 9)]))
  | 6 => some (.inr (5, [.int (gV S 6 a 0), va_rf (gQ S 6 a 1), va_rf (gQ S 6 a 2), .int (gV S 6 a 3), .int (gV S 6 a 4), va_rf (gQ S 6 a 5), .int (gV S 6 a 6), .int (gV S 6 a 7), .int (gV S 6 a 8), .int (gV S 6 a 9), .int (gV S 6 a 10)]))
  | 7 => some (.inr (6, [va_rf (gQ S 7 a 0), va_rf (gQ S 7 a 1), va_rf (gQ S 7 a 2), .int (gV S 7 a 3), .int (gV S 7 a 4), .int (gV S 7 a 5)]))
  | 8 => some (.inr (7, [.int (gV S 8 a 0), va_rf (gQ S 8 a 1), va_rf (gQ S 8 a 2), va_rf (gQ S 8 a 3), va_rf (gQ S 8 a 4), va_rf (gQ S 8 a 5), va_rf (gQ S 8 a 6), va_rf (gQ S 8 a 7), .int (gV S 8 a 8), .int (gV S 8 a 9)]))
  | 9 => some (.inl (y 0, gN S a, .inl (fun j => gV S 9 a j)))
  | 10 => some (.inl (y 1, gN S a, .inl (fun j => gV S 10 a j)))
  | 11 => some (.inl (y 2, gN S a, .inr (.inr (.inr (.inr (fun j => gQ S 11 a j))))))
  | 12 => some (.inl (y 3, gN S a, .inr (.inr (.inr (.inr (fun j => gQ S 12 a j))))))
  | 13 => some (.inl (y 0, gN S a, .inl (fun j => gV S 13 a j)))
  | 15 => some (.inl (y 4, gN S a, .inr (.inr (.inr (.inr (fun j => gQ S 15 a j))))))
  | 16 => some (.inl (y 5, gN S a, .inr (.inr (.inr (.inr (fun j => gQ S 16 a j))))))
  | 17 => some (.inl (y 6, gN S a, .inr (.inr (.inr (.inr (fun j => gQ S 17 a j))))))
  | _ => none
theorem ce_1 {y : Nat → ClassId} {S : bS} {a : Nat} (h : gK S a = 1) : ce y S a = some (.inr (0, [.int (gV S 1 a 0), va_rf (gQ S 1 a 1), .int (gV S 1 a 2)])) := by unfold ce; rw [h]; rfl
theorem ce_2 {y : Nat → ClassId} {S : bS} {a : Nat} (h : gK S a = 2) : ce y S a = some (.inr (1, [.int (gV S 2 a 0), va_rf (gQ S 2 a 1), .int (gV S 2 a 2), .int (gV S 2 a 3), .int (gV S 2 a 4), .int (gV S 2 a 5), .int (gV S 2 a 6), .int (gV S 2 a 7), .int (gV S 2 a 8)])) := by unfold ce; rw [h]; rfl
theorem ce_3 {y : Nat → ClassId} {S : bS} {a : Nat} (h : gK S a = 3) : ce y S a = some (.inr (2, [.int (gV S 3 a 0), va_rf (gQ S 3 a 1), .int (gV S 3 a 2), .int (gV S 3 a 3), .int (gV S 3 a 4), .int (gV S 3 a 5), .int (gV S 3 a 6), .int (gV S 3 a 7), .int (gV S 3 a 8)])) := by unfold ce; rw [h]; rfl
theorem ce_4 {y : Nat → ClassId} {S : bS} {a : Nat} (h : gK S a = 4) : ce y S a = some (.inr (3, [va_rf (gQ S 4 a 0), va_rf (gQ S 4 a 1)])) := by unfold ce; rw [h]; rfl
theorem ce_5 {y : Nat → ClassId} {S : bS} {a : Nat} (h : gK S a = 5) : ce y S a = some (.inr (4, [.int (gV S 5 a 0), .int (gV S 5 a 1), .int (gV S 5 a 2), va_rf (gQ S 5 a 3), va_rf (gQ S 5 a 4), va_rf (gQ S 5 a 5), .int (gV S 5 a 6), .int (gV S 5 a 7), .int (gV S 5 a 8), .int (gV S 5 a 9)])) := by unfold ce; rw [h]; rfl
theorem ce_6 {y : Nat → ClassId} {S : bS} {a : Nat} (h : gK S a = 6) : ce y S a = some (.inr (5, [.int (gV S 6 a 0), va_rf (gQ S 6 a 1), va_rf (gQ S 6 a 2), .int (gV S 6 a 3), .int (gV S 6 a 4), va_rf (gQ S 6 a 5), .int (gV S 6 a 6), .int (gV S 6 a 7), .int (gV S 6 a 8), .int (gV S 6 a 9), .int (gV S 6 a 10)])) := by unfold ce; rw [h]; rfl
theorem ce_7 {y : Nat → ClassId} {S : bS} {a : Nat} (h : gK S a = 7) : ce y S a = some (.inr (6, [va_rf (gQ S 7 a 0), va_rf (gQ S 7 a 1), va_rf (gQ S 7 a 2), .int (gV S 7 a 3), .int (gV S 7 a 4), .int (gV S 7 a 5)])) := by unfold ce; rw [h]; rfl
theorem ce_8 {y : Nat → ClassId} {S : bS} {a : Nat} (h : gK S a = 8) : ce y S a = some (.inr (7, [.int (gV S 8 a 0), va_rf (gQ S 8 a 1), va_rf (gQ S 8 a 2), va_rf (gQ S 8 a 3), va_rf (gQ S 8 a 4), va_rf (gQ S 8 a 5), va_rf (gQ S 8 a 6), va_rf (gQ S 8 a 7), .int (gV S 8 a 8), .int (gV S 8 a 9)])) := by unfold ce; rw [h]; rfl
theorem ce_9 {y : Nat → ClassId} {S : bS} {a : Nat} (h : gK S a = 9) : ce y S a = some (.inl (y 0, gN S a, .inl (fun j => gV S 9 a j))) := by unfold ce; rw [h]; rfl
theorem ce_10 {y : Nat → ClassId} {S : bS} {a : Nat} (h : gK S a = 10) : ce y S a = some (.inl (y 1, gN S a, .inl (fun j => gV S 10 a j))) := by unfold ce; rw [h]; rfl
theorem ce_11 {y : Nat → ClassId} {S : bS} {a : Nat} (h : gK S a = 11) : ce y S a = some (.inl (y 2, gN S a, .inr (.inr (.inr (.inr (fun j => gQ S 11 a j)))))) := by unfold ce; rw [h]; rfl
theorem ce_12 {y : Nat → ClassId} {S : bS} {a : Nat} (h : gK S a = 12) : ce y S a = some (.inl (y 3, gN S a, .inr (.inr (.inr (.inr (fun j => gQ S 12 a j)))))) := by unfold ce; rw [h]; rfl
theorem ce_13 {y : Nat → ClassId} {S : bS} {a : Nat} (h : gK S a = 13) : ce y S a = some (.inl (y 0, gN S a, .inl (fun j => gV S 13 a j))) := by unfold ce; rw [h]; rfl
theorem ce_15 {y : Nat → ClassId} {S : bS} {a : Nat} (h : gK S a = 15) : ce y S a = some (.inl (y 4, gN S a, .inr (.inr (.inr (.inr (fun j => gQ S 15 a j)))))) := by unfold ce; rw [h]; rfl
theorem ce_16 {y : Nat → ClassId} {S : bS} {a : Nat} (h : gK S a = 16) : ce y S a = some (.inl (y 5, gN S a, .inr (.inr (.inr (.inr (fun j => gQ S 16 a j)))))) := by unfold ce; rw [h]; rfl
theorem ce_17 {y : Nat → ClassId} {S : bS} {a : Nat} (h : gK S a = 17) : ce y S a = some (.inl (y 6, gN S a, .inr (.inr (.inr (.inr (fun j => gQ S 17 a j)))))) := by unfold ce; rw [h]; rfl
theorem ce_same {y : Nat → ClassId} {S S' : bS} {b : Nat} (h1 : gK S' b = gK S b) (h2 : gN S' b = gN S b) (h3 : ∀ κ j, gV S' κ b j = gV S κ b j) (h4 : ∀ κ j, gQ S' κ b j = gQ S κ b j) (h5 : ∀ j, gL S' b j = gL S b j) : ce y S' b = ce y S b := by
  unfold ce
  rw [h1]
  simp only [h2, h3, h4, h5]
theorem ce_sV {y : Nat → ClassId} {S : bS} {κ a j : Nat} {x : Int32} {b : Nat} (h : b ≠ a) : ce y (sV S κ a j x) b = ce y S b := ce_same rfl rfl (fun κ2 i => by rw [gV_sV, if_neg (fun q => h q.2.1)]) (fun _ _ => rfl) (fun _ => rfl)
theorem ce_sQ {y : Nat → ClassId} {S : bS} {κ a j : Nat} {x : Option Nat} {b : Nat} (h : b ≠ a) : ce y (sQ S κ a j x) b = ce y S b := ce_same rfl rfl (fun _ _ => rfl) (fun κ2 i => by rw [gQ_sQ, if_neg (fun q => h q.2.1)]) (fun _ => rfl)
theorem ce_sL {y : Nat → ClassId} {S : bS} {a j : Nat} {x : Int64} {b : Nat} (h : b ≠ a) : ce y (sL S a j x) b = ce y S b := ce_same rfl rfl (fun _ _ => rfl) (fun _ _ => rfl) (fun i => by rw [gL_sL, if_neg (fun q => h q.1)])
theorem ce_sF {y : Nat → ClassId} {S : bS} {κ a : Nat} {f : Nat → Int32} {b : Nat} (h : b ≠ a) : ce y (sF S κ a f) b = ce y S b := ce_same rfl rfl (fun κ2 i => by rw [gV_sF, if_neg (fun q => h q.2)]) (fun _ _ => rfl) (fun _ => rfl)
theorem ce_sG {y : Nat → ClassId} {S : bS} {κ a : Nat} {f : Nat → Option Nat} {b : Nat} (h : b ≠ a) : ce y (sG S κ a f) b = ce y S b := ce_same rfl rfl (fun _ _ => rfl) (fun κ2 i => by rw [gQ_sG, if_neg (fun q => h q.2)]) (fun _ => rfl)
theorem ce_sNew {y : Nat → ClassId} {S : bS} {a κ n b : Nat} (h : b ≠ a) : ce y (sNew S a κ n) b = ce y S b := ce_same (if_neg h) (if_neg h) (fun _ _ => if_neg h) (fun _ _ => if_neg h) (fun _ => if_neg h)

/-- the store knows its kinds, and the lists' shared empty row z (kind 14, of no length), which is no cell of the world -/
def wk (z : Nat) (S : bS) : Prop := (∀ a, gK S a = 14 ↔ a = z) ∧ gN S z = 0 ∧ ∀ a, gK S a ≤ 17
/-- the heap holds the store: some list of cells has each of its cells -/
def wd (D : va_G) (y : Nat → ClassId) (z : Nat) (S : bS) (A : Nat → Prop) (H : Heap) : Prop := (∃ ws : va_W, va_P D bCl ws H ∧ va_D A ws ∧ ∀ (a : Nat) (e : va_E), ce y S a = some e → ∃ k : Nat, ws[k]? = some (a, e)) ∧ wk z S
theorem wd_set {D : va_G} {y : Nat → ClassId} {z : Nat} {S : bS} {A : Nat → Prop} {H : Heap} {ws : va_W} {k a : Nat} {e0 e : va_E} (hx : ∀ (a : Nat) (e : va_E), ce y S a = some e → ∃ k : Nat, ws[k]? = some (a, e)) (hk : ws[k]? = some (a, e0)) (hP1 : va_P D bCl (ws.set k (a, e)) H) (hD1 : va_D A (ws.set k (a, e))) {S' : bS} (h1 : ∀ b, b ≠ a → ce y S' b = ce y S b) (h2 : ce y S' a = some e) (hw : wk z S') : wd D y z S' A H := by
  refine ⟨⟨_, hP1, hD1, fun b eb hb => ?_⟩, hw⟩
  by_cases hba : b = a
  · subst hba
    rw [h2] at hb
    cases hb
    exact ⟨k, List.getElem?_set_self (List.getElem?_eq_some_iff.mp hk).1⟩
  · rw [h1 b hba] at hb
    obtain ⟨k', hk'⟩ := hx b eb hb
    refine ⟨k', ?_⟩
    have hne : k ≠ k' := by
      intro q
      subst q
      rw [hk] at hk'
      cases hk'
      exact hba rfl
    rw [List.getElem?_set_ne hne]
    exact hk'
theorem wd_push {D : va_G} {y : Nat → ClassId} {z : Nat} {S : bS} {A : Nat → Prop} {H : Heap} {ws : va_W} {a : Nat} {e : va_E} (hx : ∀ (a : Nat) (e : va_E), ce y S a = some e → ∃ k : Nat, ws[k]? = some (a, e)) (hw : wk z S) (hz : ¬ A z) (hP1 : va_P D bCl (ws ++ [(a, e)]) H) (hD1 : va_D A (ws ++ [(a, e)])) : gK S a = 0 ∧ ∀ κ n : Nat, (κ ≠ 14 ∧ κ ≤ 17) → ce y (sNew S a κ n) a = some e → wd D y z (sNew S a κ n) A H := by
  have hlast : (ws ++ [(a, e)])[ws.length]? = some (a, e) := by simp
  have hAa : A a := hD1.2 _ _ hlast
  have hza : a ≠ z := fun q => hz (q ▸ hAa)
  have hn : ce y S a = none := by
    cases h : ce y S a with
    | none => rfl
    | some e' =>
      obtain ⟨k, hk⟩ := hx a e' h
      have hl := (List.getElem?_eq_some_iff.mp hk).1
      have hk2 : (ws ++ [(a, e)])[k]? = some (a, e') := by rw [List.getElem?_append_left hl]; exact hk
      have := hD1.1 k ws.length _ _ hk2 hlast rfl
      omega
  have h0 : gK S a = 0 := by
    have h14 : gK S a ≠ 14 := fun q => hza ((hw.1 a).mp q)
    have hle := hw.2.2 a
    generalize hk : gK S a = k at *
    rcases k with _ | _ | _ | _ | _ | _ | _ | _ | _ | _ | _ | _ | _ | _ | _ | _ | _ | _ | k
    · rfl
    all_goals first | omega | (exfalso; unfold ce at hn; rw [hk] at hn; cases hn)
  refine ⟨h0, fun κ n hκ h2 => ⟨⟨_, hP1, hD1, fun b eb hb => ?_⟩, ⟨fun b => ?_, ?_, fun b => ?_⟩⟩⟩
  · by_cases hba : b = a
    · subst hba
      rw [h2] at hb
      cases hb
      exact ⟨_, hlast⟩
    · rw [ce_sNew hba] at hb
      obtain ⟨k, hk⟩ := hx b eb hb
      exact ⟨k, by rw [List.getElem?_append_left (List.getElem?_eq_some_iff.mp hk).1]; exact hk⟩
  · rw [gK_sNew]
    by_cases hba : b = a
    · rw [if_pos hba]
      constructor
      · intro q; omega
      · intro q; exact absurd (hba.symm.trans q) hza
    · rw [if_neg hba]
      exact hw.1 b
  · rw [gN_sNew, if_neg (Ne.symm hza)]
    exact hw.2.1
  · rw [gK_sNew]
    by_cases hba : b = a
    · rw [if_pos hba]; omega
    · rw [if_neg hba]; exact hw.2.2 b
theorem wk_of {z : Nat} {S S' : bS} (h : wk z S) (h1 : ∀ a, gK S' a = gK S a) (h2 : ∀ a, gN S' a = gN S a) : wk z S' := ⟨fun a => by rw [h1]; exact h.1 a, by rw [h2]; exact h.2.1, fun a => by rw [h1]; exact h.2.2 a⟩
theorem wd.kz {D : va_G} {y : Nat → ClassId} {z : Nat} {S : bS} {A : Nat → Prop} {H : Heap} (h : wd D y z S A H) : gK S z = 14 := (h.2.1 z).mpr rfl
/-- the arrays' classes -/
def bT (y : Nat → ClassId) : List (ClassId × FieldType) := [(y 0, .int), (y 1, .boolean), (y 2, .object "java/lang/Object"), (y 3, .array .int), (y 4, .object "TubePostLaw$Carrier"), (y 5, .array (.object "TubePostLaw$Carrier")), (y 6, .array .boolean)]
theorem pu_1_0 {y : Nat → ClassId} {S : bS} {a : Nat} {x : Int32} (h : gK S a = 1) : ce y (sV S 1 a 0 x) a = some (.inr (0, [.int x, va_rf (gQ S 1 a 1), .int (gV S 1 a 2)])) := by rw [ce_1 (S := sV S 1 a 0 x) h]; simp [gV_sV, gQ_sV]
theorem pu_1_1 {y : Nat → ClassId} {S : bS} {a : Nat} {x : Option Nat} (h : gK S a = 1) : ce y (sQ S 1 a 1 x) a = some (.inr (0, [.int (gV S 1 a 0), va_rf x, .int (gV S 1 a 2)])) := by rw [ce_1 (S := sQ S 1 a 1 x) h]; simp [gV_sQ, gQ_sQ]
theorem pu_1_2 {y : Nat → ClassId} {S : bS} {a : Nat} {x : Int32} (h : gK S a = 1) : ce y (sV S 1 a 2 x) a = some (.inr (0, [.int (gV S 1 a 0), va_rf (gQ S 1 a 1), .int x])) := by rw [ce_1 (S := sV S 1 a 2 x) h]; simp [gV_sV, gQ_sV]
theorem pn_1 {y : Nat → ClassId} {S : bS} {a n : Nat} : ce y (sNew S a 1 n) a = some (.inr (0, [.int 0, .null, .int 0])) := by rw [ce_1 (S := sNew S a 1 n) (if_pos rfl)]; simp [gV_sNew, gQ_sNew, va_rf]
theorem pu_2_0 {y : Nat → ClassId} {S : bS} {a : Nat} {x : Int32} (h : gK S a = 2) : ce y (sV S 2 a 0 x) a = some (.inr (1, [.int x, va_rf (gQ S 2 a 1), .int (gV S 2 a 2), .int (gV S 2 a 3), .int (gV S 2 a 4), .int (gV S 2 a 5), .int (gV S 2 a 6), .int (gV S 2 a 7), .int (gV S 2 a 8)])) := by rw [ce_2 (S := sV S 2 a 0 x) h]; simp [gV_sV, gQ_sV]
theorem pu_2_1 {y : Nat → ClassId} {S : bS} {a : Nat} {x : Option Nat} (h : gK S a = 2) : ce y (sQ S 2 a 1 x) a = some (.inr (1, [.int (gV S 2 a 0), va_rf x, .int (gV S 2 a 2), .int (gV S 2 a 3), .int (gV S 2 a 4), .int (gV S 2 a 5), .int (gV S 2 a 6), .int (gV S 2 a 7), .int (gV S 2 a 8)])) := by rw [ce_2 (S := sQ S 2 a 1 x) h]; simp [gV_sQ, gQ_sQ]
theorem pu_2_2 {y : Nat → ClassId} {S : bS} {a : Nat} {x : Int32} (h : gK S a = 2) : ce y (sV S 2 a 2 x) a = some (.inr (1, [.int (gV S 2 a 0), va_rf (gQ S 2 a 1), .int x, .int (gV S 2 a 3), .int (gV S 2 a 4), .int (gV S 2 a 5), .int (gV S 2 a 6), .int (gV S 2 a 7), .int (gV S 2 a 8)])) := by rw [ce_2 (S := sV S 2 a 2 x) h]; simp [gV_sV, gQ_sV]
theorem pu_2_3 {y : Nat → ClassId} {S : bS} {a : Nat} {x : Int32} (h : gK S a = 2) : ce y (sV S 2 a 3 x) a = some (.inr (1, [.int (gV S 2 a 0), va_rf (gQ S 2 a 1), .int (gV S 2 a 2), .int x, .int (gV S 2 a 4), .int (gV S 2 a 5), .int (gV S 2 a 6), .int (gV S 2 a 7), .int (gV S 2 a 8)])) := by rw [ce_2 (S := sV S 2 a 3 x) h]; simp [gV_sV, gQ_sV]
theorem pu_2_4 {y : Nat → ClassId} {S : bS} {a : Nat} {x : Int32} (h : gK S a = 2) : ce y (sV S 2 a 4 x) a = some (.inr (1, [.int (gV S 2 a 0), va_rf (gQ S 2 a 1), .int (gV S 2 a 2), .int (gV S 2 a 3), .int x, .int (gV S 2 a 5), .int (gV S 2 a 6), .int (gV S 2 a 7), .int (gV S 2 a 8)])) := by rw [ce_2 (S := sV S 2 a 4 x) h]; simp [gV_sV, gQ_sV]
theorem pu_2_5 {y : Nat → ClassId} {S : bS} {a : Nat} {x : Int32} (h : gK S a = 2) : ce y (sV S 2 a 5 x) a = some (.inr (1, [.int (gV S 2 a 0), va_rf (gQ S 2 a 1), .int (gV S 2 a 2), .int (gV S 2 a 3), .int (gV S 2 a 4), .int x, .int (gV S 2 a 6), .int (gV S 2 a 7), .int (gV S 2 a 8)])) := by rw [ce_2 (S := sV S 2 a 5 x) h]; simp [gV_sV, gQ_sV]
theorem pu_2_6 {y : Nat → ClassId} {S : bS} {a : Nat} {x : Int32} (h : gK S a = 2) : ce y (sV S 2 a 6 x) a = some (.inr (1, [.int (gV S 2 a 0), va_rf (gQ S 2 a 1), .int (gV S 2 a 2), .int (gV S 2 a 3), .int (gV S 2 a 4), .int (gV S 2 a 5), .int x, .int (gV S 2 a 7), .int (gV S 2 a 8)])) := by rw [ce_2 (S := sV S 2 a 6 x) h]; simp [gV_sV, gQ_sV]
theorem pu_2_7 {y : Nat → ClassId} {S : bS} {a : Nat} {x : Int32} (h : gK S a = 2) : ce y (sV S 2 a 7 x) a = some (.inr (1, [.int (gV S 2 a 0), va_rf (gQ S 2 a 1), .int (gV S 2 a 2), .int (gV S 2 a 3), .int (gV S 2 a 4), .int (gV S 2 a 5), .int (gV S 2 a 6), .int x, .int (gV S 2 a 8)])) := by rw [ce_2 (S := sV S 2 a 7 x) h]; simp [gV_sV, gQ_sV]
theorem pu_2_8 {y : Nat → ClassId} {S : bS} {a : Nat} {x : Int32} (h : gK S a = 2) : ce y (sV S 2 a 8 x) a = some (.inr (1, [.int (gV S 2 a 0), va_rf (gQ S 2 a 1), .int (gV S 2 a 2), .int (gV S 2 a 3), .int (gV S 2 a 4), .int (gV S 2 a 5), .int (gV S 2 a 6), .int (gV S 2 a 7), .int x])) := by rw [ce_2 (S := sV S 2 a 8 x) h]; simp [gV_sV, gQ_sV]
theorem pn_2 {y : Nat → ClassId} {S : bS} {a n : Nat} : ce y (sNew S a 2 n) a = some (.inr (1, [.int 0, .null, .int 0, .int 0, .int 0, .int 0, .int 0, .int 0, .int 0])) := by rw [ce_2 (S := sNew S a 2 n) (if_pos rfl)]; simp [gV_sNew, gQ_sNew, va_rf]
theorem pu_3_0 {y : Nat → ClassId} {S : bS} {a : Nat} {x : Int32} (h : gK S a = 3) : ce y (sV S 3 a 0 x) a = some (.inr (2, [.int x, va_rf (gQ S 3 a 1), .int (gV S 3 a 2), .int (gV S 3 a 3), .int (gV S 3 a 4), .int (gV S 3 a 5), .int (gV S 3 a 6), .int (gV S 3 a 7), .int (gV S 3 a 8)])) := by rw [ce_3 (S := sV S 3 a 0 x) h]; simp [gV_sV, gQ_sV]
theorem pu_3_1 {y : Nat → ClassId} {S : bS} {a : Nat} {x : Option Nat} (h : gK S a = 3) : ce y (sQ S 3 a 1 x) a = some (.inr (2, [.int (gV S 3 a 0), va_rf x, .int (gV S 3 a 2), .int (gV S 3 a 3), .int (gV S 3 a 4), .int (gV S 3 a 5), .int (gV S 3 a 6), .int (gV S 3 a 7), .int (gV S 3 a 8)])) := by rw [ce_3 (S := sQ S 3 a 1 x) h]; simp [gV_sQ, gQ_sQ]
theorem pu_3_2 {y : Nat → ClassId} {S : bS} {a : Nat} {x : Int32} (h : gK S a = 3) : ce y (sV S 3 a 2 x) a = some (.inr (2, [.int (gV S 3 a 0), va_rf (gQ S 3 a 1), .int x, .int (gV S 3 a 3), .int (gV S 3 a 4), .int (gV S 3 a 5), .int (gV S 3 a 6), .int (gV S 3 a 7), .int (gV S 3 a 8)])) := by rw [ce_3 (S := sV S 3 a 2 x) h]; simp [gV_sV, gQ_sV]
theorem pu_3_3 {y : Nat → ClassId} {S : bS} {a : Nat} {x : Int32} (h : gK S a = 3) : ce y (sV S 3 a 3 x) a = some (.inr (2, [.int (gV S 3 a 0), va_rf (gQ S 3 a 1), .int (gV S 3 a 2), .int x, .int (gV S 3 a 4), .int (gV S 3 a 5), .int (gV S 3 a 6), .int (gV S 3 a 7), .int (gV S 3 a 8)])) := by rw [ce_3 (S := sV S 3 a 3 x) h]; simp [gV_sV, gQ_sV]
theorem pu_3_4 {y : Nat → ClassId} {S : bS} {a : Nat} {x : Int32} (h : gK S a = 3) : ce y (sV S 3 a 4 x) a = some (.inr (2, [.int (gV S 3 a 0), va_rf (gQ S 3 a 1), .int (gV S 3 a 2), .int (gV S 3 a 3), .int x, .int (gV S 3 a 5), .int (gV S 3 a 6), .int (gV S 3 a 7), .int (gV S 3 a 8)])) := by rw [ce_3 (S := sV S 3 a 4 x) h]; simp [gV_sV, gQ_sV]
theorem pu_3_5 {y : Nat → ClassId} {S : bS} {a : Nat} {x : Int32} (h : gK S a = 3) : ce y (sV S 3 a 5 x) a = some (.inr (2, [.int (gV S 3 a 0), va_rf (gQ S 3 a 1), .int (gV S 3 a 2), .int (gV S 3 a 3), .int (gV S 3 a 4), .int x, .int (gV S 3 a 6), .int (gV S 3 a 7), .int (gV S 3 a 8)])) := by rw [ce_3 (S := sV S 3 a 5 x) h]; simp [gV_sV, gQ_sV]
theorem pu_3_6 {y : Nat → ClassId} {S : bS} {a : Nat} {x : Int32} (h : gK S a = 3) : ce y (sV S 3 a 6 x) a = some (.inr (2, [.int (gV S 3 a 0), va_rf (gQ S 3 a 1), .int (gV S 3 a 2), .int (gV S 3 a 3), .int (gV S 3 a 4), .int (gV S 3 a 5), .int x, .int (gV S 3 a 7), .int (gV S 3 a 8)])) := by rw [ce_3 (S := sV S 3 a 6 x) h]; simp [gV_sV, gQ_sV]
theorem pu_3_7 {y : Nat → ClassId} {S : bS} {a : Nat} {x : Int32} (h : gK S a = 3) : ce y (sV S 3 a 7 x) a = some (.inr (2, [.int (gV S 3 a 0), va_rf (gQ S 3 a 1), .int (gV S 3 a 2), .int (gV S 3 a 3), .int (gV S 3 a 4), .int (gV S 3 a 5), .int (gV S 3 a 6), .int x, .int (gV S 3 a 8)])) := by rw [ce_3 (S := sV S 3 a 7 x) h]; simp [gV_sV, gQ_sV]
theorem pu_3_8 {y : Nat → ClassId} {S : bS} {a : Nat} {x : Int32} (h : gK S a = 3) : ce y (sV S 3 a 8 x) a = some (.inr (2, [.int (gV S 3 a 0), va_rf (gQ S 3 a 1), .int (gV S 3 a 2), .int (gV S 3 a 3), .int (gV S 3 a 4), .int (gV S 3 a 5), .int (gV S 3 a 6), .int (gV S 3 a 7), .int x])) := by rw [ce_3 (S := sV S 3 a 8 x) h]; simp [gV_sV, gQ_sV]
theorem pn_3 {y : Nat → ClassId} {S : bS} {a n : Nat} : ce y (sNew S a 3 n) a = some (.inr (2, [.int 0, .null, .int 0, .int 0, .int 0, .int 0, .int 0, .int 0, .int 0])) := by rw [ce_3 (S := sNew S a 3 n) (if_pos rfl)]; simp [gV_sNew, gQ_sNew, va_rf]
theorem pu_4_0 {y : Nat → ClassId} {S : bS} {a : Nat} {x : Option Nat} (h : gK S a = 4) : ce y (sQ S 4 a 0 x) a = some (.inr (3, [va_rf x, va_rf (gQ S 4 a 1)])) := by rw [ce_4 (S := sQ S 4 a 0 x) h]; simp [gV_sQ, gQ_sQ]
theorem pu_4_1 {y : Nat → ClassId} {S : bS} {a : Nat} {x : Option Nat} (h : gK S a = 4) : ce y (sQ S 4 a 1 x) a = some (.inr (3, [va_rf (gQ S 4 a 0), va_rf x])) := by rw [ce_4 (S := sQ S 4 a 1 x) h]; simp [gV_sQ, gQ_sQ]
theorem pn_4 {y : Nat → ClassId} {S : bS} {a n : Nat} : ce y (sNew S a 4 n) a = some (.inr (3, [.null, .null])) := by rw [ce_4 (S := sNew S a 4 n) (if_pos rfl)]; simp [gV_sNew, gQ_sNew, va_rf]
theorem pu_5_0 {y : Nat → ClassId} {S : bS} {a : Nat} {x : Int32} (h : gK S a = 5) : ce y (sV S 5 a 0 x) a = some (.inr (4, [.int x, .int (gV S 5 a 1), .int (gV S 5 a 2), va_rf (gQ S 5 a 3), va_rf (gQ S 5 a 4), va_rf (gQ S 5 a 5), .int (gV S 5 a 6), .int (gV S 5 a 7), .int (gV S 5 a 8), .int (gV S 5 a 9)])) := by rw [ce_5 (S := sV S 5 a 0 x) h]; simp [gV_sV, gQ_sV]
theorem pu_5_1 {y : Nat → ClassId} {S : bS} {a : Nat} {x : Int32} (h : gK S a = 5) : ce y (sV S 5 a 1 x) a = some (.inr (4, [.int (gV S 5 a 0), .int x, .int (gV S 5 a 2), va_rf (gQ S 5 a 3), va_rf (gQ S 5 a 4), va_rf (gQ S 5 a 5), .int (gV S 5 a 6), .int (gV S 5 a 7), .int (gV S 5 a 8), .int (gV S 5 a 9)])) := by rw [ce_5 (S := sV S 5 a 1 x) h]; simp [gV_sV, gQ_sV]
theorem pu_5_2 {y : Nat → ClassId} {S : bS} {a : Nat} {x : Int32} (h : gK S a = 5) : ce y (sV S 5 a 2 x) a = some (.inr (4, [.int (gV S 5 a 0), .int (gV S 5 a 1), .int x, va_rf (gQ S 5 a 3), va_rf (gQ S 5 a 4), va_rf (gQ S 5 a 5), .int (gV S 5 a 6), .int (gV S 5 a 7), .int (gV S 5 a 8), .int (gV S 5 a 9)])) := by rw [ce_5 (S := sV S 5 a 2 x) h]; simp [gV_sV, gQ_sV]
theorem pu_5_3 {y : Nat → ClassId} {S : bS} {a : Nat} {x : Option Nat} (h : gK S a = 5) : ce y (sQ S 5 a 3 x) a = some (.inr (4, [.int (gV S 5 a 0), .int (gV S 5 a 1), .int (gV S 5 a 2), va_rf x, va_rf (gQ S 5 a 4), va_rf (gQ S 5 a 5), .int (gV S 5 a 6), .int (gV S 5 a 7), .int (gV S 5 a 8), .int (gV S 5 a 9)])) := by rw [ce_5 (S := sQ S 5 a 3 x) h]; simp [gV_sQ, gQ_sQ]
theorem pu_5_4 {y : Nat → ClassId} {S : bS} {a : Nat} {x : Option Nat} (h : gK S a = 5) : ce y (sQ S 5 a 4 x) a = some (.inr (4, [.int (gV S 5 a 0), .int (gV S 5 a 1), .int (gV S 5 a 2), va_rf (gQ S 5 a 3), va_rf x, va_rf (gQ S 5 a 5), .int (gV S 5 a 6), .int (gV S 5 a 7), .int (gV S 5 a 8), .int (gV S 5 a 9)])) := by rw [ce_5 (S := sQ S 5 a 4 x) h]; simp [gV_sQ, gQ_sQ]
theorem pu_5_5 {y : Nat → ClassId} {S : bS} {a : Nat} {x : Option Nat} (h : gK S a = 5) : ce y (sQ S 5 a 5 x) a = some (.inr (4, [.int (gV S 5 a 0), .int (gV S 5 a 1), .int (gV S 5 a 2), va_rf (gQ S 5 a 3), va_rf (gQ S 5 a 4), va_rf x, .int (gV S 5 a 6), .int (gV S 5 a 7), .int (gV S 5 a 8), .int (gV S 5 a 9)])) := by rw [ce_5 (S := sQ S 5 a 5 x) h]; simp [gV_sQ, gQ_sQ]
theorem pu_5_6 {y : Nat → ClassId} {S : bS} {a : Nat} {x : Int32} (h : gK S a = 5) : ce y (sV S 5 a 6 x) a = some (.inr (4, [.int (gV S 5 a 0), .int (gV S 5 a 1), .int (gV S 5 a 2), va_rf (gQ S 5 a 3), va_rf (gQ S 5 a 4), va_rf (gQ S 5 a 5), .int x, .int (gV S 5 a 7), .int (gV S 5 a 8), .int (gV S 5 a 9)])) := by rw [ce_5 (S := sV S 5 a 6 x) h]; simp [gV_sV, gQ_sV]
theorem pu_5_7 {y : Nat → ClassId} {S : bS} {a : Nat} {x : Int32} (h : gK S a = 5) : ce y (sV S 5 a 7 x) a = some (.inr (4, [.int (gV S 5 a 0), .int (gV S 5 a 1), .int (gV S 5 a 2), va_rf (gQ S 5 a 3), va_rf (gQ S 5 a 4), va_rf (gQ S 5 a 5), .int (gV S 5 a 6), .int x, .int (gV S 5 a 8), .int (gV S 5 a 9)])) := by rw [ce_5 (S := sV S 5 a 7 x) h]; simp [gV_sV, gQ_sV]
theorem pu_5_8 {y : Nat → ClassId} {S : bS} {a : Nat} {x : Int32} (h : gK S a = 5) : ce y (sV S 5 a 8 x) a = some (.inr (4, [.int (gV S 5 a 0), .int (gV S 5 a 1), .int (gV S 5 a 2), va_rf (gQ S 5 a 3), va_rf (gQ S 5 a 4), va_rf (gQ S 5 a 5), .int (gV S 5 a 6), .int (gV S 5 a 7), .int x, .int (gV S 5 a 9)])) := by rw [ce_5 (S := sV S 5 a 8 x) h]; simp [gV_sV, gQ_sV]
theorem pu_5_9 {y : Nat → ClassId} {S : bS} {a : Nat} {x : Int32} (h : gK S a = 5) : ce y (sV S 5 a 9 x) a = some (.inr (4, [.int (gV S 5 a 0), .int (gV S 5 a 1), .int (gV S 5 a 2), va_rf (gQ S 5 a 3), va_rf (gQ S 5 a 4), va_rf (gQ S 5 a 5), .int (gV S 5 a 6), .int (gV S 5 a 7), .int (gV S 5 a 8), .int x])) := by rw [ce_5 (S := sV S 5 a 9 x) h]; simp [gV_sV, gQ_sV]
theorem pn_5 {y : Nat → ClassId} {S : bS} {a n : Nat} : ce y (sNew S a 5 n) a = some (.inr (4, [.int 0, .int 0, .int 0, .null, .null, .null, .int 0, .int 0, .int 0, .int 0])) := by rw [ce_5 (S := sNew S a 5 n) (if_pos rfl)]; simp [gV_sNew, gQ_sNew, va_rf]
theorem pu_6_0 {y : Nat → ClassId} {S : bS} {a : Nat} {x : Int32} (h : gK S a = 6) : ce y (sV S 6 a 0 x) a = some (.inr (5, [.int x, va_rf (gQ S 6 a 1), va_rf (gQ S 6 a 2), .int (gV S 6 a 3), .int (gV S 6 a 4), va_rf (gQ S 6 a 5), .int (gV S 6 a 6), .int (gV S 6 a 7), .int (gV S 6 a 8), .int (gV S 6 a 9), .int (gV S 6 a 10)])) := by rw [ce_6 (S := sV S 6 a 0 x) h]; simp [gV_sV, gQ_sV]
theorem pu_6_1 {y : Nat → ClassId} {S : bS} {a : Nat} {x : Option Nat} (h : gK S a = 6) : ce y (sQ S 6 a 1 x) a = some (.inr (5, [.int (gV S 6 a 0), va_rf x, va_rf (gQ S 6 a 2), .int (gV S 6 a 3), .int (gV S 6 a 4), va_rf (gQ S 6 a 5), .int (gV S 6 a 6), .int (gV S 6 a 7), .int (gV S 6 a 8), .int (gV S 6 a 9), .int (gV S 6 a 10)])) := by rw [ce_6 (S := sQ S 6 a 1 x) h]; simp [gV_sQ, gQ_sQ]
theorem pu_6_2 {y : Nat → ClassId} {S : bS} {a : Nat} {x : Option Nat} (h : gK S a = 6) : ce y (sQ S 6 a 2 x) a = some (.inr (5, [.int (gV S 6 a 0), va_rf (gQ S 6 a 1), va_rf x, .int (gV S 6 a 3), .int (gV S 6 a 4), va_rf (gQ S 6 a 5), .int (gV S 6 a 6), .int (gV S 6 a 7), .int (gV S 6 a 8), .int (gV S 6 a 9), .int (gV S 6 a 10)])) := by rw [ce_6 (S := sQ S 6 a 2 x) h]; simp [gV_sQ, gQ_sQ]
theorem pu_6_3 {y : Nat → ClassId} {S : bS} {a : Nat} {x : Int32} (h : gK S a = 6) : ce y (sV S 6 a 3 x) a = some (.inr (5, [.int (gV S 6 a 0), va_rf (gQ S 6 a 1), va_rf (gQ S 6 a 2), .int x, .int (gV S 6 a 4), va_rf (gQ S 6 a 5), .int (gV S 6 a 6), .int (gV S 6 a 7), .int (gV S 6 a 8), .int (gV S 6 a 9), .int (gV S 6 a 10)])) := by rw [ce_6 (S := sV S 6 a 3 x) h]; simp [gV_sV, gQ_sV]
theorem pu_6_4 {y : Nat → ClassId} {S : bS} {a : Nat} {x : Int32} (h : gK S a = 6) : ce y (sV S 6 a 4 x) a = some (.inr (5, [.int (gV S 6 a 0), va_rf (gQ S 6 a 1), va_rf (gQ S 6 a 2), .int (gV S 6 a 3), .int x, va_rf (gQ S 6 a 5), .int (gV S 6 a 6), .int (gV S 6 a 7), .int (gV S 6 a 8), .int (gV S 6 a 9), .int (gV S 6 a 10)])) := by rw [ce_6 (S := sV S 6 a 4 x) h]; simp [gV_sV, gQ_sV]
theorem pu_6_5 {y : Nat → ClassId} {S : bS} {a : Nat} {x : Option Nat} (h : gK S a = 6) : ce y (sQ S 6 a 5 x) a = some (.inr (5, [.int (gV S 6 a 0), va_rf (gQ S 6 a 1), va_rf (gQ S 6 a 2), .int (gV S 6 a 3), .int (gV S 6 a 4), va_rf x, .int (gV S 6 a 6), .int (gV S 6 a 7), .int (gV S 6 a 8), .int (gV S 6 a 9), .int (gV S 6 a 10)])) := by rw [ce_6 (S := sQ S 6 a 5 x) h]; simp [gV_sQ, gQ_sQ]
theorem pu_6_6 {y : Nat → ClassId} {S : bS} {a : Nat} {x : Int32} (h : gK S a = 6) : ce y (sV S 6 a 6 x) a = some (.inr (5, [.int (gV S 6 a 0), va_rf (gQ S 6 a 1), va_rf (gQ S 6 a 2), .int (gV S 6 a 3), .int (gV S 6 a 4), va_rf (gQ S 6 a 5), .int x, .int (gV S 6 a 7), .int (gV S 6 a 8), .int (gV S 6 a 9), .int (gV S 6 a 10)])) := by rw [ce_6 (S := sV S 6 a 6 x) h]; simp [gV_sV, gQ_sV]
theorem pu_6_7 {y : Nat → ClassId} {S : bS} {a : Nat} {x : Int32} (h : gK S a = 6) : ce y (sV S 6 a 7 x) a = some (.inr (5, [.int (gV S 6 a 0), va_rf (gQ S 6 a 1), va_rf (gQ S 6 a 2), .int (gV S 6 a 3), .int (gV S 6 a 4), va_rf (gQ S 6 a 5), .int (gV S 6 a 6), .int x, .int (gV S 6 a 8), .int (gV S 6 a 9), .int (gV S 6 a 10)])) := by rw [ce_6 (S := sV S 6 a 7 x) h]; simp [gV_sV, gQ_sV]
theorem pu_6_8 {y : Nat → ClassId} {S : bS} {a : Nat} {x : Int32} (h : gK S a = 6) : ce y (sV S 6 a 8 x) a = some (.inr (5, [.int (gV S 6 a 0), va_rf (gQ S 6 a 1), va_rf (gQ S 6 a 2), .int (gV S 6 a 3), .int (gV S 6 a 4), va_rf (gQ S 6 a 5), .int (gV S 6 a 6), .int (gV S 6 a 7), .int x, .int (gV S 6 a 9), .int (gV S 6 a 10)])) := by rw [ce_6 (S := sV S 6 a 8 x) h]; simp [gV_sV, gQ_sV]
theorem pu_6_9 {y : Nat → ClassId} {S : bS} {a : Nat} {x : Int32} (h : gK S a = 6) : ce y (sV S 6 a 9 x) a = some (.inr (5, [.int (gV S 6 a 0), va_rf (gQ S 6 a 1), va_rf (gQ S 6 a 2), .int (gV S 6 a 3), .int (gV S 6 a 4), va_rf (gQ S 6 a 5), .int (gV S 6 a 6), .int (gV S 6 a 7), .int (gV S 6 a 8), .int x, .int (gV S 6 a 10)])) := by rw [ce_6 (S := sV S 6 a 9 x) h]; simp [gV_sV, gQ_sV]
theorem pu_6_10 {y : Nat → ClassId} {S : bS} {a : Nat} {x : Int32} (h : gK S a = 6) : ce y (sV S 6 a 10 x) a = some (.inr (5, [.int (gV S 6 a 0), va_rf (gQ S 6 a 1), va_rf (gQ S 6 a 2), .int (gV S 6 a 3), .int (gV S 6 a 4), va_rf (gQ S 6 a 5), .int (gV S 6 a 6), .int (gV S 6 a 7), .int (gV S 6 a 8), .int (gV S 6 a 9), .int x])) := by rw [ce_6 (S := sV S 6 a 10 x) h]; simp [gV_sV, gQ_sV]
theorem pn_6 {y : Nat → ClassId} {S : bS} {a n : Nat} : ce y (sNew S a 6 n) a = some (.inr (5, [.int 0, .null, .null, .int 0, .int 0, .null, .int 0, .int 0, .int 0, .int 0, .int 0])) := by rw [ce_6 (S := sNew S a 6 n) (if_pos rfl)]; simp [gV_sNew, gQ_sNew, va_rf]
theorem pu_7_0 {y : Nat → ClassId} {S : bS} {a : Nat} {x : Option Nat} (h : gK S a = 7) : ce y (sQ S 7 a 0 x) a = some (.inr (6, [va_rf x, va_rf (gQ S 7 a 1), va_rf (gQ S 7 a 2), .int (gV S 7 a 3), .int (gV S 7 a 4), .int (gV S 7 a 5)])) := by rw [ce_7 (S := sQ S 7 a 0 x) h]; simp [gV_sQ, gQ_sQ]
theorem pu_7_1 {y : Nat → ClassId} {S : bS} {a : Nat} {x : Option Nat} (h : gK S a = 7) : ce y (sQ S 7 a 1 x) a = some (.inr (6, [va_rf (gQ S 7 a 0), va_rf x, va_rf (gQ S 7 a 2), .int (gV S 7 a 3), .int (gV S 7 a 4), .int (gV S 7 a 5)])) := by rw [ce_7 (S := sQ S 7 a 1 x) h]; simp [gV_sQ, gQ_sQ]
theorem pu_7_2 {y : Nat → ClassId} {S : bS} {a : Nat} {x : Option Nat} (h : gK S a = 7) : ce y (sQ S 7 a 2 x) a = some (.inr (6, [va_rf (gQ S 7 a 0), va_rf (gQ S 7 a 1), va_rf x, .int (gV S 7 a 3), .int (gV S 7 a 4), .int (gV S 7 a 5)])) := by rw [ce_7 (S := sQ S 7 a 2 x) h]; simp [gV_sQ, gQ_sQ]
theorem pu_7_3 {y : Nat → ClassId} {S : bS} {a : Nat} {x : Int32} (h : gK S a = 7) : ce y (sV S 7 a 3 x) a = some (.inr (6, [va_rf (gQ S 7 a 0), va_rf (gQ S 7 a 1), va_rf (gQ S 7 a 2), .int x, .int (gV S 7 a 4), .int (gV S 7 a 5)])) := by rw [ce_7 (S := sV S 7 a 3 x) h]; simp [gV_sV, gQ_sV]
theorem pu_7_4 {y : Nat → ClassId} {S : bS} {a : Nat} {x : Int32} (h : gK S a = 7) : ce y (sV S 7 a 4 x) a = some (.inr (6, [va_rf (gQ S 7 a 0), va_rf (gQ S 7 a 1), va_rf (gQ S 7 a 2), .int (gV S 7 a 3), .int x, .int (gV S 7 a 5)])) := by rw [ce_7 (S := sV S 7 a 4 x) h]; simp [gV_sV, gQ_sV]
theorem pu_7_5 {y : Nat → ClassId} {S : bS} {a : Nat} {x : Int32} (h : gK S a = 7) : ce y (sV S 7 a 5 x) a = some (.inr (6, [va_rf (gQ S 7 a 0), va_rf (gQ S 7 a 1), va_rf (gQ S 7 a 2), .int (gV S 7 a 3), .int (gV S 7 a 4), .int x])) := by rw [ce_7 (S := sV S 7 a 5 x) h]; simp [gV_sV, gQ_sV]
theorem pn_7 {y : Nat → ClassId} {S : bS} {a n : Nat} : ce y (sNew S a 7 n) a = some (.inr (6, [.null, .null, .null, .int 0, .int 0, .int 0])) := by rw [ce_7 (S := sNew S a 7 n) (if_pos rfl)]; simp [gV_sNew, gQ_sNew, va_rf]
theorem pu_8_0 {y : Nat → ClassId} {S : bS} {a : Nat} {x : Int32} (h : gK S a = 8) : ce y (sV S 8 a 0 x) a = some (.inr (7, [.int x, va_rf (gQ S 8 a 1), va_rf (gQ S 8 a 2), va_rf (gQ S 8 a 3), va_rf (gQ S 8 a 4), va_rf (gQ S 8 a 5), va_rf (gQ S 8 a 6), va_rf (gQ S 8 a 7), .int (gV S 8 a 8), .int (gV S 8 a 9)])) := by rw [ce_8 (S := sV S 8 a 0 x) h]; simp [gV_sV, gQ_sV]
theorem pu_8_1 {y : Nat → ClassId} {S : bS} {a : Nat} {x : Option Nat} (h : gK S a = 8) : ce y (sQ S 8 a 1 x) a = some (.inr (7, [.int (gV S 8 a 0), va_rf x, va_rf (gQ S 8 a 2), va_rf (gQ S 8 a 3), va_rf (gQ S 8 a 4), va_rf (gQ S 8 a 5), va_rf (gQ S 8 a 6), va_rf (gQ S 8 a 7), .int (gV S 8 a 8), .int (gV S 8 a 9)])) := by rw [ce_8 (S := sQ S 8 a 1 x) h]; simp [gV_sQ, gQ_sQ]
theorem pu_8_2 {y : Nat → ClassId} {S : bS} {a : Nat} {x : Option Nat} (h : gK S a = 8) : ce y (sQ S 8 a 2 x) a = some (.inr (7, [.int (gV S 8 a 0), va_rf (gQ S 8 a 1), va_rf x, va_rf (gQ S 8 a 3), va_rf (gQ S 8 a 4), va_rf (gQ S 8 a 5), va_rf (gQ S 8 a 6), va_rf (gQ S 8 a 7), .int (gV S 8 a 8), .int (gV S 8 a 9)])) := by rw [ce_8 (S := sQ S 8 a 2 x) h]; simp [gV_sQ, gQ_sQ]
theorem pu_8_3 {y : Nat → ClassId} {S : bS} {a : Nat} {x : Option Nat} (h : gK S a = 8) : ce y (sQ S 8 a 3 x) a = some (.inr (7, [.int (gV S 8 a 0), va_rf (gQ S 8 a 1), va_rf (gQ S 8 a 2), va_rf x, va_rf (gQ S 8 a 4), va_rf (gQ S 8 a 5), va_rf (gQ S 8 a 6), va_rf (gQ S 8 a 7), .int (gV S 8 a 8), .int (gV S 8 a 9)])) := by rw [ce_8 (S := sQ S 8 a 3 x) h]; simp [gV_sQ, gQ_sQ]
theorem pu_8_4 {y : Nat → ClassId} {S : bS} {a : Nat} {x : Option Nat} (h : gK S a = 8) : ce y (sQ S 8 a 4 x) a = some (.inr (7, [.int (gV S 8 a 0), va_rf (gQ S 8 a 1), va_rf (gQ S 8 a 2), va_rf (gQ S 8 a 3), va_rf x, va_rf (gQ S 8 a 5), va_rf (gQ S 8 a 6), va_rf (gQ S 8 a 7), .int (gV S 8 a 8), .int (gV S 8 a 9)])) := by rw [ce_8 (S := sQ S 8 a 4 x) h]; simp [gV_sQ, gQ_sQ]
theorem pu_8_5 {y : Nat → ClassId} {S : bS} {a : Nat} {x : Option Nat} (h : gK S a = 8) : ce y (sQ S 8 a 5 x) a = some (.inr (7, [.int (gV S 8 a 0), va_rf (gQ S 8 a 1), va_rf (gQ S 8 a 2), va_rf (gQ S 8 a 3), va_rf (gQ S 8 a 4), va_rf x, va_rf (gQ S 8 a 6), va_rf (gQ S 8 a 7), .int (gV S 8 a 8), .int (gV S 8 a 9)])) := by rw [ce_8 (S := sQ S 8 a 5 x) h]; simp [gV_sQ, gQ_sQ]
theorem pu_8_6 {y : Nat → ClassId} {S : bS} {a : Nat} {x : Option Nat} (h : gK S a = 8) : ce y (sQ S 8 a 6 x) a = some (.inr (7, [.int (gV S 8 a 0), va_rf (gQ S 8 a 1), va_rf (gQ S 8 a 2), va_rf (gQ S 8 a 3), va_rf (gQ S 8 a 4), va_rf (gQ S 8 a 5), va_rf x, va_rf (gQ S 8 a 7), .int (gV S 8 a 8), .int (gV S 8 a 9)])) := by rw [ce_8 (S := sQ S 8 a 6 x) h]; simp [gV_sQ, gQ_sQ]
theorem pu_8_7 {y : Nat → ClassId} {S : bS} {a : Nat} {x : Option Nat} (h : gK S a = 8) : ce y (sQ S 8 a 7 x) a = some (.inr (7, [.int (gV S 8 a 0), va_rf (gQ S 8 a 1), va_rf (gQ S 8 a 2), va_rf (gQ S 8 a 3), va_rf (gQ S 8 a 4), va_rf (gQ S 8 a 5), va_rf (gQ S 8 a 6), va_rf x, .int (gV S 8 a 8), .int (gV S 8 a 9)])) := by rw [ce_8 (S := sQ S 8 a 7 x) h]; simp [gV_sQ, gQ_sQ]
theorem pu_8_8 {y : Nat → ClassId} {S : bS} {a : Nat} {x : Int32} (h : gK S a = 8) : ce y (sV S 8 a 8 x) a = some (.inr (7, [.int (gV S 8 a 0), va_rf (gQ S 8 a 1), va_rf (gQ S 8 a 2), va_rf (gQ S 8 a 3), va_rf (gQ S 8 a 4), va_rf (gQ S 8 a 5), va_rf (gQ S 8 a 6), va_rf (gQ S 8 a 7), .int x, .int (gV S 8 a 9)])) := by rw [ce_8 (S := sV S 8 a 8 x) h]; simp [gV_sV, gQ_sV]
theorem pu_8_9 {y : Nat → ClassId} {S : bS} {a : Nat} {x : Int32} (h : gK S a = 8) : ce y (sV S 8 a 9 x) a = some (.inr (7, [.int (gV S 8 a 0), va_rf (gQ S 8 a 1), va_rf (gQ S 8 a 2), va_rf (gQ S 8 a 3), va_rf (gQ S 8 a 4), va_rf (gQ S 8 a 5), va_rf (gQ S 8 a 6), va_rf (gQ S 8 a 7), .int (gV S 8 a 8), .int x])) := by rw [ce_8 (S := sV S 8 a 9 x) h]; simp [gV_sV, gQ_sV]
theorem pn_8 {y : Nat → ClassId} {S : bS} {a n : Nat} : ce y (sNew S a 8 n) a = some (.inr (7, [.int 0, .null, .null, .null, .null, .null, .null, .null, .int 0, .int 0])) := by rw [ce_8 (S := sNew S a 8 n) (if_pos rfl)]; simp [gV_sNew, gQ_sNew, va_rf]
section BR
variable {p : Program} {l : Launch} {e : Env} {R : Room} {s : State} {m : MethodId} {args : Array Value} {below : List Frame} {meth : Method} {c : Code} {H : Heap} {locs : List Loc} {cells slots : Nat} {Q : State → Prop}
variable {cc : ByteArray} {pc : Nat} {ls : Array Slot} {rest : List Value} {D : va_G} {y : Nat → ClassId} {z : Nat} {A : Nat → Prop} {a : Nat} {tys : List (ClassId × FieldType)} {S : bS} {H0 : Heap}
theorem r_get (hexec : p.tables.exec = Jvm.exec) (hb : c.code = cc) {own ref C : String} {T : u_T} {N ci index : Nat} {Ts : List Cond} (hts : ∀ w ∈ Ts, w.before args s = true) (hin : ∀ w ∈ u_ws C T N, w ∈ Ts) (hown : s.vm.findClass own = some m.cls) (hK : va_K D bCl tys s) (hw : wd D y z S A H) {fs : List Value} (he : ce y S a = some (.inr (ci, fs))) (hc : bCl[ci]? = some (C, T, N)) (k : Nat) (hk : k < N) (hlink : (Cond.fieldLink own index ref (T k).2.1 (T k).2.2.1).before args s = true) (hsame : ∀ x, s.fieldFound? (T k).1 (T k).2.1 (T k).2.2.1 = some x → s.fieldFound? ref (T k).2.1 (T k).2.2.1 = some x) {v : Value} (hv : fs[k]? = some v) (hdg : decode cc pc = .ok (.getfield index, 3))
    (kk : W p l e R s m args below meth c H locs cells slots Q (F0 m (pc + 3) ls (v :: rest))) : W p l e R s m args below meth c H locs cells slots Q (F0 m pc ls (.ref a :: rest)) := by
  obtain ⟨⟨ws, hP, hD, hx⟩, -⟩ := hw
  obtain ⟨k0, hk0⟩ := hx a _ he
  exact va_get hexec hb hts hin hown hK hP k0 hk0 hc k hk hlink hsame hv hdg kk
theorem r_putI (hexec : p.tables.exec = Jvm.exec) (hb : c.code = cc) {own ref C : String} {T : u_T} {N ci index : Nat} {Ts : List Cond} (hts : ∀ w ∈ Ts, w.before args s = true) (hin : ∀ w ∈ u_ws C T N, w ∈ Ts) (ty0 : Nat → FieldType) (hty : ∀ k, k < N → parseFieldDescriptor (T k).2.2.1 = some (ty0 k)) (hnm : ∀ a, a < N → ∀ b, b < N → a ≠ b → (T a).2.1 ≠ (T b).2.1) (hown : s.vm.findClass own = some m.cls) (hK : va_K D bCl tys s) (hw : wd D y z S A H) (hS : va_S A H0 H locs) {κ : Nat} {fs : List Value} (he : ce y S a = some (.inr (ci, fs))) (hc : bCl[ci]? = some (C, T, N)) (k : Nat) (hk : k < N) (hlink : (Cond.fieldLink own index ref (T k).2.1 (T k).2.2.1).before args s = true) (hsame : ∀ x, s.fieldFound? (T k).1 (T k).2.1 (T k).2.2.1 = some x → s.fieldFound? ref (T k).2.1 (T k).2.2.1 = some x) (hfin : (T k).2.2.2 = false) {ty : FieldType} {x : Int32} (hd : parseFieldDescriptor (T k).2.2.1 = some ty) (hn : narrow ty (.int x) = (.int x)) (hfit : fits ty (.int x) = true) (hl : k < fs.length) (h2 : ce y (sV S κ a k x) a = some (.inr (ci, fs.set k (.int x)))) (hdg : decode cc pc = .ok (.putfield index, 3))
    (kk : ∀ (H1 : Heap) (locs1 : List Loc), wd D y z (sV S κ a k x) A H1 → va_S A H0 H1 locs1 → W p l e R s m args below meth c H1 locs1 cells slots Q (F0 m (pc + 3) ls rest)) : W p l e R s m args below meth c H locs cells slots Q (F0 m pc ls (.int x :: .ref a :: rest)) := by
  obtain ⟨⟨ws, hP, hD, hx⟩, hwk⟩ := hw
  obtain ⟨k0, hk0⟩ := hx a _ he
  exact va_put hexec hb hts hin ty0 hty hnm hown hK hP hD hS k0 hk0 hc k hk hlink hsame hfin hd hn hfit hl hdg (fun H1 locs1 hP1 hD1 hS1 => kk H1 locs1 (wd_set hx hk0 hP1 hD1 (fun b hb => ce_sV hb) h2 (wk_of hwk (fun _ => rfl) (fun _ => rfl))) hS1)
theorem r_putIF (hexec : p.tables.exec = Jvm.exec) (hb : c.code = cc) {own ref C : String} {T : u_T} {N ci index : Nat} {Ts : List Cond} (hts : ∀ w ∈ Ts, w.before args s = true) (hin : ∀ w ∈ u_ws C T N, w ∈ Ts) (ty0 : Nat → FieldType) (hty : ∀ k, k < N → parseFieldDescriptor (T k).2.2.1 = some (ty0 k)) (hnm : ∀ a, a < N → ∀ b, b < N → a ≠ b → (T a).2.1 ≠ (T b).2.1) (hown : s.vm.findClass own = some m.cls) (hK : va_K D bCl tys s) (hw : wd D y z S A H) (hS : va_S A H0 H locs) {κ : Nat} {fs : List Value} (he : ce y S a = some (.inr (ci, fs))) (hc : bCl[ci]? = some (C, T, N)) (k : Nat) (hk : k < N) (hlink : (Cond.fieldLink own index ref (T k).2.1 (T k).2.2.1).before args s = true) (hsame : ∀ x, s.fieldFound? (T k).1 (T k).2.1 (T k).2.2.1 = some x → s.fieldFound? ref (T k).2.1 (T k).2.2.1 = some x) (hfin : (T k).2.2.2 = true) (hin2 : meth.name = "<init>") (hdecl : (T k).1 = own) {ty : FieldType} {x : Int32} (hd : parseFieldDescriptor (T k).2.2.1 = some ty) (hn : narrow ty (.int x) = (.int x)) (hfit : fits ty (.int x) = true) (hl : k < fs.length) (h2 : ce y (sV S κ a k x) a = some (.inr (ci, fs.set k (.int x)))) (hdg : decode cc pc = .ok (.putfield index, 3))
    (kk : ∀ (H1 : Heap) (locs1 : List Loc), wd D y z (sV S κ a k x) A H1 → va_S A H0 H1 locs1 → W p l e R s m args below meth c H1 locs1 cells slots Q (F0 m (pc + 3) ls rest)) : W p l e R s m args below meth c H locs cells slots Q (F0 m pc ls (.int x :: .ref a :: rest)) := by
  obtain ⟨⟨ws, hP, hD, hx⟩, hwk⟩ := hw
  obtain ⟨k0, hk0⟩ := hx a _ he
  exact va_putF hexec hb hts hin ty0 hty hnm hown hK hP hD hS k0 hk0 hc k hk hlink hsame hfin hin2 hdecl hd hn hfit hl hdg (fun H1 locs1 hP1 hD1 hS1 => kk H1 locs1 (wd_set hx hk0 hP1 hD1 (fun b hb => ce_sV hb) h2 (wk_of hwk (fun _ => rfl) (fun _ => rfl))) hS1)
theorem r_putQ (hexec : p.tables.exec = Jvm.exec) (hb : c.code = cc) {own ref C : String} {T : u_T} {N ci index : Nat} {Ts : List Cond} (hts : ∀ w ∈ Ts, w.before args s = true) (hin : ∀ w ∈ u_ws C T N, w ∈ Ts) (ty0 : Nat → FieldType) (hty : ∀ k, k < N → parseFieldDescriptor (T k).2.2.1 = some (ty0 k)) (hnm : ∀ a, a < N → ∀ b, b < N → a ≠ b → (T a).2.1 ≠ (T b).2.1) (hown : s.vm.findClass own = some m.cls) (hK : va_K D bCl tys s) (hw : wd D y z S A H) (hS : va_S A H0 H locs) {κ : Nat} {fs : List Value} (he : ce y S a = some (.inr (ci, fs))) (hc : bCl[ci]? = some (C, T, N)) (k : Nat) (hk : k < N) (hlink : (Cond.fieldLink own index ref (T k).2.1 (T k).2.2.1).before args s = true) (hsame : ∀ x, s.fieldFound? (T k).1 (T k).2.1 (T k).2.2.1 = some x → s.fieldFound? ref (T k).2.1 (T k).2.2.1 = some x) (hfin : (T k).2.2.2 = false) {ty : FieldType} {x : Option Nat} (hd : parseFieldDescriptor (T k).2.2.1 = some ty) (hn : narrow ty (va_rf x) = (va_rf x)) (hfit : fits ty (va_rf x) = true) (hl : k < fs.length) (h2 : ce y (sQ S κ a k x) a = some (.inr (ci, fs.set k (va_rf x)))) (hdg : decode cc pc = .ok (.putfield index, 3))
    (kk : ∀ (H1 : Heap) (locs1 : List Loc), wd D y z (sQ S κ a k x) A H1 → va_S A H0 H1 locs1 → W p l e R s m args below meth c H1 locs1 cells slots Q (F0 m (pc + 3) ls rest)) : W p l e R s m args below meth c H locs cells slots Q (F0 m pc ls (va_rf x :: .ref a :: rest)) := by
  obtain ⟨⟨ws, hP, hD, hx⟩, hwk⟩ := hw
  obtain ⟨k0, hk0⟩ := hx a _ he
  exact va_put hexec hb hts hin ty0 hty hnm hown hK hP hD hS k0 hk0 hc k hk hlink hsame hfin hd hn hfit hl hdg (fun H1 locs1 hP1 hD1 hS1 => kk H1 locs1 (wd_set hx hk0 hP1 hD1 (fun b hb => ce_sQ hb) h2 (wk_of hwk (fun _ => rfl) (fun _ => rfl))) hS1)
theorem r_putQF (hexec : p.tables.exec = Jvm.exec) (hb : c.code = cc) {own ref C : String} {T : u_T} {N ci index : Nat} {Ts : List Cond} (hts : ∀ w ∈ Ts, w.before args s = true) (hin : ∀ w ∈ u_ws C T N, w ∈ Ts) (ty0 : Nat → FieldType) (hty : ∀ k, k < N → parseFieldDescriptor (T k).2.2.1 = some (ty0 k)) (hnm : ∀ a, a < N → ∀ b, b < N → a ≠ b → (T a).2.1 ≠ (T b).2.1) (hown : s.vm.findClass own = some m.cls) (hK : va_K D bCl tys s) (hw : wd D y z S A H) (hS : va_S A H0 H locs) {κ : Nat} {fs : List Value} (he : ce y S a = some (.inr (ci, fs))) (hc : bCl[ci]? = some (C, T, N)) (k : Nat) (hk : k < N) (hlink : (Cond.fieldLink own index ref (T k).2.1 (T k).2.2.1).before args s = true) (hsame : ∀ x, s.fieldFound? (T k).1 (T k).2.1 (T k).2.2.1 = some x → s.fieldFound? ref (T k).2.1 (T k).2.2.1 = some x) (hfin : (T k).2.2.2 = true) (hin2 : meth.name = "<init>") (hdecl : (T k).1 = own) {ty : FieldType} {x : Option Nat} (hd : parseFieldDescriptor (T k).2.2.1 = some ty) (hn : narrow ty (va_rf x) = (va_rf x)) (hfit : fits ty (va_rf x) = true) (hl : k < fs.length) (h2 : ce y (sQ S κ a k x) a = some (.inr (ci, fs.set k (va_rf x)))) (hdg : decode cc pc = .ok (.putfield index, 3))
    (kk : ∀ (H1 : Heap) (locs1 : List Loc), wd D y z (sQ S κ a k x) A H1 → va_S A H0 H1 locs1 → W p l e R s m args below meth c H1 locs1 cells slots Q (F0 m (pc + 3) ls rest)) : W p l e R s m args below meth c H locs cells slots Q (F0 m pc ls (va_rf x :: .ref a :: rest)) := by
  obtain ⟨⟨ws, hP, hD, hx⟩, hwk⟩ := hw
  obtain ⟨k0, hk0⟩ := hx a _ he
  exact va_putF hexec hb hts hin ty0 hty hnm hown hK hP hD hS k0 hk0 hc k hk hlink hsame hfin hin2 hdecl hd hn hfit hl hdg (fun H1 locs1 hP1 hD1 hS1 => kk H1 locs1 (wd_set hx hk0 hP1 hD1 (fun b hb => ce_sQ hb) h2 (wk_of hwk (fun _ => rfl) (fun _ => rfl))) hS1)
theorem r_getN (hexec : p.tables.exec = Jvm.exec) (hb : c.code = cc) {own ref C host : String} {T : u_T} {N ci index : Nat} {Ts : List Cond} (hts : ∀ w ∈ Ts, w.before args s = true) (hin : ∀ w ∈ u_ws C T N, w ∈ Ts) (hown : s.vm.findClass own = some m.cls) (hK : va_K D bCl tys s) (hw : wd D y z S A H) {fs : List Value} (he : ce y S a = some (.inr (ci, fs))) (hc : bCl[ci]? = some (C, T, N)) (k : Nat) (hk : k < N) (hlink : va_Nw (.fieldLinkNest own index ref (T k).2.1 (T k).2.2.1 host) s) (hsame : ∀ x, s.fieldFound? (T k).1 (T k).2.1 (T k).2.2.1 = some x → s.fieldFound? ref (T k).2.1 (T k).2.2.1 = some x) {v : Value} (hv : fs[k]? = some v) (hdg : decode cc pc = .ok (.getfield index, 3))
    (kk : W p l e R s m args below meth c H locs cells slots Q (F0 m (pc + 3) ls (v :: rest))) : W p l e R s m args below meth c H locs cells slots Q (F0 m pc ls (.ref a :: rest)) := by
  obtain ⟨⟨ws, hP, hD, hx⟩, -⟩ := hw
  obtain ⟨k0, hk0⟩ := hx a _ he
  exact va_getN hexec hb hts hin hown hK hP k0 hk0 hc k hk (va_Nw.use rfl hlink) hsame hv hdg kk
theorem r_putIN (hexec : p.tables.exec = Jvm.exec) (hb : c.code = cc) {own ref C host : String} {T : u_T} {N ci index : Nat} {Ts : List Cond} (hts : ∀ w ∈ Ts, w.before args s = true) (hin : ∀ w ∈ u_ws C T N, w ∈ Ts) (ty0 : Nat → FieldType) (hty : ∀ k, k < N → parseFieldDescriptor (T k).2.2.1 = some (ty0 k)) (hnm : ∀ a, a < N → ∀ b, b < N → a ≠ b → (T a).2.1 ≠ (T b).2.1) (hown : s.vm.findClass own = some m.cls) (hK : va_K D bCl tys s) (hw : wd D y z S A H) (hS : va_S A H0 H locs) {κ : Nat} {fs : List Value} (he : ce y S a = some (.inr (ci, fs))) (hc : bCl[ci]? = some (C, T, N)) (k : Nat) (hk : k < N) (hlink : va_Nw (.fieldLinkNest own index ref (T k).2.1 (T k).2.2.1 host) s) (hsame : ∀ x, s.fieldFound? (T k).1 (T k).2.1 (T k).2.2.1 = some x → s.fieldFound? ref (T k).2.1 (T k).2.2.1 = some x) (hfin : (T k).2.2.2 = false) {ty : FieldType} {x : Int32} (hd : parseFieldDescriptor (T k).2.2.1 = some ty) (hn : narrow ty (.int x) = (.int x)) (hfit : fits ty (.int x) = true) (hl : k < fs.length) (h2 : ce y (sV S κ a k x) a = some (.inr (ci, fs.set k (.int x)))) (hdg : decode cc pc = .ok (.putfield index, 3))
    (kk : ∀ (H1 : Heap) (locs1 : List Loc), wd D y z (sV S κ a k x) A H1 → va_S A H0 H1 locs1 → W p l e R s m args below meth c H1 locs1 cells slots Q (F0 m (pc + 3) ls rest)) : W p l e R s m args below meth c H locs cells slots Q (F0 m pc ls (.int x :: .ref a :: rest)) := by
  obtain ⟨⟨ws, hP, hD, hx⟩, hwk⟩ := hw
  obtain ⟨k0, hk0⟩ := hx a _ he
  exact va_putN hexec hb hts hin ty0 hty hnm hown hK hP hD hS k0 hk0 hc k hk (va_Nw.use rfl hlink) hsame hfin hd hn hfit hl hdg (fun H1 locs1 hP1 hD1 hS1 => kk H1 locs1 (wd_set hx hk0 hP1 hD1 (fun b hb => ce_sV hb) h2 (wk_of hwk (fun _ => rfl) (fun _ => rfl))) hS1)
theorem r_putQN (hexec : p.tables.exec = Jvm.exec) (hb : c.code = cc) {own ref C host : String} {T : u_T} {N ci index : Nat} {Ts : List Cond} (hts : ∀ w ∈ Ts, w.before args s = true) (hin : ∀ w ∈ u_ws C T N, w ∈ Ts) (ty0 : Nat → FieldType) (hty : ∀ k, k < N → parseFieldDescriptor (T k).2.2.1 = some (ty0 k)) (hnm : ∀ a, a < N → ∀ b, b < N → a ≠ b → (T a).2.1 ≠ (T b).2.1) (hown : s.vm.findClass own = some m.cls) (hK : va_K D bCl tys s) (hw : wd D y z S A H) (hS : va_S A H0 H locs) {κ : Nat} {fs : List Value} (he : ce y S a = some (.inr (ci, fs))) (hc : bCl[ci]? = some (C, T, N)) (k : Nat) (hk : k < N) (hlink : va_Nw (.fieldLinkNest own index ref (T k).2.1 (T k).2.2.1 host) s) (hsame : ∀ x, s.fieldFound? (T k).1 (T k).2.1 (T k).2.2.1 = some x → s.fieldFound? ref (T k).2.1 (T k).2.2.1 = some x) (hfin : (T k).2.2.2 = false) {ty : FieldType} {x : Option Nat} (hd : parseFieldDescriptor (T k).2.2.1 = some ty) (hn : narrow ty (va_rf x) = (va_rf x)) (hfit : fits ty (va_rf x) = true) (hl : k < fs.length) (h2 : ce y (sQ S κ a k x) a = some (.inr (ci, fs.set k (va_rf x)))) (hdg : decode cc pc = .ok (.putfield index, 3))
    (kk : ∀ (H1 : Heap) (locs1 : List Loc), wd D y z (sQ S κ a k x) A H1 → va_S A H0 H1 locs1 → W p l e R s m args below meth c H1 locs1 cells slots Q (F0 m (pc + 3) ls rest)) : W p l e R s m args below meth c H locs cells slots Q (F0 m pc ls (va_rf x :: .ref a :: rest)) := by
  obtain ⟨⟨ws, hP, hD, hx⟩, hwk⟩ := hw
  obtain ⟨k0, hk0⟩ := hx a _ he
  exact va_putN hexec hb hts hin ty0 hty hnm hown hK hP hD hS k0 hk0 hc k hk (va_Nw.use rfl hlink) hsame hfin hd hn hfit hl hdg (fun H1 locs1 hP1 hD1 hS1 => kk H1 locs1 (wd_set hx hk0 hP1 hD1 (fun b hb => ce_sQ hb) h2 (wk_of hwk (fun _ => rfl) (fun _ => rfl))) hS1)
theorem r_iald (hexec : p.tables.exec = Jvm.exec) (hb : c.code = cc) (hK : va_K D bCl (bT y) s) (hw : wd D y z S A H) (h : gK S a = 9) {i : Int32} (hin : vp_in i (gN S a)) (hdg : decode cc pc = .ok (.iaload, 1))
    (kk : W p l e R s m args below meth c H locs cells slots Q (F0 m (pc + 1) ls (.int (gV S 9 a i.toNatClampNeg) :: rest))) : W p l e R s m args below meth c H locs cells slots Q (F0 m pc ls (.int i :: .ref a :: rest)) := by
  obtain ⟨⟨ws, hP, hD, hx⟩, -⟩ := hw
  obtain ⟨k0, hk0⟩ := hx a _ (ce_9 h)
  exact va_iald hexec hb hK hP k0 0 hk0 rfl hin hdg kk
theorem r_aald (hexec : p.tables.exec = Jvm.exec) (hb : c.code = cc) (hK : va_K D bCl (bT y) s) (hw : wd D y z S A H) (h : gK S a = 11) {i : Int32} (hin : vp_in i (gN S a)) (hdg : decode cc pc = .ok (.aaload, 1))
    (kk : W p l e R s m args below meth c H locs cells slots Q (F0 m (pc + 1) ls (va_rf (gQ S 11 a i.toNatClampNeg) :: rest))) : W p l e R s m args below meth c H locs cells slots Q (F0 m pc ls (.int i :: .ref a :: rest)) := by
  obtain ⟨⟨ws, hP, hD, hx⟩, -⟩ := hw
  obtain ⟨k0, hk0⟩ := hx a _ (ce_11 h)
  exact va_aldq hexec hb hK hP k0 2 hk0 rfl hin hdg kk
theorem r_zald (hexec : p.tables.exec = Jvm.exec) (hb : c.code = cc) (hK : va_K D bCl (bT y) s) (hw : wd D y z S A H) (h : gK S a = 10) {i : Int32} (hin : vp_in i (gN S a)) (hdg : decode cc pc = .ok (.baload, 1))
    (kk : W p l e R s m args below meth c H locs cells slots Q (F0 m (pc + 1) ls (.int (gV S 10 a i.toNatClampNeg) :: rest))) : W p l e R s m args below meth c H locs cells slots Q (F0 m pc ls (.int i :: .ref a :: rest)) := by
  obtain ⟨⟨ws, hP, hD, hx⟩, -⟩ := hw
  obtain ⟨k0, hk0⟩ := hx a _ (ce_10 h)
  exact va_zald hexec hb hK hP k0 1 hk0 rfl hin hdg kk
theorem r_rald (hexec : p.tables.exec = Jvm.exec) (hb : c.code = cc) (hK : va_K D bCl (bT y) s) (hw : wd D y z S A H) (h : gK S a = 12) {i : Int32} (hin : vp_in i (gN S a)) (hdg : decode cc pc = .ok (.aaload, 1))
    (kk : W p l e R s m args below meth c H locs cells slots Q (F0 m (pc + 1) ls (va_rf (gQ S 12 a i.toNatClampNeg) :: rest))) : W p l e R s m args below meth c H locs cells slots Q (F0 m pc ls (.int i :: .ref a :: rest)) := by
  obtain ⟨⟨ws, hP, hD, hx⟩, -⟩ := hw
  obtain ⟨k0, hk0⟩ := hx a _ (ce_12 h)
  have hlt : i.toNatClampNeg < gN S a := Nat.not_le.mp fun q => hin (Or.inr q)
  exact W.aald (v := va_rf (gQ S 12 a i.toNatClampNeg)) (ty := .array .int) hexec hb (hP k0 _ hk0) ((hK.2 3 _ rfl).1 (gN S a) (fun j => va_rf (gQ S 12 a j))) rfl (fun q => by cases q) (by show ¬ (i < 0 ∨ (arrV _ _ _).slots.size ≤ _); rw [arrV_size]; exact hin) (by show (arrV _ _ _).slots[_]? = _; rw [arrV_read _ _ hlt]) rfl rfl hdg kk
theorem r_cald (hexec : p.tables.exec = Jvm.exec) (hb : c.code = cc) (hK : va_K D bCl (bT y) s) (hw : wd D y z S A H) (h : gK S a = 16) {i : Int32} (hin : vp_in i (gN S a)) (hdg : decode cc pc = .ok (.aaload, 1))
    (kk : W p l e R s m args below meth c H locs cells slots Q (F0 m (pc + 1) ls (va_rf (gQ S 16 a i.toNatClampNeg) :: rest))) : W p l e R s m args below meth c H locs cells slots Q (F0 m pc ls (.int i :: .ref a :: rest)) := by
  obtain ⟨⟨ws, hP, hD, hx⟩, -⟩ := hw
  obtain ⟨k0, hk0⟩ := hx a _ (ce_16 h)
  have hlt : i.toNatClampNeg < gN S a := Nat.not_le.mp fun q => hin (Or.inr q)
  exact W.aald (v := va_rf (gQ S 16 a i.toNatClampNeg)) (ty := .array (.object "TubePostLaw$Carrier")) hexec hb (hP k0 _ hk0) ((hK.2 5 _ rfl).1 (gN S a) (fun j => va_rf (gQ S 16 a j))) rfl (fun q => by cases q) (by show ¬ (i < 0 ∨ (arrV _ _ _).slots.size ≤ _); rw [arrV_size]; exact hin) (by show (arrV _ _ _).slots[_]? = _; rw [arrV_read _ _ hlt]) rfl rfl hdg kk
theorem r_bald (hexec : p.tables.exec = Jvm.exec) (hb : c.code = cc) (hK : va_K D bCl (bT y) s) (hw : wd D y z S A H) (h : gK S a = 17) {i : Int32} (hin : vp_in i (gN S a)) (hdg : decode cc pc = .ok (.aaload, 1))
    (kk : W p l e R s m args below meth c H locs cells slots Q (F0 m (pc + 1) ls (va_rf (gQ S 17 a i.toNatClampNeg) :: rest))) : W p l e R s m args below meth c H locs cells slots Q (F0 m pc ls (.int i :: .ref a :: rest)) := by
  obtain ⟨⟨ws, hP, hD, hx⟩, -⟩ := hw
  obtain ⟨k0, hk0⟩ := hx a _ (ce_17 h)
  have hlt : i.toNatClampNeg < gN S a := Nat.not_le.mp fun q => hin (Or.inr q)
  exact W.aald (v := va_rf (gQ S 17 a i.toNatClampNeg)) (ty := .array .boolean) hexec hb (hP k0 _ hk0) ((hK.2 6 _ rfl).1 (gN S a) (fun j => va_rf (gQ S 17 a j))) rfl (fun q => by cases q) (by show ¬ (i < 0 ∨ (arrV _ _ _).slots.size ≤ _); rw [arrV_size]; exact hin) (by show (arrV _ _ _).slots[_]? = _; rw [arrV_read _ _ hlt]) rfl rfl hdg kk
theorem r_iast (hexec : p.tables.exec = Jvm.exec) (hb : c.code = cc) (hK : va_K D bCl (bT y) s) (hw : wd D y z S A H) (hS : va_S A H0 H locs) (h : gK S a = 9) {i : Int32} {x : Int32} (hin : vp_in i (gN S a)) (hdg : decode cc pc = .ok (.iastore, 1))
    (kk : ∀ (H1 : Heap) (locs1 : List Loc), wd D y z (sV S 9 a i.toNatClampNeg x) A H1 → va_S A H0 H1 locs1 → W p l e R s m args below meth c H1 locs1 cells slots Q (F0 m (pc + 1) ls rest)) : W p l e R s m args below meth c H locs cells slots Q (F0 m pc ls (.int x :: .int i :: .ref a :: rest)) := by
  obtain ⟨⟨ws, hP, hD, hx⟩, hwk⟩ := hw
  obtain ⟨k0, hk0⟩ := hx a _ (ce_9 h)
  refine va_iast hexec hb hK hP hD hS k0 0 hk0 rfl hin hdg (fun H1 locs1 hP1 hD1 hS1 => kk H1 locs1 (wd_set hx hk0 hP1 hD1 (fun b hb => ce_sV hb) ?_ (wk_of hwk (fun _ => rfl) (fun _ => rfl))) hS1)
  have hf : (fun j => gV (sV S 9 a i.toNatClampNeg x) 9 a j) = upd (fun j => gV S 9 a j) i.toNatClampNeg x := by funext j; simp [gV_sV, gQ_sQ, gL_sL, upd, va_up, vp_updL]
  rw [ce_9 (S := sV S 9 a i.toNatClampNeg x) h, hf]
  rfl
theorem r_zast (hexec : p.tables.exec = Jvm.exec) (hb : c.code = cc) (hK : va_K D bCl (bT y) s) (hw : wd D y z S A H) (hS : va_S A H0 H locs) (h : gK S a = 10) {i : Int32} {x : Int32} (hin : vp_in i (gN S a)) (hdg : decode cc pc = .ok (.bastore, 1))
    (kk : ∀ (H1 : Heap) (locs1 : List Loc), wd D y z (sV S 10 a i.toNatClampNeg (vp_nar .boolean x)) A H1 → va_S A H0 H1 locs1 → W p l e R s m args below meth c H1 locs1 cells slots Q (F0 m (pc + 1) ls rest)) : W p l e R s m args below meth c H locs cells slots Q (F0 m pc ls (.int x :: .int i :: .ref a :: rest)) := by
  obtain ⟨⟨ws, hP, hD, hx⟩, hwk⟩ := hw
  obtain ⟨k0, hk0⟩ := hx a _ (ce_10 h)
  refine va_zast hexec hb hK hP hD hS k0 1 hk0 rfl hin hdg (fun H1 locs1 hP1 hD1 hS1 => kk H1 locs1 (wd_set hx hk0 hP1 hD1 (fun b hb => ce_sV hb) ?_ (wk_of hwk (fun _ => rfl) (fun _ => rfl))) hS1)
  have hf : (fun j => gV (sV S 10 a i.toNatClampNeg (vp_nar .boolean x)) 10 a j) = upd (fun j => gV S 10 a j) i.toNatClampNeg (vp_nar .boolean x) := by funext j; simp [gV_sV, gQ_sQ, gL_sL, upd, va_up, vp_updL]
  rw [ce_10 (S := sV S 10 a i.toNatClampNeg (vp_nar .boolean x)) h, hf]
  rfl
theorem r_aastN (hexec : p.tables.exec = Jvm.exec) (hb : c.code = cc) (hK : va_K D bCl (bT y) s) (hw : wd D y z S A H) (hS : va_S A H0 H locs) (h : gK S a = 11) {i : Int32}  (hin : vp_in i (gN S a)) (hdg : decode cc pc = .ok (.aastore, 1))
    (kk : ∀ (H1 : Heap) (locs1 : List Loc), wd D y z (sQ S 11 a i.toNatClampNeg none) A H1 → va_S A H0 H1 locs1 → W p l e R s m args below meth c H1 locs1 cells slots Q (F0 m (pc + 1) ls rest)) : W p l e R s m args below meth c H locs cells slots Q (F0 m pc ls (.null :: .int i :: .ref a :: rest)) := by
  obtain ⟨⟨ws, hP, hD, hx⟩, hwk⟩ := hw
  obtain ⟨k0, hk0⟩ := hx a _ (ce_11 h)
  refine va_astqN hexec hb hK hP hD hS k0 2 hk0 rfl hin hdg (fun H1 locs1 hP1 hD1 hS1 => kk H1 locs1 (wd_set hx hk0 hP1 hD1 (fun b hb => ce_sQ hb) ?_ (wk_of hwk (fun _ => rfl) (fun _ => rfl))) hS1)
  have hf : (fun j => gQ (sQ S 11 a i.toNatClampNeg none) 11 a j) = va_up (fun j => gQ S 11 a j) i.toNatClampNeg none := by funext j; simp [gV_sV, gQ_sQ, gL_sL, upd, va_up, vp_updL]
  rw [ce_11 (S := sQ S 11 a i.toNatClampNeg none) h, hf]
  rfl
theorem r_alen (hexec : p.tables.exec = Jvm.exec) (hb : c.code = cc) (hK : va_K D bCl (bT y) s) (hw : wd D y z S A H) (h : 9 ≤ gK S a ∧ gK S a ≤ 17 ∧ gK S a ≠ 14) {v : Int32} (hv : Int32.ofNat (gN S a) = v) (hdg : decode cc pc = .ok (.arraylength, 1))
    (kk : W p l e R s m args below meth c H locs cells slots Q (F0 m (pc + 1) ls (.int v :: rest))) : W p l e R s m args below meth c H locs cells slots Q (F0 m pc ls (.ref a :: rest)) := by
  obtain ⟨⟨ws, hP, hD, hx⟩, -⟩ := hw
  have h5 : gK S a = 9 ∨ gK S a = 10 ∨ gK S a = 11 ∨ gK S a = 12 ∨ gK S a = 13 ∨ gK S a = 15 ∨ gK S a = 16 ∨ gK S a = 17 := by omega
  rcases h5 with h | h | h | h | h | h | h | h
  · obtain ⟨k0, hk0⟩ := hx a _ (ce_9 h)
    exact va_alen hexec hb hK hP k0 0 hk0 rfl hv hdg kk
  · obtain ⟨k0, hk0⟩ := hx a _ (ce_10 h)
    exact va_alen hexec hb hK hP k0 1 hk0 rfl hv hdg kk
  · obtain ⟨k0, hk0⟩ := hx a _ (ce_11 h)
    exact va_alen hexec hb hK hP k0 2 hk0 rfl hv hdg kk
  · obtain ⟨k0, hk0⟩ := hx a _ (ce_12 h)
    exact va_alen hexec hb hK hP k0 3 hk0 rfl hv hdg kk
  · obtain ⟨k0, hk0⟩ := hx a _ (ce_13 h)
    exact va_alen hexec hb hK hP k0 0 hk0 rfl hv hdg kk
  · obtain ⟨k0, hk0⟩ := hx a _ (ce_15 h)
    exact va_alen hexec hb hK hP k0 4 hk0 rfl hv hdg kk
  · obtain ⟨k0, hk0⟩ := hx a _ (ce_16 h)
    exact va_alen hexec hb hK hP k0 5 hk0 rfl hv hdg kk
  · obtain ⟨k0, hk0⟩ := hx a _ (ce_17 h)
    exact va_alen hexec hb hK hP k0 6 hk0 rfl hv hdg kk
end BR
