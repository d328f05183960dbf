/-! ===== the reference's memory ===== -/
/-- M 0: the object's own numbers; M 1 .. M 7: its rows (stations, tubes, entries, carriers, active, times, queue) -/
def mW (μ : Nat) (r : Nat → Nat) (S : bS) (M : Nat → Nat → Int32) : bS := (S.1, S.2.1, (fun κ a j => if κ = 8 ∧ a = μ then M 0 j else if κ = 9 ∧ a = r 1 then M 1 j else if κ = 9 ∧ a = r 2 then M 2 j else if κ = 9 ∧ a = r 3 then M 3 j else if κ = 9 ∧ a = r 4 then M 4 j else if κ = 9 ∧ a = r 5 then M 5 j else if κ = 9 ∧ a = r 6 then M 6 j else if κ = 9 ∧ a = r 7 then M 7 j else S.2.2.1 κ a j), S.2.2.2)
def mDim (i : Nat) : Nat := match i with | 1 => 126 | 2 => 240 | 3 => 60 | 4 => 4500 | 5 => 40 | 6 => 14 | _ => 40
def mOK (μ : Nat) (r : Nat → Nat) (S : bS) : Prop := gK S μ = 8 ∧ (gQ S 8 μ 9 = some (r 1) ∧ gQ S 8 μ 10 = some (r 2) ∧ gQ S 8 μ 11 = some (r 3) ∧ gQ S 8 μ 12 = some (r 4) ∧ gQ S 8 μ 13 = some (r 5) ∧ gQ S 8 μ 15 = some (r 6) ∧ gQ S 8 μ 16 = some (r 7)) ∧ (∀ i, 1 ≤ i → i ≤ 7 → gK S (r i) = 9 ∧ gN S (r i) = mDim i) ∧ ∀ i j, 1 ≤ i → i ≤ 7 → 1 ≤ j → j ≤ 7 → r i = r j → i = j
def mU (M : Nat → Nat → Int32) (i j : Nat) (v : Int32) : Nat → Nat → Int32 := fun i' j' => if i' = i ∧ j' = j then v else M i' j'
theorem mU_s {M : Nat → Nat → Int32} {i j : Nat} {v : Int32} : mU M i j v i j = v := if_pos ⟨rfl, rfl⟩
theorem mU_r {M : Nat → Nat → Int32} {i j i' j' : Nat} {v : Int32} (h : i' ≠ i) : mU M i j v i' j' = M i' j' := if_neg (fun q => h q.1)
theorem mU_c {M : Nat → Nat → Int32} {i j i' j' : Nat} {v : Int32} (h : j' ≠ j) : mU M i j v i' j' = M i' j' := if_neg (fun q => h q.2)
theorem mW_K {μ : Nat} {r : Nat → Nat} {S : bS} {M : Nat → Nat → Int32} (a : Nat) : gK (mW μ r S M) a = gK S a := rfl
theorem mW_N {μ : Nat} {r : Nat → Nat} {S : bS} {M : Nat → Nat → Int32} (a : Nat) : gN (mW μ r S M) a = gN S a := rfl
theorem mW_Q {μ : Nat} {r : Nat → Nat} {S : bS} {M : Nat → Nat → Int32} (κ a j : Nat) : gQ (mW μ r S M) κ a j = gQ S κ a j := rfl
theorem mW_V0 {μ : Nat} {r : Nat → Nat} {S : bS} {M : Nat → Nat → Int32} (j : Nat) : gV (mW μ r S M) 8 μ j = M 0 j := if_pos ⟨rfl, rfl⟩
theorem bS_V {S S' : bS} (h1 : S.1 = S'.1) (h2 : S.2.1 = S'.2.1) (h3 : S.2.2.1 = S'.2.2.1) (h4 : S.2.2.2 = S'.2.2.2) : S = S' := Prod.ext h1 (Prod.ext h2 (Prod.ext h3 h4))
section MODEL
variable {μ : Nat} {r : Nat → Nat} {S : bS} {M : Nat → Nat → Int32}
theorem mr_ne (hM : mOK μ r S) {i j : Nat} (hi : 1 ≤ i) (hi7 : i ≤ 7) (hj : 1 ≤ j) (hj7 : j ≤ 7) (h : i ≠ j) : r i ≠ r j := fun q => h (hM.2.2.2 i j hi hi7 hj hj7 q)
theorem mW_V1 (hM : mOK μ r S) (j : Nat) : gV (mW μ r S M) 9 (r 1) j = M 1 j := by
  unfold gV mW
  simp []
theorem mW_k1 (hM : mOK μ r S) : gK (mW μ r S M) (r 1) = 9 := (hM.2.2.1 1 (by decide) (by decide)).1
theorem mW_n1 (hM : mOK μ r S) : gN (mW μ r S M) (r 1) = 126 := (hM.2.2.1 1 (by decide) (by decide)).2
theorem mW_V2 (hM : mOK μ r S) (j : Nat) : gV (mW μ r S M) 9 (r 2) j = M 2 j := by
  unfold gV mW
  simp [mr_ne hM (i := 2) (j := 1) (by decide) (by decide) (by decide) (by decide) (by decide)]
theorem mW_k2 (hM : mOK μ r S) : gK (mW μ r S M) (r 2) = 9 := (hM.2.2.1 2 (by decide) (by decide)).1
theorem mW_n2 (hM : mOK μ r S) : gN (mW μ r S M) (r 2) = 240 := (hM.2.2.1 2 (by decide) (by decide)).2
theorem mW_V3 (hM : mOK μ r S) (j : Nat) : gV (mW μ r S M) 9 (r 3) j = M 3 j := by
  unfold gV mW
  simp [mr_ne hM (i := 3) (j := 1) (by decide) (by decide) (by decide) (by decide) (by decide), mr_ne hM (i := 3) (j := 2) (by decide) (by decide) (by decide) (by decide) (by decide)]
theorem mW_k3 (hM : mOK μ r S) : gK (mW μ r S M) (r 3) = 9 := (hM.2.2.1 3 (by decide) (by decide)).1
theorem mW_n3 (hM : mOK μ r S) : gN (mW μ r S M) (r 3) = 60 := (hM.2.2.1 3 (by decide) (by decide)).2
theorem mW_V4 (hM : mOK μ r S) (j : Nat) : gV (mW μ r S M) 9 (r 4) j = M 4 j := by
  unfold gV mW
  simp [mr_ne hM (i := 4) (j := 1) (by decide) (by decide) (by decide) (by decide) (by decide), mr_ne hM (i := 4) (j := 2) (by decide) (by decide) (by decide) (by decide) (by decide), mr_ne hM (i := 4) (j := 3) (by decide) (by decide) (by decide) (by decide) (by decide)]
theorem mW_k4 (hM : mOK μ r S) : gK (mW μ r S M) (r 4) = 9 := (hM.2.2.1 4 (by decide) (by decide)).1
theorem mW_n4 (hM : mOK μ r S) : gN (mW μ r S M) (r 4) = 4500 := (hM.2.2.1 4 (by decide) (by decide)).2
theorem mW_V5 (hM : mOK μ r S) (j : Nat) : gV (mW μ r S M) 9 (r 5) j = M 5 j := by
  unfold gV mW
  simp [mr_ne hM (i := 5) (j := 1) (by decide) (by decide) (by decide) (by decide) (by decide), mr_ne hM (i := 5) (j := 2) (by decide) (by decide) (by decide) (by decide) (by decide), mr_ne hM (i := 5) (j := 3) (by decide) (by decide) (by decide) (by decide) (by decide), mr_ne hM (i := 5) (j := 4) (by decide) (by decide) (by decide) (by decide) (by decide)]
theorem mW_k5 (hM : mOK μ r S) : gK (mW μ r S M) (r 5) = 9 := (hM.2.2.1 5 (by decide) (by decide)).1
theorem mW_n5 (hM : mOK μ r S) : gN (mW μ r S M) (r 5) = 40 := (hM.2.2.1 5 (by decide) (by decide)).2
theorem mW_V6 (hM : mOK μ r S) (j : Nat) : gV (mW μ r S M) 9 (r 6) j = M 6 j := by
  unfold gV mW
  simp [mr_ne hM (i := 6) (j := 1) (by decide) (by decide) (by decide) (by decide) (by decide), mr_ne hM (i := 6) (j := 2) (by decide) (by decide) (by decide) (by decide) (by decide), mr_ne hM (i := 6) (j := 3) (by decide) (by decide) (by decide) (by decide) (by decide), mr_ne hM (i := 6) (j := 4) (by decide) (by decide) (by decide) (by decide) (by decide), mr_ne hM (i := 6) (j := 5) (by decide) (by decide) (by decide) (by decide) (by decide)]
theorem mW_k6 (hM : mOK μ r S) : gK (mW μ r S M) (r 6) = 9 := (hM.2.2.1 6 (by decide) (by decide)).1
theorem mW_n6 (hM : mOK μ r S) : gN (mW μ r S M) (r 6) = 14 := (hM.2.2.1 6 (by decide) (by decide)).2
theorem mW_V7 (hM : mOK μ r S) (j : Nat) : gV (mW μ r S M) 9 (r 7) j = M 7 j := by
  unfold gV mW
  simp [mr_ne hM (i := 7) (j := 1) (by decide) (by decide) (by decide) (by decide) (by decide), mr_ne hM (i := 7) (j := 2) (by decide) (by decide) (by decide) (by decide) (by decide), mr_ne hM (i := 7) (j := 3) (by decide) (by decide) (by decide) (by decide) (by decide), mr_ne hM (i := 7) (j := 4) (by decide) (by decide) (by decide) (by decide) (by decide), mr_ne hM (i := 7) (j := 5) (by decide) (by decide) (by decide) (by decide) (by decide), mr_ne hM (i := 7) (j := 6) (by decide) (by decide) (by decide) (by decide) (by decide)]
theorem mW_k7 (hM : mOK μ r S) : gK (mW μ r S M) (r 7) = 9 := (hM.2.2.1 7 (by decide) (by decide)).1
theorem mW_n7 (hM : mOK μ r S) : gN (mW μ r S M) (r 7) = 40 := (hM.2.2.1 7 (by decide) (by decide)).2
theorem sW_0 (j : Nat) (v : Int32) : sV (mW μ r S M) 8 μ j v = mW μ r S (mU M 0 j v) := by
  refine bS_V rfl rfl ?_ rfl
  funext κ a j'
  show (if κ = 8 ∧ a = μ ∧ j' = j then v else if κ = 8 ∧ a = μ then M 0 j' else _) = (if κ = 8 ∧ a = μ then mU M 0 j v 0 j' else _)
  by_cases h : κ = 8 ∧ a = μ
  · rw [if_pos h, if_pos h]
    by_cases hj : j' = j
    · rw [if_pos ⟨h.1, h.2, hj⟩, hj, mU_s]
    · rw [if_neg (fun q => hj q.2.2), mU_c hj]
  · rw [if_neg (fun q => h ⟨q.1, q.2.1⟩), if_neg h, if_neg h]
    simp only [mU_r (M := M) (v := v) (j := j) (show (1 : Nat) ≠ 0 by decide), mU_r (M := M) (v := v) (j := j) (show (2 : Nat) ≠ 0 by decide), mU_r (M := M) (v := v) (j := j) (show (3 : Nat) ≠ 0 by decide), mU_r (M := M) (v := v) (j := j) (show (4 : Nat) ≠ 0 by decide), mU_r (M := M) (v := v) (j := j) (show (5 : Nat) ≠ 0 by decide), mU_r (M := M) (v := v) (j := j) (show (6 : Nat) ≠ 0 by decide), mU_r (M := M) (v := v) (j := j) (show (7 : Nat) ≠ 0 by decide)]
theorem sW_1 (hM : mOK μ r S) (j : Nat) (v : Int32) : sV (mW μ r S M) 9 (r 1) j v = mW μ r S (mU M 1 j v) := by
  refine bS_V rfl rfl ?_ rfl
  funext κ a j'
  show (if κ = 9 ∧ a = r 1 ∧ j' = j then v else gV (mW μ r S M) κ a j') = gV (mW μ r S (mU M 1 j v)) κ a j'
  by_cases h : κ = 9 ∧ a = r 1
  · obtain ⟨rfl, rfl⟩ := h
    rw [mW_V1 hM, mW_V1 hM]
    by_cases hj : j' = j
    · rw [if_pos ⟨rfl, rfl, hj⟩, hj, mU_s]
    · rw [if_neg (fun q => hj q.2.2), mU_c hj]
  · rw [if_neg (fun q => h ⟨q.1, q.2.1⟩)]
    show (if κ = 8 ∧ a = μ then _ else _) = (if κ = 8 ∧ a = μ then _ else _)
    simp only [mU_r (M := M) (v := v) (j := j) (i := 1) (show (2 : Nat) ≠ 1 by decide), mU_r (M := M) (v := v) (j := j) (i := 1) (show (0 : Nat) ≠ 1 by decide), mU_r (M := M) (v := v) (j := j) (i := 1) (show (3 : Nat) ≠ 1 by decide), mU_r (M := M) (v := v) (j := j) (i := 1) (show (4 : Nat) ≠ 1 by decide), mU_r (M := M) (v := v) (j := j) (i := 1) (show (5 : Nat) ≠ 1 by decide), mU_r (M := M) (v := v) (j := j) (i := 1) (show (6 : Nat) ≠ 1 by decide), mU_r (M := M) (v := v) (j := j) (i := 1) (show (7 : Nat) ≠ 1 by decide), if_neg h]
theorem sW_2 (hM : mOK μ r S) (j : Nat) (v : Int32) : sV (mW μ r S M) 9 (r 2) j v = mW μ r S (mU M 2 j v) := by
  refine bS_V rfl rfl ?_ rfl
  funext κ a j'
  show (if κ = 9 ∧ a = r 2 ∧ j' = j then v else gV (mW μ r S M) κ a j') = gV (mW μ r S (mU M 2 j v)) κ a j'
  by_cases h : κ = 9 ∧ a = r 2
  · obtain ⟨rfl, rfl⟩ := h
    rw [mW_V2 hM, mW_V2 hM]
    by_cases hj : j' = j
    · rw [if_pos ⟨rfl, rfl, hj⟩, hj, mU_s]
    · rw [if_neg (fun q => hj q.2.2), mU_c hj]
  · rw [if_neg (fun q => h ⟨q.1, q.2.1⟩)]
    show (if κ = 8 ∧ a = μ then _ else _) = (if κ = 8 ∧ a = μ then _ else _)
    simp only [mU_r (M := M) (v := v) (j := j) (i := 2) (show (3 : Nat) ≠ 2 by decide), mU_r (M := M) (v := v) (j := j) (i := 2) (show (0 : Nat) ≠ 2 by decide), mU_r (M := M) (v := v) (j := j) (i := 2) (show (1 : Nat) ≠ 2 by decide), mU_r (M := M) (v := v) (j := j) (i := 2) (show (4 : Nat) ≠ 2 by decide), mU_r (M := M) (v := v) (j := j) (i := 2) (show (5 : Nat) ≠ 2 by decide), mU_r (M := M) (v := v) (j := j) (i := 2) (show (6 : Nat) ≠ 2 by decide), mU_r (M := M) (v := v) (j := j) (i := 2) (show (7 : Nat) ≠ 2 by decide), if_neg h]
theorem sW_3 (hM : mOK μ r S) (j : Nat) (v : Int32) : sV (mW μ r S M) 9 (r 3) j v = mW μ r S (mU M 3 j v) := by
  refine bS_V rfl rfl ?_ rfl
  funext κ a j'
  show (if κ = 9 ∧ a = r 3 ∧ j' = j then v else gV (mW μ r S M) κ a j') = gV (mW μ r S (mU M 3 j v)) κ a j'
  by_cases h : κ = 9 ∧ a = r 3
  · obtain ⟨rfl, rfl⟩ := h
    rw [mW_V3 hM, mW_V3 hM]
    by_cases hj : j' = j
    · rw [if_pos ⟨rfl, rfl, hj⟩, hj, mU_s]
    · rw [if_neg (fun q => hj q.2.2), mU_c hj]
  · rw [if_neg (fun q => h ⟨q.1, q.2.1⟩)]
    show (if κ = 8 ∧ a = μ then _ else _) = (if κ = 8 ∧ a = μ then _ else _)
    simp only [mU_r (M := M) (v := v) (j := j) (i := 3) (show (4 : Nat) ≠ 3 by decide), mU_r (M := M) (v := v) (j := j) (i := 3) (show (0 : Nat) ≠ 3 by decide), mU_r (M := M) (v := v) (j := j) (i := 3) (show (1 : Nat) ≠ 3 by decide), mU_r (M := M) (v := v) (j := j) (i := 3) (show (2 : Nat) ≠ 3 by decide), mU_r (M := M) (v := v) (j := j) (i := 3) (show (5 : Nat) ≠ 3 by decide), mU_r (M := M) (v := v) (j := j) (i := 3) (show (6 : Nat) ≠ 3 by decide), mU_r (M := M) (v := v) (j := j) (i := 3) (show (7 : Nat) ≠ 3 by decide), if_neg h]
theorem sW_4 (hM : mOK μ r S) (j : Nat) (v : Int32) : sV (mW μ r S M) 9 (r 4) j v = mW μ r S (mU M 4 j v) := by
  refine bS_V rfl rfl ?_ rfl
  funext κ a j'
  show (if κ = 9 ∧ a = r 4 ∧ j' = j then v else gV (mW μ r S M) κ a j') = gV (mW μ r S (mU M 4 j v)) κ a j'
  by_cases h : κ = 9 ∧ a = r 4
  · obtain ⟨rfl, rfl⟩ := h
    rw [mW_V4 hM, mW_V4 hM]
    by_cases hj : j' = j
    · rw [if_pos ⟨rfl, rfl, hj⟩, hj, mU_s]
    · rw [if_neg (fun q => hj q.2.2), mU_c hj]
  · rw [if_neg (fun q => h ⟨q.1, q.2.1⟩)]
    show (if κ = 8 ∧ a = μ then _ else _) = (if κ = 8 ∧ a = μ then _ else _)
    simp only [mU_r (M := M) (v := v) (j := j) (i := 4) (show (5 : Nat) ≠ 4 by decide), mU_r (M := M) (v := v) (j := j) (i := 4) (show (0 : Nat) ≠ 4 by decide), mU_r (M := M) (v := v) (j := j) (i := 4) (show (1 : Nat) ≠ 4 by decide), mU_r (M := M) (v := v) (j := j) (i := 4) (show (2 : Nat) ≠ 4 by decide), mU_r (M := M) (v := v) (j := j) (i := 4) (show (3 : Nat) ≠ 4 by decide), mU_r (M := M) (v := v) (j := j) (i := 4) (show (6 : Nat) ≠ 4 by decide), mU_r (M := M) (v := v) (j := j) (i := 4) (show (7 : Nat) ≠ 4 by decide), if_neg h]
theorem sW_5 (hM : mOK μ r S) (j : Nat) (v : Int32) : sV (mW μ r S M) 9 (r 5) j v = mW μ r S (mU M 5 j v) := by
  refine bS_V rfl rfl ?_ rfl
  funext κ a j'
  show (if κ = 9 ∧ a = r 5 ∧ j' = j then v else gV (mW μ r S M) κ a j') = gV (mW μ r S (mU M 5 j v)) κ a j'
  by_cases h : κ = 9 ∧ a = r 5
  · obtain ⟨rfl, rfl⟩ := h
    rw [mW_V5 hM, mW_V5 hM]
    by_cases hj : j' = j
    · rw [if_pos ⟨rfl, rfl, hj⟩, hj, mU_s]
    · rw [if_neg (fun q => hj q.2.2), mU_c hj]
  · rw [if_neg (fun q => h ⟨q.1, q.2.1⟩)]
    show (if κ = 8 ∧ a = μ then _ else _) = (if κ = 8 ∧ a = μ then _ else _)
    simp only [mU_r (M := M) (v := v) (j := j) (i := 5) (show (6 : Nat) ≠ 5 by decide), mU_r (M := M) (v := v) (j := j) (i := 5) (show (0 : Nat) ≠ 5 by decide), mU_r (M := M) (v := v) (j := j) (i := 5) (show (1 : Nat) ≠ 5 by decide), mU_r (M := M) (v := v) (j := j) (i := 5) (show (2 : Nat) ≠ 5 by decide), mU_r (M := M) (v := v) (j := j) (i := 5) (show (3 : Nat) ≠ 5 by decide), mU_r (M := M) (v := v) (j := j) (i := 5) (show (4 : Nat) ≠ 5 by decide), mU_r (M := M) (v := v) (j := j) (i := 5) (show (7 : Nat) ≠ 5 by decide), if_neg h]
theorem sW_6 (hM : mOK μ r S) (j : Nat) (v : Int32) : sV (mW μ r S M) 9 (r 6) j v = mW μ r S (mU M 6 j v) := by
  refine bS_V rfl rfl ?_ rfl
  funext κ a j'
  show (if κ = 9 ∧ a = r 6 ∧ j' = j then v else gV (mW μ r S M) κ a j') = gV (mW μ r S (mU M 6 j v)) κ a j'
  by_cases h : κ = 9 ∧ a = r 6
  · obtain ⟨rfl, rfl⟩ := h
    rw [mW_V6 hM, mW_V6 hM]
    by_cases hj : j' = j
    · rw [if_pos ⟨rfl, rfl, hj⟩, hj, mU_s]
    · rw [if_neg (fun q => hj q.2.2), mU_c hj]
  · rw [if_neg (fun q => h ⟨q.1, q.2.1⟩)]
    show (if κ = 8 ∧ a = μ then _ else _) = (if κ = 8 ∧ a = μ then _ else _)
    simp only [mU_r (M := M) (v := v) (j := j) (i := 6) (show (7 : Nat) ≠ 6 by decide), mU_r (M := M) (v := v) (j := j) (i := 6) (show (0 : Nat) ≠ 6 by decide), mU_r (M := M) (v := v) (j := j) (i := 6) (show (1 : Nat) ≠ 6 by decide), mU_r (M := M) (v := v) (j := j) (i := 6) (show (2 : Nat) ≠ 6 by decide), mU_r (M := M) (v := v) (j := j) (i := 6) (show (3 : Nat) ≠ 6 by decide), mU_r (M := M) (v := v) (j := j) (i := 6) (show (4 : Nat) ≠ 6 by decide), mU_r (M := M) (v := v) (j := j) (i := 6) (show (5 : Nat) ≠ 6 by decide), if_neg h]
theorem sW_7 (hM : mOK μ r S) (j : Nat) (v : Int32) : sV (mW μ r S M) 9 (r 7) j v = mW μ r S (mU M 7 j v) := by
  refine bS_V rfl rfl ?_ rfl
  funext κ a j'
  show (if κ = 9 ∧ a = r 7 ∧ j' = j then v else gV (mW μ r S M) κ a j') = gV (mW μ r S (mU M 7 j v)) κ a j'
  by_cases h : κ = 9 ∧ a = r 7
  · obtain ⟨rfl, rfl⟩ := h
    rw [mW_V7 hM, mW_V7 hM]
    by_cases hj : j' = j
    · rw [if_pos ⟨rfl, rfl, hj⟩, hj, mU_s]
    · rw [if_neg (fun q => hj q.2.2), mU_c hj]
  · rw [if_neg (fun q => h ⟨q.1, q.2.1⟩)]
    show (if κ = 8 ∧ a = μ then _ else _) = (if κ = 8 ∧ a = μ then _ else _)
    simp only [mU_r (M := M) (v := v) (j := j) (i := 7) (show (0 : Nat) ≠ 7 by decide), mU_r (M := M) (v := v) (j := j) (i := 7) (show (1 : Nat) ≠ 7 by decide), mU_r (M := M) (v := v) (j := j) (i := 7) (show (2 : Nat) ≠ 7 by decide), mU_r (M := M) (v := v) (j := j) (i := 7) (show (3 : Nat) ≠ 7 by decide), mU_r (M := M) (v := v) (j := j) (i := 7) (show (4 : Nat) ≠ 7 by decide), mU_r (M := M) (v := v) (j := j) (i := 7) (show (5 : Nat) ≠ 7 by decide), mU_r (M := M) (v := v) (j := j) (i := 7) (show (6 : Nat) ≠ 7 by decide), if_neg h]
theorem m_q (hM : mOK μ r S) : gQ (mW μ r S M) 8 μ 9 = some (r 1) ∧ gQ (mW μ r S M) 8 μ 10 = some (r 2) ∧ gQ (mW μ r S M) 8 μ 11 = some (r 3) ∧ gQ (mW μ r S M) 8 μ 12 = some (r 4) ∧ gQ (mW μ r S M) 8 μ 13 = some (r 5) ∧ gQ (mW μ r S M) 8 μ 15 = some (r 6) ∧ gQ (mW μ r S M) 8 μ 16 = some (r 7) := hM.2.1
theorem m_k (hM : mOK μ r S) : gK (mW μ r S M) μ = 8 := hM.1
theorem i_9 (c w : Nat) : (9 : Int32) * nI c + nI w = nI (9 * c + w) := by
  rw [show (9 : Int32) = nI 9 from rfl, pk_mul, nI_add]
theorem i_8 (c w : Nat) : (8 : Int32) * nI c + nI w = nI (8 * c + w) := by
  rw [show (8 : Int32) = nI 8 from rfl, pk_mul, nI_add]
theorem i_5 (c w : Nat) : (5 : Int32) * nI c + nI w = nI (5 * c + w) := by
  rw [show (5 : Int32) = nI 5 from rfl, pk_mul, nI_add]
theorem M_isIn {X : bS} {post : Int32 → bS → Prop} {v a b : Int32} (h : post (if a ≤ v ∧ v ≤ b then 1 else 0) X) : wp_X6_isIn post v a b X := by
  refine ⟨fun h1 => ?_, fun h1 => ⟨fun h2 => ?_, fun h2 => ?_⟩⟩
  · rw [if_neg (fun q => absurd h1 (Int32.not_lt.mpr q.1))] at h
    exact ⟨Or.inl rfl, h⟩
  · rw [if_neg (fun q => absurd h2 (Int32.not_lt.mpr q.2))] at h
    exact ⟨Or.inl rfl, h⟩
  · rw [if_pos ⟨Int32.not_lt.mp h1, Int32.not_lt.mp h2⟩] at h
    exact ⟨Or.inr rfl, h⟩
theorem M_st (hM : mOK μ r S) {post : Int32 → bS → Prop} {i w : Nat} (hi : 9 * i + w < 126) (h : post (M 1 (9 * i + w)) (mW μ r S M)) : wp_X6_st post μ (nI i) (nI w) (mW μ r S M) := by
  refine ⟨m_k hM, r 1, (m_q hM).1, mW_k1 hM, ?_, ?_⟩
  · rw [i_9, mW_n1 hM]
    exact vp_in_nI hi (by omega)
  · rw [i_9, nI_clamp (by omega), mW_V1 hM]
    exact h
theorem M_tu (hM : mOK μ r S) {post : Int32 → bS → Prop} {i w : Nat} (hi : 8 * i + w < 240) (h : post (M 2 (8 * i + w)) (mW μ r S M)) : wp_X6_tu post μ (nI i) (nI w) (mW μ r S M) := by
  refine ⟨m_k hM, r 2, (m_q hM).2.1, mW_k2 hM, ?_, ?_⟩
  · rw [i_8, mW_n2 hM]
    exact vp_in_nI hi (by omega)
  · rw [i_8, nI_clamp (by omega), mW_V2 hM]
    exact h
theorem M_get (hM : mOK μ r S) {post : Int32 → bS → Prop} {i w : Nat} (hi : 9 * i + w < 4500) (h : post (M 4 (9 * i + w)) (mW μ r S M)) : wp_X6_get post μ (nI i) (nI w) (mW μ r S M) := by
  refine ⟨m_k hM, r 4, (m_q hM).2.2.2.1, mW_k4 hM, ?_, ?_⟩
  · rw [i_9, mW_n4 hM]
    exact vp_in_nI hi (by omega)
  · rw [i_9, nI_clamp (by omega), mW_V4 hM]
    exact h
theorem M_set (hM : mOK μ r S) {post : bS → Prop} {i w : Nat} {v : Int32} (hi : 9 * i + w < 4500) (h : post (mW μ r S (mU M 4 (9 * i + w) v))) : wp_X6_set post μ (nI i) (nI w) v (mW μ r S M) := by
  refine ⟨m_k hM, r 4, (m_q hM).2.2.2.1, mW_k4 hM, ?_, ?_⟩
  · rw [i_9, mW_n4 hM]
    exact vp_in_nI hi (by omega)
  · rw [i_9, nI_clamp (by omega), sW_4 hM]
    exact h
theorem M_fail (hM : mOK μ r S) {post : Int32 → bS → Prop} {v : Int32} (h : post 0 (mW μ r S (mU M 0 0 v))) : wp_X6_fail post μ v (mW μ r S M) := by
  refine ⟨m_k hM, ?_⟩
  rw [sW_0]
  exact h
theorem M_thrown (hM : mOK μ r S) {post : Int32 → bS → Prop} (h : post (M 0 0) (mW μ r S M)) : wp_X6_thrown post μ (mW μ r S M) := by
  refine ⟨m_k hM, ?_⟩
  rw [mW_V0]
  exact h
theorem M_isStation (hM : mOK μ r S) {post : Int32 → bS → Prop} {v : Int32} (h : post (if (0 : Int32) ≤ v ∧ v ≤ M 0 2 - 1 then 1 else 0) (mW μ r S M)) : wp_X6_isStation post μ v (mW μ r S M) := by
  refine ⟨m_k hM, M_isIn ⟨?_, ?_⟩⟩
  · split
    · exact Or.inr rfl
    · exact Or.inl rfl
  · rw [mW_V0]
    exact h
theorem M_isTube (hM : mOK μ r S) {post : Int32 → bS → Prop} {v : Int32} (h : post (if (0 : Int32) ≤ v ∧ v ≤ M 0 3 - 1 then 1 else 0) (mW μ r S M)) : wp_X6_isTube post μ v (mW μ r S M) := by
  refine ⟨m_k hM, M_isIn ⟨?_, ?_⟩⟩
  · split
    · exact Or.inr rfl
    · exact Or.inl rfl
  · rw [mW_V0]
    exact h
/-- a carrier is somewhere now -/
def pM (M : Nat → Nat → Int32) (c : Nat) (st wh : Int32) : Nat → Nat → Int32 := mU (mU (mU (mU (mU M 4 (9 * c + 0) st) 4 (9 * c + 1) wh) 4 (9 * c + 5) (M 0 1)) 4 (9 * c + 7) (M 0 8)) 0 8 (M 0 8 + 1)
theorem M_put (hM : mOK μ r S) {post : bS → Prop} {c : Nat} {st wh : Int32} (hc : c < 500) (h : post (mW μ r S (pM M c st wh))) : wp_X6_put post μ (nI c) st wh (mW μ r S M) := by
  refine ⟨m_k hM, M_set (w := 0) hM (by omega) ⟨m_k hM, M_set (w := 1) hM (by omega) ⟨m_k hM, ?_⟩⟩⟩
  rw [mW_V0]
  refine M_set (w := 5) hM (by omega) ⟨m_k hM, ?_⟩
  rw [mW_V0]
  refine M_set (w := 7) hM (by omega) ⟨m_k hM, ?_⟩
  rw [mW_V0, sW_0]
  exact h
end MODEL
