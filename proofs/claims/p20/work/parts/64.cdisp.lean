/-! ===== the class sends a carrier ===== -/
def upA (A : Nat → Nat → Nat) (i j x : Nat) : Nat → Nat → Nat := fun i' j' => if i' = i ∧ j' = j then x else A i' j'
theorem upA_s {A : Nat → Nat → Nat} {i j x : Nat} : upA A i j x i j = x := if_pos ⟨rfl, rfl⟩
theorem upA_r {A : Nat → Nat → Nat} {i j x i' : Nat} (h : i' ≠ i) : upA A i j x i' = A i' := funext (fun j' => if_neg (fun q => h q.1))
theorem upA_c {A : Nat → Nat → Nat} {i j x j' : Nat} (h : j' ≠ j) : upA A i j x i j' = A i j' := if_neg (fun q => h q.2)
theorem cF_A {A A' : Nat → Nat → Nat} {S S' : bS} (h0 : A' 0 = A 0) (h6 : A' 6 = A 6) (h : cF A' S S') : cF A S S' := by
  unfold cF at *
  rw [h6] at h
  exact h
theorem insR_ext {M M' : Nat → Nat → Int32} {c : Nat} (h : ∀ d, M' 4 (9 * d + 3) = M 4 (9 * d + 3)) : ∀ l, insR M' c l = insR M c l
  | [] => rfl
  | d :: l => by
    show (if M' 4 (9 * d + 3) < M' 4 (9 * c + 3) then c :: d :: l else d :: insR M' c l) = (if M 4 (9 * d + 3) < M 4 (9 * c + 3) then c :: d :: l else d :: insR M c l)
    rw [h d, h c, insR_ext h l]
/-- the numbers of a carrier as its constructor leaves them -/
def newM (M : Nat → Nat → Int32) (aim rank : Int32) : Nat → Nat → Int32 := mU (mU (mU (mU (mU (mU (mU (mU M 0 5 (M 0 5 + 1)) 4 (9 * nC M + 2) aim) 4 (9 * nC M + 3) rank) 4 (9 * nC M + 4) (M 0 1)) 4 (9 * nC M + 6) 0) 4 (9 * nC M + 0) 1) 4 (9 * nC M + 1) 0) 4 (9 * nC M + 5) (M 0 1)
section CDISP
variable {S : bS} {A : Nat → Nat → Nat} {M : Nat → Nat → Int32}
theorem newM_C (hN : iN M) (h500 : nC M < 500) {aim rank : Int32} : nC (newM M aim rank) = nC M + 1 := by
  show u (newM M aim rank 0 5) = _
  have e : newM M aim rank 0 5 = M 0 5 + 1 := by simp (disch := omega) only [newM, mU_s, mU_r]
  rw [e, hN.2.2.2.1, nI_1, u_nI (by omega)]
/-- a new carrier's cell -/
theorem cO_new (h : cO S A M) (hN : iN M) (h500 : nC M < 500) {q a : Nat} (hq : gK S q = 0) {rank : Int32} (ha : a < nS M) {A' : Nat → Nat → Nat} (hA' : A' = upA A 3 (nC M) q) : cO (sV (sV (sV (sV (sV (sV (sV (sQ (sV (sNew S q 2 0) 2 q 0 (nI (nC M))) 2 q 1 (some (A 1 a))) 2 q 2 rank) 2 q 3 (M 0 1)) 2 q 4 1) 2 q 5 0) 2 q 6 (M 0 1)) 2 q 7 0) 2 q 8 0) A' (newM M (nI a) rank) := by
  have hlf := lF_new (κ := 2) (n := 0) hq (by decide)
  have h14 := hN.1.2
  have hcq : ∀ c, c < nC M → A 3 c ≠ q := fun c hc x => by
    have := (h.2.2.2.2.2.1 c hc).1
    rw [x, hq] at this
    exact absurd this (by decide)
  have hkq : gK (sNew S q 2 0) q = 2 := by rw [gK_sNew, if_pos rfl]
  have h' := cO_l h hlf
  obtain ⟨X, hX⟩ : ∃ X, X = sNew S q 2 0 := ⟨_, rfl⟩
  rw [← hX] at h' hkq ⊢
  obtain ⟨hP, hNt, hAr, hSt, hTb, hCa, hEn, hIn, hTm⟩ := h'
  have a0 : A' 0 = A 0 := by rw [hA']; exact upA_r (by decide)
  have a1 : A' 1 = A 1 := by rw [hA']; exact upA_r (by decide)
  have a2 : A' 2 = A 2 := by rw [hA']; exact upA_r (by decide)
  have a4 : A' 4 = A 4 := by rw [hA']; exact upA_r (by decide)
  have a5 : A' 5 = A 5 := by rw [hA']; exact upA_r (by decide)
  have a6 : A' 6 = A 6 := by rw [hA']; exact upA_r (by decide)
  have a3n : A' 3 (nC M) = q := by rw [hA']; exact upA_s
  have a3 : ∀ c, c < nC M → A' 3 c = A 3 c := fun c hc => by rw [hA']; exact upA_c (by omega)
  have hC := newM_C hN h500 (aim := nI a) (rank := rank)
  have hu := u_nI (n := a) (by omega)
  refine ⟨?_, ?_, ?_, ?_, ?_, fun c hc => ?_, ?_, ?_, ?_⟩
  · unfold oP
    rw [a0, a5]
    exact hP
  · unfold oNt
    rw [a0, a5]
    exact hNt
  · unfold oAr
    rw [a1, a6]
    exact hAr
  · unfold oSt
    rw [a1, a5]
    exact hSt
  · unfold oTb
    rw [a1, a2, a5]
    exact hTb
  · rw [hC] at hc
    rw [a1]
    by_cases q0 : c = nC M
    · subst q0
      rw [a3n]
      have e0 : newM M (nI a) rank 4 (9 * nC M + 0) = 1 := by simp (disch := omega) only [newM, mU_s, mU_r, mU_c]
      have e1 : newM M (nI a) rank 4 (9 * nC M + 1) = 0 := by simp (disch := omega) only [newM, mU_s, mU_r, mU_c]
      have e2 : newM M (nI a) rank 4 (9 * nC M + 2) = nI a := by simp (disch := omega) only [newM, mU_s, mU_r, mU_c]
      have e3 : newM M (nI a) rank 4 (9 * nC M + 3) = rank := by simp (disch := omega) only [newM, mU_s, mU_r, mU_c]
      have e4 : newM M (nI a) rank 4 (9 * nC M + 4) = M 0 1 := by simp (disch := omega) only [newM, mU_s, mU_r, mU_c]
      have e5 : newM M (nI a) rank 4 (9 * nC M + 5) = M 0 1 := by simp (disch := omega) only [newM, mU_s, mU_r, mU_c]
      have e6 : newM M (nI a) rank 4 (9 * nC M + 6) = 0 := by simp (disch := omega) only [newM, mU_s, mU_r, mU_c]
      rw [e0, e1, e2, e3, e4, e5, e6, hu]
      refine ⟨hkq, ?_, ?_, ?_, ?_, ?_, ?_, ?_, fun x => absurd x (by decide), ?_⟩ <;> simp [gV_sV, gV_sQ, gQ_sV, gQ_sQ]
    · have hc' : c < nC M := by omega
      have hne := hcq c hc'
      rw [a3 c hc']
      have eM : ∀ w, w < 9 → newM M (nI a) rank 4 (9 * c + w) = M 4 (9 * c + w) := fun w hw => by simp (disch := omega) only [newM, mU_r, mU_c]
      rw [eM 0 (by decide), eM 1 (by decide), eM 2 (by decide), eM 3 (by decide), eM 4 (by decide), eM 5 (by decide), eM 6 (by decide), eM 8 (by decide)]
      simp only [gV_sV, gV_sQ, gQ_sV, gQ_sQ, hne, false_and, and_false, if_false]
      exact hCa c hc'
  · unfold oEn
    rw [a4]
    exact hEn
  · refine ⟨?_, ?_, fun x y hx hy hxy => ?_⟩
    · rw [a1]
      exact hIn.1
    · rw [a2]
      exact hIn.2.1
    · rw [hC] at hx hy
      by_cases qx : x = nC M
      · by_cases qy : y = nC M
        · rw [qx, qy]
        · rw [qx, a3n, a3 y (by omega)] at hxy
          exact absurd hxy.symm (hcq y (by omega))
      · by_cases qy : y = nC M
        · rw [qy, a3n, a3 x (by omega)] at hxy
          exact absurd hxy (hcq x (by omega))
        · rw [a3 x (by omega), a3 y (by omega)] at hxy
          exact hIn.2.2 x y (by omega) (by omega) hxy
  · unfold oTm
    rw [a1, a6]
    have eD : ∀ k, dD (newM M (nI a) rank) k = dD M k := fun k => dD_fr rfl (fun _ _ _ => rfl) (fun _ => rfl) k
    intro k hk
    rw [eD]
    exact hTm k hk
end CDISP
