/-! ===== the class builds a station ===== -/
section CBUILD
/-- the addresses with one station more -/
def stA (A : Nat → Nat → Nat) (n q q2 q9 qr : Nat) : Nat → Nat → Nat := upA (upA (upA (upA A 1 n q) 5 (4 + n) q2) 5 (18 + n) q9) 6 n qr
theorem stA_0 {A : Nat → Nat → Nat} {n q q2 q9 qr i : Nat} (h1 : i ≠ 1) (h5 : i ≠ 5) (h6 : i ≠ 6) : stA A n q q2 q9 qr i = A i := by
  unfold stA
  rw [upA_r h6, upA_r h5, upA_r h5, upA_r h1]
theorem stA_1n {A : Nat → Nat → Nat} {n q q2 q9 qr : Nat} : stA A n q q2 q9 qr 1 n = q := by
  unfold stA
  rw [upA_r (by decide), upA_r (by decide), upA_r (by decide), upA_s]
theorem stA_1 {A : Nat → Nat → Nat} {n q q2 q9 qr s : Nat} (h : s ≠ n) : stA A n q q2 q9 qr 1 s = A 1 s := by
  unfold stA
  rw [upA_r (by decide), upA_r (by decide), upA_r (by decide), upA_c h]
theorem stA_6n {A : Nat → Nat → Nat} {n q q2 q9 qr : Nat} : stA A n q q2 q9 qr 6 n = qr := by
  unfold stA
  rw [upA_s]
theorem stA_6 {A : Nat → Nat → Nat} {n q q2 q9 qr s : Nat} (h : s ≠ n) : stA A n q q2 q9 qr 6 s = A 6 s := by
  unfold stA
  rw [upA_c h, upA_r (by decide), upA_r (by decide), upA_r (by decide)]
theorem stA_5a {A : Nat → Nat → Nat} {n q q2 q9 qr : Nat} : stA A n q q2 q9 qr 5 (4 + n) = q2 := by
  unfold stA
  rw [upA_r (by decide), upA_c (by omega), upA_s]
theorem stA_5b {A : Nat → Nat → Nat} {n q q2 q9 qr : Nat} : stA A n q q2 q9 qr 5 (18 + n) = q9 := by
  unfold stA
  rw [upA_r (by decide), upA_s]
theorem stA_5 {A : Nat → Nat → Nat} {n q q2 q9 qr i : Nat} (h1 : i ≠ 4 + n) (h2 : i ≠ 18 + n) : stA A n q q2 q9 qr 5 i = A 5 i := by
  unfold stA
  rw [upA_r (by decide), upA_c h2, upA_c h1, upA_r (by decide)]
theorem stA_f {A : Nat → Nat → Nat} {n q q2 q9 qr : Nat} : stA A n q q2 q9 qr 5 = up (up (A 5) (4 + n) q2) (18 + n) q9 := by
  funext i
  by_cases h2 : i = 18 + n
  · rw [h2, up_s, stA_5b]
  · rw [up_n h2]
    by_cases h1 : i = 4 + n
    · rw [h1, up_s, stA_5a]
    · rw [up_n h1, stA_5 h1 h2]
theorem aSt_1 {M : Nat → Nat → Int32} {room handling : Int32} {s w : Nat} (h : s ≠ nS M) (hw : w < 9) : aStM M room handling 1 (9 * s + w) = M 1 (9 * s + w) := by simp (disch := omega) only [aStM, mU_r, mU_c]
theorem aSt_S {M : Nat → Nat → Int32} (hN : iN M) (hf : nS M < 14) {room handling : Int32} : nS (aStM M room handling) = nS M + 1 := by
  show u (aStM M room handling 0 2) = _
  have e : aStM M room handling 0 2 = M 0 2 + 1 := mU_s
  rw [e, hN.1.1, nI_1, u_nI (by omega)]
theorem cO_build {X : bS} {A : Nat → Nat → Nat} {M : Nat → Nat → Int32} {L : Nat → List Nat} {B K : Nat} (hw : wI B K M L) (hf : nS M < 14) {room handling : Int32} {q q2 q9 qr : Nat} (hO : cO X A M) (hq : ∀ s, s < nS M → A 1 s ≠ q) (k0 : gK X q = 5) (k1 : gV X 5 q 0 = nI (nS M)) (k2 : gV X 5 q 1 = room) (k3 : gV X 5 q 2 = handling) (k4 : gQ X 5 q 3 = some q2) (k5 : gQ X 5 q 4 = some q9) (k6 : gV X 5 q 8 = -1) (k7 : gV X 5 q 9 = 0) (r1 : gQ X 5 q 5 = some qr) (r2 : gK X qr = 9) (r3 : gN X qr = 14) (hqr : ∀ s, s < nS M → A 6 s ≠ qr) {f : Nat → Int32} (h0 : ∀ k, k < nS M + 1 → f (stA A (nS M) q q2 q9 qr 1 k) = 0) : cO (sJ X 6 f) (stA A (nS M) q q2 q9 qr) (aStM M room handling) := by
  obtain ⟨hP, hNt, hAr, hSt, hTb, hCa, hEn, hIn, hTm⟩ := hO
  have hn := aSt_S hw.1 hf (room := room) (handling := handling)
  have a0 : stA A (nS M) q q2 q9 qr 0 = A 0 := stA_0 (by decide) (by decide) (by decide)
  have a2 : stA A (nS M) q q2 q9 qr 2 = A 2 := stA_0 (by decide) (by decide) (by decide)
  have a3 : stA A (nS M) q q2 q9 qr 3 = A 3 := stA_0 (by decide) (by decide) (by decide)
  have a4 : stA A (nS M) q q2 q9 qr 4 = A 4 := stA_0 (by decide) (by decide) (by decide)
  refine ⟨?_, ?_, ?_, fun s hs => ?_, fun t ht => ?_, fun c hc => ?_, ?_, ⟨fun x y hx hy hxy => ?_, ?_, ?_⟩, fun k hk => Or.inl ?_⟩
  · unfold oP
    rw [a0, stA_5 (by omega) (by omega), stA_5 (by omega) (by omega)]
    exact hP
  · unfold oNt
    rw [a0, stA_5 (by omega) (by omega), stA_5 (by omega) (by omega)]
    exact hNt
  · unfold oAr
    rw [hn]
    refine ⟨fun k hk => ?_, fun j k hj hk e => ?_⟩
    · by_cases ek : k = nS M
      · rw [ek, stA_1n, stA_6n]
        exact ⟨r1, r2, r3⟩
      · rw [stA_1 ek, stA_6 ek]
        exact hAr.1 k (by omega)
    · by_cases ej : j = nS M
      · by_cases ek : k = nS M
        · rw [ej, ek]
        · rw [ej, stA_6n, stA_6 ek] at e
          exact absurd e.symm (hqr k (by omega))
      · by_cases ek : k = nS M
        · rw [ek, stA_6n, stA_6 ej] at e
          exact absurd e (hqr j (by omega))
        · rw [stA_6 ej, stA_6 ek] at e
          exact hAr.2 j k (by omega) (by omega) e
  · rw [hn] at hs
    by_cases e : s = nS M
    · subst e
      rw [stA_1n, stA_5a, stA_5b]
      have m0 : aStM M room handling 1 (9 * nS M + 0) = room := by simp (disch := omega) only [aStM, mU_s, mU_r, mU_c]
      have m1 : aStM M room handling 1 (9 * nS M + 1) = handling := by simp (disch := omega) only [aStM, mU_s, mU_r, mU_c]
      have m3 : aStM M room handling 1 (9 * nS M + 3) = -1 := by simp (disch := omega) only [aStM, mU_s, mU_r, mU_c]
      have m4 : aStM M room handling 1 (9 * nS M + 4) = 0 := by simp (disch := omega) only [aStM, mU_s, mU_r, mU_c]
      rw [m0, m1, m3, m4]
      exact ⟨k0, k1, k2, k3, k4, k5, k6, k7⟩
    · rw [stA_1 e, stA_5 (by omega) (by omega), stA_5 (by omega) (by omega), aSt_1 e (by decide), aSt_1 e (by decide), aSt_1 e (by decide), aSt_1 e (by decide)]
      exact hSt s (by omega)
  · have ht' : t < nT M := ht
    obtain ⟨x1, x2, -⟩ := hw.2.1 t ht'
    have e1 : stA A (nS M) q q2 q9 qr 1 (tFr M t) = A 1 (tFr M t) := stA_1 (by omega)
    have e2 : stA A (nS M) q q2 q9 qr 1 (tTo M t) = A 1 (tTo M t) := stA_1 (by omega)
    have h30 := hw.1.2.1.2
    rw [a2, stA_5 (by omega) (by omega)]
    obtain ⟨t0, t1, t2, t3, t4⟩ := hTb t ht'
    refine ⟨t0, t1, ?_, ?_, t4⟩
    · show gQ X 6 (A 2 t) 1 = some (stA A (nS M) q q2 q9 qr 1 (tFr M t))
      rw [e1]
      exact t2
    · show gQ X 6 (A 2 t) 2 = some (stA A (nS M) q q2 q9 qr 1 (tTo M t))
      rw [e2]
      exact t3
  · have hc' : c < nC M := hc
    obtain ⟨x1, -⟩ := hw.2.2.2.2.2.1 c hc'
    have e1 : stA A (nS M) q q2 q9 qr 1 (u (M 4 (9 * c + 2))) = A 1 (u (M 4 (9 * c + 2))) := stA_1 (by omega)
    rw [a3]
    obtain ⟨c0, c1, c2, c3⟩ := hCa c hc'
    refine ⟨c0, c1, ?_, c3⟩
    show gQ X 2 (A 3 c) 1 = some (stA A (nS M) q q2 q9 qr 1 (u (M 4 (9 * c + 2))))
    rw [e1]
    exact c2
  · unfold oEn
    rw [a4]
    exact hEn
  · rw [hn] at hx hy
    by_cases ex : x = nS M
    · by_cases ey : y = nS M
      · rw [ex, ey]
      · rw [ex, stA_1n, stA_1 ey] at hxy
        exact absurd hxy.symm (hq y (by omega))
    · by_cases ey : y = nS M
      · rw [ey, stA_1n, stA_1 ex] at hxy
        exact absurd hxy (hq x (by omega))
      · rw [stA_1 ex, stA_1 ey] at hxy
        exact hIn.1 x y (by omega) (by omega) hxy
  · rw [a2]
    exact hIn.2.1
  · rw [a3]
    exact hIn.2.2
  · rw [hn] at hk
    rw [gV_sJs]
    exact h0 k hk
theorem lsC_build {A : Nat → Nat → Nat} {M : Nat → Nat → Int32} {L : Nat → List Nat} {B K : Nat} (hw : wI B K M L) (hf : nS M < 14) {room handling : Int32} {q q2 q9 qr : Nat} {i : Nat} (hi : lvC (aStM M room handling) i) : lsC (stA A (nS M) q q2 q9 qr) (aStM M room handling) L i = up (up (up (lsC A M L) (4 + nS M) []) (18 + nS M) []) 0 (lsC A M L 0 ++ [q]) i := by
  have hn := aSt_S hw.1 hf (room := room) (handling := handling)
  have a2 : stA A (nS M) q q2 q9 qr 2 = A 2 := stA_0 (by decide) (by decide) (by decide)
  have a3 : stA A (nS M) q q2 q9 qr 3 = A 3 := stA_0 (by decide) (by decide) (by decide)
  have a4 : stA A (nS M) q q2 q9 qr 4 = A 4 := stA_0 (by decide) (by decide) (by decide)
  have h62 : i < 62 := by
    have h30 := hw.1.2.1.2
    have : nT (aStM M room handling) = nT M := rfl
    unfold lvC at hi
    omega
  by_cases q0 : i = 0
  · subst q0
    rw [up_s]
    show (List.range (nS (aStM M room handling))).map (stA A (nS M) q q2 q9 qr 1) = (List.range (nS M)).map (A 1) ++ [q]
    rw [hn, List.range_succ, List.map_append]
    congr 1
    · exact List.map_congr_left (fun d hd => stA_1 (by have := List.mem_range.mp hd; omega))
    · show [stA A (nS M) q q2 q9 qr 1 (nS M)] = [q]
      rw [stA_1n]
  · rw [up_n q0]
    by_cases q18 : i = 18 + nS M
    · subst q18
      rw [up_s, lsC_b (by omega) (by omega), show 1 + (18 + nS M - 18) = 1 + nS M by omega, hw.2.2.2.2.2.2.2.2.1 (nS M) (Nat.le_refl _) hf]
      rfl
    · rw [up_n q18]
      by_cases q4 : i = 4 + nS M
      · subst q4
        rw [up_s, show lsC (stA A (nS M) q q2 q9 qr) (aStM M room handling) L (4 + nS M) = _ from ls_w (P := (aStM M room handling, L)) (s := nS M) hf]
        have m2 : aStM M room handling 1 (9 * nS M + 2) = 0 := by simp (disch := omega) only [aStM, mU_s, mU_r, mU_c]
        show (List.range (u (aStM M room handling 1 (9 * nS M + 2)))).map _ = []
        rw [m2]
        rfl
      · rw [up_n q4]
        by_cases h18 : i < 18
        · by_cases h4 : i < 4
          · rcases (show i = 1 ∨ i = 2 ∨ i = 3 by omega) with x | x | x <;> subst x
            · show (List.range (nT M)).map (stA A (nS M) q q2 q9 qr 2) = (List.range (nT M)).map (A 2)
              rw [a2]
            · show (List.range (nE M)).map (stA A (nS M) q q2 q9 qr 4) = (List.range (nE M)).map (A 4)
              rw [a4]
            · show (List.range (nC M)).map (stA A (nS M) q q2 q9 qr 3) = (List.range (nC M)).map (A 3)
              rw [a3]
          · obtain ⟨s, rfl⟩ : ∃ s, i = 4 + s := ⟨i - 4, by omega⟩
            have hs : s < nS M := by
              unfold lvC at hi
              rw [hn] at hi
              omega
            rw [show lsC (stA A (nS M) q q2 q9 qr) (aStM M room handling) L (4 + s) = _ from ls_w (P := (aStM M room handling, L)) (s := s) (by omega), show lsC A M L (4 + s) = _ from ls_w (P := (M, L)) (s := s) (by omega)]
            have hm := (hw.2.2.1 s hs).2.2.1.2
            have em : mny (aStM M room handling) s = mny M s := by unfold mny; rw [aSt_1 (by omega) (by decide)]
            show (List.range (mny (aStM M room handling) s)).map (fun k => stA A (nS M) q q2 q9 qr 2 (way (aStM M room handling) s k)) = (List.range (mny M s)).map (fun k => A 2 (way M s k))
            rw [em, a2]
            refine List.map_congr_left (fun k hk => ?_)
            have hk' := List.mem_range.mp hk
            unfold way
            rw [aSt_1 (by omega) (by omega)]
        · by_cases h32 : i < 32
          · rw [lsC_b (by omega) h32, lsC_b (by omega) h32, a3]
          · rw [lsC_c (by omega), lsC_c (by omega), a3]
end CBUILD
