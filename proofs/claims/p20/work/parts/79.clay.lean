/-! ===== the class lays a tube ===== -/
section CLAY
/-- the addresses with one tube more -/
def tbA (A : Nat → Nat → Nat) (n q ql : Nat) : Nat → Nat → Nat := upA (upA A 2 n q) 5 (32 + n) ql
theorem tbA_0 {A : Nat → Nat → Nat} {n q ql i : Nat} (h2 : i ≠ 2) (h5 : i ≠ 5) : tbA A n q ql i = A i := by
  unfold tbA
  rw [upA_r h5, upA_r h2]
theorem tbA_2n {A : Nat → Nat → Nat} {n q ql : Nat} : tbA A n q ql 2 n = q := by
  unfold tbA
  rw [upA_r (by decide), upA_s]
theorem tbA_2 {A : Nat → Nat → Nat} {n q ql t : Nat} (h : t ≠ n) : tbA A n q ql 2 t = A 2 t := by
  unfold tbA
  rw [upA_r (by decide), upA_c h]
theorem tbA_5a {A : Nat → Nat → Nat} {n q ql : Nat} : tbA A n q ql 5 (32 + n) = ql := by
  unfold tbA
  rw [upA_s]
theorem tbA_5 {A : Nat → Nat → Nat} {n q ql i : Nat} (h : i ≠ 32 + n) : tbA A n q ql 5 i = A 5 i := by
  unfold tbA
  rw [upA_c h, upA_r (by decide)]
theorem tbA_f {A : Nat → Nat → Nat} {n q ql : Nat} : tbA A n q ql 5 = up (A 5) (32 + n) ql := by
  funext i
  by_cases h : i = 32 + n
  · rw [h, up_s, tbA_5a]
  · rw [up_n h, tbA_5 h]
theorem aTu_2 {M : Nat → Nat → Int32} {a : Nat} {fr to len sp bo : Int32} {t w : Nat} (h : t ≠ nT M) (hw : w < 8) : aTuM M a fr to len sp bo 2 (8 * t + w) = M 2 (8 * t + w) := by simp (disch := omega) only [aTuM, aT8, mU_r, mU_c]
theorem aTu_1 {M : Nat → Nat → Int32} {a : Nat} {fr to len sp bo : Int32} (hm : mny M a < 4) {s w : Nat} (hw : w < 9) (h : s ≠ a ∨ (w ≠ 2 ∧ w ≠ 5 + mny M a)) : aTuM M a fr to len sp bo 1 (9 * s + w) = M 1 (9 * s + w) := by simp (disch := omega) only [aTuM, aT8, mU_r, mU_c]
theorem aTu_T {M : Nat → Nat → Int32} (hN : iN M) (hf : nT M < 30) {a : Nat} {fr to len sp bo : Int32} : nT (aTuM M a fr to len sp bo) = nT M + 1 := by
  show u (aTuM M a fr to len sp bo 0 3) = _
  have e : aTuM M a fr to len sp bo 0 3 = M 0 3 + 1 := mU_s
  rw [e, hN.2.1.1, nI_1, u_nI (by omega)]
theorem cO_lay {X : bS} {A : Nat → Nat → Nat} {M : Nat → Nat → Int32} {L : Nat → List Nat} {B K : Nat} (hw : wI B K M L) (hf : nT M < 30) {a b : Nat} {len sp bo T : Int32} (ha : a < nS M) (hb : b < nS M) (hm : mny M a < 4) {q ql : Nat} (hO : cO X A M) (hq : ∀ s, s < nT M → A 2 s ≠ q) (k0 : gK X q = 6) (k1 : gV X 6 q 0 = nI (nT M)) (k2 : gQ X 6 q 1 = some (A 1 a)) (k3 : gQ X 6 q 2 = some (A 1 b)) (k4 : gV X 6 q 3 = len) (k5 : gV X 6 q 4 = bo) (k6 : gQ X 6 q 5 = some ql) (k7 : gV X 6 q 6 = sp) (k8 : gV X 6 q 7 = T) (hT : T = nI (thr (aTuM M a (nI a) (nI b) len sp bo) (nT M))) (k9 : gV X 6 q 8 = 1) (k10 : gV X 6 q 9 = 0) (k11 : gV X 6 q 10 = 0) {f : Nat → Int32} (h0 : ∀ k, k < nS M → f (A 1 k) = 0) : cO (sJ X 6 f) (tbA A (nT M) q ql) (aTuM M a (nI a) (nI b) len sp bo) := by
  obtain ⟨hP, hNt, hAr, hSt, hTb, hCa, hEn, hIn, hTm⟩ := hO
  have hn := aTu_T hw.1 hf (a := a) (fr := nI a) (to := nI b) (len := len) (sp := sp) (bo := bo)
  have h14 := hw.1.1.2
  have a0 : tbA A (nT M) q ql 0 = A 0 := tbA_0 (by decide) (by decide)
  have a1 : tbA A (nT M) q ql 1 = A 1 := tbA_0 (by decide) (by decide)
  have a3 : tbA A (nT M) q ql 3 = A 3 := tbA_0 (by decide) (by decide)
  have a4 : tbA A (nT M) q ql 4 = A 4 := tbA_0 (by decide) (by decide)
  have a6 : tbA A (nT M) q ql 6 = A 6 := tbA_0 (by decide) (by decide)
  refine ⟨?_, ?_, ?_, fun s hs => ?_, fun t ht => ?_, ?_, ?_, ⟨?_, fun x y hx hy hxy => ?_, ?_⟩, fun k hk => Or.inl ?_⟩
  · unfold oP
    rw [a0, tbA_5 (by omega), tbA_5 (by omega)]
    exact hP
  · unfold oNt
    rw [a0, tbA_5 (by omega), tbA_5 (by omega)]
    exact hNt
  · unfold oAr
    rw [a1, a6]
    exact hAr
  · have hs' : s < nS M := hs
    rw [a1, tbA_5 (by omega), tbA_5 (by omega), aTu_1 hm (by decide) (Or.inr ⟨by decide, by omega⟩), aTu_1 hm (by decide) (Or.inr ⟨by decide, by omega⟩), aTu_1 hm (by decide) (Or.inr ⟨by decide, by omega⟩), aTu_1 hm (by decide) (Or.inr ⟨by decide, by omega⟩)]
    exact hSt s hs'
  · rw [hn] at ht
    rw [a1]
    by_cases e : t = nT M
    · subst e
      have m0 : aTuM M a (nI a) (nI b) len sp bo 2 (8 * nT M + 0) = nI a := by simp (disch := omega) only [aTuM, aT8, mU_s, mU_r, mU_c]
      have m1 : aTuM M a (nI a) (nI b) len sp bo 2 (8 * nT M + 1) = nI b := by simp (disch := omega) only [aTuM, aT8, mU_s, mU_r, mU_c]
      have m2 : aTuM M a (nI a) (nI b) len sp bo 2 (8 * nT M + 2) = len := by simp (disch := omega) only [aTuM, aT8, mU_s, mU_r, mU_c]
      have m3 : aTuM M a (nI a) (nI b) len sp bo 2 (8 * nT M + 3) = sp := by simp (disch := omega) only [aTuM, aT8, mU_s, mU_r, mU_c]
      have m4 : aTuM M a (nI a) (nI b) len sp bo 2 (8 * nT M + 4) = bo := by simp (disch := omega) only [aTuM, aT8, mU_s, mU_r, mU_c]
      have m5 : aTuM M a (nI a) (nI b) len sp bo 2 (8 * nT M + 5) = 1 := by simp (disch := omega) only [aTuM, aT8, mU_s, mU_r, mU_c]
      have m6 : aTuM M a (nI a) (nI b) len sp bo 2 (8 * nT M + 6) = 0 := by simp (disch := omega) only [aTuM, aT8, mU_s, mU_r, mU_c]
      have m7 : aTuM M a (nI a) (nI b) len sp bo 2 (8 * nT M + 7) = -1 := by simp (disch := omega) only [aTuM, aT8, mU_s, mU_r, mU_c]
      have f0 : tFr (aTuM M a (nI a) (nI b) len sp bo) (nT M) = a := by unfold tFr; rw [m0, u_nI (by omega)]
      have f1 : tTo (aTuM M a (nI a) (nI b) len sp bo) (nT M) = b := by unfold tTo; rw [m1, u_nI (by omega)]
      rw [tbA_2n, tbA_5a, f0, f1, m2, m3, m4, m5, m6, m7, ← hT]
      exact ⟨k0, k1, k2, k3, k4, k5, k6, k7, k8, k9, k10, by rw [if_pos rfl]; exact k11⟩
    · have et : thr (aTuM M a (nI a) (nI b) len sp bo) t = thr M t := by
        unfold thr tLn tSp
        rw [aTu_2 e (by decide), aTu_2 e (by decide)]
      have e0 : tFr (aTuM M a (nI a) (nI b) len sp bo) t = tFr M t := by unfold tFr; rw [aTu_2 e (by decide)]
      have e1 : tTo (aTuM M a (nI a) (nI b) len sp bo) t = tTo M t := by unfold tTo; rw [aTu_2 e (by decide)]
      rw [tbA_2 e, tbA_5 (by omega), et, e0, e1, aTu_2 e (by decide), aTu_2 e (by decide), aTu_2 e (by decide), aTu_2 e (by decide), aTu_2 e (by decide), aTu_2 e (by decide)]
      exact hTb t (by omega)
  · unfold oCa
    rw [a3, a1]
    exact hCa
  · unfold oEn
    rw [a4]
    exact hEn
  · rw [a1]
    exact hIn.1
  · rw [hn] at hx hy
    by_cases ex : x = nT M
    · by_cases ey : y = nT M
      · rw [ex, ey]
      · rw [ex, tbA_2n, tbA_2 ey] at hxy
        exact absurd hxy.symm (hq y (by omega))
    · by_cases ey : y = nT M
      · rw [ey, tbA_2n, tbA_2 ex] at hxy
        exact absurd hxy (hq x (by omega))
      · rw [tbA_2 ex, tbA_2 ey] at hxy
        exact hIn.2.1 x y (by omega) (by omega) hxy
  · rw [a3]
    exact hIn.2.2
  · rw [a1, gV_sJs]
    exact h0 k hk
theorem lsC_lay {A : Nat → Nat → Nat} {M : Nat → Nat → Int32} {L : Nat → List Nat} {B K : Nat} (hw : wI B K M L) (hf : nT M < 30) {a : Nat} {fr to len sp bo : Int32} (ha : a < nS M) (hm : mny M a < 4) {q ql : Nat} {i : Nat} (hi : lvC (aTuM M a fr to len sp bo) i) : lsC (tbA A (nT M) q ql) (aTuM M a fr to len sp bo) L i = up (up (up (lsC A M L) (32 + nT M) []) 1 (lsC A M L 1 ++ [q])) (4 + a) (lsC A M L (4 + a) ++ [q]) i := by
  have hn := aTu_T hw.1 hf (a := a) (fr := fr) (to := to) (len := len) (sp := sp) (bo := bo)
  have h14 := hw.1.1.2
  have nS' : nS (aTuM M a fr to len sp bo) = nS M := rfl
  have a1 : tbA A (nT M) q ql 1 = A 1 := tbA_0 (by decide) (by decide)
  have a3 : tbA A (nT M) q ql 3 = A 3 := tbA_0 (by decide) (by decide)
  have a4 : tbA A (nT M) q ql 4 = A 4 := tbA_0 (by decide) (by decide)
  have h62 : i < 62 := by
    unfold lvC at hi
    rw [hn, nS'] at hi
    omega
  by_cases qa : i = 4 + a
  · subst qa
    rw [up_s, show lsC (tbA A (nT M) q ql) (aTuM M a fr to len sp bo) L (4 + a) = _ from ls_w (P := (aTuM M a fr to len sp bo, L)) (s := a) (by omega), show lsC A M L (4 + a) = _ from ls_w (P := (M, L)) (s := a) (by omega)]
    obtain ⟨-, -, ⟨hm1, -⟩, -, hwy⟩ := hw.2.2.1 a ha
    have em : mny (aTuM M a fr to len sp bo) a = mny M a + 1 := by
      have e2 : aTuM M a fr to len sp bo 1 (9 * a + 2) = M 1 (9 * a + 2) + 1 := by simp (disch := omega) only [aTuM, aT8, mU_s, mU_r, mU_c]
      show u (aTuM M a fr to len sp bo 1 (9 * a + 2)) = _
      rw [e2, hm1, nI_1, u_nI (by omega)]
    show (List.range (mny (aTuM M a fr to len sp bo) a)).map (fun k => tbA A (nT M) q ql 2 (way (aTuM M a fr to len sp bo) a k)) = (List.range (mny M a)).map (fun k => A 2 (way M a k)) ++ [q]
    rw [em, List.range_succ, List.map_append]
    congr 1
    · refine List.map_congr_left (fun k hk => ?_)
      have hk' := List.mem_range.mp hk
      have hwk := (hwy k hk').2
      have ew : way (aTuM M a fr to len sp bo) a k = way M a k := by
        unfold way
        rw [aTu_1 hm (by omega) (Or.inr ⟨by omega, by omega⟩)]
      rw [ew, tbA_2 (by omega)]
    · have ew : way (aTuM M a fr to len sp bo) a (mny M a) = nT M := by
        have e2 : aTuM M a fr to len sp bo 1 (9 * a + (5 + mny M a)) = M 0 3 := by simp (disch := omega) only [aTuM, aT8, mU_s, mU_r, mU_c]
        show u (aTuM M a fr to len sp bo 1 (9 * a + (5 + mny M a))) = _
        rw [e2]
      show [tbA A (nT M) q ql 2 (way (aTuM M a fr to len sp bo) a (mny M a))] = [q]
      rw [ew, tbA_2n]
  · rw [up_n qa]
    by_cases q1 : i = 1
    · subst q1
      rw [up_s]
      show (List.range (nT (aTuM M a fr to len sp bo))).map (tbA A (nT M) q ql 2) = (List.range (nT M)).map (A 2) ++ [q]
      rw [hn, List.range_succ, List.map_append]
      congr 1
      · exact List.map_congr_left (fun d hd => tbA_2 (by have := List.mem_range.mp hd; omega))
      · show [tbA A (nT M) q ql 2 (nT M)] = [q]
        rw [tbA_2n]
    · rw [up_n q1]
      by_cases q32 : i = 32 + nT M
      · subst q32
        rw [up_s, lsC_c (by omega), show 15 + (32 + nT M - 32) = 15 + nT M by omega, hw.2.2.2.2.2.2.2.2.2.2 (nT M) (Nat.le_refl _) hf]
        rfl
      · rw [up_n q32]
        by_cases h18 : i < 18
        · by_cases h4 : i < 4
          · rcases (show i = 0 ∨ i = 2 ∨ i = 3 by omega) with x | x | x <;> subst x
            · show (List.range (nS M)).map (tbA A (nT M) q ql 1) = (List.range (nS M)).map (A 1)
              rw [a1]
            · show (List.range (nE M)).map (tbA A (nT M) q ql 4) = (List.range (nE M)).map (A 4)
              rw [a4]
            · show (List.range (nC M)).map (tbA A (nT M) q ql 3) = (List.range (nC M)).map (A 3)
              rw [a3]
          · obtain ⟨s, rfl⟩ : ∃ s, i = 4 + s := ⟨i - 4, by omega⟩
            have hs : s < nS M := by
              unfold lvC at hi
              rw [hn, nS'] at hi
              omega
            rw [show lsC (tbA A (nT M) q ql) (aTuM M a fr to len sp bo) L (4 + s) = _ from ls_w (P := (aTuM M a fr to len sp bo, L)) (s := s) (by omega), show lsC A M L (4 + s) = _ from ls_w (P := (M, L)) (s := s) (by omega)]
            obtain ⟨-, -, ⟨-, hms⟩, -, hwy⟩ := hw.2.2.1 s hs
            have em : mny (aTuM M a fr to len sp bo) s = mny M s := by unfold mny; rw [aTu_1 hm (by decide) (Or.inl (by omega))]
            show (List.range (mny (aTuM M a fr to len sp bo) s)).map (fun k => tbA A (nT M) q ql 2 (way (aTuM M a fr to len sp bo) s k)) = (List.range (mny M s)).map (fun k => A 2 (way M s k))
            rw [em]
            refine List.map_congr_left (fun k hk => ?_)
            have hk' := List.mem_range.mp hk
            have hwk := (hwy k hk').2
            have ew : way (aTuM M a fr to len sp bo) s k = way M s k := by
              unfold way
              rw [aTu_1 hm (by omega) (Or.inl (by omega))]
            rw [ew, tbA_2 (by omega)]
        · by_cases h32 : i < 32
          · rw [lsC_b (by omega) h32, lsC_b (by omega) h32, a3]
          · rw [lsC_c (by omega), lsC_c (by omega), a3]
end CLAY
