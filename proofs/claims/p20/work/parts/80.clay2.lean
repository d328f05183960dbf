section CLAY2
variable {S : bS} {A : Nat → Nat → Nat} {cp : Nat → Nat} {P : pP} {B K : Nat}
theorem C_lay (h : cR S A cp P) (hw : wI B K P.1 P.2) (hz : ∃ z, gK S z = 14 ∧ gN S z = 0) (hcz : cZ P.1 cp) (hf : nT P.1 < 30) {a b ln s6 : Nat} {bo : Int32} (ha : a < nS P.1) (hb : b < nS P.1) (hm : mny P.1 a < 4) (l1 : 1 ≤ ln) (l60 : ln ≤ 60) (s1 : 1 ≤ s6) (s66 : s6 ≤ 6) {MC MS : Nat} (hMC : 14 + cpB (nT P.1) (cp 1) + cpB (mny P.1 a) (cp (4 + a)) ≤ MC) (hMS : 14 + cpB (nT P.1) (cp 1) + cpB (mny P.1 a) (cp (4 + a)) ≤ MS) {post : Int32 → bS → Prop} (hp : ∀ S' A', cR S' A' (up (up cp 1 (cp1 (nT P.1) (cp 1))) (4 + a) (cp1 (mny P.1 a) (cp (4 + a)))) (aTuM P.1 a (nI a) (nI b) (nI ln) (nI s6) bo, P.2) → A' 0 = A 0 → A' 6 = A 6 → cF A S S' → post (P.1 0 3) S') : wp_X2_lay post MC MS (A 0 1) (A 1 a) (A 1 b) (nI ln) (nI s6) bo S := by
  obtain ⟨n0, n1, n2, -⟩ := h.1.2.1
  obtain ⟨ea, hL⟩ := h.2
  obtain ⟨z0, hz0, hzn0⟩ := hz
  have h14 := hw.1.1.2
  have lv1 : lvC P.1 1 := Or.inl (by decide)
  have lva : lvC P.1 (4 + a) := Or.inr (Or.inl ⟨by omega, by omega⟩)
  have nlv : ¬ lvC P.1 (32 + nT P.1) := by unfold lvC; omega
  have la1 : ∀ i, lvC P.1 i → gK S (A 5 i) = 1 := fun i hi => (hL.1 i hi).1
  have one14 := hL.2.2.2
  refine ⟨by omega, by omega, fun q hq => ?_⟩
  have hx1 : sEx S (sNew S q 6 0) := sEx_new hq (sEx_rf S)
  have hO1 := cO_l h.1 (sEx_lF hx1)
  have hL1 := LSr_ex hL hx1
  have kq1 : gK (sNew S q 6 0) q = 6 := by rw [gK_sNew, if_pos rfl]
  refine ⟨hO1.2.1.1, _, hO1.2.1.2.2.1, (hL1.1 1 lv1).1, C_size (hL1.1 1 lv1) ⟨1, 3, by omega, by omega, ?_⟩⟩
  rw [ls_1, List.length_map, List.length_range]
  obtain ⟨M', hM'⟩ : ∃ M', M' = aTuM P.1 a (nI a) (nI b) (nI ln) (nI s6) bo := ⟨_, rfl⟩
  have m2 : M' 2 (8 * nT P.1 + 2) = nI ln := by rw [hM']; simp (disch := omega) only [aTuM, aT8, mU_s, mU_r, mU_c]
  have m3 : M' 2 (8 * nT P.1 + 3) = nI s6 := by rw [hM']; simp (disch := omega) only [aTuM, aT8, mU_s, mU_r, mU_c]
  have eS : tSp M' (nT P.1) = s6 := by unfold tSp; rw [m3, u_nI (by omega)]
  have eL : tLn M' (nT P.1) = ln := by unfold tLn; rw [m2, u_nI (by omega)]
  have hthr := thr_eq (M := M') (t := nT P.1) (by rw [m3, eS]) (by rw [m2, eL]) (by omega) (by omega) (by omega)
  rw [m2, m3] at hthr
  obtain ⟨T, hT⟩ : ∃ T, T = nI (thr M' (nT P.1)) := ⟨_, rfl⟩
  rw [← hT] at hthr
  refine ⟨kq1, C_dividedUp rfl rfl s1 s66 ?_⟩
  rw [hthr]
  refine ⟨kq1, by decide, by decide, fun ql hql => C_linit hql (fun z hz => ?_)⟩
  simp only [gK_sV, gK_sQ, gK_sNew] at hql hz
  have nl : ql ≠ q := fun e => by rw [if_pos e] at hql; cases hql
  rw [if_neg nl] at hql
  have nz : z ≠ q := fun e => by rw [if_pos e] at hz; cases hz
  rw [if_neg nz] at hz
  have ez := one14 z z0 hz hz0
  subst ez
  have nzl : z ≠ ql := fun e => by rw [e, hql] at hz; cases hz
  obtain ⟨X, hX⟩ : ∃ X, X = sV (sV (sV (sQ (sQ (sV (sNew (sV (sV (sV (sV (sQ (sQ (sV (sNew S q 6 0) 6 q 0 (nI (nT P.1))) 6 q 1 (some (A 1 a))) 6 q 2 (some (A 1 b))) 6 q 3 (nI ln)) 6 q 4 bo) 6 q 6 (nI s6)) 6 q 7 T) ql 1 0) 1 ql 0 0) 1 ql 1 (some z)) 6 q 5 (some ql)) 6 q 8 1) 6 q 9 0) 6 q 10 0 := ⟨_, rfl⟩
  have hx8 : sEx S X := by
    rw [hX]
    exact sEx_V hq (sEx_V hq (sEx_V hq (sEx_Q hq (sEx_Q hql (sEx_V hql (sEx_new hql (sEx_V hq (sEx_V hq (sEx_V hq (sEx_V hq (sEx_Q hq (sEx_Q hq (sEx_V hq (sEx_new hq (sEx_rf S)))))))))))))))
  have x0 : gK X q = 6 := by rw [hX]; simp [gK_sV, gK_sQ, gK_sNew, nl.symm]
  have x1 : gV X 6 q 0 = nI (nT P.1) := by rw [hX]; simp [gV_sV, gV_sQ, gV_sNew, nl.symm]
  have x2 : gQ X 6 q 1 = some (A 1 a) := by rw [hX]; simp [gQ_sV, gQ_sQ, gQ_sNew, nl.symm]
  have x3 : gQ X 6 q 2 = some (A 1 b) := by rw [hX]; simp [gQ_sV, gQ_sQ, gQ_sNew, nl.symm]
  have x4 : gV X 6 q 3 = nI ln := by rw [hX]; simp [gV_sV, gV_sQ, gV_sNew, nl.symm]
  have x5 : gV X 6 q 4 = bo := by rw [hX]; simp [gV_sV, gV_sQ, gV_sNew, nl.symm]
  have x6 : gQ X 6 q 5 = some ql := by rw [hX]; simp [gQ_sV, gQ_sQ, gQ_sNew, nl.symm]
  have x7 : gV X 6 q 6 = nI s6 := by rw [hX]; simp [gV_sV, gV_sQ, gV_sNew, nl.symm]
  have x8 : gV X 6 q 7 = T := by rw [hX]; simp [gV_sV, gV_sQ, gV_sNew, nl.symm]
  have x9 : gV X 6 q 8 = 1 := by rw [hX]; simp [gV_sV, gV_sQ, gV_sNew, nl.symm]
  have x10 : gV X 6 q 9 = 0 := by rw [hX]; simp [gV_sV, gV_sQ, gV_sNew, nl.symm]
  have x11 : gV X 6 q 10 = 0 := by rw [hX]; simp [gV_sV, gV_sQ, gV_sNew, nl.symm]
  have y0 : gK X ql = 1 := by rw [hX]; simp [gK_sV, gK_sQ, gK_sNew, nl]
  have y1 : gV X 1 ql 2 = 0 := by rw [hX]; simp [gV_sV, gV_sQ, gV_sNew, nl]
  have y2 : gQ X 1 ql 1 = some z := by rw [hX]; simp [gQ_sV, gQ_sQ, gQ_sNew, nl]
  have z1 : gK X z = 14 ∧ gN X z = 0 := by
    obtain ⟨e1, e2, -⟩ := hx8.1 z (by rw [hz]; decide)
    rw [e1, e2]
    exact ⟨hz, hzn0⟩
  refine ⟨?_, ?_⟩
  · simp only [gK_sQ, gK_sV, gK_sNew]
    rw [if_neg nl.symm, if_pos trivial]
  rw [← hX]
  have hLX := LSr_ex hL hx8
  have c32 : cp (32 + nT P.1) = 0 := hcz _ (by omega) nlv
  have hLY := LSr_addl hLX (i0 := 32 + nT P.1) y0 y1 y2 z1.1 z1.2 c32 (fun i hi e => by
    have := la1 i hi
    rw [e, hql] at this
    cases this) nlv
  rw [← tbA_f (q := q)] at hLY
  have lb1 : tbA A (nT P.1) q ql 5 1 = A 5 1 := tbA_5 (by omega)
  have lba : tbA A (nT P.1) q ql 5 (4 + a) = A 5 (4 + a) := tbA_5 (by omega)
  have a0 : tbA A (nT P.1) q ql 0 = A 0 := tbA_0 (by decide) (by decide)
  have a6 : tbA A (nT P.1) q ql 6 = A 6 := tbA_0 (by decide) (by decide)
  have e1 : up (lsC A P.1 P.2) (32 + nT P.1) [] 1 = lsC A P.1 P.2 1 := up_n (by omega)
  have l1' : (lsC A P.1 P.2 1).length = nT P.1 := by rw [ls_1, List.length_map, List.length_range]
  have hOX := cO_l h.1 (sEx_lF hx8)
  have kq : gK X q ≠ 0 := by rw [x0]; decide
  refine ⟨hOX.2.1.1, _, hOX.2.1.2.2.1, (hLX.1 1 lv1).1, cpB (nT P.1) (cp 1), cpB (nT P.1) (cp 1), by omega, by omega, ?_⟩
  rw [← lb1]
  refine CF_add hLY (Or.inl lv1) (a := q) (by rw [x0]; decide) (by rw [e1, l1']; omega) (by rw [e1, l1']; exact Nat.le_refl _) (by rw [e1, l1']; exact Nat.le_refl _) (fun S9 ea9 i1 i2 => ?_)
  rw [e1, l1'] at i1
  have hO9 := cO_l hOX i2
  obtain ⟨sa0, -, -, -, sa3, -⟩ := hO9.2.2.2.1 a ha
  have e4 : up (up (lsC A P.1 P.2) (32 + nT P.1) []) 1 (lsC A P.1 P.2 1 ++ [q]) (4 + a) = lsC A P.1 P.2 (4 + a) := by rw [up_n (by omega), up_n (by omega)]
  have l4' : (lsC A P.1 P.2 (4 + a)).length = mny P.1 a := by rw [ls_w (by omega), List.length_map, List.length_range]
  have c4' : up cp 1 (cp1 (nT P.1) (cp 1)) (4 + a) = cp (4 + a) := up_n (by omega)
  have hL9 := i1.1 (4 + a) (Or.inl lva)
  rw [lba] at hL9
  refine ⟨sa0, _, sa3, hL9.1, cpB (mny P.1 a) (cp (4 + a)), cpB (mny P.1 a) (cp (4 + a)), by omega, by omega, ?_⟩
  rw [← lba]
  refine CF_add i1 (Or.inl lva) (a := q) (by rw [(i2.1.1 q kq).1, x0]; decide) (by rw [e4, l4']; omega) (by rw [e4, l4', c4']; exact Nat.le_refl _) (by rw [e4, l4', c4']; exact Nat.le_refl _) (fun S10 ea10 j1 j2 => ?_)
  rw [e4, l4', c4'] at j1
  have hO10 := cO_l hO9 j2
  have kq9 : gK S9 q ≠ 0 := by rw [(i2.1.1 q kq).1]; exact kq
  have gv : ∀ j, gV S10 6 q j = gV X 6 q j := fun j => (j2.2.1 6 q j (by decide) kq9).trans (i2.2.1 6 q j (by decide) kq)
  have gq : ∀ j, gQ S10 6 q j = gQ X 6 q j := fun j => (j2.2.2.1 6 q j (by decide) (by decide) kq9).trans (i2.2.2.1 6 q j (by decide) (by decide) kq)
  have gk : gK S10 q = 6 := by rw [(j2.1.1 q kq9).1, (i2.1.1 q kq).1, x0]
  obtain ⟨c10, hL10⟩ : ∃ c, isLe S10 (A 5 0) (ea10 0) ((List.range (nS P.1)).map (A 1)) c := by
    have := j1.1 0 (Or.inl (Or.inl (by decide)))
    rw [tbA_5 (by omega)] at this
    have e9 : up (up (up (lsC A P.1 P.2) (32 + nT P.1) []) 1 (lsC A P.1 P.2 1 ++ [q])) (4 + a) (lsC A P.1 P.2 (4 + a) ++ [q]) 0 = lsC A P.1 P.2 0 := by rw [up_n (by omega), up_n (by omega), up_n (by omega)]
    rw [e9] at this
    exact ⟨_, this⟩
  refine ⟨hO10.2.1.1, C_forget (S := S10) (n := nS P.1) (g := A 1) hO10.2.1.1 hO10.2.1.2.1 hL10 (fun k hk => (hO10.2.2.2.1 k hk).1) (fun f hff => ?_)⟩
  have hOf := cO_lay hw hf (a := a) (b := b) (len := nI ln) (sp := nI s6) (bo := bo) (T := T) ha hb hm (q := q) (ql := ql) hO10 (fun s hs e => by
    have := (h.1.2.2.2.2.1 s hs).1
    rw [e, hq] at this
    cases this) gk (by rw [gv]; exact x1) (by rw [gq]; exact x2) (by rw [gq]; exact x3) (by rw [gv]; exact x4) (by rw [gv]; exact x5) (by rw [gq]; exact x6) (by rw [gv]; exact x7) (by rw [gv]; exact x8) (by rw [hT, hM']) (by rw [gv]; exact x9) (by rw [gv]; exact x10) (by rw [gv]; exact x11) hff
  have hn := aTu_T hw.1 hf (a := a) (fr := nI a) (to := nI b) (len := nI ln) (sp := nI s6) (bo := bo)
  have hLf : LSr (sJ S10 6 f) (lvC (aTuM P.1 a (nI a) (nI b) (nI ln) (nI s6) bo)) (tbA A (nT P.1) q ql 5) ea10 (lsC (tbA A (nT P.1) q ql) (aTuM P.1 a (nI a) (nI b) (nI ln) (nI s6) bo) P.2) (up (up cp 1 (cp1 (nT P.1) (cp 1))) (4 + a) (cp1 (mny P.1 a) (cp (4 + a)))) := by
    refine LSr_ls (LSr_lv (show LSr (sJ S10 6 f) _ _ _ _ _ from j1) (fun i hi => ?_)) (fun i hi => lsC_lay hw hf ha hm hi)
    have e3 : nS (aTuM P.1 a (nI a) (nI b) (nI ln) (nI s6) bo) = nS P.1 := rfl
    unfold lvC at hi ⊢
    rw [hn, e3] at hi
    omega
  refine ⟨gk, ?_⟩
  have := hp _ _ ⟨hOf, ea10, hLf⟩ a0 a6 (cF_tr (cF_l (sEx_lF hx8)) (cF_tr (cF_l i2) (cF_tr (cF_l j2) (cF_J _ _ _ _))))
  rw [hw.1.2.1.1] at this
  show post (gV S10 6 q 0) (sJ S10 6 f)
  rw [gv, x1]
  exact this
end CLAY2
