section CENT
variable {S : bS} {A : Nat → Nat → Nat} {M : Nat → Nat → Int32}
/-- one tube's numbers are others -/
theorem oTb_set (hTb : oTb S A M) (hIn : oIn A M) {t : Nat} (ht : t < nT M) {S' : bS} {M' : Nat → Nat → Int32} (hn : nT M' = nT M) (hK : ∀ a, gK S' a = gK S a) (hQ : ∀ a j, gQ S' 6 a j = gQ S 6 a j) (hV : ∀ a j, a ≠ A 2 t → gV S' 6 a j = gV S 6 a j) (hE : ∀ d w, d ≠ t → w < 8 → M' 2 (8 * d + w) = M 2 (8 * d + w)) (hV0 : ∀ j, j = 0 ∨ j = 3 ∨ j = 4 → gV S' 6 (A 2 t) j = gV S 6 (A 2 t) j) (hE0 : ∀ w, w = 0 ∨ w = 1 ∨ w = 2 ∨ w = 4 → M' 2 (8 * t + w) = M 2 (8 * t + w)) (h6 : gV S' 6 (A 2 t) 6 = M' 2 (8 * t + 3)) (h7 : gV S' 6 (A 2 t) 7 = nI (thr M' t)) (h8 : gV S' 6 (A 2 t) 8 = M' 2 (8 * t + 5)) (h9 : gV S' 6 (A 2 t) 9 = M' 2 (8 * t + 6)) (h10 : gV S' 6 (A 2 t) 10 = (if M' 2 (8 * t + 7) = -1 then 0 else M' 2 (8 * t + 7))) : oTb S' A M' := by
  intro d hd
  rw [hn] at hd
  obtain ⟨k0, k1, k2, k3, k4, k5, k6, k7, k8, k9, k10, k11⟩ := hTb d hd
  by_cases q : d = t
  · subst q
    refine ⟨by rw [hK]; exact k0, by rw [hV0 0 (Or.inl rfl)]; exact k1, ?_, ?_, by rw [hV0 3 (Or.inr (Or.inl rfl)), hE0 2 (Or.inr (Or.inr (Or.inl rfl)))]; exact k4, by rw [hV0 4 (Or.inr (Or.inr rfl)), hE0 4 (Or.inr (Or.inr (Or.inr rfl)))]; exact k5, by rw [hQ]; exact k6, h6, h7, h8, h9, h10⟩
    · rw [hQ]
      unfold tFr at *
      rw [hE0 0 (Or.inl rfl)]
      exact k2
    · rw [hQ]
      unfold tTo at *
      rw [hE0 1 (Or.inr (Or.inl rfl))]
      exact k3
  · have hne : A 2 d ≠ A 2 t := fun x => q (hIn.2.1 d t hd ht x)
    unfold thr tLn tSp tFr tTo at *
    rw [hK, hQ, hQ, hQ, hV _ 0 hne, hV _ 3 hne, hV _ 4 hne, hV _ 6 hne, hV _ 7 hne, hV _ 8 hne, hV _ 9 hne, hV _ 10 hne, hE d 0 q (by decide), hE d 1 q (by decide), hE d 2 q (by decide), hE d 3 q (by decide), hE d 4 q (by decide), hE d 5 q (by decide), hE d 6 q (by decide), hE d 7 q (by decide)]
    exact ⟨k0, k1, k2, k3, k4, k5, k6, k7, k8, k9, k10, k11⟩
/-- the carrier's numbers as it enters -/
def entM1 (M : Nat → Nat → Int32) (c t : Nat) : Nat → Nat → Int32 := mU (mU (pM M c 2 (nI t)) 4 (9 * c + 8) (nI (thr M t))) 4 (9 * c + 6) (M 4 (9 * c + 6) + 1)
theorem cO_ent1 (h : cO S A M) {t c : Nat} (hc : c < nC M) : cO (sV (sV (sV (sV (sV S 2 (A 3 c) 4 2) 2 (A 3 c) 5 (nI t)) 2 (A 3 c) 6 (M 0 1)) 2 (A 3 c) 7 (nI (thr M t))) 2 (A 3 c) 8 (M 4 (9 * c + 6) + 1)) A (entM1 M c t) := by
  obtain ⟨hP, hNt, hAr, hSt, hTb, hCa, hEn, hIn, hTm⟩ := h
  refine ⟨hP, hNt, hAr, hSt, hTb, ?_, hEn, hIn, oTm_fr hTm (fun _ => rfl) (fun _ _ => rfl) rfl (fun k => dD_fr rfl (fun _ _ _ => rfl) (fun _ => rfl) k)⟩
  refine oCa_set hCa hIn hc rfl (fun _ => rfl) (fun _ _ => rfl) (fun a j hne => ?_) (fun d w hd hw => ?_) (fun j hj => ?_) (fun w hw => ?_) ?_ ?_ ?_ (fun q => ?_) ?_
  · rw [gV_sV, if_neg (fun x => hne x.2.1), gV_sV, if_neg (fun x => hne x.2.1), gV_sV, if_neg (fun x => hne x.2.1), gV_sV, if_neg (fun x => hne x.2.1), gV_sV, if_neg (fun x => hne x.2.1)]
  · simp (disch := omega) only [entM1, pM, mU_r, mU_c]
  · rw [gV_sV, if_neg (fun x => by omega), gV_sV, if_neg (fun x => by omega), gV_sV, if_neg (fun x => by omega), gV_sV, if_neg (fun x => by omega), gV_sV, if_neg (fun x => by omega)]
  · rcases hw with rfl | rfl | rfl <;> simp (disch := omega) only [entM1, pM, mU_r, mU_c]
  · simp (disch := omega) only [entM1, pM, mU_s, mU_r, mU_c]
    simp [gV_sV]
  · simp (disch := omega) only [entM1, pM, mU_s, mU_r, mU_c]
    simp [gV_sV]
  · simp (disch := omega) only [entM1, pM, mU_s, mU_r, mU_c]
    simp [gV_sV]
  · simp (disch := omega) only [entM1, pM, mU_s, mU_r, mU_c]
    simp [gV_sV]
  · simp (disch := omega) only [entM1, pM, mU_s, mU_r, mU_c]
    simp [gV_sV]
theorem entM_1 {M : Nat → Nat → Int32} {c t : Nat} : entM M c t = mU (mU (entM1 M c t) 2 (8 * t + 6) (M 2 (8 * t + 6) + 1)) 2 (8 * t + 7) (M 0 1) := rfl
theorem cO_ent2 {c t : Nat} (h : cO S A (entM1 M c t)) (ht : t < nT M) (hk : ¬ M 0 1 = -1) : cO (sV (sV S 6 (A 2 t) 9 (gV S 6 (A 2 t) 9 + 1)) 6 (A 2 t) 10 (M 0 1)) A (entM M c t) := by
  obtain ⟨hP, hNt, hAr, hSt, hTb, hCa, hEn, hIn, hTm⟩ := h
  have e2 : ∀ t' w, w < 6 → entM M c t 2 (8 * t' + w) = entM1 M c t 2 (8 * t' + w) := fun t' w hw => by
    rw [entM_1]
    simp (disch := omega) only [mU_c]
  refine ⟨hP, hNt, hAr, hSt, ?_, hCa, hEn, hIn, oTm_fr (M' := entM M c t) hTm (fun _ => rfl) (fun _ _ => rfl) rfl (fun k => dD_fr (M := entM1 M c t) (M' := entM M c t) rfl e2 (fun _ => rfl) k)⟩
  obtain ⟨k0, k1, k2, k3, k4, k5, k6, k7, k8, k9, k10, k11⟩ := hTb t ht
  refine oTb_set hTb hIn (t := t) ht rfl (fun _ => rfl) (fun _ _ => rfl) (fun a j hne => ?_) (fun d w hd hw => ?_) (fun j hj => ?_) (fun w hw => ?_) ?_ ?_ ?_ ?_ ?_
  · rw [gV_sV, if_neg (fun x => hne x.2.1), gV_sV, if_neg (fun x => hne x.2.1)]
  · rw [entM_1]
    simp (disch := omega) only [mU_c]
  · rw [gV_sV, if_neg (fun x => by omega), gV_sV, if_neg (fun x => by omega)]
  · exact e2 t w (by omega)
  · rw [gV_sV, if_neg (fun x => by omega), gV_sV, if_neg (fun x => by omega), e2 t 3 (by decide)]
    exact k7
  · have et : thr (entM M c t) t = thr (entM1 M c t) t := by
      unfold thr tLn tSp
      rw [e2 t 2 (by decide), e2 t 3 (by decide)]
    rw [gV_sV, if_neg (fun x => by omega), gV_sV, if_neg (fun x => by omega), et]
    exact k8
  · rw [gV_sV, if_neg (fun x => by omega), gV_sV, if_neg (fun x => by omega), e2 t 5 (by decide)]
    exact k9
  · rw [gV_sV, if_neg (fun x => by omega), gV_sV, if_pos ⟨rfl, rfl, rfl⟩, k10]
    rw [entM_1, mU_c (by omega), mU_s]
    rfl
  · rw [gV_sV, if_pos ⟨rfl, rfl, rfl⟩, entM_1, mU_s, if_neg hk]
variable {lv : Nat → Prop} {ea : Nat → Nat} {ls : Nat → List Nat} {cp : Nat → Nat}
theorem C_enter (hO : cO S A M) (hL : LSr S lv (A 5) ea ls cp) {t c : Nat} {l : List Nat} (ht : t < nT M) (hc : c < nC M) (hlv : lv (32 + t)) (hls : ls (32 + t) = l.map (A 3)) (h5 : l.length ≤ 499) (hk : ¬ M 0 1 = -1) {MC MS : Nat} (hMC : cpB l.length (cp (32 + t)) ≤ MC) (hMS : cpB l.length (cp (32 + t)) ≤ MS) {post : bS → Prop} (hp : ∀ S' ea', cO S' A (entM M c t) → LSr S' lv (A 5) ea' (up ls (32 + t) ((l ++ [c]).map (A 3))) (up cp (32 + t) (cp1 l.length (cp (32 + t)))) → cF A S S' → post S') : wp_X0_enter post MC MS (A 3 c) (A 2 t) (M 0 1) S := by
  obtain ⟨t0, t1, -, -, -, -, t6, -, t8, -⟩ := hO.2.2.2.2.1 t ht
  obtain ⟨c0, -, -, -, -, -, -, -, -, c9⟩ := hO.2.2.2.2.2.1 c hc
  have hO1 := cO_ent1 (t := t) hO hc
  have g1 : gV (sV S 2 (A 3 c) 4 2) 6 (A 2 t) 0 = nI t := t1
  have g2 : gV (sV (sV (sV S 2 (A 3 c) 4 2) 2 (A 3 c) 5 (nI t)) 2 (A 3 c) 6 (M 0 1)) 6 (A 2 t) 7 = nI (thr M t) := t8
  have g3 : gV (sV (sV (sV (sV S 2 (A 3 c) 4 2) 2 (A 3 c) 5 (nI t)) 2 (A 3 c) 6 (M 0 1)) 2 (A 3 c) 7 (nI (thr M t))) 2 (A 3 c) 8 = M 4 (9 * c + 6) := by
    rw [gV_sV, if_neg (fun x => by omega), gV_sV, if_neg (fun x => by omega), gV_sV, if_neg (fun x => by omega), gV_sV, if_neg (fun x => by omega)]
    exact c9
  refine ⟨c0, t0, ?_⟩
  rw [g1, g2, g3]
  obtain ⟨X, hX⟩ : ∃ X, X = sV (sV (sV (sV (sV S 2 (A 3 c) 4 2) 2 (A 3 c) 5 (nI t)) 2 (A 3 c) 6 (M 0 1)) 2 (A 3 c) 7 (nI (thr M t))) 2 (A 3 c) 8 (M 4 (9 * c + 6) + 1) := ⟨_, rfl⟩
  have hFX : cF A S X := by
    rw [hX]
    exact cF_tr (cF_2 _ _ _) (cF_tr (cF_2 _ _ _) (cF_tr (cF_2 _ _ _) (cF_tr (cF_2 _ _ _) (cF_2 _ _ _))))
  have hLX : LSr X lv (A 5) ea ls cp := by
    rw [hX]
    exact hL
  rw [← hX] at hO1 ⊢
  have hLi := hLX.1 (32 + t) hlv
  obtain ⟨u0, -, -, -, -, -, u6, -⟩ := hO1.2.2.2.2.1 t ht
  refine ⟨_, u6, hLi.1, MC, MS, Nat.le_refl _, Nat.le_refl _, ?_⟩
  refine CF_add hLX hlv (a := A 3 c) ?_ (by rw [hls, List.length_map]; exact h5) (by rw [hls, List.length_map]; exact hMC) (by rw [hls, List.length_map]; exact hMS) (fun S' ea' i1 i2 => ?_)
  · rw [(hO1.2.2.2.2.2.1 c hc).1]
    decide
  · have hO2 := cO_l hO1 i2
    refine ⟨(hO2.2.2.2.2.1 t ht).1, hp _ ea' (cO_ent2 hO2 ht hk) ?_ (cF_tr hFX (cF_tr (cF_l i2) (cF_tr (cF_6 _ _ _) (cF_6 _ _ _))))⟩
    rw [hls, List.length_map] at i1
    rw [List.map_append]
    exact i1
end CENT
