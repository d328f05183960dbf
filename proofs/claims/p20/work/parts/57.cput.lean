/-! ===== the class's writers: a carrier comes, enters, is delivered ===== -/
theorem dD_fr {M M' : Nat → Nat → Int32} (h3 : M' 0 3 = M 0 3) (h2 : ∀ t w, w < 6 → M' 2 (8 * t + w) = M 2 (8 * t + w)) (h1 : ∀ s, M' 1 (9 * s + 1) = M 1 (9 * s + 1)) (aim : Nat) : dD M' aim = dD M aim := by
  have a1 : tFr M' = tFr M := by funext t; unfold tFr; rw [h2 t 0 (by decide)]
  have a2 : tTo M' = tTo M := by funext t; unfold tTo; rw [h2 t 1 (by decide)]
  have a3 : tOp M' = tOp M := by funext t; unfold tOp; rw [h2 t 5 (by decide)]
  have a5 : thr M' = thr M := by funext t; unfold thr tLn tSp; rw [h2 t 2 (by decide), h2 t 3 (by decide)]
  have a6 : hnd M' = hnd M := by funext s; unfold hnd; rw [h1 s]
  have a4 : cst M' aim = cst M aim := by funext t; unfold cst; rw [a5, a6, a2]
  unfold dD dR nT
  rw [h3, a1, a2, a3, a4]
section CPUT
variable {S : bS} {A : Nat → Nat → Nat} {M : Nat → Nat → Int32}
/-- one carrier's numbers are others -/
theorem oCa_set (hCa : oCa S A M) (hIn : oIn A M) {c : Nat} (hc : c < nC M) {S' : bS} {M' : Nat → Nat → Int32} (hn : nC M' = nC M) (hK : ∀ a, gK S' a = gK S a) (hQ : ∀ a j, gQ S' 2 a j = gQ S 2 a j) (hV : ∀ a j, a ≠ A 3 c → gV S' 2 a j = gV S 2 a j) (hE : ∀ d w, d ≠ c → w < 9 → M' 4 (9 * d + w) = M 4 (9 * d + w)) (hV0 : ∀ j, j = 0 ∨ j = 2 ∨ j = 3 → gV S' 2 (A 3 c) j = gV S 2 (A 3 c) j) (hE0 : ∀ w, w = 2 ∨ w = 3 ∨ w = 4 → M' 4 (9 * c + w) = M 4 (9 * c + w)) (h4 : gV S' 2 (A 3 c) 4 = M' 4 (9 * c + 0)) (h5 : gV S' 2 (A 3 c) 5 = M' 4 (9 * c + 1)) (h6 : gV S' 2 (A 3 c) 6 = M' 4 (9 * c + 5)) (h7 : M' 4 (9 * c + 0) = 2 → gV S' 2 (A 3 c) 7 = M' 4 (9 * c + 8)) (h8 : gV S' 2 (A 3 c) 8 = M' 4 (9 * c + 6)) : oCa S' A M' := by
  intro d hd
  rw [hn] at hd
  obtain ⟨k0, k1, k2, k3, k4, k5, k6, k7, k8, k9⟩ := hCa d hd
  by_cases q : d = c
  · subst q
    refine ⟨by rw [hK]; exact k0, by rw [hV0 0 (Or.inl rfl)]; exact k1, by rw [hQ, hE0 2 (Or.inl rfl)]; exact k2, by rw [hV0 2 (Or.inr (Or.inl rfl)), hE0 3 (Or.inr (Or.inl rfl))]; exact k3, by rw [hV0 3 (Or.inr (Or.inr rfl)), hE0 4 (Or.inr (Or.inr rfl))]; exact k4, h4, h5, h6, h7, h8⟩
  · have hne : A 3 d ≠ A 3 c := fun x => q (hIn.2.2 d c hd hc x)
    rw [hK, hQ, hV _ 0 hne, hV _ 2 hne, hV _ 3 hne, hV _ 4 hne, hV _ 5 hne, hV _ 6 hne, hV _ 7 hne, hV _ 8 hne, hE d 0 q (by decide), hE d 1 q (by decide), hE d 2 q (by decide), hE d 3 q (by decide), hE d 4 q (by decide), hE d 5 q (by decide), hE d 6 q (by decide), hE d 8 q (by decide)]
    exact ⟨k0, k1, k2, k3, k4, k5, k6, k7, k8, k9⟩
theorem cF_2 (a j : Nat) (v : Int32) : cF A S (sV S 2 a j v) := ⟨fun _ _ => ⟨rfl, rfl⟩, fun _ _ _ => ⟨rfl, rfl⟩, fun _ _ _ _ => rfl, fun _ _ => ⟨fun _ => rfl, fun _ => rfl⟩⟩
theorem cF_5 (a j : Nat) (v : Int32) : cF A S (sV S 5 a j v) := ⟨fun _ _ => ⟨rfl, rfl⟩, fun _ _ _ => ⟨rfl, rfl⟩, fun _ _ _ _ => rfl, fun _ _ => ⟨fun _ => rfl, fun _ => rfl⟩⟩
theorem cF_6 (a j : Nat) (v : Int32) : cF A S (sV S 6 a j v) := ⟨fun _ _ => ⟨rfl, rfl⟩, fun _ _ _ => ⟨rfl, rfl⟩, fun _ _ _ _ => rfl, fun _ _ => ⟨fun _ => rfl, fun _ => rfl⟩⟩
theorem cF_7 (a j : Nat) (v : Int32) : cF A S (sV S 7 a j v) := ⟨fun _ _ => ⟨rfl, rfl⟩, fun _ _ _ => ⟨rfl, rfl⟩, fun _ _ _ _ => rfl, fun _ _ => ⟨fun _ => rfl, fun _ => rfl⟩⟩
theorem oTm_fr (h : oTm S A M) {S' : bS} {M' : Nat → Nat → Int32} (hV : ∀ a, gV S' 5 a 6 = gV S 5 a 6) (hV9 : ∀ a j, gV S' 9 a j = gV S 9 a j) (hn : nS M' = nS M) (hD : ∀ k, dD M' k = dD M k) : oTm S' A M' := by
  intro k hk
  rw [hn] at hk
  rw [hV]
  rcases h k hk with x | ⟨x1, x3⟩
  · exact Or.inl x
  · refine Or.inr ⟨x1, fun v hv => ?_⟩
    rw [hV9, hD]
    exact x3 v (by rw [hn] at hv; exact hv)
theorem cO_mov (h : cO S A M) {s c : Nat} (hc : c < nC M) : cO (sV (sV (sV S 2 (A 3 c) 4 1) 2 (A 3 c) 5 (nI s)) 2 (A 3 c) 6 (M 0 1)) A (movM M c s) := by
  obtain ⟨hP, hNt, hAr, hSt, hTb, hCa, hEn, hIn, hTm⟩ := h
  have e0 : ∀ j, j ≠ 8 → movM M c s 0 j = M 0 j := fun j hj => mov_r0 _ _ _ _ hj
  refine ⟨hP, hNt, hAr, hSt, hTb, ?_, hEn, hIn, oTm_fr hTm (fun _ => rfl) (fun _ _ => rfl) rfl (fun k => dD_fr rfl (fun _ _ _ => rfl) (fun _ => rfl) k)⟩
  refine oCa_set hCa hIn hc rfl (fun _ => rfl) (fun _ _ => rfl) (fun a j hne => ?_) (fun d w hd hw => ?_) (fun j hj => ?_) (fun w hw => ?_) ?_ ?_ ?_ (fun q => ?_) ?_
  · rw [gV_sV, if_neg (fun x => hne x.2.1), gV_sV, if_neg (fun x => hne x.2.1), gV_sV, if_neg (fun x => hne x.2.1)]
  · simp (disch := omega) only [movM, pM, mU_r, mU_c]
  · rw [gV_sV, if_neg (fun x => by omega), gV_sV, if_neg (fun x => by omega), gV_sV, if_neg (fun x => by omega)]
  · rcases hw with rfl | rfl | rfl <;> simp (disch := omega) only [movM, pM, mU_r, mU_c]
  · simp (disch := omega) only [movM, pM, mU_s, mU_r, mU_c]
    simp [gV_sV]
  · simp (disch := omega) only [movM, pM, mU_s, mU_r, mU_c]
    simp [gV_sV]
  · simp (disch := omega) only [movM, pM, mU_s, mU_r, mU_c]
    simp [gV_sV]
  · have e : movM M c s 4 (9 * c + 0) = 1 := by simp (disch := omega) only [movM, pM, mU_s, mU_r, mU_c]
    rw [e] at q
    exact absurd q (by decide)
  · have e : movM M c s 4 (9 * c + 6) = M 4 (9 * c + 6) := by simp (disch := omega) only [movM, pM, mU_s, mU_r, mU_c]
    rw [e, gV_sV, if_neg (fun x => by omega), gV_sV, if_neg (fun x => by omega), gV_sV, if_neg (fun x => by omega)]
    exact (hCa c hc).2.2.2.2.2.2.2.2.2
variable {lv : Nat → Prop} {ea : Nat → Nat} {ls : Nat → List Nat} {cp : Nat → Nat}
theorem C_comeTo (hO : cO S A M) (hL : LSr S lv (A 5) ea ls cp) {s c : Nat} {l : List Nat} (hs : s < nS M) (hc : c < nC M) (hlv : lv (18 + s)) (hls : ls (18 + s) = l.map (A 3)) (hl : ∀ d, d ∈ l → d < nC M) (h5 : l.length ≤ 499) (hpw : l.Pairwise (fun a b => ¬ M 4 (9 * a + 3) < M 4 (9 * b + 3))) {MC MS : Nat} (hMC : cpB l.length (cp (18 + s)) ≤ MC) (hMS : cpB l.length (cp (18 + s)) ≤ MS) {post : bS → Prop} (hp : ∀ S' ea', cO S' A (movM M c s) → LSr S' lv (A 5) ea' (up ls (18 + s) ((insR (movM M c s) c l).map (A 3))) (up cp (18 + s) (cp1 l.length (cp (18 + s)))) → cF A S S' → post S') : wp_X0_comeTo post MC MS (A 3 c) (A 1 s) (M 0 1) S := by
  have hO' := cO_mov (s := s) hO hc
  have g : gV (sV S 2 (A 3 c) 4 1) 5 (A 1 s) 0 = nI s := (hO.2.2.2.1 s hs).2.1
  refine ⟨(hO.2.2.2.2.2.1 c hc).1, (hO.2.2.2.1 s hs).1, MC, MS, Nat.le_refl _, Nat.le_refl _, ?_⟩
  rw [g]
  have e3 : ∀ d, movM M c s 4 (9 * d + 3) = M 4 (9 * d + 3) := fun d => by simp (disch := omega) only [movM, pM, mU_r, mU_c]
  refine C_lineUp (M := movM M c s) hO' hL hs hc hlv hls hl h5 (hpw.imp (fun {a b} h => by rw [e3, e3]; exact h)) hMC hMS (fun S' ea' i1 i2 => hp S' ea' (cO_l hO' i2) i1 ?_)
  exact cF_tr (cF_tr (cF_2 _ _ _) (cF_tr (cF_2 _ _ _) (cF_2 _ _ _))) (cF_l i2)
end CPUT
