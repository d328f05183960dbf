/-! ===== the class's writers: into a line ===== -/
theorem insR_at {M : Nat → Nat → Int32} {c : Nat} : ∀ (l : List Nat) (k : Nat), k ≤ l.length → (∀ j d, j < k → l[j]? = some d → ¬ M 4 (9 * d + 3) < M 4 (9 * c + 3)) → (∀ d, l[k]? = some d → M 4 (9 * d + 3) < M 4 (9 * c + 3)) → insR M c l = l.take k ++ c :: l.drop k
  | [], k, hk, _, _ => by
    have : k = 0 := by simpa using hk
    subst this
    rfl
  | d :: l, 0, _, _, h2 => by
    unfold insR
    rw [if_pos (h2 d rfl)]
    rfl
  | d :: l, k + 1, hk, h1, h2 => by
    unfold insR
    rw [if_neg (h1 0 d (by omega) rfl)]
    rw [insR_at l k (by simpa using hk) (fun j e hj he => h1 (j + 1) e (by omega) (by rw [List.getElem?_cons_succ]; exact he)) (fun e he => h2 e (by rw [List.getElem?_cons_succ]; exact he))]
    rfl
section CLINE
variable {S : bS} {A : Nat → Nat → Nat} {M : Nat → Nat → Int32} {lv : Nat → Prop} {ea : Nat → Nat} {ls : Nat → List Nat} {cp : Nat → Nat}
theorem C_lineUp (hO : cO S A M) (hL : LSr S lv (A 5) ea ls cp) {s c : Nat} {l : List Nat} (hs : s < nS M) (hc : c < nC M) (hlv : lv (18 + s)) (hls : ls (18 + s) = l.map (A 3)) (hl : ∀ d, d ∈ l → d < nC M) (h5 : l.length ≤ 499) (hpw : l.Pairwise (fun a b => ¬ M 4 (9 * a + 3) < M 4 (9 * b + 3))) {MC MS : Nat} (hMC : cpB l.length (cp (18 + s)) ≤ MC) (hMS : cpB l.length (cp (18 + s)) ≤ MS) {post : bS → Prop} (hp : ∀ S' ea', LSr S' lv (A 5) ea' (up ls (18 + s) ((insR M c l).map (A 3))) (up cp (18 + s) (cp1 l.length (cp (18 + s)))) → lF S S' → post S') : wp_X3_lineUp post MC MS (A 1 s) (A 3 c) S := by
  obtain ⟨s0, -, -, -, -, s4, -⟩ := hO.2.2.2.1 s hs
  have hLi := hL.1 (18 + s) hlv
  rw [hls] at hLi
  obtain ⟨c0, -, -, c3, -⟩ := hO.2.2.2.2.2.1 c hc
  have fin : ∀ k, k ≤ l.length → (∀ j d, j < k → l[j]? = some d → ¬ M 4 (9 * d + 3) < M 4 (9 * c + 3)) → (∀ d, l[k]? = some d → M 4 (9 * d + 3) < M 4 (9 * c + 3)) → wb_X3_lineUp_41 post MC MS (A 1 s) (A 3 c) (nI k) S := by
    intro k hk h1 h2
    refine ⟨s0, _, s4, hLi.1, MC, MS, Nat.le_refl _, Nat.le_refl _, ?_⟩
    refine CF_insert hL hlv (k := k) (a := A 3 c) (by rw [hls, List.length_map]; exact hk) (by rw [c0]; decide) (by rw [hls, List.length_map]; exact h5) (by rw [hls, List.length_map]; exact hMC) (by rw [hls, List.length_map]; exact hMS) (fun S' ea' i1 i2 => hp S' ea' ?_ i2)
    rw [hls, List.length_map] at i1
    rw [insR_at l k hk h1 h2, List.map_append, List.map_cons, List.map_take, List.map_drop]
    exact i1
  have loop : ∀ k, k ≤ l.length → (∀ d, l[k]? = some d → M 4 (9 * d + 3) < M 4 (9 * c + 3)) → wb_X3_lineUp_8 post (k + 1) MC MS (A 1 s) (A 3 c) (nI k) S := by
    intro k
    induction k with
    | zero =>
      intro hk h2
      unfold wb_X3_lineUp_8
      exact ⟨fun _ => fin 0 hk (fun j d hj => absurd hj (Nat.not_lt_zero j)) h2, fun q => absurd (nI_le (Nat.le_refl 0) (by omega)) q⟩
    | succ k ih =>
      intro hk h2
      have hkl : l[k]? = some l[k] := List.getElem?_eq_getElem (by omega)
      obtain ⟨d0, -, -, d3, -⟩ := hO.2.2.2.2.2.1 l[k] (hl _ (List.getElem_mem _))
      unfold wb_X3_lineUp_8
      refine ⟨fun q => absurd q (nI_nle (by omega) (by omega)), fun _ => ⟨s0, _, s4, hLi.1, ?_⟩⟩
      rw [nI_pred]
      refine C_get (a := A 3 l[k]) hLi (by rw [List.getElem?_map, hkl]; rfl) ⟨_, rfl, d0, c0, ?_⟩
      rw [c3, d3]
      refine ⟨fun hle => fin (k + 1) hk (fun j d hj hd => ?_) h2, fun hgt => ?_⟩
      · by_cases q : j = k
        · subst q
          rw [hkl] at hd
          cases hd
          exact Int32.not_lt.mpr hle
        · have hj2 : j < k := by omega
          have hjl : j < l.length := by omega
          have hdj : d = l[j] := by
            rw [List.getElem?_eq_getElem hjl] at hd
            cases hd
            rfl
          have hp2 := List.pairwise_iff_getElem.mp hpw j k hjl (by omega) hj2
          rw [hdj]
          exact fun x => hp2 (Int32.lt_of_lt_of_le x hle)
      · rw [pk_m1]
        refine ih (by omega) (fun d hd => ?_)
        rw [hkl] at hd
        cases hd
        exact Int32.not_le.mp hgt
  refine ⟨s0, _, s4, hLi.1, C_size hLi ⟨l.length + 1, ?_⟩⟩
  rw [List.length_map]
  exact loop l.length (Nat.le_refl _) (fun d hd => by rw [List.getElem?_eq_none (Nat.le_refl _)] at hd; cases hd)
end CLINE
