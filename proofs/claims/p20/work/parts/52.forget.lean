theorem sV_sF {S : bS} {κ a j : Nat} {f : Nat → Int32} {v : Int32} : sV (sF S κ a f) κ a j v = sF S κ a (upd f j v) := by
  refine bS_V rfl rfl ?_ rfl
  funext κ' a' j'
  show (if κ' = κ ∧ a' = a ∧ j' = j then v else if κ' = κ ∧ a' = a then f j' else S.2.2.1 κ' a' j') = (if κ' = κ ∧ a' = a then upd f j v j' else S.2.2.1 κ' a' j')
  by_cases h : κ' = κ ∧ a' = a
  · rw [if_pos h, if_pos h]
    by_cases hj : j' = j
    · rw [if_pos ⟨h.1, h.2, hj⟩, hj, pk_us]
    · rw [if_neg (fun q => hj q.2.2), pk_un hj]
  · rw [if_neg (fun q => h ⟨q.1, q.2.1⟩), if_neg h, if_neg h]
theorem sF_self {S : bS} {κ a : Nat} : sF S κ a (gV S κ a) = S := by
  refine bS_V rfl rfl ?_ rfl
  funext κ' a' j'
  show (if κ' = κ ∧ a' = a then gV S κ a j' else S.2.2.1 κ' a' j') = S.2.2.1 κ' a' j'
  by_cases h : κ' = κ ∧ a' = a
  · rw [if_pos h, h.1, h.2]
    rfl
  · rw [if_neg h]
theorem gV_sFs {S : bS} {κ a j : Nat} {f : Nat → Int32} : gV (sF S κ a f) κ a j = f j := if_pos ⟨rfl, rfl⟩
/-- a field of every station is another one -/
def sJ (S : bS) (i : Nat) (f : Nat → Int32) : bS := (S.1, S.2.1, (fun κ a j => if κ = 5 ∧ j = i then f a else S.2.2.1 κ a j), S.2.2.2)
theorem gV_sJs {S : bS} {i a : Nat} {f : Nat → Int32} : gV (sJ S i f) 5 a i = f a := if_pos ⟨rfl, rfl⟩
theorem gV_sJn {S : bS} {i κ a j : Nat} {f : Nat → Int32} (h : ¬ (κ = 5 ∧ j = i)) : gV (sJ S i f) κ a j = gV S κ a j := if_neg h
theorem sV_sJ {S : bS} {i a : Nat} {f : Nat → Int32} {v : Int32} : sV (sJ S i f) 5 a i v = sJ S i (upd f a v) := by
  refine bS_V rfl rfl ?_ rfl
  funext κ' a' j'
  show (if κ' = 5 ∧ a' = a ∧ j' = i then v else if κ' = 5 ∧ j' = i then f a' else S.2.2.1 κ' a' j') = (if κ' = 5 ∧ j' = i then upd f a v a' else S.2.2.1 κ' a' j')
  by_cases h : κ' = 5 ∧ j' = i
  · rw [if_pos h, if_pos h]
    by_cases ha : a' = a
    · rw [if_pos ⟨h.1, ha, h.2⟩, ha, pk_us]
    · rw [if_neg (fun q => ha q.2.1), pk_un ha]
  · rw [if_neg (fun q => h ⟨q.1, q.2.2⟩), if_neg h, if_neg h]
theorem sJ_self {S : bS} {i : Nat} : sJ S i (fun a => gV S 5 a i) = S := by
  refine bS_V rfl rfl ?_ rfl
  funext κ' a' j'
  show (if κ' = 5 ∧ j' = i then gV S 5 a' i else S.2.2.1 κ' a' j') = S.2.2.1 κ' a' j'
  by_cases h : κ' = 5 ∧ j' = i
  · rw [if_pos h, h.1, h.2]
    rfl
  · rw [if_neg h]
theorem C_forget {S : bS} {nt l e c n : Nat} {g : Nat → Nat} (h4 : gK S nt = 4) (hq : gQ S 4 nt 0 = some l) (hL : isLe S l e ((List.range n).map g) c) (h5 : ∀ k, k < n → gK S (g k) = 5) {post : bS → Prop} (hp : ∀ f, (∀ k, k < n → f (g k) = 0) → post (sJ S 6 f)) : wp_X2_forgetTimes post nt S := by
  have hn : n ≤ 750 := by
    have := isLe_len hL
    rw [List.length_map, List.length_range] at this
    exact this
  have hLf : ∀ f, isLe (sJ S 6 f) l e ((List.range n).map g) c := fun f => hL
  have loop : ∀ (m k : Nat) (f : Nat → Int32), k + m = n → (∀ j, j < k → f (g j) = 0) → wb_X2_forgetTimes_2 post (m + 1) nt (nI k) (sJ S 6 f) := by
    intro m
    induction m with
    | zero =>
      intro k f hk' hf
      have : k = n := by omega
      subst this
      unfold wb_X2_forgetTimes_2
      refine ⟨h4, l, hq, hL.1, C_size (hLf f) ?_⟩
      rw [List.length_map, List.length_range]
      exact ⟨fun _ => hp f hf, fun q => absurd (nI_le (Nat.le_refl _) (by omega)) q⟩
    | succ m ih =>
      intro k f hk' hf
      unfold wb_X2_forgetTimes_2
      refine ⟨h4, l, hq, hL.1, C_size (hLf f) ?_⟩
      rw [List.length_map, List.length_range]
      refine ⟨fun q => absurd q (nI_ge (by omega) (by omega)), fun _ => ⟨h4, l, hq, hL.1, C_get (a := g k) (hLf f) (rng_at (by omega)) ⟨_, rfl, h5 k (by omega), ?_⟩⟩⟩
      rw [sV_sJ, nI_1]
      refine ih (k + 1) _ (by omega) (fun j hj => ?_)
      by_cases q : g j = g k
      · rw [q, pk_us]
      · rw [pk_un q]
        by_cases q2 : j = k
        · exact absurd (by rw [q2]) q
        · exact hf j (by omega)
  refine ⟨n + 1, ?_⟩
  have := loop n 0 (fun a => gV S 5 a 6) (by omega) (fun j hj => absurd hj (Nat.not_lt_zero j))
  rw [sJ_self] at this
  exact this
/-- the objects where only what the stations keep of times and reach changed, and no time is kept -/
theorem cO_J6 {S : bS} {A : Nat → Nat → Nat} {M : Nat → Nat → Int32} (h : cO S A M) {f : Nat → Int32} (hf : ∀ k, k < nS M → f (A 1 k) = 0) : cO (sJ S 6 f) A M := by
  obtain ⟨hP, hNt, hAr, hSt, hTb, hCa, hEn, hIn, hTm⟩ := h
  exact ⟨hP, hNt, hAr, hSt, hTb, hCa, hEn, hIn, fun k hk => Or.inl (by rw [gV_sJs]; exact hf k hk)⟩
theorem cO_J7 {S : bS} {A : Nat → Nat → Nat} {M : Nat → Nat → Int32} (h : cO S A M) (f : Nat → Int32) : cO (sJ S 7 f) A M := by
  obtain ⟨hP, hNt, hAr, hSt, hTb, hCa, hEn, hIn, hTm⟩ := h
  exact ⟨hP, hNt, hAr, hSt, hTb, hCa, hEn, hIn, fun k hk => hTm k hk⟩
theorem cF_J (A : Nat → Nat → Nat) (S : bS) (i : Nat) (f : Nat → Int32) : cF A S (sJ S i f) := ⟨fun _ _ => ⟨rfl, rfl⟩, fun _ _ _ => ⟨rfl, rfl⟩, fun _ _ _ _ => rfl, fun _ _ => ⟨fun _ => rfl, fun _ => rfl⟩⟩
