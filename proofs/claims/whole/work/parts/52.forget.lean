theorem sV_sF {S : bS} {κ a j : Nat} {f : Nat → Int32} {v : Int32} : sV (sF S κ a f) κ a j v = sF S κ a (upd f j v) := by
  refine bS_V rfl rfl ?_ rfl
  funext κ' a' j'
  show (if κ' = κ ∧ a' = a ∧ j' = j then v else if κ' = κ ∧ a' = a then f j' else S.2.2.1 κ' a' j') = (if κ' = κ ∧ a' = a then upd f j v j' else S.2.2.1 κ' a' j')
  by_cases h : κ' = κ ∧ a' = a
  · rw [if_pos h, if_pos h]
    by_cases hj : j' = j
    · rw [if_pos ⟨h.1, h.2, hj⟩, hj, pk_us]
    · rw [if_neg (fun q => hj q.2.2), pk_un hj]
  · rw [if_neg (fun q => h ⟨q.1, q.2.1⟩), if_neg h, if_neg h]
theorem sF_self {S : bS} {κ a : Nat} : sF S κ a (gV S κ a) = S := by
  refine bS_V rfl rfl ?_ rfl
  funext κ' a' j'
  show (if κ' = κ ∧ a' = a then gV S κ a j' else S.2.2.1 κ' a' j') = S.2.2.1 κ' a' j'
  by_cases h : κ' = κ ∧ a' = a
  · rw [if_pos h, h.1, h.2]
    rfl
  · rw [if_neg h]
theorem gV_sFs {S : bS} {κ a j : Nat} {f : Nat → Int32} : gV (sF S κ a f) κ a j = f j := if_pos ⟨rfl, rfl⟩
theorem C_forget {S : bS} {nt rk : Nat} (h4 : gK S nt = 4) (hq : gQ S 4 nt 3 = some rk) (hk : gK S rk = 10) (hn : gN S rk = 14) {post : bS → Prop} (hp : ∀ f, (∀ j, j < 14 → f j = 0) → post (sF S 10 rk f)) : wp_X2_forgetTimes post nt S := by
  have loop : ∀ (n k : Nat) (f : Nat → Int32), k + n = 14 → (∀ j, j < k → f j = 0) → wb_X2_forgetTimes_2 post (n + 1) nt (nI k) (sF S 10 rk f) := by
    intro n
    induction n with
    | zero =>
      intro k f hk' hf
      have : k = 14 := by omega
      subst this
      unfold wb_X2_forgetTimes_2
      refine ⟨h4, rk, hq, hk, fun _ => hp f hf, fun q => ?_⟩
      rw [gN_sF, hn] at q
      exact absurd (by decide) q
    | succ n ih =>
      intro k f hk' hf
      unfold wb_X2_forgetTimes_2
      refine ⟨h4, rk, hq, hk, fun q => ?_, fun _ => ⟨rk, hq, hk, ?_, ?_⟩⟩
      · rw [gN_sF, hn] at q
        exact absurd ((nI_leI (a := 14) (by decide) (by omega)).mp q) (by omega)
      · rw [gN_sF, hn]
        exact vp_in_nI (by omega) (by omega)
      · rw [nI_clamp (by omega), sV_sF, nI_1]
        refine ih (k + 1) _ (by omega) (fun j hj => ?_)
        by_cases q : j = k
        · subst q
          rw [pk_us]
          decide
        · rw [pk_un q]
          exact hf j (by omega)
  refine ⟨15, ?_⟩
  have := loop 14 0 (gV S 10 rk) rfl (fun j hj => absurd hj (Nat.not_lt_zero j))
  rw [sF_self] at this
  exact this
