/-! ===== the reference's loops over the carriers under way ===== -/
/-- the list al of carriers lies in the reference's row of active ones -/
def mAc (M : Nat → Nat → Int32) (al : List Nat) : Prop := M 0 14 = nI al.length ∧ al.length ≤ 40 ∧ ∀ (k c : Nat), al[k]? = some c → M 5 k = nI c ∧ c < 500
theorem mAc_drop {al rest : List Nat} {k c : Nat} (h : al.drop k = c :: rest) : al[k]? = some c ∧ al.drop (k + 1) = rest ∧ k < al.length := by
  have h1 : al[k]? = some c := by
    have := List.getElem?_drop (xs := al) (i := k) (j := 0)
    rw [h] at this
    simpa using this.symm
  have hk : k < al.length := (List.getElem?_eq_some_iff.mp h1).1
  refine ⟨h1, ?_, hk⟩
  rw [← List.drop_drop (i := 1) (j := k)] 
  rw [h]
  rfl
theorem mAc_nil {al : List Nat} {k : Nat} (h : al.drop k = []) : al.length ≤ k := List.drop_eq_nil_iff.mp h
section MODEL2
variable {μ : Nat} {r : Nat → Nat} {S : bS} {M : Nat → Nat → Int32}
/-- how many of the listed carriers are in a state at a place -/
def mCn (M : Nat → Nat → Int32) (st wh : Int32) (al : List Nat) : Nat := al.countP (fun c => decide (M 4 (9 * c + 0) = st) && decide (M 4 (9 * c + 1) = wh))
theorem M_manyAt_loop (hM : mOK μ r S) {al : List Nat} (hA : mAc M al) {post : Int32 → bS → Prop} {st wh : Int32} : ∀ (rest : List Nat) (k acc : Nat), k ≤ al.length → al.drop k = rest → post (nI (acc + mCn M st wh rest)) (mW μ r S M) → wb_X6_manyAt_5 post (rest.length + 1) μ st wh (nI acc) (nI k) (mW μ r S M) := by
  intro rest
  induction rest with
  | nil =>
    intro k acc hkl hk h
    have hl := mAc_nil hk
    have hlen := hA.2.1
    unfold wb_X6_manyAt_5
    refine ⟨m_k hM, fun _ => ?_, fun hc => ?_⟩
    · simpa [mCn] using h
    · rw [mW_V0, hA.1] at hc
      exact absurd (nI_le hl (by omega)) hc
  | cons c rest ih =>
    intro k acc hkl hk h
    obtain ⟨h1, h2, h3⟩ := mAc_drop hk
    obtain ⟨ha, hc5⟩ := hA.2.2 k c h1
    have hlen := hA.2.1
    unfold wb_X6_manyAt_5
    refine ⟨m_k hM, fun hc => ?_, fun _ => ⟨r 5, (m_q hM).2.2.2.2.1, mW_k5 hM, ?_, ?_⟩⟩
    · rw [mW_V0, hA.1] at hc
      exact absurd hc (nI_ge h3 (by omega))
    · rw [mW_n5 hM]
      exact vp_in_nI (by omega) (by omega)
    · rw [nI_clamp (by omega), mW_V5 hM, ha]
      have hgo : ∀ (b : Nat), post (nI (acc + b + mCn M st wh rest)) (mW μ r S M) → wb_X6_manyAt_5 post (rest.length + 1) μ st wh (nI acc + nI b) (nI k + 1) (mW μ r S M) := by
        intro b hb
        rw [nI_add, nI_1]
        exact ih (k + 1) (acc + b) h3 h2 hb
      refine M_get (w := 0) hM (by omega) ⟨fun hn => ?_, fun he => ⟨m_k hM, r 5, (m_q hM).2.2.2.2.1, mW_k5 hM, ?_, ?_⟩⟩
      · refine hgo 0 ?_
        have e : mCn M st wh (c :: rest) = mCn M st wh rest := by
          unfold mCn
          rw [List.countP_cons_of_neg]
          simp [show M 4 (9 * c) ≠ st from hn]
        rw [e] at h
        exact h
      · rw [mW_n5 hM]
        exact vp_in_nI (by omega) (by omega)
      · rw [mW_V5 hM, ha]
        refine M_get (w := 1) hM (by omega) ⟨fun hn => ?_, fun he2 => ?_⟩
        · refine hgo 0 ?_
          have e : mCn M st wh (c :: rest) = mCn M st wh rest := by
            unfold mCn
            rw [List.countP_cons_of_neg]
            simp [hn]
          rw [e] at h
          exact h
        · refine hgo 1 ?_
          have e : mCn M st wh (c :: rest) = mCn M st wh rest + 1 := by
            unfold mCn
            rw [List.countP_cons_of_pos]
            simp [show M 4 (9 * c) = st from he, he2]
          rw [e] at h
          rw [show acc + 1 + mCn M st wh rest = acc + (mCn M st wh rest + 1) by omega]
          exact h
theorem M_manyAt (hM : mOK μ r S) {al : List Nat} (hA : mAc M al) {post : Int32 → bS → Prop} {st wh : Int32} (h : post (nI (mCn M st wh al)) (mW μ r S M)) : wp_X6_manyAt post μ st wh (mW μ r S M) := by
  refine ⟨al.length + 1, ?_⟩
  exact M_manyAt_loop hM hA al 0 0 (Nat.zero_le _) rfl (by rw [Nat.zero_add]; exact h)
end MODEL2
