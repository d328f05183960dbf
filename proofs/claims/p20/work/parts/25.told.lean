/-! ===== what the reference tells ===== -/
def jamB (P : pP) (t : Nat) : Bool := match (P.2 (15 + t)).head? with
  | none => false
  | some c => decide (dueM P.1 c)
def jamN (P : pP) : Nat → Nat
  | 0 => 0
  | k + 1 => jamN P k + if jamB P k then 1 else 0
theorem jamN_le (P : pP) : ∀ k, jamN P k ≤ k
  | 0 => Nat.le_refl _
  | k + 1 => by
    have := jamN_le P k
    show jamN P k + (if jamB P k then 1 else 0) ≤ k + 1
    split <;> omega
/-- a number as one of the first n -/
def ixO (v : Int32) (n : Nat) : Option Nat := if 0 ≤ v ∧ v < nI n then some (u v) else none
theorem ixO_some {v : Int32} {n s : Nat} (hn : n < 2 ^ 31) (h : ixO v n = some s) : v = nI s ∧ s < n := by
  unfold ixO at h
  by_cases q : 0 ≤ v ∧ v < nI n
  · rw [if_pos q] at h
    cases h
    obtain ⟨j, hj, e⟩ := nI_of (Int32.not_lt.mpr q.1)
    subst e
    rw [u_nI hj]
    exact ⟨rfl, (nI_ltI hj hn).mp q.2⟩
  · rw [if_neg q] at h
    cases h
theorem ixO_nI {n s : Nat} (hn : n < 2 ^ 31) (h : s < n) : ixO (nI s) n = some s := by
  unfold ixO
  rw [if_pos ⟨nI_pos' (by omega), nI_lt h hn⟩, u_nI (by omega)]
theorem in_iff {v : Int32} {n : Nat} (hn : n < 2 ^ 31) : ((0 : Int32) ≤ v ∧ v ≤ nI n - 1) ↔ ∃ s, ixO v n = some s := by
  cases n with
  | zero =>
    refine ⟨fun q => ?_, fun ⟨s, hs⟩ => ?_⟩
    · have h1 := Int32.le_trans q.1 q.2
      exact absurd h1 (by decide)
    · have := (ixO_some hn hs).2
      omega
  | succ n =>
    rw [nI_pred]
    refine ⟨fun q => ?_, fun ⟨s, hs⟩ => ?_⟩
    · obtain ⟨j, hj, e⟩ := nI_of (Int32.not_lt.mpr q.1)
      subst e
      have := (nI_leI hj (by omega)).mp q.2
      exact ⟨j, ixO_nI hn (by omega)⟩
    · obtain ⟨e, h⟩ := ixO_some hn hs
      subst e
      exact ⟨nI_pos' (by omega), nI_le (by omega) (by omega)⟩
section MODEL13
variable {μ : Nat} {r : Nat → Nat} {S : bS}
theorem M_ixIn {X : bS} {post : Int32 → bS → Prop} {v : Int32} {n : Nat} (hn : n < 2 ^ 31) (h : post (if (ixO v n).isSome then 1 else 0) X) : wp_X6_isIn post v 0 (nI n - 1) X := by
  refine M_isIn ?_
  by_cases q : (0 : Int32) ≤ v ∧ v ≤ nI n - 1
  · obtain ⟨s, hs⟩ := (in_iff hn).mp q
    rw [if_pos q]
    rw [hs] at h
    exact h
  · rw [if_neg q]
    have : ixO v n = none := by
      cases hs : ixO v n with
      | none => rfl
      | some s => exact absurd ((in_iff hn).mpr ⟨s, hs⟩) q
    rw [this] at h
    exact h
theorem M_isSt (hM : mOK μ r S) {M : Nat → Nat → Int32} (hN : iN M) {f g : Nat → Int32} {post : Int32 → bS → Prop} {v : Int32} (h : post (if (ixO v (nS M)).isSome then 1 else 0) (mW μ r S (mX M f g))) : wp_X6_isStation post μ v (mW μ r S (mX M f g)) := by
  have h14 := hN.1.2
  refine ⟨m_k hM, ?_⟩
  rw [mW_V0, show mX M f g 0 2 = nI (nS M) from hN.1.1]
  refine M_ixIn (by omega) ⟨?_, h⟩
  split
  · exact Or.inr rfl
  · exact Or.inl rfl
theorem M_isTu (hM : mOK μ r S) {M : Nat → Nat → Int32} (hN : iN M) {f g : Nat → Int32} {post : Int32 → bS → Prop} {v : Int32} (h : post (if (ixO v (nT M)).isSome then 1 else 0) (mW μ r S (mX M f g))) : wp_X6_isTube post μ v (mW μ r S (mX M f g)) := by
  have h14 := hN.2.1.2
  refine ⟨m_k hM, ?_⟩
  rw [mW_V0, show mX M f g 0 3 = nI (nT M) from hN.2.1.1]
  refine M_ixIn (by omega) ⟨?_, h⟩
  split
  · exact Or.inr rfl
  · exact Or.inl rfl
theorem M_jam (hM : mOK μ r S) {f g : Nat → Int32} {B K : Nat} {P : pP} (h : wI B K P.1 P.2) {t : Nat} (ht : t < 30) {post : Int32 → bS → Prop} (hp : post (if jamB P t then 1 else 0) (mW μ r S (mX P.1 f g))) : wp_X6_firstIn (fun r5 S6 => gK S6 μ = 8 ∧ (wp_X6_isDue post μ r5 S6)) μ (nI t) (mW μ r S (mX P.1 f g)) := by
  have hL := h.2.2.2.2.2.2.1.2 t ht
  refine M_firstIn hM (mAc_X h.2.2.2.2.1.2.2.1 f g) (al := P.2 0) hL.1 hL.2 ⟨m_k hM, ?_⟩
  unfold jamB at hp
  cases hh : (P.2 (15 + t)).head? with
  | none =>
    rw [hh] at hp
    exact M_isDue_none hM hp
  | some c =>
    rw [hh] at hp
    have hc : c ∈ P.2 (15 + t) := List.mem_of_mem_head? hh
    refine M_isDue_some hM (w_in h ht hc).2.2.2.2 ?_
    by_cases q : dueM P.1 c
    · rw [if_pos (show dueM (mX P.1 f g) c from q)]
      rw [if_pos (decide_eq_true q)] at hp
      exact hp
    · rw [if_neg (show ¬ dueM (mX P.1 f g) c from q)]
      rw [if_neg (by simp [q])] at hp
      exact hp
/-- the reference's counts -/
def cntR (P : pP) : Nat → Int32
  | 0 => P.1 0 1
  | 1 => P.1 0 2
  | 2 => P.1 0 3
  | 3 => P.1 0 4
  | 4 => P.1 0 5
  | 5 => P.1 0 14
  | 6 => P.1 0 6
  | 7 => nI (jamN P (nT P.1))
  | _ => P.1 0 7
theorem nI_lit {w k : Nat} (hw : w < 2 ^ 31) (hk : k < 2 ^ 31) : nI w = nI k ↔ w = k := nI_eq hw hk
theorem M_counted (hM : mOK μ r S) {f g : Nat → Int32} {B K : Nat} {P : pP} (h : wI B K P.1 P.2) {w : Nat} (hw : w ≤ 8) {post : Int32 → bS → Prop} (hp : post (cntR P w) (mW μ r S (mX P.1 f g))) : wp_X6_counted post μ (nI w) (mW μ r S (mX P.1 f g)) := by
  have e : ∀ k : Nat, k ≤ 8 → (nI w = nI k ↔ w = k) := fun k hk => nI_eq (by omega) (by omega)
  have h30 := h.1.2.1.2
  refine ⟨fun q => ⟨m_k hM, ?_⟩, fun q => ⟨m_k hM, ?_⟩, fun q => ⟨m_k hM, ?_⟩, fun q => ⟨m_k hM, ?_⟩, fun q => ⟨m_k hM, ?_⟩, fun q => ⟨m_k hM, ?_⟩, fun q => ⟨m_k hM, ?_⟩, fun q => ?_, fun q0 q1 q2 q3 q4 q5 q6 q7 => ⟨m_k hM, ?_⟩⟩
  · have := (e 0 (by decide)).mp q; subst this; rw [mW_V0]; exact hp
  · have := (e 1 (by decide)).mp q; subst this; rw [mW_V0]; exact hp
  · have := (e 2 (by decide)).mp q; subst this; rw [mW_V0]; exact hp
  · have := (e 3 (by decide)).mp q; subst this; rw [mW_V0]; exact hp
  · have := (e 4 (by decide)).mp q; subst this; rw [mW_V0]; exact hp
  · have := (e 5 (by decide)).mp q; subst this; rw [mW_V0]; exact hp
  · have := (e 6 (by decide)).mp q; subst this; rw [mW_V0]; exact hp
  · have := (e 7 (by decide)).mp q
    subst this
    have loop : ∀ (n k : Nat), k + n = nT P.1 → wb_X6_counted_85 post (n + 1) μ (nI (jamN P k)) (nI k) (mW μ r S (mX P.1 f g)) := by
      intro n
      induction n with
      | zero =>
        intro k hk
        have hk' : k = nT P.1 := by omega
        subst hk'
        unfold wb_X6_counted_85
        refine ⟨m_k hM, fun _ => hp, fun hc => ?_⟩
        rw [mW_V0, show mX P.1 f g 0 3 = nI (nT P.1) from h.1.2.1.1] at hc
        exact absurd (nI_le (Nat.le_refl _) (by omega)) hc
      | succ n ih =>
        intro k hk
        have next := ih (k + 1) (by omega)
        unfold wb_X6_counted_85
        refine ⟨m_k hM, fun hc => ?_, fun _ => ?_⟩
        · rw [mW_V0, show mX P.1 f g 0 3 = nI (nT P.1) from h.1.2.1.1] at hc
          exact absurd hc (nI_ge (by omega) (by omega))
        · refine M_jam hM h (t := k) (by omega) ?_
          have e2 : nI (jamN P (k + 1)) = nI (jamN P k) + nI (if jamB P k then 1 else 0) := by rw [nI_add]; rfl
          rw [e2] at next
          by_cases hj : jamB P k = true
          · rw [if_pos hj] at next
            rw [if_pos hj]
            refine ⟨fun q => absurd q (by decide), fun _ => ?_⟩
            show wb_X6_counted_85 post (n + 1) μ (nI (jamN P k) + 1) (nI k + 1) _
            rw [nI_1 k]
            exact next
          · rw [if_neg hj] at next
            rw [if_neg hj]
            refine ⟨fun _ => ?_, fun q => absurd rfl q⟩
            show wb_X6_counted_85 post (n + 1) μ (nI (jamN P k) + 0) (nI k + 1) _
            rw [nI_1 k]
            exact next
    exact ⟨nT P.1 + 1, loop (nT P.1) 0 (by omega)⟩
  · have hw8 : w = 8 := by
      have a0 : w ≠ 0 := fun x => q0 ((e 0 (by decide)).mpr x)
      have a1 : w ≠ 1 := fun x => q1 ((e 1 (by decide)).mpr x)
      have a2 : w ≠ 2 := fun x => q2 ((e 2 (by decide)).mpr x)
      have a3 : w ≠ 3 := fun x => q3 ((e 3 (by decide)).mpr x)
      have a4 : w ≠ 4 := fun x => q4 ((e 4 (by decide)).mpr x)
      have a5 : w ≠ 5 := fun x => q5 ((e 5 (by decide)).mpr x)
      have a6 : w ≠ 6 := fun x => q6 ((e 6 (by decide)).mpr x)
      have a7 : w ≠ 7 := fun x => q7 ((e 7 (by decide)).mpr x)
      omega
    subst hw8
    rw [mW_V0]
    exact hp
def staR (P : pP) (s w : Nat) : Int32 := if w < 4 then P.1 1 (9 * s + w) else if w = 4 then nI (P.2 (1 + s)).length else P.1 1 (9 * s + 4)
theorem M_staTold (hM : mOK μ r S) {f g : Nat → Int32} {B K : Nat} {P : pP} (h : wI B K P.1 P.2) {s w : Nat} (hs : s < 14) (hw : w ≤ 5) {post : Int32 → bS → Prop} (hp : post (staR P s w) (mW μ r S (mX P.1 f g))) : wp_X6_stationTold post μ (nI s) (nI w) (mW μ r S (mX P.1 f g)) := by
  unfold staR at hp
  have hperm := (h.2.2.2.2.2.2.1.1 s hs).1
  refine ⟨fun q => ⟨fun hne => ⟨m_k hM, ?_⟩, fun he => ⟨m_k hM, ?_⟩⟩, fun q => ⟨m_k hM, ?_⟩⟩
  · have h4 : 4 ≤ w := (nI_leI (a := 4) (by omega) (by omega)).mp q
    have h4' : w ≠ 4 := fun x => hne (by rw [x]; rfl)
    rw [if_neg (by omega), if_neg h4'] at hp
    exact M_st (w := 4) hM (by omega) hp
  · have h4' : w = 4 := (nI_eq (b := 4) (by omega) (by omega)).mp he
    rw [if_neg (by omega), if_pos h4'] at hp
    refine M_manyAt hM (mAc_X h.2.2.2.2.1.2.2.1 f g) ?_
    rw [mCn_perm (M := mX P.1 f g) (p := atS P.1 (nI s)) (fun c => rfl) hperm]
    exact hp
  · have h4 : ¬ 4 ≤ w := fun x => q ((nI_leI (a := 4) (by omega) (by omega)).mpr x)
    rw [if_pos (by omega)] at hp
    exact M_st (w := w) hM (by omega) hp
def tubR (P : pP) (t w : Nat) : Int32 := if w < 6 then P.1 2 (8 * t + w) else if w = 6 then nI (P.2 (15 + t)).length else if w = 7 then (if jamB P t then 1 else 0) else P.1 2 (8 * t + 6)
theorem M_tubTold (hM : mOK μ r S) {f g : Nat → Int32} {B K : Nat} {P : pP} (h : wI B K P.1 P.2) {t w : Nat} (ht : t < 30) (hw : w ≤ 8) {post : Int32 → bS → Prop} (hp : post (tubR P t w) (mW μ r S (mX P.1 f g))) : wp_X6_tubeTold post μ (nI t) (nI w) (mW μ r S (mX P.1 f g)) := by
  unfold tubR at hp
  have hperm := (h.2.2.2.2.2.2.1.2 t ht).1
  refine ⟨fun q => ⟨fun hne => ⟨fun hne7 => ⟨m_k hM, ?_⟩, fun he7 => ⟨m_k hM, ?_⟩⟩, fun he => ⟨m_k hM, ?_⟩⟩, fun q => ⟨m_k hM, ?_⟩⟩
  · have h4 : 6 ≤ w := (nI_leI (a := 6) (by omega) (by omega)).mp q
    have h6 : w ≠ 6 := fun x => hne (by rw [x]; rfl)
    have h7 : w ≠ 7 := fun x => hne7 (by rw [x]; rfl)
    rw [if_neg (by omega), if_neg h6, if_neg h7] at hp
    exact M_tu (w := 6) hM (by omega) hp
  · have h7 : w = 7 := (nI_eq (b := 7) (by omega) (by omega)).mp he7
    subst h7
    rw [if_neg (by omega), if_neg (by omega), if_pos rfl] at hp
    refine M_jam hM h ht ?_
    by_cases hj : jamB P t = true
    · rw [if_pos hj] at hp ⊢
      exact ⟨fun x => absurd x (by decide), fun _ => hp⟩
    · rw [if_neg hj] at hp ⊢
      exact ⟨fun _ => hp, fun x => absurd rfl x⟩
  · have h6 : w = 6 := (nI_eq (b := 6) (by omega) (by omega)).mp he
    rw [if_neg (by omega), if_pos h6] at hp
    refine M_manyAt hM (mAc_X h.2.2.2.2.1.2.2.1 f g) ?_
    rw [mCn_perm (M := mX P.1 f g) (p := inT P.1 (nI t)) (fun c => rfl) hperm]
    exact hp
  · have h4 : ¬ 6 ≤ w := fun x => q ((nI_leI (a := 6) (by omega) (by omega)).mpr x)
    rw [if_pos (by omega)] at hp
    exact M_tu (w := w) hM (by omega) hp
end MODEL13
