/-! ===== the class's side: lists ===== -/
/-- a list object l, its row e, its elements, its row's length -/
def isLe (S : bS) (l e : Nat) (xs : List Nat) (c : Nat) : Prop := gK S l = 1 ∧ gV S 1 l 2 = nI xs.length ∧ gQ S 1 l 1 = some e ∧ ((c = 0 ∧ gK S e = 14 ∧ gN S e = 0) ∨ (10 ≤ c ∧ gK S e = 11 ∧ gN S e = c)) ∧ xs.length ≤ c ∧ c ≤ 750 ∧ ∀ k a, xs[k]? = some a → gQ S 11 e k = some a ∧ 2 ≤ gK S a ∧ gK S a ≤ 6
/-- kinds, lengths, longs, and numbers and references but the lists' own, as before for all that lived -/
def lF (S S' : bS) : Prop := ((∀ a, gK S a ≠ 0 → gK S' a = gK S a ∧ gN S' a = gN S a) ∧ ∀ a, gK S' a = 14 → gK S a = 14) ∧ (∀ κ a j, κ ≠ 1 → gK S a ≠ 0 → gV S' κ a j = gV S κ a j) ∧ (∀ κ a j, κ ≠ 1 → κ ≠ 11 → gK S a ≠ 0 → gQ S' κ a j = gQ S κ a j) ∧ ∀ a j, gK S a ≠ 0 → gL S' a j = gL S a j
theorem lF_rf (S : bS) : lF S S := ⟨⟨fun _ _ => ⟨rfl, rfl⟩, fun _ h => h⟩, fun _ _ _ _ _ => rfl, fun _ _ _ _ _ _ => rfl, fun _ _ _ => rfl⟩
theorem lF_tr {S S' S'' : bS} (h : lF S S') (h' : lF S' S'') : lF S S'' := by
  obtain ⟨⟨a1, a5⟩, a2, a3, a4⟩ := h
  obtain ⟨⟨b1, b5⟩, b2, b3, b4⟩ := h'
  have hk : ∀ a, gK S a ≠ 0 → gK S' a ≠ 0 := fun a ha => by rw [(a1 a ha).1]; exact ha
  exact ⟨⟨fun a ha => ⟨(b1 a (hk a ha)).1.trans (a1 a ha).1, (b1 a (hk a ha)).2.trans (a1 a ha).2⟩, fun a h => a5 a (b5 a h)⟩, fun κ a j h1 ha => (b2 κ a j h1 (hk a ha)).trans (a2 κ a j h1 ha), fun κ a j h1 h2 ha => (b3 κ a j h1 h2 (hk a ha)).trans (a3 κ a j h1 h2 ha), fun a j ha => (b4 a j (hk a ha)).trans (a4 a j ha)⟩
def nx (c : Nat) : Nat := if c = 0 then 10 else c + c / 2
section LISTS
variable {S : bS} {l e c : Nat} {xs : List Nat}
theorem isLe_len (h : isLe S l e xs c) : xs.length ≤ 750 := Nat.le_trans h.2.2.2.2.1 h.2.2.2.2.2.1
theorem C_size (h : isLe S l e xs c) {post : Int32 → bS → Prop} (hp : post (nI xs.length) S) : wp_Jx4a65c_size_8abf5 post l S := by
  refine ⟨h.1, ?_⟩
  rw [h.2.1]
  exact hp
theorem C_isEmpty (h : isLe S l e xs c) {post : Int32 → bS → Prop} (hp : post (if xs = [] then 1 else 0) S) : wp_Jx4a65c_isEmpty_aae02 post l S := by
  have hl := isLe_len h
  refine ⟨h.1, fun hne => ?_, fun he => ?_⟩
  · rw [h.2.1] at hne
    have : xs ≠ [] := fun q => hne (by rw [q]; rfl)
    rw [if_neg this] at hp
    exact ⟨Or.inl rfl, hp⟩
  · rw [h.2.1] at he
    have h0 : xs.length = 0 := (nI_eq (b := 0) (by omega) (by decide)).mp he
    rw [if_pos (List.length_eq_zero_iff.mp h0)] at hp
    exact ⟨Or.inr rfl, hp⟩
theorem C_get (h : isLe S l e xs c) {k a : Nat} (hk : xs[k]? = some a) {post : Option Nat → bS → Prop} (hp : post (some a) S) : wp_Jx4a65c_get_915e3 post l (nI k) S := by
  have hl := isLe_len h
  have hkl := (List.getElem?_eq_some_iff.mp hk).1
  obtain ⟨h1, h2, h3, h4, h5, h6, h7⟩ := h
  obtain ⟨x1, -, -⟩ := h7 k a hk
  refine ⟨h1, ⟨fun q => absurd q (nI_pos (by omega)), fun _ => ⟨fun _ => ⟨h1, h1, e, h3, ?_, ?_, a, ?_, a, rfl, hp⟩, fun q => ?_⟩⟩⟩
  · rcases h4 with ⟨q, -⟩ | ⟨-, q, -⟩
    · omega
    · exact q
  · rcases h4 with ⟨q, -⟩ | ⟨-, -, q⟩
    · omega
    · rw [q]
      exact vp_in_nI (by omega) (by omega)
  · rw [nI_clamp (by omega)]
    exact x1
  · rw [h2] at q
    exact absurd (nI_lt hkl (by omega)) q
/-- a full list's row is made longer -/
theorem C_grow {S : bS} {l e c : Nat} {xs : List Nat} (hz : ∀ a b, gK S a = 14 → gK S b = 14 → a = b) (h : isLe S l e xs c) (hf : xs.length = c) (h5 : xs.length ≤ 499) {MC MS : Nat} (hMC : 1 ≤ MC) (hMS : nx c ≤ MS) {post : Option Nat → bS → Prop} (hp : ∀ S' q, gK S q = 0 → gK S' q = 11 → gN S' q = nx c → (∀ k a, xs[k]? = some a → gQ S' 11 q k = some a) → gQ S' 1 l 1 = some q → (∀ a, gK S a ≠ 0 → gK S' a = gK S a ∧ gN S' a = gN S a) → (∀ a, gK S' a = 14 → gK S a = 14) → (∀ κ a j, gK S a ≠ 0 → gV S' κ a j = gV S κ a j) → (∀ κ a j, gK S a ≠ 0 → ¬ (κ = 1 ∧ a = l ∧ j = 1) → gQ S' κ a j = gQ S κ a j) → (∀ a j, gK S a ≠ 0 → gL S' a j = gL S a j) → post (some q) S') : wp_Jx4a65c_grow_d5877 post MC MS l S := by
  obtain ⟨h1, h2, h3, h4, h5', h6, h7⟩ := h
  refine ⟨h1, MC, MS, Nat.le_refl _, Nat.le_refl _, ?_⟩
  rw [h2, nI_1, hf]
  refine ⟨h1, e, h3, ?_, ?_, ?_⟩
  · rcases h4 with ⟨-, q, -⟩ | ⟨-, q, -⟩
    · exact Or.inr q
    · exact Or.inl q
  · intro hpos
    rcases h4 with ⟨q0, q1, q2⟩ | ⟨q0, q1, q2⟩
    · rw [q2] at hpos
      exact absurd hpos (by decide)
    · have ec : Int32.ofNat (gN S e) = nI c := by rw [q2]; rfl
      rw [ec]
      have e1 : nI (c + 1) - nI c = nI 1 := by rw [pk_sub (by omega)]; congr 1; omega
      have e2 : nI c >>> ((1 : Int32) &&& 31) = nI (c / 2) := pk_shrN (k := 1) (by omega) _ (by decide)
      have e3 : (if nI 1 < nI (c / 2) then nI (c / 2) else nI 1) = nI (c / 2) := by rw [if_pos (nI_lt (by omega) (by omega))]
      have e4 : nI c + nI (c / 2) = nI (nx c) := by rw [nI_add]; unfold nx; rw [if_neg (by omega)]
      have hnx : nx c = c + c / 2 := by unfold nx; rw [if_neg (by omega)]
      unfold wb_Jx4a65c_grow_92f84_20
      rw [e1, e2]
      unfold wp_J8_newLength_cabcc
      rw [e3, e4]
      refine ⟨fun q => absurd q (nI_nle (by omega) (by omega)), fun _ => ⟨fun q => absurd q (Int32.not_lt.mpr (nI_le (b := 2147483639) (by omega) (by decide))), fun _ => ⟨h1, e, h3, MC, MS, Nat.le_refl _, Nat.le_refl _, q1, fun mi => ⟨MC, MS, Nat.le_refl _, Nat.le_refl _, fun q => absurd rfl q, fun _ => ⟨nI_pos (by omega), ?_, hMC, ?_, fun q hq => ?_⟩⟩⟩⟩⟩
      · rw [nI_clamp (by omega)]; omega
      · rw [nI_clamp (by omega)]; exact hMS
      · rw [nI_clamp (by omega)]
        have qe : e ≠ q := fun x => by rw [← x, q1] at hq; cases hq
        have ql : l ≠ q := fun x => by rw [← x, h1] at hq; cases hq
        have ke : gK (sNew S q 11 (nx c)) e = 11 := by rw [gK_sNew, if_neg qe]; exact q1
        have ne : gN (sNew S q 11 (nx c)) e = c := by rw [gN_sNew, if_neg qe]; exact q2
        have nq : gN (sNew S q 11 (nx c)) q = nx c := by rw [gN_sNew, if_pos rfl]
        have Qe : ∀ j, gQ (sNew S q 11 (nx c)) 11 e j = gQ S 11 e j := fun j => by rw [gQ_sNew, if_neg qe]
        rw [ne, nq]
        have e5 : (if nI (nx c) < Int32.ofNat c then nI (nx c) else Int32.ofNat c) = nI c := by
          rw [if_neg]
          · rfl
          · exact nI_nlt (by omega) (by omega)
        rw [e5, nI_clamp (n := c) (by omega), show Int32.toNatClampNeg (0 : Int32) = 0 by decide]
        refine ⟨Or.inl ke, ke, ⟨by decide, by decide, nI_pos (by omega), by omega, by omega⟩, fun i hi b hb => ?_, q, rfl, q, rfl, ?_, q, rfl, ?_⟩
        · rw [Nat.zero_add, Qe] at hb
          have hx : xs[i]? = some xs[i] := List.getElem?_eq_getElem (by omega)
          obtain ⟨y1, y2, y3⟩ := h7 i _ hx
          rw [y1] at hb
          cases hb
          have hne : xs[i] ≠ q := fun x => by rw [x, hq] at y2; omega
          rw [gK_sNew, if_neg hne]
          exact ⟨y2, y3⟩
        · show gK (sG (sNew S q 11 (nx c)) 11 q _) l = 1
          rw [gK_sG, gK_sNew, if_neg ql]
          exact h1
        · refine hp _ q hq ?_ ?_ (fun k a hk => ?_) ?_ (fun a ha => ?_) (fun a ha => ?_) (fun κ a j ha => ?_) (fun κ a j ha hn => ?_) (fun a j ha => ?_)
          · rw [gK_sQ, gK_sG, gK_sNew, if_pos rfl]
          · rw [gN_sQ, gN_sG, gN_sNew, if_pos rfl]
          · have hkl := (List.getElem?_eq_some_iff.mp hk).1
            rw [gQ_sQ, if_neg (fun x => by omega), gQ_sG, if_pos ⟨rfl, rfl⟩, pk_cpy_in (by omega) (by omega), Nat.sub_zero, Nat.zero_add, Qe]
            exact (h7 k a hk).1
          · rw [gQ_sQ, if_pos ⟨rfl, rfl, rfl⟩]
          · have hne : a ≠ q := fun x => ha (x ▸ hq)
            rw [gK_sQ, gK_sG, gK_sNew, if_neg hne, gN_sQ, gN_sG, gN_sNew, if_neg hne]
            exact ⟨rfl, rfl⟩
          · rw [gK_sQ, gK_sG, gK_sNew] at ha
            by_cases x : a = q
            · rw [if_pos x] at ha; cases ha
            · rw [if_neg x] at ha; exact ha
          · have hne : a ≠ q := fun x => ha (x ▸ hq)
            rw [gV_sQ, gV_sG, gV_sNew, if_neg hne]
          · have hne : a ≠ q := fun x => ha (x ▸ hq)
            rw [gQ_sQ, if_neg hn, gQ_sG, if_neg (fun x => hne x.2), gQ_sNew, if_neg hne]
          · have hne : a ≠ q := fun x => ha (x ▸ hq)
            rw [gL_sQ, gL_sG, gL_sNew, if_neg hne]
  · intro hnp
    rcases h4 with ⟨q0, q1, q2⟩ | ⟨q0, q1, q2⟩
    · refine ⟨e, h3, fun z hzz => ⟨fun _ => ?_, fun hne => ?_⟩⟩
      · have e10 : (if (10 : Int32) < nI (c + 1) then nI (c + 1) else 10) = 10 := by
          rw [q0]
          decide
        have hnx : nx c = 10 := by unfold nx; rw [if_pos q0]
        rw [e10, show Int32.toNatClampNeg (10 : Int32) = 10 by decide]
        refine ⟨by decide, by decide, hMC, by omega, fun q hq => ⟨q, rfl, hp _ q hq ?_ ?_ (fun k a hk => ?_) ?_ (fun a ha => ?_) (fun a ha => ?_) (fun κ a j ha => ?_) (fun κ a j ha hn => ?_) (fun a j ha => ?_)⟩⟩
        · rw [gK_sQ, gK_sNew, if_pos rfl]
        · rw [gN_sQ, gN_sNew, if_pos rfl, hnx]
        · have hkl := (List.getElem?_eq_some_iff.mp hk).1
          omega
        · rw [gQ_sQ, if_pos ⟨rfl, rfl, rfl⟩]
        · have hne : a ≠ q := fun x => ha (x ▸ hq)
          rw [gK_sQ, gK_sNew, if_neg hne, gN_sQ, gN_sNew, if_neg hne]
          exact ⟨rfl, rfl⟩
        · rw [gK_sQ, gK_sNew] at ha
          by_cases x : a = q
          · rw [if_pos x] at ha; cases ha
          · rw [if_neg x] at ha; exact ha
        · have hne : a ≠ q := fun x => ha (x ▸ hq)
          rw [gV_sQ, gV_sNew, if_neg hne]
        · have hne : a ≠ q := fun x => ha (x ▸ hq)
          rw [gQ_sQ, if_neg hn, gQ_sNew, if_neg hne]
        · have hne : a ≠ q := fun x => ha (x ▸ hq)
          rw [gL_sQ, gL_sNew, if_neg hne]
      · exact absurd (by rw [hz e z q1 hzz]) hne
    · rw [q2] at hnp
      exact absurd (show (0 : Int32) < Int32.ofNat c from nI_lt (a := 0) (by omega) (by omega)) hnp
end LISTS
