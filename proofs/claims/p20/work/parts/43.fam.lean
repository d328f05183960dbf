/-! ===== the class's lists, all of them ===== -/
def up {α : Type} (f : Nat → α) (i : Nat) (x : α) : Nat → α := fun j => if j = i then x else f j
theorem up_s {α : Type} {f : Nat → α} {i : Nat} {x : α} : up f i x i = x := if_pos rfl
theorem up_n {α : Type} {f : Nat → α} {i j : Nat} {x : α} (h : j ≠ i) : up f i x j = f j := if_neg h
theorem up_id {α : Type} {f : Nat → α} {i : Nat} : up f i (f i) = f := by
  funext j
  unfold up
  by_cases h : j = i
  · rw [if_pos h, h]
  · rw [if_neg h]
/-- lists by number: which there are, their objects, their rows, their elements, their rows' lengths -/
def LSr (S : bS) (lv : Nat → Prop) (la ea : Nat → Nat) (ls : Nat → List Nat) (cp : Nat → Nat) : Prop := (∀ i, lv i → isLe S (la i) (ea i) (ls i) (cp i)) ∧ (∀ i j, lv i → lv j → la i = la j → i = j) ∧ (∀ i j, lv i → lv j → 0 < cp i → ea i = ea j → i = j) ∧ ∀ a b, gK S a = 14 → gK S b = 14 → a = b
/-- what the lists stand on is as before -/
theorem LSr_fr {S S' : bS} {lv : Nat → Prop} {la ea : Nat → Nat} {ls : Nat → List Nat} {cp : Nat → Nat} (h : LSr S lv la ea ls cp) (hK : ∀ a, gK S a ≠ 0 → gK S' a = gK S a ∧ gN S' a = gN S a) (h14 : ∀ a, gK S' a = 14 → gK S a = 14) (hV : ∀ a j, gK S a ≠ 0 → gV S' 1 a j = gV S 1 a j) (hQ : ∀ a j, gK S a ≠ 0 → gQ S' 1 a j = gQ S 1 a j) (hQ2 : ∀ a j, gK S a ≠ 0 → gQ S' 11 a j = gQ S 11 a j) : LSr S' lv la ea ls cp := by
  obtain ⟨h1, h2, h3, h4⟩ := h
  refine ⟨fun i hi => ?_, h2, h3, fun a b ha hb => h4 a b (h14 a ha) (h14 b hb)⟩
  obtain ⟨x1, x2, x3, x4, x5, x6, x7⟩ := h1 i hi
  have l0 : gK S (la i) ≠ 0 := by rw [x1]; decide
  have e0 : gK S (ea i) ≠ 0 := by
    rcases x4 with ⟨-, q, -⟩ | ⟨-, q, -⟩ <;> rw [q] <;> decide
  refine ⟨by rw [(hK _ l0).1]; exact x1, by rw [hV _ _ l0]; exact x2, by rw [hQ _ _ l0]; exact x3, ?_, x5, x6, fun k a hk => ?_⟩
  · rw [(hK _ e0).1, (hK _ e0).2]
    exact x4
  · obtain ⟨y1, y2, y3⟩ := x7 k a hk
    rw [hQ2 _ _ e0, (hK a (by omega)).1]
    exact ⟨y1, y2, y3⟩
theorem LSr_op {S S' : bS} {lv : Nat → Prop} {la ea : Nat → Nat} {ls : Nat → List Nat} {cp : Nat → Nat} (h : LSr S lv la ea ls cp) {i e' c' : Nat} {xs' : List Nat} (hi : lv i) (hL : isLe S' (la i) e' xs' c') (he : e' = ea i ∨ gK S e' = 0) (hc : cp i ≤ c') (hec : e' = ea i → c' = cp i) (ho : oF (la i) (ea i) S S') : LSr S' lv la (up ea i e') (up ls i xs') (up cp i c') := by
  obtain ⟨h1, h2, h3, h4⟩ := h
  obtain ⟨⟨⟨o1, o5⟩, o2, o3, o4⟩, o6, o7⟩ := ho
  have elive : ∀ j, lv j → gK S (ea j) ≠ 0 := fun j hj => by
    obtain ⟨-, -, -, x4, -⟩ := h1 j hj
    rcases x4 with ⟨-, q, -⟩ | ⟨-, q, -⟩ <;> rw [q] <;> decide
  refine ⟨fun j hj => ?_, h2, fun j k hj hk hcp hee => ?_, fun a b ha hb => h4 a b (o5 a ha) (o5 b hb)⟩
  · by_cases q : j = i
    · subst q
      rw [up_s, up_s, up_s]
      exact hL
    · rw [up_n q, up_n q, up_n q]
      obtain ⟨x1, x2, x3, x4, x5, x6, x7⟩ := h1 j hj
      have l0 : gK S (la j) ≠ 0 := by rw [x1]; decide
      have lne : la j ≠ la i := fun x => q (h2 j i hj hi x)
      have e0 := elive j hj
      refine ⟨by rw [(o1 _ l0).1]; exact x1, by rw [(o6 _ _ l0 lne).1]; exact x2, by rw [(o6 _ _ l0 lne).2]; exact x3, ?_, x5, x6, fun k a hk => ?_⟩
      · rw [(o1 _ e0).1, (o1 _ e0).2]
        exact x4
      · obtain ⟨y1, y2, y3⟩ := x7 k a hk
        have hkl := (List.getElem?_eq_some_iff.mp hk).1
        have ene : ea j ≠ ea i := fun x => q (h3 j i hj hi (by omega) x)
        rw [o7 _ _ e0 ene, (o1 a (by omega)).1]
        exact ⟨y1, y2, y3⟩
  · by_cases qj : j = i
    · by_cases qk : k = i
      · rw [qj, qk]
      · subst qj
        rw [up_s, up_n qk] at hee
        rw [up_s] at hcp
        rcases he with x | x
        · rw [hec x] at hcp
          exact h3 j k hj hk hcp (x.symm.trans hee)
        · exact absurd (hee ▸ x) (elive k hk)
    · rw [up_n qj] at hcp hee
      by_cases qk : k = i
      · subst qk
        rw [up_s] at hee
        rcases he with x | x
        · exact h3 j k hj hk hcp (hee.trans x)
        · exact absurd (hee ▸ x) (elive j hj)
      · rw [up_n qk] at hee
        exact h3 j k hj hk hcp hee
/-- what the rows may still grow by -/
def potC (cp : Nat → Nat) : Nat → Nat
  | 0 => 0
  | n + 1 => potC cp n + 4 * (750 - cp n)
theorem potC_up {cp : Nat → Nat} {i c' : Nat} (h1 : cp i ≤ c') (h2 : c' ≤ 750) : ∀ n, potC (up cp i c') n + (if i < n then 4 * (c' - cp i) else 0) = potC cp n
  | 0 => by simp [potC]
  | n + 1 => by
    have ih := potC_up (cp := cp) (i := i) h1 h2 n
    show potC (up cp i c') n + 4 * (750 - up cp i c' n) + (if i < n + 1 then 4 * (c' - cp i) else 0) = potC cp n + 4 * (750 - cp n)
    by_cases q : n = i
    · subst q
      rw [up_s, if_pos (by omega)]
      rw [if_neg (by omega)] at ih
      omega
    · rw [up_n q]
      by_cases q2 : i < n
      · rw [if_pos q2] at ih
        rw [if_pos (by omega)]
        omega
      · rw [if_neg q2] at ih
        rw [if_neg (by omega)]
        omega
theorem cpB_pot {cp : Nat → Nat} {i n : Nat} (hi : i < 62) (hc : cp i = 0 ∨ 10 ≤ cp i) (hn : n ≤ 499) (h750 : cp i ≤ 750) : cpB n (cp i) + potC (up cp i (cp1 n (cp i))) 62 ≤ potC cp 62 := by
  have hcp : cp i ≤ cp1 n (cp i) ∧ cp1 n (cp i) ≤ 750 ∧ cpB n (cp i) ≤ 4 * (cp1 n (cp i) - cp i) := by
    unfold cp1 cpB nx
    by_cases q : n = cp i
    · rw [if_pos q, if_pos q]
      by_cases q0 : cp i = 0
      · rw [if_pos q0]; omega
      · rw [if_neg q0]; omega
    · rw [if_neg q, if_neg q]; omega
  have := potC_up hcp.1 hcp.2.1 62
  rw [if_pos hi] at this
  omega
section FAM
variable {S : bS} {lv : Nat → Prop} {la ea : Nat → Nat} {ls : Nat → List Nat} {cp : Nat → Nat}
theorem LSr_cap (h : LSr S lv la ea ls cp) {i : Nat} (hi : lv i) : (cp i = 0 ∨ 10 ≤ cp i) ∧ cp i ≤ 750 ∧ (ls i).length ≤ cp i := by
  obtain ⟨-, -, -, x4, x5, x6, -⟩ := h.1 i hi
  rcases x4 with x | x
  · exact ⟨Or.inl x.1, x6, x5⟩
  · exact ⟨Or.inr x.1, x6, x5⟩
theorem cp1_e {n c : Nat} (h : c = 0 ∨ 10 ≤ c) : c ≤ cp1 n c := by
  unfold cp1 nx
  split
  · split <;> omega
  · exact Nat.le_refl _
/-- a list's row is the old one only if its length stayed -/
theorem isLe_same {S S' : bS} {l l' e c c' : Nat} {xs xs' : List Nat} (h : isLe S l e xs c) (h' : isLe S' l' e xs' c') (hK : ∀ a, gK S a ≠ 0 → gK S' a = gK S a ∧ gN S' a = gN S a) : c' = c := by
  obtain ⟨-, -, -, x4, -⟩ := h
  obtain ⟨-, -, -, y4, -⟩ := h'
  have e0 : gK S e ≠ 0 := by
    rcases x4 with ⟨-, q, -⟩ | ⟨-, q, -⟩ <;> rw [q] <;> decide
  rw [(hK e e0).1, (hK e e0).2] at y4
  rcases x4 with ⟨a1, a2, a3⟩ | ⟨a1, a2, a3⟩
  · rcases y4 with ⟨b1, b2, b3⟩ | ⟨b1, b2, b3⟩
    · omega
    · rw [a2] at b2; cases b2
  · rcases y4 with ⟨b1, b2, b3⟩ | ⟨b1, b2, b3⟩
    · rw [a2] at b2; cases b2
    · omega
theorem CF_add (h : LSr S lv la ea ls cp) {i a : Nat} (hi : lv i) (ha : 2 ≤ gK S a ∧ gK S a ≤ 6) (h5 : (ls i).length ≤ 499) {MC MS : Nat} (hMC : cpB (ls i).length (cp i) ≤ MC) (hMS : cpB (ls i).length (cp i) ≤ MS) {post : Int32 → bS → Prop} (hp : ∀ S' ea', LSr S' lv la ea' (up ls i (ls i ++ [a])) (up cp i (cp1 (ls i).length (cp i))) → lF S S' → post 1 S') : wp_Jx4a65c_add_9ea2d post MC MS (la i) a S := by
  have hc := LSr_cap h hi
  refine C_add h.2.2.2 (h.1 i hi) ha h5 hMC hMS (fun S' e' i1 i2 i3 => hp S' (up ea i e') (LSr_op h hi i1 i2 (cp1_e hc.1) (fun x => ?_) i3) i3.1)
  subst x
  exact isLe_same (h.1 i hi) i1 i3.1.1.1
theorem CF_insert (h : LSr S lv la ea ls cp) {i a k : Nat} (hi : lv i) (hk : k ≤ (ls i).length) (ha : 2 ≤ gK S a ∧ gK S a ≤ 6) (h5 : (ls i).length ≤ 499) {MC MS : Nat} (hMC : cpB (ls i).length (cp i) ≤ MC) (hMS : cpB (ls i).length (cp i) ≤ MS) {post : bS → Prop} (hp : ∀ S' ea', LSr S' lv la ea' (up ls i ((ls i).take k ++ a :: (ls i).drop k)) (up cp i (cp1 (ls i).length (cp i))) → lF S S' → post S') : wp_Jx4a65c_add_7a177 post MC MS (la i) (nI k) a S := by
  have hc := LSr_cap h hi
  refine C_insert h.2.2.2 (h.1 i hi) hk ha h5 hMC hMS (fun S' e' i1 i2 i3 => hp S' (up ea i e') (LSr_op h hi i1 i2 (cp1_e hc.1) (fun x => ?_) i3) i3.1)
  subst x
  exact isLe_same (h.1 i hi) i1 i3.1.1.1
theorem CF_remove (h : LSr S lv la ea ls cp) {i a k : Nat} (hi : lv i) (hk : (ls i)[k]? = some a) {post : Option Nat → bS → Prop} (hp : ∀ S' ea', LSr S' lv la ea' (up ls i ((ls i).eraseIdx k)) cp → lF S S' → post (some a) S') : wp_Jx4a65c_remove_915e3 post (la i) (nI k) S := by
  refine C_remove (h.1 i hi) hk (fun S' i1 i3 => hp S' (up ea i (ea i)) ?_ i3.1)
  have := LSr_op h hi i1 (Or.inl rfl) (Nat.le_refl _) (fun _ => rfl) i3
  rw [up_id (f := cp)] at this
  exact this
end FAM
