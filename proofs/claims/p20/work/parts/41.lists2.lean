/-- what an operation of one list l with the row e leaves as it was -/
def oF (l e : Nat) (S S' : bS) : Prop := lF S S' ∧ (∀ a j, gK S a ≠ 0 → a ≠ l → gV S' 1 a j = gV S 1 a j ∧ gQ S' 1 a j = gQ S 1 a j) ∧ ∀ b j, gK S b ≠ 0 → b ≠ e → gQ S' 11 b j = gQ S 11 b j
theorem oF_rf (l e : Nat) (S : bS) : oF l e S S := ⟨lF_rf S, fun _ _ _ _ => ⟨rfl, rfl⟩, fun _ _ _ _ => rfl⟩
theorem oF_V {l e j : Nat} {v : Int32} {S S' : bS} (h : oF l e S S') : oF l e S (sV S' 1 l j v) := by
  obtain ⟨⟨a1, a2, a3, a4⟩, h2, h3⟩ := h
  refine ⟨⟨a1, fun κ a j' hk ha => ?_, a3, a4⟩, fun a j' ha hl => ?_, h3⟩
  · rw [gV_sV, if_neg (fun x => hk x.1)]
    exact a2 κ a j' hk ha
  · rw [gV_sV, if_neg (fun x => hl x.2.1), gQ_sV]
    exact h2 a j' ha hl
theorem oF_Q {l e j : Nat} {v : Option Nat} {S S' : bS} (h : oF l e S S') : oF l e S (sQ S' 11 e j v) := by
  obtain ⟨⟨a1, a2, a3, a4⟩, h2, h3⟩ := h
  refine ⟨⟨a1, a2, fun κ a j' hk hk2 ha => ?_, a4⟩, fun a j' ha hl => ?_, fun b j' hb he => ?_⟩
  · rw [gQ_sQ, if_neg (fun x => hk2 x.1)]
    exact a3 κ a j' hk hk2 ha
  · rw [gV_sQ, gQ_sQ, if_neg (fun x => by cases x.1)]
    exact h2 a j' ha hl
  · rw [gQ_sQ, if_neg (fun x => he x.2.1)]
    exact h3 b j' hb he
theorem oF_G {l e : Nat} {F : Nat → Option Nat} {S S' : bS} (h : oF l e S S') : oF l e S (sG S' 11 e F) := by
  obtain ⟨⟨a1, a2, a3, a4⟩, h2, h3⟩ := h
  refine ⟨⟨a1, a2, fun κ a j' hk hk2 ha => ?_, a4⟩, fun a j' ha hl => ?_, fun b j' hb he => ?_⟩
  · rw [gQ_sG, if_neg (fun x => hk2 x.1)]
    exact a3 κ a j' hk hk2 ha
  · rw [gV_sG, gQ_sG, if_neg (fun x => by cases x.1)]
    exact h2 a j' ha hl
  · rw [gQ_sG, if_neg (fun x => he x.2)]
    exact h3 b j' hb he
/-- the row may be another one, if it is new -/
theorem oF_e {l e e' : Nat} {S S' : bS} (h : oF l e' S S') (he : e' = e ∨ gK S e' = 0) : oF l e S S' := by
  obtain ⟨h1, h2, h3⟩ := h
  refine ⟨h1, h2, fun b j hb hbe => h3 b j hb (fun x => ?_)⟩
  rcases he with q | q
  · exact hbe (x.trans q)
  · exact hb (x ▸ q)
theorem isLe_V0 {S : bS} {l e c : Nat} {xs : List Nat} {v : Int32} (h : isLe S l e xs c) : isLe (sV S 1 l 0 v) l e xs c := by
  obtain ⟨h1, h2, h3, h4, h5, h6, h7⟩ := h
  refine ⟨h1, ?_, h3, h4, h5, h6, h7⟩
  rw [gV_sV, if_neg (fun x => by cases x.2.2)]
  exact h2
/-- an element laid at the end -/
theorem isLe_snoc {S : bS} {l e c a : Nat} {xs : List Nat} (h : isLe S l e xs c) (hc : xs.length < c) (ha : 2 ≤ gK S a ∧ gK S a ≤ 6) : isLe (sV (sQ S 11 e xs.length (some a)) 1 l 2 (nI (xs.length + 1))) l e (xs ++ [a]) c := by
  obtain ⟨h1, h2, h3, h4, h5, h6, h7⟩ := h
  refine ⟨h1, ?_, ?_, h4, ?_, h6, fun k b hk => ?_⟩
  · rw [gV_sV, if_pos ⟨rfl, rfl, rfl⟩, List.length_append, List.length_singleton]
  · rw [gQ_sV, gQ_sQ, if_neg (fun x => by cases x.1)]
    exact h3
  · rw [List.length_append, List.length_singleton]
    omega
  · show gQ (sQ S 11 e xs.length (some a)) 11 e k = some b ∧ 2 ≤ gK S b ∧ gK S b ≤ 6
    by_cases q : k < xs.length
    · rw [List.getElem?_append_left q] at hk
      rw [gQ_sQ, if_neg (fun x => by omega)]
      exact h7 k b hk
    · rw [List.getElem?_append_right (by omega)] at hk
      have hk0 : k = xs.length := by
        have := (List.getElem?_eq_some_iff.mp hk).1
        rw [List.length_singleton] at this
        omega
      subst hk0
      rw [Nat.sub_self] at hk
      cases hk
      rw [gQ_sQ, if_pos ⟨rfl, rfl, rfl⟩]
      exact ⟨rfl, ha⟩
/-- an element laid at a place -/
theorem isLe_ins {S : bS} {l e c a k : Nat} {xs : List Nat} (h : isLe S l e xs c) (hc : xs.length < c) (hk : k ≤ xs.length) (ha : 2 ≤ gK S a ∧ gK S a ≤ 6) : isLe (sV (sQ (sG S 11 e (va_cpy (gQ S 11 e) (gQ S 11 e) k (k + 1) (xs.length - k))) 11 e k (some a)) 1 l 2 (nI (xs.length + 1))) l e (xs.take k ++ a :: xs.drop k) c := by
  obtain ⟨h1, h2, h3, h4, h5, h6, h7⟩ := h
  have hlen : (xs.take k ++ a :: xs.drop k).length = xs.length + 1 := by
    rw [List.length_append, List.length_cons, List.length_take, List.length_drop]
    omega
  refine ⟨h1, ?_, ?_, h4, by omega, h6, fun i b hi => ?_⟩
  · rw [gV_sV, if_pos ⟨rfl, rfl, rfl⟩, hlen]
  · rw [gQ_sV, gQ_sQ, if_neg (fun x => by cases x.1), gQ_sG, if_neg (fun x => by cases x.1)]
    exact h3
  · show gQ (sQ (sG S 11 e (va_cpy (gQ S 11 e) (gQ S 11 e) k (k + 1) (xs.length - k))) 11 e k (some a)) 11 e i = some b ∧ 2 ≤ gK S b ∧ gK S b ≤ 6
    have htl : (xs.take k).length = k := by rw [List.length_take]; omega
    rcases Nat.lt_trichotomy i k with q | q | q
    · rw [List.getElem?_append_left (by omega), List.getElem?_take, if_pos q] at hi
      rw [gQ_sQ, if_neg (fun x => by omega), gQ_sG, if_pos ⟨rfl, rfl⟩, pk_cpy_out (Or.inl (by omega))]
      exact h7 i b hi
    · subst q
      rw [List.getElem?_append_right (by omega), htl, Nat.sub_self] at hi
      cases hi
      rw [gQ_sQ, if_pos ⟨rfl, rfl, rfl⟩]
      exact ⟨rfl, ha⟩
    · rw [List.getElem?_append_right (by omega), htl] at hi
      obtain ⟨d, hd⟩ : ∃ d, i - k = d + 1 := ⟨i - k - 1, by omega⟩
      rw [hd, List.getElem?_cons_succ, List.getElem?_drop] at hi
      have hil := (List.getElem?_eq_some_iff.mp hi).1
      rw [gQ_sQ, if_neg (fun x => by omega), gQ_sG, if_pos ⟨rfl, rfl⟩, pk_cpy_in (by omega) (by omega), show k + (i - (k + 1)) = k + d by omega]
      exact h7 _ b hi
section LISTS2
variable {S : bS} {l e c : Nat} {xs : List Nat}
/-- the row's length after one more -/
def cp1 (n c : Nat) : Nat := if n = c then nx c else c
/-- the budget of one more -/
def cpB (n c : Nat) : Nat := if n = c then nx c else 0
theorem grown {S S' : bS} {l e c q : Nat} {xs : List Nat} (h : isLe S l e xs c) (hf : xs.length = c) (h5 : xs.length ≤ 499) (g1 : gK S q = 0) (g2 : gK S' q = 11) (g3 : gN S' q = nx c) (g4 : ∀ k a, xs[k]? = some a → gQ S' 11 q k = some a) (g5 : gQ S' 1 l 1 = some q) (g6 : ∀ a, gK S a ≠ 0 → gK S' a = gK S a ∧ gN S' a = gN S a) (g6b : ∀ a, gK S' a = 14 → gK S a = 14) (g7 : ∀ κ a j, gK S a ≠ 0 → gV S' κ a j = gV S κ a j) (g8 : ∀ κ a j, gK S a ≠ 0 → ¬ (κ = 1 ∧ a = l ∧ j = 1) → gQ S' κ a j = gQ S κ a j) (g9 : ∀ a j, gK S a ≠ 0 → gL S' a j = gL S a j) : isLe S' l q xs (nx c) ∧ oF l e S S' ∧ xs.length < nx c := by
  obtain ⟨h1, h2, h3, h4, h5', h6, h7⟩ := h
  have hc : c = 0 ∨ 10 ≤ c := by
    rcases h4 with x | x
    · exact Or.inl x.1
    · exact Or.inr x.1
  have hnx : 10 ≤ nx c ∧ c < nx c ∧ nx c ≤ 750 := by
    unfold nx
    by_cases q : c = 0
    · rw [if_pos q]; omega
    · rw [if_neg q]; omega
  have hl0 : gK S l ≠ 0 := by rw [h1]; decide
  refine ⟨⟨?_, ?_, g5, Or.inr ⟨hnx.1, g2, g3⟩, by omega, hnx.2.2, fun k a hk => ?_⟩, ⟨⟨⟨g6, g6b⟩, fun κ a j _ ha => g7 κ a j ha, fun κ a j hk _ ha => g8 κ a j ha (fun x => hk x.1), g9⟩, fun a j ha hl => ⟨g7 1 a j ha, g8 1 a j ha (fun x => hl x.2.1)⟩, fun b j hb _ => g8 11 b j hb (fun x => by cases x.1)⟩, by omega⟩
  · rw [(g6 l hl0).1, h1]
  · rw [g7 1 l 2 hl0, h2]
  · obtain ⟨y1, y2, y3⟩ := h7 k a hk
    refine ⟨g4 k a hk, ?_⟩
    rw [(g6 a (by omega)).1]
    exact ⟨y2, y3⟩
theorem C_add (hz : ∀ a b, gK S a = 14 → gK S b = 14 → a = b) (h : isLe S l e xs c) {a : Nat} (ha : 2 ≤ gK S a ∧ gK S a ≤ 6) (h5 : xs.length ≤ 499) {MC MS : Nat} (hMC : cpB xs.length c ≤ MC) (hMS : cpB xs.length c ≤ MS) {post : Int32 → bS → Prop} (hp : ∀ S' e', isLe S' l e' (xs ++ [a]) (cp1 xs.length c) → (e' = e ∨ gK S e' = 0) → oF l e S S' → post 1 S') : wp_Jx4a65c_add_9ea2d post MC MS l a S := by
  have h0 := h
  obtain ⟨h1, h2, h3, h4, h5', h6, h7⟩ := h
  have hA : isLe (sV S 1 l 0 (gV S 1 l 0 + 1)) l e xs c := isLe_V0 h0
  have hz' : ∀ a b, gK (sV S 1 l 0 (gV S 1 l 0 + 1)) a = 14 → gK (sV S 1 l 0 (gV S 1 l 0 + 1)) b = 14 → a = b := hz
  have oA : oF l e S (sV S 1 l 0 (gV S 1 l 0 + 1)) := oF_V (oF_rf l e S)
  refine ⟨h1, e, h3, MC, MS, Nat.le_refl _, Nat.le_refl _, ?_⟩
  obtain ⟨X, hX⟩ : ∃ X, X = sV S 1 l 0 (gV S 1 l 0 + 1) := ⟨_, rfl⟩
  rw [← hX] at hA hz' oA ⊢
  have kX : ∀ b, gK X b = gK S b := fun b => by rw [hX]; rfl
  obtain ⟨x1, x2, x3, x4, x5, x6, x7⟩ := hA
  rw [x2]
  refine ⟨?_, fun hne => ?_, fun he => ?_⟩
  · rcases x4 with ⟨-, q, -⟩ | ⟨-, q, -⟩
    · exact Or.inr q
    · exact Or.inl q
  · have eN : Int32.ofNat (gN X e) = nI c := by
      rcases x4 with ⟨q0, -, q⟩ | ⟨-, -, q⟩
      · rw [q, q0]; rfl
      · rw [q]; rfl
    rw [eN] at hne
    have hlt : xs.length < c := by
      rcases Nat.lt_or_ge xs.length c with q | q
      · exact q
      · exact absurd (by rw [show xs.length = c by omega]) hne
    have x4' : 10 ≤ c ∧ gK X e = 11 ∧ gN X e = c := by
      rcases x4 with ⟨q, -⟩ | q
      · omega
      · exact q
    refine ⟨x4'.2.1, ?_, by rw [kX]; exact ha, x1, ?_⟩
    · rw [x4'.2.2]
      exact vp_in_nI hlt (by omega)
    · rw [nI_clamp (by omega), nI_1]
      refine hp _ e ?_ (Or.inl rfl) (oF_V (oF_Q oA))
      rw [show cp1 xs.length c = c by unfold cp1; rw [if_neg (by omega)]]
      exact isLe_snoc ⟨x1, x2, x3, x4, x5, x6, x7⟩ hlt (by rw [kX]; exact ha)
  · have eN : Int32.ofNat (gN X e) = nI c := by
      rcases x4 with ⟨q0, -, q⟩ | ⟨-, -, q⟩
      · rw [q, q0]; rfl
      · rw [q]; rfl
    rw [eN] at he
    have hf : xs.length = c := (nI_eq (by omega) (by omega)).mp he
    have hB : cpB xs.length c = nx c := by unfold cpB; rw [if_pos hf]
    rw [hB] at hMC hMS
    have hnx : 1 ≤ nx c := by
      unfold nx
      split <;> omega
    refine ⟨x1, MC, MS, Nat.le_refl _, Nat.le_refl _, C_grow hz' ⟨x1, x2, x3, x4, x5, x6, x7⟩ hf h5 (by omega) hMS (fun S' q g1 g2 g3 g4 g5 g6 g6b g7 g8 g9 => ⟨q, rfl, ?_⟩)⟩
    obtain ⟨y1, y2, y3⟩ := grown ⟨x1, x2, x3, x4, x5, x6, x7⟩ hf h5 g1 g2 g3 g4 g5 g6 g6b g7 g8 g9
    have ka : 2 ≤ gK S' a ∧ gK S' a ≤ 6 := by
      rw [(g6 a (by rw [kX]; omega)).1, kX]
      exact ha
    refine ⟨g2, ?_, ka, y1.1, ?_⟩
    · rw [g3]
      exact vp_in_nI y3 (by have := y1.2.2.2.2.2.1; omega)
    · rw [nI_clamp (by omega), nI_1]
      refine hp _ q ?_ (Or.inr (by rw [← kX]; exact g1)) ?_
      · rw [show cp1 xs.length c = nx c by unfold cp1; rw [if_pos hf]]
        exact isLe_snoc y1 y3 ka
      · have o1 : oF l q X S' := by
          obtain ⟨a1, a2, a3⟩ := y2
          exact ⟨a1, a2, fun b j hb hbq => g8 11 b j hb (fun x => by cases x.1)⟩
        have o2 : oF l q X (sV (sQ S' 11 q xs.length (some a)) 1 l 2 (nI (xs.length + 1))) := oF_V (oF_Q o1)
        have o3 := oF_e (e := e) o2 (Or.inr g1)
        obtain ⟨b1, b2, b3⟩ := o3
        obtain ⟨d1, d2, d3⟩ := oA
        refine ⟨lF_tr d1 b1, fun a' j ha' hl' => ?_, fun b j hb hbe => ?_⟩
        · obtain ⟨r1, r2⟩ := b2 a' j (by rw [kX]; exact ha') hl'
          obtain ⟨r3, r4⟩ := d2 a' j ha' hl'
          exact ⟨r1.trans r3, r2.trans r4⟩
        · exact (b3 b j (by rw [kX]; exact hb) hbe).trans (d3 b j hb hbe)
end LISTS2
