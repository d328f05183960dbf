/-! ===== who can be come to from where: pure ===== -/
/-- how many of the first n have p -/
def cnt (p : Nat → Bool) : Nat → Nat
  | 0 => 0
  | n + 1 => cnt p n + if p n = true then 1 else 0
/-- the sum of the counts of the first a rows -/
def cn2 (p : Nat → Nat → Bool) (n : Nat) : Nat → Nat
  | 0 => 0
  | a + 1 => cn2 p n a + cnt (p a) n
theorem cnt_ext {p q : Nat → Bool} : ∀ n, (∀ i, i < n → p i = q i) → cnt p n = cnt q n
  | 0, _ => rfl
  | n + 1, h => by
    show cnt p n + (if p n = true then 1 else 0) = cnt q n + (if q n = true then 1 else 0)
    rw [cnt_ext n (fun i hi => h i (by omega)), h n (by omega)]
theorem cn2_ext {p q : Nat → Nat → Bool} {n : Nat} : ∀ a, (∀ i j, i < a → j < n → p i j = q i j) → cn2 p n a = cn2 q n a
  | 0, _ => rfl
  | a + 1, h => by
    show cn2 p n a + cnt (p a) n = cn2 q n a + cnt (q a) n
    rw [cn2_ext a (fun i j hi hj => h i j (by omega) hj), cnt_ext n (fun j hj => h a j (by omega) hj)]
theorem cnt_le (p : Nat → Bool) : ∀ n, cnt p n ≤ n
  | 0 => Nat.le_refl _
  | n + 1 => by
    have := cnt_le p n
    show cnt p n + (if p n = true then 1 else 0) ≤ n + 1
    split <;> omega
theorem cnt_more {p : Nat → Bool} {n : Nat} : ∀ k, (∀ i, n ≤ i → p i = false) → cnt p (n + k) = cnt p n
  | 0, _ => rfl
  | k + 1, h => by
    show cnt p (n + k) + (if p (n + k) = true then 1 else 0) = cnt p n
    rw [cnt_more k h, h (n + k) (by omega)]
    rfl
theorem cn2_add (p : Nat → Nat → Bool) (n : Nat) : ∀ a, cn2 p (n + 1) a = cn2 p n a + cnt (fun x => p x n) a
  | 0 => rfl
  | a + 1 => by
    show cn2 p (n + 1) a + (cnt (p a) n + if p a n = true then 1 else 0) = cn2 p n a + cnt (p a) n + (cnt (fun x => p x n) a + if p a n = true then 1 else 0)
    rw [cn2_add p n a]
    omega
theorem cn2_0 (p : Nat → Nat → Bool) : ∀ a, cn2 p 0 a = 0
  | 0 => rfl
  | a + 1 => by
    show cn2 p 0 a + cnt (p a) 0 = 0
    rw [cn2_0 p a]
    rfl
/-- rows against columns -/
theorem cn2_sw (p : Nat → Nat → Bool) (a : Nat) : ∀ n, cn2 p n a = cn2 (fun y x => p x y) a n
  | 0 => cn2_0 p a
  | n + 1 => by
    rw [cn2_add, cn2_sw p a n]
    rfl
theorem cnt_sub {p q : Nat → Bool} : ∀ n, (∀ i, i < n → q i = true → p i = true) → cnt (fun i => p i && !q i) n + cnt q n = cnt p n
  | 0, _ => rfl
  | n + 1, h => by
    have ih := cnt_sub (p := p) (q := q) n (fun i hi => h i (by omega))
    show cnt (fun i => p i && !q i) n + (if (p n && !q n) = true then 1 else 0) + (cnt q n + if q n = true then 1 else 0) = cnt p n + if p n = true then 1 else 0
    have := h n (by omega)
    cases hp : p n <;> cases hq : q n
    · simp
      omega
    · rw [hp, hq] at this
      exact absurd (this rfl) (by decide)
    · simp
      omega
    · simp
      omega
theorem cn2_sub {p q : Nat → Nat → Bool} {n : Nat} : ∀ a, (∀ i j, i < a → j < n → q i j = true → p i j = true) → cn2 (fun i j => p i j && !q i j) n a + cn2 q n a = cn2 p n a
  | 0, _ => rfl
  | a + 1, h => by
    have ih := cn2_sub (p := p) (q := q) (n := n) a (fun i j hi hj => h i j (by omega) hj)
    have c := cnt_sub (p := p a) (q := q a) n (fun j hj => h a j (by omega) hj)
    show cn2 (fun i j => p i j && !q i j) n a + cnt (fun j => p a j && !q a j) n + (cn2 q n a + cnt (q a) n) = cn2 p n a + cnt (p a) n
    omega
/-- each reaches itself, and where a tube leads -/
def rA (f g : Nat → Nat) (o : Nat → Bool) : Nat → Nat → Nat → Bool
  | 0 => fun i j => decide (i = j)
  | t + 1 => fun i j => rA f g o t i j || (o t && (decide (f t = i) && decide (g t = j)))
/-- through the stations before k -/
def rW (b : Nat → Nat → Bool) : Nat → Nat → Nat → Bool
  | 0 => b
  | k + 1 => fun i j => rW b k i j || (rW b k i k && rW b k k j)
theorem rW_1 {b : Nat → Nat → Bool} {i j : Nat} (h : b i j = true) : ∀ k, rW b k i j = true
  | 0 => h
  | k + 1 => by
    show (rW b k i j || (rW b k i k && rW b k k j)) = true
    rw [rW_1 h k]
    rfl
theorem rW_r {b : Nat → Nat → Bool} (hr : ∀ i, b i i = true) (k i : Nat) : rW b k i i = true := rW_1 (hr i) k
theorem rW_tr {b : Nat → Nat → Bool} : ∀ K j, j < K → ∀ i l, rW b K i j = true → rW b K j l = true → rW b K i l = true
  | 0, j, hj => absurd hj (Nat.not_lt_zero j)
  | K + 1, j, hj => by
    have T := rW_tr (b := b) K
    have e : ∀ i l, rW b (K + 1) i l = (rW b K i l || (rW b K i K && rW b K K l)) := fun _ _ => rfl
    intro i l h1 h2
    rw [e] at h1 h2 ⊢
    rw [Bool.or_eq_true, Bool.and_eq_true] at *
    by_cases hjK : j = K
    · subst hjK
      refine Or.inr ⟨?_, ?_⟩
      · rcases h1 with x | x
        · exact x
        · exact x.1
      · rcases h2 with x | x
        · exact x
        · exact x.2
    · have hjlt : j < K := by omega
      rcases h1 with x | x <;> rcases h2 with y | y
      · exact Or.inl (T j hjlt i l x y)
      · exact Or.inr ⟨T j hjlt i K x y.1, y.2⟩
      · exact Or.inr ⟨x.1, T j hjlt K l x.2 y⟩
      · exact Or.inr ⟨x.1, y.2⟩
theorem dwk_app {m : Nat} {f g : Nat → Nat} {o : Nat → Bool} {c : Nat → Nat} {j l : Nat} : ∀ (k i y k' y' : Nat), dwk m f g o c j k i y → dwk m f g o c l k' j y' → dwk m f g o c l (k + k') i (y + y')
  | 0, i, y, k', y', h, h' => by
    obtain ⟨rfl, rfl⟩ := h
    rw [Nat.zero_add, Nat.zero_add]
    exact h'
  | k + 1, i, y, k', y', h, h' => by
    obtain ⟨t, ht, ho, rfl, z, hz, rfl⟩ := h
    rw [show k + 1 + k' = (k + k') + 1 by omega]
    exact ⟨t, ht, ho, rfl, z + y', dwk_app k (g t) z k' y' hz h', by omega⟩
def dCan (m : Nat) (f g : Nat → Nat) (o : Nat → Bool) (c : Nat → Nat) (i j : Nat) : Prop := ∃ k y, dwk m f g o c j k i y
theorem rA_can {m : Nat} {f g : Nat → Nat} {o : Nat → Bool} {c : Nat → Nat} : ∀ t, t ≤ m → ∀ i j, rA f g o t i j = true → dCan m f g o c i j
  | 0, _, i, j, h => ⟨0, 0, of_decide_eq_true h, rfl⟩
  | t + 1, ht, i, j, h => by
    have h : (rA f g o t i j || (o t && (decide (f t = i) && decide (g t = j)))) = true := h
    rw [Bool.or_eq_true, Bool.and_eq_true, Bool.and_eq_true] at h
    rcases h with h | ⟨h1, h2, h3⟩
    · exact rA_can t (by omega) i j h
    · exact ⟨1, c t + 0, t, by omega, h1, of_decide_eq_true h2, 0, ⟨of_decide_eq_true h3, rfl⟩, rfl⟩
theorem rA_in {f g : Nat → Nat} {o : Nat → Bool} : ∀ m t, t < m → o t = true → rA f g o m (f t) (g t) = true
  | 0, t, h, _ => absurd h (Nat.not_lt_zero t)
  | m + 1, t, h, ho => by
    show (rA f g o m (f t) (g t) || (o m && (decide (f m = f t) && decide (g m = g t)))) = true
    by_cases q : t = m
    · subst q
      rw [ho]
      simp
    · rw [rA_in m t (by omega) ho]
      rfl
theorem rA_self {f g : Nat → Nat} {o : Nat → Bool} : ∀ m i, rA f g o m i i = true
  | 0, i => by
    show decide (i = i) = true
    simp
  | m + 1, i => by
    show (rA f g o m i i || (o m && (decide (f m = i) && decide (g m = i)))) = true
    rw [rA_self m i]
    rfl
theorem rW_can {m : Nat} {f g : Nat → Nat} {o : Nat → Bool} {c : Nat → Nat} {b : Nat → Nat → Bool} (hb : ∀ i j, b i j = true → dCan m f g o c i j) : ∀ k i j, rW b k i j = true → dCan m f g o c i j
  | 0, i, j, h => hb i j h
  | k + 1, i, j, h => by
    have h : (rW b k i j || (rW b k i k && rW b k k j)) = true := h
    rw [Bool.or_eq_true, Bool.and_eq_true] at h
    rcases h with h | ⟨h1, h2⟩
    · exact rW_can hb k i j h
    · obtain ⟨k1, y1, w1⟩ := rW_can hb k i k h1
      obtain ⟨k2, y2, w2⟩ := rW_can hb k k j h2
      exact ⟨k1 + k2, y1 + y2, dwk_app k1 i y1 k2 y2 w1 w2⟩
theorem can_rW {m n : Nat} {f g : Nat → Nat} {o : Nat → Bool} {c : Nat → Nat} (hg : ∀ t, t < m → g t < n) {j : Nat} : ∀ k i y, dwk m f g o c j k i y → rW (rA f g o m) n i j = true
  | 0, i, y, h => by
    obtain ⟨rfl, -⟩ := h
    exact rW_r (rA_self m) n i
  | k + 1, i, y, h => by
    obtain ⟨t, ht, ho, rfl, z, hz, -⟩ := h
    exact rW_tr n (g t) (hg t ht) (f t) j (rW_1 (rA_in m t ht ho) n) (can_rW hg k (g t) z hz)
/-- the bits beyond the stations stay 0 -/
theorem rA_off {n : Nat} {f g : Nat → Nat} {o : Nat → Bool} : ∀ m, (∀ t, t < m → g t < n) → ∀ i j, i < n → n ≤ j → rA f g o m i j = false
  | 0, _, i, j, hi, hj => decide_eq_false (by omega)
  | m + 1, hg, i, j, hi, hj => by
    show (rA f g o m i j || (o m && (decide (f m = i) && decide (g m = j)))) = false
    have := hg m (by omega)
    rw [rA_off m (fun t ht => hg t (by omega)) i j hi hj, decide_eq_false (p := g m = j) (by omega)]
    simp
theorem rW_off {n : Nat} {b : Nat → Nat → Bool} (hb : ∀ i j, i < n → n ≤ j → b i j = false) : ∀ k, k ≤ n → ∀ i j, i < n → n ≤ j → rW b k i j = false
  | 0, _, i, j, hi, hj => hb i j hi hj
  | k + 1, hk, i, j, hi, hj => by
    show (rW b k i j || (rW b k i k && rW b k k j)) = false
    rw [rW_off hb k (by omega) i j hi hj, rW_off hb k (by omega) k j (by omega) hj]
    simp
section REACH
variable {M : Nat → Nat → Int32}
theorem dD_can (hN : iN M) (hT : iT M) {aim v : Nat} : (dD M aim v).isSome = true ↔ dCan (nT M) (tFr M) (tTo M) (tOp M) (cst M aim) v aim := by
  refine ⟨fun h => ?_, fun h => ?_⟩
  · obtain ⟨x, hx⟩ := Option.isSome_iff_exists.mp h
    obtain ⟨k, hk⟩ := dIt_sound 14 v x hx
    exact ⟨k, x, hk⟩
  · obtain ⟨k, y, hk⟩ := h
    obtain ⟨x, hx, -⟩ := d_low (D := dD M aim) (dIt_zero 14) (dR_stable hN hT hN.1.2) k v y hk
    rw [hx]
    rfl
theorem dwk_c {m : Nat} {f g : Nat → Nat} {o : Nat → Bool} {c c' : Nat → Nat} {aim : Nat} : ∀ k v y, dwk m f g o c aim k v y → ∃ y', dwk m f g o c' aim k v y'
  | 0, v, y, h => ⟨0, h.1, rfl⟩
  | k + 1, v, y, h => by
    obtain ⟨t, ht, ho, hf, z, hz, -⟩ := h
    obtain ⟨z', hz'⟩ := dwk_c (c' := c') k (g t) z hz
    exact ⟨c' t + z', t, ht, ho, hf, z', hz', rfl⟩
/-- the matrix says who can be come to -/
theorem rW_dD (hN : iN M) (hT : iT M) {i j : Nat} (hi : i < nS M) (hj : j < nS M) : rW (rA (tFr M) (tTo M) (tOp M) (nT M)) (nS M) i j = (dD M j i).isSome := by
  have h : rW (rA (tFr M) (tTo M) (tOp M) (nT M)) (nS M) i j = true ↔ (dD M j i).isSome = true := by
    rw [dD_can hN hT]
    refine ⟨fun h => rW_can (fun i' j' h' => rA_can (nT M) (Nat.le_refl _) i' j' h') (nS M) i j h, fun h => ?_⟩
    obtain ⟨k, y, hk⟩ := h
    exact can_rW (fun t ht => (hT t ht).2.1.2) k i y hk
  cases h1 : rW (rA (tFr M) (tTo M) (tOp M) (nT M)) (nS M) i j with
  | true => exact (h.mp h1).symm
  | false =>
    cases h2 : (dD M j i).isSome with
    | false => rfl
    | true =>
      rw [h.mpr h2] at h1
      cases h1
theorem prI_cnt (aim : Nat) : ∀ k, prI M aim k = cnt (fun s => decide (s ≠ aim) && (dD M aim s).isSome) k
  | 0 => rfl
  | k + 1 => by
    show prI M aim k + (if k ≠ aim ∧ (dD M aim k).isSome then 1 else 0) = cnt _ k + if (decide (k ≠ aim) && (dD M aim k).isSome) = true then 1 else 0
    rw [prI_cnt aim k]
    congr 1
    by_cases h : k ≠ aim ∧ (dD M aim k).isSome
    · rw [if_pos h, if_pos (by rw [Bool.and_eq_true]; exact ⟨decide_eq_true h.1, h.2⟩)]
    · rw [if_neg h, if_neg (fun q => h (by rw [Bool.and_eq_true] at q; exact ⟨of_decide_eq_true q.1, q.2⟩))]
theorem prO_cn2 : ∀ a, prO M a = cn2 (fun aim s => decide (s ≠ aim) && (dD M aim s).isSome) (nS M) a
  | 0 => rfl
  | a + 1 => by
    show prO M a + prI M a (nS M) = _
    rw [prO_cn2 a, prI_cnt]
    rfl
/-- who can be come to no more when a tube t is shut -/
theorem parted_eq (hN : iN M) (hT : iT M) {t : Nat} {M' : Nat → Nat → Int32} (hM' : M' = mU M 2 (8 * t + 5) 0) (hN' : iN M') (hT' : iT M') (n2 : nS M' = nS M) (hsub : ∀ i j, i < nS M → j < nS M → (dD M' j i).isSome = true → (dD M j i).isSome = true) : cn2 (fun i j => (dD M j i).isSome && !(dD M' j i).isSome) (nS M) (nS M) + prO M' (nS M) = prO M (nS M) := by
  rw [prO_cn2, prO_cn2, n2, cn2_sw (fun i j => (dD M j i).isSome && !(dD M' j i).isSome)]
  have hself : ∀ K : Nat → Nat → Int32, ∀ i, (dD K i i).isSome = true := fun K i => by
    rw [show dD K i i = some 0 from dIt_zero 14]
    rfl
  rw [← cn2_sub (p := fun aim s => decide (s ≠ aim) && (dD M aim s).isSome) (q := fun aim s => decide (s ≠ aim) && (dD M' aim s).isSome) (nS M) (fun i j hi hj hq => by
    rw [Bool.and_eq_true] at hq ⊢
    exact ⟨hq.1, hsub j i hj hi hq.2⟩)]
  congr 1
  refine cn2_ext (nS M) (fun i j hi hj => ?_)
  by_cases q : j = i
  · subst q
    rw [hself M j, hself M' j]
    simp
  · rw [decide_eq_true (p := j ≠ i) q]
    simp
end REACH
