/-! ===== least times: pure ===== -/
/-- a walk of k tubes from v to the aim, of weight x -/
def dwk (m : Nat) (f g : Nat → Nat) (o : Nat → Bool) (c : Nat → Nat) (aim : Nat) : Nat → Nat → Nat → Prop
  | 0, v, x => v = aim ∧ x = 0
  | k + 1, v, x => ∃ t, t < m ∧ o t = true ∧ f t = v ∧ ∃ y, dwk m f g o c aim k (g t) y ∧ x = c t + y
/-- no tube makes it shorter -/
def dSt (m : Nat) (f g : Nat → Nat) (o : Nat → Bool) (c : Nat → Nat) (D : Nat → Option Nat) : Prop := ∀ t, t < m → o t = true → ∀ y, D (g t) = some y → ∃ x, D (f t) = some x ∧ x ≤ c t + y
def dSo (m : Nat) (f g : Nat → Nat) (o : Nat → Bool) (c : Nat → Nat) (aim : Nat) (D : Nat → Option Nat) : Prop := ∀ v x, D v = some x → ∃ k, dwk m f g o c aim k v x
/-- one tube looked at -/
def rlx (f g : Nat → Nat) (o : Nat → Bool) (c : Nat → Nat) (D : Nat → Option Nat) (t : Nat) : Nat → Option Nat :=
  if o t = true then match D (g t) with
    | none => D
    | some y => match D (f t) with
      | none => fun v => if v = f t then some (c t + y) else D v
      | some x => if c t + y < x then fun v => if v = f t then some (c t + y) else D v else D
  else D
/-- the first k tubes, one after the other -/
def rps (f g : Nat → Nat) (o : Nat → Bool) (c : Nat → Nat) (D : Nat → Option Nat) : Nat → Nat → Option Nat
  | 0 => D
  | k + 1 => rlx f g o c (rps f g o c D k) k
/-- k rounds -/
def dIt (m : Nat) (f g : Nat → Nat) (o : Nat → Bool) (c : Nat → Nat) (aim : Nat) : Nat → Nat → Option Nat
  | 0 => fun v => if v = aim then some 0 else none
  | k + 1 => rps f g o c (dIt m f g o c aim k) m
section DIST
variable {m : Nat} {f g : Nat → Nat} {o : Nat → Bool} {c : Nat → Nat} {aim : Nat}
theorem d_low {D : Nat → Option Nat} (h0 : D aim = some 0) (hs : dSt m f g o c D) : ∀ (k v y : Nat), dwk m f g o c aim k v y → ∃ x, D v = some x ∧ x ≤ y
  | 0, v, y, h => by
    obtain ⟨rfl, rfl⟩ := h
    exact ⟨0, h0, Nat.le_refl _⟩
  | k + 1, v, y, h => by
    obtain ⟨t, ht, ho, rfl, y', hw, rfl⟩ := h
    obtain ⟨x, hx, hle⟩ := d_low h0 hs k (g t) y' hw
    obtain ⟨x', hx', hle'⟩ := hs t ht ho x hx
    exact ⟨x', hx', by omega⟩
theorem d_eq {D E : Nat → Option Nat} (hD0 : D aim = some 0) (hDs : dSt m f g o c D) (hDo : dSo m f g o c aim D) (hE0 : E aim = some 0) (hEs : dSt m f g o c E) (hEo : dSo m f g o c aim E) : D = E := by
  funext v
  cases hD : D v with
  | none =>
    cases hE : E v with
    | none => rfl
    | some x =>
      obtain ⟨k, hk⟩ := hEo v x hE
      obtain ⟨x', hx', -⟩ := d_low hD0 hDs k v x hk
      rw [hD] at hx'
      cases hx'
  | some x =>
    obtain ⟨k, hk⟩ := hDo v x hD
    obtain ⟨y, hy, hle⟩ := d_low hE0 hEs k v x hk
    obtain ⟨k2, hk2⟩ := hEo v y hy
    obtain ⟨z, hz, hle2⟩ := d_low hD0 hDs k2 v y hk2
    rw [hD] at hz
    cases hz
    rw [hy]
    congr 1
    omega
/-- what a relaxation does: nothing, or it lays c t + y at f t, less than what was there -/
theorem rlx_cases (D : Nat → Option Nat) (t : Nat) : (rlx f g o c D t = D ∧ (o t = true → ∀ y, D (g t) = some y → ∃ x, D (f t) = some x ∧ x ≤ c t + y)) ∨ ∃ y, o t = true ∧ D (g t) = some y ∧ (∀ x, D (f t) = some x → c t + y < x) ∧ rlx f g o c D t = fun v => if v = f t then some (c t + y) else D v := by
  unfold rlx
  by_cases ho : o t = true
  · rw [if_pos ho]
    cases hg : D (g t) with
    | none => exact Or.inl ⟨rfl, fun _ y hy => by cases hy⟩
    | some y =>
      cases hf : D (f t) with
      | none => exact Or.inr ⟨y, ho, rfl, fun x hx => (by cases hx), rfl⟩
      | some x =>
        by_cases hlt : c t + y < x
        · exact Or.inr ⟨y, ho, rfl, fun x' hx' => (by cases hx'; exact hlt), if_pos hlt⟩
        · refine Or.inl ⟨if_neg hlt, fun _ y' hy' => ⟨x, rfl, ?_⟩⟩
          cases hy'
          omega
  · rw [if_neg ho]
    exact Or.inl ⟨rfl, fun h => absurd h ho⟩
theorem rlx_mono (D : Nat → Option Nat) (t : Nat) {v x : Nat} (h : D v = some x) : ∃ x', rlx f g o c D t v = some x' ∧ x' ≤ x := by
  rcases rlx_cases (f := f) (g := g) (o := o) (c := c) D t with ⟨e, -⟩ | ⟨y, -, -, hlt, e⟩
  · exact ⟨x, by rw [e]; exact h, Nat.le_refl _⟩
  · rw [e]
    by_cases hv : v = f t
    · subst hv
      exact ⟨c t + y, if_pos rfl, Nat.le_of_lt (hlt x h)⟩
    · exact ⟨x, by simp only [if_neg hv]; exact h, Nat.le_refl _⟩
theorem rps_mono (D : Nat → Option Nat) : ∀ (k : Nat) {v x : Nat}, D v = some x → ∃ x', rps f g o c D k v = some x' ∧ x' ≤ x
  | 0, v, x, h => ⟨x, h, Nat.le_refl _⟩
  | k + 1, v, x, h => by
    obtain ⟨x1, h1, l1⟩ := rps_mono D k h
    obtain ⟨x2, h2, l2⟩ := rlx_mono (f := f) (g := g) (o := o) (c := c) (rps f g o c D k) k h1
    exact ⟨x2, h2, Nat.le_trans l2 l1⟩
theorem rlx_sound {D : Nat → Option Nat} {t : Nat} (ht : t < m) (h : dSo m f g o c aim D) : dSo m f g o c aim (rlx f g o c D t) := by
  rcases rlx_cases (f := f) (g := g) (o := o) (c := c) D t with ⟨e, -⟩ | ⟨y, ho, hg, -, e⟩
  · rw [e]; exact h
  · rw [e]
    intro v x hx
    by_cases hv : v = f t
    · subst hv
      simp only [if_true] at hx
      cases hx
      obtain ⟨k, hk⟩ := h (g t) y hg
      exact ⟨k + 1, t, ht, ho, rfl, y, hk, rfl⟩
    · simp only [if_neg hv] at hx
      exact h v x hx
theorem rps_sound {D : Nat → Option Nat} (h : dSo m f g o c aim D) : ∀ k, k ≤ m → dSo m f g o c aim (rps f g o c D k)
  | 0, _ => h
  | k + 1, hk => rlx_sound (by omega) (rps_sound h k (by omega))
theorem rlx_zero {D : Nat → Option Nat} {t : Nat} (h : D aim = some 0) : rlx f g o c D t aim = some 0 := by
  obtain ⟨x, hx, hle⟩ := rlx_mono (f := f) (g := g) (o := o) (c := c) D t h
  rw [hx]
  congr 1
  omega
theorem rps_zero {D : Nat → Option Nat} (h : D aim = some 0) : ∀ k, rps f g o c D k aim = some 0
  | 0 => h
  | k + 1 => rlx_zero (rps_zero h k)
theorem dIt_zero : ∀ k, dIt m f g o c aim k aim = some 0
  | 0 => if_pos rfl
  | k + 1 => rps_zero (dIt_zero k) m
theorem dIt_sound : ∀ k, dSo m f g o c aim (dIt m f g o c aim k)
  | 0 => fun v x h => by
    by_cases hv : v = aim
    · subst hv
      have h' : some 0 = some x := (if_pos rfl).symm.trans h
      cases h'
      exact ⟨0, rfl, rfl⟩
    · have h' : none = some x := (if_neg hv).symm.trans h
      cases h'
  | k + 1 => rps_sound (dIt_sound k) m (Nat.le_refl _)
/-- the values stay small -/
theorem rlx_bound {D : Nat → Option Nat} {t B C : Nat} (hc : c t ≤ C) (h : ∀ v x, D v = some x → x ≤ B) : ∀ v x, rlx f g o c D t v = some x → x ≤ B + C := by
  intro v x hx
  rcases rlx_cases (f := f) (g := g) (o := o) (c := c) D t with ⟨e, -⟩ | ⟨y, ho, hg, -, e⟩
  · rw [e] at hx
    exact Nat.le_trans (h v x hx) (by omega)
  · rw [e] at hx
    have hy := h _ _ hg
    by_cases hv : v = f t
    · simp only [if_pos hv] at hx
      cases hx
      omega
    · simp only [if_neg hv] at hx
      have := h v x hx
      omega
theorem rps_bound {D : Nat → Option Nat} {B C : Nat} (h : ∀ v x, D v = some x → x ≤ B) : ∀ k, (∀ t, t < k → c t ≤ C) → ∀ v x, rps f g o c D k v = some x → x ≤ B + k * C
  | 0, _, v, x, hx => by simpa using h v x hx
  | k + 1, hc, v, x, hx => by
    have := rlx_bound (f := f) (g := g) (o := o) (hc k (by omega)) (rps_bound h k (fun t ht => hc t (by omega))) v x hx
    rw [Nat.succ_mul]
    omega
theorem dIt_bound {C : Nat} (hc : ∀ t, t < m → c t ≤ C) : ∀ k v x, dIt m f g o c aim k v = some x → x ≤ k * (m * C)
  | 0, v, x, hx => by
    by_cases hv : v = aim
    · have h' : some 0 = some x := (if_pos hv).symm.trans hx
      cases h'
      exact Nat.zero_le _
    · have h' : none = some x := (if_neg hv).symm.trans hx
      cases h'
  | k + 1, v, x, hx => by
    have := rps_bound (f := f) (g := g) (o := o) (dIt_bound hc k) m hc v x hx
    rw [Nat.succ_mul]
    omega
/-- a round that changes nothing: nothing is to be made shorter -/
theorem rps_same {D : Nat → Option Nat} (hs : dSt m f g o c D) : ∀ k, k ≤ m → rps f g o c D k = D
  | 0, _ => rfl
  | k + 1, hk => by
    show rlx f g o c (rps f g o c D k) k = D
    rw [rps_same hs k (by omega)]
    rcases rlx_cases (f := f) (g := g) (o := o) (c := c) D k with ⟨e, -⟩ | ⟨y, ho, hg, hlt, e⟩
    · exact e
    · obtain ⟨x, hx, hle⟩ := hs k (by omega) ho y hg
      have := hlt x hx
      omega
/-- a round in which every step left all as it was -/
theorem dSt_of {D : Nat → Option Nat} (h : ∀ k, k < m → rlx f g o c D k = D) : dSt m f g o c D := by
  intro t ht ho y hy
  rcases rlx_cases (f := f) (g := g) (o := o) (c := c) D t with ⟨-, e⟩ | ⟨y', ho', hg, hlt, e⟩
  · exact e ho y hy
  · have h2 := h t ht
    rw [e] at h2
    have h3 := congrFun h2 (f t)
    simp only [if_true] at h3
    have := hlt _ h3.symm
    omega
/-- the least weight of a walk, and its first tube -/
theorem d_least {v : Nat} (h : ∃ k y, dwk m f g o c aim k v y) : ∃ x, (∃ k, dwk m f g o c aim k v x) ∧ ∀ k y, dwk m f g o c aim k v y → x ≤ y := by
  have h2 : ∃ y, ∃ k, dwk m f g o c aim k v y := by
    obtain ⟨k, y, hk⟩ := h
    exact ⟨y, k, hk⟩
  obtain ⟨x, hx, hmin⟩ := pk_least (fun y => ∃ k, dwk m f g o c aim k v y) h2
  exact ⟨x, hx, fun k y hy => Nat.le_of_not_lt fun q => hmin y q ⟨k, hy⟩⟩
/-- the stations nearer than x -/
def dRk (m : Nat) (f g : Nat → Nat) (o : Nat → Bool) (c : Nat → Nat) (aim n x : Nat) : Nat → Prop := fun u => u < n ∧ ∃ k y, dwk m f g o c aim k u y ∧ y < x
end DIST
theorem cP_lt {p q : Nat → Bool} : ∀ (l : List Nat), (∀ u, u ∈ l → p u = true → q u = true) → ∀ u0, u0 ∈ l → q u0 = true → p u0 = false → l.countP p < l.countP q
  | [], _, u0, h, _, _ => absurd h List.not_mem_nil
  | a :: l, hpq, u0, h, hq, hp => by
    rw [List.countP_cons, List.countP_cons]
    have hle : l.countP p ≤ l.countP q := List.countP_mono_left (fun u hu hpu => hpq u (List.mem_cons_of_mem _ hu) hpu)
    rcases List.mem_cons.mp h with e | h'
    · subst e
      rw [if_pos hq, if_neg (by rw [hp]; decide)]
      omega
    · have hlt := cP_lt l (fun u hu => hpq u (List.mem_cons_of_mem _ hu)) u0 h' hq hp
      by_cases ha : p a = true
      · rw [if_pos ha, if_pos (hpq a List.mem_cons_self ha)]
        omega
      · rw [if_neg ha]
        by_cases hb : q a = true
        · rw [if_pos hb]; omega
        · rw [if_neg hb]; omega
section DIST2
variable {m : Nat} {f g : Nat → Nat} {o : Nat → Bool} {c : Nat → Nat} {aim n : Nat}
noncomputable def dNr (m : Nat) (f g : Nat → Nat) (o : Nat → Bool) (c : Nat → Nat) (aim x : Nat) : Nat → Bool := fun u => @decide (∃ k y, dwk m f g o c aim k u y ∧ y < x) (Classical.propDecidable _)
theorem dNr_iff {x u : Nat} : dNr m f g o c aim x u = true ↔ ∃ k y, dwk m f g o c aim k u y ∧ y < x := by
  unfold dNr
  exact @decide_eq_true_iff _ (Classical.propDecidable _)
theorem rps_relax {D : Nat → Option Nat} : ∀ (k t : Nat), t < k → o t = true → ∀ y, D (g t) = some y → ∃ x, rps f g o c D k (f t) = some x ∧ x ≤ c t + y
  | 0, t, h, _, _, _ => absurd h (Nat.not_lt_zero t)
  | k + 1, t, h, ho, y, hy => by
    by_cases ht : t = k
    · subst ht
      obtain ⟨y1, hy1, l1⟩ := rps_mono (f := f) (g := g) (o := o) (c := c) D t hy
      show ∃ x, rlx f g o c (rps f g o c D t) t (f t) = some x ∧ x ≤ c t + y
      rcases rlx_cases (f := f) (g := g) (o := o) (c := c) (rps f g o c D t) t with ⟨e, h2⟩ | ⟨y', -, hg, -, e⟩
      · rw [e]
        obtain ⟨x, hx, hle⟩ := h2 ho y1 hy1
        exact ⟨x, hx, by omega⟩
      · rw [e]
        rw [hg] at hy1
        cases hy1
        exact ⟨c t + y1, if_pos rfl, by omega⟩
    · obtain ⟨x, hx, hle⟩ := rps_relax k t (by omega) ho y hy
      obtain ⟨x2, hx2, hle2⟩ := rlx_mono (f := f) (g := g) (o := o) (c := c) (rps f g o c D k) k hx
      exact ⟨x2, hx2, by omega⟩
theorem d_reached (hg : ∀ t, t < m → o t = true → g t < n) (hc : ∀ t, t < m → o t = true → 1 ≤ c t) : ∀ (r v x : Nat), v < n → (∃ k, dwk m f g o c aim k v x) → (∀ k y, dwk m f g o c aim k v y → x ≤ y) → (List.range n).countP (dNr m f g o c aim x) ≤ r → ∀ K, r ≤ K → ∃ x', dIt m f g o c aim K v = some x' ∧ x' ≤ x := by
  intro r
  induction r with
  | zero =>
    intro v x hv hw hmin hr K hK
    obtain ⟨k, hk⟩ := hw
    cases k with
    | zero =>
      obtain ⟨rfl, rfl⟩ := hk
      exact ⟨0, dIt_zero K, Nat.le_refl _⟩
    | succ k =>
      obtain ⟨t, ht, ho, rfl, y, hy, rfl⟩ := hk
      have h1 : g t ∈ List.range n := List.mem_range.mpr (hg t ht ho)
      have h2 : dNr m f g o c aim (c t + y) (g t) = true := dNr_iff.mpr ⟨k, y, hy, by have := hc t ht ho; omega⟩
      have h3 : 0 < (List.range n).countP (dNr m f g o c aim (c t + y)) := List.countP_pos_iff.mpr ⟨g t, h1, h2⟩
      omega
  | succ r ih =>
    intro v x hv hw hmin hr K hK
    obtain ⟨k, hk⟩ := hw
    cases k with
    | zero =>
      obtain ⟨rfl, rfl⟩ := hk
      exact ⟨0, dIt_zero K, Nat.le_refl _⟩
    | succ k =>
      obtain ⟨t, ht, ho, rfl, y, hy, rfl⟩ := hk
      have hc1 := hc t ht ho
      have hymin : ∀ k2 y2, dwk m f g o c aim k2 (g t) y2 → y ≤ y2 := by
        intro k2 y2 h2
        have := hmin (k2 + 1) (c t + y2) ⟨t, ht, ho, rfl, y2, h2, rfl⟩
        omega
      have hlt : (List.range n).countP (dNr m f g o c aim y) < (List.range n).countP (dNr m f g o c aim (c t + y)) := by
        refine cP_lt _ (fun u _ hu => ?_) (g t) (List.mem_range.mpr (hg t ht ho)) (dNr_iff.mpr ⟨k, y, hy, by omega⟩) ?_
        · obtain ⟨k2, y2, h2, l2⟩ := dNr_iff.mp hu
          exact dNr_iff.mpr ⟨k2, y2, h2, by omega⟩
        · cases hb : dNr m f g o c aim y (g t) with
          | false => rfl
          | true =>
            obtain ⟨k2, y2, h2, l2⟩ := dNr_iff.mp hb
            have := hymin k2 y2 h2
            omega
      obtain ⟨K', rfl⟩ : ∃ K', K = K' + 1 := ⟨K - 1, by omega⟩
      obtain ⟨y1, hy1, l1⟩ := ih (g t) y (hg t ht ho) ⟨k, hy⟩ hymin (by omega) K' (by omega)
      obtain ⟨x1, hx1, lx⟩ := rps_relax (f := f) (g := g) (o := o) (c := c) (D := dIt m f g o c aim K') m t ht ho y1 hy1
      exact ⟨x1, hx1, by omega⟩
/-- n rounds are enough -/
theorem dIt_stable (hf : ∀ t, t < m → o t = true → f t < n) (hg : ∀ t, t < m → o t = true → g t < n) (hc : ∀ t, t < m → o t = true → 1 ≤ c t) {K : Nat} (hK : n ≤ K) : dSt m f g o c (dIt m f g o c aim K) := by
  intro t ht ho y hy
  obtain ⟨k, hk⟩ := dIt_sound K (g t) y hy
  have hw : ∃ k y, dwk m f g o c aim k (f t) y := ⟨k + 1, c t + y, t, ht, ho, rfl, y, hk, rfl⟩
  obtain ⟨x, hx, hmin⟩ := d_least hw
  have hle := hmin (k + 1) (c t + y) ⟨t, ht, ho, rfl, y, hk, rfl⟩
  obtain ⟨x', hx', l'⟩ := d_reached (n := n) hg hc n (f t) x (hf t ht ho) hx hmin (by
    have := List.countP_le_length (p := dNr m f g o c aim x) (l := List.range n)
    rw [List.length_range] at this
    exact this) K hK
  exact ⟨x', hx', by omega⟩
theorem dIt_fix (hf : ∀ t, t < m → o t = true → f t < n) (hg : ∀ t, t < m → o t = true → g t < n) (hc : ∀ t, t < m → o t = true → 1 ≤ c t) {D : Nat → Option Nat} (h0 : D aim = some 0) (hs : dSt m f g o c D) (ho : dSo m f g o c aim D) {K : Nat} (hK : n ≤ K) : D = dIt m f g o c aim K := d_eq h0 hs ho (dIt_zero K) (dIt_stable hf hg hc hK) (dIt_sound K)
end DIST2
