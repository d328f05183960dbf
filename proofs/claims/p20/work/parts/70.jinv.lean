/-! ===== what the property speaks of: pure ===== -/
/-- the net stays -/
def sta (M M' : Nat → Nat → Int32) : Prop := (M' 0 2 = M 0 2 ∧ M' 0 3 = M 0 3 ∧ M' 0 4 = M 0 4) ∧ (∀ t w, w < 6 → M' 2 (8 * t + w) = M 2 (8 * t + w)) ∧ ∀ s w, w < 9 → w ≠ 4 → M' 1 (9 * s + w) = M 1 (9 * s + w)
theorem sta_rf (M : Nat → Nat → Int32) : sta M M := ⟨⟨rfl, rfl, rfl⟩, fun _ _ _ => rfl, fun _ _ _ _ => rfl⟩
theorem sta_tr {M M' M'' : Nat → Nat → Int32} (h : sta M M') (h' : sta M' M'') : sta M M'' := ⟨⟨h'.1.1.trans h.1.1, h'.1.2.1.trans h.1.2.1, h'.1.2.2.trans h.1.2.2⟩, fun t w hw => (h'.2.1 t w hw).trans (h.2.1 t w hw), fun s w hw hw4 => (h'.2.2 s w hw hw4).trans (h.2.2 s w hw hw4)⟩
section STA
variable {M M' : Nat → Nat → Int32}
theorem sta_S (h : sta M M') : nS M' = nS M := by unfold nS; rw [h.1.1]
theorem sta_T (h : sta M M') : nT M' = nT M := by unfold nT; rw [h.1.2.1]
theorem sta_E (h : sta M M') : nE M' = nE M := by unfold nE; rw [h.1.2.2]
theorem sta_hnd (h : sta M M') : hnd M' = hnd M := by funext s; unfold hnd; rw [h.2.2 s 1 (by decide) (by decide)]
theorem sta_rom (h : sta M M') : rom M' = rom M := by funext s; unfold rom; rw [h.2.2 s 0 (by decide) (by decide)]
theorem sta_mny (h : sta M M') : mny M' = mny M := by funext s; unfold mny; rw [h.2.2 s 2 (by decide) (by decide)]
theorem sta_way (h : sta M M') {s k : Nat} (hk : k < 4) : way M' s k = way M s k := by unfold way; rw [h.2.2 s (5 + k) (by omega) (by omega)]
theorem sta_thr (h : sta M M') : thr M' = thr M := by funext t; unfold thr tLn tSp; rw [h.2.1 t 2 (by decide), h.2.1 t 3 (by decide)]
theorem sta_tTo (h : sta M M') : tTo M' = tTo M := by funext t; unfold tTo; rw [h.2.1 t 1 (by decide)]
theorem sta_tFr (h : sta M M') : tFr M' = tFr M := by funext t; unfold tFr; rw [h.2.1 t 0 (by decide)]
theorem sta_tBo (h : sta M M') : tBo M' = tBo M := by funext t; unfold tBo; rw [h.2.1 t 4 (by decide)]
theorem sta_cst (h : sta M M') (a : Nat) : cst M' a = cst M a := by funext t; unfold cst; rw [sta_thr h, sta_hnd h, sta_tTo h]
theorem sta_dD (h : sta M M') (a : Nat) : dD M' a = dD M a := dD_fr h.1.2.1 h.2.1 (fun s => h.2.2 s 1 (by decide) (by decide)) a
end STA
/-- a carrier's aim, tick of its sending, tick since when it is there, how many tubes it has been in -/
def aimM (M : Nat → Nat → Int32) (c : Nat) : Nat := u (M 4 (9 * c + 2))
def sgM (M : Nat → Nat → Int32) (c : Nat) : Nat := u (M 4 (9 * c + 4))
def tauM (M : Nat → Nat → Int32) (c : Nat) : Nat := u (M 4 (9 * c + 5))
def kapM (M : Nat → Nat → Int32) (c : Nat) : Nat := u (M 4 (9 * c + 6))
/-- where a carrier is, and how long it has been under way at least; F c: where it was sent -/
def jS (M : Nat → Nat → Int32) (F : Nat → Nat) (c : Nat) : Prop :=
  (M 4 (9 * c + 0) = 1 ∧ ∃ v, v < nS M ∧ M 4 (9 * c + 1) = nI v ∧ (dD M (aimM M c) (F c) = none → dD M (aimM M c) v = none) ∧ ∀ x, dD M (aimM M c) (F c) = some x → ∃ y, dD M (aimM M c) v = some y ∧ hnd M (F c) + x + sgM M c ≤ tauM M c + hnd M v + y)
  ∨ (M 4 (9 * c + 0) = 2 ∧ ∃ t, t < nT M ∧ M 4 (9 * c + 1) = nI t ∧ 1 ≤ kapM M c ∧ M 4 (9 * c + 8) = nI (thr M t) ∧ ∃ x y, dD M (aimM M c) (F c) = some x ∧ dD M (aimM M c) (tTo M t) = some y ∧ hnd M (F c) + x + sgM M c ≤ tauM M c + cst M (aimM M c) t + y)
  ∨ (M 4 (9 * c + 0) = 3 ∧ M 4 (9 * c + 1) = nI (aimM M c) ∧ ∃ x, dD M (aimM M c) (F c) = some x ∧ hnd M (F c) + x + sgM M c ≤ tauM M c)
def jN (M : Nat → Nat → Int32) (c : Nat) : Prop := (M 4 (9 * c + 4) = nI (sgM M c) ∧ sgM M c ≤ tauM M c) ∧ M 4 (9 * c + 6) = nI (kapM M c) ∧ kapM M c ≤ u (M 0 8)
def jA (M : Nat → Nat → Int32) (L : Nat → List Nat) (F : Nat → Nat) : Prop := ∀ c, c < nC M → (F c < nS M ∧ F c ≠ aimM M c) ∧ jN M c ∧ jS M F c ∧ (c ∈ L 0 ↔ ¬ M 4 (9 * c + 0) = 3)
/-- who came later has the later tick -/
def jO (M : Nat → Nat → Int32) (L : Nat → List Nat) : Prop := ∀ a b, a ∈ L 0 → b ∈ L 0 → u (M 4 (9 * a + 7)) < u (M 4 (9 * b + 7)) → tauM M a ≤ tauM M b
/-- no two in a tube entered it at one tick -/
def jE (M : Nat → Nat → Int32) (L : Nat → List Nat) : Prop := ∀ t, t < nT M → ((M 2 (8 * t + 7) = -1 ∧ L (15 + t) = []) ∨ (M 2 (8 * t + 7) = nI (u (M 2 (8 * t + 7))) ∧ u (M 2 (8 * t + 7)) ≤ u (M 0 1) ∧ ∀ c, c ∈ L (15 + t) → tauM M c ≤ u (M 2 (8 * t + 7)))) ∧ (L (15 + t)).Pairwise (fun a b => tauM M a < tauM M b)
def dlB (M : Nat → Nat → Int32) (s c : Nat) : Bool := decide (M 4 (9 * c + 0) = 3) && decide (M 4 (9 * c + 1) = nI s)
/-- what the stations tell of those delivered there -/
def jR (M : Nat → Nat → Int32) : Prop := ∀ s, s < nS M → M 1 (9 * s + 4) = nI (cnt (dlB M s) (nC M))
/-- the ticks of those delivered, together -/
def smT (M : Nat → Nat → Int32) : Nat → Int32
  | 0 => 0
  | n + 1 => smT M n + if M 4 (9 * n + 0) = 3 then M 4 (9 * n + 5) - M 4 (9 * n + 4) else 0
def jT (M : Nat → Nat → Int32) : Prop := M 0 7 = smT M (nC M)
/-- each way out leads from its station; no timetable; all switches free -/
def jW (M : Nat → Nat → Int32) : Prop := (∀ s k, s < nS M → k < mny M s → tFr M (way M s k) = s) ∧ nE M = 0 ∧ ∀ s, s < nS M → M 1 (9 * s + 3) = -1
def jI (M : Nat → Nat → Int32) (L : Nat → List Nat) (F : Nat → Nat) : Prop := jA M L F ∧ jO M L ∧ jE M L ∧ jR M ∧ jT M ∧ jW M
section JINV
variable {M M' : Nat → Nat → Int32} {L L' : Nat → List Nat} {F : Nat → Nat} {c : Nat}
theorem jW_st (hS : iS M) (h : jW M) (hst : sta M M') : jW M' := by
  refine ⟨fun s k hs hk => ?_, by rw [sta_E hst]; exact h.2.1, fun s hs => ?_⟩
  · rw [sta_S hst] at hs
    rw [sta_mny hst] at hk
    have h4 := (hS s hs).2.2.1.2
    rw [sta_tFr hst, sta_way hst (by omega)]
    exact h.1 s k hs hk
  · rw [sta_S hst] at hs
    rw [hst.2.2 s 3 (by decide) (by decide)]
    exact h.2.2 s hs
theorem jS_eq (hst : sta M M') {d : Nat} (hd : ∀ w, w < 9 → M' 4 (9 * d + w) = M 4 (9 * d + w)) (h : jS M F d) : jS M' F d := by
  unfold jS aimM sgM tauM kapM at *
  rw [hd 0 (by decide), hd 1 (by decide), hd 2 (by decide), hd 4 (by decide), hd 5 (by decide), hd 6 (by decide), hd 8 (by decide), sta_dD hst, sta_hnd hst, sta_thr hst, sta_tTo hst, sta_cst hst, sta_S hst, sta_T hst]
  exact h
theorem jN_eq {d : Nat} (h8 : u (M 0 8) ≤ u (M' 0 8)) (hd : ∀ w, w < 9 → M' 4 (9 * d + w) = M 4 (9 * d + w)) (h : jN M d) : jN M' d := by
  unfold jN sgM tauM kapM at *
  rw [hd 4 (by decide), hd 5 (by decide), hd 6 (by decide)]
  exact ⟨h.1, h.2.1, Nat.le_trans h.2.2 h8⟩
/-- one carrier's row is another one -/
theorem jA_put (hst : sta M M') (hC : nC M' = nC M) (h8 : u (M 0 8) ≤ u (M' 0 8)) (hd : ∀ d w, d ≠ c → w < 9 → M' 4 (9 * d + w) = M 4 (9 * d + w)) (hm : ∀ d, d ≠ c → (d ∈ L' 0 ↔ d ∈ L 0)) (ha : M' 4 (9 * c + 2) = M 4 (9 * c + 2)) (h : jA M L F) (hc : c < nC M → jN M' c ∧ jS M' F c ∧ (c ∈ L' 0 ↔ ¬ M' 4 (9 * c + 0) = 3)) : jA M' L' F := by
  intro d hdn
  rw [hC] at hdn
  obtain ⟨⟨f1, f2⟩, n1, s1, m1⟩ := h d hdn
  by_cases q : d = c
  · subst q
    refine ⟨⟨by rw [sta_S hst]; exact f1, ?_⟩, hc hdn⟩
    unfold aimM at *
    rw [ha]
    exact f2
  · refine ⟨⟨by rw [sta_S hst]; exact f1, ?_⟩, jN_eq h8 (fun w hw => hd d w q hw) n1, jS_eq hst (fun w hw => hd d w q hw) s1, ?_⟩
    · unfold aimM at *
      rw [hd d 2 q (by decide)]
      exact f2
    · rw [hm d q, hd d 0 q (by decide)]
      exact m1
theorem jO_put (h : jO M L) (hd : ∀ d w, d ≠ c → w < 9 → M' 4 (9 * d + w) = M 4 (9 * d + w)) (hm : ∀ d, d ≠ c → d ∈ L' 0 → d ∈ L 0) (h5 : M' 4 (9 * c + 5) = M 0 1) (h7 : M' 4 (9 * c + 7) = M 0 8) (hlt : ∀ d, d ∈ L 0 → u (M 4 (9 * d + 7)) < u (M 0 8)) (htau : ∀ d, d ∈ L 0 → tauM M d ≤ u (M 0 1)) : jO M' L' := by
  intro a b ha hb hab
  unfold tauM at *
  by_cases qa : a = c
  · subst qa
    by_cases qb : b = a
    · subst qb
      exact Nat.le_refl _
    · rw [h7, hd b 7 qb (by decide)] at hab
      have := hlt b (hm b qb hb)
      omega
  · by_cases qb : b = c
    · subst qb
      rw [hd a 5 qa (by decide), h5]
      exact htau a (hm a qa ha)
    · rw [hd a 7 qa (by decide), hd b 7 qb (by decide)] at hab
      rw [hd a 5 qa (by decide), hd b 5 qb (by decide)]
      exact h a b (hm a qa ha) (hm b qb hb) hab
theorem cnt_upd {p q : Nat → Bool} {c : Nat} (h : ∀ i, i ≠ c → q i = p i) (hp : p c = false) : ∀ n, cnt q n = cnt p n + if c < n ∧ q c = true then 1 else 0
  | 0 => by rw [if_neg (fun x => Nat.not_lt_zero _ x.1)]; rfl
  | n + 1 => by
    have ih := cnt_upd h hp n
    show cnt q n + (if q n = true then 1 else 0) = cnt p n + (if p n = true then 1 else 0) + if c < n + 1 ∧ q c = true then 1 else 0
    rw [ih]
    by_cases e : n = c
    · subst e
      have e1 : ¬ (n < n ∧ q n = true) := fun x => Nat.lt_irrefl _ x.1
      rw [if_neg e1, hp]
      by_cases hq : q n = true
      · have e2 : n < n + 1 ∧ q n = true := ⟨by omega, hq⟩
        rw [if_pos e2, if_pos hq]
        rfl
      · have e2 : ¬ (n < n + 1 ∧ q n = true) := fun x => hq x.2
        rw [if_neg e2, if_neg hq]
        rfl
    · rw [h n e]
      by_cases hq : c < n ∧ q c = true
      · have e2 : c < n + 1 ∧ q c = true := ⟨by omega, hq.2⟩
        rw [if_pos hq, if_pos e2]
        omega
      · have e2 : ¬ (c < n + 1 ∧ q c = true) := fun x => hq ⟨by omega, x.2⟩
        rw [if_neg hq, if_neg e2]
        omega
theorem smT_ext {n : Nat} : (∀ d w, d < n → w < 9 → M' 4 (9 * d + w) = M 4 (9 * d + w)) → smT M' n = smT M n := by
  induction n with
  | zero => intro _; rfl
  | succ n ih =>
    intro h
    show smT M' n + _ = smT M n + _
    rw [ih (fun d w hd hw => h d w (by omega) hw), h n 0 (by omega) (by decide), h n 5 (by omega) (by decide), h n 4 (by omega) (by decide)]
theorem smT_upd (h : ∀ d w, d ≠ c → w < 9 → M' 4 (9 * d + w) = M 4 (9 * d + w)) (h0 : ¬ M 4 (9 * c + 0) = 3) : ∀ n, smT M' n = smT M n + if c < n ∧ M' 4 (9 * c + 0) = 3 then M' 4 (9 * c + 5) - M' 4 (9 * c + 4) else 0
  | 0 => by rw [if_neg (fun x => Nat.not_lt_zero _ x.1)]; show (0 : Int32) = 0 + 0; decide
  | n + 1 => by
    have ih := smT_upd h h0 n
    show smT M' n + (if M' 4 (9 * n + 0) = 3 then M' 4 (9 * n + 5) - M' 4 (9 * n + 4) else 0) = smT M n + (if M 4 (9 * n + 0) = 3 then M 4 (9 * n + 5) - M 4 (9 * n + 4) else 0) + if c < n + 1 ∧ M' 4 (9 * c + 0) = 3 then M' 4 (9 * c + 5) - M' 4 (9 * c + 4) else 0
    rw [ih]
    by_cases e : n = c
    · subst e
      have e1 : ¬ (n < n ∧ M' 4 (9 * n + 0) = 3) := fun x => Nat.lt_irrefl _ x.1
      rw [if_neg e1, if_neg h0, Int32.add_zero]
      by_cases hq : M' 4 (9 * n + 0) = 3
      · have e2 : n < n + 1 ∧ M' 4 (9 * n + 0) = 3 := ⟨by omega, hq⟩
        rw [if_pos e2, if_pos hq]
      · have e2 : ¬ (n < n + 1 ∧ M' 4 (9 * n + 0) = 3) := fun x => hq x.2
        rw [if_neg e2, if_neg hq]
    · rw [h n 0 e (by decide), h n 5 e (by decide), h n 4 e (by decide)]
      generalize (if M 4 (9 * n + 0) = 3 then M 4 (9 * n + 5) - M 4 (9 * n + 4) else 0) = z
      by_cases hq : c < n ∧ M' 4 (9 * c + 0) = 3
      · have e2 : c < n + 1 ∧ M' 4 (9 * c + 0) = 3 := ⟨by omega, hq.2⟩
        rw [if_pos hq, if_pos e2, Int32.add_assoc, Int32.add_assoc, Int32.add_comm z]
      · have e2 : ¬ (c < n + 1 ∧ M' 4 (9 * c + 0) = 3) := fun x => hq ⟨by omega, x.2⟩
        rw [if_neg hq, if_neg e2, Int32.add_zero, Int32.add_zero]
/-- the lists of a tube where a carrier goes away or to another place -/
theorem jE_put (h : jE M L) (hst : sta M M') (h1 : M' 0 1 = M 0 1) (hd : ∀ d w, d ≠ c → w < 9 → M' 4 (9 * d + w) = M 4 (9 * d + w)) (h7 : ∀ t, t < nT M → M' 2 (8 * t + 7) = M 2 (8 * t + 7)) (hl : ∀ t, t < nT M → L' (15 + t) = rem c (L (15 + t))) : jE M' L' := by
  intro t ht
  rw [sta_T hst] at ht
  obtain ⟨e1, e2⟩ := h t ht
  rw [h7 t ht, hl t ht, h1]
  refine ⟨?_, ?_⟩
  · rcases e1 with ⟨x1, x2⟩ | ⟨x1, x2, x3⟩
    · exact Or.inl ⟨x1, by rw [x2]; rfl⟩
    · refine Or.inr ⟨x1, x2, fun d hdm => ?_⟩
      obtain ⟨m1, m2⟩ := rem_mem.mp hdm
      unfold tauM at *
      rw [hd d 5 m2 (by decide)]
      exact x3 d m1
  · refine List.Pairwise.imp_of_mem (fun {a b} ha hb hr => ?_) (e2.filter _)
    unfold tauM at *
    rw [hd a 5 (rem_mem.mp ha).2 (by decide), hd b 5 (rem_mem.mp hb).2 (by decide)]
    exact hr
end JINV
