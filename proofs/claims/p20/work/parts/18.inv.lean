/-! ===== what always holds of the numbers and the lists ===== -/
/-- the timetable -/
def iE (M : Nat → Nat → Int32) : Prop := ∀ e, e < nE M → (M 3 (5 * e + 0) = nI (u (M 3 (5 * e + 0))) ∧ u (M 3 (5 * e + 0)) ≤ 100000) ∧ (M 3 (5 * e + 1) = nI (u (M 3 (5 * e + 1))) ∧ u (M 3 (5 * e + 1)) ≤ 500) ∧ M 3 (5 * e + 3) = nI (u (M 3 (5 * e + 3))) ∧ ((M 3 (5 * e + 2) = 0 ∧ u (M 3 (5 * e + 3)) < nS M ∧ (M 3 (5 * e + 4) = -1 ∨ ∃ w, w < mny M (u (M 3 (5 * e + 3))) ∧ M 3 (5 * e + 4) = nI w)) ∨ (M 3 (5 * e + 2) = 1 ∧ u (M 3 (5 * e + 3)) < nT M ∧ (M 3 (5 * e + 4) = 0 ∨ M 3 (5 * e + 4) = 1)) ∨ (M 3 (5 * e + 2) = 2 ∧ u (M 3 (5 * e + 3)) < nS M ∧ M 3 (5 * e + 4) = nI (u (M 3 (5 * e + 4))) ∧ u (M 3 (5 * e + 4)) < nS M))
/-- clock, order, those under way -/
def iA (B K : Nat) (M : Nat → Nat → Int32) (al : List Nat) : Prop := (M 0 1 = nI (u (M 0 1)) ∧ u (M 0 1) ≤ B) ∧ (M 0 8 = nI (u (M 0 8)) ∧ u (M 0 8) ≤ K) ∧ mAc M al ∧ al.Nodup ∧ (∀ c, c ∈ al → c < nC M) ∧ M 0 6 = nI (nC M - al.length) ∧ (∀ a b, a ∈ al → b ∈ al → a ≠ b → M 4 (9 * a + 7) ≠ M 4 (9 * b + 7)) ∧ ∀ a, a ∈ al → M 4 (9 * a + 7) = nI (u (M 4 (9 * a + 7))) ∧ u (M 4 (9 * a + 7)) < u (M 0 8)
/-- the carriers -/
def iC (M : Nat → Nat → Int32) : Prop := ∀ c, c < nC M → (M 4 (9 * c + 2) = nI (u (M 4 (9 * c + 2))) ∧ u (M 4 (9 * c + 2)) < nS M) ∧ (M 4 (9 * c + 3) = nI (u (M 4 (9 * c + 3))) ∧ u (M 4 (9 * c + 3)) ≤ 3) ∧ (M 4 (9 * c + 5) = nI (u (M 4 (9 * c + 5))) ∧ u (M 4 (9 * c + 5)) ≤ u (M 0 1))
/-- the lists: 0 those under way, 1 + s a station's line, 15 + t who is in a tube -/
def iL (M : Nat → Nat → Int32) (L : Nat → List Nat) : Prop := (∀ s, s < 14 → (L (1 + s)).Perm ((L 0).filter (atS M (nI s))) ∧ (L (1 + s)).Pairwise (ahd M)) ∧ ∀ t, t < 30 → (L (15 + t)).Perm ((L 0).filter (inT M (nI t))) ∧ (L (15 + t)).Pairwise (fun a b => M 4 (9 * a + 7) < M 4 (9 * b + 7))
/-- room and bore -/
def iR (M : Nat → Nat → Int32) (L : Nat → List Nat) : Prop := (∀ s, s < nS M → (L (1 + s)).length ≤ rom M s) ∧ (∀ s, nS M ≤ s → s < 14 → L (1 + s) = []) ∧ (∀ t, t < nT M → (L (15 + t)).length ≤ tBo M t) ∧ ∀ t, nT M ≤ t → t < 30 → L (15 + t) = []
theorem iN_fr {M M' : Nat → Nat → Int32} (h : iN M) (h2 : M' 0 2 = M 0 2) (h3 : M' 0 3 = M 0 3) (h4 : M' 0 4 = M 0 4) (h5 : M' 0 5 = M 0 5) : iN M' := by
  unfold iN nS nT nE nC at *
  rw [h2, h3, h4, h5]
  exact h
theorem iT_fr {M M' : Nat → Nat → Int32} (h : iT M) (h2 : M' 0 2 = M 0 2) (h3 : M' 0 3 = M 0 3) (hf : ∀ t w, w < 6 → M' 2 (8 * t + w) = M 2 (8 * t + w)) : iT M' := by
  intro t ht
  have h1 := h t (by unfold nT at *; rw [← h3]; exact ht)
  unfold nS tFr tTo tLn tSp tBo at *
  rw [h2, hf t 0 (by decide), hf t 1 (by decide), hf t 2 (by decide), hf t 3 (by decide), hf t 4 (by decide), hf t 5 (by decide)]
  exact h1
theorem iS_fr {M M' : Nat → Nat → Int32} (h : iS M) (h2 : M' 0 2 = M 0 2) (h3 : M' 0 3 = M 0 3) (hf : ∀ s w, w < 9 → w ≠ 4 → M' 1 (9 * s + w) = M 1 (9 * s + w)) : iS M' := by
  intro s hs
  have h1 := h s (by unfold nS at *; rw [← h2]; exact hs)
  have h4 := h1.2.2.1.2
  unfold nT rom hnd mny way at *
  rw [h3, hf s 0 (by decide) (by decide), hf s 1 (by decide) (by decide), hf s 2 (by decide) (by decide), hf s 3 (by decide) (by decide)]
  refine ⟨h1.1, h1.2.1, h1.2.2.1, h1.2.2.2.1, fun k hk => ?_⟩
  rw [hf s (5 + k) (by omega) (by omega)]
  exact h1.2.2.2.2 k hk
theorem iE_fr {M M' : Nat → Nat → Int32} (h : iE M) (h2 : M' 0 2 = M 0 2) (h3 : M' 0 3 = M 0 3) (h4 : M' 0 4 = M 0 4) (hf : ∀ s, M' 1 (9 * s + 2) = M 1 (9 * s + 2)) (he : ∀ j, M' 3 j = M 3 j) : iE M' := by
  intro e hee
  have h1 := h e (by unfold nE at *; rw [← h4]; exact hee)
  unfold nS nT mny at *
  simp only [he, h2, h3, hf]
  exact h1
theorem iC_fr {M M' : Nat → Nat → Int32} (h : iC M) (h2 : M' 0 2 = M 0 2) (h5 : M' 0 5 = M 0 5) (ht : M' 0 1 = M 0 1) (hT : M 0 1 = nI (u (M 0 1))) (hf : ∀ d w, w = 2 ∨ w = 3 → M' 4 (9 * d + w) = M 4 (9 * d + w)) (hs : ∀ d, M' 4 (9 * d + 5) = M 4 (9 * d + 5) ∨ M' 4 (9 * d + 5) = M 0 1) : iC M' := by
  intro c hc
  have h1 := h c (by unfold nC at *; rw [← h5]; exact hc)
  unfold nS at *
  rw [hf c 2 (Or.inl rfl), hf c 3 (Or.inr rfl), h2, ht]
  refine ⟨h1.1, h1.2.1, ?_⟩
  rcases hs c with q | q
  · rw [q]; exact h1.2.2
  · rw [q]; exact ⟨hT, Nat.le_refl _⟩
theorem perm_rem {c : Nat} : ∀ {l : List Nat}, l.Nodup → c ∈ l → l.Perm (c :: rem c l)
  | [], _, h => absurd h List.not_mem_nil
  | a :: l, hn, h => by
    obtain ⟨h1, h2⟩ := List.nodup_cons.mp hn
    by_cases ha : a = c
    · subst ha
      have : rem a (a :: l) = l := by
        rw [show rem a (a :: l) = rem a l by simp [rem], rem_no h1]
      rw [this]
    · have h3 : c ∈ l := by
        rcases List.mem_cons.mp h with q | q
        · exact absurd q.symm ha
        · exact q
      rw [show rem c (a :: l) = a :: rem c l by simp [rem, ha]]
      exact ((perm_rem h2 h3).cons a).trans (List.Perm.swap c a _)
theorem rem_filter (c : Nat) (p : Nat → Bool) (l : List Nat) : rem c (l.filter p) = (rem c l).filter p := by
  unfold rem
  rw [List.filter_filter, List.filter_filter]
  exact List.filter_congr (fun d _ => Bool.and_comm _ _)
theorem filter_off {c : Nat} {p p' : Nat → Bool} {l : List Nat} (h : ∀ d, d ≠ c → p' d = p d) (hc : p' c = false) : l.filter p' = rem c (l.filter p) := by
  unfold rem
  rw [List.filter_filter]
  refine List.filter_congr (fun d _ => ?_)
  by_cases hd : d = c
  · subst hd
    simp [hc]
  · simp [hd, h d hd]
theorem filter_on {c : Nat} {p p' : Nat → Bool} {l : List Nat} (h : ∀ d, d ≠ c → p' d = p d) (hc : p' c = true) (hl : l.Nodup) (hm : c ∈ l) : (l.filter p').Perm (c :: rem c (l.filter p)) := by
  refine ((perm_rem hl hm).filter p').trans ?_
  rw [List.filter_cons_of_pos hc, rem_filter]
  refine List.Perm.cons c (List.Perm.of_eq (List.filter_congr (fun d hd => ?_)))
  exact h d (rem_mem.mp hd).2
/-- into the line, by rank -/
def insR (M : Nat → Nat → Int32) (c : Nat) : List Nat → List Nat
  | [] => [c]
  | d :: l => if M 4 (9 * d + 3) < M 4 (9 * c + 3) then c :: d :: l else d :: insR M c l
theorem insR_perm {M : Nat → Nat → Int32} {c : Nat} : ∀ (l : List Nat), (insR M c l).Perm (c :: l)
  | [] => List.Perm.refl _
  | d :: l => by
    unfold insR
    split
    · exact List.Perm.refl _
    · exact ((insR_perm l).cons d).trans (List.Perm.swap c d l)
theorem insR_sorted {M : Nat → Nat → Int32} {c : Nat} : ∀ (l : List Nat), l.Pairwise (ahd M) → (∀ d, d ∈ l → M 4 (9 * d + 7) < M 4 (9 * c + 7)) → (insR M c l).Pairwise (ahd M)
  | [], _, _ => List.pairwise_singleton _ _
  | d :: l, hs, ho => by
    obtain ⟨h1, h2⟩ := List.pairwise_cons.mp hs
    unfold insR
    by_cases hlt : M 4 (9 * d + 3) < M 4 (9 * c + 3)
    · rw [if_pos hlt]
      have hcd : ahd M c d := by
        unfold ahd
        rw [if_neg (fun q => Int32.lt_irrefl (by rw [q] at hlt; exact hlt))]
        exact hlt
      refine List.pairwise_cons.mpr ⟨fun e he => ?_, hs⟩
      rcases List.mem_cons.mp he with rfl | he
      · exact hcd
      · exact ahd_trans hcd (h1 e he)
    · rw [if_neg hlt]
      have hdc : ahd M d c := by
        unfold ahd
        by_cases hr : M 4 (9 * d + 3) = M 4 (9 * c + 3)
        · rw [if_pos hr]
          exact ho d List.mem_cons_self
        · rw [if_neg hr]
          rcases Int32.lt_or_eq_of_le (Int32.not_lt.mp hlt) with q | q
          · exact q
          · exact absurd q.symm hr
      refine List.pairwise_cons.mpr ⟨fun e he => ?_, insR_sorted l h2 (fun e he => ho e (List.mem_cons_of_mem _ he))⟩
      rcases List.mem_cons.mp ((insR_perm l).mem_iff.mp he) with rfl | he
      · exact hdc
      · exact h1 e he
/-- the lists after a carrier c has gone to the list tgt (0: to none) -/
def sLst (M' : Nat → Nat → Int32) (L : Nat → List Nat) (al' : List Nat) (c tgt : Nat) : Nat → List Nat := fun i => if i = 0 then al' else if i = tgt then (if i < 15 then insR M' c (rem c (L i)) else rem c (L i) ++ [c]) else rem c (L i)
theorem put_inv {M M' : Nat → Nat → Int32} {L : Nat → List Nat} {al' : List Nat} {c tgt : Nat} (hL : iL M L) (hnd : (L 0).Nodup) (hot : ∀ a b, a ∈ L 0 → b ∈ L 0 → a ≠ b → M 4 (9 * a + 7) ≠ M 4 (9 * b + 7)) (hon : ∀ a, a ∈ L 0 → M 4 (9 * a + 7) = nI (u (M 4 (9 * a + 7))) ∧ u (M 4 (9 * a + 7)) < u (M 0 8)) (h8 : M 0 8 = nI (u (M 0 8))) (h31 : u (M 0 8) + 1 < 2 ^ 31) (hd : ∀ d w, d ≠ c → w < 9 → M' 4 (9 * d + w) = M 4 (9 * d + w)) (ho : M' 4 (9 * c + 7) = M 0 8) (h8' : M' 0 8 = M 0 8 + 1) (hat : ∀ s, s < 14 → atS M' (nI s) c = decide (1 + s = tgt)) (hin : ∀ t, t < 30 → inT M' (nI t) c = decide (15 + t = tgt)) (hnd' : al'.Nodup) (hal : rem c al' = rem c (L 0)) (hc : tgt ≠ 0 → c ∈ al') : iL M' (sLst M' L al' c tgt) ∧ (∀ a b, a ∈ al' → b ∈ al' → a ≠ b → M' 4 (9 * a + 7) ≠ M' 4 (9 * b + 7)) ∧ ∀ a, a ∈ al' → M' 4 (9 * a + 7) = nI (u (M' 4 (9 * a + 7))) ∧ u (M' 4 (9 * a + 7)) < u (M' 0 8) := by
  have hu8 : u (M' 0 8) = u (M 0 8) + 1 := by
    rw [h8', h8, nI_1, u_nI (by omega), u_nI (by omega)]
  have hmem : ∀ a, a ∈ al' → a ≠ c → a ∈ L 0 := fun a ha hac => by
    have : a ∈ rem c al' := rem_mem.mpr ⟨ha, hac⟩
    rw [hal] at this
    exact (rem_mem.mp this).1
  have hlt : ∀ a, a ∈ L 0 → M 4 (9 * a + 7) < M 0 8 := fun a ha => by
    obtain ⟨e, h⟩ := hon a ha
    rw [e, h8]
    exact nI_lt h (by omega)
  have hat' : ∀ s d, d ≠ c → atS M' s d = atS M s d := fun s d h => by
    unfold atS
    rw [hd d 0 h (by decide), hd d 1 h (by decide)]
  have hin' : ∀ s d, d ≠ c → inT M' s d = inT M s d := fun s d h => by
    unfold inT
    rw [hd d 0 h (by decide), hd d 1 h (by decide)]
  have hah : ∀ a b, a ≠ c → b ≠ c → ahd M a b → ahd M' a b := fun a b ha hb h => by
    unfold ahd at *
    rw [hd a 3 ha (by decide), hd a 7 ha (by decide), hd b 3 hb (by decide), hd b 7 hb (by decide)]
    exact h
  have hpw : ∀ (l : List Nat), l.Pairwise (ahd M) → (rem c l).Pairwise (ahd M') := fun l h => by
    refine List.Pairwise.imp_of_mem (fun {a b} ha hb hr => ?_) (h.filter _)
    exact hah a b (rem_mem.mp ha).2 (rem_mem.mp hb).2 hr
  have hpo : ∀ (l : List Nat), l.Pairwise (fun a b => M 4 (9 * a + 7) < M 4 (9 * b + 7)) → (rem c l).Pairwise (fun a b => M' 4 (9 * a + 7) < M' 4 (9 * b + 7)) := fun l h => by
    refine List.Pairwise.imp_of_mem (fun {a b} ha hb hr => ?_) (h.filter _)
    rw [hd a 7 (rem_mem.mp ha).2 (by decide), hd b 7 (rem_mem.mp hb).2 (by decide)]
    exact hr
  have hflt : ∀ (p p' : Nat → Bool), (∀ d, d ≠ c → p' d = p d) → p' c = false → (al'.filter p') = rem c ((L 0).filter p) := fun p p' h1 h2 => by
    rw [filter_off h1 h2, rem_filter, rem_filter, hal]
  have hflt2 : ∀ (p p' : Nat → Bool), (∀ d, d ≠ c → p' d = p d) → p' c = true → c ∈ al' → (al'.filter p').Perm (c :: rem c ((L 0).filter p)) := fun p p' h1 h2 h3 => by
    have := filter_on h1 h2 hnd' h3
    rw [rem_filter, hal, ← rem_filter] at this
    exact this
  refine ⟨⟨fun s hs => ?_, fun t ht => ?_⟩, fun a b ha hb hab => ?_, fun a ha => ?_⟩
  · obtain ⟨p1, p2⟩ := hL.1 s hs
    have e0 : sLst M' L al' c tgt 0 = al' := if_pos rfl
    rw [e0]
    have hb := hat s hs
    by_cases hq : 1 + s = tgt
    · have e1 : sLst M' L al' c tgt (1 + s) = insR M' c (rem c (L (1 + s))) := by
        unfold sLst
        rw [if_neg (by omega), if_pos hq, if_pos (by omega)]
      rw [e1]
      rw [decide_eq_true hq] at hb
      refine ⟨(insR_perm _).trans (((p1.filter _).cons c).trans (hflt2 _ _ (hat' (nI s)) hb (hc (by omega))).symm), insR_sorted _ (hpw _ p2) (fun d hdm => ?_)⟩
      obtain ⟨h1, h2⟩ := rem_mem.mp hdm
      rw [hd d 7 h2 (by decide), ho]
      exact hlt d (List.mem_filter.mp (p1.mem_iff.mp h1)).1
    · have e1 : sLst M' L al' c tgt (1 + s) = rem c (L (1 + s)) := by
        unfold sLst
        rw [if_neg (by omega), if_neg hq]
      rw [e1]
      rw [decide_eq_false hq] at hb
      refine ⟨?_, hpw _ p2⟩
      rw [hflt _ _ (hat' (nI s)) hb]
      exact p1.filter _
  · obtain ⟨p1, p2⟩ := hL.2 t ht
    have e0 : sLst M' L al' c tgt 0 = al' := if_pos rfl
    rw [e0]
    have hb := hin t ht
    by_cases hq : 15 + t = tgt
    · have e1 : sLst M' L al' c tgt (15 + t) = rem c (L (15 + t)) ++ [c] := by
        unfold sLst
        rw [if_neg (by omega), if_pos hq, if_neg (by omega)]
      rw [e1]
      rw [decide_eq_true hq] at hb
      refine ⟨(List.perm_append_singleton c _).trans (((p1.filter _).cons c).trans (hflt2 _ _ (hin' (nI t)) hb (hc (by omega))).symm), ?_⟩
      refine List.pairwise_append.mpr ⟨hpo _ p2, List.pairwise_singleton _ _, fun a ha b hb' => ?_⟩
      rw [List.mem_singleton] at hb'
      subst hb'
      obtain ⟨h1, h2⟩ := rem_mem.mp ha
      rw [hd a 7 h2 (by decide), ho]
      exact hlt a (List.mem_filter.mp (p1.mem_iff.mp h1)).1
    · have e1 : sLst M' L al' c tgt (15 + t) = rem c (L (15 + t)) := by
        unfold sLst
        rw [if_neg (by omega), if_neg hq]
      rw [e1]
      rw [decide_eq_false hq] at hb
      refine ⟨?_, hpo _ p2⟩
      rw [hflt _ _ (hin' (nI t)) hb]
      exact p1.filter _
  · by_cases hac : a = c
    · subst hac
      rw [ho, hd b 7 (Ne.symm hab) (by decide)]
      have := hlt b (hmem b hb (Ne.symm hab))
      intro q
      rw [q] at this
      exact Int32.lt_irrefl this
    · by_cases hbc : b = c
      · subst hbc
        rw [ho, hd a 7 hab (by decide)]
        have := hlt a (hmem a ha hab)
        intro q
        rw [q] at this
        exact Int32.lt_irrefl this
      · rw [hd a 7 hac (by decide), hd b 7 hbc (by decide)]
        exact hot a b (hmem a ha hac) (hmem b hb hbc) hab
  · rw [hu8]
    by_cases hac : a = c
    · subst hac
      rw [ho]
      exact ⟨h8, by omega⟩
    · rw [hd a 7 hac (by decide)]
      have := hon a (hmem a ha hac)
      exact ⟨this.1, by omega⟩
