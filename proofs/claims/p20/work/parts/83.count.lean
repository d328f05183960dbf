/-! ===== counting carriers ===== -/
theorem len_cnt : ∀ (n : Nat) (l : List Nat) (p : Nat → Bool), l.Nodup → (∀ c, c ∈ l ↔ c < n ∧ p c = true) → l.length = cnt p n
  | 0, l, p, _, h => by
    have : l = [] := List.eq_nil_iff_forall_not_mem.mpr (fun c hc => Nat.not_lt_zero _ ((h c).mp hc).1)
    rw [this]
    rfl
  | n + 1, l, p, hn, h => by
    show l.length = cnt p n + if p n = true then 1 else 0
    by_cases hp : p n = true
    · have hm : n ∈ l := (h n).mpr ⟨by omega, hp⟩
      have hl := (perm_rem hn hm).length_eq
      rw [List.length_cons] at hl
      have hr := len_cnt n (rem n l) p (hn.filter _) (fun c => by
        rw [rem_mem, h c]
        constructor
        · rintro ⟨⟨h1, h2⟩, h3⟩
          exact ⟨by omega, h2⟩
        · rintro ⟨h1, h2⟩
          exact ⟨⟨by omega, h2⟩, by omega⟩)
      rw [if_pos hp, hl, hr]
    · rw [if_neg hp, len_cnt n l p hn (fun c => by
        rw [h c]
        constructor
        · rintro ⟨h1, h2⟩
          refine ⟨?_, h2⟩
          by_cases e : c = n
          · rw [e] at h2
            exact absurd h2 hp
          · omega
        · rintro ⟨h1, h2⟩
          exact ⟨by omega, h2⟩)]
      rfl
section COUNT
variable {M : Nat → Nat → Int32} {L : Nat → List Nat} {F : Nat → Nat} {B K : Nat}
/-- those at a station are the carriers with its number -/
theorem at_cnt (hw : wI B K M L) (h : jI M L F) {s : Nat} (hs : s < 14) : (L (1 + s)).length = cnt (atS M (nI s)) (nC M) := by
  refine len_cnt _ _ _ (w_ndS hw hs) (fun c => ?_)
  rw [(hw.2.2.2.2.2.2.1.1 s hs).1.mem_iff, List.mem_filter]
  constructor
  · rintro ⟨h1, h2⟩
    exact ⟨hw.2.2.2.2.1.2.2.2.2.1 c h1, h2⟩
  · rintro ⟨h1, h2⟩
    refine ⟨?_, h2⟩
    rw [(h.1 c h1).2.2.2, (atS_iff.mp h2).1]
    decide
theorem in_cnt (hw : wI B K M L) (h : jI M L F) {t : Nat} (ht : t < 30) : (L (15 + t)).length = cnt (inT M (nI t)) (nC M) := by
  refine len_cnt _ _ _ (w_ndT hw ht) (fun c => ?_)
  rw [(hw.2.2.2.2.2.2.1.2 t ht).1.mem_iff, List.mem_filter]
  constructor
  · rintro ⟨h1, h2⟩
    exact ⟨hw.2.2.2.2.1.2.2.2.2.1 c h1, h2⟩
  · rintro ⟨h1, h2⟩
    refine ⟨?_, h2⟩
    rw [(h.1 c h1).2.2.2, (inT_iff.mp h2).1]
    decide
/-- a carrier in a tube is in its list -/
theorem in_mem (hw : wI B K M L) (h : jI M L F) {t c : Nat} (ht : t < 30) (hc : c < nC M) (h0 : M 4 (9 * c + 0) = 2) (h1 : M 4 (9 * c + 1) = nI t) : c ∈ L (15 + t) := by
  rw [(hw.2.2.2.2.2.2.1.2 t ht).1.mem_iff, List.mem_filter]
  refine ⟨?_, inT_iff.mpr ⟨h0, h1⟩⟩
  rw [(h.1 c hc).2.2.2, h0]
  decide
/-- no two in a tube entered it at one tick -/
theorem in_dist (h : jI M L F) {t c d : Nat} (ht : t < nT M) (hc : c ∈ L (15 + t)) (hd : d ∈ L (15 + t)) (hcd : c ≠ d) : tauM M c ≠ tauM M d := by
  have hp := (h.2.2.1 t ht).2
  intro e
  obtain ⟨i, hi, ei⟩ := List.getElem_of_mem hc
  obtain ⟨j, hj, ej⟩ := List.getElem_of_mem hd
  rcases Nat.lt_trichotomy i j with q | q | q
  · have := List.pairwise_iff_getElem.mp hp i j hi hj q
    rw [ei, ej] at this
    omega
  · subst q
    rw [ei] at ej
    exact hcd ej
  · have := List.pairwise_iff_getElem.mp hp j i hj hi q
    rw [ei, ej] at this
    omega
end COUNT
section STA2
theorem sArr_sta {t : Nat} : ∀ (I : List Nat) (P : pP), sta P.1 (sArr t I P).1
  | [], P => sta_rf _
  | c :: rest, P => by
    unfold sArr
    by_cases hd : dueM P.1 c
    · rw [if_pos hd]
      by_cases ha : P.1 4 (9 * c + 2) = P.1 2 (8 * t + 1)
      · rw [if_pos ha]
        exact sta_tr (sta_del _ _) (sArr_sta rest _)
      · rw [if_neg ha]
        by_cases hr : nI (P.2 (1 + tTo P.1 t)).length < P.1 1 (9 * tTo P.1 t + 0)
        · rw [if_pos hr]
          exact sta_tr (sta_mov _ _) (sArr_sta rest _)
        · rw [if_neg hr]
          exact sta_rf _
    · rw [if_neg hd]
      exact sta_rf _
theorem sArrN_sta (P : pP) : ∀ k, sta P.1 (sArrN P k).1
  | 0 => sta_rf _
  | k + 1 => sta_tr (sArrN_sta P k) (sArr_sta _ _)
theorem sDep_sta {s : Nat} : ∀ (l : List Nat) (P : pP), sta P.1 (sDep s l P).1
  | [], P => sta_rf _
  | c :: rest, P => by
    unfold sDep
    by_cases hg : goD P s c
    · rw [if_pos hg]
      exact sta_tr (sta_ent _ _) (sDep_sta rest _)
    · rw [if_neg hg]
      exact sDep_sta rest P
theorem sDepN_sta (P : pP) : ∀ k, sta P.1 (sDepN P k).1
  | 0 => sta_rf _
  | k + 1 => sta_tr (sDepN_sta P k) (sDep_sta _ _)
theorem sTick_sta {P : pP} (hE : nE P.1 = 0) : sta P.1 (sTick P).1 := by
  have h2 : sta P.1 (sTk2 P).1 := by
    unfold sTk2
    rw [hE]
    exact sta_tk _
  exact sta_tr h2 (sta_tr (sArrN_sta _ _) (sDepN_sta _ _))
end STA2
