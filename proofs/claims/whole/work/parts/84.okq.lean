/-! ===== what always holds, behind each call ===== -/
def okQ (B K : Nat) (P : pP) : Prop := wI (B + 500) (K + 886000) P.1 P.2 ∧ iX P.1 P.2
section OKQ
variable {B K : Nat} {P : pP}
theorem ok_up {Q : pP} {B' K' : Nat} (h : wI B' K' Q.1 Q.2) (hB : B' ≤ B + 500) (hK : K' ≤ K + 886000) (hX : iX Q.1 Q.2) : okQ B K Q := ⟨wI_mono hB hK h, hX⟩
theorem okT0 (hw : wI B K P.1 P.2) (hX : iX P.1 P.2) : okQ B K (T0 P) := ok_up (wI_T0 hw) (by omega) (by omega) hX
theorem okfl (hw : wI B K P.1 P.2) (hX : iX P.1 P.2) (n : Int32) : okQ B K (fl P n).2 := ok_up (wI_fl hw n) (by omega) (by omega) hX
theorem ok_carrier (hw : wI B K P.1 P.2) (hX : iX P.1 P.2) (c w : Int32) : okQ B K (qCarrier P c w).2 := by
  unfold qCarrier
  cases ixO c (nC P.1) <;> cases ixO w 7 <;> first | exact okT0 hw hX | exact okfl hw hX 1
theorem ok_count (hw : wI B K P.1 P.2) (hX : iX P.1 P.2) (w : Int32) : okQ B K (qCount P w).2 := by
  unfold qCount
  cases ixO w 9 <;> first | exact okT0 hw hX | exact okfl hw hX 1
theorem ok_station (hw : wI B K P.1 P.2) (hX : iX P.1 P.2) (c w : Int32) : okQ B K (qStation P c w).2 := by
  unfold qStation
  cases ixO c (nS P.1) <;> cases ixO w 6 <;> first | exact okT0 hw hX | exact okfl hw hX 1
theorem ok_tube (hw : wI B K P.1 P.2) (hX : iX P.1 P.2) (c w : Int32) : okQ B K (qTube P c w).2 := by
  unfold qTube
  cases ixO c (nT P.1) <;> cases ixO w 9 <;> first | exact okT0 hw hX | exact okfl hw hX 1
theorem ok_there (hw : wI B K P.1 P.2) (hX : iX P.1 P.2) (c w : Int32) : okQ B K (qThere P c w).2 := by
  unfold qThere
  cases ixO c (nS P.1) with
  | none => exact okfl hw hX 1
  | some a =>
    show okQ B K (match ixO w (P.2 (1 + a)).length with | some k => (nI ((P.2 (1 + a)).getD k 0), T0 P) | none => fl P 1).2
    cases ixO w (P.2 (1 + a)).length with
    | none => exact okfl hw hX 1
    | some k => exact okT0 hw hX
theorem ok_time (hw : wI B K P.1 P.2) (hX : iX P.1 P.2) (a b : Int32) : okQ B K (qTime P a b).2 := by
  unfold qTime
  cases ixO a (nS P.1) <;> cases ixO b (nS P.1) <;> first | exact okT0 hw hX | exact okfl hw hX 1
theorem ok_next (hw : wI B K P.1 P.2) (hX : iX P.1 P.2) (a b : Int32) : okQ B K (qNext P a b).2 := by
  unfold qNext
  cases ixO a (nS P.1) <;> cases ixO b (nS P.1) <;> first | exact okT0 hw hX | exact okfl hw hX 1
theorem ok_parts (hw : wI B K P.1 P.2) (hX : iX P.1 P.2) (t : Int32) : okQ B K (qParts P t).2 := by
  unfold qParts
  cases ixO t (nT P.1) <;> first | exact okT0 hw hX | exact okfl hw hX 1
theorem ok_turn (hw : wI B K P.1 P.2) (hX : iX P.1 P.2) (s w : Int32) : okQ B K (qTurn P s w).2 := by
  unfold qTurn
  have h14 := hw.1.1.2
  cases hx : ixO s (nS P.1) with
  | none => exact okfl hw hX 1
  | some i =>
    obtain ⟨-, hi⟩ := ixO_some (by omega) hx
    have hm := (hw.2.2.1 i hi).2.2.1.2
    show okQ B K (if (-1 : Int32) ≤ w ∧ w ≤ nI (mny P.1 i) - 1 then (P.1 1 (9 * i + 3), (mU (T0 P).1 1 (9 * i + 3) w, P.2)) else fl P 2).2
    by_cases hc : (-1 : Int32) ≤ w ∧ w ≤ nI (mny P.1 i) - 1
    · rw [if_pos hc]
      have hsw := sw_iff (m := mny P.1 i) (by omega) hc
      exact ok_up (Q := (mU (T0 P).1 1 (9 * i + 3) w, P.2)) (wI_sw (wI_T0 hw) hi hsw) (by omega) (by omega) hX
    · rw [if_neg hc]
      exact okfl hw hX 2
theorem ok_set (hw : wI B K P.1 P.2) (hX : iX P.1 P.2) (t sp op : Int32) : okQ B K (qSet P t sp op).2 := by
  unfold qSet
  have h30 := hw.1.2.1.2
  cases hx : ixO t (nT P.1) with
  | none => exact okfl hw hX 1
  | some i =>
    show okQ B K (if (1 : Int32) ≤ sp ∧ sp ≤ 6 then (P.1 2 (8 * i + 3), (mU (mU (T0 P).1 2 (8 * i + 3) sp) 2 (8 * i + 5) (if op = 0 then 0 else 1), P.2)) else fl P 2).2
    by_cases hc : (1 : Int32) ≤ sp ∧ sp ≤ 6
    · rw [if_pos hc]
      obtain ⟨k, k1, k6, rfl⟩ := rng_iff (a := 1) (b := 6) (by decide) (by decide) hc
      refine ok_up (Q := (mU (mU (T0 P).1 2 (8 * i + 3) (nI k)) 2 (8 * i + 5) (if op = 0 then 0 else 1), P.2)) (wI_op (wI_sp (wI_T0 hw) k1 k6) ?_) (by omega) (by omega) hX
      by_cases h0 : op = 0
      · exact Or.inl (if_pos h0)
      · exact Or.inr (if_neg h0)
    · rw [if_neg hc]
      exact okfl hw hX 2
theorem ok_send (hK : K + 1 < 2 ^ 31) (hw : wI B K P.1 P.2) (hX : iX P.1 P.2) (a b rk : Int32) : okQ B K (qSend P a b rk).2 := by
  unfold qSend
  have h14 := hw.1.1.2
  cases hx : ixO a (nS P.1) with
  | none => exact okfl hw hX 1
  | some i =>
    cases hy : ixO b (nS P.1) with
    | none => exact okfl hw hX 1
    | some k =>
      obtain ⟨ea, hi⟩ := ixO_some (by omega) hx
      obtain ⟨eb, hk⟩ := ixO_some (by omega) hy
      show okQ B K (if a = b then fl P 2 else if (0 : Int32) ≤ rk ∧ rk ≤ 3 then (if canS P.1 (P.2 (1 + i)).length i then (P.1 0 5, (sndM (T0 P).1 i b rk, sndL (T0 P).1 P.2 i b rk)) else fl P 3) else fl P 2).2
      by_cases hs : a = b
      · rw [if_pos hs]
        exact okfl hw hX 2
      · rw [if_neg hs]
        by_cases hc : (0 : Int32) ≤ rk ∧ rk ≤ 3
        · rw [if_pos hc]
          by_cases hcs : canS P.1 (P.2 (1 + i)).length i
          · rw [if_pos hcs]
            obtain ⟨c1, c2, c3⟩ := canS_spec hw hi hcs
            obtain ⟨j, -, j3, ej⟩ := rng_iff (a := 0) (b := 3) (by decide) (by decide) hc
            rw [eb, ej]
            refine ok_up (Q := (sndM (T0 P).1 i (nI k) (nI j), sndL (T0 P).1 P.2 i (nI k) (nI j))) (wI_snd (M := (T0 P).1) (L := P.2) hK (wI_T0 hw) hi hk j3 c1 c2 c3) (by omega) (by omega) (iX_snd (M := (T0 P).1) (L := P.2) hX (fun q => hs ?_))
            rw [u_nI (by omega)] at q
            rw [ea, eb, q]
          · rw [if_neg hcs]
            exact okfl hw hX 3
        · rw [if_neg hc]
          exact okfl hw hX 2
theorem ok_run (hB : B + 521 < 2 ^ 31) (hK : K + 886000 < 2 ^ 31) (hw : wI B K P.1 P.2) (hX : iX P.1 P.2) (n : Int32) : okQ B K (qRun P n).2 := by
  unfold qRun
  by_cases hc : (1 : Int32) ≤ n ∧ n ≤ 500
  · rw [if_pos hc]
    obtain ⟨k, k1, k5, ek⟩ := rng_iff (a := 1) (b := 500) (by decide) (by decide) hc
    have hu : u n = k := by rw [ek]; exact u_nI (by omega)
    rw [hu]
    have hm : 1772 * k ≤ 1772 * 500 := Nat.mul_le_mul_left _ k5
    obtain ⟨h1, -⟩ := sRun_inv (P := T0 P) k (by omega) (by omega) (wI_T0 hw)
    exact ok_up h1 (by omega) (by omega) (sRun_iX (P := T0 P) (wI_T0 hw) hX k (by omega) (by omega))
  · rw [if_neg hc]
    exact okfl hw hX 1
theorem ok_addStation (hw : wI B K P.1 P.2) (hX : iX P.1 P.2) (room handling : Int32) : okQ B K (qAddStation P room handling).2 := by
  unfold qAddStation
  by_cases c1 : (1 : Int32) ≤ room ∧ room ≤ 9
  · rw [if_pos c1]
    by_cases c2 : (0 : Int32) ≤ handling ∧ handling ≤ 20
    · rw [if_pos c2]
      by_cases c3 : P.1 0 2 = 14
      · rw [if_pos c3]
        exact okfl hw hX 2
      · rw [if_neg c3]
        exact ok_up (Q := (aStM (T0 P).1 room handling, P.2)) (wI_aSt (M := (T0 P).1) (wI_T0 hw) c1 c2 c3).1 (by omega) (by omega) hX
    · rw [if_neg c2]
      exact okfl hw hX 1
  · rw [if_neg c1]
    exact okfl hw hX 1
theorem ok_addTube (hw : wI B K P.1 P.2) (hX : iX P.1 P.2) (fr to len sp bo : Int32) : okQ B K (qAddTube P fr to len sp bo).2 := by
  unfold qAddTube
  have h14 := hw.1.1.2
  cases hx : ixO fr (nS P.1) with
  | none => exact okfl hw hX 1
  | some i =>
    cases hy : ixO to (nS P.1) with
    | none => exact okfl hw hX 1
    | some k =>
      obtain ⟨ea, hi⟩ := ixO_some (by omega) hx
      obtain ⟨eb, hk⟩ := ixO_some (by omega) hy
      show okQ B K (if fr = to then fl P 2 else if (1 : Int32) ≤ len ∧ len ≤ 60 then (if (1 : Int32) ≤ sp ∧ sp ≤ 6 then (if (1 : Int32) ≤ bo ∧ bo ≤ 8 then (if P.1 0 3 = 30 then fl P 3 else if P.1 1 (9 * i + 2) = 4 then fl P 3 else (P.1 0 3, (aTuM (T0 P).1 i fr to len sp bo, P.2))) else fl P 2) else fl P 2) else fl P 2).2
      by_cases c0 : fr = to
      · rw [if_pos c0]
        exact okfl hw hX 2
      · rw [if_neg c0]
        by_cases c1 : (1 : Int32) ≤ len ∧ len ≤ 60
        · rw [if_pos c1]
          by_cases c2 : (1 : Int32) ≤ sp ∧ sp ≤ 6
          · rw [if_pos c2]
            by_cases c3 : (1 : Int32) ≤ bo ∧ bo ≤ 8
            · rw [if_pos c3]
              by_cases c4 : P.1 0 3 = 30
              · rw [if_pos c4]
                exact okfl hw hX 3
              · rw [if_neg c4]
                by_cases c5 : P.1 1 (9 * i + 2) = 4
                · rw [if_pos c5]
                  exact okfl hw hX 3
                · rw [if_neg c5]
                  rw [ea, eb] at c0 ⊢
                  exact ok_up (Q := (aTuM (T0 P).1 i (nI i) (nI k) len sp bo, P.2)) (wI_aTu (M := (T0 P).1) (wI_T0 hw) hi hk c0 c1 c2 c3 c4 c5).1 (by omega) (by omega) hX
            · rw [if_neg c3]
              exact okfl hw hX 2
          · rw [if_neg c2]
            exact okfl hw hX 2
        · rw [if_neg c1]
          exact okfl hw hX 2
theorem ok_addEntry (hw : wI B K P.1 P.2) (hX : iX P.1 P.2) (first period sort what how : Int32) : okQ B K (qAddEntry P first period sort what how).2 := by
  unfold qAddEntry
  by_cases c1 : first ≤ P.1 0 1
  · rw [if_pos c1]
    exact okfl hw hX 1
  · rw [if_neg c1]
    by_cases c2 : (100000 : Int32) < first
    · rw [if_pos c2]
      exact okfl hw hX 1
    · rw [if_neg c2]
      by_cases c3 : (0 : Int32) ≤ period ∧ period ≤ 500
      · rw [if_pos c3]
        by_cases c4 : (0 : Int32) ≤ sort ∧ sort ≤ 2
        · rw [if_pos c4]
          by_cases c5 : deedOK P sort what how
          · rw [if_pos c5]
            by_cases c6 : P.1 0 4 = 12
            · rw [if_pos c6]
              exact okfl hw hX 3
            · rw [if_neg c6]
              exact ok_up (Q := (aEnM (T0 P).1 first period sort what how, P.2)) (wI_aEn (M := (T0 P).1) (L := P.2) (wI_T0 hw) c1 c2 c3 c4 c5 c6).1 (by omega) (by omega) hX
          · rw [if_neg c5]
            exact okfl hw hX 2
        · rw [if_neg c4]
          exact okfl hw hX 1
      · rw [if_neg c3]
        exact okfl hw hX 1
end OKQ
