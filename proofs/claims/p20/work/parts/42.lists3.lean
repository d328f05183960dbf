section LISTS3
variable {S : bS} {l e c : Nat} {xs : List Nat}
theorem C_put {X : bS} (h : isLe X l e xs c) (hc : xs.length < c) {k a : Nat} (hk : k ≤ xs.length) (ha : 2 ≤ gK X a ∧ gK X a ≤ 6) {mc ms : Nat} {post : bS → Prop} (hp : ∀ S', isLe S' l e (xs.take k ++ a :: xs.drop k) c → oF l e X S' → post S') : wb_Jx4a65c_add_7a177_38 post mc ms l (nI k) a (nI xs.length) e X := by
  have h0 := h
  obtain ⟨h1, h2, h3, h4, h5', h6, h7⟩ := h
  have h4' : 10 ≤ c ∧ gK X e = 11 ∧ gN X e = c := by
    rcases h4 with ⟨q, -⟩ | q
    · omega
    · exact q
  have e1 : Int32.toNatClampNeg (nI xs.length - nI k) = xs.length - k := by
    rw [pk_sub hk, nI_clamp (by omega)]
  unfold wb_Jx4a65c_add_7a177_38
  rw [e1, nI_1, nI_1, nI_clamp (n := k) (by omega), nI_clamp (n := k + 1) (by omega)]
  refine ⟨h4'.2.1, ⟨nI_pos (by omega), nI_pos (by omega), ?_, ?_, ?_⟩, fun i hi b hb => ?_, ?_, ha, h1, hp _ (isLe_ins h0 hc hk ha) (oF_V (oF_Q (oF_G (oF_rf l e X))))⟩
  · rw [pk_sub hk]
    exact nI_pos (by omega)
  · rw [h4'.2.2]; omega
  · rw [h4'.2.2]; omega
  · have hx : xs[k + i]? = some xs[k + i] := List.getElem?_eq_getElem (by omega)
    obtain ⟨y1, y2⟩ := h7 _ _ hx
    rw [y1] at hb
    cases hb
    exact y2
  · rw [gN_sG, h4'.2.2]
    exact vp_in_nI (by omega) (by omega)
theorem C_insert (hz : ∀ a b, gK S a = 14 → gK S b = 14 → a = b) (h : isLe S l e xs c) {a k : Nat} (hk : k ≤ xs.length) (ha : 2 ≤ gK S a ∧ gK S a ≤ 6) (h5 : xs.length ≤ 499) {MC MS : Nat} (hMC : cpB xs.length c ≤ MC) (hMS : cpB xs.length c ≤ MS) {post : bS → Prop} (hp : ∀ S' e', isLe S' l e' (xs.take k ++ a :: xs.drop k) (cp1 xs.length c) → (e' = e ∨ gK S e' = 0) → oF l e S S' → post S') : wp_Jx4a65c_add_7a177 post MC MS l (nI k) a S := by
  have h0 := h
  obtain ⟨h1, h2, h3, h4, h5', h6, h7⟩ := h
  have hA : isLe (sV S 1 l 0 (gV S 1 l 0 + 1)) l e xs c := isLe_V0 h0
  have oA : oF l e S (sV S 1 l 0 (gV S 1 l 0 + 1)) := oF_V (oF_rf l e S)
  refine ⟨h1, h1, fun q => ?_, fun _ => ⟨fun _ => ⟨h1, e, h3, ?_⟩, fun q => absurd (nI_pos' (by omega)) q⟩⟩
  · rw [h2] at q
    exact absurd q (Int32.not_lt.mpr (nI_le hk (by omega)))
  · have hz' : ∀ a b, gK (sV S 1 l 0 (gV S 1 l 0 + 1)) a = 14 → gK (sV S 1 l 0 (gV S 1 l 0 + 1)) b = 14 → a = b := hz
    obtain ⟨X, hX⟩ : ∃ X, X = sV S 1 l 0 (gV S 1 l 0 + 1) := ⟨_, rfl⟩
    rw [← hX] at hA hz' oA ⊢
    have kX : ∀ b, gK X b = gK S b := fun b => by rw [hX]; rfl
    have hA0 := hA
    obtain ⟨x1, x2, x3, x4, x5, x6, x7⟩ := hA
    rw [x2]
    have eN : Int32.ofNat (gN X e) = nI c := by
      rcases x4 with ⟨q0, -, q⟩ | ⟨-, -, q⟩
      · rw [q, q0]; rfl
      · rw [q]; rfl
    rw [eN]
    have glue : ∀ {S' : bS}, oF l e X S' → oF l e S S' := by
      intro S' o3
      obtain ⟨b1, b2, b3⟩ := o3
      obtain ⟨d1, d2, d3⟩ := oA
      refine ⟨lF_tr d1 b1, fun a' j ha' hl' => ?_, fun b j hb hbe => ?_⟩
      · obtain ⟨r1, r2⟩ := b2 a' j (by rw [kX]; exact ha') hl'
        obtain ⟨r3, r4⟩ := d2 a' j ha' hl'
        exact ⟨r1.trans r3, r2.trans r4⟩
      · exact (b3 b j (by rw [kX]; exact hb) hbe).trans (d3 b j hb hbe)
    refine ⟨?_, fun hne => ?_, fun he => ?_⟩
    · rcases x4 with ⟨-, q, -⟩ | ⟨-, q, -⟩
      · exact Or.inr q
      · exact Or.inl q
    · have hlt : xs.length < c := by
        rcases Nat.lt_or_ge xs.length c with q | q
        · exact q
        · exact absurd (by rw [show xs.length = c by omega]) hne
      refine C_put hA0 hlt hk (by rw [kX]; exact ha) (fun S' i1 i2 => hp S' e ?_ (Or.inl rfl) (glue i2))
      rw [show cp1 xs.length c = c by unfold cp1; rw [if_neg (by omega)]]
      exact i1
    · have hf : xs.length = c := (nI_eq (by omega) (by omega)).mp he
      have hB : cpB xs.length c = nx c := by unfold cpB; rw [if_pos hf]
      rw [hB] at hMC hMS
      have hnx : 1 ≤ nx c := by
        unfold nx
        split <;> omega
      refine ⟨MC, MS, Nat.le_refl _, Nat.le_refl _, C_grow hz' hA0 hf h5 (by omega) hMS (fun S' q g1 g2 g3 g4 g5 g6 g6b g7 g8 g9 => ⟨q, rfl, ?_⟩)⟩
      obtain ⟨y1, y2, y3⟩ := grown hA0 hf h5 g1 g2 g3 g4 g5 g6 g6b g7 g8 g9
      have ka : 2 ≤ gK S' a ∧ gK S' a ≤ 6 := by
        rw [(g6 a (by rw [kX]; omega)).1, kX]
        exact ha
      refine C_put y1 y3 hk ka (fun S'' i1 i2 => hp S'' q ?_ (Or.inr (by rw [← kX]; exact g1)) (glue ?_))
      · rw [show cp1 xs.length c = nx c by unfold cp1; rw [if_pos hf]]
        exact i1
      · obtain ⟨b1, b2, b3⟩ := i2
        obtain ⟨d1, d2, d3⟩ := y2
        have live : ∀ b, gK X b ≠ 0 → gK S' b ≠ 0 := fun b hb => by rw [(g6 b hb).1]; exact hb
        refine ⟨lF_tr d1 b1, fun a' j ha' hl' => ?_, fun b j hb hbe => ?_⟩
        · obtain ⟨r1, r2⟩ := b2 a' j (live _ ha') hl'
          obtain ⟨r3, r4⟩ := d2 a' j ha' hl'
          exact ⟨r1.trans r3, r2.trans r4⟩
        · exact (b3 b j (live _ hb) (fun x => hb (x ▸ g1))).trans (g8 11 b j hb (fun x => by cases x.1))
/-- an element taken away -/
theorem C_remove (h : isLe S l e xs c) {k a : Nat} (hk : xs[k]? = some a) {post : Option Nat → bS → Prop} (hp : ∀ S', isLe S' l e (xs.eraseIdx k) c → oF l e S S' → post (some a) S') : wp_Jx4a65c_remove_915e3 post l (nI k) S := by
  have hl := isLe_len h
  have hkl := (List.getElem?_eq_some_iff.mp hk).1
  have h0 := h
  obtain ⟨h1, h2, h3, h4, h5, h6, h7⟩ := h
  obtain ⟨x1, -, -⟩ := h7 k a hk
  have h4' : 10 ≤ c ∧ gK S e = 11 ∧ gN S e = c := by
    rcases h4 with ⟨q, -⟩ | q
    · omega
    · exact q
  have hel : (xs.eraseIdx k).length = xs.length - 1 := List.length_eraseIdx_of_lt hkl
  have hsz : gV (sV S 1 l 0 (gV S 1 l 0 + 1)) 1 l 2 - 1 = nI (xs.length - 1) := by
    rw [gV_sV, if_neg (fun x => by cases x.2.2), h2]
    obtain ⟨n, hn⟩ : ∃ n, xs.length = n + 1 := ⟨xs.length - 1, by omega⟩
    rw [hn, nI_pred]
    rfl
  refine ⟨h1, ⟨fun q => absurd q (nI_pos (by omega)), fun _ => ⟨fun _ => ⟨h1, e, h3, h4'.2.1, ?_, a, ?_, h1, ?_⟩, fun q => ?_⟩⟩⟩
  · rw [h4'.2.2]
    exact vp_in_nI (by omega) (by omega)
  · rw [nI_clamp (by omega)]
    exact x1
  · rw [hsz]
    refine ⟨fun hle => ?_, fun hgt => ⟨h4'.2.1, ?_⟩⟩
    · have hkk : k = xs.length - 1 := by
        have := (nI_leI (by omega) (by omega)).mp hle
        omega
      refine ⟨h1, h4'.2.1, ?_, ?_⟩
      · rw [gN_sV, gN_sV, h4'.2.2]
        exact vp_in_nI (by omega) (by omega)
      · rw [nI_clamp (by omega)]
        refine hp _ ⟨h1, ?_, ?_, h4, by omega, h6, fun i b hi => ?_⟩ (oF_Q (oF_V (oF_V (oF_rf l e S))))
        · rw [gV_sQ, gV_sV, if_pos ⟨rfl, rfl, rfl⟩, hel]
        · rw [gQ_sQ, if_neg (fun x => by cases x.1)]
          exact h3
        · have hil := (List.getElem?_eq_some_iff.mp hi).1
          rw [hel] at hil
          rw [List.getElem?_eraseIdx_of_lt (by omega)] at hi
          show gQ (sQ (sV (sV S 1 l 0 (gV S 1 l 0 + 1)) 1 l 2 (nI (xs.length - 1))) 11 e (xs.length - 1) none) 11 e i = some b ∧ 2 ≤ gK S b ∧ gK S b ≤ 6
          rw [gQ_sQ, if_neg (fun x => by omega)]
          exact h7 i b hi
    · have hkk : k < xs.length - 1 := by
        rcases Nat.lt_or_ge k (xs.length - 1) with q | q
        · exact q
        · exact absurd (nI_le q (by omega)) hgt
      have e1 : Int32.toNatClampNeg (nI (xs.length - 1) - nI k) = xs.length - 1 - k := by
        rw [pk_sub (by omega), nI_clamp (by omega)]
      rw [e1, nI_1, nI_clamp (n := k) (by omega), nI_clamp (n := k + 1) (by omega)]
      refine ⟨⟨nI_pos (by omega), nI_pos (by omega), ?_, ?_, ?_⟩, fun i hi b hb => ?_, h1, h4'.2.1, ?_, ?_⟩
      · rw [pk_sub (by omega)]
        exact nI_pos (by omega)
      · rw [gN_sV, h4'.2.2]; omega
      · rw [gN_sV, h4'.2.2]; omega
      · have hx : xs[k + 1 + i]? = some xs[k + 1 + i] := List.getElem?_eq_getElem (by omega)
        obtain ⟨y1, y2⟩ := h7 _ _ hx
        have hb' : gQ S 11 e (k + 1 + i) = some b := hb
        rw [y1] at hb'
        cases hb'
        exact y2
      · rw [gN_sV, gN_sG, gN_sV, h4'.2.2]
        exact vp_in_nI (by omega) (by omega)
      · rw [nI_clamp (n := xs.length - 1) (by omega)]
        refine hp _ ⟨h1, ?_, ?_, h4, by omega, h6, fun i b hi => ?_⟩ (oF_Q (oF_V (oF_G (oF_V (oF_rf l e S)))))
        · rw [gV_sQ, gV_sV, if_pos ⟨rfl, rfl, rfl⟩, hel]
        · rw [gQ_sQ, if_neg (fun x => by cases x.1), gQ_sV, gQ_sG, if_neg (fun x => by cases x.1)]
          exact h3
        · have hil := (List.getElem?_eq_some_iff.mp hi).1
          rw [hel] at hil
          show gQ (sQ (sV (sG (sV S 1 l 0 (gV S 1 l 0 + 1)) 11 e (va_cpy (gQ S 11 e) (gQ S 11 e) (k + 1) k (xs.length - 1 - k))) 1 l 2 (nI (xs.length - 1))) 11 e (xs.length - 1) none) 11 e i = some b ∧ 2 ≤ gK S b ∧ gK S b ≤ 6
          rw [gQ_sQ, if_neg (fun x => by omega), gQ_sV, gQ_sG, if_pos ⟨rfl, rfl⟩]
          by_cases q : i < k
          · rw [List.getElem?_eraseIdx_of_lt q] at hi
            rw [pk_cpy_out (Or.inl q)]
            exact h7 i b hi
          · rw [List.getElem?_eraseIdx_of_ge (by omega)] at hi
            rw [pk_cpy_in (by omega) (by omega), show k + 1 + (i - k) = i + 1 by omega]
            exact h7 _ b hi
  · rw [h2] at q
    exact absurd (nI_lt hkl (by omega)) q
end LISTS3
