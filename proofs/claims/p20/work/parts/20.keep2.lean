theorem mRow_r {M : Nat → Nat → Int32} {i i' j : Nat} {f : Nat → Int32} (h : i' ≠ i) : mRow M i f i' j = M i' j := if_neg h
theorem nodup_le : ∀ (n : Nat) (l : List Nat), l.Nodup → (∀ x, x ∈ l → x < n) → l.length ≤ n
  | 0, l, _, h => by
    cases l with
    | nil => exact Nat.le_refl _
    | cons a l => exact absurd (h a List.mem_cons_self) (Nat.not_lt_zero a)
  | n + 1, l, hn, h => by
    have h1 := nodup_le n (rem n l) (hn.filter _) (fun x hx => by
      obtain ⟨h1, h2⟩ := rem_mem.mp hx
      have := h x h1
      omega)
    by_cases hm : n ∈ l
    · have := rem_len hn hm
      omega
    · rw [rem_no hm] at h1
      omega
/-- a carrier goes into a tube -/
def entM (M : Nat → Nat → Int32) (c t : Nat) : Nat → Nat → Int32 := mU (mU (mU (mU (pM M c 2 (nI t)) 4 (9 * c + 8) (nI (thr M t))) 4 (9 * c + 6) (M 4 (9 * c + 6) + 1)) 2 (8 * t + 6) (M 2 (8 * t + 6) + 1)) 2 (8 * t + 7) (M 0 1)
def entL (M : Nat → Nat → Int32) (L : Nat → List Nat) (c t : Nat) : Nat → List Nat := sLst (entM M c t) L (L 0) c (15 + t)
theorem wI_ent {B K : Nat} {M : Nat → Nat → Int32} {L : Nat → List Nat} (hK : K + 1 < 2 ^ 31) (h : wI B K M L) {c t : Nat} (hc : c ∈ L 0) (ht : t < nT M) (hr : (L (15 + t)).length < tBo M t) : wI B (K + 1) (entM M c t) (entL M L c t) := by
  obtain ⟨hN, hT, hS, hE, ⟨a1, a2, a3, a4, a5, a6, a7, a8⟩, hC, hL, hR⟩ := h
  have h14 := hN.1.2
  have h30 := hN.2.1.2
  obtain ⟨g1, g2⟩ := hat_2 (M' := entM M c t) (c := c) (t := t) (by simp (disch := omega) only [entM, pM, mU_s, mU_r, mU_c]) (by simp (disch := omega) only [entM, pM, mU_s, mU_r, mU_c]) (by omega)
  obtain ⟨p1, p2, p3⟩ := put_inv (M' := entM M c t) (al' := L 0) (c := c) (tgt := 15 + t) hL a4 a7 a8 a2.1 (by omega) (fun d w hd hw => by simp (disch := omega) only [entM, pM, mU_r, mU_c]) (by simp (disch := omega) only [entM, pM, mU_s, mU_r, mU_c]) (by simp (disch := omega) only [entM, pM, mU_s, mU_r]) g1 g2 a4 rfl (fun _ => hc)
  have e8 : entM M c t 0 8 = M 0 8 + 1 := by simp (disch := omega) only [entM, pM, mU_s, mU_r]
  have eo : ∀ j, j ≠ 8 → entM M c t 0 j = M 0 j := fun j hj => by simp (disch := omega) only [entM, pM, mU_r, mU_c]
  have e2 : ∀ t' w, w < 6 → entM M c t 2 (8 * t' + w) = M 2 (8 * t' + w) := fun t' w hw => by simp (disch := omega) only [entM, pM, mU_r, mU_c]
  have e1 : ∀ j, entM M c t 1 j = M 1 j := fun j => by simp (disch := omega) only [entM, pM, mU_r]
  have e3 : ∀ j, entM M c t 3 j = M 3 j := fun j => by simp (disch := omega) only [entM, pM, mU_r]
  have e5 : ∀ j, entM M c t 5 j = M 5 j := fun j => by simp (disch := omega) only [entM, pM, mU_r]
  refine ⟨iN_fr hN (eo 2 (by decide)) (eo 3 (by decide)) (eo 4 (by decide)) (eo 5 (by decide)), iT_fr hT (eo 2 (by decide)) (eo 3 (by decide)) e2, iS_fr hS (eo 2 (by decide)) (eo 3 (by decide)) (fun _ _ _ _ => e1 _), iE_fr hE (eo 2 (by decide)) (eo 3 (by decide)) (eo 4 (by decide)) (fun _ => e1 _) e3, ⟨?_, ?_, ?_, a4, ?_, ?_, p2, p3⟩, ?_, p1, iR_put h14 h30 hR (eo 2 (by decide)) (eo 3 (by decide)) (fun _ => e1 _) (fun t' => e2 t' 4 (by decide)) (Or.inr (Or.inr ⟨t, ht, rfl, hr⟩))⟩
  · rw [eo 1 (by decide)]; exact a1
  · rw [e8, a2.1, nI_1, u_nI (by omega)]
    exact ⟨rfl, by omega⟩
  · exact ⟨by rw [eo 14 (by decide)]; exact a3.1, a3.2.1, fun k d hk => by rw [e5]; exact a3.2.2 k d hk⟩
  · intro d hd
    have := a5 d hd
    unfold nC at *
    rw [eo 5 (by decide)]
    exact this
  · unfold nC at *
    rw [eo 6 (by decide), eo 5 (by decide)]
    exact a6
  · refine iC_fr hC (eo 2 (by decide)) (eo 5 (by decide)) (eo 1 (by decide)) a1.1 (fun d w hw => ?_) (fun d => ?_)
    · rcases hw with rfl | rfl <;> simp (disch := omega) only [entM, pM, mU_r, mU_c]
    · by_cases q : d = c
      · subst q
        exact Or.inr (by simp (disch := omega) only [entM, pM, mU_s, mU_r, mU_c])
      · exact Or.inl (by simp (disch := omega) only [entM, pM, mU_s, mU_r, mU_c])
def delL (M : Nat → Nat → Int32) (L : Nat → List Nat) (c : Nat) : Nat → List Nat := sLst (delM M (L 0) c) L (rem c (L 0)) c 0
theorem wI_del {B K : Nat} {M : Nat → Nat → Int32} {L : Nat → List Nat} (hK : K + 1 < 2 ^ 31) (h : wI B K M L) {c : Nat} (hc : c ∈ L 0) : wI B (K + 1) (delM M (L 0) c) (delL M L c) := by
  obtain ⟨hN, hT, hS, hE, ⟨a1, a2, a3, a4, a5, a6, a7, a8⟩, hC, hL, hR⟩ := h
  have h14 := hN.1.2
  have h30 := hN.2.1.2
  have h500 := hN.2.2.2.2
  obtain ⟨hca, -, -⟩ := hC c (a5 c hc)
  obtain ⟨g1, g2⟩ := hat_3 (M' := delM M (L 0) c) (c := c) (by simp (disch := omega) only [delM, pM, mU_s, mU_r, mU_c, mRow_r])
  have hnd' : (rem c (L 0)).Nodup := a4.filter _
  have hlen := rem_len a4 hc
  have hle := nodup_le _ _ a4 a5
  obtain ⟨p1, p2, p3⟩ := put_inv (M' := delM M (L 0) c) (al' := rem c (L 0)) (c := c) (tgt := 0) hL a4 a7 a8 a2.1 (by omega) (fun d w hd hw => by simp (disch := omega) only [delM, pM, mU_r, mU_c, mRow_r]) (by simp (disch := omega) only [delM, pM, mU_s, mU_r, mU_c, mRow_r]) (by simp (disch := omega) only [delM, pM, mU_s, mU_r, mU_c, mRow_r]) g1 g2 hnd' (rem_no (fun q => (rem_mem.mp q).2 rfl)) (fun q => absurd rfl q)
  have e8 : delM M (L 0) c 0 8 = M 0 8 + 1 := by simp (disch := omega) only [delM, pM, mU_s, mU_r, mU_c, mRow_r]
  have eo : ∀ j, j ≠ 8 → j ≠ 6 → j ≠ 7 → j ≠ 14 → delM M (L 0) c 0 j = M 0 j := fun j _ _ _ _ => by simp (disch := omega) only [delM, pM, mU_r, mU_c, mRow_r]
  have e2 : ∀ j, delM M (L 0) c 2 j = M 2 j := fun j => by simp (disch := omega) only [delM, pM, mU_r, mU_c, mRow_r]
  have e1 : ∀ s w, w < 9 → w ≠ 4 → delM M (L 0) c 1 (9 * s + w) = M 1 (9 * s + w) := fun s w _ _ => by simp (disch := omega) only [delM, pM, mU_r, mU_c, mRow_r]
  have e3 : ∀ j, delM M (L 0) c 3 j = M 3 j := fun j => by simp (disch := omega) only [delM, pM, mU_r, mRow_r]
  have e5 : ∀ j, delM M (L 0) c 5 j = rowL (rem c (L 0)) (M 5) j := fun j => by simp (disch := omega) only [delM, pM, mU_r, mRow_s]
  refine ⟨iN_fr hN (eo 2 (by decide) (by decide) (by decide) (by decide)) (eo 3 (by decide) (by decide) (by decide) (by decide)) (eo 4 (by decide) (by decide) (by decide) (by decide)) (eo 5 (by decide) (by decide) (by decide) (by decide)), iT_fr hT (eo 2 (by decide) (by decide) (by decide) (by decide)) (eo 3 (by decide) (by decide) (by decide) (by decide)) (fun _ _ _ => e2 _), iS_fr hS (eo 2 (by decide) (by decide) (by decide) (by decide)) (eo 3 (by decide) (by decide) (by decide) (by decide)) e1, iE_fr hE (eo 2 (by decide) (by decide) (by decide) (by decide)) (eo 3 (by decide) (by decide) (by decide) (by decide)) (eo 4 (by decide) (by decide) (by decide) (by decide)) (fun s => e1 s 2 (by decide) (by decide)) e3, ⟨?_, ?_, ⟨?_, ?_, ?_⟩, hnd', ?_, ?_, p2, p3⟩, ?_, p1, iR_put h14 h30 hR (eo 2 (by decide) (by decide) (by decide) (by decide)) (eo 3 (by decide) (by decide) (by decide) (by decide)) (fun s => e1 s 0 (by decide) (by decide)) (fun t' => e2 _) (Or.inl rfl)⟩
  · rw [eo 1 (by decide) (by decide) (by decide) (by decide)]; exact a1
  · rw [e8, a2.1, nI_1, u_nI (by omega)]
    exact ⟨rfl, by omega⟩
  · show delM M (L 0) c 0 14 = nI (rem c (L 0)).length
    simp only [delM, mU_s]
  · show (rem c (L 0)).length ≤ 40
    have := a3.2.1
    omega
  · intro k d hk
    have hk : (rem c (L 0))[k]? = some d := hk
    rw [e5]
    refine ⟨rowL_Qu _ _ k d hk, ?_⟩
    have := a5 d (rem_mem.mp (List.mem_of_getElem? hk)).1
    omega
  · intro d hd
    have hd : d ∈ rem c (L 0) := hd
    have := a5 d (rem_mem.mp hd).1
    unfold nC at *
    rw [eo 5 (by decide) (by decide) (by decide) (by decide)]
    exact this
  · show delM M (L 0) c 0 6 = nI (nC (delM M (L 0) c) - (rem c (L 0)).length)
    have e6 : delM M (L 0) c 0 6 = M 0 6 + 1 := by simp (disch := omega) only [delM, pM, mU_s, mU_r, mU_c, mRow_r]
    unfold nC at *
    rw [e6, eo 5 (by decide) (by decide) (by decide) (by decide), a6, nI_1]
    congr 1
    omega
  · refine iC_fr hC (eo 2 (by decide) (by decide) (by decide) (by decide)) (eo 5 (by decide) (by decide) (by decide) (by decide)) (eo 1 (by decide) (by decide) (by decide) (by decide)) a1.1 (fun d w hw => ?_) (fun d => ?_)
    · rcases hw with rfl | rfl <;> simp (disch := omega) only [delM, pM, mU_r, mU_c, mRow_r]
    · by_cases q : d = c
      · subst q
        exact Or.inr (by simp (disch := omega) only [delM, pM, mU_s, mU_r, mU_c, mRow_r])
      · exact Or.inl (by simp (disch := omega) only [delM, pM, mU_s, mU_r, mU_c, mRow_r])
def sndL (M : Nat → Nat → Int32) (L : Nat → List Nat) (s : Nat) (aim rank : Int32) : Nat → List Nat := sLst (sndM M s aim rank) L (L 0 ++ [nC M]) (nC M) (1 + s)
theorem wI_snd {B K : Nat} {M : Nat → Nat → Int32} {L : Nat → List Nat} (hK : K + 1 < 2 ^ 31) (h : wI B K M L) {s a k : Nat} (hs : s < nS M) (ha : a < nS M) (hk : k ≤ 3) (hr : (L (1 + s)).length < rom M s) (h40 : (L 0).length < 40) (h500 : nC M < 500) : wI B (K + 1) (sndM M s (nI a) (nI k)) (sndL M L s (nI a) (nI k)) := by
  obtain ⟨hN, hT, hS, hE, ⟨a1, a2, a3, a4, a5, a6, a7, a8⟩, hC, hL, hR⟩ := h
  have h14 := hN.1.2
  have h30 := hN.2.1.2
  have hcn : nC M ∉ L 0 := fun q => Nat.lt_irrefl _ (a5 _ q)
  have hu14 : u (M 0 14) = (L 0).length := by rw [a3.1]; exact u_nI (by omega)
  obtain ⟨g1, g2⟩ := hat_1 (M' := sndM M s (nI a) (nI k)) (c := nC M) (s := s) (by simp (disch := omega) only [sndM, pM, mU_s, mU_r, mU_c]) (by simp (disch := omega) only [sndM, pM, mU_s, mU_r, mU_c]) (by omega)
  have hnd' : (L 0 ++ [nC M]).Nodup := by
    refine List.nodup_append.mpr ⟨a4, by simp, fun x hx y hy => ?_⟩
    rw [List.mem_singleton] at hy
    subst hy
    exact fun q => hcn (q ▸ hx)
  have hle := nodup_le _ _ a4 a5
  obtain ⟨p1, p2, p3⟩ := put_inv (M' := sndM M s (nI a) (nI k)) (al' := L 0 ++ [nC M]) (c := nC M) (tgt := 1 + s) hL a4 a7 a8 a2.1 (by omega) (fun d w hd hw => by simp (disch := omega) only [sndM, pM, mU_r, mU_c]) (by simp (disch := omega) only [sndM, pM, mU_s, mU_r, mU_c]) (by simp (disch := omega) only [sndM, pM, mU_s, mU_r, mU_c]) g1 g2 hnd' rem_snoc_eq (fun _ => by simp)
  have e8 : sndM M s (nI a) (nI k) 0 8 = M 0 8 + 1 := by simp (disch := omega) only [sndM, pM, mU_s, mU_r, mU_c]
  have e5 : sndM M s (nI a) (nI k) 0 5 = nI (nC M + 1) := by
    simp (disch := omega) only [sndM, pM, mU_s, mU_r, mU_c]
    rw [hN.2.2.2.1, nI_1]
  have eC : nC (sndM M s (nI a) (nI k)) = nC M + 1 := by
    show u (sndM M s (nI a) (nI k) 0 5) = _
    rw [e5, u_nI (by omega)]
  have eo : ∀ j, j ≠ 8 → j ≠ 5 → j ≠ 14 → sndM M s (nI a) (nI k) 0 j = M 0 j := fun j _ _ _ => by simp (disch := omega) only [sndM, pM, mU_r, mU_c]
  have e1 : ∀ j, sndM M s (nI a) (nI k) 1 j = M 1 j := fun j => by simp (disch := omega) only [sndM, pM, mU_r]
  have e2 : ∀ j, sndM M s (nI a) (nI k) 2 j = M 2 j := fun j => by simp (disch := omega) only [sndM, pM, mU_r]
  have e3 : ∀ j, sndM M s (nI a) (nI k) 3 j = M 3 j := fun j => by simp (disch := omega) only [sndM, pM, mU_r]
  have f2 := eo 2 (by decide) (by decide) (by decide)
  have f3 := eo 3 (by decide) (by decide) (by decide)
  have f4 := eo 4 (by decide) (by decide) (by decide)
  refine ⟨?_, iT_fr hT f2 f3 (fun _ _ _ => e2 _), iS_fr hS f2 f3 (fun _ _ _ _ => e1 _), iE_fr hE f2 f3 f4 (fun _ => e1 _) e3, ⟨?_, ?_, ⟨?_, ?_, ?_⟩, hnd', ?_, ?_, p2, p3⟩, ?_, p1, iR_put h14 h30 hR f2 f3 (fun _ => e1 _) (fun _ => e2 _) (Or.inr (Or.inl ⟨s, hs, rfl, hr⟩))⟩
  · obtain ⟨n1, n2, n3, n4⟩ := hN
    refine ⟨?_, ?_, ?_, ?_⟩
    · unfold nS at *; rw [f2]; exact n1
    · unfold nT at *; rw [f3]; exact n2
    · unfold nE at *; rw [f4]; exact n3
    · rw [eC, e5]
      exact ⟨rfl, by omega⟩
  · rw [eo 1 (by decide) (by decide) (by decide)]; exact a1
  · rw [e8, a2.1, nI_1, u_nI (by omega)]
    exact ⟨rfl, by omega⟩
  · show sndM M s (nI a) (nI k) 0 14 = nI (L 0 ++ [nC M]).length
    simp (disch := omega) only [sndM, mU_s]
    rw [a3.1, nI_1, List.length_append, List.length_singleton]
  · show (L 0 ++ [nC M]).length ≤ 40
    rw [List.length_append, List.length_singleton]
    omega
  · intro j d hj
    have hj : (L 0 ++ [nC M])[j]? = some d := hj
    by_cases q : j < (L 0).length
    · rw [List.getElem?_append_left q] at hj
      have : sndM M s (nI a) (nI k) 5 j = M 5 j := by simp (disch := omega) only [sndM, pM, mU_r, mU_c, hu14]
      rw [this]
      exact a3.2.2 j d hj
    · rw [List.getElem?_append_right (by omega)] at hj
      have hj0 : j = (L 0).length := by
        have := (List.getElem?_eq_some_iff.mp hj).1
        rw [List.length_singleton] at this
        omega
      subst hj0
      rw [Nat.sub_self] at hj
      cases hj
      refine ⟨?_, h500⟩
      simp (disch := omega) only [sndM, pM, mU_s, mU_r, mU_c, hu14]
  · intro d hd
    rw [eC]
    rcases List.mem_append.mp (show d ∈ L 0 ++ [nC M] from hd) with q | q
    · have := a5 d q
      omega
    · rw [List.mem_singleton] at q
      omega
  · show sndM M s (nI a) (nI k) 0 6 = nI (nC (sndM M s (nI a) (nI k)) - (L 0 ++ [nC M]).length)
    rw [eC, List.length_append, List.length_singleton, eo 6 (by decide) (by decide) (by decide), a6]
    congr 1
    omega
  · intro d hd
    rw [eC] at hd
    have e01 := eo 1 (by decide) (by decide) (by decide)
    by_cases q : d = nC M
    · subst q
      have x2 : sndM M s (nI a) (nI k) 4 (9 * nC M + 2) = nI a := by simp (disch := omega) only [sndM, pM, mU_s, mU_r, mU_c]
      have x3 : sndM M s (nI a) (nI k) 4 (9 * nC M + 3) = nI k := by simp (disch := omega) only [sndM, pM, mU_s, mU_r, mU_c]
      have x5 : sndM M s (nI a) (nI k) 4 (9 * nC M + 5) = M 0 1 := by simp (disch := omega) only [sndM, pM, mU_s, mU_r, mU_c]
      unfold nS at *
      rw [x2, x3, x5, e01, f2, u_nI (by omega), u_nI (by omega)]
      exact ⟨⟨rfl, ha⟩, ⟨rfl, hk⟩, a1.1, Nat.le_refl _⟩
    · have := hC d (by omega)
      have x2 : sndM M s (nI a) (nI k) 4 (9 * d + 2) = M 4 (9 * d + 2) := by simp (disch := omega) only [sndM, pM, mU_r, mU_c]
      have x3 : sndM M s (nI a) (nI k) 4 (9 * d + 3) = M 4 (9 * d + 3) := by simp (disch := omega) only [sndM, pM, mU_r, mU_c]
      have x5 : sndM M s (nI a) (nI k) 4 (9 * d + 5) = M 4 (9 * d + 5) := by simp (disch := omega) only [sndM, pM, mU_r, mU_c]
      unfold nS at *
      rw [x2, x3, x5, e01, f2]
      exact this
