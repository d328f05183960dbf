/-! ===== who waits at a station has another aim ===== -/
def iX (M : Nat → Nat → Int32) (L : Nat → List Nat) : Prop := ∀ s c, s < 14 → c ∈ L (1 + s) → u (M 4 (9 * c + 2)) ≠ s
theorem sLst_in {M' : Nat → Nat → Int32} {L : Nat → List Nat} {al' : List Nat} {c tgt i d : Nat} (hi : 0 < i) (h : d ∈ sLst M' L al' c tgt i) : (d = c ∧ i = tgt) ∨ (d ≠ c ∧ d ∈ L i) := by
  unfold sLst at h
  rw [if_neg (by omega)] at h
  by_cases q : i = tgt
  · rw [if_pos q] at h
    have h2 : d = c ∨ d ∈ rem c (L i) := by
      by_cases q2 : i < 15
      · rw [if_pos q2] at h
        exact List.mem_cons.mp ((insR_perm _).mem_iff.mp h)
      · rw [if_neg q2] at h
        rcases List.mem_append.mp h with x | x
        · exact Or.inr x
        · exact Or.inl (List.mem_singleton.mp x)
    rcases h2 with x | x
    · exact Or.inl ⟨x, q⟩
    · exact Or.inr ⟨(rem_mem.mp x).2, (rem_mem.mp x).1⟩
  · rw [if_neg q] at h
    exact Or.inr ⟨(rem_mem.mp h).2, (rem_mem.mp h).1⟩
theorem iX_put {M M' : Nat → Nat → Int32} {L : Nat → List Nat} {al' : List Nat} {c tgt : Nat} (h : iX M L) (hE : ∀ d, d ≠ c → M' 4 (9 * d + 2) = M 4 (9 * d + 2)) (hc : ∀ s, s < 14 → 1 + s = tgt → u (M' 4 (9 * c + 2)) ≠ s) : iX M' (sLst M' L al' c tgt) := by
  intro s d hs hd
  rcases sLst_in (by omega) hd with ⟨e, e2⟩ | ⟨e, e2⟩
  · rw [e]
    exact hc s hs e2
  · rw [hE d e]
    exact h s d hs e2
theorem mov_4 (M : Nat → Nat → Int32) (c s d w : Nat) (hw : w = 2 ∨ w = 3 ∨ w = 4) : movM M c s 4 (9 * d + w) = M 4 (9 * d + w) := by
  rcases hw with rfl | rfl | rfl <;> simp (disch := omega) only [movM, pM, mU_r, mU_c]
theorem ent_4 (M : Nat → Nat → Int32) (c t d w : Nat) (hw : w = 2 ∨ w = 3 ∨ w = 4) : entM M c t 4 (9 * d + w) = M 4 (9 * d + w) := by
  rcases hw with rfl | rfl | rfl <;> simp (disch := omega) only [entM, pM, mU_r, mU_c]
theorem del_4 (M : Nat → Nat → Int32) (al : List Nat) (c d w : Nat) (hw : w = 2 ∨ w = 3 ∨ w = 4) : delM M al c 4 (9 * d + w) = M 4 (9 * d + w) := by
  rcases hw with rfl | rfl | rfl <;> simp (disch := omega) only [delM, pM, mU_r, mU_c, mRow_r]
theorem iX_mov {M : Nat → Nat → Int32} {L : Nat → List Nat} {c s : Nat} (h : iX M L) (hc : u (M 4 (9 * c + 2)) ≠ s) : iX (movM M c s) (movL M L c s) := iX_put h (fun d _ => mov_4 M c s d 2 (Or.inl rfl)) (fun s' _ e => by
  rw [mov_4 M c s c 2 (Or.inl rfl), show s' = s by omega]
  exact hc)
theorem iX_ent {M : Nat → Nat → Int32} {L : Nat → List Nat} {c t : Nat} (h : iX M L) : iX (entM M c t) (entL M L c t) := iX_put h (fun d _ => ent_4 M c t d 2 (Or.inl rfl)) (fun s' _ e => by omega)
theorem iX_del {M : Nat → Nat → Int32} {L : Nat → List Nat} {c : Nat} (h : iX M L) : iX (delM M (L 0) c) (delL M L c) := iX_put h (fun d _ => del_4 M (L 0) c d 2 (Or.inl rfl)) (fun s' _ e => by omega)
theorem iX_snd {M : Nat → Nat → Int32} {L : Nat → List Nat} {s : Nat} {aim rank : Int32} (h : iX M L) (ha : u aim ≠ s) : iX (sndM M s aim rank) (sndL M L s aim rank) := iX_put h (fun d hd => by simp (disch := omega) only [sndM, pM, mU_r, mU_c]) (fun s' _ e => by
  have e2 : sndM M s aim rank 4 (9 * nC M + 2) = aim := by simp (disch := omega) only [sndM, pM, mU_s, mU_r, mU_c]
  rw [e2, show s' = s by omega]
  exact ha)
theorem iX_fr {M M' : Nat → Nat → Int32} {L : Nat → List Nat} (h : iX M L) (h4 : ∀ j, M' 4 j = M 4 j) : iX M' L := fun s c hs hc => by
  rw [h4]
  exact h s c hs hc
theorem sArr_iX {B t : Nat} : ∀ (I : List Nat) (K : Nat) (P : pP), wI B K P.1 P.2 → iX P.1 P.2 → t < nT P.1 → P.2 (15 + t) = I → K + I.length < 2 ^ 31 → iX (sArr t I P).1 (sArr t I P).2
  | [], K, P, _, hX, _, _, _ => hX
  | c :: rest, K, P, h, hX, ht, hI, hK => by
    rw [List.length_cons] at hK
    unfold sArr
    by_cases hd : dueM P.1 c
    · rw [if_pos hd]
      by_cases ha : P.1 4 (9 * c + 2) = P.1 2 (8 * t + 1)
      · rw [if_pos ha]
        obtain ⟨h1, h2⟩ := arr_del (by omega) h ht hI
        exact sArr_iX rest (K + 1) (delM P.1 (P.2 0) c, delL P.1 P.2 c) h1 (iX_del hX) (by unfold nT at *; show t < u (delM P.1 (P.2 0) c 0 3); rw [del_r0 _ _ _ _ (by decide)]; exact ht) h2 (by omega)
      · rw [if_neg ha]
        by_cases hr : nI (P.2 (1 + tTo P.1 t)).length < P.1 1 (9 * tTo P.1 t + 0)
        · rw [if_pos hr]
          obtain ⟨h1, h2⟩ := arr_mov (by omega) h ht hI hr
          refine sArr_iX rest (K + 1) (movM P.1 c (tTo P.1 t), movL P.1 P.2 c (tTo P.1 t)) h1 (iX_mov hX (fun q => ha ?_)) (by unfold nT at *; show t < u (movM P.1 c (tTo P.1 t) 0 3); rw [mov_r0 _ _ _ _ (by decide)]; exact ht) h2 (by omega)
          have h30 := h.1.2.1.2
          have hcn := (w_in h (t := t) (by omega) (by rw [hI]; exact List.mem_cons_self)).2.2.2.1
          rw [((h.2.2.2.2.2.1 c hcn).1).1, q, ((h.2.1 t ht).2.1).1]
        · rw [if_neg hr]
          exact hX
    · rw [if_neg hd]
      exact hX
theorem sArrN_iX {B K : Nat} {P : pP} (hK : K + 1200 < 2 ^ 31) (h : wI B K P.1 P.2) (hX : iX P.1 P.2) : ∀ k, k ≤ nT P.1 → iX (sArrN P k).1 (sArrN P k).2
  | 0, _ => hX
  | k + 1, hk => by
    obtain ⟨h1, h2⟩ := sArrN_inv hK h k (by omega)
    have h30 := h.1.2.1.2
    have hl := len_in h1 (t := k) (by omega)
    exact sArr_iX (t := k) _ _ _ h1 (sArrN_iX hK h hX k (by omega)) (by unfold nT at *; rw [h2 3 (by decide)]; omega) rfl (by omega)
theorem sDep_iX {s : Nat} : ∀ (l : List Nat) (P : pP), iX P.1 P.2 → iX (sDep s l P).1 (sDep s l P).2
  | [], P, hX => hX
  | c :: rest, P, hX => by
    unfold sDep
    refine sDep_iX rest _ ?_
    by_cases hg : goD P s c
    · rw [if_pos hg]
      exact iX_ent hX
    · rw [if_neg hg]
      exact hX
theorem sDepN_iX {P : pP} (hX : iX P.1 P.2) : ∀ k, iX (sDepN P k).1 (sDepN P k).2
  | 0 => hX
  | k + 1 => sDep_iX _ _ (sDepN_iX hX k)
theorem sEnt1_iX {B K : Nat} {P : pP} (h : wI B K P.1 P.2) (hX : iX P.1 P.2) {e : Nat} (he : e < nE P.1) : iX (sEnt1 P e).1 (sEnt1 P e).2 := by
  obtain ⟨-, -, e3, e4⟩ := h.2.2.2.1 e he
  unfold sEnt1 sDeed
  by_cases hd : dueE P.1 e
  · rw [if_pos hd]
    rcases e4 with ⟨q, q1, q2⟩ | ⟨q, q1, q2⟩ | ⟨q, q1, q2, q3⟩
    · rw [if_pos q]
      exact hX
    · rw [if_neg (by rw [q]; decide), if_pos q]
      exact hX
    · rw [if_neg (by rw [q]; decide), if_neg (by rw [q]; decide)]
      by_cases hw : P.1 3 (5 * e + 3) = P.1 3 (5 * e + 4)
      · rw [if_pos hw]
        exact hX
      · rw [if_neg hw]
        by_cases hc : canS P.1 (P.2 (1 + u (P.1 3 (5 * e + 3)))).length (u (P.1 3 (5 * e + 3)))
        · rw [if_pos hc]
          refine iX_snd hX (fun x => hw ?_)
          rw [e3, q2, x]
        · rw [if_neg hc]
          exact hX
  · rw [if_neg hd]
    exact hX
theorem sClk_iX {B K : Nat} {P : pP} (hK : K + 12 < 2 ^ 31) (h : wI B K P.1 P.2) (hX : iX P.1 P.2) : ∀ k, k ≤ nE P.1 → iX (sClk P k).1 (sClk P k).2
  | 0, _ => hX
  | k + 1, hk => by
    obtain ⟨h1, h2⟩ := sClk_inv hK h k (by omega)
    exact sEnt1_iX h1 (sClk_iX hK h hX k (by omega)) (by unfold nE at *; rw [h2 4 (by decide)]; omega)
theorem tick_iX {B K : Nat} {P : pP} (hB : B + 1 < 2 ^ 31) (hK : K + 1772 < 2 ^ 31) (h : wI B K P.1 P.2) (hX : iX P.1 P.2) : iX (sTk1 P).1 (sTk1 P).2 ∧ iX (sTk2 P).1 (sTk2 P).2 ∧ iX (sTk3 P).1 (sTk3 P).2 ∧ iX (sTick P).1 (sTick P).2 := by
  obtain ⟨h1, ⟨h2, f2⟩, ⟨h3, f3⟩, h4, -⟩ := tick_inv hB hK h
  have x1 : iX (sTk1 P).1 (sTk1 P).2 := hX
  have x2 : iX (sTk2 P).1 (sTk2 P).2 := sClk_iX (by omega) h1 x1 _ (Nat.le_refl _)
  have x3 : iX (sTk3 P).1 (sTk3 P).2 := by
    refine sArrN_iX (by omega) h2 x2 _ ?_
    unfold nT
    rw [f2 3 (by decide) (by decide)]
    exact Nat.le_refl _
  exact ⟨x1, x2, x3, sDepN_iX x3 _⟩
/-! ===== the lists of the class ===== -/
section LSX
variable {S : bS} {A : Nat → Nat → Nat} {lv : Nat → Prop} {la ea : Nat → Nat} {ls : Nat → List Nat} {cp : Nat → Nat}
theorem LSr_ls (h : LSr S lv la ea ls cp) {ls' : Nat → List Nat} (he : ∀ i, lv i → ls' i = ls i) : LSr S lv la ea ls' cp := ⟨fun i hi => by rw [he i hi]; exact h.1 i hi, h.2⟩
theorem LSr_lv (h : LSr S lv la ea ls cp) {lv' : Nat → Prop} (he : ∀ i, lv' i → lv i) : LSr S lv' la ea ls cp := ⟨fun i hi => h.1 i (he i hi), fun i j hi hj => h.2.1 i j (he i hi) (he j hj), fun i j hi hj => h.2.2.1 i j (he i hi) (he j hj), h.2.2.2⟩
theorem lsC_a {M : Nat → Nat → Int32} {L L' : Nat → List Nat} {i : Nat} (h : i < 18) : lsC A M L' i = lsC A M L i := by
  unfold lsC
  rw [if_pos h, if_pos h]
theorem lsC_b {M : Nat → Nat → Int32} {L : Nat → List Nat} {i : Nat} (h : 18 ≤ i) (h2 : i < 32) : lsC A M L i = (L (1 + (i - 18))).map (A 3) := by
  unfold lsC
  rw [if_neg (by omega), if_neg (by omega), if_neg (by omega), if_neg (by omega), if_neg (by omega), if_pos h2]
theorem lsC_c {M : Nat → Nat → Int32} {L : Nat → List Nat} {i : Nat} (h : 32 ≤ i) : lsC A M L i = (L (15 + (i - 32))).map (A 3) := by
  unfold lsC
  rw [if_neg (by omega), if_neg (by omega), if_neg (by omega), if_neg (by omega), if_neg (by omega), if_neg (by omega)]
/-- one list of carriers is another one: k names it in the value -/
theorem lsC_up {M : Nat → Nat → Int32} {L L' : Nat → List Nat} {k κ : Nat} {l : List Nat} (hκ : κ = 17 + k) (hk : 1 ≤ k) (hL : ∀ j, j ≠ 0 → j ≠ k → j < 45 → L' j = L j) (hl : L' k = l) {i : Nat} (hi : i < 62) : lsC A M L' i = up (lsC A M L) κ (l.map (A 3)) i := by
  subst hκ
  by_cases q : i = 17 + k
  · rw [q, up_s]
    by_cases h : 17 + k < 32
    · rw [lsC_b (by omega) h, show 1 + (17 + k - 18) = k by omega, hl]
    · rw [lsC_c (by omega), show 15 + (17 + k - 32) = k by omega, hl]
  · rw [up_n q]
    by_cases h : i < 18
    · exact lsC_a h
    · by_cases h2 : i < 32
      · rw [lsC_b (by omega) h2, lsC_b (by omega) h2, hL _ (by omega) (by omega) (by omega)]
      · rw [lsC_c (by omega), lsC_c (by omega), hL _ (by omega) (by omega) (by omega)]
theorem lvC_lt {M : Nat → Nat → Int32} (hN : iN M) {i : Nat} (h : lvC M i) : i < 62 := by
  have h14 := hN.1.2
  have h30 := hN.2.1.2
  unfold lvC at h
  omega
theorem lsC_fr {M M' : Nat → Nat → Int32} {L : Nat → List Nat} (hN : iN M) (hS : iS M) (n2 : nS M' = nS M) (n3 : nT M' = nT M) (n4 : nE M' = nE M) (n5 : nC M' = nC M) (h1 : ∀ s w, w < 9 → w ≠ 4 → w ≠ 3 → M' 1 (9 * s + w) = M 1 (9 * s + w)) {i : Nat} (hi : lvC M i) : lsC A M' L i = lsC A M L i := by
  have h14 := hN.1.2
  by_cases q : i < 18
  · rcases hi with h | ⟨h, h2⟩ | ⟨h, h2⟩ | ⟨h, h2⟩
    · rcases (show i = 0 ∨ i = 1 ∨ i = 2 ∨ i = 3 by omega) with x | x | x | x <;> subst x
      · show (List.range (nS M')).map (A 1) = (List.range (nS M)).map (A 1)
        rw [n2]
      · show (List.range (nT M')).map (A 2) = (List.range (nT M)).map (A 2)
        rw [n3]
      · show (List.range (nE M')).map (A 4) = (List.range (nE M)).map (A 4)
        rw [n4]
      · show (List.range (nC M')).map (A 3) = (List.range (nC M)).map (A 3)
        rw [n5]
    · obtain ⟨s, rfl⟩ : ∃ s, i = 4 + s := ⟨i - 4, by omega⟩
      rw [show lsC A M' L (4 + s) = _ from ls_w (P := (M', L)) (s := s) (by omega), show lsC A M L (4 + s) = _ from ls_w (P := (M, L)) (s := s) (by omega)]
      have hm := (hS s (by omega)).2.2.1.2
      have em : mny M' s = mny M s := by unfold mny; rw [h1 s 2 (by decide) (by decide) (by decide)]
      show (List.range (mny M' s)).map (fun k => A 2 (way M' s k)) = (List.range (mny M s)).map (fun k => A 2 (way M s k))
      rw [em]
      refine List.map_congr_left (fun k hk => ?_)
      have hk' := List.mem_range.mp hk
      unfold way
      rw [h1 s (5 + k) (by omega) (by omega) (by omega)]
    · omega
    · omega
  · by_cases q2 : i < 32
    · rw [lsC_b (by omega) q2, lsC_b (by omega) q2]
    · rw [lsC_c (by omega), lsC_c (by omega)]
end LSX
theorem w_off_in {B K : Nat} {M : Nat → Nat → Int32} {L : Nat → List Nat} (h : wI B K M L) {t c : Nat} (ht : t < 30) (hc : c ∈ L (15 + t)) {j : Nat} (h0 : j ≠ 0) (h1 : j ≠ 15 + t) (h2 : j < 45) : rem c (L j) = L j := by
  obtain ⟨-, x1, x2, -⟩ := w_in h ht hc
  refine rem_no (fun q => ?_)
  by_cases hj : j < 15
  · rw [show j = 1 + (j - 1) by omega] at q
    have := (w_at h (by omega) q).2.1
    rw [x1] at this
    exact absurd this (by decide)
  · rw [show j = 15 + (j - 15) by omega] at q
    have := (w_in h (by omega) q).2.2.1
    rw [x2] at this
    have := (nI_eq (by omega) (by omega)).mp this
    omega
theorem w_off_at {B K : Nat} {M : Nat → Nat → Int32} {L : Nat → List Nat} (h : wI B K M L) {s c : Nat} (hs : s < 14) (hc : c ∈ L (1 + s)) {j : Nat} (h0 : j ≠ 0) (h1 : j ≠ 1 + s) (h2 : j < 45) : rem c (L j) = L j := by
  obtain ⟨-, x1, x2, -⟩ := w_at h hs hc
  refine rem_no (fun q => ?_)
  by_cases hj : j < 15
  · rw [show j = 1 + (j - 1) by omega] at q
    have := (w_at h (by omega) q).2.2.1
    rw [x2] at this
    have := (nI_eq (by omega) (by omega)).mp this
    omega
  · rw [show j = 15 + (j - 15) by omega] at q
    have := (w_in h (by omega) q).2.1
    rw [x1] at this
    exact absurd this (by decide)
theorem ahd_nlt {M : Nat → Nat → Int32} {a b : Nat} (h : ahd M a b) : ¬ M 4 (9 * a + 3) < M 4 (9 * b + 3) := by
  unfold ahd at h
  by_cases q : M 4 (9 * a + 3) = M 4 (9 * b + 3)
  · rw [q]
    exact Int32.lt_irrefl
  · rw [if_neg q] at h
    exact fun x => Int32.lt_irrefl (Int32.lt_trans h x)
