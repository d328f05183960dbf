/-! ===== the reference's arrivals ===== -/
abbrev pP : Type := (Nat → Nat → Int32) × (Nat → List Nat)
theorem wI_mono {B B' K K' : Nat} {M : Nat → Nat → Int32} {L : Nat → List Nat} (hB : B ≤ B') (hK : K ≤ K') (h : wI B K M L) : wI B' K' M L := by
  obtain ⟨hN, hT, hS, hE, ⟨a1, a2, a3⟩, hr⟩ := h
  exact ⟨hN, hT, hS, hE, ⟨⟨a1.1, Nat.le_trans a1.2 hB⟩, ⟨a2.1, Nat.le_trans a2.2 hK⟩, a3⟩, hr⟩
theorem w_in {B K : Nat} {M : Nat → Nat → Int32} {L : Nat → List Nat} (h : wI B K M L) {t c : Nat} (ht : t < 30) (hc : c ∈ L (15 + t)) : c ∈ L 0 ∧ M 4 (9 * c + 0) = 2 ∧ M 4 (9 * c + 1) = nI t ∧ c < nC M ∧ c < 500 := by
  have h1 := (h.2.2.2.2.2.2.1.2 t ht).1.mem_iff.mp hc
  obtain ⟨h2, h3⟩ := List.mem_filter.mp h1
  have h4 := h.2.2.2.2.1.2.2.2.2.1 c h2
  have h5 := h.1.2.2.2.2
  exact ⟨h2, (inT_iff.mp h3).1, (inT_iff.mp h3).2, h4, by omega⟩
theorem w_at {B K : Nat} {M : Nat → Nat → Int32} {L : Nat → List Nat} (h : wI B K M L) {s c : Nat} (hs : s < 14) (hc : c ∈ L (1 + s)) : c ∈ L 0 ∧ M 4 (9 * c + 0) = 1 ∧ M 4 (9 * c + 1) = nI s ∧ c < nC M ∧ c < 500 := by
  have h1 := (h.2.2.2.2.2.2.1.1 s hs).1.mem_iff.mp hc
  obtain ⟨h2, h3⟩ := List.mem_filter.mp h1
  have h4 := h.2.2.2.2.1.2.2.2.2.1 c h2
  have h5 := h.1.2.2.2.2
  exact ⟨h2, (atS_iff.mp h3).1, (atS_iff.mp h3).2, h4, by omega⟩
theorem w_ndT {B K : Nat} {M : Nat → Nat → Int32} {L : Nat → List Nat} (h : wI B K M L) {t : Nat} (ht : t < 30) : (L (15 + t)).Nodup := (h.2.2.2.2.2.2.1.2 t ht).1.nodup_iff.mpr (h.2.2.2.2.1.2.2.2.1.filter _)
theorem w_ndS {B K : Nat} {M : Nat → Nat → Int32} {L : Nat → List Nat} (h : wI B K M L) {s : Nat} (hs : s < 14) : (L (1 + s)).Nodup := (h.2.2.2.2.2.2.1.1 s hs).1.nodup_iff.mpr (h.2.2.2.2.1.2.2.2.1.filter _)
theorem rem_head {c : Nat} {l : List Nat} (h : (c :: l).Nodup) : rem c (c :: l) = l := by
  rw [show rem c (c :: l) = rem c l by simp [rem], rem_no (List.nodup_cons.mp h).1]
def sArr (t : Nat) : List Nat → pP → pP
  | [], P => P
  | c :: rest, P => if dueM P.1 c then (if P.1 4 (9 * c + 2) = P.1 2 (8 * t + 1) then sArr t rest (delM P.1 (P.2 0) c, delL P.1 P.2 c) else if nI (P.2 (1 + tTo P.1 t)).length < P.1 1 (9 * tTo P.1 t + 0) then sArr t rest (movM P.1 c (tTo P.1 t), movL P.1 P.2 c (tTo P.1 t)) else P) else P
theorem arr_del {B K : Nat} {P : pP} {t c : Nat} {rest : List Nat} (hK : K + 1 < 2 ^ 31) (h : wI B K P.1 P.2) (ht : t < nT P.1) (hI : P.2 (15 + t) = c :: rest) : wI B (K + 1) (delM P.1 (P.2 0) c) (delL P.1 P.2 c) ∧ delL P.1 P.2 c (15 + t) = rest := by
  have h30 := h.1.2.1.2
  have hcm : c ∈ P.2 (15 + t) := by rw [hI]; exact List.mem_cons_self
  have hnd := w_ndT h (t := t) (by omega)
  refine ⟨wI_del hK h (w_in h (by omega) hcm).1, ?_⟩
  unfold delL sLst
  rw [if_neg (by omega), if_neg (by omega), hI]
  rw [hI] at hnd
  exact rem_head hnd
theorem arr_mov {B K : Nat} {P : pP} {t c : Nat} {rest : List Nat} (hK : K + 1 < 2 ^ 31) (h : wI B K P.1 P.2) (ht : t < nT P.1) (hI : P.2 (15 + t) = c :: rest) (hr : nI (P.2 (1 + tTo P.1 t)).length < P.1 1 (9 * tTo P.1 t + 0)) : wI B (K + 1) (movM P.1 c (tTo P.1 t)) (movL P.1 P.2 c (tTo P.1 t)) ∧ movL P.1 P.2 c (tTo P.1 t) (15 + t) = rest := by
  have h30 := h.1.2.1.2
  have h14 := h.1.1.2
  have hcm : c ∈ P.2 (15 + t) := by rw [hI]; exact List.mem_cons_self
  have hnd := w_ndT h (t := t) (by omega)
  have hto := (h.2.1 t ht).2.1.2
  have hrm := (h.2.2.1 _ hto).1
  have hlen : (P.2 (1 + tTo P.1 t)).length ≤ 9 := Nat.le_trans (h.2.2.2.2.2.2.2.1 _ hto) hrm.2.2
  refine ⟨wI_mov hK h (w_in h (by omega) hcm).1 hto ?_, ?_⟩
  · rw [hrm.1] at hr
    exact (nI_ltI (by omega) (by omega)).mp hr
  · unfold movL sLst
    rw [if_neg (by omega), if_neg (by omega), hI]
    rw [hI] at hnd
    exact rem_head hnd
theorem del_r2 (M : Nat → Nat → Int32) (al : List Nat) (c j : Nat) : delM M al c 2 j = M 2 j := by simp (disch := omega) only [delM, pM, mU_r, mRow_r]
theorem mov_r2 (M : Nat → Nat → Int32) (c s j : Nat) : movM M c s 2 j = M 2 j := by simp (disch := omega) only [movM, pM, mU_r]
theorem del_r0 (M : Nat → Nat → Int32) (al : List Nat) (c j : Nat) (h : j < 6) : delM M al c 0 j = M 0 j := by simp (disch := omega) only [delM, pM, mU_r, mU_c, mRow_r]
theorem mov_r0 (M : Nat → Nat → Int32) (c s j : Nat) (h : j ≠ 8) : movM M c s 0 j = M 0 j := by simp (disch := omega) only [movM, pM, mU_r, mU_c]
theorem ent_r0 (M : Nat → Nat → Int32) (c t j : Nat) (h : j ≠ 8) : entM M c t 0 j = M 0 j := by simp (disch := omega) only [entM, pM, mU_r, mU_c]
theorem sArr_inv {B t : Nat} : ∀ (I : List Nat) (K : Nat) (P : pP), wI B K P.1 P.2 → t < nT P.1 → P.2 (15 + t) = I → K + I.length < 2 ^ 31 → wI B (K + I.length) (sArr t I P).1 (sArr t I P).2 ∧ ∀ j, j < 6 → (sArr t I P).1 0 j = P.1 0 j
  | [], K, P, h, _, _, _ => ⟨h, fun _ _ => rfl⟩
  | c :: rest, K, P, h, ht, hI, hK => by
    rw [List.length_cons] at hK ⊢
    have hst : wI B (K + (rest.length + 1)) P.1 P.2 := wI_mono (Nat.le_refl _) (by omega) h
    unfold sArr
    by_cases hd : dueM P.1 c
    · rw [if_pos hd]
      by_cases ha : P.1 4 (9 * c + 2) = P.1 2 (8 * t + 1)
      · rw [if_pos ha]
        obtain ⟨h1, h2⟩ := arr_del (by omega) h ht hI
        have := sArr_inv rest (K + 1) (delM P.1 (P.2 0) c, delL P.1 P.2 c) h1 (by unfold nT at *; show t < u (delM P.1 (P.2 0) c 0 3); rw [del_r0 _ _ _ _ (by decide)]; exact ht) h2 (by omega)
        refine ⟨wI_mono (Nat.le_refl _) (by omega) this.1, fun j hj => ?_⟩
        rw [this.2 j hj]
        exact del_r0 _ _ _ _ hj
      · rw [if_neg ha]
        by_cases hr : nI (P.2 (1 + tTo P.1 t)).length < P.1 1 (9 * tTo P.1 t + 0)
        · rw [if_pos hr]
          obtain ⟨h1, h2⟩ := arr_mov (by omega) h ht hI hr
          have := sArr_inv rest (K + 1) (movM P.1 c (tTo P.1 t), movL P.1 P.2 c (tTo P.1 t)) h1 (by unfold nT at *; show t < u (movM P.1 c (tTo P.1 t) 0 3); rw [mov_r0 _ _ _ _ (by decide)]; exact ht) h2 (by omega)
          refine ⟨wI_mono (Nat.le_refl _) (by omega) this.1, fun j hj => ?_⟩
          rw [this.2 j hj]
          exact mov_r0 _ _ _ _ (by omega)
        · rw [if_neg hr]
          exact ⟨hst, fun _ _ => rfl⟩
    · rw [if_neg hd]
      exact ⟨hst, fun _ _ => rfl⟩
section MODEL9
variable {μ : Nat} {r : Nat → Nat} {S : bS}
theorem mAc_X {M : Nat → Nat → Int32} {al : List Nat} (h : mAc M al) (f g : Nat → Int32) : mAc (mX M f g) al := h
theorem pM_X {M : Nat → Nat → Int32} {f g : Nat → Int32} {c : Nat} {st wh : Int32} : pM (mX M f g) c st wh = mX (pM M c st wh) f g := by
  unfold pM
  rw [mX_U (by decide) (by decide), mX_U (by decide) (by decide), mX_U (by decide) (by decide), mX_U (by decide) (by decide), mX_U (by decide) (by decide)]
  rfl
theorem mRow_X {M : Nat → Nat → Int32} {f g h : Nat → Int32} {i : Nat} (h6 : i ≠ 6) (h7 : i ≠ 7) : mRow (mX M f g) i h = mX (mRow M i h) f g := by
  funext i' j'
  unfold mRow mX
  by_cases q : i' = i
  · subst q
    simp [h6, h7]
  · by_cases q6 : i' = 6
    · subst q6; simp [q]
    · by_cases q7 : i' = 7
      · subst q7; simp [q]
      · simp [q, q6, q7]
theorem del_X {M : Nat → Nat → Int32} {f g : Nat → Int32} {al : List Nat} {c : Nat} : delM (mX M f g) al c = mX (delM M al c) f g := by
  unfold delM
  rw [pM_X, mX_U (by decide) (by decide), mX_U (by decide) (by decide), mX_U (by decide) (by decide), mRow_X (by decide) (by decide), mX_U (by decide) (by decide)]
  rfl
theorem snd_X {M : Nat → Nat → Int32} {f g : Nat → Int32} {s : Nat} {aim rank : Int32} : sndM (mX M f g) s aim rank = mX (sndM M s aim rank) f g := by
  unfold sndM
  rw [mX_U (by decide) (by decide), mX_U (by decide) (by decide), mX_U (by decide) (by decide), mX_U (by decide) (by decide), mX_U (by decide) (by decide), pM_X, mX_U (by decide) (by decide), mX_U (by decide) (by decide)]
  rfl
theorem M_arr_loop (hM : mOK μ r S) {f g : Nat → Int32} {B t to : Nat} {post : bS → Prop} : ∀ (I : List Nat) (K : Nat) (P : pP), wI B K P.1 P.2 → t < nT P.1 → tTo P.1 t = to → P.2 (15 + t) = I → K + I.length < 2 ^ 31 → post (mW μ r S (mX (sArr t I P).1 f g)) → wb_X6_arrivals_13 post (I.length + 1) μ (nI t) (nI to) (oI I.head?) (mW μ r S (mX P.1 f g)) := by
  intro I
  induction I with
  | nil =>
    intro K P h ht hto hI hK hp
    unfold wb_X6_arrivals_13
    exact ⟨m_k hM, M_isDue_none hM ⟨fun _ => hp, fun q => absurd rfl q⟩⟩
  | cons c rest ih =>
    intro K P h ht hto hI hK hp
    rw [List.length_cons] at hK
    have h30 := h.1.2.1.2
    have h14 := h.1.1.2
    have hcm : c ∈ P.2 (15 + t) := by rw [hI]; exact List.mem_cons_self
    obtain ⟨hc0, -, -, hcn, hc5⟩ := w_in h (by omega) hcm
    obtain ⟨-, hT2, -⟩ := h.2.1 t ht
    rw [hto] at hT2
    have hrm := (h.2.2.1 _ hT2.2).1
    have hA := h.2.2.2.2.1.2.2.1
    have hL := h.2.2.2.2.2.2.1
    obtain ⟨ha1, -⟩ := h.2.2.2.2.2.1 c hcn
    have again : ∀ (P' : pP), wI B (K + 1) P'.1 P'.2 → t < nT P'.1 → tTo P'.1 t = to → P'.2 (15 + t) = rest → post (mW μ r S (mX (sArr t rest P').1 f g)) → wb_X6_arrivals_65 post (wb_X6_arrivals_13 post (rest.length + 1)) μ (nI t) (nI to) (mW μ r S (mX P'.1 f g)) := by
      intro P' h' ht' hto' hI' hp'
      refine ⟨m_k hM, ?_⟩
      have hL' := h'.2.2.2.2.2.2.1.2 t (by omega)
      rw [hI'] at hL'
      refine M_firstIn hM (mAc_X h'.2.2.2.2.1.2.2.1 f g) (I := rest) (al := P'.2 0) hL'.1 hL'.2 ?_
      exact ih (K + 1) P' h' ht' hto' hI' (by omega) hp'
    unfold sArr at hp
    unfold wb_X6_arrivals_13
    refine ⟨m_k hM, M_isDue_some hM hc5 ⟨fun h0 => ?_, fun h0 => ⟨m_k hM, M_get (w := 2) hM (by omega) ⟨fun hne => ⟨m_k hM, ?_⟩, fun he => ⟨m_k hM, ?_⟩⟩⟩⟩⟩
    · have hd : ¬ dueM P.1 c := fun q => by
        rw [if_pos (show dueM (mX P.1 f g) c from q)] at h0
        exact absurd h0 (by decide)
      rw [if_neg hd] at hp
      exact hp
    · have hd : dueM P.1 c := by
        by_cases q : dueM P.1 c
        · exact q
        · rw [if_neg (show ¬ dueM (mX P.1 f g) c from q)] at h0
          exact absurd rfl h0
      have hne' : ¬ P.1 4 (9 * c + 2) = P.1 2 (8 * t + 1) := fun q => hne (q.trans hT2.1)
      rw [if_pos hd, if_neg hne', hto] at hp
      have hperm := (hL.1 to (by omega)).1
      refine M_manyAt hM (mAc_X hA f g) ⟨m_k hM, M_st (w := 0) hM (by omega) ?_⟩
      rw [mCn_perm (M := mX P.1 f g) (p := atS P.1 (nI to)) (fun c => rfl) hperm]
      refine ⟨fun hle => ?_, fun hgt => ⟨m_k hM, ?_⟩⟩
      · have hle' : P.1 1 (9 * to + 0) ≤ nI (P.2 (1 + to)).length := hle
        rw [if_neg (Int32.not_lt.mpr hle')] at hp
        exact hp
      · have hr : nI (P.2 (1 + to)).length < P.1 1 (9 * to + 0) := Int32.not_le.mp hgt
        rw [if_pos hr] at hp
        refine M_put hM hc5 ?_
        rw [pM_X]
        have hm := arr_mov (t := t) (by omega) h ht hI (by rw [hto]; exact hr)
        rw [hto] at hm
        exact again (movM P.1 c to, movL P.1 P.2 c to) hm.1 (by unfold nT at *; show t < u (movM P.1 c to 0 3); rw [mov_r0 _ _ _ _ (by decide)]; exact ht) (by unfold tTo at *; show u (movM P.1 c to 2 (8 * t + 1)) = to; rw [mov_r2]; exact hto) hm.2 hp
    · have hd : dueM P.1 c := by
        by_cases q : dueM P.1 c
        · exact q
        · rw [if_neg (show ¬ dueM (mX P.1 f g) c from q)] at h0
          exact absurd rfl h0
      have he' : P.1 4 (9 * c + 2) = P.1 2 (8 * t + 1) := (show P.1 4 (9 * c + 2) = nI to from he).trans hT2.1.symm
      rw [if_pos hd, if_pos he'] at hp
      refine M_deliver hM (mAc_X hA f g) hc5 (a := u (P.1 4 (9 * c + 2))) ha1.1 (by omega) ?_
      rw [del_X]
      have hm := arr_del (t := t) (by omega) h ht hI
      exact again (delM P.1 (P.2 0) c, delL P.1 P.2 c) hm.1 (by unfold nT at *; show t < u (delM P.1 (P.2 0) c 0 3); rw [del_r0 _ _ _ _ (by decide)]; exact ht) (by unfold tTo at *; show u (delM P.1 (P.2 0) c 2 (8 * t + 1)) = to; rw [del_r2]; exact hto) hm.2 hp
theorem M_arrivals (hM : mOK μ r S) {f g : Nat → Int32} {B K t : Nat} {P : pP} (h : wI B K P.1 P.2) (ht : t < nT P.1) (hK : K + 40 < 2 ^ 31) {post : bS → Prop} (hp : post (mW μ r S (mX (sArr t (P.2 (15 + t)) P).1 f g))) : wp_X6_arrivals post μ (nI t) (mW μ r S (mX P.1 f g)) := by
  have h30 := h.1.2.1.2
  have hL := h.2.2.2.2.2.2.1.2 t (by omega)
  obtain ⟨-, hT2, -⟩ := h.2.1 t ht
  have hlen : (P.2 (15 + t)).length ≤ 40 := by
    rw [hL.1.length_eq]
    exact Nat.le_trans (List.length_filter_le _ _) h.2.2.2.2.1.2.2.1.2.1
  refine ⟨m_k hM, M_tu (w := 1) hM (by omega) ⟨m_k hM, ?_⟩⟩
  refine M_firstIn hM (mAc_X h.2.2.2.2.1.2.2.1 f g) (al := P.2 0) hL.1 hL.2 ⟨(P.2 (15 + t)).length + 1, ?_⟩
  rw [show mX P.1 f g 2 (8 * t + 1) = nI (tTo P.1 t) from hT2.1]
  exact M_arr_loop hM _ K P h ht rfl rfl (by omega) hp
end MODEL9
