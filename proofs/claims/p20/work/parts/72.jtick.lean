/-! ===== a tick keeps what the property speaks of ===== -/
section JTICK
variable {M : Nat → Nat → Int32} {L : Nat → List Nat} {F : Nat → Nat} {B K : Nat}
def Fput (F : Nat → Nat) (n s : Nat) : Nat → Nat := fun d => if d = n then s else F d
theorem jS_F {F' : Nat → Nat} {d : Nat} (h : F' d = F d) (hj : jS M F d) : jS M F' d := by
  unfold jS at *
  rw [h]
  exact hj
/-- a carrier is sent -/
theorem jI_snd (hw : wI B K M L) (hK : K + 1 < 2 ^ 31) (h : jI M L F) {s a k : Nat} (hs : s < nS M) (ha : a < nS M) (hsa : s ≠ a) (h500 : nC M < 500) : jI (sndM M s (nI a) (nI k)) (sndL M L s (nI a) (nI k)) (Fput F (nC M) s) := by
  have h30 := hw.1.2.1.2
  have h14 := hw.1.1.2
  have h5 : M 0 5 = nI (nC M) := hw.1.2.2.2.1
  obtain ⟨hA, hO, hE, hR, hT, hW⟩ := h
  have t1 := hw.2.2.2.2.1.1.1
  have hst := sta_snd (M := M) s (nI a) (nI k)
  obtain ⟨b1, b2⟩ := w_l0 hw
  have htm := fun d (hd : d ∈ L 0) => (w_c hw (b2 d hd)).2.2.2.1
  have nC' : nC (sndM M s (nI a) (nI k)) = nC M + 1 := snd_C hw.1 h500
  have hd : ∀ d w, d ≠ nC M → w < 9 → sndM M s (nI a) (nI k) 4 (9 * d + w) = M 4 (9 * d + w) := fun d w h1 h2 => by simp (disch := omega) only [sndM, pM, mU_r, mU_c]
  have m0 : sndM M s (nI a) (nI k) 4 (9 * nC M + 0) = 1 := by simp (disch := omega) only [sndM, pM, mU_s, mU_r, mU_c]
  have m1 : sndM M s (nI a) (nI k) 4 (9 * nC M + 1) = nI s := by simp (disch := omega) only [sndM, pM, mU_s, mU_r, mU_c]
  have m2 : sndM M s (nI a) (nI k) 4 (9 * nC M + 2) = nI a := by simp (disch := omega) only [sndM, pM, mU_s, mU_r, mU_c]
  have m4 : sndM M s (nI a) (nI k) 4 (9 * nC M + 4) = M 0 1 := by simp (disch := omega) only [sndM, pM, mU_s, mU_r, mU_c]
  have m5 : sndM M s (nI a) (nI k) 4 (9 * nC M + 5) = M 0 1 := by simp (disch := omega) only [sndM, pM, mU_s, mU_r, mU_c]
  have m6 : sndM M s (nI a) (nI k) 4 (9 * nC M + 6) = 0 := by simp (disch := omega) only [sndM, pM, mU_s, mU_r, mU_c]
  have m7 : sndM M s (nI a) (nI k) 4 (9 * nC M + 7) = M 0 8 := by simp (disch := omega) only [sndM, pM, mU_s, mU_r, mU_c]
  have e8 : sndM M s (nI a) (nI k) 0 8 = M 0 8 + 1 := by simp (disch := omega) only [sndM, pM, mU_s, mU_r, mU_c]
  have u8 : u (sndM M s (nI a) (nI k) 0 8) = u (M 0 8) + 1 := by rw [e8]; exact u_8 hw hK
  have l0 : sndL M L s (nI a) (nI k) 0 = L 0 ++ [nC M] := by unfold sndL sLst; exact if_pos rfl
  have hm : ∀ d, d ≠ nC M → (d ∈ sndL M L s (nI a) (nI k) 0 ↔ d ∈ L 0) := fun d q => by
    rw [l0, List.mem_append, List.mem_singleton]
    exact ⟨fun x => x.resolve_right q, Or.inl⟩
  have Fn : Fput F (nC M) s (nC M) = s := if_pos rfl
  have Fo : ∀ d, d ≠ nC M → Fput F (nC M) s d = F d := fun d q => if_neg q
  refine ⟨fun d hdn => ?_, jO_put hO hd (fun d q => (hm d q).mp) m5 m7 b1 htm, jE_put hE hst (snd_r0 _ _ _ _ _ (by decide)) hd (fun t' _ => by simp (disch := omega) only [sndM, pM, mU_r]) (fun t' ht' => ?_), fun s' hs' => ?_, ?_, jW_st hw.2.2.1 hW hst⟩
  · rw [nC'] at hdn
    by_cases q : d = nC M
    · subst q
      have ea : aimM (sndM M s (nI a) (nI k)) (nC M) = a := by unfold aimM; rw [m2, u_nI (by omega)]
      have es : sgM (sndM M s (nI a) (nI k)) (nC M) = u (M 0 1) := by unfold sgM; rw [m4]
      have et : tauM (sndM M s (nI a) (nI k)) (nC M) = u (M 0 1) := by unfold tauM; rw [m5]
      have ek : kapM (sndM M s (nI a) (nI k)) (nC M) = 0 := by unfold kapM; rw [m6]; decide
      refine ⟨⟨by rw [Fn, sta_S hst]; exact hs, by rw [Fn, ea]; exact hsa⟩, ⟨⟨by rw [es, m4]; exact t1, by rw [es, et]; exact Nat.le_refl _⟩, by rw [ek, m6]; decide, by rw [ek]; exact Nat.zero_le _⟩, Or.inl ⟨m0, s, by rw [sta_S hst]; exact hs, m1, ?_, ?_⟩, ?_⟩
      · rw [Fn]
        exact id
      · rw [Fn, es, et]
        intro x hx
        exact ⟨x, hx, by omega⟩
      · rw [l0, m0]
        exact ⟨fun _ => by decide, fun _ => List.mem_append.mpr (Or.inr List.mem_cons_self)⟩
    · obtain ⟨⟨f1, f2⟩, n1, s1, x1⟩ := hA d (by omega)
      refine ⟨⟨by rw [Fo d q, sta_S hst]; exact f1, ?_⟩, jN_eq (by omega) (fun w hw => hd d w q hw) n1, jS_F (Fo d q) (jS_eq hst (fun w hw => hd d w q hw) s1), ?_⟩
      · rw [Fo d q]
        unfold aimM at *
        rw [hd d 2 q (by decide)]
        exact f2
      · rw [hm d q, hd d 0 q (by decide)]
        exact x1
  · show sLst (sndM M s (nI a) (nI k)) L (L 0 ++ [nC M]) (nC M) (1 + s) (15 + t') = _
    unfold sLst
    rw [if_neg (by omega), if_neg (by omega)]
  · rw [sta_S hst] at hs'
    have hn : dlB (sndM M s (nI a) (nI k)) s' (nC M) = false := by
      unfold dlB
      rw [m0]
      rfl
    rw [show sndM M s (nI a) (nI k) 1 (9 * s' + 4) = M 1 (9 * s' + 4) by simp (disch := omega) only [sndM, pM, mU_r], nC', hR s' hs']
    show nI (cnt (dlB M s') (nC M)) = nI (cnt (dlB (sndM M s (nI a) (nI k)) s') (nC M) + if dlB (sndM M s (nI a) (nI k)) s' (nC M) = true then 1 else 0)
    rw [hn, if_neg (by decide), Nat.add_zero]
    congr 1
    refine cnt_ext _ (fun d hdn => ?_)
    exact (dlB_off (hd d 0 (by omega) (by decide)) (hd d 1 (by omega) (by decide))).symm
  · show sndM M s (nI a) (nI k) 0 7 = smT (sndM M s (nI a) (nI k)) (nC (sndM M s (nI a) (nI k)))
    rw [nC', show sndM M s (nI a) (nI k) 0 7 = M 0 7 by simp (disch := omega) only [sndM, pM, mU_r, mU_c]]
    show M 0 7 = smT (sndM M s (nI a) (nI k)) (nC M) + if sndM M s (nI a) (nI k) 4 (9 * nC M + 0) = 3 then _ else 0
    rw [m0, if_neg (by decide), Int32.add_zero, smT_ext (fun d w hdn hw9 => hd d w (by omega) hw9)]
    exact hT
theorem sta_tk (v : Int32) : sta M (mU M 0 1 v) := ⟨⟨rfl, rfl, rfl⟩, fun _ _ _ => rfl, fun _ _ _ _ => rfl⟩
theorem jI_tk (hw : wI B K M L) (hB : B + 1 < 2 ^ 31) (h : jI M L F) : jI (mU M 0 1 (M 0 1 + 1)) L F := by
  obtain ⟨hA, hO, hE, hR, hT, hW⟩ := h
  obtain ⟨t1, tB⟩ := hw.2.2.2.2.1.1
  have hst := sta_tk (M := M) (M 0 1 + 1)
  have hrow : ∀ d w, w < 9 → mU M 0 1 (M 0 1 + 1) 4 (9 * d + w) = M 4 (9 * d + w) := fun _ _ _ => rfl
  have u1 : u (mU M 0 1 (M 0 1 + 1) 0 1) = u (M 0 1) + 1 := by rw [mU_s, t1, nI_1, u_nI (by omega), u_nI (by omega)]
  refine ⟨fun d hdn => ?_, fun a b ha hb hab => hO a b ha hb hab, fun t ht => ?_, fun s hs => ?_, ?_, jW_st hw.2.2.1 hW hst⟩
  · obtain ⟨f1, n1, s1, x1⟩ := hA d hdn
    exact ⟨f1, jN_eq (Nat.le_refl _) (fun w hw => hrow d w hw) n1, jS_eq hst (fun w hw => hrow d w hw) s1, x1⟩
  · obtain ⟨e1, e2⟩ := hE t ht
    refine ⟨?_, e2⟩
    rcases e1 with x | ⟨x1, x2, x3⟩
    · exact Or.inl x
    · refine Or.inr ⟨x1, ?_, x3⟩
      rw [u1]
      exact Nat.le_succ_of_le x2
  · show M 1 (9 * s + 4) = nI (cnt (dlB (mU M 0 1 (M 0 1 + 1)) s) (nC M))
    rw [hR s hs]
    congr 1
  · show M 0 7 = smT (mU M 0 1 (M 0 1 + 1)) (nC M)
    rw [smT_ext (M := M) (fun d w _ hw9 => hrow d w hw9)]
    exact hT
theorem sArr_j {t : Nat} (hB : B < 2 ^ 31) : ∀ (I : List Nat) (K : Nat) (P : pP), wI B K P.1 P.2 → jI P.1 P.2 F → t < nT P.1 → P.2 (15 + t) = I → K + I.length < 2 ^ 31 → jI (sArr t I P).1 (sArr t I P).2 F
  | [], K, P, _, hj, _, _, _ => hj
  | c :: rest, K, P, h, hj, ht, hI, hK => by
    rw [List.length_cons] at hK
    have hcm : c ∈ P.2 (15 + t) := by rw [hI]; exact List.mem_cons_self
    unfold sArr
    by_cases hd : dueM P.1 c
    · rw [if_pos hd]
      by_cases ha : P.1 4 (9 * c + 2) = P.1 2 (8 * t + 1)
      · rw [if_pos ha]
        obtain ⟨h1, h2⟩ := arr_del (by omega) h ht hI
        have h3 := jI_del h (by omega) hB hj ht hcm hd (congrArg u ha)
        exact sArr_j hB rest (K + 1) (delM P.1 (P.2 0) c, delL P.1 P.2 c) h1 h3 (by unfold nT at *; show t < u (delM P.1 (P.2 0) c 0 3); rw [del_r0 _ _ _ _ (by decide)]; exact ht) h2 (by omega)
      · rw [if_neg ha]
        by_cases hr : nI (P.2 (1 + tTo P.1 t)).length < P.1 1 (9 * tTo P.1 t + 0)
        · rw [if_pos hr]
          obtain ⟨h1, h2⟩ := arr_mov (by omega) h ht hI hr
          have hne : aimM P.1 c ≠ tTo P.1 t := fun q => ha (by
            have cn := (w_in h (t := t) (by have := h.1.2.1.2; omega) hcm).2.2.2.1
            rw [(w_c h cn).1, (h.2.1 t ht).2.1.1, q])
          have h3 := jI_mov h (by omega) hB hj ht hcm rfl hd hne
          exact sArr_j hB rest (K + 1) (movM P.1 c (tTo P.1 t), movL P.1 P.2 c (tTo P.1 t)) h1 h3 (by unfold nT at *; show t < u (movM P.1 c (tTo P.1 t) 0 3); rw [mov_r0 _ _ _ _ (by decide)]; exact ht) h2 (by omega)
        · rw [if_neg hr]
          exact hj
    · rw [if_neg hd]
      exact hj
theorem sArrN_j {P : pP} (hB : B < 2 ^ 31) (hK : K + 1200 < 2 ^ 31) (h : wI B K P.1 P.2) (hj : jI P.1 P.2 F) : ∀ k, k ≤ nT P.1 → jI (sArrN P k).1 (sArrN P k).2 F
  | 0, _ => hj
  | k + 1, hk => by
    obtain ⟨h1, h2⟩ := sArrN_inv hK h k (by omega)
    have h30 := h.1.2.1.2
    have hl := len_in h1 (t := k) (by omega)
    exact sArr_j hB _ _ _ h1 (sArrN_j hB hK h hj k (by omega)) (by unfold nT at *; rw [h2 3 (by decide)]; omega) rfl (by omega)
theorem sDep_j {s : Nat} (hB : B + 20 < 2 ^ 31) : ∀ (l : List Nat) (K : Nat) (P : pP), wI B K P.1 P.2 → jI P.1 P.2 F → s < nS P.1 → (∀ d, d ∈ l → d ∈ P.2 (1 + s)) → l.Nodup → K + l.length < 2 ^ 31 → jI (sDep s l P).1 (sDep s l P).2 F
  | [], K, P, _, hj, _, _, _, _ => hj
  | c :: rest, K, P, h, hj, hs, hl, hnd, hK => by
    rw [List.length_cons] at hK
    obtain ⟨n1, n2⟩ := List.nodup_cons.mp hnd
    unfold sDep
    by_cases hg : goD P s c
    · rw [if_pos hg]
      obtain ⟨h1, h2⟩ := dep_ent (by omega) h hs (hl c List.mem_cons_self) hg
      have h3 := jI_ent h (by omega) hB hj hs (hl c List.mem_cons_self) hg
      exact sDep_j hB rest (K + 1) (entM P.1 c (tGo P s c), entL P.1 P.2 c (tGo P s c)) h1 h3 (by unfold nS at *; show s < u (entM P.1 c (tGo P s c) 0 2); rw [ent_r0 _ _ _ _ (by decide)]; exact hs) (fun d hd => h2 d (hl d (List.mem_cons_of_mem _ hd)) (fun q => n1 (q ▸ hd))) n2 (by omega)
    · rw [if_neg hg]
      exact sDep_j hB rest K P h hj hs (fun d hd => hl d (List.mem_cons_of_mem _ hd)) n2 (by omega)
theorem sDepN_j {P : pP} (hB : B + 20 < 2 ^ 31) (hK : K + 560 < 2 ^ 31) (h : wI B K P.1 P.2) (hj : jI P.1 P.2 F) : ∀ k, k ≤ nS P.1 → jI (sDepN P k).1 (sDepN P k).2 F
  | 0, _ => hj
  | k + 1, hk => by
    obtain ⟨h1, h2⟩ := sDepN_inv hK h k (by omega)
    have h14 := h.1.1.2
    have hl := len_at h1 (t := k) (by omega)
    exact sDep_j hB _ _ _ h1 (sDepN_j hB hK h hj k (by omega)) (by unfold nS at *; rw [h2 2 (by decide)]; omega) (fun d hd => hd) (w_ndS h1 (by omega)) (by omega)
theorem jI_tick {P : pP} (hB : B + 21 < 2 ^ 31) (hK : K + 1772 < 2 ^ 31) (h : wI B K P.1 P.2) (hj : jI P.1 P.2 F) : jI (sTick P).1 (sTick P).2 F := by
  obtain ⟨h1, ⟨h2, f2⟩, ⟨h3, f3⟩, -, -⟩ := tick_inv (by omega) hK h
  have h1 : wI (B + 1) K (sTk1 P).1 (sTk1 P).2 := h1
  have j1 : jI (sTk1 P).1 (sTk1 P).2 F := jI_tk h (by omega) hj
  have j2 : jI (sTk2 P).1 (sTk2 P).2 F := by
    unfold sTk2
    rw [hj.2.2.2.2.2.2.1]
    exact j1
  have j3 : jI (sTk3 P).1 (sTk3 P).2 F := sArrN_j (by omega) (by omega) h2 j2 _ (by unfold nT; rw [f2 3 (by decide) (by decide)]; exact Nat.le_refl _)
  exact sDepN_j (by omega) (by omega) h3 j3 _ (by unfold nS; rw [f3 2 (by decide) (by decide)]; exact Nat.le_refl _)
end JTICK
