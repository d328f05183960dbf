/-! ===== the class's arrivals ===== -/
def cZ (M : Nat → Nat → Int32) (cp : Nat → Nat) : Prop := ∀ i, i < 62 → ¬ lvC M i → cp i = 0
/-- from the value P to P' within what the lists may grow by -/
def cW (P P' : pP) (cp cp' : Nat → Nat) (wp : (bS → Prop) → Nat → Nat → (Nat → Nat → Nat) → bS → Prop) : Prop := potC cp' 62 ≤ potC cp 62 ∧ (cZ P.1 cp → cZ P'.1 cp') ∧ ∀ (S : bS) (A : Nat → Nat → Nat) (MC MS : Nat) (post : bS → Prop), cR S A cp P → potC cp 62 ≤ MC + potC cp' 62 → potC cp 62 ≤ MS + potC cp' 62 → (∀ S', cR S' A cp' P' → cF A S S' → post S') → wp post MC MS A S
section CARR
theorem C_arr80 {S : bS} {A : Nat → Nat → Nat} {M1 : Nat → Nat → Int32} {L1 : Nat → List Nat} {ea : Nat → Nat} {ls1 : Nat → List Nat} {cp : Nat → Nat} {t a n : Nat} {rest : List Nat} (hO : cO S A M1) (hL : LSr S (lvC M1) (A 5) ea ls1 cp) (ht : t < nT M1) (h1 : ls1 (32 + t) = a :: rest.map (A 3)) (h2 : ∀ i, lvC M1 i → lsC A M1 L1 i = up ls1 (32 + t) (rest.map (A 3)) i) {post : bS → Prop} {rec : Nat → Nat → Nat → Nat → Int32 → bS → Prop} {mc ms : Nat} (hp : ∀ S', cR S' A cp (M1, L1) → cF A S S' → rec mc ms (A 0 0) (A 2 t) (nI n) S') : wb_X5_arriveFrom_80 post rec mc ms (A 0 0) (A 2 t) (nI (n + 1)) S := by
  obtain ⟨t0, -, -, -, -, -, t5, -⟩ := hO.2.2.2.2.1 t ht
  have hlv : lvC M1 (32 + t) := Or.inr (Or.inr (Or.inr ⟨by omega, by omega⟩))
  have hLi := hL.1 _ hlv
  refine ⟨t0, _, t5, hLi.1, CF_remove hL hlv (k := 0) (a := a) (by rw [h1]; rfl) (fun S' ea' i1 i2 => ⟨_, rfl, ?_⟩)⟩
  rw [pk_m1]
  rw [h1] at i1
  exact hp S' ⟨cO_l hO i2, ea', LSr_ls i1 h2⟩ (cF_l i2)
theorem C_arr_head {B K t c : Nat} {rest : List Nat} {P : pP} {cp : Nat → Nat} (hw : wI B K P.1 P.2) (ht : t < nT P.1) (hI : P.2 (15 + t) = c :: rest) (hl : rest.length < 1000) {S : bS} {A : Nat → Nat → Nat} {MC MS : Nat} {post : bS → Prop} (h : cR S A cp P) (nd : ¬ dueM P.1 c → post S) (dl : dueM P.1 c → P.1 4 (9 * c + 2) = P.1 2 (8 * t + 1) → wp_X5_deliver (fun S41 => wb_X5_arriveFrom_80 post (wb_X5_arriveFrom_8 post (rest.length + 1)) MC MS (A 0 0) (A 2 t) (nI (rest.length + 1)) S41) (A 0 0) (A 3 c) S) (nr : dueM P.1 c → ¬ P.1 4 (9 * c + 2) = P.1 2 (8 * t + 1) → ¬ nI (P.2 (1 + tTo P.1 t)).length < P.1 1 (9 * tTo P.1 t + 0) → post S) (mv : dueM P.1 c → ¬ P.1 4 (9 * c + 2) = P.1 2 (8 * t + 1) → nI (P.2 (1 + tTo P.1 t)).length < P.1 1 (9 * tTo P.1 t + 0) → ∃ k37 n38, k37 ≤ MC ∧ n38 ≤ MS ∧ (wp_X0_comeTo (fun S36 => wb_X5_arriveFrom_80 post (wb_X5_arriveFrom_8 post (rest.length + 1)) (MC - k37) (MS - n38) (A 0 0) (A 2 t) (nI (rest.length + 1)) S36) k37 n38 (A 3 c) (A 1 (tTo P.1 t)) (P.1 0 1) S)) : wb_X5_arriveFrom_8 post (rest.length + 1 + 1) MC MS (A 0 0) (A 2 t) (nI (rest.length + 1)) S := by
  have h30 := hw.1.2.1.2
  have hcm : c ∈ P.2 (15 + t) := by rw [hI]; exact List.mem_cons_self
  obtain ⟨-, -, -, hcn, -⟩ := w_in hw (by omega) hcm
  obtain ⟨-, hT2, -⟩ := hw.2.1 t ht
  obtain ⟨ha1, -⟩ := hw.2.2.2.2.2.1 c hcn
  have hj : jamB P t = decide (dueM P.1 c) := by unfold jamB; rw [hI]; rfl
  obtain ⟨p0, p1, p2, p3, p4, -⟩ := h.1.1
  obtain ⟨t0, t1, t2, t3, -, -, t6, -⟩ := h.1.2.2.2.2.1 t ht
  obtain ⟨c0, c1, c2, -⟩ := h.1.2.2.2.2.2.1 c hcn
  obtain ⟨s0, -⟩ := h.1.2.2.2.1 _ hT2.2
  obtain ⟨e, hL⟩ := cl_at h (i := 32 + t) (Or.inr (Or.inr (Or.inr ⟨by omega, by omega⟩)))
  rw [ls_i] at hL
  unfold wb_X5_arriveFrom_8
  refine ⟨fun q => absurd q (nI_nle (by omega) (by omega)), fun _ => ⟨p0, t0, ?_⟩⟩
  rw [p4]
  refine C_atEnd h hw ht ?_
  rw [hj]
  by_cases hd : dueM P.1 c
  · rw [if_pos (decide_eq_true hd)]
    refine ⟨fun q => absurd q (by decide), fun _ => ⟨t0, _, t6, hL.1, C_get (k := 0) (a := A 3 c) hL (by rw [hI]; rfl) ⟨_, rfl, c0, _, c2, t0, _, t3, fun hne => ⟨_, t3, s0, C_hasRoom h hw hT2.2 ?_⟩, fun he => ⟨p0, dl hd ?_⟩⟩⟩⟩
    · have ha : ¬ P.1 4 (9 * c + 2) = P.1 2 (8 * t + 1) := fun q => hne (by rw [q])
      by_cases hr : nI (P.2 (1 + tTo P.1 t)).length < P.1 1 (9 * tTo P.1 t + 0)
      · rw [if_pos hr]
        refine ⟨fun q => absurd q (by decide), fun _ => ⟨t0, _, t3, p0, c0, ?_⟩⟩
        rw [p4]
        exact mv hd ha hr
      · rw [if_neg hr]
        exact ⟨fun _ => nr hd ha hr, fun q => absurd rfl q⟩
    · have := h.1.2.2.2.2.2.2.2.1.1 _ _ ha1.2 hT2.2 (by injection he)
      rw [ha1.1, this, hT2.1]
  · rw [if_neg (by simp [hd])]
    exact ⟨fun _ => nd hd, fun q => absurd rfl q⟩
theorem cp1_ge {n c : Nat} : c ≤ cp1 n c := by
  unfold cp1 nx
  split
  · split <;> omega
  · exact Nat.le_refl _
theorem potC_le {cp : Nat → Nat} {i c' : Nat} (h : cp i ≤ c') : ∀ n, potC (up cp i c') n ≤ potC cp n
  | 0 => Nat.le_refl _
  | n + 1 => by
    have ih := potC_le (cp := cp) (i := i) h n
    show potC (up cp i c') n + 4 * (750 - up cp i c' n) ≤ potC cp n + 4 * (750 - cp n)
    by_cases q : n = i
    · subst q
      rw [up_s]
      omega
    · rw [up_n q]
      omega
theorem lsC_mov {A : Nat → Nat → Nat} {B K t c to : Nat} {P : pP} {rest : List Nat} (hw : wI B K P.1 P.2) (ht : t < 30) (hcm : c ∈ P.2 (15 + t)) (h2 : movL P.1 P.2 c to (15 + t) = rest) (hto : to < 14) {i : Nat} (hi : i < 62) : lsC A P.1 (movL P.1 P.2 c to) i = up (up (lsC A P.1 P.2) (18 + to) ((insR (movM P.1 c to) c (P.2 (1 + to))).map (A 3))) (32 + t) (rest.map (A 3)) i := by
  have a1 := lsC_up (A := A) (M := P.1) (L := up P.2 (1 + to) (insR (movM P.1 c to) c (P.2 (1 + to)))) (L' := movL P.1 P.2 c to) (k := 15 + t) (κ := 32 + t) (by omega) (by omega) (fun j j0 jk j45 => by
    by_cases q : j = 1 + to
    · subst q
      rw [up_s]
      unfold movL sLst
      rw [if_neg j0, if_pos rfl, if_pos (by omega), w_off_in hw ht hcm j0 jk j45]
    · rw [up_n q]
      unfold movL sLst
      rw [if_neg j0, if_neg q]
      exact w_off_in hw ht hcm j0 jk j45) h2 hi
  have a2 := lsC_up (A := A) (M := P.1) (L := P.2) (L' := up P.2 (1 + to) (insR (movM P.1 c to) c (P.2 (1 + to)))) (k := 1 + to) (κ := 18 + to) (by omega) (by omega) (fun j j0 jk j45 => up_n jk) up_s hi
  rw [a1]
  by_cases q : i = 32 + t
  · rw [q, up_s, up_s]
  · rw [up_n q, up_n q, a2]
theorem C_arr_loop {B t : Nat} : ∀ (I : List Nat) (K : Nat) (P : pP) (cp : Nat → Nat), wI B K P.1 P.2 → t < nT P.1 → P.2 (15 + t) = I → K + I.length < 2 ^ 31 → ∃ cp', cW P (sArr t I P) cp cp' (fun post MC MS A S => wb_X5_arriveFrom_8 post (I.length + 1) MC MS (A 0 0) (A 2 t) (nI I.length) S) := by
  intro I
  induction I with
  | nil =>
    intro K P cp hw ht hI hK
    refine ⟨cp, Nat.le_refl _, fun z => z, fun S A MC MS post h hC hS hp => ?_⟩
    unfold wb_X5_arriveFrom_8
    exact ⟨fun _ => hp S h (cF_rf A S), fun q => absurd (nI_le (Nat.le_refl 0) (by omega)) q⟩
  | cons c rest ih =>
    intro K P cp hw ht hI hK
    rw [List.length_cons] at hK ⊢
    have h30 := hw.1.2.1.2
    have h14 := hw.1.1.2
    have hcm : c ∈ P.2 (15 + t) := by rw [hI]; exact List.mem_cons_self
    obtain ⟨hc0, hst, hwh, hcn, hc5⟩ := w_in hw (by omega) hcm
    obtain ⟨-, hT2, -⟩ := hw.2.1 t ht
    obtain ⟨ha1, -⟩ := hw.2.2.2.2.2.1 c hcn
    have hlen := len_in hw (t := t) (by omega)
    rw [hI, List.length_cons] at hlen
    unfold sArr
    by_cases hd : dueM P.1 c
    · rw [if_pos hd]
      by_cases ha : P.1 4 (9 * c + 2) = P.1 2 (8 * t + 1)
      · rw [if_pos ha]
        obtain ⟨h1, h2⟩ := arr_del (by omega) hw ht hI
        obtain ⟨cp', m1, m2, m3⟩ := ih (K + 1) (delM P.1 (P.2 0) c, delL P.1 P.2 c) cp h1 (by unfold nT at *; show t < u (delM P.1 (P.2 0) c 0 3); rw [del_r0 _ _ _ _ (by decide)]; exact ht) h2 (by omega)
        have nS' : nS (delM P.1 (P.2 0) c) = nS P.1 := by unfold nS; rw [del_r0 _ _ _ _ (by decide)]
        have nT' : nT (delM P.1 (P.2 0) c) = nT P.1 := by unfold nT; rw [del_r0 _ _ _ _ (by decide)]
        have lv' : lvC (delM P.1 (P.2 0) c) = lvC P.1 := by funext i; unfold lvC; rw [nS', nT']
        refine ⟨cp', m1, fun z => m2 (fun i hi hn => z i hi (by rw [← lv']; exact hn)), fun S A MC MS post h hC hS hp => ?_⟩
        refine C_arr_head hw ht hI (by omega) h (fun q => absurd hd q) (fun _ _ => ?_) (fun _ q => absurd ha q) (fun _ q => absurd ha q)
        obtain ⟨ea, hL⟩ := h.2
        refine C_deliver h.1 (P.2 0) hcn ha1.1.symm rfl ha1.2 (fun S' hO' hL' hF => ?_)
        have hL1 := hL' _ _ _ _ hL
        rw [← lv'] at hL1
        refine C_arr80 (L1 := delL P.1 P.2 c) hO' hL1 (by rw [nT']; exact ht) (a := A 3 c) (rest := rest) (by rw [ls_i, hI]; rfl) (fun i hi => ?_) (fun S'' hR'' hF'' => ?_)
        · rw [lv'] at hi
          rw [lsC_fr hw.1 hw.2.2.1 nS' nT' (by unfold nE; rw [del_r0 _ _ _ _ (by decide)]) (by unfold nC; rw [del_r0 _ _ _ _ (by decide)]) (fun s w _ _ _ => by simp (disch := omega) only [delM, pM, mU_r, mU_c, mRow_r]) hi]
          refine lsC_up (k := 15 + t) (by omega) (by omega) (fun j j0 jk j45 => ?_) h2 (lvC_lt hw.1 hi)
          unfold delL sLst
          rw [if_neg j0, if_neg j0]
          exact w_off_in hw (by omega) hcm j0 jk j45
        · exact m3 S'' A MC MS post hR'' hC hS (fun S3 hR3 hF3 => hp S3 hR3 (cF_tr hF (cF_tr hF'' hF3)))
      · rw [if_neg ha]
        by_cases hr : nI (P.2 (1 + tTo P.1 t)).length < P.1 1 (9 * tTo P.1 t + 0)
        · rw [if_pos hr]
          obtain ⟨h1, h2⟩ := arr_mov (by omega) hw ht hI hr
          have hlA := len_at hw (t := tTo P.1 t) (by omega)
          generalize hto : tTo P.1 t = to at *
          obtain ⟨cp', m1, m2, m3⟩ := ih (K + 1) (movM P.1 c to, movL P.1 P.2 c to) (up cp (18 + to) (cp1 (P.2 (1 + to)).length (cp (18 + to)))) h1 (by unfold nT at *; show t < u (movM P.1 c to 0 3); rw [mov_r0 _ _ _ _ (by decide)]; exact ht) h2 (by omega)
          have lvto : lvC P.1 (18 + to) := Or.inr (Or.inr (Or.inl ⟨by omega, by omega⟩))
          have lv' : lvC (movM P.1 c to) = lvC P.1 := rfl
          have hle := potC_le (cp := cp) (i := 18 + to) (c' := cp1 (P.2 (1 + to)).length (cp (18 + to))) cp1_ge 62
          refine ⟨cp', Nat.le_trans m1 hle, fun z => m2 (fun i hi hn => ?_), fun S A MC MS post h hC hS hp => ?_⟩
          · have hn' : ¬ lvC P.1 i := hn
            rw [up_n (j := i) (i := 18 + to) (fun q => hn' (by rw [q]; exact lvto))]
            exact z i hi hn'
          · obtain ⟨ea, hL⟩ := h.2
            obtain ⟨cap1, cap2, -⟩ := LSr_cap hL lvto
            have hB := cpB_pot (cp := cp) (i := 18 + to) (n := (P.2 (1 + to)).length) (by omega) cap1 (by omega) cap2
            have hls := fun (i : Nat) (hi : i < 62) => lsC_mov (A := A) (to := to) hw (by omega) hcm h2 (by omega) hi
            refine C_arr_head hw ht hI (by omega) h (fun q => absurd hd q) (fun _ q => absurd q ha) (fun _ _ q => absurd hr (by rw [hto] at q; exact q)) (fun _ _ _ => ⟨cpB (P.2 (1 + to)).length (cp (18 + to)), cpB (P.2 (1 + to)).length (cp (18 + to)), by omega, by omega, ?_⟩)
            rw [hto]
            refine C_comeTo h.1 hL hT2.2 hcn lvto (ls_l (by omega)) (fun d hd => (w_at hw (by omega) hd).2.2.2.1) (by omega) ((hw.2.2.2.2.2.2.1.1 to (by omega)).2.imp (fun {a b} => ahd_nlt)) (Nat.le_refl _) (Nat.le_refl _) (fun S' ea' hO' hL' hF => ?_)
            refine C_arr80 (L1 := movL P.1 P.2 c to) hO' hL' ht (a := A 3 c) (rest := rest) (by rw [up_n (by omega), ls_i, hI]; rfl) (fun i hi => ?_) (fun S'' hR'' hF'' => ?_)
            · exact hls i (lvC_lt hw.1 hi)
            · exact m3 S'' A _ _ post hR'' (by omega) (by omega) (fun S3 hR3 hF3 => hp S3 hR3 (cF_tr hF (cF_tr hF'' hF3)))
        · rw [if_neg hr]
          refine ⟨cp, Nat.le_refl _, fun z => z, fun S A MC MS post h hC hS hp => ?_⟩
          exact C_arr_head hw ht hI (by omega) h (fun _ => hp S h (cF_rf A S)) (fun _ q => absurd q ha) (fun _ _ _ => hp S h (cF_rf A S)) (fun _ _ q => absurd q hr)
    · rw [if_neg hd]
      refine ⟨cp, Nat.le_refl _, fun z => z, fun S A MC MS post h hC hS hp => ?_⟩
      exact C_arr_head hw ht hI (by omega) h (fun _ => hp S h (cF_rf A S)) (fun q => absurd q hd) (fun q => absurd q hd) (fun q => absurd q hd)
theorem C_arriveFrom {B K t : Nat} {P : pP} {cp : Nat → Nat} (hw : wI B K P.1 P.2) (ht : t < nT P.1) (hK : K + 40 < 2 ^ 31) : ∃ cp', cW P (sArr t (P.2 (15 + t)) P) cp cp' (fun post MC MS A S => wp_X5_arriveFrom post MC MS (A 0 0) (A 2 t) S) := by
  have h30 := hw.1.2.1.2
  have hl := len_in hw (t := t) (by omega)
  obtain ⟨cp', m1, m2, m3⟩ := C_arr_loop (P.2 (15 + t)) K P cp hw ht rfl (by omega)
  refine ⟨cp', m1, m2, fun S A MC MS post h hC hS hp => ?_⟩
  obtain ⟨t0, -, -, -, -, -, t6, -⟩ := h.1.2.2.2.2.1 t ht
  obtain ⟨e, hL⟩ := cl_at h (i := 32 + t) (Or.inr (Or.inr (Or.inr ⟨by omega, by omega⟩)))
  rw [ls_i] at hL
  refine ⟨t0, _, t6, hL.1, C_size hL ⟨(P.2 (15 + t)).length + 1, ?_⟩⟩
  rw [List.length_map]
  exact m3 S A MC MS post h hC hS hp
theorem cW_up {P P' : pP} {cp cp' : Nat → Nat} {w1 w2 : (bS → Prop) → Nat → Nat → (Nat → Nat → Nat) → bS → Prop} (h : cW P P' cp cp' w1) (hi : ∀ post MC MS A S, cR S A cp P → w1 post MC MS A S → w2 post MC MS A S) : cW P P' cp cp' w2 := ⟨h.1, h.2.1, fun S A MC MS post hR hC hS hp => hi post MC MS A S hR (h.2.2 S A MC MS post hR hC hS hp)⟩
theorem C_arrN {B K : Nat} {P : pP} (hK : K + 1200 < 2 ^ 31) (hw : wI B K P.1 P.2) : ∀ (n k : Nat) (cp : Nat → Nat), k + n = nT P.1 → ∃ cp', cW (sArrN P k) (sArrN P (nT P.1)) cp cp' (fun post MC MS A S => wb_X5_arriveEverywhere_2 post (n + 1) MC MS (A 0 0) (nI k) S) := by
  have h30 := hw.1.2.1.2
  intro n
  induction n with
  | zero =>
    intro k cp hk
    have hk' : k = nT P.1 := by omega
    subst hk'
    obtain ⟨h1, h2⟩ := sArrN_inv hK hw (nT P.1) (Nat.le_refl _)
    have hn : nT (sArrN P (nT P.1)).1 = nT P.1 := by unfold nT; rw [h2 3 (by decide)]
    refine ⟨cp, Nat.le_refl _, fun z => z, fun S A MC MS post h hC hS hp => ?_⟩
    obtain ⟨p0, p1, -⟩ := h.1.1
    obtain ⟨n0, -, n2, -⟩ := h.1.2.1
    obtain ⟨e, hL⟩ := cl_at h (i := 1) (Or.inl (by decide))
    unfold wb_X5_arriveEverywhere_2
    refine ⟨p0, _, p1, n0, _, n2, hL.1, C_size hL ⟨fun _ => hp S h (cF_rf A S), fun q => ?_⟩⟩
    rw [ls_1, List.length_map, List.length_range, hn] at q
    exact absurd (nI_le (Nat.le_refl _) (by omega)) q
  | succ n ih =>
    intro k cp hk
    obtain ⟨h1, h2⟩ := sArrN_inv hK hw k (by omega)
    have hn : nT (sArrN P k).1 = nT P.1 := by unfold nT; rw [h2 3 (by decide)]
    obtain ⟨cp1, m1, m2, m3⟩ := C_arriveFrom (t := k) (cp := cp) h1 (by rw [hn]; omega) (by omega)
    obtain ⟨cp', o1, o2, o3⟩ := ih (k + 1) cp1 (by omega)
    refine ⟨cp', Nat.le_trans o1 m1, fun z => o2 (m2 z), fun S A MC MS post h hC hS hp => ?_⟩
    obtain ⟨p0, p1, -⟩ := h.1.1
    obtain ⟨n0, -, n2, -⟩ := h.1.2.1
    obtain ⟨e, hL⟩ := cl_at h (i := 1) (Or.inl (by decide))
    unfold wb_X5_arriveEverywhere_2
    refine ⟨p0, _, p1, n0, _, n2, hL.1, C_size hL ⟨fun q => ?_, fun _ => ⟨p0, _, p1, n0, _, n2, hL.1, C_getTu h (s := k) (by rw [hn]; omega) ⟨_, rfl, (h.1.2.2.2.2.1 k (by rw [hn]; omega)).1, p0, potC cp 62 - potC cp1 62, potC cp 62 - potC cp1 62, by omega, by omega, m3 S A _ _ _ h (by omega) (by omega) (fun S' hR' hF' => ?_)⟩⟩⟩⟩
    · rw [ls_1, List.length_map, List.length_range, hn] at q
      exact absurd q (nI_ge (by omega) (by omega))
    · rw [nI_1]
      exact o3 S' A _ _ post hR' (by omega) (by omega) (fun S'' hR'' hF'' => hp S'' hR'' (cF_tr hF' hF''))
end CARR
