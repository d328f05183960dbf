/-- a departs ahead of b -/
abbrev ahd (M : Nat → Nat → Int32) (a b : Nat) : Prop := if M 4 (9 * a + 3) = M 4 (9 * b + 3) then M 4 (9 * a + 7) < M 4 (9 * b + 7) else M 4 (9 * b + 3) < M 4 (9 * a + 3)
theorem ahd_trans {M : Nat → Nat → Int32} {a b c : Nat} (h1 : ahd M a b) (h2 : ahd M b c) : ahd M a c := by
  unfold ahd at *
  by_cases hab : M 4 (9 * a + 3) = M 4 (9 * b + 3)
  · rw [if_pos hab] at h1
    by_cases hbc : M 4 (9 * b + 3) = M 4 (9 * c + 3)
    · rw [if_pos hbc] at h2
      rw [if_pos (hab.trans hbc)]
      exact Int32.lt_trans h1 h2
    · rw [if_neg hbc] at h2
      rw [if_neg (fun q => hbc (hab.symm.trans q)), hab]
      exact h2
  · rw [if_neg hab] at h1
    by_cases hbc : M 4 (9 * b + 3) = M 4 (9 * c + 3)
    · rw [if_pos hbc] at h2
      rw [if_neg (fun q => hab (q.trans hbc.symm)), ← hbc]
      exact h1
    · rw [if_neg hbc] at h2
      have h3 := Int32.lt_trans h2 h1
      rw [if_neg (fun q => Int32.lt_irrefl (by rw [q] at h3; exact h3))]
      exact h3
theorem ahd_asymm {M : Nat → Nat → Int32} {a b : Nat} (h1 : ahd M a b) (h2 : ahd M b a) : False := by
  have h := ahd_trans h1 h2
  unfold ahd at h
  rw [if_pos rfl] at h
  exact Int32.lt_irrefl h
theorem ahd_tri {M : Nat → Nat → Int32} {a b : Nat} (h : M 4 (9 * a + 7) ≠ M 4 (9 * b + 7)) (hn : ¬ ahd M a b) : ahd M b a := by
  unfold ahd at *
  by_cases hab : M 4 (9 * a + 3) = M 4 (9 * b + 3)
  · rw [if_pos hab] at hn
    rw [if_pos hab.symm]
    rcases Int32.lt_or_eq_of_le (Int32.not_lt.mp hn) with q | q
    · exact q
    · exact absurd q.symm h
  · rw [if_neg hab] at hn
    rw [if_neg (fun q => hab q.symm)]
    rcases Int32.lt_or_eq_of_le (Int32.not_lt.mp hn) with q | q
    · exact q
    · exact absurd q hab
theorem pw_unique {R : Nat → Nat → Prop} (has : ∀ a b, R a b → R b a → False) : ∀ {l1 l2 : List Nat}, l1.Perm l2 → l1.Pairwise R → l2.Pairwise R → l1 = l2
  | [], l2, hp, _, _ => (List.nil_perm.mp hp).symm
  | a :: l1, [], hp, _, _ => absurd hp.symm (by simp)
  | a :: l1, b :: l2, hp, h1, h2 => by
    obtain ⟨ha, h1'⟩ := List.pairwise_cons.mp h1
    obtain ⟨hb, h2'⟩ := List.pairwise_cons.mp h2
    have hab : a = b := by
      rcases List.mem_cons.mp (hp.mem_iff.mp List.mem_cons_self) with q | q
      · exact q
      · rcases List.mem_cons.mp (hp.mem_iff.mpr List.mem_cons_self) with q2 | q2
        · exact q2.symm
        · exact (has a b (ha b q2) (hb a q)).elim
    subst hab
    rw [pw_unique has (List.Perm.cons_inv hp) h1' h2']
/-- the row g begins with the list l -/
def Qu (g : Nat → Int32) (l : List Nat) : Prop := ∀ (k c : Nat), l[k]? = some c → g k = nI c
section MODEL4
variable {μ : Nat} {r : Nat → Nat} {S : bS} {M : Nat → Nat → Int32}
theorem M_firstIn (hM : mOK μ r S) {al I : List Nat} (hA : mAc M al) {post : Int32 → bS → Prop} {t : Int32} (hp : I.Perm (al.filter (inT M t))) (hs : I.Pairwise (fun a b => M 4 (9 * a + 7) < M 4 (9 * b + 7))) (h : post (oI I.head?) (mW μ r S M)) : wp_X6_firstIn post μ t (mW μ r S M) := by
  refine ⟨al.length + 1, ?_⟩
  exact M_firstIn_loop hM hA al 0 none (fun d hd => by cases hd) (Nat.zero_le _) rfl (by rw [fold_head hp hs]; exact h)
/-- due, by the numbers -/
abbrev dueM (M : Nat → Nat → Int32) (c : Nat) : Prop := ¬ (M 0 1 - M 4 (9 * c + 5) < M 4 (9 * c + 8))
theorem M_isDue_none (hM : mOK μ r S) {post : Int32 → bS → Prop} (h : post 0 (mW μ r S M)) : wp_X6_isDue post μ (-1) (mW μ r S M) := ⟨fun _ => ⟨Or.inl rfl, h⟩, fun q => absurd rfl q⟩
theorem M_isDue_some (hM : mOK μ r S) {post : Int32 → bS → Prop} {c : Nat} (hc : c < 500) (h : post (if dueM M c then 1 else 0) (mW μ r S M)) : wp_X6_isDue post μ (nI c) (mW μ r S M) := by
  refine ⟨fun q => absurd q (nI_neN1 (by omega)), fun _ => ⟨m_k hM, M_get (w := 5) hM (by omega) ⟨m_k hM, M_get (w := 8) hM (by omega) ⟨fun hlt => ?_, fun hlt => ?_⟩⟩⟩⟩
  · rw [mW_V0] at hlt
    rw [if_neg (fun q => q hlt)] at h
    exact ⟨Or.inl rfl, h⟩
  · rw [mW_V0] at hlt
    rw [if_pos (show dueM M c from hlt)] at h
    exact ⟨Or.inr rfl, h⟩
theorem M_isAhead (hM : mOK μ r S) {post : Int32 → bS → Prop} {a b : Nat} (ha : a < 500) (hb : b < 500) (h : post (if ahd M a b then 1 else 0) (mW μ r S M)) : wp_X6_isAhead post μ (nI a) (nI b) (mW μ r S M) := by
  refine ⟨m_k hM, M_get (w := 3) hM (by omega) ⟨m_k hM, M_get (w := 3) hM (by omega) ⟨fun he => ?_, fun hne => ?_⟩⟩⟩
  · refine ⟨m_k hM, M_get (w := 7) hM (by omega) ⟨m_k hM, M_get (w := 7) hM (by omega) ⟨fun hle => ?_, fun hle => ?_⟩⟩⟩
    · rw [if_neg (by unfold ahd; rw [if_pos he]; exact Int32.not_lt.mpr hle)] at h
      exact ⟨Or.inl rfl, h⟩
    · rw [if_pos (by unfold ahd; rw [if_pos he]; exact Int32.not_le.mp hle)] at h
      exact ⟨Or.inr rfl, h⟩
  · refine ⟨m_k hM, M_get (w := 3) hM (by omega) ⟨m_k hM, M_get (w := 3) hM (by omega) ⟨fun hle => ?_, fun hle => ?_⟩⟩⟩
    · rw [if_neg (by unfold ahd; rw [if_neg hne]; exact Int32.not_lt.mpr hle)] at h
      exact ⟨Or.inl rfl, h⟩
    · rw [if_pos (by unfold ahd; rw [if_neg hne]; exact Int32.not_le.mp hle)] at h
      exact ⟨Or.inr rfl, h⟩
theorem M_line_in (hM : mOK μ r S) {f : Nat → Int32} {post : Int32 → bS → Prop} {rec : Nat → Int32 → Int32 → Int32 → bS → Prop} {s m k : Int32} {c N : Nat} (hc : c < 500) (hN : N < 40) : ∀ (n : Nat) (q1 q2 : List Nat) (g : Nat → Int32), q1.length = n → Qu g q1 → (∀ j d, q2[j]? = some d → g (n + 1 + j) = nI d) → (∀ d, d ∈ q2 → ahd M c d) → (∀ d, d ∈ q1 → d < 500) → n + q2.length = N → (∀ q1' q2' g', q1' ++ q2' = q1 ++ q2 → (∀ d, d ∈ q2' → ahd M c d) → (∀ d, q1'.getLast? = some d → ¬ ahd M c d) → Qu g' (q1' ++ c :: q2') → rec μ s (m + 1) (k + 1) (mW μ r S (mX M f g'))) → wb_X6_line_48 post rec (n + 1) μ s m k (nI c) (nI n) (mW μ r S (mX M f g)) := by
  have lay : ∀ (n : Nat) (q1 q2 : List Nat) (g : Nat → Int32), q1.length = n → n < 40 → Qu g q1 → (∀ j d, q2[j]? = some d → g (n + 1 + j) = nI d) → (Qu (upd g n (nI c)) (q1 ++ c :: q2) → rec μ s (m + 1) (k + 1) (mW μ r S (mX M f (upd g n (nI c))))) → wb_X6_line_93 post rec μ s m k (nI c) (nI n) (mW μ r S (mX M f g)) := by
    intro n q1 q2 g hl hn hq1 hq2 h
    refine ⟨m_k hM, r 7, (m_q hM).2.2.2.2.2.2, mW_k7 hM, ?_, ?_⟩
    · rw [mW_n7 hM]
      exact vp_in_nI (by omega) (by omega)
    · rw [nI_clamp (by omega), sW_7 hM, mX_U7]
      refine h (fun j d hj => ?_)
      by_cases h1 : j < n
      · rw [List.getElem?_append_left (by omega)] at hj
        rw [pk_un (by omega)]
        exact hq1 j d hj
      · rw [List.getElem?_append_right (by omega), hl] at hj
        by_cases h2 : j = n
        · subst h2
          rw [Nat.sub_self] at hj
          cases hj
          exact pk_us
        · obtain ⟨i, hi⟩ : ∃ i, j - n = i + 1 := ⟨j - n - 1, by omega⟩
          rw [hi, List.getElem?_cons_succ] at hj
          rw [pk_un h2, show j = n + 1 + i by omega]
          exact hq2 i d hj
  intro n
  induction n with
  | zero =>
    intro q1 q2 g hl hq1 hq2 ha h5 hlen h
    have hnil : q1 = [] := List.length_eq_zero_iff.mp hl
    subst hnil
    unfold wb_X6_line_48
    refine ⟨fun _ => lay 0 [] q2 g rfl (by omega) hq1 hq2 (fun hQ => h [] q2 _ rfl ha (fun d hd => by cases hd) hQ), fun hc => absurd (nI_le (Nat.le_refl 0) (by omega)) hc⟩
  | succ n ih =>
    intro q1 q2 g hl hq1 hq2 ha h5 hlen h
    obtain ⟨q1', d, rfl⟩ : ∃ q1' d, q1 = q1' ++ [d] := by
      rcases List.eq_nil_or_concat q1 with q | ⟨q1', d, q⟩
      · subst q; cases hl
      · exact ⟨q1', d, by rw [q]; simp⟩
    have hl' : q1'.length = n := by rw [List.length_append] at hl; simpa using hl
    have hd5 : d < 500 := h5 d (by simp)
    have hgn : g n = nI d := hq1 n d (by rw [List.getElem?_append_right (by omega), hl', Nat.sub_self]; rfl)
    unfold wb_X6_line_48
    refine ⟨fun hle => absurd hle (nI_nle (by omega) (by omega)), fun _ => ⟨m_k hM, r 7, (m_q hM).2.2.2.2.2.2, mW_k7 hM, ?_, ?_⟩⟩
    · rw [mW_n7 hM, nI_pred]
      exact vp_in_nI (by omega) (by omega)
    · rw [nI_pred, nI_clamp (n := n) (by omega), mW_V7 hM, show mX M f g 7 n = nI d from hgn]
      refine M_isAhead hM hc hd5 ⟨fun h0 => ?_, fun h0 => ?_⟩
      · have hna : ¬ ahd M c d := fun q => by
          rw [if_pos (show ahd (mX M f g) c d from q)] at h0
          exact absurd h0 (by decide)
        refine lay (n + 1) (q1' ++ [d]) q2 g (by rw [List.length_append, hl']; rfl) (by omega) hq1 hq2 (fun hQ => h (q1' ++ [d]) q2 _ rfl ha (fun e he => ?_) hQ)
        rw [List.getLast?_append] at he
        cases he
        exact hna
      · have hya : ahd M c d := by
          by_cases q : ahd M c d
          · exact q
          · rw [if_neg (show ¬ ahd (mX M f g) c d from q)] at h0
            exact absurd rfl h0
        refine ⟨m_k hM, r 7, (m_q hM).2.2.2.2.2.2, r 7, (m_q hM).2.2.2.2.2.2, mW_k7 hM, ?_, mW_k7 hM, ?_, ?_⟩
        · rw [mW_n7 hM]
          exact vp_in_nI (by omega) (by omega)
        · rw [mW_n7 hM]
          exact vp_in_nI (by omega) (by omega)
        · rw [pk_m1, nI_clamp (n := n + 1) (by omega), mW_V7 hM, show mX M f g 7 n = nI d from hgn, sW_7 hM, mX_U7]
          refine ih q1' (d :: q2) _ hl' (fun j e hj => ?_) (fun j e hj => ?_) (fun e he => ?_) (fun e he => h5 e (List.mem_append_left _ he)) (by rw [List.length_cons]; omega) (fun q1'' q2'' g' he => ?_)
          · have hjl := (List.getElem?_eq_some_iff.mp hj).1
            rw [pk_un (by omega)]
            exact hq1 j e (by rw [List.getElem?_append_left hjl]; exact hj)
          · cases j with
            | zero =>
              cases hj
              exact pk_us
            | succ j =>
              rw [pk_un (by omega)]
              rw [List.getElem?_cons_succ] at hj
              rw [show n + 1 + (j + 1) = n + 1 + 1 + j by omega]
              exact hq2 j e hj
          · rcases List.mem_cons.mp he with rfl | he
            · exact hya
            · exact ha e he
          · refine h q1'' q2'' g' ?_
            rw [he]
            simp
theorem ins_sorted {M : Nat → Nat → Int32} {c : Nat} {q q1 q2 : List Nat} (hs : q.Pairwise (ahd M)) (he : q1 ++ q2 = q) (h2 : ∀ d, d ∈ q2 → ahd M c d) (h1 : ∀ d, q1.getLast? = some d → ¬ ahd M c d) (htri : ∀ d, d ∈ q → M 4 (9 * c + 7) ≠ M 4 (9 * d + 7)) : (q1 ++ c :: q2).Pairwise (ahd M) := by
  subst he
  obtain ⟨p1, p2, p3⟩ := List.pairwise_append.mp hs
  have hc1 : ∀ d, d ∈ q1 → ahd M d c := by
    rcases List.eq_nil_or_concat q1 with q | ⟨q1', e, q⟩
    · subst q
      exact fun d hd => absurd hd List.not_mem_nil
    · rw [List.concat_eq_append] at q
      subst q
      have hec : ahd M e c := ahd_tri (htri e (by simp)) (h1 e (by simp))
      intro d hd
      rcases List.mem_append.mp hd with hd | hd
      · exact ahd_trans ((List.pairwise_append.mp p1).2.2 d hd e (by simp)) hec
      · rw [List.mem_singleton] at hd
        subst hd
        exact hec
  refine List.pairwise_append.mpr ⟨p1, List.pairwise_cons.mpr ⟨h2, p2⟩, fun a ha b hb => ?_⟩
  rcases List.mem_cons.mp hb with rfl | hb
  · exact hc1 a ha
  · exact p3 a ha b hb
theorem M_line_loop (hM : mOK μ r S) {f : Nat → Int32} {al : List Nat} (hA : mAc M al) (hnd : al.Nodup) (htri : ∀ a b, a ∈ al → b ∈ al → a ≠ b → M 4 (9 * a + 7) ≠ M 4 (9 * b + 7)) {post : Int32 → bS → Prop} {s : Int32} {Ln : List Nat} (hp : Ln.Perm (al.filter (atS M s))) (hs : Ln.Pairwise (ahd M)) (h : ∀ g', Qu g' Ln → post (nI Ln.length) (mW μ r S (mX M f g'))) : ∀ (rest pre q : List Nat) (g : Nat → Int32), al = pre ++ rest → Qu g q → q.Perm (pre.filter (atS M s)) → q.Pairwise (ahd M) → wb_X6_line_4 post (rest.length + 1) μ s (nI q.length) (nI pre.length) (mW μ r S (mX M f g)) := by
  intro rest
  have hlen := hA.2.1
  induction rest with
  | nil =>
    intro pre q g hal hq hqp hqs
    rw [List.append_nil] at hal
    subst hal
    unfold wb_X6_line_4
    refine ⟨m_k hM, fun _ => ?_, fun hc => ?_⟩
    · have he : q = Ln := pw_unique (fun a b => ahd_asymm) (hqp.trans hp.symm) hqs hs
      subst he
      exact h g hq
    · rw [mW_V0, show mX M f g 0 14 = nI al.length from hA.1] at hc
      exact absurd (nI_le (Nat.le_refl _) (by omega)) hc
  | cons c rest ih =>
    intro pre q g hal hq hqp hqs
    have hk : al[pre.length]? = some c := by rw [hal, List.getElem?_append_right (Nat.le_refl _), Nat.sub_self]; rfl
    have hkl : pre.length < al.length := (List.getElem?_eq_some_iff.mp hk).1
    obtain ⟨ha, hc5⟩ := hA.2.2 pre.length c hk
    have hcal : c ∈ al := by rw [hal]; simp
    have hcpre : c ∉ pre := by
      rw [hal] at hnd
      intro q
      exact (List.nodup_append.mp hnd).2.2 c q c List.mem_cons_self rfl
    have hqal : ∀ d, d ∈ q → d ∈ al ∧ d < 500 ∧ d ≠ c := by
      intro d hd
      have h1 := (List.mem_filter.mp (hqp.mem_iff.mp hd)).1
      have h2 : d ∈ al := by rw [hal]; exact List.mem_append_left _ h1
      obtain ⟨i, hi⟩ := List.getElem?_of_mem h2
      exact ⟨h2, (hA.2.2 i d hi).2, fun e => hcpre (e ▸ h1)⟩
    have hql : q.length ≤ pre.length := by rw [hqp.length_eq]; exact List.length_filter_le _ _
    have hal' : al = (pre ++ [c]) ++ rest := by rw [hal]; simp
    have no : ¬ atS M s c = true → wb_X6_line_105 post (wb_X6_line_4 post (rest.length + 1)) μ s (nI q.length) (nI pre.length) (mW μ r S (mX M f g)) := by
      intro hn
      show wb_X6_line_4 post (rest.length + 1) μ s (nI q.length) (nI pre.length + 1) (mW μ r S (mX M f g))
      rw [nI_1]
      have := ih (pre ++ [c]) q g hal' hq (by rw [List.filter_append, List.filter_cons_of_neg hn]; simpa using hqp) hqs
      rw [List.length_append] at this
      exact this
    unfold wb_X6_line_4
    refine ⟨m_k hM, fun hc => ?_, fun _ => ⟨r 5, (m_q hM).2.2.2.2.1, mW_k5 hM, ?_, ?_⟩⟩
    · rw [mW_V0, show mX M f g 0 14 = nI al.length from hA.1] at hc
      exact absurd hc (nI_ge hkl (by omega))
    · rw [mW_n5 hM]
      exact vp_in_nI (by omega) (by omega)
    · rw [nI_clamp (by omega), mW_V5 hM, show mX M f g 5 pre.length = nI c from ha]
      refine M_get (w := 0) hM (by omega) ⟨fun hn => no (fun q => hn (atS_iff.mp q).1), fun he => ⟨m_k hM, ?_⟩⟩
      refine M_get (w := 1) hM (by omega) ⟨fun he2 => ⟨q.length + 1, ?_⟩, fun hn => no (fun q => hn (atS_iff.mp q).2)⟩
      refine M_line_in (N := q.length) hM hc5 (by omega) q.length q [] g rfl hq (fun j d hd => by cases hd) (fun d hd => absurd hd List.not_mem_nil) (fun d hd => (hqal d hd).2.1) rfl (fun q1 q2 g' hqe hq2 hq1 hQ => ?_)
      rw [List.append_nil] at hqe
      have hT : atS M s c = true := atS_iff.mpr ⟨he, he2⟩
      have hlen2 : (q1 ++ c :: q2).length = q.length + 1 := by
        rw [← hqe, List.length_append, List.length_append, List.length_cons]
        omega
      rw [nI_1, nI_1, ← hlen2]
      have := ih (pre ++ [c]) (q1 ++ c :: q2) g' hal' hQ (by
        rw [List.filter_append, List.filter_cons_of_pos hT]
        refine List.perm_middle.trans ?_
        rw [hqe]
        refine (List.Perm.cons c hqp).trans ?_
        exact (List.perm_append_singleton c _).symm) (ins_sorted hqs hqe hq2 hq1 (fun d hd => htri c d hcal (hqal d hd).1 (Ne.symm (hqal d hd).2.2)))
      rw [List.length_append (as := pre)] at this
      exact this
theorem M_line (hM : mOK μ r S) {f g : Nat → Int32} {al : List Nat} (hA : mAc M al) (hnd : al.Nodup) (htri : ∀ a b, a ∈ al → b ∈ al → a ≠ b → M 4 (9 * a + 7) ≠ M 4 (9 * b + 7)) {post : Int32 → bS → Prop} {s : Int32} {Ln : List Nat} (hp : Ln.Perm (al.filter (atS M s))) (hs : Ln.Pairwise (ahd M)) (h : ∀ g', Qu g' Ln → post (nI Ln.length) (mW μ r S (mX M f g'))) : wp_X6_line post μ s (mW μ r S (mX M f g)) := by
  refine ⟨al.length + 1, ?_⟩
  exact M_line_loop hM hA hnd htri hp hs h al [] [] g rfl (fun k c hk => by cases hk) List.Perm.nil List.Pairwise.nil
end MODEL4
