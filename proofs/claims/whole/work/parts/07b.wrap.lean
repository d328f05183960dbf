/-- the law's links to the exceptions' classes -/
def bXl : List Cond := [.classLink RL 13 "java/lang/IllegalArgumentException", .classLink RL 15 "java/lang/IllegalStateException", .classLink RL 21 "java/lang/IndexOutOfBoundsException"]
theorem goodQ {big a xl : List Cond} {own : String} {i : Nat} {y : MethodName} (h : GoodIn big (va_wsS own i y a)) (hx : xl.all goodWord = true) : GoodIn (big ++ xl) (va_wsS own i y (a ++ xl)) := by
  intro w hw
  unfold va_wsS at hw h
  rw [← List.append_assoc] at hw
  rcases List.mem_append.mp hw with h1 | h1
  · obtain ⟨h2, h3⟩ := h w h1
    exact ⟨List.mem_append_left _ h2, h3⟩
  · exact ⟨List.mem_append_right _ h1, good_of_word (List.all_eq_true.mp hx w h1)⟩
def wp_L_addStation (post : Int32 → bS → Prop) (MC MS : Nat) (p1 : Nat) (p2 : Int32) (p3 : Int32) (p4 : Nat) (S : bS) : Prop := gK S p1 = 7 ∧ (∃ k4 n5, k4 ≤ MC ∧ n5 ≤ MS ∧ (wp_X5_addStation (fun r2 S3 => gK S3 p4 = 13 ∧ (vp_in (0 : Int32) (gN S3 p4) ∧ (post (0 : Int32) (sL S3 p4 (Int32.toNatClampNeg (0 : Int32)) (Int32.toInt64 r2))))) (fun E S3 => (E = "java/lang/IllegalArgumentException" → post (1 : Int32) S3) ∧ (E = "java/lang/IllegalStateException" → post (2 : Int32) S3) ∧ (¬ E = "java/lang/IllegalArgumentException" → ¬ E = "java/lang/IllegalStateException" → False)) k4 n5 p1 p2 p3 S))
set_option maxHeartbeats 4000000 in
set_option maxRecDepth 100000 in
theorem m_L_addStation {l : Launch} {D : va_G} {y : Nat → ClassId} {z : Nat} {A : Nat → Prop} {S : bS} {post : Int32 → bS → Prop} (hl0 : l.stackTraces = false) {MC MS : Nat} {p1 : Nat} {p2 : Int32} {p3 : Int32} {p4 : Nat} (h : wp_L_addStation post MC MS p1 p2 p3 p4 S) : Met l yL_addStation (wsL_addStation ++ bXl) ({ frames := 9, cells := MC, slots := MS, locals := 422 } : Room) (va_Pc ([Value.ref p1, Value.int p2, Value.int p3, Value.ref p4] : List Value) (bP D y z S A)) (va_Qi post (fun S' t => wd D y z S' A t.heap) A) MC MS A := by
  refine va_MetW (cc := cL_addStation) (maxL := 5) (ret := (some .int)) (by decide) rfl ?_
  intro p e s m args below meth c s₁ B hml hv
  obtain ⟨rfl, hB⟩ := hv
  have hx := B.exec
  have hb := B.bytes
  have hr := B.returns
  have hts := atoms_spec (ws := (wsL_addStation ++ bXl)) B.pre
  have hown : s.vm.findClass RL = some m.cls := findClass_of_methodNamed B.named
  have hlocks := B.notSynchronized
  have htx := hts
  have hts : ∀ w ∈ wsL_addStation, w.before _ s = true := fun w h => htx w (List.mem_append_left _ h)
  have htb := vx_table (x := yL_addStation) B (hts (.codeWith yL_addStation cL_addStation 5 (some .int) [(0, 10, 13, 13), (0, 10, 17, 15)]) (by decide +kernel))
  have hw : wd D y z S A s.heap := hB.1
  have hK : va_K D bCl (bT y) s := hB.2.1
  have hNw := hB.2.2.1
  have hAn : ∀ q : Nat, s.heap.size ≤ q → A q := hB.2.2.2.1
  have hAz : ¬ A z := hB.2.2.2.2.1
  have hO := hB.2.2.2.2.2.1
  have hS : va_S A s.heap s.heap [] := va_S.rf
  have hl := lv_entry ([Value.ref p1, Value.int p2, Value.int p3, Value.ref p4] : List Value) (n := 5) (Nat.le_of_ble_eq_true rfl)
  rw [lg_entry_eq]
  generalize (lg_sl ([Value.ref p1, Value.int p2, Value.int p3, Value.ref p4] : List Value) ++ List.replicate (5 - (lg_sl ([Value.ref p1, Value.int p2, Value.int p3, Value.ref p4] : List Value)).length) Slot.unset).toArray = ls at hl ⊢
  have hl : lv_has ls 5 [(0, .ref p1), (1, .int p2), (2, .int p3), (3, .ref p4)] := hl
  obtain ⟨Q, hQ⟩ : ∃ Q, Q = MQ below (va_Qi post (fun S' t => wd D y z S' A t.heap) A) (([Value.ref p1, Value.int p2, Value.int p3, Value.ref p4] : List Value).toArray) s MC MS A := ⟨_, rfl⟩
  rw [← hQ]
  generalize hR : (headSpec (wsL_addStation ++ bXl) ({ frames := 9, cells := MC, slots := MS, locals := 422 } : Room)).room = R
  have hRf : 9 ≤ R.frames := by rw [← hR]; exact Nat.le_refl _
  have hRl : 422 ≤ R.locals := by rw [← hR]; exact Nat.le_refl _
  have hRc : R.cells = MC := by rw [← hR]; rfl
  have hRs : R.slots = MS := by rw [← hR]; rfl
  have hret : ∀ (v : Int32) (S : bS) (H : Heap) (locs : List Loc) (pc : Nat) (ls : Array Slot) (cu su : Nat) , post v S → wd D y z S A H → va_S A s.heap H locs → cu ≤ MC → su ≤ MS → decode cL_addStation pc = .ok (.ireturn, 1) → W p l e R s m (([Value.ref p1, Value.int p2, Value.int p3, Value.ref p4] : List Value).toArray) below meth c H locs cu su Q (F0 m pc ls [.int v]) := by
    intro v S H locs pc ls cu su h hw hS hcu hsu d0
    rw [hQ]; refine W.widen hcu hsu ?_; exact W.iret hx hb hr (fun t ht hW => ⟨⟨v, S, rfl, h, by show wd D y z S A t.heap; rw [ht]; exact hw⟩, hS.F ht⟩) hS.2.2 d0 hlocks
  unfold wp_L_addStation at h
  have hcu : 0 + MC ≤ MC := by omega
  have hsu : 0 + MS ≤ MS := by omega
  refine lv_aload_n hx hb dL_addStation_0 rfl (lv_at hl 3 rfl) ?_
  refine lv_iconst (v := (0 : Int32)) hx hb dL_addStation_1 (by decide) ?_
  refine lv_aload_n hx hb dL_addStation_2 rfl (lv_at hl 0 rfl) ?_
  refine lv_iload_n hx hb dL_addStation_3 rfl (lv_at hl 1 rfl) ?_
  refine lv_iload_n hx hb dL_addStation_4 rfl (lv_at hl 2 rfl) ?_
  obtain ⟨hk1, h⟩ := h
  obtain ⟨k4, n5, hbg1, hbg2, h⟩ := h
  have h1 := h
  refine vx_calli (vx_runV (As := [.int p2, .int p3]) (rest := [.int (0 : Int32), .ref p4]) ⟨hx, hb, hml, hown, hts⟩ (m_X5_addStation (l := l) hl0 h1) (cwV 2 hts gL_addStation_X5_addStation rfl rfl rfl (by decide +kernel) ⟨Nat.le_trans (Nat.le_of_ble_eq_true rfl) hRf, Nat.le_trans (Nat.le_of_ble_eq_true rfl) hRl⟩) (r_pV hB hw hS (ce_7 (S := S) hk1) rfl) rfl rfl hl.1 rfl (lv_room (Nat.le_of_ble_eq_true rfl)) dL_addStation_5 ⟨by omega, by omega⟩) hS (fun _ _ h => h) (fun _ h => h) (fun _ _ h => h) (fun E ce q9 S3 t H1 locs ht hal _ hq hz9 hk9 hS hq9 hvm9 hfc9 => ?_) (fun r2 S3 t H1 locs ht _ h hw1 _ _ hS => ?_)
  · subst ht
    have hw : wd D y z S3 A t.heap := hq.2
    have h := hq.1
    have hcu : (0 + k4) + (MC - k4) ≤ MC := by omega
    have hsu : (0 + n5) + (MS - n5) ≤ MS := by omega
    by_cases hE0 : E = "java/lang/IllegalArgumentException"
    · have h := h.1 hE0
      rw [hE0] at hfc9
      refine vx_catch (E := "java/lang/IllegalArgumentException") (name := "java/lang/IllegalArgumentException") hown ([] : List ExceptionTableEntry) ⟨0, 10, 13, 13⟩ ([⟨0, 10, 17, 15⟩] : List ExceptionTableEntry) (htb.trans rfl) (fun zz hz => absurd hz List.not_mem_nil) (by decide) (by decide) (htx (.classLink RL 13 "java/lang/IllegalArgumentException") (List.mem_append_right _ (by decide))) (va_Nw.use rfl (hNw _ bNw_78)) hq9 hvm9 hfc9 ?_
      refine W.eq (g2 := F0 m 13 ls [.ref q9]) rfl ?_
      refine lv_astore hx hb dL_addStation_13 hl (by decide) rfl (fun ls hl => ?_)
      have hl : lv_has ls 5 [(4, .ref q9), (0, .ref p1), (1, .int p2), (2, .int p3), (3, .ref p4)] := hl
      refine lv_iconst (v := (1 : Int32)) hx hb dL_addStation_15 (by decide) ?_
      exact hret (1 : Int32) _ _ _ _ _ _ _ h hw hS (by omega) (by omega) dL_addStation_16
    by_cases hE1 : E = "java/lang/IllegalStateException"
    · have h := h.2.1 hE1
      rw [hE1] at hfc9
      refine vx_catch (E := "java/lang/IllegalStateException") (name := "java/lang/IllegalStateException") hown ([⟨0, 10, 13, 13⟩] : List ExceptionTableEntry) ⟨0, 10, 17, 15⟩ ([] : List ExceptionTableEntry) (htb.trans rfl) (fun zz hz => by simp only [List.mem_cons, List.not_mem_nil, or_false] at hz; subst hz; exact Or.inr ⟨by decide, "java/lang/IllegalArgumentException", htx (.classLink RL 13 "java/lang/IllegalArgumentException") (List.mem_append_right _ (by decide)), b_Nc hB 2 rfl⟩) (by decide) (by decide) (htx (.classLink RL 15 "java/lang/IllegalStateException") (List.mem_append_right _ (by decide))) (va_Nw.use rfl (hNw _ bNw_79)) hq9 hvm9 hfc9 ?_
      refine W.eq (g2 := F0 m 17 ls [.ref q9]) rfl ?_
      refine lv_astore hx hb dL_addStation_17 hl (by decide) rfl (fun ls hl => ?_)
      have hl : lv_has ls 5 [(4, .ref q9), (0, .ref p1), (1, .int p2), (2, .int p3), (3, .ref p4)] := hl
      refine lv_iconst (v := (2 : Int32)) hx hb dL_addStation_19 (by decide) ?_
      exact hret (2 : Int32) _ _ _ _ _ _ _ h hw hS (by omega) (by omega) dL_addStation_20
    exact (h.2.2 hE0 hE1).elim
  subst ht
  have hw : wd D y z S3 A t.heap := hw1
  clear hw1 h1
  have hcu : (0 + k4) + (MC - k4) ≤ MC := by omega
  have hsu : (0 + n5) + (MS - n5) ≤ MS := by omega
  refine lv_i2l (v := (Int32.toInt64 r2)) hx hb dL_addStation_8 rfl ?_
  obtain ⟨hk6, h⟩ := h
  obtain ⟨hin7, h⟩ := h
  refine r_last hx hb hK hw hS hk6 hin7 dL_addStation_9 (fun H locs hw hS => ?_)
  refine lv_goto (tgt := 21) hx hb dL_addStation_10 (by decide) ?_
  refine lv_iconst (v := (0 : Int32)) hx hb dL_addStation_21 (by decide) ?_
  exact hret (0 : Int32) _ _ _ _ _ _ _ h hw hS (by omega) (by omega) dL_addStation_22
def wp_L_addTube (post : Int32 → bS → Prop) (MC MS : Nat) (p1 : Nat) (p2 : Int32) (p3 : Int32) (p4 : Int32) (p5 : Int32) (p6 : Int32) (p7 : Nat) (S : bS) : Prop := gK S p1 = 7 ∧ (∃ k4 n5, k4 ≤ MC ∧ n5 ≤ MS ∧ (wp_X5_addTube (fun r2 S3 => gK S3 p7 = 13 ∧ (vp_in (0 : Int32) (gN S3 p7) ∧ (post (0 : Int32) (sL S3 p7 (Int32.toNatClampNeg (0 : Int32)) (Int32.toInt64 r2))))) (fun E S3 => (E = "java/lang/IndexOutOfBoundsException" → post (1 : Int32) S3) ∧ (E = "java/lang/IllegalArgumentException" → post (2 : Int32) S3) ∧ (E = "java/lang/IllegalStateException" → post (3 : Int32) S3) ∧ (¬ E = "java/lang/IndexOutOfBoundsException" → ¬ E = "java/lang/IllegalArgumentException" → ¬ E = "java/lang/IllegalStateException" → False)) k4 n5 p1 p2 p3 p4 p5 p6 S))
set_option maxHeartbeats 4000000 in
set_option maxRecDepth 100000 in
theorem m_L_addTube {l : Launch} {D : va_G} {y : Nat → ClassId} {z : Nat} {A : Nat → Prop} {S : bS} {post : Int32 → bS → Prop} (hl0 : l.stackTraces = false) {MC MS : Nat} {p1 : Nat} {p2 : Int32} {p3 : Int32} {p4 : Int32} {p5 : Int32} {p6 : Int32} {p7 : Nat} (h : wp_L_addTube post MC MS p1 p2 p3 p4 p5 p6 p7 S) : Met l yL_addTube (wsL_addTube ++ bXl) ({ frames := 10, cells := MC, slots := MS, locals := 448 } : Room) (va_Pc ([Value.ref p1, Value.int p2, Value.int p3, Value.int p4, Value.int p5, Value.int p6, Value.ref p7] : List Value) (bP D y z S A)) (va_Qi post (fun S' t => wd D y z S' A t.heap) A) MC MS A := by
  refine va_MetW (cc := cL_addTube) (maxL := 8) (ret := (some .int)) (by decide) rfl ?_
  intro p e s m args below meth c s₁ B hml hv
  obtain ⟨rfl, hB⟩ := hv
  have hx := B.exec
  have hb := B.bytes
  have hr := B.returns
  have hts := atoms_spec (ws := (wsL_addTube ++ bXl)) B.pre
  have hown : s.vm.findClass RL = some m.cls := findClass_of_methodNamed B.named
  have hlocks := B.notSynchronized
  have htx := hts
  have hts : ∀ w ∈ wsL_addTube, w.before _ s = true := fun w h => htx w (List.mem_append_left _ h)
  have htb := vx_table (x := yL_addTube) B (hts (.codeWith yL_addTube cL_addTube 8 (some .int) [(0, 16, 19, 21), (0, 16, 23, 13), (0, 16, 27, 15)]) (by decide +kernel))
  have hw : wd D y z S A s.heap := hB.1
  have hK : va_K D bCl (bT y) s := hB.2.1
  have hNw := hB.2.2.1
  have hAn : ∀ q : Nat, s.heap.size ≤ q → A q := hB.2.2.2.1
  have hAz : ¬ A z := hB.2.2.2.2.1
  have hO := hB.2.2.2.2.2.1
  have hS : va_S A s.heap s.heap [] := va_S.rf
  have hl := lv_entry ([Value.ref p1, Value.int p2, Value.int p3, Value.int p4, Value.int p5, Value.int p6, Value.ref p7] : List Value) (n := 8) (Nat.le_of_ble_eq_true rfl)
  rw [lg_entry_eq]
  generalize (lg_sl ([Value.ref p1, Value.int p2, Value.int p3, Value.int p4, Value.int p5, Value.int p6, Value.ref p7] : List Value) ++ List.replicate (8 - (lg_sl ([Value.ref p1, Value.int p2, Value.int p3, Value.int p4, Value.int p5, Value.int p6, Value.ref p7] : List Value)).length) Slot.unset).toArray = ls at hl ⊢
  have hl : lv_has ls 8 [(0, .ref p1), (1, .int p2), (2, .int p3), (3, .int p4), (4, .int p5), (5, .int p6), (6, .ref p7)] := hl
  obtain ⟨Q, hQ⟩ : ∃ Q, Q = MQ below (va_Qi post (fun S' t => wd D y z S' A t.heap) A) (([Value.ref p1, Value.int p2, Value.int p3, Value.int p4, Value.int p5, Value.int p6, Value.ref p7] : List Value).toArray) s MC MS A := ⟨_, rfl⟩
  rw [← hQ]
  generalize hR : (headSpec (wsL_addTube ++ bXl) ({ frames := 10, cells := MC, slots := MS, locals := 448 } : Room)).room = R
  have hRf : 10 ≤ R.frames := by rw [← hR]; exact Nat.le_refl _
  have hRl : 448 ≤ R.locals := by rw [← hR]; exact Nat.le_refl _
  have hRc : R.cells = MC := by rw [← hR]; rfl
  have hRs : R.slots = MS := by rw [← hR]; rfl
  have hret : ∀ (v : Int32) (S : bS) (H : Heap) (locs : List Loc) (pc : Nat) (ls : Array Slot) (cu su : Nat) , post v S → wd D y z S A H → va_S A s.heap H locs → cu ≤ MC → su ≤ MS → decode cL_addTube pc = .ok (.ireturn, 1) → W p l e R s m (([Value.ref p1, Value.int p2, Value.int p3, Value.int p4, Value.int p5, Value.int p6, Value.ref p7] : List Value).toArray) below meth c H locs cu su Q (F0 m pc ls [.int v]) := by
    intro v S H locs pc ls cu su h hw hS hcu hsu d0
    rw [hQ]; refine W.widen hcu hsu ?_; exact W.iret hx hb hr (fun t ht hW => ⟨⟨v, S, rfl, h, by show wd D y z S A t.heap; rw [ht]; exact hw⟩, hS.F ht⟩) hS.2.2 d0 hlocks
  unfold wp_L_addTube at h
  have hcu : 0 + MC ≤ MC := by omega
  have hsu : 0 + MS ≤ MS := by omega
  refine lv_aload hx hb dL_addTube_0 (lv_at hl 6 rfl) ?_
  refine lv_iconst (v := (0 : Int32)) hx hb dL_addTube_2 (by decide) ?_
  refine lv_aload_n hx hb dL_addTube_3 rfl (lv_at hl 0 rfl) ?_
  refine lv_iload_n hx hb dL_addTube_4 rfl (lv_at hl 1 rfl) ?_
  refine lv_iload_n hx hb dL_addTube_5 rfl (lv_at hl 2 rfl) ?_
  refine lv_iload_n hx hb dL_addTube_6 rfl (lv_at hl 3 rfl) ?_
  refine lv_iload hx hb dL_addTube_7 (lv_at hl 4 rfl) ?_
  refine lv_iload hx hb dL_addTube_9 (lv_at hl 5 rfl) ?_
  obtain ⟨hk1, h⟩ := h
  obtain ⟨k4, n5, hbg1, hbg2, h⟩ := h
  have h1 := h
  refine vx_calli (vx_runV (As := [.int p2, .int p3, .int p4, .int p5, .int p6]) (rest := [.int (0 : Int32), .ref p7]) ⟨hx, hb, hml, hown, hts⟩ (m_X5_addTube (l := l) hl0 h1) (cwV 5 hts gL_addTube_X5_addTube rfl rfl rfl (by decide +kernel) ⟨Nat.le_trans (Nat.le_of_ble_eq_true rfl) hRf, Nat.le_trans (Nat.le_of_ble_eq_true rfl) hRl⟩) (r_pV hB hw hS (ce_7 (S := S) hk1) rfl) rfl rfl hl.1 rfl (lv_room (Nat.le_of_ble_eq_true rfl)) dL_addTube_11 ⟨by omega, by omega⟩) hS (fun _ _ h => h) (fun _ h => h) (fun _ _ h => h) (fun E ce q9 S3 t H1 locs ht hal _ hq hz9 hk9 hS hq9 hvm9 hfc9 => ?_) (fun r2 S3 t H1 locs ht _ h hw1 _ _ hS => ?_)
  · subst ht
    have hw : wd D y z S3 A t.heap := hq.2
    have h := hq.1
    have hcu : (0 + k4) + (MC - k4) ≤ MC := by omega
    have hsu : (0 + n5) + (MS - n5) ≤ MS := by omega
    by_cases hE0 : E = "java/lang/IndexOutOfBoundsException"
    · have h := h.1 hE0
      rw [hE0] at hfc9
      refine vx_catch (E := "java/lang/IndexOutOfBoundsException") (name := "java/lang/IndexOutOfBoundsException") hown ([] : List ExceptionTableEntry) ⟨0, 16, 19, 21⟩ ([⟨0, 16, 23, 13⟩, ⟨0, 16, 27, 15⟩] : List ExceptionTableEntry) (htb.trans rfl) (fun zz hz => absurd hz List.not_mem_nil) (by decide) (by decide) (htx (.classLink RL 21 "java/lang/IndexOutOfBoundsException") (List.mem_append_right _ (by decide))) (va_Nw.use rfl (hNw _ bNw_80)) hq9 hvm9 hfc9 ?_
      refine W.eq (g2 := F0 m 19 ls [.ref q9]) rfl ?_
      refine lv_astore hx hb dL_addTube_19 hl (by decide) rfl (fun ls hl => ?_)
      have hl : lv_has ls 8 [(7, .ref q9), (0, .ref p1), (1, .int p2), (2, .int p3), (3, .int p4), (4, .int p5), (5, .int p6), (6, .ref p7)] := hl
      refine lv_iconst (v := (1 : Int32)) hx hb dL_addTube_21 (by decide) ?_
      exact hret (1 : Int32) _ _ _ _ _ _ _ h hw hS (by omega) (by omega) dL_addTube_22
    by_cases hE1 : E = "java/lang/IllegalArgumentException"
    · have h := h.2.1 hE1
      rw [hE1] at hfc9
      refine vx_catch (E := "java/lang/IllegalArgumentException") (name := "java/lang/IllegalArgumentException") hown ([⟨0, 16, 19, 21⟩] : List ExceptionTableEntry) ⟨0, 16, 23, 13⟩ ([⟨0, 16, 27, 15⟩] : List ExceptionTableEntry) (htb.trans rfl) (fun zz hz => by simp only [List.mem_cons, List.not_mem_nil, or_false] at hz; subst hz; exact Or.inr ⟨by decide, "java/lang/IndexOutOfBoundsException", htx (.classLink RL 21 "java/lang/IndexOutOfBoundsException") (List.mem_append_right _ (by decide)), b_Nc hB 1 rfl⟩) (by decide) (by decide) (htx (.classLink RL 13 "java/lang/IllegalArgumentException") (List.mem_append_right _ (by decide))) (va_Nw.use rfl (hNw _ bNw_78)) hq9 hvm9 hfc9 ?_
      refine W.eq (g2 := F0 m 23 ls [.ref q9]) rfl ?_
      refine lv_astore hx hb dL_addTube_23 hl (by decide) rfl (fun ls hl => ?_)
      have hl : lv_has ls 8 [(7, .ref q9), (0, .ref p1), (1, .int p2), (2, .int p3), (3, .int p4), (4, .int p5), (5, .int p6), (6, .ref p7)] := hl
      refine lv_iconst (v := (2 : Int32)) hx hb dL_addTube_25 (by decide) ?_
      exact hret (2 : Int32) _ _ _ _ _ _ _ h hw hS (by omega) (by omega) dL_addTube_26
    by_cases hE2 : E = "java/lang/IllegalStateException"
    · have h := h.2.2.1 hE2
      rw [hE2] at hfc9
      refine vx_catch (E := "java/lang/IllegalStateException") (name := "java/lang/IllegalStateException") hown ([⟨0, 16, 19, 21⟩, ⟨0, 16, 23, 13⟩] : List ExceptionTableEntry) ⟨0, 16, 27, 15⟩ ([] : List ExceptionTableEntry) (htb.trans rfl) (fun zz hz => by
    simp only [List.mem_cons, List.not_mem_nil, or_false] at hz
    rcases hz with rfl | rfl
    · exact Or.inr ⟨by decide, "java/lang/IndexOutOfBoundsException", htx (.classLink RL 21 "java/lang/IndexOutOfBoundsException") (List.mem_append_right _ (by decide)), b_Nc hB 3 rfl⟩
    · exact Or.inr ⟨by decide, "java/lang/IllegalArgumentException", htx (.classLink RL 13 "java/lang/IllegalArgumentException") (List.mem_append_right _ (by decide)), b_Nc hB 2 rfl⟩) (by decide) (by decide) (htx (.classLink RL 15 "java/lang/IllegalStateException") (List.mem_append_right _ (by decide))) (va_Nw.use rfl (hNw _ bNw_79)) hq9 hvm9 hfc9 ?_
      refine W.eq (g2 := F0 m 27 ls [.ref q9]) rfl ?_
      refine lv_astore hx hb dL_addTube_27 hl (by decide) rfl (fun ls hl => ?_)
      have hl : lv_has ls 8 [(7, .ref q9), (0, .ref p1), (1, .int p2), (2, .int p3), (3, .int p4), (4, .int p5), (5, .int p6), (6, .ref p7)] := hl
      refine lv_iconst (v := (3 : Int32)) hx hb dL_addTube_29 (by decide) ?_
      exact hret (3 : Int32) _ _ _ _ _ _ _ h hw hS (by omega) (by omega) dL_addTube_30
    exact (h.2.2.2 hE0 hE1 hE2).elim
  subst ht
  have hw : wd D y z S3 A t.heap := hw1
  clear hw1 h1
  have hcu : (0 + k4) + (MC - k4) ≤ MC := by omega
  have hsu : (0 + n5) + (MS - n5) ≤ MS := by omega
  refine lv_i2l (v := (Int32.toInt64 r2)) hx hb dL_addTube_14 rfl ?_
  obtain ⟨hk6, h⟩ := h
  obtain ⟨hin7, h⟩ := h
  refine r_last hx hb hK hw hS hk6 hin7 dL_addTube_15 (fun H locs hw hS => ?_)
  refine lv_goto (tgt := 31) hx hb dL_addTube_16 (by decide) ?_
  refine lv_iconst (v := (0 : Int32)) hx hb dL_addTube_31 (by decide) ?_
  exact hret (0 : Int32) _ _ _ _ _ _ _ h hw hS (by omega) (by omega) dL_addTube_32
def wp_L_turn (post : Int32 → bS → Prop) (MC MS : Nat) (p1 : Nat) (p2 : Int32) (p3 : Int32) (p4 : Nat) (S : bS) : Prop := gK S p1 = 7 ∧ (∃ k4 n5, k4 ≤ MC ∧ n5 ≤ MS ∧ (wp_X5_turn (fun r2 S3 => gK S3 p4 = 13 ∧ (vp_in (0 : Int32) (gN S3 p4) ∧ (post (0 : Int32) (sL S3 p4 (Int32.toNatClampNeg (0 : Int32)) (Int32.toInt64 r2))))) (fun E S3 => (E = "java/lang/IndexOutOfBoundsException" → post (1 : Int32) S3) ∧ (E = "java/lang/IllegalArgumentException" → post (2 : Int32) S3) ∧ (¬ E = "java/lang/IndexOutOfBoundsException" → ¬ E = "java/lang/IllegalArgumentException" → False)) k4 n5 p1 p2 p3 S))
set_option maxHeartbeats 4000000 in
set_option maxRecDepth 100000 in
theorem m_L_turn {l : Launch} {D : va_G} {y : Nat → ClassId} {z : Nat} {A : Nat → Prop} {S : bS} {post : Int32 → bS → Prop} (hl0 : l.stackTraces = false) {MC MS : Nat} {p1 : Nat} {p2 : Int32} {p3 : Int32} {p4 : Nat} (h : wp_L_turn post MC MS p1 p2 p3 p4 S) : Met l yL_turn (wsL_turn ++ bXl) ({ frames := 10, cells := MC, slots := MS, locals := 445 } : Room) (va_Pc ([Value.ref p1, Value.int p2, Value.int p3, Value.ref p4] : List Value) (bP D y z S A)) (va_Qi post (fun S' t => wd D y z S' A t.heap) A) MC MS A := by
  refine va_MetW (cc := cL_turn) (maxL := 5) (ret := (some .int)) (by decide) rfl ?_
  intro p e s m args below meth c s₁ B hml hv
  obtain ⟨rfl, hB⟩ := hv
  have hx := B.exec
  have hb := B.bytes
  have hr := B.returns
  have hts := atoms_spec (ws := (wsL_turn ++ bXl)) B.pre
  have hown : s.vm.findClass RL = some m.cls := findClass_of_methodNamed B.named
  have hlocks := B.notSynchronized
  have htx := hts
  have hts : ∀ w ∈ wsL_turn, w.before _ s = true := fun w h => htx w (List.mem_append_left _ h)
  have htb := vx_table (x := yL_turn) B (hts (.codeWith yL_turn cL_turn 5 (some .int) [(0, 10, 13, 21), (0, 10, 17, 13)]) (by decide +kernel))
  have hw : wd D y z S A s.heap := hB.1
  have hK : va_K D bCl (bT y) s := hB.2.1
  have hNw := hB.2.2.1
  have hAn : ∀ q : Nat, s.heap.size ≤ q → A q := hB.2.2.2.1
  have hAz : ¬ A z := hB.2.2.2.2.1
  have hO := hB.2.2.2.2.2.1
  have hS : va_S A s.heap s.heap [] := va_S.rf
  have hl := lv_entry ([Value.ref p1, Value.int p2, Value.int p3, Value.ref p4] : List Value) (n := 5) (Nat.le_of_ble_eq_true rfl)
  rw [lg_entry_eq]
  generalize (lg_sl ([Value.ref p1, Value.int p2, Value.int p3, Value.ref p4] : List Value) ++ List.replicate (5 - (lg_sl ([Value.ref p1, Value.int p2, Value.int p3, Value.ref p4] : List Value)).length) Slot.unset).toArray = ls at hl ⊢
  have hl : lv_has ls 5 [(0, .ref p1), (1, .int p2), (2, .int p3), (3, .ref p4)] := hl
  obtain ⟨Q, hQ⟩ : ∃ Q, Q = MQ below (va_Qi post (fun S' t => wd D y z S' A t.heap) A) (([Value.ref p1, Value.int p2, Value.int p3, Value.ref p4] : List Value).toArray) s MC MS A := ⟨_, rfl⟩
  rw [← hQ]
  generalize hR : (headSpec (wsL_turn ++ bXl) ({ frames := 10, cells := MC, slots := MS, locals := 445 } : Room)).room = R
  have hRf : 10 ≤ R.frames := by rw [← hR]; exact Nat.le_refl _
  have hRl : 445 ≤ R.locals := by rw [← hR]; exact Nat.le_refl _
  have hRc : R.cells = MC := by rw [← hR]; rfl
  have hRs : R.slots = MS := by rw [← hR]; rfl
  have hret : ∀ (v : Int32) (S : bS) (H : Heap) (locs : List Loc) (pc : Nat) (ls : Array Slot) (cu su : Nat) , post v S → wd D y z S A H → va_S A s.heap H locs → cu ≤ MC → su ≤ MS → decode cL_turn pc = .ok (.ireturn, 1) → W p l e R s m (([Value.ref p1, Value.int p2, Value.int p3, Value.ref p4] : List Value).toArray) below meth c H locs cu su Q (F0 m pc ls [.int v]) := by
    intro v S H locs pc ls cu su h hw hS hcu hsu d0
    rw [hQ]; refine W.widen hcu hsu ?_; exact W.iret hx hb hr (fun t ht hW => ⟨⟨v, S, rfl, h, by show wd D y z S A t.heap; rw [ht]; exact hw⟩, hS.F ht⟩) hS.2.2 d0 hlocks
  unfold wp_L_turn at h
  have hcu : 0 + MC ≤ MC := by omega
  have hsu : 0 + MS ≤ MS := by omega
  refine lv_aload_n hx hb dL_turn_0 rfl (lv_at hl 3 rfl) ?_
  refine lv_iconst (v := (0 : Int32)) hx hb dL_turn_1 (by decide) ?_
  refine lv_aload_n hx hb dL_turn_2 rfl (lv_at hl 0 rfl) ?_
  refine lv_iload_n hx hb dL_turn_3 rfl (lv_at hl 1 rfl) ?_
  refine lv_iload_n hx hb dL_turn_4 rfl (lv_at hl 2 rfl) ?_
  obtain ⟨hk1, h⟩ := h
  obtain ⟨k4, n5, hbg1, hbg2, h⟩ := h
  have h1 := h
  refine vx_calli (vx_runV (As := [.int p2, .int p3]) (rest := [.int (0 : Int32), .ref p4]) ⟨hx, hb, hml, hown, hts⟩ (m_X5_turn (l := l) hl0 h1) (cwV 2 hts gL_turn_X5_turn rfl rfl rfl (by decide +kernel) ⟨Nat.le_trans (Nat.le_of_ble_eq_true rfl) hRf, Nat.le_trans (Nat.le_of_ble_eq_true rfl) hRl⟩) (r_pV hB hw hS (ce_7 (S := S) hk1) rfl) rfl rfl hl.1 rfl (lv_room (Nat.le_of_ble_eq_true rfl)) dL_turn_5 ⟨by omega, by omega⟩) hS (fun _ _ h => h) (fun _ h => h) (fun _ _ h => h) (fun E ce q9 S3 t H1 locs ht hal _ hq hz9 hk9 hS hq9 hvm9 hfc9 => ?_) (fun r2 S3 t H1 locs ht _ h hw1 _ _ hS => ?_)
  · subst ht
    have hw : wd D y z S3 A t.heap := hq.2
    have h := hq.1
    have hcu : (0 + k4) + (MC - k4) ≤ MC := by omega
    have hsu : (0 + n5) + (MS - n5) ≤ MS := by omega
    by_cases hE0 : E = "java/lang/IndexOutOfBoundsException"
    · have h := h.1 hE0
      rw [hE0] at hfc9
      refine vx_catch (E := "java/lang/IndexOutOfBoundsException") (name := "java/lang/IndexOutOfBoundsException") hown ([] : List ExceptionTableEntry) ⟨0, 10, 13, 21⟩ ([⟨0, 10, 17, 13⟩] : List ExceptionTableEntry) (htb.trans rfl) (fun zz hz => absurd hz List.not_mem_nil) (by decide) (by decide) (htx (.classLink RL 21 "java/lang/IndexOutOfBoundsException") (List.mem_append_right _ (by decide))) (va_Nw.use rfl (hNw _ bNw_80)) hq9 hvm9 hfc9 ?_
      refine W.eq (g2 := F0 m 13 ls [.ref q9]) rfl ?_
      refine lv_astore hx hb dL_turn_13 hl (by decide) rfl (fun ls hl => ?_)
      have hl : lv_has ls 5 [(4, .ref q9), (0, .ref p1), (1, .int p2), (2, .int p3), (3, .ref p4)] := hl
      refine lv_iconst (v := (1 : Int32)) hx hb dL_turn_15 (by decide) ?_
      exact hret (1 : Int32) _ _ _ _ _ _ _ h hw hS (by omega) (by omega) dL_turn_16
    by_cases hE1 : E = "java/lang/IllegalArgumentException"
    · have h := h.2.1 hE1
      rw [hE1] at hfc9
      refine vx_catch (E := "java/lang/IllegalArgumentException") (name := "java/lang/IllegalArgumentException") hown ([⟨0, 10, 13, 21⟩] : List ExceptionTableEntry) ⟨0, 10, 17, 13⟩ ([] : List ExceptionTableEntry) (htb.trans rfl) (fun zz hz => by simp only [List.mem_cons, List.not_mem_nil, or_false] at hz; subst hz; exact Or.inr ⟨by decide, "java/lang/IndexOutOfBoundsException", htx (.classLink RL 21 "java/lang/IndexOutOfBoundsException") (List.mem_append_right _ (by decide)), b_Nc hB 1 rfl⟩) (by decide) (by decide) (htx (.classLink RL 13 "java/lang/IllegalArgumentException") (List.mem_append_right _ (by decide))) (va_Nw.use rfl (hNw _ bNw_78)) hq9 hvm9 hfc9 ?_
      refine W.eq (g2 := F0 m 17 ls [.ref q9]) rfl ?_
      refine lv_astore hx hb dL_turn_17 hl (by decide) rfl (fun ls hl => ?_)
      have hl : lv_has ls 5 [(4, .ref q9), (0, .ref p1), (1, .int p2), (2, .int p3), (3, .ref p4)] := hl
      refine lv_iconst (v := (2 : Int32)) hx hb dL_turn_19 (by decide) ?_
      exact hret (2 : Int32) _ _ _ _ _ _ _ h hw hS (by omega) (by omega) dL_turn_20
    exact (h.2.2 hE0 hE1).elim
  subst ht
  have hw : wd D y z S3 A t.heap := hw1
  clear hw1 h1
  have hcu : (0 + k4) + (MC - k4) ≤ MC := by omega
  have hsu : (0 + n5) + (MS - n5) ≤ MS := by omega
  refine lv_i2l (v := (Int32.toInt64 r2)) hx hb dL_turn_8 rfl ?_
  obtain ⟨hk6, h⟩ := h
  obtain ⟨hin7, h⟩ := h
  refine r_last hx hb hK hw hS hk6 hin7 dL_turn_9 (fun H locs hw hS => ?_)
  refine lv_goto (tgt := 21) hx hb dL_turn_10 (by decide) ?_
  refine lv_iconst (v := (0 : Int32)) hx hb dL_turn_21 (by decide) ?_
  exact hret (0 : Int32) _ _ _ _ _ _ _ h hw hS (by omega) (by omega) dL_turn_22
def wp_L_setTube (post : Int32 → bS → Prop) (MC MS : Nat) (p1 : Nat) (p2 : Int32) (p3 : Int32) (p4 : Int32) (p5 : Nat) (S : bS) : Prop := gK S p1 = 7 ∧ (∃ k4 n5, k4 ≤ MC ∧ n5 ≤ MS ∧ (wp_X5_setTube (fun r2 S3 => gK S3 p5 = 13 ∧ (vp_in (0 : Int32) (gN S3 p5) ∧ (post (0 : Int32) (sL S3 p5 (Int32.toNatClampNeg (0 : Int32)) (Int32.toInt64 r2))))) (fun E S3 => (E = "java/lang/IndexOutOfBoundsException" → post (1 : Int32) S3) ∧ (E = "java/lang/IllegalArgumentException" → post (2 : Int32) S3) ∧ (¬ E = "java/lang/IndexOutOfBoundsException" → ¬ E = "java/lang/IllegalArgumentException" → False)) k4 n5 p1 p2 p3 p4 S))
set_option maxHeartbeats 4000000 in
set_option maxRecDepth 100000 in
theorem m_L_setTube {l : Launch} {D : va_G} {y : Nat → ClassId} {z : Nat} {A : Nat → Prop} {S : bS} {post : Int32 → bS → Prop} (hl0 : l.stackTraces = false) {MC MS : Nat} {p1 : Nat} {p2 : Int32} {p3 : Int32} {p4 : Int32} {p5 : Nat} (h : wp_L_setTube post MC MS p1 p2 p3 p4 p5 S) : Met l yL_setTube (wsL_setTube ++ bXl) ({ frames := 10, cells := MC, slots := MS, locals := 446 } : Room) (va_Pc ([Value.ref p1, Value.int p2, Value.int p3, Value.int p4, Value.ref p5] : List Value) (bP D y z S A)) (va_Qi post (fun S' t => wd D y z S' A t.heap) A) MC MS A := by
  refine va_MetW (cc := cL_setTube) (maxL := 6) (ret := (some .int)) (by decide) rfl ?_
  intro p e s m args below meth c s₁ B hml hv
  obtain ⟨rfl, hB⟩ := hv
  have hx := B.exec
  have hb := B.bytes
  have hr := B.returns
  have hts := atoms_spec (ws := (wsL_setTube ++ bXl)) B.pre
  have hown : s.vm.findClass RL = some m.cls := findClass_of_methodNamed B.named
  have hlocks := B.notSynchronized
  have htx := hts
  have hts : ∀ w ∈ wsL_setTube, w.before _ s = true := fun w h => htx w (List.mem_append_left _ h)
  have htb := vx_table (x := yL_setTube) B (hts (.codeWith yL_setTube cL_setTube 6 (some .int) [(0, 12, 15, 21), (0, 12, 19, 13)]) (by decide +kernel))
  have hw : wd D y z S A s.heap := hB.1
  have hK : va_K D bCl (bT y) s := hB.2.1
  have hNw := hB.2.2.1
  have hAn : ∀ q : Nat, s.heap.size ≤ q → A q := hB.2.2.2.1
  have hAz : ¬ A z := hB.2.2.2.2.1
  have hO := hB.2.2.2.2.2.1
  have hS : va_S A s.heap s.heap [] := va_S.rf
  have hl := lv_entry ([Value.ref p1, Value.int p2, Value.int p3, Value.int p4, Value.ref p5] : List Value) (n := 6) (Nat.le_of_ble_eq_true rfl)
  rw [lg_entry_eq]
  generalize (lg_sl ([Value.ref p1, Value.int p2, Value.int p3, Value.int p4, Value.ref p5] : List Value) ++ List.replicate (6 - (lg_sl ([Value.ref p1, Value.int p2, Value.int p3, Value.int p4, Value.ref p5] : List Value)).length) Slot.unset).toArray = ls at hl ⊢
  have hl : lv_has ls 6 [(0, .ref p1), (1, .int p2), (2, .int p3), (3, .int p4), (4, .ref p5)] := hl
  obtain ⟨Q, hQ⟩ : ∃ Q, Q = MQ below (va_Qi post (fun S' t => wd D y z S' A t.heap) A) (([Value.ref p1, Value.int p2, Value.int p3, Value.int p4, Value.ref p5] : List Value).toArray) s MC MS A := ⟨_, rfl⟩
  rw [← hQ]
  generalize hR : (headSpec (wsL_setTube ++ bXl) ({ frames := 10, cells := MC, slots := MS, locals := 446 } : Room)).room = R
  have hRf : 10 ≤ R.frames := by rw [← hR]; exact Nat.le_refl _
  have hRl : 446 ≤ R.locals := by rw [← hR]; exact Nat.le_refl _
  have hRc : R.cells = MC := by rw [← hR]; rfl
  have hRs : R.slots = MS := by rw [← hR]; rfl
  have hret : ∀ (v : Int32) (S : bS) (H : Heap) (locs : List Loc) (pc : Nat) (ls : Array Slot) (cu su : Nat) , post v S → wd D y z S A H → va_S A s.heap H locs → cu ≤ MC → su ≤ MS → decode cL_setTube pc = .ok (.ireturn, 1) → W p l e R s m (([Value.ref p1, Value.int p2, Value.int p3, Value.int p4, Value.ref p5] : List Value).toArray) below meth c H locs cu su Q (F0 m pc ls [.int v]) := by
    intro v S H locs pc ls cu su h hw hS hcu hsu d0
    rw [hQ]; refine W.widen hcu hsu ?_; exact W.iret hx hb hr (fun t ht hW => ⟨⟨v, S, rfl, h, by show wd D y z S A t.heap; rw [ht]; exact hw⟩, hS.F ht⟩) hS.2.2 d0 hlocks
  unfold wp_L_setTube at h
  have hcu : 0 + MC ≤ MC := by omega
  have hsu : 0 + MS ≤ MS := by omega
  refine lv_aload hx hb dL_setTube_0 (lv_at hl 4 rfl) ?_
  refine lv_iconst (v := (0 : Int32)) hx hb dL_setTube_2 (by decide) ?_
  refine lv_aload_n hx hb dL_setTube_3 rfl (lv_at hl 0 rfl) ?_
  refine lv_iload_n hx hb dL_setTube_4 rfl (lv_at hl 1 rfl) ?_
  refine lv_iload_n hx hb dL_setTube_5 rfl (lv_at hl 2 rfl) ?_
  refine lv_iload_n hx hb dL_setTube_6 rfl (lv_at hl 3 rfl) ?_
  obtain ⟨hk1, h⟩ := h
  obtain ⟨k4, n5, hbg1, hbg2, h⟩ := h
  have h1 := h
  refine vx_calli (vx_runV (As := [.int p2, .int p3, .int p4]) (rest := [.int (0 : Int32), .ref p5]) ⟨hx, hb, hml, hown, hts⟩ (m_X5_setTube (l := l) hl0 h1) (cwV 3 hts gL_setTube_X5_setTube rfl rfl rfl (by decide +kernel) ⟨Nat.le_trans (Nat.le_of_ble_eq_true rfl) hRf, Nat.le_trans (Nat.le_of_ble_eq_true rfl) hRl⟩) (r_pV hB hw hS (ce_7 (S := S) hk1) rfl) rfl rfl hl.1 rfl (lv_room (Nat.le_of_ble_eq_true rfl)) dL_setTube_7 ⟨by omega, by omega⟩) hS (fun _ _ h => h) (fun _ h => h) (fun _ _ h => h) (fun E ce q9 S3 t H1 locs ht hal _ hq hz9 hk9 hS hq9 hvm9 hfc9 => ?_) (fun r2 S3 t H1 locs ht _ h hw1 _ _ hS => ?_)
  · subst ht
    have hw : wd D y z S3 A t.heap := hq.2
    have h := hq.1
    have hcu : (0 + k4) + (MC - k4) ≤ MC := by omega
    have hsu : (0 + n5) + (MS - n5) ≤ MS := by omega
    by_cases hE0 : E = "java/lang/IndexOutOfBoundsException"
    · have h := h.1 hE0
      rw [hE0] at hfc9
      refine vx_catch (E := "java/lang/IndexOutOfBoundsException") (name := "java/lang/IndexOutOfBoundsException") hown ([] : List ExceptionTableEntry) ⟨0, 12, 15, 21⟩ ([⟨0, 12, 19, 13⟩] : List ExceptionTableEntry) (htb.trans rfl) (fun zz hz => absurd hz List.not_mem_nil) (by decide) (by decide) (htx (.classLink RL 21 "java/lang/IndexOutOfBoundsException") (List.mem_append_right _ (by decide))) (va_Nw.use rfl (hNw _ bNw_80)) hq9 hvm9 hfc9 ?_
      refine W.eq (g2 := F0 m 15 ls [.ref q9]) rfl ?_
      refine lv_astore hx hb dL_setTube_15 hl (by decide) rfl (fun ls hl => ?_)
      have hl : lv_has ls 6 [(5, .ref q9), (0, .ref p1), (1, .int p2), (2, .int p3), (3, .int p4), (4, .ref p5)] := hl
      refine lv_iconst (v := (1 : Int32)) hx hb dL_setTube_17 (by decide) ?_
      exact hret (1 : Int32) _ _ _ _ _ _ _ h hw hS (by omega) (by omega) dL_setTube_18
    by_cases hE1 : E = "java/lang/IllegalArgumentException"
    · have h := h.2.1 hE1
      rw [hE1] at hfc9
      refine vx_catch (E := "java/lang/IllegalArgumentException") (name := "java/lang/IllegalArgumentException") hown ([⟨0, 12, 15, 21⟩] : List ExceptionTableEntry) ⟨0, 12, 19, 13⟩ ([] : List ExceptionTableEntry) (htb.trans rfl) (fun zz hz => by simp only [List.mem_cons, List.not_mem_nil, or_false] at hz; subst hz; exact Or.inr ⟨by decide, "java/lang/IndexOutOfBoundsException", htx (.classLink RL 21 "java/lang/IndexOutOfBoundsException") (List.mem_append_right _ (by decide)), b_Nc hB 1 rfl⟩) (by decide) (by decide) (htx (.classLink RL 13 "java/lang/IllegalArgumentException") (List.mem_append_right _ (by decide))) (va_Nw.use rfl (hNw _ bNw_78)) hq9 hvm9 hfc9 ?_
      refine W.eq (g2 := F0 m 19 ls [.ref q9]) rfl ?_
      refine lv_astore hx hb dL_setTube_19 hl (by decide) rfl (fun ls hl => ?_)
      have hl : lv_has ls 6 [(5, .ref q9), (0, .ref p1), (1, .int p2), (2, .int p3), (3, .int p4), (4, .ref p5)] := hl
      refine lv_iconst (v := (2 : Int32)) hx hb dL_setTube_21 (by decide) ?_
      exact hret (2 : Int32) _ _ _ _ _ _ _ h hw hS (by omega) (by omega) dL_setTube_22
    exact (h.2.2 hE0 hE1).elim
  subst ht
  have hw : wd D y z S3 A t.heap := hw1
  clear hw1 h1
  have hcu : (0 + k4) + (MC - k4) ≤ MC := by omega
  have hsu : (0 + n5) + (MS - n5) ≤ MS := by omega
  refine lv_i2l (v := (Int32.toInt64 r2)) hx hb dL_setTube_10 rfl ?_
  obtain ⟨hk6, h⟩ := h
  obtain ⟨hin7, h⟩ := h
  refine r_last hx hb hK hw hS hk6 hin7 dL_setTube_11 (fun H locs hw hS => ?_)
  refine lv_goto (tgt := 23) hx hb dL_setTube_12 (by decide) ?_
  refine lv_iconst (v := (0 : Int32)) hx hb dL_setTube_23 (by decide) ?_
  exact hret (0 : Int32) _ _ _ _ _ _ _ h hw hS (by omega) (by omega) dL_setTube_24
def wp_L_addEntry (post : Int32 → bS → Prop) (MC MS : Nat) (p1 : Nat) (p2 : Int32) (p3 : Int32) (p4 : Int32) (p5 : Int32) (p6 : Int32) (p7 : Nat) (S : bS) : Prop := gK S p1 = 7 ∧ (∃ k4 n5, k4 ≤ MC ∧ n5 ≤ MS ∧ (wp_X5_addEntry (fun r2 S3 => gK S3 p7 = 13 ∧ (vp_in (0 : Int32) (gN S3 p7) ∧ (post (0 : Int32) (sL S3 p7 (Int32.toNatClampNeg (0 : Int32)) (Int32.toInt64 r2))))) (fun E S3 => (E = "java/lang/IllegalArgumentException" → post (1 : Int32) S3) ∧ (E = "java/lang/IndexOutOfBoundsException" → post (2 : Int32) S3) ∧ (E = "java/lang/IllegalStateException" → post (3 : Int32) S3) ∧ (¬ E = "java/lang/IllegalArgumentException" → ¬ E = "java/lang/IndexOutOfBoundsException" → ¬ E = "java/lang/IllegalStateException" → False)) k4 n5 p1 p2 p3 p4 p5 p6 S))
set_option maxHeartbeats 4000000 in
set_option maxRecDepth 100000 in
theorem m_L_addEntry {l : Launch} {D : va_G} {y : Nat → ClassId} {z : Nat} {A : Nat → Prop} {S : bS} {post : Int32 → bS → Prop} (hl0 : l.stackTraces = false) {MC MS : Nat} {p1 : Nat} {p2 : Int32} {p3 : Int32} {p4 : Int32} {p5 : Int32} {p6 : Int32} {p7 : Nat} (h : wp_L_addEntry post MC MS p1 p2 p3 p4 p5 p6 p7 S) : Met l yL_addEntry (wsL_addEntry ++ bXl) ({ frames := 11, cells := MC, slots := MS, locals := 470 } : Room) (va_Pc ([Value.ref p1, Value.int p2, Value.int p3, Value.int p4, Value.int p5, Value.int p6, Value.ref p7] : List Value) (bP D y z S A)) (va_Qi post (fun S' t => wd D y z S' A t.heap) A) MC MS A := by
  refine va_MetW (cc := cL_addEntry) (maxL := 8) (ret := (some .int)) (by decide) rfl ?_
  intro p e s m args below meth c s₁ B hml hv
  obtain ⟨rfl, hB⟩ := hv
  have hx := B.exec
  have hb := B.bytes
  have hr := B.returns
  have hts := atoms_spec (ws := (wsL_addEntry ++ bXl)) B.pre
  have hown : s.vm.findClass RL = some m.cls := findClass_of_methodNamed B.named
  have hlocks := B.notSynchronized
  have htx := hts
  have hts : ∀ w ∈ wsL_addEntry, w.before _ s = true := fun w h => htx w (List.mem_append_left _ h)
  have htb := vx_table (x := yL_addEntry) B (hts (.codeWith yL_addEntry cL_addEntry 8 (some .int) [(0, 16, 19, 13), (0, 16, 23, 21), (0, 16, 27, 15)]) (by decide +kernel))
  have hw : wd D y z S A s.heap := hB.1
  have hK : va_K D bCl (bT y) s := hB.2.1
  have hNw := hB.2.2.1
  have hAn : ∀ q : Nat, s.heap.size ≤ q → A q := hB.2.2.2.1
  have hAz : ¬ A z := hB.2.2.2.2.1
  have hO := hB.2.2.2.2.2.1
  have hS : va_S A s.heap s.heap [] := va_S.rf
  have hl := lv_entry ([Value.ref p1, Value.int p2, Value.int p3, Value.int p4, Value.int p5, Value.int p6, Value.ref p7] : List Value) (n := 8) (Nat.le_of_ble_eq_true rfl)
  rw [lg_entry_eq]
  generalize (lg_sl ([Value.ref p1, Value.int p2, Value.int p3, Value.int p4, Value.int p5, Value.int p6, Value.ref p7] : List Value) ++ List.replicate (8 - (lg_sl ([Value.ref p1, Value.int p2, Value.int p3, Value.int p4, Value.int p5, Value.int p6, Value.ref p7] : List Value)).length) Slot.unset).toArray = ls at hl ⊢
  have hl : lv_has ls 8 [(0, .ref p1), (1, .int p2), (2, .int p3), (3, .int p4), (4, .int p5), (5, .int p6), (6, .ref p7)] := hl
  obtain ⟨Q, hQ⟩ : ∃ Q, Q = MQ below (va_Qi post (fun S' t => wd D y z S' A t.heap) A) (([Value.ref p1, Value.int p2, Value.int p3, Value.int p4, Value.int p5, Value.int p6, Value.ref p7] : List Value).toArray) s MC MS A := ⟨_, rfl⟩
  rw [← hQ]
  generalize hR : (headSpec (wsL_addEntry ++ bXl) ({ frames := 11, cells := MC, slots := MS, locals := 470 } : Room)).room = R
  have hRf : 11 ≤ R.frames := by rw [← hR]; exact Nat.le_refl _
  have hRl : 470 ≤ R.locals := by rw [← hR]; exact Nat.le_refl _
  have hRc : R.cells = MC := by rw [← hR]; rfl
  have hRs : R.slots = MS := by rw [← hR]; rfl
  have hret : ∀ (v : Int32) (S : bS) (H : Heap) (locs : List Loc) (pc : Nat) (ls : Array Slot) (cu su : Nat) , post v S → wd D y z S A H → va_S A s.heap H locs → cu ≤ MC → su ≤ MS → decode cL_addEntry pc = .ok (.ireturn, 1) → W p l e R s m (([Value.ref p1, Value.int p2, Value.int p3, Value.int p4, Value.int p5, Value.int p6, Value.ref p7] : List Value).toArray) below meth c H locs cu su Q (F0 m pc ls [.int v]) := by
    intro v S H locs pc ls cu su h hw hS hcu hsu d0
    rw [hQ]; refine W.widen hcu hsu ?_; exact W.iret hx hb hr (fun t ht hW => ⟨⟨v, S, rfl, h, by show wd D y z S A t.heap; rw [ht]; exact hw⟩, hS.F ht⟩) hS.2.2 d0 hlocks
  unfold wp_L_addEntry at h
  have hcu : 0 + MC ≤ MC := by omega
  have hsu : 0 + MS ≤ MS := by omega
  refine lv_aload hx hb dL_addEntry_0 (lv_at hl 6 rfl) ?_
  refine lv_iconst (v := (0 : Int32)) hx hb dL_addEntry_2 (by decide) ?_
  refine lv_aload_n hx hb dL_addEntry_3 rfl (lv_at hl 0 rfl) ?_
  refine lv_iload_n hx hb dL_addEntry_4 rfl (lv_at hl 1 rfl) ?_
  refine lv_iload_n hx hb dL_addEntry_5 rfl (lv_at hl 2 rfl) ?_
  refine lv_iload_n hx hb dL_addEntry_6 rfl (lv_at hl 3 rfl) ?_
  refine lv_iload hx hb dL_addEntry_7 (lv_at hl 4 rfl) ?_
  refine lv_iload hx hb dL_addEntry_9 (lv_at hl 5 rfl) ?_
  obtain ⟨hk1, h⟩ := h
  obtain ⟨k4, n5, hbg1, hbg2, h⟩ := h
  have h1 := h
  refine vx_calli (vx_runV (As := [.int p2, .int p3, .int p4, .int p5, .int p6]) (rest := [.int (0 : Int32), .ref p7]) ⟨hx, hb, hml, hown, hts⟩ (m_X5_addEntry (l := l) hl0 h1) (cwV 5 hts gL_addEntry_X5_addEntry rfl rfl rfl (by decide +kernel) ⟨Nat.le_trans (Nat.le_of_ble_eq_true rfl) hRf, Nat.le_trans (Nat.le_of_ble_eq_true rfl) hRl⟩) (r_pV hB hw hS (ce_7 (S := S) hk1) rfl) rfl rfl hl.1 rfl (lv_room (Nat.le_of_ble_eq_true rfl)) dL_addEntry_11 ⟨by omega, by omega⟩) hS (fun _ _ h => h) (fun _ h => h) (fun _ _ h => h) (fun E ce q9 S3 t H1 locs ht hal _ hq hz9 hk9 hS hq9 hvm9 hfc9 => ?_) (fun r2 S3 t H1 locs ht _ h hw1 _ _ hS => ?_)
  · subst ht
    have hw : wd D y z S3 A t.heap := hq.2
    have h := hq.1
    have hcu : (0 + k4) + (MC - k4) ≤ MC := by omega
    have hsu : (0 + n5) + (MS - n5) ≤ MS := by omega
    by_cases hE0 : E = "java/lang/IllegalArgumentException"
    · have h := h.1 hE0
      rw [hE0] at hfc9
      refine vx_catch (E := "java/lang/IllegalArgumentException") (name := "java/lang/IllegalArgumentException") hown ([] : List ExceptionTableEntry) ⟨0, 16, 19, 13⟩ ([⟨0, 16, 23, 21⟩, ⟨0, 16, 27, 15⟩] : List ExceptionTableEntry) (htb.trans rfl) (fun zz hz => absurd hz List.not_mem_nil) (by decide) (by decide) (htx (.classLink RL 13 "java/lang/IllegalArgumentException") (List.mem_append_right _ (by decide))) (va_Nw.use rfl (hNw _ bNw_78)) hq9 hvm9 hfc9 ?_
      refine W.eq (g2 := F0 m 19 ls [.ref q9]) rfl ?_
      refine lv_astore hx hb dL_addEntry_19 hl (by decide) rfl (fun ls hl => ?_)
      have hl : lv_has ls 8 [(7, .ref q9), (0, .ref p1), (1, .int p2), (2, .int p3), (3, .int p4), (4, .int p5), (5, .int p6), (6, .ref p7)] := hl
      refine lv_iconst (v := (1 : Int32)) hx hb dL_addEntry_21 (by decide) ?_
      exact hret (1 : Int32) _ _ _ _ _ _ _ h hw hS (by omega) (by omega) dL_addEntry_22
    by_cases hE1 : E = "java/lang/IndexOutOfBoundsException"
    · have h := h.2.1 hE1
      rw [hE1] at hfc9
      refine vx_catch (E := "java/lang/IndexOutOfBoundsException") (name := "java/lang/IndexOutOfBoundsException") hown ([⟨0, 16, 19, 13⟩] : List ExceptionTableEntry) ⟨0, 16, 23, 21⟩ ([⟨0, 16, 27, 15⟩] : List ExceptionTableEntry) (htb.trans rfl) (fun zz hz => by simp only [List.mem_cons, List.not_mem_nil, or_false] at hz; subst hz; exact Or.inr ⟨by decide, "java/lang/IllegalArgumentException", htx (.classLink RL 13 "java/lang/IllegalArgumentException") (List.mem_append_right _ (by decide)), b_Nc hB 4 rfl⟩) (by decide) (by decide) (htx (.classLink RL 21 "java/lang/IndexOutOfBoundsException") (List.mem_append_right _ (by decide))) (va_Nw.use rfl (hNw _ bNw_80)) hq9 hvm9 hfc9 ?_
      refine W.eq (g2 := F0 m 23 ls [.ref q9]) rfl ?_
      refine lv_astore hx hb dL_addEntry_23 hl (by decide) rfl (fun ls hl => ?_)
      have hl : lv_has ls 8 [(7, .ref q9), (0, .ref p1), (1, .int p2), (2, .int p3), (3, .int p4), (4, .int p5), (5, .int p6), (6, .ref p7)] := hl
      refine lv_iconst (v := (2 : Int32)) hx hb dL_addEntry_25 (by decide) ?_
      exact hret (2 : Int32) _ _ _ _ _ _ _ h hw hS (by omega) (by omega) dL_addEntry_26
    by_cases hE2 : E = "java/lang/IllegalStateException"
    · have h := h.2.2.1 hE2
      rw [hE2] at hfc9
      refine vx_catch (E := "java/lang/IllegalStateException") (name := "java/lang/IllegalStateException") hown ([⟨0, 16, 19, 13⟩, ⟨0, 16, 23, 21⟩] : List ExceptionTableEntry) ⟨0, 16, 27, 15⟩ ([] : List ExceptionTableEntry) (htb.trans rfl) (fun zz hz => by
    simp only [List.mem_cons, List.not_mem_nil, or_false] at hz
    rcases hz with rfl | rfl
    · exact Or.inr ⟨by decide, "java/lang/IllegalArgumentException", htx (.classLink RL 13 "java/lang/IllegalArgumentException") (List.mem_append_right _ (by decide)), b_Nc hB 2 rfl⟩
    · exact Or.inr ⟨by decide, "java/lang/IndexOutOfBoundsException", htx (.classLink RL 21 "java/lang/IndexOutOfBoundsException") (List.mem_append_right _ (by decide)), b_Nc hB 3 rfl⟩) (by decide) (by decide) (htx (.classLink RL 15 "java/lang/IllegalStateException") (List.mem_append_right _ (by decide))) (va_Nw.use rfl (hNw _ bNw_79)) hq9 hvm9 hfc9 ?_
      refine W.eq (g2 := F0 m 27 ls [.ref q9]) rfl ?_
      refine lv_astore hx hb dL_addEntry_27 hl (by decide) rfl (fun ls hl => ?_)
      have hl : lv_has ls 8 [(7, .ref q9), (0, .ref p1), (1, .int p2), (2, .int p3), (3, .int p4), (4, .int p5), (5, .int p6), (6, .ref p7)] := hl
      refine lv_iconst (v := (3 : Int32)) hx hb dL_addEntry_29 (by decide) ?_
      exact hret (3 : Int32) _ _ _ _ _ _ _ h hw hS (by omega) (by omega) dL_addEntry_30
    exact (h.2.2.2 hE0 hE1 hE2).elim
  subst ht
  have hw : wd D y z S3 A t.heap := hw1
  clear hw1 h1
  have hcu : (0 + k4) + (MC - k4) ≤ MC := by omega
  have hsu : (0 + n5) + (MS - n5) ≤ MS := by omega
  refine lv_i2l (v := (Int32.toInt64 r2)) hx hb dL_addEntry_14 rfl ?_
  obtain ⟨hk6, h⟩ := h
  obtain ⟨hin7, h⟩ := h
  refine r_last hx hb hK hw hS hk6 hin7 dL_addEntry_15 (fun H locs hw hS => ?_)
  refine lv_goto (tgt := 31) hx hb dL_addEntry_16 (by decide) ?_
  refine lv_iconst (v := (0 : Int32)) hx hb dL_addEntry_31 (by decide) ?_
  exact hret (0 : Int32) _ _ _ _ _ _ _ h hw hS (by omega) (by omega) dL_addEntry_32
def wp_L_send (post : Int32 → bS → Prop) (MC MS : Nat) (p1 : Nat) (p2 : Int32) (p3 : Int32) (p4 : Int32) (p5 : Nat) (S : bS) : Prop := gK S p1 = 7 ∧ (∃ k4 n5, k4 ≤ MC ∧ n5 ≤ MS ∧ (wp_X5_send (fun r2 S3 => gK S3 p5 = 13 ∧ (vp_in (0 : Int32) (gN S3 p5) ∧ (post (0 : Int32) (sL S3 p5 (Int32.toNatClampNeg (0 : Int32)) (Int32.toInt64 r2))))) (fun E S3 => (E = "java/lang/IndexOutOfBoundsException" → post (1 : Int32) S3) ∧ (E = "java/lang/IllegalArgumentException" → post (2 : Int32) S3) ∧ (E = "java/lang/IllegalStateException" → post (3 : Int32) S3) ∧ (¬ E = "java/lang/IndexOutOfBoundsException" → ¬ E = "java/lang/IllegalArgumentException" → ¬ E = "java/lang/IllegalStateException" → False)) k4 n5 p1 p2 p3 p4 S))
set_option maxHeartbeats 4000000 in
set_option maxRecDepth 100000 in
theorem m_L_send {l : Launch} {D : va_G} {y : Nat → ClassId} {z : Nat} {A : Nat → Prop} {S : bS} {post : Int32 → bS → Prop} (hl0 : l.stackTraces = false) {MC MS : Nat} {p1 : Nat} {p2 : Int32} {p3 : Int32} {p4 : Int32} {p5 : Nat} (h : wp_L_send post MC MS p1 p2 p3 p4 p5 S) : Met l yL_send (wsL_send ++ bXl) ({ frames := 10, cells := MC, slots := MS, locals := 446 } : Room) (va_Pc ([Value.ref p1, Value.int p2, Value.int p3, Value.int p4, Value.ref p5] : List Value) (bP D y z S A)) (va_Qi post (fun S' t => wd D y z S' A t.heap) A) MC MS A := by
  refine va_MetW (cc := cL_send) (maxL := 6) (ret := (some .int)) (by decide) rfl ?_
  intro p e s m args below meth c s₁ B hml hv
  obtain ⟨rfl, hB⟩ := hv
  have hx := B.exec
  have hb := B.bytes
  have hr := B.returns
  have hts := atoms_spec (ws := (wsL_send ++ bXl)) B.pre
  have hown : s.vm.findClass RL = some m.cls := findClass_of_methodNamed B.named
  have hlocks := B.notSynchronized
  have htx := hts
  have hts : ∀ w ∈ wsL_send, w.before _ s = true := fun w h => htx w (List.mem_append_left _ h)
  have htb := vx_table (x := yL_send) B (hts (.codeWith yL_send cL_send 6 (some .int) [(0, 12, 15, 21), (0, 12, 19, 13), (0, 12, 23, 15)]) (by decide +kernel))
  have hw : wd D y z S A s.heap := hB.1
  have hK : va_K D bCl (bT y) s := hB.2.1
  have hNw := hB.2.2.1
  have hAn : ∀ q : Nat, s.heap.size ≤ q → A q := hB.2.2.2.1
  have hAz : ¬ A z := hB.2.2.2.2.1
  have hO := hB.2.2.2.2.2.1
  have hS : va_S A s.heap s.heap [] := va_S.rf
  have hl := lv_entry ([Value.ref p1, Value.int p2, Value.int p3, Value.int p4, Value.ref p5] : List Value) (n := 6) (Nat.le_of_ble_eq_true rfl)
  rw [lg_entry_eq]
  generalize (lg_sl ([Value.ref p1, Value.int p2, Value.int p3, Value.int p4, Value.ref p5] : List Value) ++ List.replicate (6 - (lg_sl ([Value.ref p1, Value.int p2, Value.int p3, Value.int p4, Value.ref p5] : List Value)).length) Slot.unset).toArray = ls at hl ⊢
  have hl : lv_has ls 6 [(0, .ref p1), (1, .int p2), (2, .int p3), (3, .int p4), (4, .ref p5)] := hl
  obtain ⟨Q, hQ⟩ : ∃ Q, Q = MQ below (va_Qi post (fun S' t => wd D y z S' A t.heap) A) (([Value.ref p1, Value.int p2, Value.int p3, Value.int p4, Value.ref p5] : List Value).toArray) s MC MS A := ⟨_, rfl⟩
  rw [← hQ]
  generalize hR : (headSpec (wsL_send ++ bXl) ({ frames := 10, cells := MC, slots := MS, locals := 446 } : Room)).room = R
  have hRf : 10 ≤ R.frames := by rw [← hR]; exact Nat.le_refl _
  have hRl : 446 ≤ R.locals := by rw [← hR]; exact Nat.le_refl _
  have hRc : R.cells = MC := by rw [← hR]; rfl
  have hRs : R.slots = MS := by rw [← hR]; rfl
  have hret : ∀ (v : Int32) (S : bS) (H : Heap) (locs : List Loc) (pc : Nat) (ls : Array Slot) (cu su : Nat) , post v S → wd D y z S A H → va_S A s.heap H locs → cu ≤ MC → su ≤ MS → decode cL_send pc = .ok (.ireturn, 1) → W p l e R s m (([Value.ref p1, Value.int p2, Value.int p3, Value.int p4, Value.ref p5] : List Value).toArray) below meth c H locs cu su Q (F0 m pc ls [.int v]) := by
    intro v S H locs pc ls cu su h hw hS hcu hsu d0
    rw [hQ]; refine W.widen hcu hsu ?_; exact W.iret hx hb hr (fun t ht hW => ⟨⟨v, S, rfl, h, by show wd D y z S A t.heap; rw [ht]; exact hw⟩, hS.F ht⟩) hS.2.2 d0 hlocks
  unfold wp_L_send at h
  have hcu : 0 + MC ≤ MC := by omega
  have hsu : 0 + MS ≤ MS := by omega
  refine lv_aload hx hb dL_send_0 (lv_at hl 4 rfl) ?_
  refine lv_iconst (v := (0 : Int32)) hx hb dL_send_2 (by decide) ?_
  refine lv_aload_n hx hb dL_send_3 rfl (lv_at hl 0 rfl) ?_
  refine lv_iload_n hx hb dL_send_4 rfl (lv_at hl 1 rfl) ?_
  refine lv_iload_n hx hb dL_send_5 rfl (lv_at hl 2 rfl) ?_
  refine lv_iload_n hx hb dL_send_6 rfl (lv_at hl 3 rfl) ?_
  obtain ⟨hk1, h⟩ := h
  obtain ⟨k4, n5, hbg1, hbg2, h⟩ := h
  have h1 := h
  refine vx_calli (vx_runV (As := [.int p2, .int p3, .int p4]) (rest := [.int (0 : Int32), .ref p5]) ⟨hx, hb, hml, hown, hts⟩ (m_X5_send (l := l) hl0 h1) (cwV 3 hts gL_send_X5_send rfl rfl rfl (by decide +kernel) ⟨Nat.le_trans (Nat.le_of_ble_eq_true rfl) hRf, Nat.le_trans (Nat.le_of_ble_eq_true rfl) hRl⟩) (r_pV hB hw hS (ce_7 (S := S) hk1) rfl) rfl rfl hl.1 rfl (lv_room (Nat.le_of_ble_eq_true rfl)) dL_send_7 ⟨by omega, by omega⟩) hS (fun _ _ h => h) (fun _ h => h) (fun _ _ h => h) (fun E ce q9 S3 t H1 locs ht hal _ hq hz9 hk9 hS hq9 hvm9 hfc9 => ?_) (fun r2 S3 t H1 locs ht _ h hw1 _ _ hS => ?_)
  · subst ht
    have hw : wd D y z S3 A t.heap := hq.2
    have h := hq.1
    have hcu : (0 + k4) + (MC - k4) ≤ MC := by omega
    have hsu : (0 + n5) + (MS - n5) ≤ MS := by omega
    by_cases hE0 : E = "java/lang/IndexOutOfBoundsException"
    · have h := h.1 hE0
      rw [hE0] at hfc9
      refine vx_catch (E := "java/lang/IndexOutOfBoundsException") (name := "java/lang/IndexOutOfBoundsException") hown ([] : List ExceptionTableEntry) ⟨0, 12, 15, 21⟩ ([⟨0, 12, 19, 13⟩, ⟨0, 12, 23, 15⟩] : List ExceptionTableEntry) (htb.trans rfl) (fun zz hz => absurd hz List.not_mem_nil) (by decide) (by decide) (htx (.classLink RL 21 "java/lang/IndexOutOfBoundsException") (List.mem_append_right _ (by decide))) (va_Nw.use rfl (hNw _ bNw_80)) hq9 hvm9 hfc9 ?_
      refine W.eq (g2 := F0 m 15 ls [.ref q9]) rfl ?_
      refine lv_astore hx hb dL_send_15 hl (by decide) rfl (fun ls hl => ?_)
      have hl : lv_has ls 6 [(5, .ref q9), (0, .ref p1), (1, .int p2), (2, .int p3), (3, .int p4), (4, .ref p5)] := hl
      refine lv_iconst (v := (1 : Int32)) hx hb dL_send_17 (by decide) ?_
      exact hret (1 : Int32) _ _ _ _ _ _ _ h hw hS (by omega) (by omega) dL_send_18
    by_cases hE1 : E = "java/lang/IllegalArgumentException"
    · have h := h.2.1 hE1
      rw [hE1] at hfc9
      refine vx_catch (E := "java/lang/IllegalArgumentException") (name := "java/lang/IllegalArgumentException") hown ([⟨0, 12, 15, 21⟩] : List ExceptionTableEntry) ⟨0, 12, 19, 13⟩ ([⟨0, 12, 23, 15⟩] : List ExceptionTableEntry) (htb.trans rfl) (fun zz hz => by simp only [List.mem_cons, List.not_mem_nil, or_false] at hz; subst hz; exact Or.inr ⟨by decide, "java/lang/IndexOutOfBoundsException", htx (.classLink RL 21 "java/lang/IndexOutOfBoundsException") (List.mem_append_right _ (by decide)), b_Nc hB 1 rfl⟩) (by decide) (by decide) (htx (.classLink RL 13 "java/lang/IllegalArgumentException") (List.mem_append_right _ (by decide))) (va_Nw.use rfl (hNw _ bNw_78)) hq9 hvm9 hfc9 ?_
      refine W.eq (g2 := F0 m 19 ls [.ref q9]) rfl ?_
      refine lv_astore hx hb dL_send_19 hl (by decide) rfl (fun ls hl => ?_)
      have hl : lv_has ls 6 [(5, .ref q9), (0, .ref p1), (1, .int p2), (2, .int p3), (3, .int p4), (4, .ref p5)] := hl
      refine lv_iconst (v := (2 : Int32)) hx hb dL_send_21 (by decide) ?_
      exact hret (2 : Int32) _ _ _ _ _ _ _ h hw hS (by omega) (by omega) dL_send_22
    by_cases hE2 : E = "java/lang/IllegalStateException"
    · have h := h.2.2.1 hE2
      rw [hE2] at hfc9
      refine vx_catch (E := "java/lang/IllegalStateException") (name := "java/lang/IllegalStateException") hown ([⟨0, 12, 15, 21⟩, ⟨0, 12, 19, 13⟩] : List ExceptionTableEntry) ⟨0, 12, 23, 15⟩ ([] : List ExceptionTableEntry) (htb.trans rfl) (fun zz hz => by
    simp only [List.mem_cons, List.not_mem_nil, or_false] at hz
    rcases hz with rfl | rfl
    · exact Or.inr ⟨by decide, "java/lang/IndexOutOfBoundsException", htx (.classLink RL 21 "java/lang/IndexOutOfBoundsException") (List.mem_append_right _ (by decide)), b_Nc hB 3 rfl⟩
    · exact Or.inr ⟨by decide, "java/lang/IllegalArgumentException", htx (.classLink RL 13 "java/lang/IllegalArgumentException") (List.mem_append_right _ (by decide)), b_Nc hB 2 rfl⟩) (by decide) (by decide) (htx (.classLink RL 15 "java/lang/IllegalStateException") (List.mem_append_right _ (by decide))) (va_Nw.use rfl (hNw _ bNw_79)) hq9 hvm9 hfc9 ?_
      refine W.eq (g2 := F0 m 23 ls [.ref q9]) rfl ?_
      refine lv_astore hx hb dL_send_23 hl (by decide) rfl (fun ls hl => ?_)
      have hl : lv_has ls 6 [(5, .ref q9), (0, .ref p1), (1, .int p2), (2, .int p3), (3, .int p4), (4, .ref p5)] := hl
      refine lv_iconst (v := (3 : Int32)) hx hb dL_send_25 (by decide) ?_
      exact hret (3 : Int32) _ _ _ _ _ _ _ h hw hS (by omega) (by omega) dL_send_26
    exact (h.2.2.2 hE0 hE1 hE2).elim
  subst ht
  have hw : wd D y z S3 A t.heap := hw1
  clear hw1 h1
  have hcu : (0 + k4) + (MC - k4) ≤ MC := by omega
  have hsu : (0 + n5) + (MS - n5) ≤ MS := by omega
  refine lv_i2l (v := (Int32.toInt64 r2)) hx hb dL_send_10 rfl ?_
  obtain ⟨hk6, h⟩ := h
  obtain ⟨hin7, h⟩ := h
  refine r_last hx hb hK hw hS hk6 hin7 dL_send_11 (fun H locs hw hS => ?_)
  refine lv_goto (tgt := 27) hx hb dL_send_12 (by decide) ?_
  refine lv_iconst (v := (0 : Int32)) hx hb dL_send_27 (by decide) ?_
  exact hret (0 : Int32) _ _ _ _ _ _ _ h hw hS (by omega) (by omega) dL_send_28
def wp_L_run (post : Int32 → bS → Prop) (MC MS : Nat) (p1 : Nat) (p2 : Int32) (p3 : Nat) (S : bS) : Prop := gK S p1 = 7 ∧ (∃ k4 n5, k4 ≤ MC ∧ n5 ≤ MS ∧ (wp_X5_run (fun r2 S3 => gK S3 p3 = 13 ∧ (vp_in (0 : Int32) (gN S3 p3) ∧ (post (0 : Int32) (sL S3 p3 (Int32.toNatClampNeg (0 : Int32)) (Int32.toInt64 r2))))) (fun E S3 => (E = "java/lang/IllegalArgumentException" → post (1 : Int32) S3) ∧ (¬ E = "java/lang/IllegalArgumentException" → False)) k4 n5 p1 p2 S))
set_option maxHeartbeats 4000000 in
set_option maxRecDepth 100000 in
theorem m_L_run {l : Launch} {D : va_G} {y : Nat → ClassId} {z : Nat} {A : Nat → Prop} {S : bS} {post : Int32 → bS → Prop} (hl0 : l.stackTraces = false) {MC MS : Nat} {p1 : Nat} {p2 : Int32} {p3 : Nat} (h : wp_L_run post MC MS p1 p2 p3 S) : Met l yL_run (wsL_run ++ bXl) ({ frames := 13, cells := MC, slots := MS, locals := 423 } : Room) (va_Pc ([Value.ref p1, Value.int p2, Value.ref p3] : List Value) (bP D y z S A)) (va_Qi post (fun S' t => wd D y z S' A t.heap) A) MC MS A := by
  refine va_MetW (cc := cL_run) (maxL := 4) (ret := (some .int)) (by decide) rfl ?_
  intro p e s m args below meth c s₁ B hml hv
  obtain ⟨rfl, hB⟩ := hv
  have hx := B.exec
  have hb := B.bytes
  have hr := B.returns
  have hts := atoms_spec (ws := (wsL_run ++ bXl)) B.pre
  have hown : s.vm.findClass RL = some m.cls := findClass_of_methodNamed B.named
  have hlocks := B.notSynchronized
  have htx := hts
  have hts : ∀ w ∈ wsL_run, w.before _ s = true := fun w h => htx w (List.mem_append_left _ h)
  have htb := vx_table (x := yL_run) B (hts (.codeWith yL_run cL_run 4 (some .int) [(0, 9, 12, 13)]) (by decide +kernel))
  have hw : wd D y z S A s.heap := hB.1
  have hK : va_K D bCl (bT y) s := hB.2.1
  have hNw := hB.2.2.1
  have hAn : ∀ q : Nat, s.heap.size ≤ q → A q := hB.2.2.2.1
  have hAz : ¬ A z := hB.2.2.2.2.1
  have hO := hB.2.2.2.2.2.1
  have hS : va_S A s.heap s.heap [] := va_S.rf
  have hl := lv_entry ([Value.ref p1, Value.int p2, Value.ref p3] : List Value) (n := 4) (Nat.le_of_ble_eq_true rfl)
  rw [lg_entry_eq]
  generalize (lg_sl ([Value.ref p1, Value.int p2, Value.ref p3] : List Value) ++ List.replicate (4 - (lg_sl ([Value.ref p1, Value.int p2, Value.ref p3] : List Value)).length) Slot.unset).toArray = ls at hl ⊢
  have hl : lv_has ls 4 [(0, .ref p1), (1, .int p2), (2, .ref p3)] := hl
  obtain ⟨Q, hQ⟩ : ∃ Q, Q = MQ below (va_Qi post (fun S' t => wd D y z S' A t.heap) A) (([Value.ref p1, Value.int p2, Value.ref p3] : List Value).toArray) s MC MS A := ⟨_, rfl⟩
  rw [← hQ]
  generalize hR : (headSpec (wsL_run ++ bXl) ({ frames := 13, cells := MC, slots := MS, locals := 423 } : Room)).room = R
  have hRf : 13 ≤ R.frames := by rw [← hR]; exact Nat.le_refl _
  have hRl : 423 ≤ R.locals := by rw [← hR]; exact Nat.le_refl _
  have hRc : R.cells = MC := by rw [← hR]; rfl
  have hRs : R.slots = MS := by rw [← hR]; rfl
  have hret : ∀ (v : Int32) (S : bS) (H : Heap) (locs : List Loc) (pc : Nat) (ls : Array Slot) (cu su : Nat) , post v S → wd D y z S A H → va_S A s.heap H locs → cu ≤ MC → su ≤ MS → decode cL_run pc = .ok (.ireturn, 1) → W p l e R s m (([Value.ref p1, Value.int p2, Value.ref p3] : List Value).toArray) below meth c H locs cu su Q (F0 m pc ls [.int v]) := by
    intro v S H locs pc ls cu su h hw hS hcu hsu d0
    rw [hQ]; refine W.widen hcu hsu ?_; exact W.iret hx hb hr (fun t ht hW => ⟨⟨v, S, rfl, h, by show wd D y z S A t.heap; rw [ht]; exact hw⟩, hS.F ht⟩) hS.2.2 d0 hlocks
  unfold wp_L_run at h
  have hcu : 0 + MC ≤ MC := by omega
  have hsu : 0 + MS ≤ MS := by omega
  refine lv_aload_n hx hb dL_run_0 rfl (lv_at hl 2 rfl) ?_
  refine lv_iconst (v := (0 : Int32)) hx hb dL_run_1 (by decide) ?_
  refine lv_aload_n hx hb dL_run_2 rfl (lv_at hl 0 rfl) ?_
  refine lv_iload_n hx hb dL_run_3 rfl (lv_at hl 1 rfl) ?_
  obtain ⟨hk1, h⟩ := h
  obtain ⟨k4, n5, hbg1, hbg2, h⟩ := h
  have h1 := h
  refine vx_calli (vx_runV (As := [.int p2]) (rest := [.int (0 : Int32), .ref p3]) ⟨hx, hb, hml, hown, hts⟩ (m_X5_run (l := l) hl0 h1) (cwV 1 hts gL_run_X5_run rfl rfl rfl (by decide +kernel) ⟨Nat.le_trans (Nat.le_of_ble_eq_true rfl) hRf, Nat.le_trans (Nat.le_of_ble_eq_true rfl) hRl⟩) (r_pV hB hw hS (ce_7 (S := S) hk1) rfl) rfl rfl hl.1 rfl (lv_room (Nat.le_of_ble_eq_true rfl)) dL_run_4 ⟨by omega, by omega⟩) hS (fun _ _ h => h) (fun _ h => h) (fun _ _ h => h) (fun E ce q9 S3 t H1 locs ht hal _ hq hz9 hk9 hS hq9 hvm9 hfc9 => ?_) (fun r2 S3 t H1 locs ht _ h hw1 _ _ hS => ?_)
  · subst ht
    have hw : wd D y z S3 A t.heap := hq.2
    have h := hq.1
    have hcu : (0 + k4) + (MC - k4) ≤ MC := by omega
    have hsu : (0 + n5) + (MS - n5) ≤ MS := by omega
    by_cases hE0 : E = "java/lang/IllegalArgumentException"
    · have h := h.1 hE0
      rw [hE0] at hfc9
      refine vx_catch (E := "java/lang/IllegalArgumentException") (name := "java/lang/IllegalArgumentException") hown ([] : List ExceptionTableEntry) ⟨0, 9, 12, 13⟩ ([] : List ExceptionTableEntry) (htb.trans rfl) (fun zz hz => absurd hz List.not_mem_nil) (by decide) (by decide) (htx (.classLink RL 13 "java/lang/IllegalArgumentException") (List.mem_append_right _ (by decide))) (va_Nw.use rfl (hNw _ bNw_78)) hq9 hvm9 hfc9 ?_
      refine W.eq (g2 := F0 m 12 ls [.ref q9]) rfl ?_
      refine lv_astore_n hx hb dL_run_12 rfl hl (by decide) rfl (fun ls hl => ?_)
      have hl : lv_has ls 4 [(3, .ref q9), (0, .ref p1), (1, .int p2), (2, .ref p3)] := hl
      refine lv_iconst (v := (1 : Int32)) hx hb dL_run_13 (by decide) ?_
      exact hret (1 : Int32) _ _ _ _ _ _ _ h hw hS (by omega) (by omega) dL_run_14
    exact (h.2 hE0).elim
  subst ht
  have hw : wd D y z S3 A t.heap := hw1
  clear hw1 h1
  have hcu : (0 + k4) + (MC - k4) ≤ MC := by omega
  have hsu : (0 + n5) + (MS - n5) ≤ MS := by omega
  refine lv_i2l (v := (Int32.toInt64 r2)) hx hb dL_run_7 rfl ?_
  obtain ⟨hk6, h⟩ := h
  obtain ⟨hin7, h⟩ := h
  refine r_last hx hb hK hw hS hk6 hin7 dL_run_8 (fun H locs hw hS => ?_)
  refine lv_goto (tgt := 15) hx hb dL_run_9 (by decide) ?_
  refine lv_iconst (v := (0 : Int32)) hx hb dL_run_15 (by decide) ?_
  exact hret (0 : Int32) _ _ _ _ _ _ _ h hw hS (by omega) (by omega) dL_run_16
def wp_L_carrier (post : Int32 → bS → Prop) (MC MS : Nat) (p1 : Nat) (p2 : Int32) (p3 : Int32) (p4 : Nat) (S : bS) : Prop := gK S p1 = 7 ∧ (∃ k4 n5, k4 ≤ MC ∧ n5 ≤ MS ∧ (wp_X5_carrier (fun r2 S3 => gK S3 p4 = 13 ∧ (vp_in (0 : Int32) (gN S3 p4) ∧ (post (0 : Int32) (sL S3 p4 (Int32.toNatClampNeg (0 : Int32)) (Int32.toInt64 r2))))) (fun E S3 => (E = "java/lang/IndexOutOfBoundsException" → post (1 : Int32) S3) ∧ (¬ E = "java/lang/IndexOutOfBoundsException" → False)) k4 n5 p1 p2 p3 S))
set_option maxHeartbeats 4000000 in
set_option maxRecDepth 100000 in
theorem m_L_carrier {l : Launch} {D : va_G} {y : Nat → ClassId} {z : Nat} {A : Nat → Prop} {S : bS} {post : Int32 → bS → Prop} (hl0 : l.stackTraces = false) {MC MS : Nat} {p1 : Nat} {p2 : Int32} {p3 : Int32} {p4 : Nat} (h : wp_L_carrier post MC MS p1 p2 p3 p4 S) : Met l yL_carrier (wsL_carrier ++ bXl) ({ frames := 9, cells := MC, slots := MS, locals := 423 } : Room) (va_Pc ([Value.ref p1, Value.int p2, Value.int p3, Value.ref p4] : List Value) (bP D y z S A)) (va_Qi post (fun S' t => wd D y z S' A t.heap) A) MC MS A := by
  refine va_MetW (cc := cL_carrier) (maxL := 5) (ret := (some .int)) (by decide) rfl ?_
  intro p e s m args below meth c s₁ B hml hv
  obtain ⟨rfl, hB⟩ := hv
  have hx := B.exec
  have hb := B.bytes
  have hr := B.returns
  have hts := atoms_spec (ws := (wsL_carrier ++ bXl)) B.pre
  have hown : s.vm.findClass RL = some m.cls := findClass_of_methodNamed B.named
  have hlocks := B.notSynchronized
  have htx := hts
  have hts : ∀ w ∈ wsL_carrier, w.before _ s = true := fun w h => htx w (List.mem_append_left _ h)
  have htb := vx_table (x := yL_carrier) B (hts (.codeWith yL_carrier cL_carrier 5 (some .int) [(0, 10, 13, 21)]) (by decide +kernel))
  have hw : wd D y z S A s.heap := hB.1
  have hK : va_K D bCl (bT y) s := hB.2.1
  have hNw := hB.2.2.1
  have hAn : ∀ q : Nat, s.heap.size ≤ q → A q := hB.2.2.2.1
  have hAz : ¬ A z := hB.2.2.2.2.1
  have hO := hB.2.2.2.2.2.1
  have hS : va_S A s.heap s.heap [] := va_S.rf
  have hl := lv_entry ([Value.ref p1, Value.int p2, Value.int p3, Value.ref p4] : List Value) (n := 5) (Nat.le_of_ble_eq_true rfl)
  rw [lg_entry_eq]
  generalize (lg_sl ([Value.ref p1, Value.int p2, Value.int p3, Value.ref p4] : List Value) ++ List.replicate (5 - (lg_sl ([Value.ref p1, Value.int p2, Value.int p3, Value.ref p4] : List Value)).length) Slot.unset).toArray = ls at hl ⊢
  have hl : lv_has ls 5 [(0, .ref p1), (1, .int p2), (2, .int p3), (3, .ref p4)] := hl
  obtain ⟨Q, hQ⟩ : ∃ Q, Q = MQ below (va_Qi post (fun S' t => wd D y z S' A t.heap) A) (([Value.ref p1, Value.int p2, Value.int p3, Value.ref p4] : List Value).toArray) s MC MS A := ⟨_, rfl⟩
  rw [← hQ]
  generalize hR : (headSpec (wsL_carrier ++ bXl) ({ frames := 9, cells := MC, slots := MS, locals := 423 } : Room)).room = R
  have hRf : 9 ≤ R.frames := by rw [← hR]; exact Nat.le_refl _
  have hRl : 423 ≤ R.locals := by rw [← hR]; exact Nat.le_refl _
  have hRc : R.cells = MC := by rw [← hR]; rfl
  have hRs : R.slots = MS := by rw [← hR]; rfl
  have hret : ∀ (v : Int32) (S : bS) (H : Heap) (locs : List Loc) (pc : Nat) (ls : Array Slot) (cu su : Nat) , post v S → wd D y z S A H → va_S A s.heap H locs → cu ≤ MC → su ≤ MS → decode cL_carrier pc = .ok (.ireturn, 1) → W p l e R s m (([Value.ref p1, Value.int p2, Value.int p3, Value.ref p4] : List Value).toArray) below meth c H locs cu su Q (F0 m pc ls [.int v]) := by
    intro v S H locs pc ls cu su h hw hS hcu hsu d0
    rw [hQ]; refine W.widen hcu hsu ?_; exact W.iret hx hb hr (fun t ht hW => ⟨⟨v, S, rfl, h, by show wd D y z S A t.heap; rw [ht]; exact hw⟩, hS.F ht⟩) hS.2.2 d0 hlocks
  unfold wp_L_carrier at h
  have hcu : 0 + MC ≤ MC := by omega
  have hsu : 0 + MS ≤ MS := by omega
  refine lv_aload_n hx hb dL_carrier_0 rfl (lv_at hl 3 rfl) ?_
  refine lv_iconst (v := (0 : Int32)) hx hb dL_carrier_1 (by decide) ?_
  refine lv_aload_n hx hb dL_carrier_2 rfl (lv_at hl 0 rfl) ?_
  refine lv_iload_n hx hb dL_carrier_3 rfl (lv_at hl 1 rfl) ?_
  refine lv_iload_n hx hb dL_carrier_4 rfl (lv_at hl 2 rfl) ?_
  obtain ⟨hk1, h⟩ := h
  obtain ⟨k4, n5, hbg1, hbg2, h⟩ := h
  have h1 := h
  refine vx_calli (vx_runV (As := [.int p2, .int p3]) (rest := [.int (0 : Int32), .ref p4]) ⟨hx, hb, hml, hown, hts⟩ (m_X5_carrier (l := l) hl0 h1) (cwV 2 hts gL_carrier_X5_carrier rfl rfl rfl (by decide +kernel) ⟨Nat.le_trans (Nat.le_of_ble_eq_true rfl) hRf, Nat.le_trans (Nat.le_of_ble_eq_true rfl) hRl⟩) (r_pV hB hw hS (ce_7 (S := S) hk1) rfl) rfl rfl hl.1 rfl (lv_room (Nat.le_of_ble_eq_true rfl)) dL_carrier_5 ⟨by omega, by omega⟩) hS (fun _ _ h => h) (fun _ h => h) (fun _ _ h => h) (fun E ce q9 S3 t H1 locs ht hal _ hq hz9 hk9 hS hq9 hvm9 hfc9 => ?_) (fun r2 S3 t H1 locs ht _ h hw1 _ _ hS => ?_)
  · subst ht
    have hw : wd D y z S3 A t.heap := hq.2
    have h := hq.1
    have hcu : (0 + k4) + (MC - k4) ≤ MC := by omega
    have hsu : (0 + n5) + (MS - n5) ≤ MS := by omega
    by_cases hE0 : E = "java/lang/IndexOutOfBoundsException"
    · have h := h.1 hE0
      rw [hE0] at hfc9
      refine vx_catch (E := "java/lang/IndexOutOfBoundsException") (name := "java/lang/IndexOutOfBoundsException") hown ([] : List ExceptionTableEntry) ⟨0, 10, 13, 21⟩ ([] : List ExceptionTableEntry) (htb.trans rfl) (fun zz hz => absurd hz List.not_mem_nil) (by decide) (by decide) (htx (.classLink RL 21 "java/lang/IndexOutOfBoundsException") (List.mem_append_right _ (by decide))) (va_Nw.use rfl (hNw _ bNw_80)) hq9 hvm9 hfc9 ?_
      refine W.eq (g2 := F0 m 13 ls [.ref q9]) rfl ?_
      refine lv_astore hx hb dL_carrier_13 hl (by decide) rfl (fun ls hl => ?_)
      have hl : lv_has ls 5 [(4, .ref q9), (0, .ref p1), (1, .int p2), (2, .int p3), (3, .ref p4)] := hl
      refine lv_iconst (v := (1 : Int32)) hx hb dL_carrier_15 (by decide) ?_
      exact hret (1 : Int32) _ _ _ _ _ _ _ h hw hS (by omega) (by omega) dL_carrier_16
    exact (h.2 hE0).elim
  subst ht
  have hw : wd D y z S3 A t.heap := hw1
  clear hw1 h1
  have hcu : (0 + k4) + (MC - k4) ≤ MC := by omega
  have hsu : (0 + n5) + (MS - n5) ≤ MS := by omega
  refine lv_i2l (v := (Int32.toInt64 r2)) hx hb dL_carrier_8 rfl ?_
  obtain ⟨hk6, h⟩ := h
  obtain ⟨hin7, h⟩ := h
  refine r_last hx hb hK hw hS hk6 hin7 dL_carrier_9 (fun H locs hw hS => ?_)
  refine lv_goto (tgt := 17) hx hb dL_carrier_10 (by decide) ?_
  refine lv_iconst (v := (0 : Int32)) hx hb dL_carrier_17 (by decide) ?_
  exact hret (0 : Int32) _ _ _ _ _ _ _ h hw hS (by omega) (by omega) dL_carrier_18
def wp_L_count (post : Int32 → bS → Prop) (MC MS : Nat) (p1 : Nat) (p2 : Int32) (p3 : Nat) (S : bS) : Prop := gK S p1 = 7 ∧ (∃ k4 n5, k4 ≤ MC ∧ n5 ≤ MS ∧ (wp_X5_count (fun r2 S3 => gK S3 p3 = 13 ∧ (vp_in (0 : Int32) (gN S3 p3) ∧ (post (0 : Int32) (sL S3 p3 (Int32.toNatClampNeg (0 : Int32)) (Int32.toInt64 r2))))) (fun E S3 => (E = "java/lang/IndexOutOfBoundsException" → post (1 : Int32) S3) ∧ (¬ E = "java/lang/IndexOutOfBoundsException" → False)) k4 n5 p1 p2 S))
set_option maxHeartbeats 4000000 in
set_option maxRecDepth 100000 in
theorem m_L_count {l : Launch} {D : va_G} {y : Nat → ClassId} {z : Nat} {A : Nat → Prop} {S : bS} {post : Int32 → bS → Prop} (hl0 : l.stackTraces = false) {MC MS : Nat} {p1 : Nat} {p2 : Int32} {p3 : Nat} (h : wp_L_count post MC MS p1 p2 p3 S) : Met l yL_count (wsL_count ++ bXl) ({ frames := 9, cells := MC, slots := MS, locals := 421 } : Room) (va_Pc ([Value.ref p1, Value.int p2, Value.ref p3] : List Value) (bP D y z S A)) (va_Qi post (fun S' t => wd D y z S' A t.heap) A) MC MS A := by
  refine va_MetW (cc := cL_count) (maxL := 4) (ret := (some .int)) (by decide) rfl ?_
  intro p e s m args below meth c s₁ B hml hv
  obtain ⟨rfl, hB⟩ := hv
  have hx := B.exec
  have hb := B.bytes
  have hr := B.returns
  have hts := atoms_spec (ws := (wsL_count ++ bXl)) B.pre
  have hown : s.vm.findClass RL = some m.cls := findClass_of_methodNamed B.named
  have hlocks := B.notSynchronized
  have htx := hts
  have hts : ∀ w ∈ wsL_count, w.before _ s = true := fun w h => htx w (List.mem_append_left _ h)
  have htb := vx_table (x := yL_count) B (hts (.codeWith yL_count cL_count 4 (some .int) [(0, 9, 12, 21)]) (by decide +kernel))
  have hw : wd D y z S A s.heap := hB.1
  have hK : va_K D bCl (bT y) s := hB.2.1
  have hNw := hB.2.2.1
  have hAn : ∀ q : Nat, s.heap.size ≤ q → A q := hB.2.2.2.1
  have hAz : ¬ A z := hB.2.2.2.2.1
  have hO := hB.2.2.2.2.2.1
  have hS : va_S A s.heap s.heap [] := va_S.rf
  have hl := lv_entry ([Value.ref p1, Value.int p2, Value.ref p3] : List Value) (n := 4) (Nat.le_of_ble_eq_true rfl)
  rw [lg_entry_eq]
  generalize (lg_sl ([Value.ref p1, Value.int p2, Value.ref p3] : List Value) ++ List.replicate (4 - (lg_sl ([Value.ref p1, Value.int p2, Value.ref p3] : List Value)).length) Slot.unset).toArray = ls at hl ⊢
  have hl : lv_has ls 4 [(0, .ref p1), (1, .int p2), (2, .ref p3)] := hl
  obtain ⟨Q, hQ⟩ : ∃ Q, Q = MQ below (va_Qi post (fun S' t => wd D y z S' A t.heap) A) (([Value.ref p1, Value.int p2, Value.ref p3] : List Value).toArray) s MC MS A := ⟨_, rfl⟩
  rw [← hQ]
  generalize hR : (headSpec (wsL_count ++ bXl) ({ frames := 9, cells := MC, slots := MS, locals := 421 } : Room)).room = R
  have hRf : 9 ≤ R.frames := by rw [← hR]; exact Nat.le_refl _
  have hRl : 421 ≤ R.locals := by rw [← hR]; exact Nat.le_refl _
  have hRc : R.cells = MC := by rw [← hR]; rfl
  have hRs : R.slots = MS := by rw [← hR]; rfl
  have hret : ∀ (v : Int32) (S : bS) (H : Heap) (locs : List Loc) (pc : Nat) (ls : Array Slot) (cu su : Nat) , post v S → wd D y z S A H → va_S A s.heap H locs → cu ≤ MC → su ≤ MS → decode cL_count pc = .ok (.ireturn, 1) → W p l e R s m (([Value.ref p1, Value.int p2, Value.ref p3] : List Value).toArray) below meth c H locs cu su Q (F0 m pc ls [.int v]) := by
    intro v S H locs pc ls cu su h hw hS hcu hsu d0
    rw [hQ]; refine W.widen hcu hsu ?_; exact W.iret hx hb hr (fun t ht hW => ⟨⟨v, S, rfl, h, by show wd D y z S A t.heap; rw [ht]; exact hw⟩, hS.F ht⟩) hS.2.2 d0 hlocks
  unfold wp_L_count at h
  have hcu : 0 + MC ≤ MC := by omega
  have hsu : 0 + MS ≤ MS := by omega
  refine lv_aload_n hx hb dL_count_0 rfl (lv_at hl 2 rfl) ?_
  refine lv_iconst (v := (0 : Int32)) hx hb dL_count_1 (by decide) ?_
  refine lv_aload_n hx hb dL_count_2 rfl (lv_at hl 0 rfl) ?_
  refine lv_iload_n hx hb dL_count_3 rfl (lv_at hl 1 rfl) ?_
  obtain ⟨hk1, h⟩ := h
  obtain ⟨k4, n5, hbg1, hbg2, h⟩ := h
  have h1 := h
  refine vx_calli (vx_runV (As := [.int p2]) (rest := [.int (0 : Int32), .ref p3]) ⟨hx, hb, hml, hown, hts⟩ (m_X5_count (l := l) hl0 h1) (cwV 1 hts gL_count_X5_count rfl rfl rfl (by decide +kernel) ⟨Nat.le_trans (Nat.le_of_ble_eq_true rfl) hRf, Nat.le_trans (Nat.le_of_ble_eq_true rfl) hRl⟩) (r_pV hB hw hS (ce_7 (S := S) hk1) rfl) rfl rfl hl.1 rfl (lv_room (Nat.le_of_ble_eq_true rfl)) dL_count_4 ⟨by omega, by omega⟩) hS (fun _ _ h => h) (fun _ h => h) (fun _ _ h => h) (fun E ce q9 S3 t H1 locs ht hal _ hq hz9 hk9 hS hq9 hvm9 hfc9 => ?_) (fun r2 S3 t H1 locs ht _ h hw1 _ _ hS => ?_)
  · subst ht
    have hw : wd D y z S3 A t.heap := hq.2
    have h := hq.1
    have hcu : (0 + k4) + (MC - k4) ≤ MC := by omega
    have hsu : (0 + n5) + (MS - n5) ≤ MS := by omega
    by_cases hE0 : E = "java/lang/IndexOutOfBoundsException"
    · have h := h.1 hE0
      rw [hE0] at hfc9
      refine vx_catch (E := "java/lang/IndexOutOfBoundsException") (name := "java/lang/IndexOutOfBoundsException") hown ([] : List ExceptionTableEntry) ⟨0, 9, 12, 21⟩ ([] : List ExceptionTableEntry) (htb.trans rfl) (fun zz hz => absurd hz List.not_mem_nil) (by decide) (by decide) (htx (.classLink RL 21 "java/lang/IndexOutOfBoundsException") (List.mem_append_right _ (by decide))) (va_Nw.use rfl (hNw _ bNw_80)) hq9 hvm9 hfc9 ?_
      refine W.eq (g2 := F0 m 12 ls [.ref q9]) rfl ?_
      refine lv_astore_n hx hb dL_count_12 rfl hl (by decide) rfl (fun ls hl => ?_)
      have hl : lv_has ls 4 [(3, .ref q9), (0, .ref p1), (1, .int p2), (2, .ref p3)] := hl
      refine lv_iconst (v := (1 : Int32)) hx hb dL_count_13 (by decide) ?_
      exact hret (1 : Int32) _ _ _ _ _ _ _ h hw hS (by omega) (by omega) dL_count_14
    exact (h.2 hE0).elim
  subst ht
  have hw : wd D y z S3 A t.heap := hw1
  clear hw1 h1
  have hcu : (0 + k4) + (MC - k4) ≤ MC := by omega
  have hsu : (0 + n5) + (MS - n5) ≤ MS := by omega
  refine lv_i2l (v := (Int32.toInt64 r2)) hx hb dL_count_7 rfl ?_
  obtain ⟨hk6, h⟩ := h
  obtain ⟨hin7, h⟩ := h
  refine r_last hx hb hK hw hS hk6 hin7 dL_count_8 (fun H locs hw hS => ?_)
  refine lv_goto (tgt := 15) hx hb dL_count_9 (by decide) ?_
  refine lv_iconst (v := (0 : Int32)) hx hb dL_count_15 (by decide) ?_
  exact hret (0 : Int32) _ _ _ _ _ _ _ h hw hS (by omega) (by omega) dL_count_16
def wp_L_station (post : Int32 → bS → Prop) (MC MS : Nat) (p1 : Nat) (p2 : Int32) (p3 : Int32) (p4 : Nat) (S : bS) : Prop := gK S p1 = 7 ∧ (∃ k4 n5, k4 ≤ MC ∧ n5 ≤ MS ∧ (wp_X5_station (fun r2 S3 => gK S3 p4 = 13 ∧ (vp_in (0 : Int32) (gN S3 p4) ∧ (post (0 : Int32) (sL S3 p4 (Int32.toNatClampNeg (0 : Int32)) (Int32.toInt64 r2))))) (fun E S3 => (E = "java/lang/IndexOutOfBoundsException" → post (1 : Int32) S3) ∧ (¬ E = "java/lang/IndexOutOfBoundsException" → False)) k4 n5 p1 p2 p3 S))
set_option maxHeartbeats 4000000 in
set_option maxRecDepth 100000 in
theorem m_L_station {l : Launch} {D : va_G} {y : Nat → ClassId} {z : Nat} {A : Nat → Prop} {S : bS} {post : Int32 → bS → Prop} (hl0 : l.stackTraces = false) {MC MS : Nat} {p1 : Nat} {p2 : Int32} {p3 : Int32} {p4 : Nat} (h : wp_L_station post MC MS p1 p2 p3 p4 S) : Met l yL_station (wsL_station ++ bXl) ({ frames := 10, cells := MC, slots := MS, locals := 444 } : Room) (va_Pc ([Value.ref p1, Value.int p2, Value.int p3, Value.ref p4] : List Value) (bP D y z S A)) (va_Qi post (fun S' t => wd D y z S' A t.heap) A) MC MS A := by
  refine va_MetW (cc := cL_station) (maxL := 5) (ret := (some .int)) (by decide) rfl ?_
  intro p e s m args below meth c s₁ B hml hv
  obtain ⟨rfl, hB⟩ := hv
  have hx := B.exec
  have hb := B.bytes
  have hr := B.returns
  have hts := atoms_spec (ws := (wsL_station ++ bXl)) B.pre
  have hown : s.vm.findClass RL = some m.cls := findClass_of_methodNamed B.named
  have hlocks := B.notSynchronized
  have htx := hts
  have hts : ∀ w ∈ wsL_station, w.before _ s = true := fun w h => htx w (List.mem_append_left _ h)
  have htb := vx_table (x := yL_station) B (hts (.codeWith yL_station cL_station 5 (some .int) [(0, 10, 13, 21)]) (by decide +kernel))
  have hw : wd D y z S A s.heap := hB.1
  have hK : va_K D bCl (bT y) s := hB.2.1
  have hNw := hB.2.2.1
  have hAn : ∀ q : Nat, s.heap.size ≤ q → A q := hB.2.2.2.1
  have hAz : ¬ A z := hB.2.2.2.2.1
  have hO := hB.2.2.2.2.2.1
  have hS : va_S A s.heap s.heap [] := va_S.rf
  have hl := lv_entry ([Value.ref p1, Value.int p2, Value.int p3, Value.ref p4] : List Value) (n := 5) (Nat.le_of_ble_eq_true rfl)
  rw [lg_entry_eq]
  generalize (lg_sl ([Value.ref p1, Value.int p2, Value.int p3, Value.ref p4] : List Value) ++ List.replicate (5 - (lg_sl ([Value.ref p1, Value.int p2, Value.int p3, Value.ref p4] : List Value)).length) Slot.unset).toArray = ls at hl ⊢
  have hl : lv_has ls 5 [(0, .ref p1), (1, .int p2), (2, .int p3), (3, .ref p4)] := hl
  obtain ⟨Q, hQ⟩ : ∃ Q, Q = MQ below (va_Qi post (fun S' t => wd D y z S' A t.heap) A) (([Value.ref p1, Value.int p2, Value.int p3, Value.ref p4] : List Value).toArray) s MC MS A := ⟨_, rfl⟩
  rw [← hQ]
  generalize hR : (headSpec (wsL_station ++ bXl) ({ frames := 10, cells := MC, slots := MS, locals := 444 } : Room)).room = R
  have hRf : 10 ≤ R.frames := by rw [← hR]; exact Nat.le_refl _
  have hRl : 444 ≤ R.locals := by rw [← hR]; exact Nat.le_refl _
  have hRc : R.cells = MC := by rw [← hR]; rfl
  have hRs : R.slots = MS := by rw [← hR]; rfl
  have hret : ∀ (v : Int32) (S : bS) (H : Heap) (locs : List Loc) (pc : Nat) (ls : Array Slot) (cu su : Nat) , post v S → wd D y z S A H → va_S A s.heap H locs → cu ≤ MC → su ≤ MS → decode cL_station pc = .ok (.ireturn, 1) → W p l e R s m (([Value.ref p1, Value.int p2, Value.int p3, Value.ref p4] : List Value).toArray) below meth c H locs cu su Q (F0 m pc ls [.int v]) := by
    intro v S H locs pc ls cu su h hw hS hcu hsu d0
    rw [hQ]; refine W.widen hcu hsu ?_; exact W.iret hx hb hr (fun t ht hW => ⟨⟨v, S, rfl, h, by show wd D y z S A t.heap; rw [ht]; exact hw⟩, hS.F ht⟩) hS.2.2 d0 hlocks
  unfold wp_L_station at h
  have hcu : 0 + MC ≤ MC := by omega
  have hsu : 0 + MS ≤ MS := by omega
  refine lv_aload_n hx hb dL_station_0 rfl (lv_at hl 3 rfl) ?_
  refine lv_iconst (v := (0 : Int32)) hx hb dL_station_1 (by decide) ?_
  refine lv_aload_n hx hb dL_station_2 rfl (lv_at hl 0 rfl) ?_
  refine lv_iload_n hx hb dL_station_3 rfl (lv_at hl 1 rfl) ?_
  refine lv_iload_n hx hb dL_station_4 rfl (lv_at hl 2 rfl) ?_
  obtain ⟨hk1, h⟩ := h
  obtain ⟨k4, n5, hbg1, hbg2, h⟩ := h
  have h1 := h
  refine vx_calli (vx_runV (As := [.int p2, .int p3]) (rest := [.int (0 : Int32), .ref p4]) ⟨hx, hb, hml, hown, hts⟩ (m_X5_station (l := l) hl0 h1) (cwV 2 hts gL_station_X5_station rfl rfl rfl (by decide +kernel) ⟨Nat.le_trans (Nat.le_of_ble_eq_true rfl) hRf, Nat.le_trans (Nat.le_of_ble_eq_true rfl) hRl⟩) (r_pV hB hw hS (ce_7 (S := S) hk1) rfl) rfl rfl hl.1 rfl (lv_room (Nat.le_of_ble_eq_true rfl)) dL_station_5 ⟨by omega, by omega⟩) hS (fun _ _ h => h) (fun _ h => h) (fun _ _ h => h) (fun E ce q9 S3 t H1 locs ht hal _ hq hz9 hk9 hS hq9 hvm9 hfc9 => ?_) (fun r2 S3 t H1 locs ht _ h hw1 _ _ hS => ?_)
  · subst ht
    have hw : wd D y z S3 A t.heap := hq.2
    have h := hq.1
    have hcu : (0 + k4) + (MC - k4) ≤ MC := by omega
    have hsu : (0 + n5) + (MS - n5) ≤ MS := by omega
    by_cases hE0 : E = "java/lang/IndexOutOfBoundsException"
    · have h := h.1 hE0
      rw [hE0] at hfc9
      refine vx_catch (E := "java/lang/IndexOutOfBoundsException") (name := "java/lang/IndexOutOfBoundsException") hown ([] : List ExceptionTableEntry) ⟨0, 10, 13, 21⟩ ([] : List ExceptionTableEntry) (htb.trans rfl) (fun zz hz => absurd hz List.not_mem_nil) (by decide) (by decide) (htx (.classLink RL 21 "java/lang/IndexOutOfBoundsException") (List.mem_append_right _ (by decide))) (va_Nw.use rfl (hNw _ bNw_80)) hq9 hvm9 hfc9 ?_
      refine W.eq (g2 := F0 m 13 ls [.ref q9]) rfl ?_
      refine lv_astore hx hb dL_station_13 hl (by decide) rfl (fun ls hl => ?_)
      have hl : lv_has ls 5 [(4, .ref q9), (0, .ref p1), (1, .int p2), (2, .int p3), (3, .ref p4)] := hl
      refine lv_iconst (v := (1 : Int32)) hx hb dL_station_15 (by decide) ?_
      exact hret (1 : Int32) _ _ _ _ _ _ _ h hw hS (by omega) (by omega) dL_station_16
    exact (h.2 hE0).elim
  subst ht
  have hw : wd D y z S3 A t.heap := hw1
  clear hw1 h1
  have hcu : (0 + k4) + (MC - k4) ≤ MC := by omega
  have hsu : (0 + n5) + (MS - n5) ≤ MS := by omega
  refine lv_i2l (v := (Int32.toInt64 r2)) hx hb dL_station_8 rfl ?_
  obtain ⟨hk6, h⟩ := h
  obtain ⟨hin7, h⟩ := h
  refine r_last hx hb hK hw hS hk6 hin7 dL_station_9 (fun H locs hw hS => ?_)
  refine lv_goto (tgt := 17) hx hb dL_station_10 (by decide) ?_
  refine lv_iconst (v := (0 : Int32)) hx hb dL_station_17 (by decide) ?_
  exact hret (0 : Int32) _ _ _ _ _ _ _ h hw hS (by omega) (by omega) dL_station_18
def wp_L_tube (post : Int32 → bS → Prop) (MC MS : Nat) (p1 : Nat) (p2 : Int32) (p3 : Int32) (p4 : Nat) (S : bS) : Prop := gK S p1 = 7 ∧ (∃ k4 n5, k4 ≤ MC ∧ n5 ≤ MS ∧ (wp_X5_tube (fun r2 S3 => gK S3 p4 = 13 ∧ (vp_in (0 : Int32) (gN S3 p4) ∧ (post (0 : Int32) (sL S3 p4 (Int32.toNatClampNeg (0 : Int32)) (Int32.toInt64 r2))))) (fun E S3 => (E = "java/lang/IndexOutOfBoundsException" → post (1 : Int32) S3) ∧ (¬ E = "java/lang/IndexOutOfBoundsException" → False)) k4 n5 p1 p2 p3 S))
set_option maxHeartbeats 4000000 in
set_option maxRecDepth 100000 in
theorem m_L_tube {l : Launch} {D : va_G} {y : Nat → ClassId} {z : Nat} {A : Nat → Prop} {S : bS} {post : Int32 → bS → Prop} (hl0 : l.stackTraces = false) {MC MS : Nat} {p1 : Nat} {p2 : Int32} {p3 : Int32} {p4 : Nat} (h : wp_L_tube post MC MS p1 p2 p3 p4 S) : Met l yL_tube (wsL_tube ++ bXl) ({ frames := 10, cells := MC, slots := MS, locals := 444 } : Room) (va_Pc ([Value.ref p1, Value.int p2, Value.int p3, Value.ref p4] : List Value) (bP D y z S A)) (va_Qi post (fun S' t => wd D y z S' A t.heap) A) MC MS A := by
  refine va_MetW (cc := cL_tube) (maxL := 5) (ret := (some .int)) (by decide) rfl ?_
  intro p e s m args below meth c s₁ B hml hv
  obtain ⟨rfl, hB⟩ := hv
  have hx := B.exec
  have hb := B.bytes
  have hr := B.returns
  have hts := atoms_spec (ws := (wsL_tube ++ bXl)) B.pre
  have hown : s.vm.findClass RL = some m.cls := findClass_of_methodNamed B.named
  have hlocks := B.notSynchronized
  have htx := hts
  have hts : ∀ w ∈ wsL_tube, w.before _ s = true := fun w h => htx w (List.mem_append_left _ h)
  have htb := vx_table (x := yL_tube) B (hts (.codeWith yL_tube cL_tube 5 (some .int) [(0, 10, 13, 21)]) (by decide +kernel))
  have hw : wd D y z S A s.heap := hB.1
  have hK : va_K D bCl (bT y) s := hB.2.1
  have hNw := hB.2.2.1
  have hAn : ∀ q : Nat, s.heap.size ≤ q → A q := hB.2.2.2.1
  have hAz : ¬ A z := hB.2.2.2.2.1
  have hO := hB.2.2.2.2.2.1
  have hS : va_S A s.heap s.heap [] := va_S.rf
  have hl := lv_entry ([Value.ref p1, Value.int p2, Value.int p3, Value.ref p4] : List Value) (n := 5) (Nat.le_of_ble_eq_true rfl)
  rw [lg_entry_eq]
  generalize (lg_sl ([Value.ref p1, Value.int p2, Value.int p3, Value.ref p4] : List Value) ++ List.replicate (5 - (lg_sl ([Value.ref p1, Value.int p2, Value.int p3, Value.ref p4] : List Value)).length) Slot.unset).toArray = ls at hl ⊢
  have hl : lv_has ls 5 [(0, .ref p1), (1, .int p2), (2, .int p3), (3, .ref p4)] := hl
  obtain ⟨Q, hQ⟩ : ∃ Q, Q = MQ below (va_Qi post (fun S' t => wd D y z S' A t.heap) A) (([Value.ref p1, Value.int p2, Value.int p3, Value.ref p4] : List Value).toArray) s MC MS A := ⟨_, rfl⟩
  rw [← hQ]
  generalize hR : (headSpec (wsL_tube ++ bXl) ({ frames := 10, cells := MC, slots := MS, locals := 444 } : Room)).room = R
  have hRf : 10 ≤ R.frames := by rw [← hR]; exact Nat.le_refl _
  have hRl : 444 ≤ R.locals := by rw [← hR]; exact Nat.le_refl _
  have hRc : R.cells = MC := by rw [← hR]; rfl
  have hRs : R.slots = MS := by rw [← hR]; rfl
  have hret : ∀ (v : Int32) (S : bS) (H : Heap) (locs : List Loc) (pc : Nat) (ls : Array Slot) (cu su : Nat) , post v S → wd D y z S A H → va_S A s.heap H locs → cu ≤ MC → su ≤ MS → decode cL_tube pc = .ok (.ireturn, 1) → W p l e R s m (([Value.ref p1, Value.int p2, Value.int p3, Value.ref p4] : List Value).toArray) below meth c H locs cu su Q (F0 m pc ls [.int v]) := by
    intro v S H locs pc ls cu su h hw hS hcu hsu d0
    rw [hQ]; refine W.widen hcu hsu ?_; exact W.iret hx hb hr (fun t ht hW => ⟨⟨v, S, rfl, h, by show wd D y z S A t.heap; rw [ht]; exact hw⟩, hS.F ht⟩) hS.2.2 d0 hlocks
  unfold wp_L_tube at h
  have hcu : 0 + MC ≤ MC := by omega
  have hsu : 0 + MS ≤ MS := by omega
  refine lv_aload_n hx hb dL_tube_0 rfl (lv_at hl 3 rfl) ?_
  refine lv_iconst (v := (0 : Int32)) hx hb dL_tube_1 (by decide) ?_
  refine lv_aload_n hx hb dL_tube_2 rfl (lv_at hl 0 rfl) ?_
  refine lv_iload_n hx hb dL_tube_3 rfl (lv_at hl 1 rfl) ?_
  refine lv_iload_n hx hb dL_tube_4 rfl (lv_at hl 2 rfl) ?_
  obtain ⟨hk1, h⟩ := h
  obtain ⟨k4, n5, hbg1, hbg2, h⟩ := h
  have h1 := h
  refine vx_calli (vx_runV (As := [.int p2, .int p3]) (rest := [.int (0 : Int32), .ref p4]) ⟨hx, hb, hml, hown, hts⟩ (m_X5_tube (l := l) hl0 h1) (cwV 2 hts gL_tube_X5_tube rfl rfl rfl (by decide +kernel) ⟨Nat.le_trans (Nat.le_of_ble_eq_true rfl) hRf, Nat.le_trans (Nat.le_of_ble_eq_true rfl) hRl⟩) (r_pV hB hw hS (ce_7 (S := S) hk1) rfl) rfl rfl hl.1 rfl (lv_room (Nat.le_of_ble_eq_true rfl)) dL_tube_5 ⟨by omega, by omega⟩) hS (fun _ _ h => h) (fun _ h => h) (fun _ _ h => h) (fun E ce q9 S3 t H1 locs ht hal _ hq hz9 hk9 hS hq9 hvm9 hfc9 => ?_) (fun r2 S3 t H1 locs ht _ h hw1 _ _ hS => ?_)
  · subst ht
    have hw : wd D y z S3 A t.heap := hq.2
    have h := hq.1
    have hcu : (0 + k4) + (MC - k4) ≤ MC := by omega
    have hsu : (0 + n5) + (MS - n5) ≤ MS := by omega
    by_cases hE0 : E = "java/lang/IndexOutOfBoundsException"
    · have h := h.1 hE0
      rw [hE0] at hfc9
      refine vx_catch (E := "java/lang/IndexOutOfBoundsException") (name := "java/lang/IndexOutOfBoundsException") hown ([] : List ExceptionTableEntry) ⟨0, 10, 13, 21⟩ ([] : List ExceptionTableEntry) (htb.trans rfl) (fun zz hz => absurd hz List.not_mem_nil) (by decide) (by decide) (htx (.classLink RL 21 "java/lang/IndexOutOfBoundsException") (List.mem_append_right _ (by decide))) (va_Nw.use rfl (hNw _ bNw_80)) hq9 hvm9 hfc9 ?_
      refine W.eq (g2 := F0 m 13 ls [.ref q9]) rfl ?_
      refine lv_astore hx hb dL_tube_13 hl (by decide) rfl (fun ls hl => ?_)
      have hl : lv_has ls 5 [(4, .ref q9), (0, .ref p1), (1, .int p2), (2, .int p3), (3, .ref p4)] := hl
      refine lv_iconst (v := (1 : Int32)) hx hb dL_tube_15 (by decide) ?_
      exact hret (1 : Int32) _ _ _ _ _ _ _ h hw hS (by omega) (by omega) dL_tube_16
    exact (h.2 hE0).elim
  subst ht
  have hw : wd D y z S3 A t.heap := hw1
  clear hw1 h1
  have hcu : (0 + k4) + (MC - k4) ≤ MC := by omega
  have hsu : (0 + n5) + (MS - n5) ≤ MS := by omega
  refine lv_i2l (v := (Int32.toInt64 r2)) hx hb dL_tube_8 rfl ?_
  obtain ⟨hk6, h⟩ := h
  obtain ⟨hin7, h⟩ := h
  refine r_last hx hb hK hw hS hk6 hin7 dL_tube_9 (fun H locs hw hS => ?_)
  refine lv_goto (tgt := 17) hx hb dL_tube_10 (by decide) ?_
  refine lv_iconst (v := (0 : Int32)) hx hb dL_tube_17 (by decide) ?_
  exact hret (0 : Int32) _ _ _ _ _ _ _ h hw hS (by omega) (by omega) dL_tube_18
def wp_L_there (post : Int32 → bS → Prop) (MC MS : Nat) (p1 : Nat) (p2 : Int32) (p3 : Int32) (p4 : Nat) (S : bS) : Prop := gK S p1 = 7 ∧ (∃ k4 n5, k4 ≤ MC ∧ n5 ≤ MS ∧ (wp_X5_there (fun r2 S3 => gK S3 p4 = 13 ∧ (vp_in (0 : Int32) (gN S3 p4) ∧ (post (0 : Int32) (sL S3 p4 (Int32.toNatClampNeg (0 : Int32)) (Int32.toInt64 r2))))) (fun E S3 => (E = "java/lang/IndexOutOfBoundsException" → post (1 : Int32) S3) ∧ (¬ E = "java/lang/IndexOutOfBoundsException" → False)) k4 n5 p1 p2 p3 S))
set_option maxHeartbeats 4000000 in
set_option maxRecDepth 100000 in
theorem m_L_there {l : Launch} {D : va_G} {y : Nat → ClassId} {z : Nat} {A : Nat → Prop} {S : bS} {post : Int32 → bS → Prop} (hl0 : l.stackTraces = false) {MC MS : Nat} {p1 : Nat} {p2 : Int32} {p3 : Int32} {p4 : Nat} (h : wp_L_there post MC MS p1 p2 p3 p4 S) : Met l yL_there (wsL_there ++ bXl) ({ frames := 10, cells := MC, slots := MS, locals := 444 } : Room) (va_Pc ([Value.ref p1, Value.int p2, Value.int p3, Value.ref p4] : List Value) (bP D y z S A)) (va_Qi post (fun S' t => wd D y z S' A t.heap) A) MC MS A := by
  refine va_MetW (cc := cL_there) (maxL := 5) (ret := (some .int)) (by decide) rfl ?_
  intro p e s m args below meth c s₁ B hml hv
  obtain ⟨rfl, hB⟩ := hv
  have hx := B.exec
  have hb := B.bytes
  have hr := B.returns
  have hts := atoms_spec (ws := (wsL_there ++ bXl)) B.pre
  have hown : s.vm.findClass RL = some m.cls := findClass_of_methodNamed B.named
  have hlocks := B.notSynchronized
  have htx := hts
  have hts : ∀ w ∈ wsL_there, w.before _ s = true := fun w h => htx w (List.mem_append_left _ h)
  have htb := vx_table (x := yL_there) B (hts (.codeWith yL_there cL_there 5 (some .int) [(0, 10, 13, 21)]) (by decide +kernel))
  have hw : wd D y z S A s.heap := hB.1
  have hK : va_K D bCl (bT y) s := hB.2.1
  have hNw := hB.2.2.1
  have hAn : ∀ q : Nat, s.heap.size ≤ q → A q := hB.2.2.2.1
  have hAz : ¬ A z := hB.2.2.2.2.1
  have hO := hB.2.2.2.2.2.1
  have hS : va_S A s.heap s.heap [] := va_S.rf
  have hl := lv_entry ([Value.ref p1, Value.int p2, Value.int p3, Value.ref p4] : List Value) (n := 5) (Nat.le_of_ble_eq_true rfl)
  rw [lg_entry_eq]
  generalize (lg_sl ([Value.ref p1, Value.int p2, Value.int p3, Value.ref p4] : List Value) ++ List.replicate (5 - (lg_sl ([Value.ref p1, Value.int p2, Value.int p3, Value.ref p4] : List Value)).length) Slot.unset).toArray = ls at hl ⊢
  have hl : lv_has ls 5 [(0, .ref p1), (1, .int p2), (2, .int p3), (3, .ref p4)] := hl
  obtain ⟨Q, hQ⟩ : ∃ Q, Q = MQ below (va_Qi post (fun S' t => wd D y z S' A t.heap) A) (([Value.ref p1, Value.int p2, Value.int p3, Value.ref p4] : List Value).toArray) s MC MS A := ⟨_, rfl⟩
  rw [← hQ]
  generalize hR : (headSpec (wsL_there ++ bXl) ({ frames := 10, cells := MC, slots := MS, locals := 444 } : Room)).room = R
  have hRf : 10 ≤ R.frames := by rw [← hR]; exact Nat.le_refl _
  have hRl : 444 ≤ R.locals := by rw [← hR]; exact Nat.le_refl _
  have hRc : R.cells = MC := by rw [← hR]; rfl
  have hRs : R.slots = MS := by rw [← hR]; rfl
  have hret : ∀ (v : Int32) (S : bS) (H : Heap) (locs : List Loc) (pc : Nat) (ls : Array Slot) (cu su : Nat) , post v S → wd D y z S A H → va_S A s.heap H locs → cu ≤ MC → su ≤ MS → decode cL_there pc = .ok (.ireturn, 1) → W p l e R s m (([Value.ref p1, Value.int p2, Value.int p3, Value.ref p4] : List Value).toArray) below meth c H locs cu su Q (F0 m pc ls [.int v]) := by
    intro v S H locs pc ls cu su h hw hS hcu hsu d0
    rw [hQ]; refine W.widen hcu hsu ?_; exact W.iret hx hb hr (fun t ht hW => ⟨⟨v, S, rfl, h, by show wd D y z S A t.heap; rw [ht]; exact hw⟩, hS.F ht⟩) hS.2.2 d0 hlocks
  unfold wp_L_there at h
  have hcu : 0 + MC ≤ MC := by omega
  have hsu : 0 + MS ≤ MS := by omega
  refine lv_aload_n hx hb dL_there_0 rfl (lv_at hl 3 rfl) ?_
  refine lv_iconst (v := (0 : Int32)) hx hb dL_there_1 (by decide) ?_
  refine lv_aload_n hx hb dL_there_2 rfl (lv_at hl 0 rfl) ?_
  refine lv_iload_n hx hb dL_there_3 rfl (lv_at hl 1 rfl) ?_
  refine lv_iload_n hx hb dL_there_4 rfl (lv_at hl 2 rfl) ?_
  obtain ⟨hk1, h⟩ := h
  obtain ⟨k4, n5, hbg1, hbg2, h⟩ := h
  have h1 := h
  refine vx_calli (vx_runV (As := [.int p2, .int p3]) (rest := [.int (0 : Int32), .ref p4]) ⟨hx, hb, hml, hown, hts⟩ (m_X5_there (l := l) hl0 h1) (cwV 2 hts gL_there_X5_there rfl rfl rfl (by decide +kernel) ⟨Nat.le_trans (Nat.le_of_ble_eq_true rfl) hRf, Nat.le_trans (Nat.le_of_ble_eq_true rfl) hRl⟩) (r_pV hB hw hS (ce_7 (S := S) hk1) rfl) rfl rfl hl.1 rfl (lv_room (Nat.le_of_ble_eq_true rfl)) dL_there_5 ⟨by omega, by omega⟩) hS (fun _ _ h => h) (fun _ h => h) (fun _ _ h => h) (fun E ce q9 S3 t H1 locs ht hal _ hq hz9 hk9 hS hq9 hvm9 hfc9 => ?_) (fun r2 S3 t H1 locs ht _ h hw1 _ _ hS => ?_)
  · subst ht
    have hw : wd D y z S3 A t.heap := hq.2
    have h := hq.1
    have hcu : (0 + k4) + (MC - k4) ≤ MC := by omega
    have hsu : (0 + n5) + (MS - n5) ≤ MS := by omega
    by_cases hE0 : E = "java/lang/IndexOutOfBoundsException"
    · have h := h.1 hE0
      rw [hE0] at hfc9
      refine vx_catch (E := "java/lang/IndexOutOfBoundsException") (name := "java/lang/IndexOutOfBoundsException") hown ([] : List ExceptionTableEntry) ⟨0, 10, 13, 21⟩ ([] : List ExceptionTableEntry) (htb.trans rfl) (fun zz hz => absurd hz List.not_mem_nil) (by decide) (by decide) (htx (.classLink RL 21 "java/lang/IndexOutOfBoundsException") (List.mem_append_right _ (by decide))) (va_Nw.use rfl (hNw _ bNw_80)) hq9 hvm9 hfc9 ?_
      refine W.eq (g2 := F0 m 13 ls [.ref q9]) rfl ?_
      refine lv_astore hx hb dL_there_13 hl (by decide) rfl (fun ls hl => ?_)
      have hl : lv_has ls 5 [(4, .ref q9), (0, .ref p1), (1, .int p2), (2, .int p3), (3, .ref p4)] := hl
      refine lv_iconst (v := (1 : Int32)) hx hb dL_there_15 (by decide) ?_
      exact hret (1 : Int32) _ _ _ _ _ _ _ h hw hS (by omega) (by omega) dL_there_16
    exact (h.2 hE0).elim
  subst ht
  have hw : wd D y z S3 A t.heap := hw1
  clear hw1 h1
  have hcu : (0 + k4) + (MC - k4) ≤ MC := by omega
  have hsu : (0 + n5) + (MS - n5) ≤ MS := by omega
  refine lv_i2l (v := (Int32.toInt64 r2)) hx hb dL_there_8 rfl ?_
  obtain ⟨hk6, h⟩ := h
  obtain ⟨hin7, h⟩ := h
  refine r_last hx hb hK hw hS hk6 hin7 dL_there_9 (fun H locs hw hS => ?_)
  refine lv_goto (tgt := 17) hx hb dL_there_10 (by decide) ?_
  refine lv_iconst (v := (0 : Int32)) hx hb dL_there_17 (by decide) ?_
  exact hret (0 : Int32) _ _ _ _ _ _ _ h hw hS (by omega) (by omega) dL_there_18
def wp_L_time (post : Int32 → bS → Prop) (MC MS : Nat) (p1 : Nat) (p2 : Int32) (p3 : Int32) (p4 : Nat) (S : bS) : Prop := gK S p1 = 7 ∧ (∃ k4 n5, k4 ≤ MC ∧ n5 ≤ MS ∧ (wp_X5_time (fun r2 S3 => gK S3 p4 = 13 ∧ (vp_in (0 : Int32) (gN S3 p4) ∧ (post (0 : Int32) (sL S3 p4 (Int32.toNatClampNeg (0 : Int32)) (Int32.toInt64 r2))))) (fun E S3 => (E = "java/lang/IndexOutOfBoundsException" → post (1 : Int32) S3) ∧ (¬ E = "java/lang/IndexOutOfBoundsException" → False)) k4 n5 p1 p2 p3 S))
set_option maxHeartbeats 4000000 in
set_option maxRecDepth 100000 in
theorem m_L_time {l : Launch} {D : va_G} {y : Nat → ClassId} {z : Nat} {A : Nat → Prop} {S : bS} {post : Int32 → bS → Prop} (hl0 : l.stackTraces = false) {MC MS : Nat} {p1 : Nat} {p2 : Int32} {p3 : Int32} {p4 : Nat} (h : wp_L_time post MC MS p1 p2 p3 p4 S) : Met l yL_time (wsL_time ++ bXl) ({ frames := 10, cells := MC, slots := MS, locals := 444 } : Room) (va_Pc ([Value.ref p1, Value.int p2, Value.int p3, Value.ref p4] : List Value) (bP D y z S A)) (va_Qi post (fun S' t => wd D y z S' A t.heap) A) MC MS A := by
  refine va_MetW (cc := cL_time) (maxL := 5) (ret := (some .int)) (by decide) rfl ?_
  intro p e s m args below meth c s₁ B hml hv
  obtain ⟨rfl, hB⟩ := hv
  have hx := B.exec
  have hb := B.bytes
  have hr := B.returns
  have hts := atoms_spec (ws := (wsL_time ++ bXl)) B.pre
  have hown : s.vm.findClass RL = some m.cls := findClass_of_methodNamed B.named
  have hlocks := B.notSynchronized
  have htx := hts
  have hts : ∀ w ∈ wsL_time, w.before _ s = true := fun w h => htx w (List.mem_append_left _ h)
  have htb := vx_table (x := yL_time) B (hts (.codeWith yL_time cL_time 5 (some .int) [(0, 10, 13, 21)]) (by decide +kernel))
  have hw : wd D y z S A s.heap := hB.1
  have hK : va_K D bCl (bT y) s := hB.2.1
  have hNw := hB.2.2.1
  have hAn : ∀ q : Nat, s.heap.size ≤ q → A q := hB.2.2.2.1
  have hAz : ¬ A z := hB.2.2.2.2.1
  have hO := hB.2.2.2.2.2.1
  have hS : va_S A s.heap s.heap [] := va_S.rf
  have hl := lv_entry ([Value.ref p1, Value.int p2, Value.int p3, Value.ref p4] : List Value) (n := 5) (Nat.le_of_ble_eq_true rfl)
  rw [lg_entry_eq]
  generalize (lg_sl ([Value.ref p1, Value.int p2, Value.int p3, Value.ref p4] : List Value) ++ List.replicate (5 - (lg_sl ([Value.ref p1, Value.int p2, Value.int p3, Value.ref p4] : List Value)).length) Slot.unset).toArray = ls at hl ⊢
  have hl : lv_has ls 5 [(0, .ref p1), (1, .int p2), (2, .int p3), (3, .ref p4)] := hl
  obtain ⟨Q, hQ⟩ : ∃ Q, Q = MQ below (va_Qi post (fun S' t => wd D y z S' A t.heap) A) (([Value.ref p1, Value.int p2, Value.int p3, Value.ref p4] : List Value).toArray) s MC MS A := ⟨_, rfl⟩
  rw [← hQ]
  generalize hR : (headSpec (wsL_time ++ bXl) ({ frames := 10, cells := MC, slots := MS, locals := 444 } : Room)).room = R
  have hRf : 10 ≤ R.frames := by rw [← hR]; exact Nat.le_refl _
  have hRl : 444 ≤ R.locals := by rw [← hR]; exact Nat.le_refl _
  have hRc : R.cells = MC := by rw [← hR]; rfl
  have hRs : R.slots = MS := by rw [← hR]; rfl
  have hret : ∀ (v : Int32) (S : bS) (H : Heap) (locs : List Loc) (pc : Nat) (ls : Array Slot) (cu su : Nat) , post v S → wd D y z S A H → va_S A s.heap H locs → cu ≤ MC → su ≤ MS → decode cL_time pc = .ok (.ireturn, 1) → W p l e R s m (([Value.ref p1, Value.int p2, Value.int p3, Value.ref p4] : List Value).toArray) below meth c H locs cu su Q (F0 m pc ls [.int v]) := by
    intro v S H locs pc ls cu su h hw hS hcu hsu d0
    rw [hQ]; refine W.widen hcu hsu ?_; exact W.iret hx hb hr (fun t ht hW => ⟨⟨v, S, rfl, h, by show wd D y z S A t.heap; rw [ht]; exact hw⟩, hS.F ht⟩) hS.2.2 d0 hlocks
  unfold wp_L_time at h
  have hcu : 0 + MC ≤ MC := by omega
  have hsu : 0 + MS ≤ MS := by omega
  refine lv_aload_n hx hb dL_time_0 rfl (lv_at hl 3 rfl) ?_
  refine lv_iconst (v := (0 : Int32)) hx hb dL_time_1 (by decide) ?_
  refine lv_aload_n hx hb dL_time_2 rfl (lv_at hl 0 rfl) ?_
  refine lv_iload_n hx hb dL_time_3 rfl (lv_at hl 1 rfl) ?_
  refine lv_iload_n hx hb dL_time_4 rfl (lv_at hl 2 rfl) ?_
  obtain ⟨hk1, h⟩ := h
  obtain ⟨k4, n5, hbg1, hbg2, h⟩ := h
  have h1 := h
  refine vx_calli (vx_runV (As := [.int p2, .int p3]) (rest := [.int (0 : Int32), .ref p4]) ⟨hx, hb, hml, hown, hts⟩ (m_X5_time (l := l) hl0 h1) (cwV 2 hts gL_time_X5_time rfl rfl rfl (by decide +kernel) ⟨Nat.le_trans (Nat.le_of_ble_eq_true rfl) hRf, Nat.le_trans (Nat.le_of_ble_eq_true rfl) hRl⟩) (r_pV hB hw hS (ce_7 (S := S) hk1) rfl) rfl rfl hl.1 rfl (lv_room (Nat.le_of_ble_eq_true rfl)) dL_time_5 ⟨by omega, by omega⟩) hS (fun _ _ h => h) (fun _ h => h) (fun _ _ h => h) (fun E ce q9 S3 t H1 locs ht hal _ hq hz9 hk9 hS hq9 hvm9 hfc9 => ?_) (fun r2 S3 t H1 locs ht _ h hw1 _ _ hS => ?_)
  · subst ht
    have hw : wd D y z S3 A t.heap := hq.2
    have h := hq.1
    have hcu : (0 + k4) + (MC - k4) ≤ MC := by omega
    have hsu : (0 + n5) + (MS - n5) ≤ MS := by omega
    by_cases hE0 : E = "java/lang/IndexOutOfBoundsException"
    · have h := h.1 hE0
      rw [hE0] at hfc9
      refine vx_catch (E := "java/lang/IndexOutOfBoundsException") (name := "java/lang/IndexOutOfBoundsException") hown ([] : List ExceptionTableEntry) ⟨0, 10, 13, 21⟩ ([] : List ExceptionTableEntry) (htb.trans rfl) (fun zz hz => absurd hz List.not_mem_nil) (by decide) (by decide) (htx (.classLink RL 21 "java/lang/IndexOutOfBoundsException") (List.mem_append_right _ (by decide))) (va_Nw.use rfl (hNw _ bNw_80)) hq9 hvm9 hfc9 ?_
      refine W.eq (g2 := F0 m 13 ls [.ref q9]) rfl ?_
      refine lv_astore hx hb dL_time_13 hl (by decide) rfl (fun ls hl => ?_)
      have hl : lv_has ls 5 [(4, .ref q9), (0, .ref p1), (1, .int p2), (2, .int p3), (3, .ref p4)] := hl
      refine lv_iconst (v := (1 : Int32)) hx hb dL_time_15 (by decide) ?_
      exact hret (1 : Int32) _ _ _ _ _ _ _ h hw hS (by omega) (by omega) dL_time_16
    exact (h.2 hE0).elim
  subst ht
  have hw : wd D y z S3 A t.heap := hw1
  clear hw1 h1
  have hcu : (0 + k4) + (MC - k4) ≤ MC := by omega
  have hsu : (0 + n5) + (MS - n5) ≤ MS := by omega
  refine lv_i2l (v := (Int32.toInt64 r2)) hx hb dL_time_8 rfl ?_
  obtain ⟨hk6, h⟩ := h
  obtain ⟨hin7, h⟩ := h
  refine r_last hx hb hK hw hS hk6 hin7 dL_time_9 (fun H locs hw hS => ?_)
  refine lv_goto (tgt := 17) hx hb dL_time_10 (by decide) ?_
  refine lv_iconst (v := (0 : Int32)) hx hb dL_time_17 (by decide) ?_
  exact hret (0 : Int32) _ _ _ _ _ _ _ h hw hS (by omega) (by omega) dL_time_18
def wp_L_next (post : Int32 → bS → Prop) (MC MS : Nat) (p1 : Nat) (p2 : Int32) (p3 : Int32) (p4 : Nat) (S : bS) : Prop := gK S p1 = 7 ∧ (∃ k4 n5, k4 ≤ MC ∧ n5 ≤ MS ∧ (wp_X5_next (fun r2 S3 => gK S3 p4 = 13 ∧ (vp_in (0 : Int32) (gN S3 p4) ∧ (post (0 : Int32) (sL S3 p4 (Int32.toNatClampNeg (0 : Int32)) (Int32.toInt64 r2))))) (fun E S3 => (E = "java/lang/IndexOutOfBoundsException" → post (1 : Int32) S3) ∧ (¬ E = "java/lang/IndexOutOfBoundsException" → False)) k4 n5 p1 p2 p3 S))
set_option maxHeartbeats 4000000 in
set_option maxRecDepth 100000 in
theorem m_L_next {l : Launch} {D : va_G} {y : Nat → ClassId} {z : Nat} {A : Nat → Prop} {S : bS} {post : Int32 → bS → Prop} (hl0 : l.stackTraces = false) {MC MS : Nat} {p1 : Nat} {p2 : Int32} {p3 : Int32} {p4 : Nat} (h : wp_L_next post MC MS p1 p2 p3 p4 S) : Met l yL_next (wsL_next ++ bXl) ({ frames := 10, cells := MC, slots := MS, locals := 443 } : Room) (va_Pc ([Value.ref p1, Value.int p2, Value.int p3, Value.ref p4] : List Value) (bP D y z S A)) (va_Qi post (fun S' t => wd D y z S' A t.heap) A) MC MS A := by
  refine va_MetW (cc := cL_next) (maxL := 5) (ret := (some .int)) (by decide) rfl ?_
  intro p e s m args below meth c s₁ B hml hv
  obtain ⟨rfl, hB⟩ := hv
  have hx := B.exec
  have hb := B.bytes
  have hr := B.returns
  have hts := atoms_spec (ws := (wsL_next ++ bXl)) B.pre
  have hown : s.vm.findClass RL = some m.cls := findClass_of_methodNamed B.named
  have hlocks := B.notSynchronized
  have htx := hts
  have hts : ∀ w ∈ wsL_next, w.before _ s = true := fun w h => htx w (List.mem_append_left _ h)
  have htb := vx_table (x := yL_next) B (hts (.codeWith yL_next cL_next 5 (some .int) [(0, 10, 13, 21)]) (by decide +kernel))
  have hw : wd D y z S A s.heap := hB.1
  have hK : va_K D bCl (bT y) s := hB.2.1
  have hNw := hB.2.2.1
  have hAn : ∀ q : Nat, s.heap.size ≤ q → A q := hB.2.2.2.1
  have hAz : ¬ A z := hB.2.2.2.2.1
  have hO := hB.2.2.2.2.2.1
  have hS : va_S A s.heap s.heap [] := va_S.rf
  have hl := lv_entry ([Value.ref p1, Value.int p2, Value.int p3, Value.ref p4] : List Value) (n := 5) (Nat.le_of_ble_eq_true rfl)
  rw [lg_entry_eq]
  generalize (lg_sl ([Value.ref p1, Value.int p2, Value.int p3, Value.ref p4] : List Value) ++ List.replicate (5 - (lg_sl ([Value.ref p1, Value.int p2, Value.int p3, Value.ref p4] : List Value)).length) Slot.unset).toArray = ls at hl ⊢
  have hl : lv_has ls 5 [(0, .ref p1), (1, .int p2), (2, .int p3), (3, .ref p4)] := hl
  obtain ⟨Q, hQ⟩ : ∃ Q, Q = MQ below (va_Qi post (fun S' t => wd D y z S' A t.heap) A) (([Value.ref p1, Value.int p2, Value.int p3, Value.ref p4] : List Value).toArray) s MC MS A := ⟨_, rfl⟩
  rw [← hQ]
  generalize hR : (headSpec (wsL_next ++ bXl) ({ frames := 10, cells := MC, slots := MS, locals := 443 } : Room)).room = R
  have hRf : 10 ≤ R.frames := by rw [← hR]; exact Nat.le_refl _
  have hRl : 443 ≤ R.locals := by rw [← hR]; exact Nat.le_refl _
  have hRc : R.cells = MC := by rw [← hR]; rfl
  have hRs : R.slots = MS := by rw [← hR]; rfl
  have hret : ∀ (v : Int32) (S : bS) (H : Heap) (locs : List Loc) (pc : Nat) (ls : Array Slot) (cu su : Nat) , post v S → wd D y z S A H → va_S A s.heap H locs → cu ≤ MC → su ≤ MS → decode cL_next pc = .ok (.ireturn, 1) → W p l e R s m (([Value.ref p1, Value.int p2, Value.int p3, Value.ref p4] : List Value).toArray) below meth c H locs cu su Q (F0 m pc ls [.int v]) := by
    intro v S H locs pc ls cu su h hw hS hcu hsu d0
    rw [hQ]; refine W.widen hcu hsu ?_; exact W.iret hx hb hr (fun t ht hW => ⟨⟨v, S, rfl, h, by show wd D y z S A t.heap; rw [ht]; exact hw⟩, hS.F ht⟩) hS.2.2 d0 hlocks
  unfold wp_L_next at h
  have hcu : 0 + MC ≤ MC := by omega
  have hsu : 0 + MS ≤ MS := by omega
  refine lv_aload_n hx hb dL_next_0 rfl (lv_at hl 3 rfl) ?_
  refine lv_iconst (v := (0 : Int32)) hx hb dL_next_1 (by decide) ?_
  refine lv_aload_n hx hb dL_next_2 rfl (lv_at hl 0 rfl) ?_
  refine lv_iload_n hx hb dL_next_3 rfl (lv_at hl 1 rfl) ?_
  refine lv_iload_n hx hb dL_next_4 rfl (lv_at hl 2 rfl) ?_
  obtain ⟨hk1, h⟩ := h
  obtain ⟨k4, n5, hbg1, hbg2, h⟩ := h
  have h1 := h
  refine vx_calli (vx_runV (As := [.int p2, .int p3]) (rest := [.int (0 : Int32), .ref p4]) ⟨hx, hb, hml, hown, hts⟩ (m_X5_next (l := l) hl0 h1) (cwV 2 hts gL_next_X5_next rfl rfl rfl (by decide +kernel) ⟨Nat.le_trans (Nat.le_of_ble_eq_true rfl) hRf, Nat.le_trans (Nat.le_of_ble_eq_true rfl) hRl⟩) (r_pV hB hw hS (ce_7 (S := S) hk1) rfl) rfl rfl hl.1 rfl (lv_room (Nat.le_of_ble_eq_true rfl)) dL_next_5 ⟨by omega, by omega⟩) hS (fun _ _ h => h) (fun _ h => h) (fun _ _ h => h) (fun E ce q9 S3 t H1 locs ht hal _ hq hz9 hk9 hS hq9 hvm9 hfc9 => ?_) (fun r2 S3 t H1 locs ht _ h hw1 _ _ hS => ?_)
  · subst ht
    have hw : wd D y z S3 A t.heap := hq.2
    have h := hq.1
    have hcu : (0 + k4) + (MC - k4) ≤ MC := by omega
    have hsu : (0 + n5) + (MS - n5) ≤ MS := by omega
    by_cases hE0 : E = "java/lang/IndexOutOfBoundsException"
    · have h := h.1 hE0
      rw [hE0] at hfc9
      refine vx_catch (E := "java/lang/IndexOutOfBoundsException") (name := "java/lang/IndexOutOfBoundsException") hown ([] : List ExceptionTableEntry) ⟨0, 10, 13, 21⟩ ([] : List ExceptionTableEntry) (htb.trans rfl) (fun zz hz => absurd hz List.not_mem_nil) (by decide) (by decide) (htx (.classLink RL 21 "java/lang/IndexOutOfBoundsException") (List.mem_append_right _ (by decide))) (va_Nw.use rfl (hNw _ bNw_80)) hq9 hvm9 hfc9 ?_
      refine W.eq (g2 := F0 m 13 ls [.ref q9]) rfl ?_
      refine lv_astore hx hb dL_next_13 hl (by decide) rfl (fun ls hl => ?_)
      have hl : lv_has ls 5 [(4, .ref q9), (0, .ref p1), (1, .int p2), (2, .int p3), (3, .ref p4)] := hl
      refine lv_iconst (v := (1 : Int32)) hx hb dL_next_15 (by decide) ?_
      exact hret (1 : Int32) _ _ _ _ _ _ _ h hw hS (by omega) (by omega) dL_next_16
    exact (h.2 hE0).elim
  subst ht
  have hw : wd D y z S3 A t.heap := hw1
  clear hw1 h1
  have hcu : (0 + k4) + (MC - k4) ≤ MC := by omega
  have hsu : (0 + n5) + (MS - n5) ≤ MS := by omega
  refine lv_i2l (v := (Int32.toInt64 r2)) hx hb dL_next_8 rfl ?_
  obtain ⟨hk6, h⟩ := h
  obtain ⟨hin7, h⟩ := h
  refine r_last hx hb hK hw hS hk6 hin7 dL_next_9 (fun H locs hw hS => ?_)
  refine lv_goto (tgt := 17) hx hb dL_next_10 (by decide) ?_
  refine lv_iconst (v := (0 : Int32)) hx hb dL_next_17 (by decide) ?_
  exact hret (0 : Int32) _ _ _ _ _ _ _ h hw hS (by omega) (by omega) dL_next_18
def wp_L_parts (post : Int32 → bS → Prop) (MC MS : Nat) (p1 : Nat) (p2 : Int32) (p3 : Nat) (S : bS) : Prop := gK S p1 = 7 ∧ (∃ k4 n5, k4 ≤ MC ∧ n5 ≤ MS ∧ (wp_X5_parts (fun r2 S3 => gK S3 p3 = 13 ∧ (vp_in (0 : Int32) (gN S3 p3) ∧ (post (0 : Int32) (sL S3 p3 (Int32.toNatClampNeg (0 : Int32)) (Int32.toInt64 r2))))) (fun E S3 => (E = "java/lang/IndexOutOfBoundsException" → post (1 : Int32) S3) ∧ (¬ E = "java/lang/IndexOutOfBoundsException" → False)) k4 n5 p1 p2 S))
set_option maxHeartbeats 4000000 in
set_option maxRecDepth 100000 in
theorem m_L_parts {l : Launch} {D : va_G} {y : Nat → ClassId} {z : Nat} {A : Nat → Prop} {S : bS} {post : Int32 → bS → Prop} (hl0 : l.stackTraces = false) {MC MS : Nat} {p1 : Nat} {p2 : Int32} {p3 : Nat} (h : wp_L_parts post MC MS p1 p2 p3 S) : Met l yL_parts (wsL_parts ++ bXl) ({ frames := 10, cells := MC, slots := MS, locals := 442 } : Room) (va_Pc ([Value.ref p1, Value.int p2, Value.ref p3] : List Value) (bP D y z S A)) (va_Qi post (fun S' t => wd D y z S' A t.heap) A) MC MS A := by
  refine va_MetW (cc := cL_parts) (maxL := 4) (ret := (some .int)) (by decide) rfl ?_
  intro p e s m args below meth c s₁ B hml hv
  obtain ⟨rfl, hB⟩ := hv
  have hx := B.exec
  have hb := B.bytes
  have hr := B.returns
  have hts := atoms_spec (ws := (wsL_parts ++ bXl)) B.pre
  have hown : s.vm.findClass RL = some m.cls := findClass_of_methodNamed B.named
  have hlocks := B.notSynchronized
  have htx := hts
  have hts : ∀ w ∈ wsL_parts, w.before _ s = true := fun w h => htx w (List.mem_append_left _ h)
  have htb := vx_table (x := yL_parts) B (hts (.codeWith yL_parts cL_parts 4 (some .int) [(0, 9, 12, 21)]) (by decide +kernel))
  have hw : wd D y z S A s.heap := hB.1
  have hK : va_K D bCl (bT y) s := hB.2.1
  have hNw := hB.2.2.1
  have hAn : ∀ q : Nat, s.heap.size ≤ q → A q := hB.2.2.2.1
  have hAz : ¬ A z := hB.2.2.2.2.1
  have hO := hB.2.2.2.2.2.1
  have hS : va_S A s.heap s.heap [] := va_S.rf
  have hl := lv_entry ([Value.ref p1, Value.int p2, Value.ref p3] : List Value) (n := 4) (Nat.le_of_ble_eq_true rfl)
  rw [lg_entry_eq]
  generalize (lg_sl ([Value.ref p1, Value.int p2, Value.ref p3] : List Value) ++ List.replicate (4 - (lg_sl ([Value.ref p1, Value.int p2, Value.ref p3] : List Value)).length) Slot.unset).toArray = ls at hl ⊢
  have hl : lv_has ls 4 [(0, .ref p1), (1, .int p2), (2, .ref p3)] := hl
  obtain ⟨Q, hQ⟩ : ∃ Q, Q = MQ below (va_Qi post (fun S' t => wd D y z S' A t.heap) A) (([Value.ref p1, Value.int p2, Value.ref p3] : List Value).toArray) s MC MS A := ⟨_, rfl⟩
  rw [← hQ]
  generalize hR : (headSpec (wsL_parts ++ bXl) ({ frames := 10, cells := MC, slots := MS, locals := 442 } : Room)).room = R
  have hRf : 10 ≤ R.frames := by rw [← hR]; exact Nat.le_refl _
  have hRl : 442 ≤ R.locals := by rw [← hR]; exact Nat.le_refl _
  have hRc : R.cells = MC := by rw [← hR]; rfl
  have hRs : R.slots = MS := by rw [← hR]; rfl
  have hret : ∀ (v : Int32) (S : bS) (H : Heap) (locs : List Loc) (pc : Nat) (ls : Array Slot) (cu su : Nat) , post v S → wd D y z S A H → va_S A s.heap H locs → cu ≤ MC → su ≤ MS → decode cL_parts pc = .ok (.ireturn, 1) → W p l e R s m (([Value.ref p1, Value.int p2, Value.ref p3] : List Value).toArray) below meth c H locs cu su Q (F0 m pc ls [.int v]) := by
    intro v S H locs pc ls cu su h hw hS hcu hsu d0
    rw [hQ]; refine W.widen hcu hsu ?_; exact W.iret hx hb hr (fun t ht hW => ⟨⟨v, S, rfl, h, by show wd D y z S A t.heap; rw [ht]; exact hw⟩, hS.F ht⟩) hS.2.2 d0 hlocks
  unfold wp_L_parts at h
  have hcu : 0 + MC ≤ MC := by omega
  have hsu : 0 + MS ≤ MS := by omega
  refine lv_aload_n hx hb dL_parts_0 rfl (lv_at hl 2 rfl) ?_
  refine lv_iconst (v := (0 : Int32)) hx hb dL_parts_1 (by decide) ?_
  refine lv_aload_n hx hb dL_parts_2 rfl (lv_at hl 0 rfl) ?_
  refine lv_iload_n hx hb dL_parts_3 rfl (lv_at hl 1 rfl) ?_
  obtain ⟨hk1, h⟩ := h
  obtain ⟨k4, n5, hbg1, hbg2, h⟩ := h
  have h1 := h
  refine vx_calli (vx_runV (As := [.int p2]) (rest := [.int (0 : Int32), .ref p3]) ⟨hx, hb, hml, hown, hts⟩ (m_X5_parts (l := l) hl0 h1) (cwV 1 hts gL_parts_X5_parts rfl rfl rfl (by decide +kernel) ⟨Nat.le_trans (Nat.le_of_ble_eq_true rfl) hRf, Nat.le_trans (Nat.le_of_ble_eq_true rfl) hRl⟩) (r_pV hB hw hS (ce_7 (S := S) hk1) rfl) rfl rfl hl.1 rfl (lv_room (Nat.le_of_ble_eq_true rfl)) dL_parts_4 ⟨by omega, by omega⟩) hS (fun _ _ h => h) (fun _ h => h) (fun _ _ h => h) (fun E ce q9 S3 t H1 locs ht hal _ hq hz9 hk9 hS hq9 hvm9 hfc9 => ?_) (fun r2 S3 t H1 locs ht _ h hw1 _ _ hS => ?_)
  · subst ht
    have hw : wd D y z S3 A t.heap := hq.2
    have h := hq.1
    have hcu : (0 + k4) + (MC - k4) ≤ MC := by omega
    have hsu : (0 + n5) + (MS - n5) ≤ MS := by omega
    by_cases hE0 : E = "java/lang/IndexOutOfBoundsException"
    · have h := h.1 hE0
      rw [hE0] at hfc9
      refine vx_catch (E := "java/lang/IndexOutOfBoundsException") (name := "java/lang/IndexOutOfBoundsException") hown ([] : List ExceptionTableEntry) ⟨0, 9, 12, 21⟩ ([] : List ExceptionTableEntry) (htb.trans rfl) (fun zz hz => absurd hz List.not_mem_nil) (by decide) (by decide) (htx (.classLink RL 21 "java/lang/IndexOutOfBoundsException") (List.mem_append_right _ (by decide))) (va_Nw.use rfl (hNw _ bNw_80)) hq9 hvm9 hfc9 ?_
      refine W.eq (g2 := F0 m 12 ls [.ref q9]) rfl ?_
      refine lv_astore_n hx hb dL_parts_12 rfl hl (by decide) rfl (fun ls hl => ?_)
      have hl : lv_has ls 4 [(3, .ref q9), (0, .ref p1), (1, .int p2), (2, .ref p3)] := hl
      refine lv_iconst (v := (1 : Int32)) hx hb dL_parts_13 (by decide) ?_
      exact hret (1 : Int32) _ _ _ _ _ _ _ h hw hS (by omega) (by omega) dL_parts_14
    exact (h.2 hE0).elim
  subst ht
  have hw : wd D y z S3 A t.heap := hw1
  clear hw1 h1
  have hcu : (0 + k4) + (MC - k4) ≤ MC := by omega
  have hsu : (0 + n5) + (MS - n5) ≤ MS := by omega
  refine lv_i2l (v := (Int32.toInt64 r2)) hx hb dL_parts_7 rfl ?_
  obtain ⟨hk6, h⟩ := h
  obtain ⟨hin7, h⟩ := h
  refine r_last hx hb hK hw hS hk6 hin7 dL_parts_8 (fun H locs hw hS => ?_)
  refine lv_goto (tgt := 15) hx hb dL_parts_9 (by decide) ?_
  refine lv_iconst (v := (0 : Int32)) hx hb dL_parts_15 (by decide) ?_
  exact hret (0 : Int32) _ _ _ _ _ _ _ h hw hS (by omega) (by omega) dL_parts_16
