def wp_X6_through (post : Int32 → bS → Prop) (this : Nat) (p1 : Int32) (S : bS) : Prop := gK S this = 8 ∧ (wp_X6_tu (fun r2 S3 => gK S3 this = 8 ∧ (wp_X6_tu (fun r5 S6 => gK S6 this = 8 ∧ (wp_X6_tu (fun r8 S9 => ¬ r8 = 0 ∧ (post (((r2 + r5) - (1 : Int32)) / r8) S9)) this p1 (3 : Int32) S6)) this p1 (3 : Int32) S3)) this p1 (2 : Int32) S)
set_option maxHeartbeats 4000000 in
set_option maxRecDepth 100000 in
theorem m_X6_through {l : Launch} {D : va_G} {y : Nat → ClassId} {z : Nat} {A : Nat → Prop} {S : bS} {post : Int32 → bS → Prop} {this : Nat} {p1 : Int32} (h : wp_X6_through post this p1 S) : Met l yX6_through wsX6_through ({ frames := 1, cells := 0, slots := 0, locals := 22 } : Room) (va_Pc ([Value.ref this, Value.int p1] : List Value) (bP D y z S A)) (va_Qi post (fun S' t => wd D y z S' A t.heap) A) 0 0 A := by
  refine Met.ofW (cc := cX6_through) (maxL := 2) (ret := (some .int)) (by decide) rfl ?_
  intro p e s m args below meth c s₁ B hml hv
  obtain ⟨rfl, hB⟩ := hv
  have hx := B.exec
  have hb := B.bytes
  have hr := B.returns
  have hts := atoms_spec (ws := wsX6_through) B.pre
  have hown : s.vm.findClass RX6 = some m.cls := findClass_of_methodNamed B.named
  have hlocks := B.notSynchronized
  have hw : wd D y z S A s.heap := hB.1
  have hK : va_K D bCl (bT y) s := hB.2.1
  have hNw := hB.2.2.1
  have hAn : ∀ q : Nat, s.heap.size ≤ q → A q := hB.2.2.2.1
  have hAz : ¬ A z := hB.2.2.2.2.1
  have hO := hB.2.2.2.2.2.1
  have hS : va_S A s.heap s.heap [] := va_S.rf
  have hl := lv_entry ([Value.ref this, Value.int p1] : List Value) (n := 2) (Nat.le_of_ble_eq_true rfl)
  rw [lg_entry_eq]
  generalize (lg_sl ([Value.ref this, Value.int p1] : List Value) ++ List.replicate (2 - (lg_sl ([Value.ref this, Value.int p1] : List Value)).length) Slot.unset).toArray = ls at hl ⊢
  have hl : lv_has ls 2 [(0, .ref this), (1, .int p1)] := hl
  obtain ⟨Q, hQ⟩ : ∃ Q, Q = MQ below (va_Qi post (fun S' t => wd D y z S' A t.heap) A) (([Value.ref this, Value.int p1] : List Value).toArray) s 0 0 A := ⟨_, rfl⟩
  rw [← hQ]
  generalize hR : (headSpec wsX6_through ({ frames := 1, cells := 0, slots := 0, locals := 22 } : Room)).room = R
  have hRf : 1 ≤ R.frames := by rw [← hR]; exact Nat.le_refl _
  have hRl : 22 ≤ R.locals := by rw [← hR]; exact Nat.le_refl _
  have hret : ∀ (v : Int32) (S : bS) (H : Heap) (locs : List Loc) (pc : Nat) (ls : Array Slot) , post v S → wd D y z S A H → va_S A s.heap H locs → decode cX6_through pc = .ok (.ireturn, 1) → W p l e R s m (([Value.ref this, Value.int p1] : List Value).toArray) below meth c H locs 0 0 Q (F0 m pc ls [.int v]) := by
    intro v S H locs pc ls h hw hS d0
    rw [hQ]; exact W.iret hx hb hr (fun t ht hW => ⟨⟨v, S, rfl, h, by show wd D y z S A t.heap; rw [ht]; exact hw⟩, hS.F ht⟩) hS.2.2 d0 hlocks
  unfold wp_X6_through at h
  refine lv_aload_n hx hb dX6_through_0 rfl (lv_at hl 0 rfl) ?_
  refine lv_iload_n hx hb dX6_through_1 rfl (lv_at hl 1 rfl) ?_
  refine lv_iconst (v := (2 : Int32)) hx hb dX6_through_2 (by decide) ?_
  obtain ⟨hk1, h⟩ := h
  have h1 := h
  refine va_calli (va_runV (As := [.int p1, .int (2 : Int32)]) (rest := []) ⟨hx, hb, hml, hown, hts⟩ (m_X6_tu (l := l) h1) (cwV 2 hts gX6_through_X6_tu rfl rfl rfl (by decide +kernel) ⟨Nat.le_trans (Nat.le_of_ble_eq_true rfl) hRf, Nat.le_trans (Nat.le_of_ble_eq_true rfl) hRl⟩) (r_pV hB hw hS (ce_8 (S := S) hk1) rfl) rfl rfl hl.1 rfl (lv_room (Nat.le_of_ble_eq_true rfl)) dX6_through_3 ⟨Nat.zero_le _, Nat.zero_le _⟩) hS (fun _ _ h => h) (fun _ h => h) (fun r2 S3 t H1 locs ht _ h hw1 _ _ hS => ?_)
  subst ht
  have hw : wd D y z S3 A t.heap := hw1
  clear hw1 h1
  refine lv_aload_n hx hb dX6_through_6 rfl (lv_at hl 0 rfl) ?_
  refine lv_iload_n hx hb dX6_through_7 rfl (lv_at hl 1 rfl) ?_
  refine lv_iconst (v := (3 : Int32)) hx hb dX6_through_8 (by decide) ?_
  obtain ⟨hk4, h⟩ := h
  have h1 := h
  refine va_calli (va_runV (As := [.int p1, .int (3 : Int32)]) (rest := [.int r2]) ⟨hx, hb, hml, hown, hts⟩ (m_X6_tu (l := l) h1) (cwV 2 hts gX6_through_X6_tu rfl rfl rfl (by decide +kernel) ⟨Nat.le_trans (Nat.le_of_ble_eq_true rfl) hRf, Nat.le_trans (Nat.le_of_ble_eq_true rfl) hRl⟩) (r_pV hB hw hS (ce_8 (S := S3) hk4) rfl) rfl rfl hl.1 rfl (lv_room (Nat.le_of_ble_eq_true rfl)) dX6_through_9 ⟨Nat.zero_le _, Nat.zero_le _⟩) hS (fun _ _ h => h) (fun _ h => h) (fun r5 S6 t H1 locs ht _ h hw1 _ _ hS => ?_)
  subst ht
  have hw : wd D y z S6 A t.heap := hw1
  clear hw1 h1
  refine lv_iadd hx hb dX6_through_12 ?_
  refine lv_iconst (v := (1 : Int32)) hx hb dX6_through_13 (by decide) ?_
  refine lv_isub hx hb dX6_through_14 ?_
  refine lv_aload_n hx hb dX6_through_15 rfl (lv_at hl 0 rfl) ?_
  refine lv_iload_n hx hb dX6_through_16 rfl (lv_at hl 1 rfl) ?_
  refine lv_iconst (v := (3 : Int32)) hx hb dX6_through_17 (by decide) ?_
  obtain ⟨hk7, h⟩ := h
  have h1 := h
  refine va_calli (va_runV (As := [.int p1, .int (3 : Int32)]) (rest := [.int ((r2 + r5) - (1 : Int32))]) ⟨hx, hb, hml, hown, hts⟩ (m_X6_tu (l := l) h1) (cwV 2 hts gX6_through_X6_tu rfl rfl rfl (by decide +kernel) ⟨Nat.le_trans (Nat.le_of_ble_eq_true rfl) hRf, Nat.le_trans (Nat.le_of_ble_eq_true rfl) hRl⟩) (r_pV hB hw hS (ce_8 (S := S6) hk7) rfl) rfl rfl hl.1 rfl (lv_room (Nat.le_of_ble_eq_true rfl)) dX6_through_18 ⟨Nat.zero_le _, Nat.zero_le _⟩) hS (fun _ _ h => h) (fun _ h => h) (fun r8 S9 t H1 locs ht _ h hw1 _ _ hS => ?_)
  subst ht
  have hw : wd D y z S9 A t.heap := hw1
  clear hw1 h1
  obtain ⟨hne, h⟩ := h
  refine lv_idiv hx hb dX6_through_21 hne ?_
  exact hret (((r2 + r5) - (1 : Int32)) / r8) _ _ _ _ _ h hw hS dX6_through_22
def wb_X6_timeBy_26 (post : Int32 → bS → Prop) (S : bS) : Prop := post (-1 : Int32) S
def wb_X6_timeBy_55 (post : Int32 → bS → Prop) (s0 : Int32) (s1 : Int32) (S : bS) : Prop := post (s1 + s0) S
def wp_X6_timeBy (post : Int32 → bS → Prop) (this : Nat) (p1 : Int32) (p2 : Int32) (S : bS) : Prop := gK S this = 8 ∧ (wp_X6_tu (fun r2 S3 => gK S3 this = 8 ∧ (wp_X6_tu (fun r5 S6 => (r5 = (0 : Int32) → wb_X6_timeBy_26 post S6) ∧ (¬ (r5 = (0 : Int32)) → gK S6 this = 8 ∧ (∃ b8, gQ S6 8 this 15 = some b8 ∧ (gK S6 b8 = 9 ∧ (vp_in r2 (gN S6 b8) ∧ (((gV S6 9 b8 (Int32.toNatClampNeg r2)) ≠ (-1 : Int32) → wp_X6_through (fun r12 S13 => gK S13 this = 8 ∧ (∃ b15, gQ S13 8 this 15 = some b15 ∧ (gK S13 b15 = 9 ∧ (vp_in r2 (gN S13 b15) ∧ ((r2 ≠ p2 → wp_X6_st (fun r19 S20 => wb_X6_timeBy_55 post r19 (r12 + (gV S13 9 b15 (Int32.toNatClampNeg r2))) S20) this r2 (1 : Int32) S13) ∧ (r2 = p2 → wb_X6_timeBy_55 post (0 : Int32) (r12 + (gV S13 9 b15 (Int32.toNatClampNeg r2))) S13)))))) this p1 S6) ∧ ((gV S6 9 b8 (Int32.toNatClampNeg r2)) = (-1 : Int32) → wb_X6_timeBy_26 post S6))))))) this p1 (5 : Int32) S3)) this p1 (1 : Int32) S)
set_option maxHeartbeats 4000000 in
set_option maxRecDepth 100000 in
theorem m_X6_timeBy {l : Launch} {D : va_G} {y : Nat → ClassId} {z : Nat} {A : Nat → Prop} {S : bS} {post : Int32 → bS → Prop} {this : Nat} {p1 : Int32} {p2 : Int32} (h : wp_X6_timeBy post this p1 p2 S) : Met l yX6_timeBy wsX6_timeBy ({ frames := 2, cells := 0, slots := 0, locals := 43 } : Room) (va_Pc ([Value.ref this, Value.int p1, Value.int p2] : List Value) (bP D y z S A)) (va_Qi post (fun S' t => wd D y z S' A t.heap) A) 0 0 A := by
  refine Met.ofW (cc := cX6_timeBy) (maxL := 4) (ret := (some .int)) (by decide) rfl ?_
  intro p e s m args below meth c s₁ B hml hv
  obtain ⟨rfl, hB⟩ := hv
  have hx := B.exec
  have hb := B.bytes
  have hr := B.returns
  have hts := atoms_spec (ws := wsX6_timeBy) B.pre
  have hown : s.vm.findClass RX6 = some m.cls := findClass_of_methodNamed B.named
  have hlocks := B.notSynchronized
  have hw : wd D y z S A s.heap := hB.1
  have hK : va_K D bCl (bT y) s := hB.2.1
  have hNw := hB.2.2.1
  have hAn : ∀ q : Nat, s.heap.size ≤ q → A q := hB.2.2.2.1
  have hAz : ¬ A z := hB.2.2.2.2.1
  have hO := hB.2.2.2.2.2.1
  have hS : va_S A s.heap s.heap [] := va_S.rf
  have hiX6 : ∀ w ∈ u_ws RX6 TX6 17, w ∈ wsX6_timeBy := by decide +kernel
  have hl := lv_entry ([Value.ref this, Value.int p1, Value.int p2] : List Value) (n := 4) (Nat.le_of_ble_eq_true rfl)
  rw [lg_entry_eq]
  generalize (lg_sl ([Value.ref this, Value.int p1, Value.int p2] : List Value) ++ List.replicate (4 - (lg_sl ([Value.ref this, Value.int p1, Value.int p2] : List Value)).length) Slot.unset).toArray = ls at hl ⊢
  have hl : lv_has ls 4 [(0, .ref this), (1, .int p1), (2, .int p2)] := hl
  obtain ⟨Q, hQ⟩ : ∃ Q, Q = MQ below (va_Qi post (fun S' t => wd D y z S' A t.heap) A) (([Value.ref this, Value.int p1, Value.int p2] : List Value).toArray) s 0 0 A := ⟨_, rfl⟩
  rw [← hQ]
  generalize hR : (headSpec wsX6_timeBy ({ frames := 2, cells := 0, slots := 0, locals := 43 } : Room)).room = R
  have hRf : 2 ≤ R.frames := by rw [← hR]; exact Nat.le_refl _
  have hRl : 43 ≤ R.locals := by rw [← hR]; exact Nat.le_refl _
  have hret : ∀ (v : Int32) (S : bS) (H : Heap) (locs : List Loc) (pc : Nat) (ls : Array Slot) , post v S → wd D y z S A H → va_S A s.heap H locs → decode cX6_timeBy pc = .ok (.ireturn, 1) → W p l e R s m (([Value.ref this, Value.int p1, Value.int p2] : List Value).toArray) below meth c H locs 0 0 Q (F0 m pc ls [.int v]) := by
    intro v S H locs pc ls h hw hS d0
    rw [hQ]; exact W.iret hx hb hr (fun t ht hW => ⟨⟨v, S, rfl, h, by show wd D y z S A t.heap; rw [ht]; exact hw⟩, hS.F ht⟩) hS.2.2 d0 hlocks
  have hB26 : ∀ (S : bS) (H : Heap) (locs : List Loc) (ls : Array Slot) , wb_X6_timeBy_26 post S → wd D y z S A H → va_S A s.heap H locs → lv_has ls 4 [] → W p l e R s m (([Value.ref this, Value.int p1, Value.int p2] : List Value).toArray) below meth c H locs 0 0 Q (F0 m 26 ls []) := by
    intro S H locs ls  h hw hS hl
    unfold wb_X6_timeBy_26 at h
    refine lv_iconst (v := (-1 : Int32)) hx hb dX6_timeBy_26 (by decide) ?_
    exact hret (-1 : Int32) _ _ _ _ _ h hw hS dX6_timeBy_27
  have hB55 : ∀ (S : bS) (H : Heap) (locs : List Loc) (ls : Array Slot) (s0 : Int32) (s1 : Int32), wb_X6_timeBy_55 post s0 s1 S → wd D y z S A H → va_S A s.heap H locs → lv_has ls 4 [] → W p l e R s m (([Value.ref this, Value.int p1, Value.int p2] : List Value).toArray) below meth c H locs 0 0 Q (F0 m 55 ls [.int s0, .int s1]) := by
    intro S H locs ls s0 s1 h hw hS hl
    unfold wb_X6_timeBy_55 at h
    refine lv_iadd hx hb dX6_timeBy_55 ?_
    exact hret (s1 + s0) _ _ _ _ _ h hw hS dX6_timeBy_56
  unfold wp_X6_timeBy at h
  refine lv_aload_n hx hb dX6_timeBy_0 rfl (lv_at hl 0 rfl) ?_
  refine lv_iload_n hx hb dX6_timeBy_1 rfl (lv_at hl 1 rfl) ?_
  refine lv_iconst (v := (1 : Int32)) hx hb dX6_timeBy_2 (by decide) ?_
  obtain ⟨hk1, h⟩ := h
  have h1 := h
  refine va_calli (va_runV (As := [.int p1, .int (1 : Int32)]) (rest := []) ⟨hx, hb, hml, hown, hts⟩ (m_X6_tu (l := l) h1) (cwV 2 hts gX6_timeBy_X6_tu rfl rfl rfl (by decide +kernel) ⟨Nat.le_trans (Nat.le_of_ble_eq_true rfl) hRf, Nat.le_trans (Nat.le_of_ble_eq_true rfl) hRl⟩) (r_pV hB hw hS (ce_8 (S := S) hk1) rfl) rfl rfl hl.1 rfl (lv_room (Nat.le_of_ble_eq_true rfl)) dX6_timeBy_3 ⟨Nat.zero_le _, Nat.zero_le _⟩) hS (fun _ _ h => h) (fun _ h => h) (fun r2 S3 t H1 locs ht _ h hw1 _ _ hS => ?_)
  subst ht
  have hw : wd D y z S3 A t.heap := hw1
  clear hw1 h1
  refine lv_istore_n hx hb dX6_timeBy_6 rfl hl (by decide) rfl (fun ls hl => ?_)
  have hl : lv_has ls 4 [(3, .int r2), (0, .ref this), (1, .int p1), (2, .int p2)] := hl
  refine lv_aload_n hx hb dX6_timeBy_7 rfl (lv_at hl 1 rfl) ?_
  refine lv_iload_n hx hb dX6_timeBy_8 rfl (lv_at hl 2 rfl) ?_
  refine lv_iconst (v := (5 : Int32)) hx hb dX6_timeBy_9 (by decide) ?_
  obtain ⟨hk4, h⟩ := h
  have h1 := h
  refine va_calli (va_runV (As := [.int p1, .int (5 : Int32)]) (rest := []) ⟨hx, hb, hml, hown, hts⟩ (m_X6_tu (l := l) h1) (cwV 2 hts gX6_timeBy_X6_tu rfl rfl rfl (by decide +kernel) ⟨Nat.le_trans (Nat.le_of_ble_eq_true rfl) hRf, Nat.le_trans (Nat.le_of_ble_eq_true rfl) hRl⟩) (r_pV hB hw hS (ce_8 (S := S3) hk4) rfl) rfl rfl hl.1 rfl (lv_room (Nat.le_of_ble_eq_true rfl)) dX6_timeBy_10 ⟨Nat.zero_le _, Nat.zero_le _⟩) hS (fun _ _ h => h) (fun _ h => h) (fun r5 S6 t H1 locs ht _ h hw1 _ _ hS => ?_)
  subst ht
  have hw : wd D y z S6 A t.heap := hw1
  clear hw1 h1
  refine lv_if_eq (tgt := 26) hx hb dX6_timeBy_13 (by decide) (fun hc => ?_) (fun hc => ?_)
  · have h := h.1 hc
    exact hB26 _ _ _ _ h hw hS (lv_sub hl [] rfl)
  · have h := h.2 hc
    refine lv_aload_n hx hb dX6_timeBy_16 rfl (lv_at hl 1 rfl) ?_
    obtain ⟨hk7, h⟩ := h
    obtain ⟨b8, hb9, h⟩ := h
    refine r_get (ci := 7) (v := .ref b8) (C := RX6) (T := TX6) (N := 17) hx hb hts hiX6 hown hK hw (ce_8 (S := S6) hk7) rfl 15 (by decide) (hts (.fieldLink RX6 25 "TubePostModel" "times" "[I") (by decide +kernel)) (fun _ h9 => h9) (congrArg (fun q => some (va_rf q)) hb9) dX6_timeBy_17 ?_
    refine lv_iload_n hx hb dX6_timeBy_20 rfl (lv_at hl 0 rfl) ?_
    obtain ⟨hk10, h⟩ := h
    obtain ⟨hin11, h⟩ := h
    refine r_iald hx hb hK hw hk10 hin11 dX6_timeBy_21 ?_
    refine lv_iconst (v := (-1 : Int32)) hx hb dX6_timeBy_22 (by decide) ?_
    refine lv_icmp_ne (tgt := 28) hx hb dX6_timeBy_23 (by decide) (fun hc => ?_) (fun hc => ?_)
    · have h := h.1 hc
      refine lv_aload_n hx hb dX6_timeBy_28 rfl (lv_at hl 1 rfl) ?_
      refine lv_iload_n hx hb dX6_timeBy_29 rfl (lv_at hl 2 rfl) ?_
      have h1 := h
      refine va_calli (va_runV (As := [.int p1]) (rest := []) ⟨hx, hb, hml, hown, hts⟩ (m_X6_through (l := l) h1) (cwV 1 hts gX6_timeBy_X6_through rfl rfl rfl (by decide +kernel) ⟨Nat.le_trans (Nat.le_of_ble_eq_true rfl) hRf, Nat.le_trans (Nat.le_of_ble_eq_true rfl) hRl⟩) (r_pV hB hw hS (ce_8 (S := S6) hk7) rfl) rfl rfl hl.1 rfl (lv_room (Nat.le_of_ble_eq_true rfl)) dX6_timeBy_30 ⟨Nat.zero_le _, Nat.zero_le _⟩) hS (fun _ _ h => h) (fun _ h => h) (fun r12 S13 t H1 locs ht _ h hw1 _ _ hS => ?_)
      subst ht
      have hw : wd D y z S13 A t.heap := hw1
      clear hw1 h1
      refine lv_aload_n hx hb dX6_timeBy_33 rfl (lv_at hl 1 rfl) ?_
      obtain ⟨hk14, h⟩ := h
      obtain ⟨b15, hb16, h⟩ := h
      refine r_get (ci := 7) (v := .ref b15) (C := RX6) (T := TX6) (N := 17) hx hb hts hiX6 hown hK hw (ce_8 (S := S13) hk14) rfl 15 (by decide) (hts (.fieldLink RX6 25 "TubePostModel" "times" "[I") (by decide +kernel)) (fun _ h9 => h9) (congrArg (fun q => some (va_rf q)) hb16) dX6_timeBy_34 ?_
      refine lv_iload_n hx hb dX6_timeBy_37 rfl (lv_at hl 0 rfl) ?_
      obtain ⟨hk17, h⟩ := h
      obtain ⟨hin18, h⟩ := h
      refine r_iald hx hb hK hw hk17 hin18 dX6_timeBy_38 ?_
      refine lv_iadd hx hb dX6_timeBy_39 ?_
      refine lv_iload_n hx hb dX6_timeBy_40 rfl (lv_at hl 0 rfl) ?_
      refine lv_iload_n hx hb dX6_timeBy_41 rfl (lv_at hl 3 rfl) ?_
      refine lv_icmp_ne (tgt := 49) hx hb dX6_timeBy_42 (by decide) (fun hc => ?_) (fun hc => ?_)
      · have h := h.1 hc
        refine lv_aload_n hx hb dX6_timeBy_49 rfl (lv_at hl 1 rfl) ?_
        refine lv_iload_n hx hb dX6_timeBy_50 rfl (lv_at hl 0 rfl) ?_
        refine lv_iconst (v := (1 : Int32)) hx hb dX6_timeBy_51 (by decide) ?_
        have h1 := h
        refine va_calli (va_runV (As := [.int r2, .int (1 : Int32)]) (rest := [.int (r12 + (gV S13 9 b15 (Int32.toNatClampNeg r2)))]) ⟨hx, hb, hml, hown, hts⟩ (m_X6_st (l := l) h1) (cwV 2 hts gX6_timeBy_X6_st rfl rfl rfl (by decide +kernel) ⟨Nat.le_trans (Nat.le_of_ble_eq_true rfl) hRf, Nat.le_trans (Nat.le_of_ble_eq_true rfl) hRl⟩) (r_pV hB hw hS (ce_8 (S := S13) hk14) rfl) rfl rfl hl.1 rfl (lv_room (Nat.le_of_ble_eq_true rfl)) dX6_timeBy_52 ⟨Nat.zero_le _, Nat.zero_le _⟩) hS (fun _ _ h => h) (fun _ h => h) (fun r19 S20 t H1 locs ht _ h hw1 _ _ hS => ?_)
        subst ht
        have hw : wd D y z S20 A t.heap := hw1
        clear hw1 h1
        exact hB55 _ _ _ _ _ _ h hw hS (lv_sub hl [] rfl)
      · have h := h.2 hc
        refine lv_iconst (v := (0 : Int32)) hx hb dX6_timeBy_45 (by decide) ?_
        refine lv_goto (tgt := 55) hx hb dX6_timeBy_46 (by decide) ?_
        exact hB55 _ _ _ _ _ _ h hw hS (lv_sub hl [] rfl)
    · have h := h.2 hc
      exact hB26 _ _ _ _ h hw hS (lv_sub hl [] rfl)
def wb_X6_findTimes_109 (post : bS → Prop) (rec34 : Nat → Int32 → Int32 → bS → Prop) (rec42 : Nat → Int32 → Int32 → Int32 → bS → Prop) (v0 : Nat) (v1 : Int32) (v2 : Int32) (v3 : Int32) (S : bS) : Prop := rec42 v0 v1 v2 (v3 + (1 : Int32)) S
def wb_X6_findTimes_98 (post : bS → Prop) (rec34 : Nat → Int32 → Int32 → bS → Prop) (rec42 : Nat → Int32 → Int32 → Int32 → bS → Prop) (v0 : Nat) (v1 : Int32) (v3 : Int32) (v4 : Int32) (v5 : Int32) (S : bS) : Prop := gK S v0 = 8 ∧ (∃ b22, gQ S 8 v0 15 = some b22 ∧ (gK S b22 = 9 ∧ (vp_in v4 (gN S b22) ∧ (wb_X6_findTimes_109 post rec34 rec42 v0 v1 (1 : Int32) v3 (sV S 9 b22 (Int32.toNatClampNeg v4) v5)))))
def wb_X6_findTimes_42 (post : bS → Prop) (rec34 : Nat → Int32 → Int32 → bS → Prop) : Nat → Nat → Int32 → Int32 → Int32 → bS → Prop
  | 0, _, _, _, _, _ => False
  | n + 1, v0, v1, v2, v3, S => gK S v0 = 8 ∧ (((gV S 8 v0 3) ≤ v3 → rec34 v0 v1 v2 S) ∧ (¬ ((gV S 8 v0 3) ≤ v3) → wp_X6_tu (fun r7 S8 => gK S8 v0 = 8 ∧ (wp_X6_timeBy (fun r10 S11 => (r10 = (-1 : Int32) → wb_X6_findTimes_109 post rec34 (wb_X6_findTimes_42 post rec34 n) v0 v1 v2 v3 S11) ∧ (¬ (r10 = (-1 : Int32)) → gK S11 v0 = 8 ∧ (∃ b13, gQ S11 8 v0 15 = some b13 ∧ (gK S11 b13 = 9 ∧ (vp_in r7 (gN S11 b13) ∧ (((gV S11 9 b13 (Int32.toNatClampNeg r7)) = (-1 : Int32) → wb_X6_findTimes_98 post rec34 (wb_X6_findTimes_42 post rec34 n) v0 v1 v3 r7 r10 S11) ∧ (¬ ((gV S11 9 b13 (Int32.toNatClampNeg r7)) = (-1 : Int32)) → ∃ b17, gQ S11 8 v0 15 = some b17 ∧ (gK S11 b17 = 9 ∧ (vp_in r7 (gN S11 b17) ∧ ((r10 < (gV S11 9 b17 (Int32.toNatClampNeg r7)) → wb_X6_findTimes_98 post rec34 (wb_X6_findTimes_42 post rec34 n) v0 v1 v3 r7 r10 S11) ∧ (¬ (r10 < (gV S11 9 b17 (Int32.toNatClampNeg r7))) → wb_X6_findTimes_109 post rec34 (wb_X6_findTimes_42 post rec34 n) v0 v1 v2 v3 S11))))))))))) v0 v3 v1 S8)) v0 v3 (0 : Int32) S))
def wb_X6_findTimes_34 (post : bS → Prop) : Nat → Nat → Int32 → Int32 → bS → Prop
  | 0, _, _, _, _ => False
  | n + 1, v0, v1, v2, S => (v2 = (0 : Int32) → post S) ∧ (¬ (v2 = (0 : Int32)) → ∃ n42, wb_X6_findTimes_42 post (wb_X6_findTimes_34 post n) n42 v0 v1 (0 : Int32) (0 : Int32) S)
def wb_X6_findTimes_25 (post : bS → Prop) (rec2 : Nat → Int32 → Int32 → bS → Prop) (v0 : Nat) (v1 : Int32) (v2 : Int32) (s0 : Int32) (s1 : Int32) (s2 : Nat) (S : bS) : Prop := gK S s2 = 9 ∧ (vp_in s1 (gN S s2) ∧ (rec2 v0 v1 (v2 + (1 : Int32)) (sV S 9 s2 (Int32.toNatClampNeg s1) s0)))
def wb_X6_findTimes_2 (post : bS → Prop) : Nat → Nat → Int32 → Int32 → bS → Prop
  | 0, _, _, _, _ => False
  | n + 1, v0, v1, v2, S => gK S v0 = 8 ∧ (((gV S 8 v0 2) ≤ v2 → ∃ n34, wb_X6_findTimes_34 post n34 v0 v1 (1 : Int32) S) ∧ (¬ ((gV S 8 v0 2) ≤ v2) → ∃ b2, gQ S 8 v0 15 = some b2 ∧ ((v2 ≠ v1 → wb_X6_findTimes_25 post (wb_X6_findTimes_2 post n) v0 v1 v2 (-1 : Int32) v2 b2 S) ∧ (v2 = v1 → wb_X6_findTimes_25 post (wb_X6_findTimes_2 post n) v0 v1 v2 (0 : Int32) v2 b2 S))))
def wp_X6_findTimes (post : bS → Prop) (this : Nat) (p1 : Int32) (S : bS) : Prop := ∃ n2, wb_X6_findTimes_2 post n2 this p1 (0 : Int32) S
set_option maxHeartbeats 4000000 in
set_option maxRecDepth 100000 in
theorem m_X6_findTimes {l : Launch} {D : va_G} {y : Nat → ClassId} {z : Nat} {A : Nat → Prop} {S : bS} {post : bS → Prop} {this : Nat} {p1 : Int32} (h : wp_X6_findTimes post this p1 S) : Met l yX6_findTimes wsX6_findTimes ({ frames := 3, cells := 0, slots := 0, locals := 66 } : Room) (va_Pc ([Value.ref this, Value.int p1] : List Value) (bP D y z S A)) (va_Qv post (fun S' t => wd D y z S' A t.heap) A) 0 0 A := by
  refine Met.ofW (cc := cX6_findTimes) (maxL := 6) (ret := none) (by decide) rfl ?_
  intro p e s m args below meth c s₁ B hml hv
  obtain ⟨rfl, hB⟩ := hv
  have hx := B.exec
  have hb := B.bytes
  have hr := B.returns
  have hts := atoms_spec (ws := wsX6_findTimes) B.pre
  have hown : s.vm.findClass RX6 = some m.cls := findClass_of_methodNamed B.named
  have hlocks := B.notSynchronized
  have hw : wd D y z S A s.heap := hB.1
  have hK : va_K D bCl (bT y) s := hB.2.1
  have hNw := hB.2.2.1
  have hAn : ∀ q : Nat, s.heap.size ≤ q → A q := hB.2.2.2.1
  have hAz : ¬ A z := hB.2.2.2.2.1
  have hO := hB.2.2.2.2.2.1
  have hS : va_S A s.heap s.heap [] := va_S.rf
  have hiX6 : ∀ w ∈ u_ws RX6 TX6 17, w ∈ wsX6_findTimes := by decide +kernel
  have hl := lv_entry ([Value.ref this, Value.int p1] : List Value) (n := 6) (Nat.le_of_ble_eq_true rfl)
  rw [lg_entry_eq]
  generalize (lg_sl ([Value.ref this, Value.int p1] : List Value) ++ List.replicate (6 - (lg_sl ([Value.ref this, Value.int p1] : List Value)).length) Slot.unset).toArray = ls at hl ⊢
  have hl : lv_has ls 6 [(0, .ref this), (1, .int p1)] := hl
  obtain ⟨Q, hQ⟩ : ∃ Q, Q = MQ below (va_Qv post (fun S' t => wd D y z S' A t.heap) A) (([Value.ref this, Value.int p1] : List Value).toArray) s 0 0 A := ⟨_, rfl⟩
  rw [← hQ]
  generalize hR : (headSpec wsX6_findTimes ({ frames := 3, cells := 0, slots := 0, locals := 66 } : Room)).room = R
  have hRf : 3 ≤ R.frames := by rw [← hR]; exact Nat.le_refl _
  have hRl : 66 ≤ R.locals := by rw [← hR]; exact Nat.le_refl _
  have hret : ∀ (S : bS) (H : Heap) (locs : List Loc) (pc : Nat) (ls : Array Slot) , post S → wd D y z S A H → va_S A s.heap H locs → decode cX6_findTimes pc = .ok (.return_, 1) → W p l e R s m (([Value.ref this, Value.int p1] : List Value).toArray) below meth c H locs 0 0 Q (F0 m pc ls []) := by
    intro S H locs pc ls h hw hS d0
    rw [hQ]; exact W.vret hx hb hr (fun t ht hW => ⟨⟨S, rfl, h, by show wd D y z S A t.heap; rw [ht]; exact hw⟩, hS.F ht⟩) hS.2.2 d0 hlocks
  have hB34 : ∀ (n34 : Nat) (S : bS) (H : Heap) (locs : List Loc) (ls : Array Slot) (v0 : Nat) (v1 : Int32) (v2 : Int32), wb_X6_findTimes_34 post n34 v0 v1 v2 S → wd D y z S A H → va_S A s.heap H locs → lv_has ls 6 [(0, .ref v0), (1, .int v1), (2, .int v2)] → W p l e R s m (([Value.ref this, Value.int p1] : List Value).toArray) below meth c H locs 0 0 Q (F0 m 34 ls []) := by
    intro n34
    induction n34 with
    | zero =>
      intro S H locs ls v0 v1 v2 h hw hS hl
      exact absurd h (by unfold wb_X6_findTimes_34; exact id)
    | succ n34 ih34 =>
      have hB42 : ∀ (n42 : Nat) (S : bS) (H : Heap) (locs : List Loc) (ls : Array Slot) (v0 : Nat) (v1 : Int32) (v2 : Int32) (v3 : Int32), wb_X6_findTimes_42 post (wb_X6_findTimes_34 post n34) n42 v0 v1 v2 v3 S → wd D y z S A H → va_S A s.heap H locs → lv_has ls 6 [(0, .ref v0), (1, .int v1), (2, .int v2), (3, .int v3)] → W p l e R s m (([Value.ref this, Value.int p1] : List Value).toArray) below meth c H locs 0 0 Q (F0 m 42 ls []) := by
        intro n42
        induction n42 with
        | zero =>
          intro S H locs ls v0 v1 v2 v3 h hw hS hl
          exact absurd h (by unfold wb_X6_findTimes_42; exact id)
        | succ n42 ih42 =>
          have hB109 : ∀ (S : bS) (H : Heap) (locs : List Loc) (ls : Array Slot) (v0 : Nat) (v1 : Int32) (v2 : Int32) (v3 : Int32), wb_X6_findTimes_109 post (wb_X6_findTimes_34 post n34) (wb_X6_findTimes_42 post (wb_X6_findTimes_34 post n34) n42) v0 v1 v2 v3 S → wd D y z S A H → va_S A s.heap H locs → lv_has ls 6 [(0, .ref v0), (1, .int v1), (2, .int v2), (3, .int v3)] → W p l e R s m (([Value.ref this, Value.int p1] : List Value).toArray) below meth c H locs 0 0 Q (F0 m 109 ls []) := by
            intro S H locs ls v0 v1 v2 v3 h hw hS hl
            unfold wb_X6_findTimes_109 at h
            refine lv_iinc (v := (v3 + (1 : Int32))) hx hb dX6_findTimes_109 hl (k := 3) rfl rfl (by decide) rfl (fun ls hl => ?_)
            have hl : lv_has ls 6 [(3, .int (v3 + (1 : Int32))), (0, .ref v0), (1, .int v1), (2, .int v2)] := hl
            refine lv_goto (tgt := 42) hx hb dX6_findTimes_112 (by decide) ?_
            exact ih42 _ _ _ _ _ _ _ _ h hw hS (lv_sub hl [1, 2, 3, 0] rfl)
          have hB98 : ∀ (S : bS) (H : Heap) (locs : List Loc) (ls : Array Slot) (v0 : Nat) (v1 : Int32) (v3 : Int32) (v4 : Int32) (v5 : Int32), wb_X6_findTimes_98 post (wb_X6_findTimes_34 post n34) (wb_X6_findTimes_42 post (wb_X6_findTimes_34 post n34) n42) v0 v1 v3 v4 v5 S → wd D y z S A H → va_S A s.heap H locs → lv_has ls 6 [(0, .ref v0), (1, .int v1), (3, .int v3), (4, .int v4), (5, .int v5)] → W p l e R s m (([Value.ref this, Value.int p1] : List Value).toArray) below meth c H locs 0 0 Q (F0 m 98 ls []) := by
            intro S H locs ls v0 v1 v3 v4 v5 h hw hS hl
            unfold wb_X6_findTimes_98 at h
            refine lv_aload_n hx hb dX6_findTimes_98 rfl (lv_at hl 0 rfl) ?_
            obtain ⟨hk21, h⟩ := h
            obtain ⟨b22, hb23, h⟩ := h
            refine r_get (ci := 7) (v := .ref b22) (C := RX6) (T := TX6) (N := 17) hx hb hts hiX6 hown hK hw (ce_8 (S := S) hk21) rfl 15 (by decide) (hts (.fieldLink RX6 25 "TubePostModel" "times" "[I") (by decide +kernel)) (fun _ h9 => h9) (congrArg (fun q => some (va_rf q)) hb23) dX6_findTimes_99 ?_
            refine lv_iload hx hb dX6_findTimes_102 (lv_at hl 3 rfl) ?_
            refine lv_iload hx hb dX6_findTimes_104 (lv_at hl 4 rfl) ?_
            obtain ⟨hk24, h⟩ := h
            obtain ⟨hin25, h⟩ := h
            refine r_iast hx hb hK hw hS hk24 hin25 dX6_findTimes_106 (fun H locs hw hS => ?_)
            refine lv_iconst (v := (1 : Int32)) hx hb dX6_findTimes_107 (by decide) ?_
            refine lv_istore_n hx hb dX6_findTimes_108 rfl hl (by decide) rfl (fun ls hl => ?_)
            have hl : lv_has ls 6 [(2, .int (1 : Int32)), (0, .ref v0), (1, .int v1), (3, .int v3), (4, .int v4), (5, .int v5)] := hl
            exact hB109 _ _ _ _ _ _ _ _ h hw hS (lv_sub hl [1, 2, 0, 3] rfl)
          intro S H locs ls v0 v1 v2 v3 h hw hS hl
          unfold wb_X6_findTimes_42 at h
          refine lv_iload_n hx hb dX6_findTimes_42 rfl (lv_at hl 3 rfl) ?_
          refine lv_aload_n hx hb dX6_findTimes_43 rfl (lv_at hl 0 rfl) ?_
          obtain ⟨hk6, h⟩ := h
          refine r_get (ci := 7) (v := .int (gV S 8 v0 3)) (C := RX6) (T := TX6) (N := 17) hx hb hts hiX6 hown hK hw (ce_8 (S := S) hk6) rfl 3 (by decide) (hts (.fieldLink RX6 42 "TubePostModel" "tubes" "I") (by decide +kernel)) (fun _ h9 => h9) rfl dX6_findTimes_44 ?_
          refine lv_icmp_ge (tgt := 115) hx hb dX6_findTimes_47 (by decide) (fun hc => ?_) (fun hc => ?_)
          · have h := h.1 hc
            refine lv_goto (tgt := 34) hx hb dX6_findTimes_115 (by decide) ?_
            exact ih34 _ _ _ _ _ _ _ h hw hS (lv_sub hl [0, 1, 2] rfl)
          · have h := h.2 hc
            refine lv_aload_n hx hb dX6_findTimes_50 rfl (lv_at hl 0 rfl) ?_
            refine lv_iload_n hx hb dX6_findTimes_51 rfl (lv_at hl 3 rfl) ?_
            refine lv_iconst (v := (0 : Int32)) hx hb dX6_findTimes_52 (by decide) ?_
            have h1 := h
            refine va_calli (va_runV (As := [.int v3, .int (0 : Int32)]) (rest := []) ⟨hx, hb, hml, hown, hts⟩ (m_X6_tu (l := l) h1) (cwV 2 hts gX6_findTimes_X6_tu rfl rfl rfl (by decide +kernel) ⟨Nat.le_trans (Nat.le_of_ble_eq_true rfl) hRf, Nat.le_trans (Nat.le_of_ble_eq_true rfl) hRl⟩) (r_pV hB hw hS (ce_8 (S := S) hk6) rfl) rfl rfl hl.1 rfl (lv_room (Nat.le_of_ble_eq_true rfl)) dX6_findTimes_53 ⟨Nat.zero_le _, Nat.zero_le _⟩) hS (fun _ _ h => h) (fun _ h => h) (fun r7 S8 t H1 locs ht _ h hw1 _ _ hS => ?_)
            subst ht
            have hw : wd D y z S8 A t.heap := hw1
            clear hw1 h1
            refine lv_istore hx hb dX6_findTimes_56 hl (by decide) rfl (fun ls hl => ?_)
            have hl : lv_has ls 6 [(4, .int r7), (0, .ref v0), (1, .int v1), (2, .int v2), (3, .int v3)] := hl
            refine lv_aload_n hx hb dX6_findTimes_58 rfl (lv_at hl 1 rfl) ?_
            refine lv_iload_n hx hb dX6_findTimes_59 rfl (lv_at hl 4 rfl) ?_
            refine lv_iload_n hx hb dX6_findTimes_60 rfl (lv_at hl 2 rfl) ?_
            obtain ⟨hk9, h⟩ := h
            have h1 := h
            refine va_calli (va_runV (As := [.int v3, .int v1]) (rest := []) ⟨hx, hb, hml, hown, hts⟩ (m_X6_timeBy (l := l) h1) (cwV 2 hts gX6_findTimes_X6_timeBy rfl rfl rfl (by decide +kernel) ⟨Nat.le_trans (Nat.le_of_ble_eq_true rfl) hRf, Nat.le_trans (Nat.le_of_ble_eq_true rfl) hRl⟩) (r_pV hB hw hS (ce_8 (S := S8) hk9) rfl) rfl rfl hl.1 rfl (lv_room (Nat.le_of_ble_eq_true rfl)) dX6_findTimes_61 ⟨Nat.zero_le _, Nat.zero_le _⟩) hS (fun _ _ h => h) (fun _ h => h) (fun r10 S11 t H1 locs ht _ h hw1 _ _ hS => ?_)
            subst ht
            have hw : wd D y z S11 A t.heap := hw1
            clear hw1 h1
            refine lv_istore hx hb dX6_findTimes_64 hl (by decide) rfl (fun ls hl => ?_)
            have hl : lv_has ls 6 [(5, .int r10), (4, .int r7), (0, .ref v0), (1, .int v1), (2, .int v2), (3, .int v3)] := hl
            refine lv_iload hx hb dX6_findTimes_66 (lv_at hl 0 rfl) ?_
            refine lv_iconst (v := (-1 : Int32)) hx hb dX6_findTimes_68 (by decide) ?_
            refine lv_icmp_eq (tgt := 109) hx hb dX6_findTimes_69 (by decide) (fun hc => ?_) (fun hc => ?_)
            · have h := h.1 hc
              exact hB109 _ _ _ _ _ _ _ _ h hw hS (lv_sub hl [2, 3, 4, 5] rfl)
            · have h := h.2 hc
              refine lv_aload_n hx hb dX6_findTimes_72 rfl (lv_at hl 2 rfl) ?_
              obtain ⟨hk12, h⟩ := h
              obtain ⟨b13, hb14, h⟩ := h
              refine r_get (ci := 7) (v := .ref b13) (C := RX6) (T := TX6) (N := 17) hx hb hts hiX6 hown hK hw (ce_8 (S := S11) hk12) rfl 15 (by decide) (hts (.fieldLink RX6 25 "TubePostModel" "times" "[I") (by decide +kernel)) (fun _ h9 => h9) (congrArg (fun q => some (va_rf q)) hb14) dX6_findTimes_73 ?_
              refine lv_iload hx hb dX6_findTimes_76 (lv_at hl 1 rfl) ?_
              obtain ⟨hk15, h⟩ := h
              obtain ⟨hin16, h⟩ := h
              refine r_iald hx hb hK hw hk15 hin16 dX6_findTimes_78 ?_
              refine lv_iconst (v := (-1 : Int32)) hx hb dX6_findTimes_79 (by decide) ?_
              refine lv_icmp_eq (tgt := 98) hx hb dX6_findTimes_80 (by decide) (fun hc => ?_) (fun hc => ?_)
              · have h := h.1 hc
                exact hB98 _ _ _ _ _ _ _ _ _ h hw hS (lv_sub hl [2, 3, 5, 1, 0] rfl)
              · have h := h.2 hc
                refine lv_aload_n hx hb dX6_findTimes_83 rfl (lv_at hl 2 rfl) ?_
                obtain ⟨b17, hb18, h⟩ := h
                refine r_get (ci := 7) (v := .ref b17) (C := RX6) (T := TX6) (N := 17) hx hb hts hiX6 hown hK hw (ce_8 (S := S11) hk12) rfl 15 (by decide) (hts (.fieldLink RX6 25 "TubePostModel" "times" "[I") (by decide +kernel)) (fun _ h9 => h9) (congrArg (fun q => some (va_rf q)) hb18) dX6_findTimes_84 ?_
                refine lv_iload hx hb dX6_findTimes_87 (lv_at hl 1 rfl) ?_
                obtain ⟨hk19, h⟩ := h
                obtain ⟨hin20, h⟩ := h
                refine r_iald hx hb hK hw hk19 hin20 dX6_findTimes_89 ?_
                refine lv_iload hx hb dX6_findTimes_90 (lv_at hl 0 rfl) ?_
                refine lv_icmp_gt (tgt := 98) hx hb dX6_findTimes_92 (by decide) (fun hc => ?_) (fun hc => ?_)
                · have h := h.1 hc
                  exact hB98 _ _ _ _ _ _ _ _ _ h hw hS (lv_sub hl [2, 3, 5, 1, 0] rfl)
                · have h := h.2 hc
                  refine lv_goto (tgt := 109) hx hb dX6_findTimes_95 (by decide) ?_
                  exact hB109 _ _ _ _ _ _ _ _ h hw hS (lv_sub hl [2, 3, 4, 5] rfl)
      intro S H locs ls v0 v1 v2 h hw hS hl
      unfold wb_X6_findTimes_34 at h
      refine lv_iload_n hx hb dX6_findTimes_34 rfl (lv_at hl 2 rfl) ?_
      refine lv_if_eq (tgt := 118) hx hb dX6_findTimes_35 (by decide) (fun hc => ?_) (fun hc => ?_)
      · have h := h.1 hc
        exact hret _ _ _ _ _ h hw hS dX6_findTimes_118
      · have h := h.2 hc
        refine lv_iconst (v := (0 : Int32)) hx hb dX6_findTimes_38 (by decide) ?_
        refine lv_istore_n hx hb dX6_findTimes_39 rfl hl (by decide) rfl (fun ls hl => ?_)
        have hl : lv_has ls 6 [(2, .int (0 : Int32)), (0, .ref v0), (1, .int v1)] := hl
        refine lv_iconst (v := (0 : Int32)) hx hb dX6_findTimes_40 (by decide) ?_
        refine lv_istore_n hx hb dX6_findTimes_41 rfl hl (by decide) rfl (fun ls hl => ?_)
        have hl : lv_has ls 6 [(3, .int (0 : Int32)), (2, .int (0 : Int32)), (0, .ref v0), (1, .int v1)] := hl
        obtain ⟨n42, h⟩ := h
        exact hB42 n42 _ _ _ _ _ _ _ _ h hw hS (lv_sub hl [2, 3, 1, 0] rfl)
  have hB2 : ∀ (n2 : Nat) (S : bS) (H : Heap) (locs : List Loc) (ls : Array Slot) (v0 : Nat) (v1 : Int32) (v2 : Int32), wb_X6_findTimes_2 post n2 v0 v1 v2 S → wd D y z S A H → va_S A s.heap H locs → lv_has ls 6 [(0, .ref v0), (1, .int v1), (2, .int v2)] → W p l e R s m (([Value.ref this, Value.int p1] : List Value).toArray) below meth c H locs 0 0 Q (F0 m 2 ls []) := by
    intro n2
    induction n2 with
    | zero =>
      intro S H locs ls v0 v1 v2 h hw hS hl
      exact absurd h (by unfold wb_X6_findTimes_2; exact id)
    | succ n2 ih2 =>
      have hB25 : ∀ (S : bS) (H : Heap) (locs : List Loc) (ls : Array Slot) (v0 : Nat) (v1 : Int32) (v2 : Int32) (s0 : Int32) (s1 : Int32) (s2 : Nat), wb_X6_findTimes_25 post (wb_X6_findTimes_2 post n2) v0 v1 v2 s0 s1 s2 S → wd D y z S A H → va_S A s.heap H locs → lv_has ls 6 [(0, .ref v0), (1, .int v1), (2, .int v2)] → W p l e R s m (([Value.ref this, Value.int p1] : List Value).toArray) below meth c H locs 0 0 Q (F0 m 25 ls [.int s0, .int s1, .ref s2]) := by
        intro S H locs ls v0 v1 v2 s0 s1 s2 h hw hS hl
        unfold wb_X6_findTimes_25 at h
        obtain ⟨hk4, h⟩ := h
        obtain ⟨hin5, h⟩ := h
        refine r_iast hx hb hK hw hS hk4 hin5 dX6_findTimes_25 (fun H locs hw hS => ?_)
        refine lv_iinc (v := (v2 + (1 : Int32))) hx hb dX6_findTimes_26 hl (k := 2) rfl rfl (by decide) rfl (fun ls hl => ?_)
        have hl : lv_has ls 6 [(2, .int (v2 + (1 : Int32))), (0, .ref v0), (1, .int v1)] := hl
        refine lv_goto (tgt := 2) hx hb dX6_findTimes_29 (by decide) ?_
        exact ih2 _ _ _ _ _ _ _ h hw hS (lv_sub hl [1, 2, 0] rfl)
      intro S H locs ls v0 v1 v2 h hw hS hl
      unfold wb_X6_findTimes_2 at h
      refine lv_iload_n hx hb dX6_findTimes_2 rfl (lv_at hl 2 rfl) ?_
      refine lv_aload_n hx hb dX6_findTimes_3 rfl (lv_at hl 0 rfl) ?_
      obtain ⟨hk1, h⟩ := h
      refine r_get (ci := 7) (v := .int (gV S 8 v0 2)) (C := RX6) (T := TX6) (N := 17) hx hb hts hiX6 hown hK hw (ce_8 (S := S) hk1) rfl 2 (by decide) (hts (.fieldLink RX6 35 "TubePostModel" "stations" "I") (by decide +kernel)) (fun _ h9 => h9) rfl dX6_findTimes_4 ?_
      refine lv_icmp_ge (tgt := 32) hx hb dX6_findTimes_7 (by decide) (fun hc => ?_) (fun hc => ?_)
      · have h := h.1 hc
        refine lv_iconst (v := (1 : Int32)) hx hb dX6_findTimes_32 (by decide) ?_
        refine lv_istore_n hx hb dX6_findTimes_33 rfl hl (by decide) rfl (fun ls hl => ?_)
        have hl : lv_has ls 6 [(2, .int (1 : Int32)), (0, .ref v0), (1, .int v1)] := hl
        obtain ⟨n34, h⟩ := h
        exact hB34 n34 _ _ _ _ _ _ _ h hw hS (lv_sub hl [1, 2, 0] rfl)
      · have h := h.2 hc
        refine lv_aload_n hx hb dX6_findTimes_10 rfl (lv_at hl 0 rfl) ?_
        obtain ⟨b2, hb3, h⟩ := h
        refine r_get (ci := 7) (v := .ref b2) (C := RX6) (T := TX6) (N := 17) hx hb hts hiX6 hown hK hw (ce_8 (S := S) hk1) rfl 15 (by decide) (hts (.fieldLink RX6 25 "TubePostModel" "times" "[I") (by decide +kernel)) (fun _ h9 => h9) (congrArg (fun q => some (va_rf q)) hb3) dX6_findTimes_11 ?_
        refine lv_iload_n hx hb dX6_findTimes_14 rfl (lv_at hl 2 rfl) ?_
        refine lv_iload_n hx hb dX6_findTimes_15 rfl (lv_at hl 2 rfl) ?_
        refine lv_iload_n hx hb dX6_findTimes_16 rfl (lv_at hl 1 rfl) ?_
        refine lv_icmp_ne (tgt := 24) hx hb dX6_findTimes_17 (by decide) (fun hc => ?_) (fun hc => ?_)
        · have h := h.1 hc
          refine lv_iconst (v := (-1 : Int32)) hx hb dX6_findTimes_24 (by decide) ?_
          exact hB25 _ _ _ _ _ _ _ _ _ _ h hw hS (lv_sub hl [0, 1, 2] rfl)
        · have h := h.2 hc
          refine lv_iconst (v := (0 : Int32)) hx hb dX6_findTimes_20 (by decide) ?_
          refine lv_goto (tgt := 25) hx hb dX6_findTimes_21 (by decide) ?_
          exact hB25 _ _ _ _ _ _ _ _ _ _ h hw hS (lv_sub hl [0, 1, 2] rfl)
  unfold wp_X6_findTimes at h
  refine lv_iconst (v := (0 : Int32)) hx hb dX6_findTimes_0 (by decide) ?_
  refine lv_istore_n hx hb dX6_findTimes_1 rfl hl (by decide) rfl (fun ls hl => ?_)
  have hl : lv_has ls 6 [(2, .int (0 : Int32)), (0, .ref this), (1, .int p1)] := hl
  obtain ⟨n2, h⟩ := h
  exact hB2 n2 _ _ _ _ _ _ _ h hw hS (lv_sub hl [1, 2, 0] rfl)
def wb_X6_chosen_85 (post : Int32 → bS → Prop) (rec30 : Nat → Int32 → Int32 → Int32 → Int32 → Int32 → bS → Prop) (v0 : Nat) (v1 : Int32) (v2 : Int32) (v3 : Int32) (v4 : Int32) (v5 : Int32) (S : bS) : Prop := rec30 v0 v1 v2 v3 v4 (v5 + (1 : Int32)) S
def wb_X6_chosen_78 (post : Int32 → bS → Prop) (rec30 : Nat → Int32 → Int32 → Int32 → Int32 → Int32 → bS → Prop) (v0 : Nat) (v1 : Int32) (v2 : Int32) (v5 : Int32) (v6 : Int32) (S : bS) : Prop := wb_X6_chosen_85 post rec30 v0 v1 v2 v5 v6 v5 S
def wb_X6_chosen_30 (post : Int32 → bS → Prop) : Nat → Nat → Int32 → Int32 → Int32 → Int32 → Int32 → bS → Prop
  | 0, _, _, _, _, _, _, _ => False
  | n + 1, v0, v1, v2, v3, v4, v5, S => gK S v0 = 8 ∧ (wp_X6_st (fun r11 S12 => (r11 ≤ v5 → post v3 S12) ∧ (¬ (r11 ≤ v5) → gK S12 v0 = 8 ∧ (wp_X6_st (fun r14 S15 => gK S15 v0 = 8 ∧ (wp_X6_timeBy (fun r17 S18 => (r17 = (-1 : Int32) → wb_X6_chosen_85 post (wb_X6_chosen_30 post n) v0 v1 v2 v3 v4 v5 S18) ∧ (¬ (r17 = (-1 : Int32)) → (v3 = (-1 : Int32) → wb_X6_chosen_78 post (wb_X6_chosen_30 post n) v0 v1 v2 v5 r17 S18) ∧ (¬ (v3 = (-1 : Int32)) → (r17 < v4 → wb_X6_chosen_78 post (wb_X6_chosen_30 post n) v0 v1 v2 v5 r17 S18) ∧ (¬ (r17 < v4) → wb_X6_chosen_85 post (wb_X6_chosen_30 post n) v0 v1 v2 v3 v4 v5 S18)))) v0 r14 v2 S15)) v0 v1 ((5 : Int32) + v5) S12))) v0 v1 (2 : Int32) S)
def wp_X6_chosen (post : Int32 → bS → Prop) (this : Nat) (p1 : Int32) (p2 : Int32) (S : bS) : Prop := gK S this = 8 ∧ (wp_X6_st (fun r2 S3 => (r2 = (-1 : Int32) → gK S3 this = 8 ∧ (wp_X6_findTimes (fun S6 => ∃ n30, wb_X6_chosen_30 post n30 this p1 p2 (-1 : Int32) (0 : Int32) (0 : Int32) S6) this p2 S3)) ∧ (¬ (r2 = (-1 : Int32)) → gK S3 this = 8 ∧ (wp_X6_st (fun r8 S9 => post r8 S9) this p1 (3 : Int32) S3))) this p1 (3 : Int32) S)
set_option maxHeartbeats 4000000 in
set_option maxRecDepth 100000 in
theorem m_X6_chosen {l : Launch} {D : va_G} {y : Nat → ClassId} {z : Nat} {A : Nat → Prop} {S : bS} {post : Int32 → bS → Prop} {this : Nat} {p1 : Int32} {p2 : Int32} (h : wp_X6_chosen post this p1 p2 S) : Met l yX6_chosen wsX6_chosen ({ frames := 4, cells := 0, slots := 0, locals := 91 } : Room) (va_Pc ([Value.ref this, Value.int p1, Value.int p2] : List Value) (bP D y z S A)) (va_Qi post (fun S' t => wd D y z S' A t.heap) A) 0 0 A := by
  refine Met.ofW (cc := cX6_chosen) (maxL := 7) (ret := (some .int)) (by decide) rfl ?_
  intro p e s m args below meth c s₁ B hml hv
  obtain ⟨rfl, hB⟩ := hv
  have hx := B.exec
  have hb := B.bytes
  have hr := B.returns
  have hts := atoms_spec (ws := wsX6_chosen) B.pre
  have hown : s.vm.findClass RX6 = some m.cls := findClass_of_methodNamed B.named
  have hlocks := B.notSynchronized
  have hw : wd D y z S A s.heap := hB.1
  have hK : va_K D bCl (bT y) s := hB.2.1
  have hNw := hB.2.2.1
  have hAn : ∀ q : Nat, s.heap.size ≤ q → A q := hB.2.2.2.1
  have hAz : ¬ A z := hB.2.2.2.2.1
  have hO := hB.2.2.2.2.2.1
  have hS : va_S A s.heap s.heap [] := va_S.rf
  have hl := lv_entry ([Value.ref this, Value.int p1, Value.int p2] : List Value) (n := 7) (Nat.le_of_ble_eq_true rfl)
  rw [lg_entry_eq]
  generalize (lg_sl ([Value.ref this, Value.int p1, Value.int p2] : List Value) ++ List.replicate (7 - (lg_sl ([Value.ref this, Value.int p1, Value.int p2] : List Value)).length) Slot.unset).toArray = ls at hl ⊢
  have hl : lv_has ls 7 [(0, .ref this), (1, .int p1), (2, .int p2)] := hl
  obtain ⟨Q, hQ⟩ : ∃ Q, Q = MQ below (va_Qi post (fun S' t => wd D y z S' A t.heap) A) (([Value.ref this, Value.int p1, Value.int p2] : List Value).toArray) s 0 0 A := ⟨_, rfl⟩
  rw [← hQ]
  generalize hR : (headSpec wsX6_chosen ({ frames := 4, cells := 0, slots := 0, locals := 91 } : Room)).room = R
  have hRf : 4 ≤ R.frames := by rw [← hR]; exact Nat.le_refl _
  have hRl : 91 ≤ R.locals := by rw [← hR]; exact Nat.le_refl _
  have hret : ∀ (v : Int32) (S : bS) (H : Heap) (locs : List Loc) (pc : Nat) (ls : Array Slot) , post v S → wd D y z S A H → va_S A s.heap H locs → decode cX6_chosen pc = .ok (.ireturn, 1) → W p l e R s m (([Value.ref this, Value.int p1, Value.int p2] : List Value).toArray) below meth c H locs 0 0 Q (F0 m pc ls [.int v]) := by
    intro v S H locs pc ls h hw hS d0
    rw [hQ]; exact W.iret hx hb hr (fun t ht hW => ⟨⟨v, S, rfl, h, by show wd D y z S A t.heap; rw [ht]; exact hw⟩, hS.F ht⟩) hS.2.2 d0 hlocks
  have hB30 : ∀ (n30 : Nat) (S : bS) (H : Heap) (locs : List Loc) (ls : Array Slot) (v0 : Nat) (v1 : Int32) (v2 : Int32) (v3 : Int32) (v4 : Int32) (v5 : Int32), wb_X6_chosen_30 post n30 v0 v1 v2 v3 v4 v5 S → wd D y z S A H → va_S A s.heap H locs → lv_has ls 7 [(0, .ref v0), (1, .int v1), (2, .int v2), (3, .int v3), (4, .int v4), (5, .int v5)] → W p l e R s m (([Value.ref this, Value.int p1, Value.int p2] : List Value).toArray) below meth c H locs 0 0 Q (F0 m 30 ls []) := by
    intro n30
    induction n30 with
    | zero =>
      intro S H locs ls v0 v1 v2 v3 v4 v5 h hw hS hl
      exact absurd h (by unfold wb_X6_chosen_30; exact id)
    | succ n30 ih30 =>
      have hB85 : ∀ (S : bS) (H : Heap) (locs : List Loc) (ls : Array Slot) (v0 : Nat) (v1 : Int32) (v2 : Int32) (v3 : Int32) (v4 : Int32) (v5 : Int32), wb_X6_chosen_85 post (wb_X6_chosen_30 post n30) v0 v1 v2 v3 v4 v5 S → wd D y z S A H → va_S A s.heap H locs → lv_has ls 7 [(0, .ref v0), (1, .int v1), (2, .int v2), (3, .int v3), (4, .int v4), (5, .int v5)] → W p l e R s m (([Value.ref this, Value.int p1, Value.int p2] : List Value).toArray) below meth c H locs 0 0 Q (F0 m 85 ls []) := by
        intro S H locs ls v0 v1 v2 v3 v4 v5 h hw hS hl
        unfold wb_X6_chosen_85 at h
        refine lv_iinc (v := (v5 + (1 : Int32))) hx hb dX6_chosen_85 hl (k := 5) rfl rfl (by decide) rfl (fun ls hl => ?_)
        have hl : lv_has ls 7 [(5, .int (v5 + (1 : Int32))), (0, .ref v0), (1, .int v1), (2, .int v2), (3, .int v3), (4, .int v4)] := hl
        refine lv_goto (tgt := 30) hx hb dX6_chosen_88 (by decide) ?_
        exact ih30 _ _ _ _ _ _ _ _ _ _ h hw hS (lv_sub hl [1, 2, 3, 4, 5, 0] rfl)
      have hB78 : ∀ (S : bS) (H : Heap) (locs : List Loc) (ls : Array Slot) (v0 : Nat) (v1 : Int32) (v2 : Int32) (v5 : Int32) (v6 : Int32), wb_X6_chosen_78 post (wb_X6_chosen_30 post n30) v0 v1 v2 v5 v6 S → wd D y z S A H → va_S A s.heap H locs → lv_has ls 7 [(0, .ref v0), (1, .int v1), (2, .int v2), (5, .int v5), (6, .int v6)] → W p l e R s m (([Value.ref this, Value.int p1, Value.int p2] : List Value).toArray) below meth c H locs 0 0 Q (F0 m 78 ls []) := by
        intro S H locs ls v0 v1 v2 v5 v6 h hw hS hl
        unfold wb_X6_chosen_78 at h
        refine lv_iload hx hb dX6_chosen_78 (lv_at hl 3 rfl) ?_
        refine lv_istore_n hx hb dX6_chosen_80 rfl hl (by decide) rfl (fun ls hl => ?_)
        have hl : lv_has ls 7 [(3, .int v5), (0, .ref v0), (1, .int v1), (2, .int v2), (5, .int v5), (6, .int v6)] := hl
        refine lv_iload hx hb dX6_chosen_81 (lv_at hl 5 rfl) ?_
        refine lv_istore hx hb dX6_chosen_83 hl (by decide) rfl (fun ls hl => ?_)
        have hl : lv_has ls 7 [(4, .int v6), (3, .int v5), (0, .ref v0), (1, .int v1), (2, .int v2), (5, .int v5), (6, .int v6)] := hl
        exact hB85 _ _ _ _ _ _ _ _ _ _ h hw hS (lv_sub hl [2, 3, 4, 1, 0, 5] rfl)
      intro S H locs ls v0 v1 v2 v3 v4 v5 h hw hS hl
      unfold wb_X6_chosen_30 at h
      refine lv_iload hx hb dX6_chosen_30 (lv_at hl 5 rfl) ?_
      refine lv_aload_n hx hb dX6_chosen_32 rfl (lv_at hl 0 rfl) ?_
      refine lv_iload_n hx hb dX6_chosen_33 rfl (lv_at hl 1 rfl) ?_
      refine lv_iconst (v := (2 : Int32)) hx hb dX6_chosen_34 (by decide) ?_
      obtain ⟨hk10, h⟩ := h
      have h1 := h
      refine va_calli (va_runV (As := [.int v1, .int (2 : Int32)]) (rest := [.int v5]) ⟨hx, hb, hml, hown, hts⟩ (m_X6_st (l := l) h1) (cwV 2 hts gX6_chosen_X6_st rfl rfl rfl (by decide +kernel) ⟨Nat.le_trans (Nat.le_of_ble_eq_true rfl) hRf, Nat.le_trans (Nat.le_of_ble_eq_true rfl) hRl⟩) (r_pV hB hw hS (ce_8 (S := S) hk10) rfl) rfl rfl hl.1 rfl (lv_room (Nat.le_of_ble_eq_true rfl)) dX6_chosen_35 ⟨Nat.zero_le _, Nat.zero_le _⟩) hS (fun _ _ h => h) (fun _ h => h) (fun r11 S12 t H1 locs ht _ h hw1 _ _ hS => ?_)
      subst ht
      have hw : wd D y z S12 A t.heap := hw1
      clear hw1 h1
      refine lv_icmp_ge (tgt := 91) hx hb dX6_chosen_38 (by decide) (fun hc => ?_) (fun hc => ?_)
      · have h := h.1 hc
        refine lv_iload_n hx hb dX6_chosen_91 rfl (lv_at hl 3 rfl) ?_
        exact hret v3 _ _ _ _ _ h hw hS dX6_chosen_92
      · have h := h.2 hc
        refine lv_aload_n hx hb dX6_chosen_41 rfl (lv_at hl 0 rfl) ?_
        refine lv_aload_n hx hb dX6_chosen_42 rfl (lv_at hl 0 rfl) ?_
        refine lv_iload_n hx hb dX6_chosen_43 rfl (lv_at hl 1 rfl) ?_
        refine lv_iconst (v := (5 : Int32)) hx hb dX6_chosen_44 (by decide) ?_
        refine lv_iload hx hb dX6_chosen_45 (lv_at hl 5 rfl) ?_
        refine lv_iadd hx hb dX6_chosen_47 ?_
        obtain ⟨hk13, h⟩ := h
        have h1 := h
        refine va_calli (va_runV (As := [.int v1, .int ((5 : Int32) + v5)]) (rest := [.ref v0]) ⟨hx, hb, hml, hown, hts⟩ (m_X6_st (l := l) h1) (cwV 2 hts gX6_chosen_X6_st rfl rfl rfl (by decide +kernel) ⟨Nat.le_trans (Nat.le_of_ble_eq_true rfl) hRf, Nat.le_trans (Nat.le_of_ble_eq_true rfl) hRl⟩) (r_pV hB hw hS (ce_8 (S := S12) hk13) rfl) rfl rfl hl.1 rfl (lv_room (Nat.le_of_ble_eq_true rfl)) dX6_chosen_48 ⟨Nat.zero_le _, Nat.zero_le _⟩) hS (fun _ _ h => h) (fun _ h => h) (fun r14 S15 t H1 locs ht _ h hw1 _ _ hS => ?_)
        subst ht
        have hw : wd D y z S15 A t.heap := hw1
        clear hw1 h1
        refine lv_iload_n hx hb dX6_chosen_51 rfl (lv_at hl 2 rfl) ?_
        obtain ⟨hk16, h⟩ := h
        have h1 := h
        refine va_calli (va_runV (As := [.int r14, .int v2]) (rest := []) ⟨hx, hb, hml, hown, hts⟩ (m_X6_timeBy (l := l) h1) (cwV 2 hts gX6_chosen_X6_timeBy rfl rfl rfl (by decide +kernel) ⟨Nat.le_trans (Nat.le_of_ble_eq_true rfl) hRf, Nat.le_trans (Nat.le_of_ble_eq_true rfl) hRl⟩) (r_pV hB hw hS (ce_8 (S := S15) hk16) rfl) rfl rfl hl.1 rfl (lv_room (Nat.le_of_ble_eq_true rfl)) dX6_chosen_52 ⟨Nat.zero_le _, Nat.zero_le _⟩) hS (fun _ _ h => h) (fun _ h => h) (fun r17 S18 t H1 locs ht _ h hw1 _ _ hS => ?_)
        subst ht
        have hw : wd D y z S18 A t.heap := hw1
        clear hw1 h1
        refine lv_istore hx hb dX6_chosen_55 hl (by decide) rfl (fun ls hl => ?_)
        have hl : lv_has ls 7 [(6, .int r17), (0, .ref v0), (1, .int v1), (2, .int v2), (3, .int v3), (4, .int v4), (5, .int v5)] := hl
        refine lv_iload hx hb dX6_chosen_57 (lv_at hl 0 rfl) ?_
        refine lv_iconst (v := (-1 : Int32)) hx hb dX6_chosen_59 (by decide) ?_
        refine lv_icmp_eq (tgt := 85) hx hb dX6_chosen_60 (by decide) (fun hc => ?_) (fun hc => ?_)
        · have h := h.1 hc
          exact hB85 _ _ _ _ _ _ _ _ _ _ h hw hS (lv_sub hl [1, 2, 3, 4, 5, 6] rfl)
        · have h := h.2 hc
          refine lv_iload_n hx hb dX6_chosen_63 rfl (lv_at hl 4 rfl) ?_
          refine lv_iconst (v := (-1 : Int32)) hx hb dX6_chosen_64 (by decide) ?_
          refine lv_icmp_eq (tgt := 78) hx hb dX6_chosen_65 (by decide) (fun hc => ?_) (fun hc => ?_)
          · have h := h.1 hc
            exact hB78 _ _ _ _ _ _ _ _ _ h hw hS (lv_sub hl [1, 2, 3, 6, 0] rfl)
          · have h := h.2 hc
            refine lv_iload hx hb dX6_chosen_68 (lv_at hl 0 rfl) ?_
            refine lv_iload hx hb dX6_chosen_70 (lv_at hl 5 rfl) ?_
            refine lv_icmp_lt (tgt := 78) hx hb dX6_chosen_72 (by decide) (fun hc => ?_) (fun hc => ?_)
            · have h := h.1 hc
              exact hB78 _ _ _ _ _ _ _ _ _ h hw hS (lv_sub hl [1, 2, 3, 6, 0] rfl)
            · have h := h.2 hc
              refine lv_goto (tgt := 85) hx hb dX6_chosen_75 (by decide) ?_
              exact hB85 _ _ _ _ _ _ _ _ _ _ h hw hS (lv_sub hl [1, 2, 3, 4, 5, 6] rfl)
  unfold wp_X6_chosen at h
  refine lv_aload_n hx hb dX6_chosen_0 rfl (lv_at hl 0 rfl) ?_
  refine lv_iload_n hx hb dX6_chosen_1 rfl (lv_at hl 1 rfl) ?_
  refine lv_iconst (v := (3 : Int32)) hx hb dX6_chosen_2 (by decide) ?_
  obtain ⟨hk1, h⟩ := h
  have h1 := h
  refine va_calli (va_runV (As := [.int p1, .int (3 : Int32)]) (rest := []) ⟨hx, hb, hml, hown, hts⟩ (m_X6_st (l := l) h1) (cwV 2 hts gX6_chosen_X6_st rfl rfl rfl (by decide +kernel) ⟨Nat.le_trans (Nat.le_of_ble_eq_true rfl) hRf, Nat.le_trans (Nat.le_of_ble_eq_true rfl) hRl⟩) (r_pV hB hw hS (ce_8 (S := S) hk1) rfl) rfl rfl hl.1 rfl (lv_room (Nat.le_of_ble_eq_true rfl)) dX6_chosen_3 ⟨Nat.zero_le _, Nat.zero_le _⟩) hS (fun _ _ h => h) (fun _ h => h) (fun r2 S3 t H1 locs ht _ h hw1 _ _ hS => ?_)
  subst ht
  have hw : wd D y z S3 A t.heap := hw1
  clear hw1 h1
  refine lv_iconst (v := (-1 : Int32)) hx hb dX6_chosen_6 (by decide) ?_
  refine lv_icmp_eq (tgt := 17) hx hb dX6_chosen_7 (by decide) (fun hc => ?_) (fun hc => ?_)
  · have h := h.1 hc
    refine lv_aload_n hx hb dX6_chosen_17 rfl (lv_at hl 0 rfl) ?_
    refine lv_iload_n hx hb dX6_chosen_18 rfl (lv_at hl 2 rfl) ?_
    obtain ⟨hk4, h⟩ := h
    have h1 := h
    refine va_callv (va_runV (As := [.int p2]) (rest := []) ⟨hx, hb, hml, hown, hts⟩ (m_X6_findTimes (l := l) h1) (cwV 1 hts gX6_chosen_X6_findTimes rfl rfl rfl (by decide +kernel) ⟨Nat.le_trans (Nat.le_of_ble_eq_true rfl) hRf, Nat.le_trans (Nat.le_of_ble_eq_true rfl) hRl⟩) (r_pV hB hw hS (ce_8 (S := S3) hk4) rfl) rfl rfl hl.1 rfl (lv_room (Nat.le_of_ble_eq_true rfl)) dX6_chosen_19 ⟨Nat.zero_le _, Nat.zero_le _⟩) hS (fun _ _ h => h) (fun _ h => h) (fun S6 t H1 locs ht _ h hw1 _ _ hS => ?_)
    subst ht
    have hw : wd D y z S6 A t.heap := hw1
    clear hw1 h1
    refine lv_iconst (v := (-1 : Int32)) hx hb dX6_chosen_22 (by decide) ?_
    refine lv_istore_n hx hb dX6_chosen_23 rfl hl (by decide) rfl (fun ls hl => ?_)
    have hl : lv_has ls 7 [(3, .int (-1 : Int32)), (0, .ref this), (1, .int p1), (2, .int p2)] := hl
    refine lv_iconst (v := (0 : Int32)) hx hb dX6_chosen_24 (by decide) ?_
    refine lv_istore hx hb dX6_chosen_25 hl (by decide) rfl (fun ls hl => ?_)
    have hl : lv_has ls 7 [(4, .int (0 : Int32)), (3, .int (-1 : Int32)), (0, .ref this), (1, .int p1), (2, .int p2)] := hl
    refine lv_iconst (v := (0 : Int32)) hx hb dX6_chosen_27 (by decide) ?_
    refine lv_istore hx hb dX6_chosen_28 hl (by decide) rfl (fun ls hl => ?_)
    have hl : lv_has ls 7 [(5, .int (0 : Int32)), (4, .int (0 : Int32)), (3, .int (-1 : Int32)), (0, .ref this), (1, .int p1), (2, .int p2)] := hl
    obtain ⟨n30, h⟩ := h
    exact hB30 n30 _ _ _ _ _ _ _ _ _ _ h hw hS (lv_sub hl [3, 4, 5, 2, 1, 0] rfl)
  · have h := h.2 hc
    refine lv_aload_n hx hb dX6_chosen_10 rfl (lv_at hl 0 rfl) ?_
    refine lv_iload_n hx hb dX6_chosen_11 rfl (lv_at hl 1 rfl) ?_
    refine lv_iconst (v := (3 : Int32)) hx hb dX6_chosen_12 (by decide) ?_
    obtain ⟨hk7, h⟩ := h
    have h1 := h
    refine va_calli (va_runV (As := [.int p1, .int (3 : Int32)]) (rest := []) ⟨hx, hb, hml, hown, hts⟩ (m_X6_st (l := l) h1) (cwV 2 hts gX6_chosen_X6_st rfl rfl rfl (by decide +kernel) ⟨Nat.le_trans (Nat.le_of_ble_eq_true rfl) hRf, Nat.le_trans (Nat.le_of_ble_eq_true rfl) hRl⟩) (r_pV hB hw hS (ce_8 (S := S3) hk7) rfl) rfl rfl hl.1 rfl (lv_room (Nat.le_of_ble_eq_true rfl)) dX6_chosen_13 ⟨Nat.zero_le _, Nat.zero_le _⟩) hS (fun _ _ h => h) (fun _ h => h) (fun r8 S9 t H1 locs ht _ h hw1 _ _ hS => ?_)
    subst ht
    have hw : wd D y z S9 A t.heap := hw1
    clear hw1 h1
    exact hret r8 _ _ _ _ _ h hw hS dX6_chosen_16
def wb_X6_clock_170 (post : bS → Prop) (rec2 : Nat → Int32 → bS → Prop) (v0 : Nat) (v1 : Int32) (S : bS) : Prop := rec2 v0 (v1 + (1 : Int32)) S
def wb_X6_clock_139 (post : bS → Prop) (rec2 : Nat → Int32 → bS → Prop) (v0 : Nat) (v1 : Int32) (v4 : Int32) (v5 : Int32) (v6 : Int32) (S : bS) : Prop := (v4 ≠ (2 : Int32) → wb_X6_clock_170 post rec2 v0 v1 S) ∧ (v4 = (2 : Int32) → (v5 = v6 → wb_X6_clock_170 post rec2 v0 v1 S) ∧ (¬ (v5 = v6) → gK S v0 = 8 ∧ (wp_X6_canSend (fun r33 S34 => (r33 = (0 : Int32) → wb_X6_clock_170 post rec2 v0 v1 S34) ∧ (¬ (r33 = (0 : Int32)) → gK S34 v0 = 8 ∧ (wp_X6_sendOff (fun S37 => wb_X6_clock_170 post rec2 v0 v1 S37) v0 v5 v6 (1 : Int32) S34))) v0 v5 S)))
def wb_X6_clock_119 (post : bS → Prop) (rec2 : Nat → Int32 → bS → Prop) (v0 : Nat) (v1 : Int32) (v4 : Int32) (v5 : Int32) (v6 : Int32) (S : bS) : Prop := (v4 ≠ (1 : Int32) → wb_X6_clock_139 post rec2 v0 v1 v4 v5 v6 S) ∧ (v4 = (1 : Int32) → gK S v0 = 8 ∧ (∃ b28, gQ S 8 v0 10 = some b28 ∧ (gK S b28 = 9 ∧ (vp_in (((8 : Int32) * v5) + (5 : Int32)) (gN S b28) ∧ (wb_X6_clock_139 post rec2 v0 v1 v4 v5 v6 (sV S 9 b28 (Int32.toNatClampNeg (((8 : Int32) * v5) + (5 : Int32))) v6))))))
def wb_X6_clock_64 (post : bS → Prop) (rec2 : Nat → Int32 → bS → Prop) (v0 : Nat) (v1 : Int32) (S : bS) : Prop := gK S v0 = 8 ∧ (∃ b11, gQ S 8 v0 11 = some b11 ∧ (gK S b11 = 9 ∧ (vp_in (((5 : Int32) * v1) + (2 : Int32)) (gN S b11) ∧ (∃ b15, gQ S 8 v0 11 = some b15 ∧ (gK S b15 = 9 ∧ (vp_in (((5 : Int32) * v1) + (3 : Int32)) (gN S b15) ∧ (∃ b19, gQ S 8 v0 11 = some b19 ∧ (gK S b19 = 9 ∧ (vp_in (((5 : Int32) * v1) + (4 : Int32)) (gN S b19) ∧ (((gV S 9 b11 (Int32.toNatClampNeg (((5 : Int32) * v1) + (2 : Int32)))) ≠ (0 : Int32) → wb_X6_clock_119 post rec2 v0 v1 (gV S 9 b11 (Int32.toNatClampNeg (((5 : Int32) * v1) + (2 : Int32)))) (gV S 9 b15 (Int32.toNatClampNeg (((5 : Int32) * v1) + (3 : Int32)))) (gV S 9 b19 (Int32.toNatClampNeg (((5 : Int32) * v1) + (4 : Int32)))) S) ∧ ((gV S 9 b11 (Int32.toNatClampNeg (((5 : Int32) * v1) + (2 : Int32)))) = (0 : Int32) → ∃ b23, gQ S 8 v0 9 = some b23 ∧ (gK S b23 = 9 ∧ (vp_in (((9 : Int32) * (gV S 9 b15 (Int32.toNatClampNeg (((5 : Int32) * v1) + (3 : Int32))))) + (3 : Int32)) (gN S b23) ∧ (wb_X6_clock_119 post rec2 v0 v1 (gV S 9 b11 (Int32.toNatClampNeg (((5 : Int32) * v1) + (2 : Int32)))) (gV S 9 b15 (Int32.toNatClampNeg (((5 : Int32) * v1) + (3 : Int32)))) (gV S 9 b19 (Int32.toNatClampNeg (((5 : Int32) * v1) + (4 : Int32)))) (sV S 9 b23 (Int32.toNatClampNeg (((9 : Int32) * (gV S 9 b15 (Int32.toNatClampNeg (((5 : Int32) * v1) + (3 : Int32))))) + (3 : Int32))) (gV S 9 b19 (Int32.toNatClampNeg (((5 : Int32) * v1) + (4 : Int32)))))))))))))))))))
def wb_X6_clock_2 (post : bS → Prop) : Nat → Nat → Int32 → bS → Prop
  | 0, _, _, _ => False
  | n + 1, v0, v1, S => gK S v0 = 8 ∧ (((gV S 8 v0 4) ≤ v1 → post S) ∧ (¬ ((gV S 8 v0 4) ≤ v1) → ∃ b2, gQ S 8 v0 11 = some b2 ∧ (gK S b2 = 9 ∧ (vp_in ((5 : Int32) * v1) (gN S b2) ∧ (∃ b6, gQ S 8 v0 11 = some b6 ∧ (gK S b6 = 9 ∧ (vp_in (((5 : Int32) * v1) + (1 : Int32)) (gN S b6) ∧ (((gV S 8 v0 1) = (gV S 9 b2 (Int32.toNatClampNeg ((5 : Int32) * v1))) → wb_X6_clock_64 post (wb_X6_clock_2 post n) v0 v1 S) ∧ (¬ ((gV S 8 v0 1) = (gV S 9 b2 (Int32.toNatClampNeg ((5 : Int32) * v1)))) → ((gV S 9 b6 (Int32.toNatClampNeg (((5 : Int32) * v1) + (1 : Int32)))) = (0 : Int32) → wb_X6_clock_170 post (wb_X6_clock_2 post n) v0 v1 S) ∧ (¬ ((gV S 9 b6 (Int32.toNatClampNeg (((5 : Int32) * v1) + (1 : Int32)))) = (0 : Int32)) → ((gV S 8 v0 1) < (gV S 9 b2 (Int32.toNatClampNeg ((5 : Int32) * v1))) → wb_X6_clock_170 post (wb_X6_clock_2 post n) v0 v1 S) ∧ (¬ ((gV S 8 v0 1) < (gV S 9 b2 (Int32.toNatClampNeg ((5 : Int32) * v1)))) → ¬ (gV S 9 b6 (Int32.toNatClampNeg (((5 : Int32) * v1) + (1 : Int32)))) = 0 ∧ (((((gV S 8 v0 1) - (gV S 9 b2 (Int32.toNatClampNeg ((5 : Int32) * v1)))) - ((gV S 8 v0 1) - (gV S 9 b2 (Int32.toNatClampNeg ((5 : Int32) * v1)))) / (gV S 9 b6 (Int32.toNatClampNeg (((5 : Int32) * v1) + (1 : Int32)))) * (gV S 9 b6 (Int32.toNatClampNeg (((5 : Int32) * v1) + (1 : Int32))))) = (0 : Int32) → wb_X6_clock_64 post (wb_X6_clock_2 post n) v0 v1 S) ∧ (¬ ((((gV S 8 v0 1) - (gV S 9 b2 (Int32.toNatClampNeg ((5 : Int32) * v1)))) - ((gV S 8 v0 1) - (gV S 9 b2 (Int32.toNatClampNeg ((5 : Int32) * v1)))) / (gV S 9 b6 (Int32.toNatClampNeg (((5 : Int32) * v1) + (1 : Int32)))) * (gV S 9 b6 (Int32.toNatClampNeg (((5 : Int32) * v1) + (1 : Int32))))) = (0 : Int32)) → wb_X6_clock_170 post (wb_X6_clock_2 post n) v0 v1 S)))))))))))))
def wp_X6_clock (post : bS → Prop) (this : Nat) (S : bS) : Prop := ∃ n2, wb_X6_clock_2 post n2 this (0 : Int32) S
set_option maxHeartbeats 4000000 in
set_option maxRecDepth 100000 in
theorem m_X6_clock {l : Launch} {D : va_G} {y : Nat → ClassId} {z : Nat} {A : Nat → Prop} {S : bS} {post : bS → Prop} {this : Nat} (h : wp_X6_clock post this S) : Met l yX6_clock wsX6_clock ({ frames := 3, cells := 0, slots := 0, locals := 70 } : Room) (va_Pc ([Value.ref this] : List Value) (bP D y z S A)) (va_Qv post (fun S' t => wd D y z S' A t.heap) A) 0 0 A := by
  refine Met.ofW (cc := cX6_clock) (maxL := 7) (ret := none) (by decide) rfl ?_
  intro p e s m args below meth c s₁ B hml hv
  obtain ⟨rfl, hB⟩ := hv
  have hx := B.exec
  have hb := B.bytes
  have hr := B.returns
  have hts := atoms_spec (ws := wsX6_clock) B.pre
  have hown : s.vm.findClass RX6 = some m.cls := findClass_of_methodNamed B.named
  have hlocks := B.notSynchronized
  have hw : wd D y z S A s.heap := hB.1
  have hK : va_K D bCl (bT y) s := hB.2.1
  have hNw := hB.2.2.1
  have hAn : ∀ q : Nat, s.heap.size ≤ q → A q := hB.2.2.2.1
  have hAz : ¬ A z := hB.2.2.2.2.1
  have hO := hB.2.2.2.2.2.1
  have hS : va_S A s.heap s.heap [] := va_S.rf
  have hiX6 : ∀ w ∈ u_ws RX6 TX6 17, w ∈ wsX6_clock := by decide +kernel
  have hl := lv_entry ([Value.ref this] : List Value) (n := 7) (Nat.le_of_ble_eq_true rfl)
  rw [lg_entry_eq]
  generalize (lg_sl ([Value.ref this] : List Value) ++ List.replicate (7 - (lg_sl ([Value.ref this] : List Value)).length) Slot.unset).toArray = ls at hl ⊢
  have hl : lv_has ls 7 [(0, .ref this)] := hl
  obtain ⟨Q, hQ⟩ : ∃ Q, Q = MQ below (va_Qv post (fun S' t => wd D y z S' A t.heap) A) (([Value.ref this] : List Value).toArray) s 0 0 A := ⟨_, rfl⟩
  rw [← hQ]
  generalize hR : (headSpec wsX6_clock ({ frames := 3, cells := 0, slots := 0, locals := 70 } : Room)).room = R
  have hRf : 3 ≤ R.frames := by rw [← hR]; exact Nat.le_refl _
  have hRl : 70 ≤ R.locals := by rw [← hR]; exact Nat.le_refl _
  have hret : ∀ (S : bS) (H : Heap) (locs : List Loc) (pc : Nat) (ls : Array Slot) , post S → wd D y z S A H → va_S A s.heap H locs → decode cX6_clock pc = .ok (.return_, 1) → W p l e R s m (([Value.ref this] : List Value).toArray) below meth c H locs 0 0 Q (F0 m pc ls []) := by
    intro S H locs pc ls h hw hS d0
    rw [hQ]; exact W.vret hx hb hr (fun t ht hW => ⟨⟨S, rfl, h, by show wd D y z S A t.heap; rw [ht]; exact hw⟩, hS.F ht⟩) hS.2.2 d0 hlocks
  have hB2 : ∀ (n2 : Nat) (S : bS) (H : Heap) (locs : List Loc) (ls : Array Slot) (v0 : Nat) (v1 : Int32), wb_X6_clock_2 post n2 v0 v1 S → wd D y z S A H → va_S A s.heap H locs → lv_has ls 7 [(0, .ref v0), (1, .int v1)] → W p l e R s m (([Value.ref this] : List Value).toArray) below meth c H locs 0 0 Q (F0 m 2 ls []) := by
    intro n2
    induction n2 with
    | zero =>
      intro S H locs ls v0 v1 h hw hS hl
      exact absurd h (by unfold wb_X6_clock_2; exact id)
    | succ n2 ih2 =>
      have hB170 : ∀ (S : bS) (H : Heap) (locs : List Loc) (ls : Array Slot) (v0 : Nat) (v1 : Int32), wb_X6_clock_170 post (wb_X6_clock_2 post n2) v0 v1 S → wd D y z S A H → va_S A s.heap H locs → lv_has ls 7 [(0, .ref v0), (1, .int v1)] → W p l e R s m (([Value.ref this] : List Value).toArray) below meth c H locs 0 0 Q (F0 m 170 ls []) := by
        intro S H locs ls v0 v1 h hw hS hl
        unfold wb_X6_clock_170 at h
        refine lv_iinc (v := (v1 + (1 : Int32))) hx hb dX6_clock_170 hl (k := 1) rfl rfl (by decide) rfl (fun ls hl => ?_)
        have hl : lv_has ls 7 [(1, .int (v1 + (1 : Int32))), (0, .ref v0)] := hl
        refine lv_goto (tgt := 2) hx hb dX6_clock_173 (by decide) ?_
        exact ih2 _ _ _ _ _ _ h hw hS (lv_sub hl [1, 0] rfl)
      have hB139 : ∀ (S : bS) (H : Heap) (locs : List Loc) (ls : Array Slot) (v0 : Nat) (v1 : Int32) (v4 : Int32) (v5 : Int32) (v6 : Int32), wb_X6_clock_139 post (wb_X6_clock_2 post n2) v0 v1 v4 v5 v6 S → wd D y z S A H → va_S A s.heap H locs → lv_has ls 7 [(0, .ref v0), (1, .int v1), (4, .int v4), (5, .int v5), (6, .int v6)] → W p l e R s m (([Value.ref this] : List Value).toArray) below meth c H locs 0 0 Q (F0 m 139 ls []) := by
        intro S H locs ls v0 v1 v4 v5 v6 h hw hS hl
        unfold wb_X6_clock_139 at h
        refine lv_iload hx hb dX6_clock_139 (lv_at hl 2 rfl) ?_
        refine lv_iconst (v := (2 : Int32)) hx hb dX6_clock_141 (by decide) ?_
        refine lv_icmp_ne (tgt := 170) hx hb dX6_clock_142 (by decide) (fun hc => ?_) (fun hc => ?_)
        · have h := h.1 hc
          exact hB170 _ _ _ _ _ _ h hw hS (lv_sub hl [0, 1] rfl)
        · have h := h.2 hc
          refine lv_iload hx hb dX6_clock_145 (lv_at hl 3 rfl) ?_
          refine lv_iload hx hb dX6_clock_147 (lv_at hl 4 rfl) ?_
          refine lv_icmp_eq (tgt := 170) hx hb dX6_clock_149 (by decide) (fun hc => ?_) (fun hc => ?_)
          · have h := h.1 hc
            exact hB170 _ _ _ _ _ _ h hw hS (lv_sub hl [0, 1] rfl)
          · have h := h.2 hc
            refine lv_aload_n hx hb dX6_clock_152 rfl (lv_at hl 0 rfl) ?_
            refine lv_iload hx hb dX6_clock_153 (lv_at hl 3 rfl) ?_
            obtain ⟨hk32, h⟩ := h
            have h1 := h
            refine va_calli (va_runV (As := [.int v5]) (rest := []) ⟨hx, hb, hml, hown, hts⟩ (m_X6_canSend (l := l) h1) (cwV 1 hts gX6_clock_X6_canSend rfl rfl rfl (by decide +kernel) ⟨Nat.le_trans (Nat.le_of_ble_eq_true rfl) hRf, Nat.le_trans (Nat.le_of_ble_eq_true rfl) hRl⟩) (r_pV hB hw hS (ce_8 (S := S) hk32) rfl) rfl rfl hl.1 rfl (lv_room (Nat.le_of_ble_eq_true rfl)) dX6_clock_155 ⟨Nat.zero_le _, Nat.zero_le _⟩) hS (fun _ _ h => h) (fun _ h => h) (fun r33 S34 t H1 locs ht _ h hw1 _ _ hS => ?_)
            subst ht
            have hw : wd D y z S34 A t.heap := hw1
            clear hw1 h1
            refine lv_if_eq (tgt := 170) hx hb dX6_clock_158 (by decide) (fun hc => ?_) (fun hc => ?_)
            · have h := h.1 hc
              exact hB170 _ _ _ _ _ _ h hw hS (lv_sub hl [0, 1] rfl)
            · have h := h.2 hc
              refine lv_aload_n hx hb dX6_clock_161 rfl (lv_at hl 0 rfl) ?_
              refine lv_iload hx hb dX6_clock_162 (lv_at hl 3 rfl) ?_
              refine lv_iload hx hb dX6_clock_164 (lv_at hl 4 rfl) ?_
              refine lv_iconst (v := (1 : Int32)) hx hb dX6_clock_166 (by decide) ?_
              obtain ⟨hk35, h⟩ := h
              have h1 := h
              refine va_callv (va_runV (As := [.int v5, .int v6, .int (1 : Int32)]) (rest := []) ⟨hx, hb, hml, hown, hts⟩ (m_X6_sendOff (l := l) h1) (cwV 3 hts gX6_clock_X6_sendOff rfl rfl rfl (by decide +kernel) ⟨Nat.le_trans (Nat.le_of_ble_eq_true rfl) hRf, Nat.le_trans (Nat.le_of_ble_eq_true rfl) hRl⟩) (r_pV hB hw hS (ce_8 (S := S34) hk35) rfl) rfl rfl hl.1 rfl (lv_room (Nat.le_of_ble_eq_true rfl)) dX6_clock_167 ⟨Nat.zero_le _, Nat.zero_le _⟩) hS (fun _ _ h => h) (fun _ h => h) (fun S37 t H1 locs ht _ h hw1 _ _ hS => ?_)
              subst ht
              have hw : wd D y z S37 A t.heap := hw1
              clear hw1 h1
              exact hB170 _ _ _ _ _ _ h hw hS (lv_sub hl [0, 1] rfl)
      have hB119 : ∀ (S : bS) (H : Heap) (locs : List Loc) (ls : Array Slot) (v0 : Nat) (v1 : Int32) (v4 : Int32) (v5 : Int32) (v6 : Int32), wb_X6_clock_119 post (wb_X6_clock_2 post n2) v0 v1 v4 v5 v6 S → wd D y z S A H → va_S A s.heap H locs → lv_has ls 7 [(0, .ref v0), (1, .int v1), (4, .int v4), (5, .int v5), (6, .int v6)] → W p l e R s m (([Value.ref this] : List Value).toArray) below meth c H locs 0 0 Q (F0 m 119 ls []) := by
        intro S H locs ls v0 v1 v4 v5 v6 h hw hS hl
        unfold wb_X6_clock_119 at h
        refine lv_iload hx hb dX6_clock_119 (lv_at hl 2 rfl) ?_
        refine lv_iconst (v := (1 : Int32)) hx hb dX6_clock_121 (by decide) ?_
        refine lv_icmp_ne (tgt := 139) hx hb dX6_clock_122 (by decide) (fun hc => ?_) (fun hc => ?_)
        · have h := h.1 hc
          exact hB139 _ _ _ _ _ _ _ _ _ h hw hS (lv_sub hl [0, 1, 2, 3, 4] rfl)
        · have h := h.2 hc
          refine lv_aload_n hx hb dX6_clock_125 rfl (lv_at hl 0 rfl) ?_
          obtain ⟨hk27, h⟩ := h
          obtain ⟨b28, hb29, h⟩ := h
          refine r_get (ci := 7) (v := .ref b28) (C := RX6) (T := TX6) (N := 17) hx hb hts hiX6 hown hK hw (ce_8 (S := S) hk27) rfl 10 (by decide) (hts (.fieldLink RX6 13 "TubePostModel" "tubeTable" "[I") (by decide +kernel)) (fun _ h9 => h9) (congrArg (fun q => some (va_rf q)) hb29) dX6_clock_126 ?_
          refine lv_bipush (v := (8 : Int32)) hx hb dX6_clock_129 (by decide) ?_
          refine lv_iload hx hb dX6_clock_131 (lv_at hl 3 rfl) ?_
          refine lv_imul hx hb dX6_clock_133 ?_
          refine lv_iconst (v := (5 : Int32)) hx hb dX6_clock_134 (by decide) ?_
          refine lv_iadd hx hb dX6_clock_135 ?_
          refine lv_iload hx hb dX6_clock_136 (lv_at hl 4 rfl) ?_
          obtain ⟨hk30, h⟩ := h
          obtain ⟨hin31, h⟩ := h
          refine r_iast hx hb hK hw hS hk30 hin31 dX6_clock_138 (fun H locs hw hS => ?_)
          exact hB139 _ _ _ _ _ _ _ _ _ h hw hS (lv_sub hl [0, 1, 2, 3, 4] rfl)
      have hB64 : ∀ (S : bS) (H : Heap) (locs : List Loc) (ls : Array Slot) (v0 : Nat) (v1 : Int32), wb_X6_clock_64 post (wb_X6_clock_2 post n2) v0 v1 S → wd D y z S A H → va_S A s.heap H locs → lv_has ls 7 [(0, .ref v0), (1, .int v1)] → W p l e R s m (([Value.ref this] : List Value).toArray) below meth c H locs 0 0 Q (F0 m 64 ls []) := by
        intro S H locs ls v0 v1 h hw hS hl
        unfold wb_X6_clock_64 at h
        refine lv_aload_n hx hb dX6_clock_64 rfl (lv_at hl 0 rfl) ?_
        obtain ⟨hk10, h⟩ := h
        obtain ⟨b11, hb12, h⟩ := h
        refine r_get (ci := 7) (v := .ref b11) (C := RX6) (T := TX6) (N := 17) hx hb hts hiX6 hown hK hw (ce_8 (S := S) hk10) rfl 11 (by decide) (hts (.fieldLink RX6 16 "TubePostModel" "entryTable" "[I") (by decide +kernel)) (fun _ h9 => h9) (congrArg (fun q => some (va_rf q)) hb12) dX6_clock_65 ?_
        refine lv_iconst (v := (5 : Int32)) hx hb dX6_clock_68 (by decide) ?_
        refine lv_iload_n hx hb dX6_clock_69 rfl (lv_at hl 1 rfl) ?_
        refine lv_imul hx hb dX6_clock_70 ?_
        refine lv_iconst (v := (2 : Int32)) hx hb dX6_clock_71 (by decide) ?_
        refine lv_iadd hx hb dX6_clock_72 ?_
        obtain ⟨hk13, h⟩ := h
        obtain ⟨hin14, h⟩ := h
        refine r_iald hx hb hK hw hk13 hin14 dX6_clock_73 ?_
        refine lv_istore hx hb dX6_clock_74 hl (by decide) rfl (fun ls hl => ?_)
        have hl : lv_has ls 7 [(4, .int (gV S 9 b11 (Int32.toNatClampNeg (((5 : Int32) * v1) + (2 : Int32))))), (0, .ref v0), (1, .int v1)] := hl
        refine lv_aload_n hx hb dX6_clock_76 rfl (lv_at hl 1 rfl) ?_
        obtain ⟨b15, hb16, h⟩ := h
        refine r_get (ci := 7) (v := .ref b15) (C := RX6) (T := TX6) (N := 17) hx hb hts hiX6 hown hK hw (ce_8 (S := S) hk10) rfl 11 (by decide) (hts (.fieldLink RX6 16 "TubePostModel" "entryTable" "[I") (by decide +kernel)) (fun _ h9 => h9) (congrArg (fun q => some (va_rf q)) hb16) dX6_clock_77 ?_
        refine lv_iconst (v := (5 : Int32)) hx hb dX6_clock_80 (by decide) ?_
        refine lv_iload_n hx hb dX6_clock_81 rfl (lv_at hl 2 rfl) ?_
        refine lv_imul hx hb dX6_clock_82 ?_
        refine lv_iconst (v := (3 : Int32)) hx hb dX6_clock_83 (by decide) ?_
        refine lv_iadd hx hb dX6_clock_84 ?_
        obtain ⟨hk17, h⟩ := h
        obtain ⟨hin18, h⟩ := h
        refine r_iald hx hb hK hw hk17 hin18 dX6_clock_85 ?_
        refine lv_istore hx hb dX6_clock_86 hl (by decide) rfl (fun ls hl => ?_)
        have hl : lv_has ls 7 [(5, .int (gV S 9 b15 (Int32.toNatClampNeg (((5 : Int32) * v1) + (3 : Int32))))), (4, .int (gV S 9 b11 (Int32.toNatClampNeg (((5 : Int32) * v1) + (2 : Int32))))), (0, .ref v0), (1, .int v1)] := hl
        refine lv_aload_n hx hb dX6_clock_88 rfl (lv_at hl 2 rfl) ?_
        obtain ⟨b19, hb20, h⟩ := h
        refine r_get (ci := 7) (v := .ref b19) (C := RX6) (T := TX6) (N := 17) hx hb hts hiX6 hown hK hw (ce_8 (S := S) hk10) rfl 11 (by decide) (hts (.fieldLink RX6 16 "TubePostModel" "entryTable" "[I") (by decide +kernel)) (fun _ h9 => h9) (congrArg (fun q => some (va_rf q)) hb20) dX6_clock_89 ?_
        refine lv_iconst (v := (5 : Int32)) hx hb dX6_clock_92 (by decide) ?_
        refine lv_iload_n hx hb dX6_clock_93 rfl (lv_at hl 3 rfl) ?_
        refine lv_imul hx hb dX6_clock_94 ?_
        refine lv_iconst (v := (4 : Int32)) hx hb dX6_clock_95 (by decide) ?_
        refine lv_iadd hx hb dX6_clock_96 ?_
        obtain ⟨hk21, h⟩ := h
        obtain ⟨hin22, h⟩ := h
        refine r_iald hx hb hK hw hk21 hin22 dX6_clock_97 ?_
        refine lv_istore hx hb dX6_clock_98 hl (by decide) rfl (fun ls hl => ?_)
        have hl : lv_has ls 7 [(6, .int (gV S 9 b19 (Int32.toNatClampNeg (((5 : Int32) * v1) + (4 : Int32))))), (5, .int (gV S 9 b15 (Int32.toNatClampNeg (((5 : Int32) * v1) + (3 : Int32))))), (4, .int (gV S 9 b11 (Int32.toNatClampNeg (((5 : Int32) * v1) + (2 : Int32))))), (0, .ref v0), (1, .int v1)] := hl
        refine lv_iload hx hb dX6_clock_100 (lv_at hl 2 rfl) ?_
        refine lv_if_ne (tgt := 119) hx hb dX6_clock_102 (by decide) (fun hc => ?_) (fun hc => ?_)
        · have h := h.1 hc
          exact hB119 _ _ _ _ _ _ _ _ _ h hw hS (lv_sub hl [3, 4, 2, 1, 0] rfl)
        · have h := h.2 hc
          refine lv_aload_n hx hb dX6_clock_105 rfl (lv_at hl 3 rfl) ?_
          obtain ⟨b23, hb24, h⟩ := h
          refine r_get (ci := 7) (v := .ref b23) (C := RX6) (T := TX6) (N := 17) hx hb hts hiX6 hown hK hw (ce_8 (S := S) hk10) rfl 9 (by decide) (hts (.fieldLink RX6 9 "TubePostModel" "stationTable" "[I") (by decide +kernel)) (fun _ h9 => h9) (congrArg (fun q => some (va_rf q)) hb24) dX6_clock_106 ?_
          refine lv_bipush (v := (9 : Int32)) hx hb dX6_clock_109 (by decide) ?_
          refine lv_iload hx hb dX6_clock_111 (lv_at hl 1 rfl) ?_
          refine lv_imul hx hb dX6_clock_113 ?_
          refine lv_iconst (v := (3 : Int32)) hx hb dX6_clock_114 (by decide) ?_
          refine lv_iadd hx hb dX6_clock_115 ?_
          refine lv_iload hx hb dX6_clock_116 (lv_at hl 0 rfl) ?_
          obtain ⟨hk25, h⟩ := h
          obtain ⟨hin26, h⟩ := h
          refine r_iast hx hb hK hw hS hk25 hin26 dX6_clock_118 (fun H locs hw hS => ?_)
          exact hB119 _ _ _ _ _ _ _ _ _ h hw hS (lv_sub hl [3, 4, 2, 1, 0] rfl)
      intro S H locs ls v0 v1 h hw hS hl
      unfold wb_X6_clock_2 at h
      refine lv_iload_n hx hb dX6_clock_2 rfl (lv_at hl 1 rfl) ?_
      refine lv_aload_n hx hb dX6_clock_3 rfl (lv_at hl 0 rfl) ?_
      obtain ⟨hk1, h⟩ := h
      refine r_get (ci := 7) (v := .int (gV S 8 v0 4)) (C := RX6) (T := TX6) (N := 17) hx hb hts hiX6 hown hK hw (ce_8 (S := S) hk1) rfl 4 (by decide) (hts (.fieldLink RX6 73 "TubePostModel" "entries" "I") (by decide +kernel)) (fun _ h9 => h9) rfl dX6_clock_4 ?_
      refine lv_icmp_ge (tgt := 176) hx hb dX6_clock_7 (by decide) (fun hc => ?_) (fun hc => ?_)
      · have h := h.1 hc
        exact hret _ _ _ _ _ h hw hS dX6_clock_176
      · have h := h.2 hc
        refine lv_aload_n hx hb dX6_clock_10 rfl (lv_at hl 0 rfl) ?_
        obtain ⟨b2, hb3, h⟩ := h
        refine r_get (ci := 7) (v := .ref b2) (C := RX6) (T := TX6) (N := 17) hx hb hts hiX6 hown hK hw (ce_8 (S := S) hk1) rfl 11 (by decide) (hts (.fieldLink RX6 16 "TubePostModel" "entryTable" "[I") (by decide +kernel)) (fun _ h9 => h9) (congrArg (fun q => some (va_rf q)) hb3) dX6_clock_11 ?_
        refine lv_iconst (v := (5 : Int32)) hx hb dX6_clock_14 (by decide) ?_
        refine lv_iload_n hx hb dX6_clock_15 rfl (lv_at hl 1 rfl) ?_
        refine lv_imul hx hb dX6_clock_16 ?_
        obtain ⟨hk4, h⟩ := h
        obtain ⟨hin5, h⟩ := h
        refine r_iald hx hb hK hw hk4 hin5 dX6_clock_17 ?_
        refine lv_istore_n hx hb dX6_clock_18 rfl hl (by decide) rfl (fun ls hl => ?_)
        have hl : lv_has ls 7 [(2, .int (gV S 9 b2 (Int32.toNatClampNeg ((5 : Int32) * v1)))), (0, .ref v0), (1, .int v1)] := hl
        refine lv_aload_n hx hb dX6_clock_19 rfl (lv_at hl 1 rfl) ?_
        obtain ⟨b6, hb7, h⟩ := h
        refine r_get (ci := 7) (v := .ref b6) (C := RX6) (T := TX6) (N := 17) hx hb hts hiX6 hown hK hw (ce_8 (S := S) hk1) rfl 11 (by decide) (hts (.fieldLink RX6 16 "TubePostModel" "entryTable" "[I") (by decide +kernel)) (fun _ h9 => h9) (congrArg (fun q => some (va_rf q)) hb7) dX6_clock_20 ?_
        refine lv_iconst (v := (5 : Int32)) hx hb dX6_clock_23 (by decide) ?_
        refine lv_iload_n hx hb dX6_clock_24 rfl (lv_at hl 2 rfl) ?_
        refine lv_imul hx hb dX6_clock_25 ?_
        refine lv_iconst (v := (1 : Int32)) hx hb dX6_clock_26 (by decide) ?_
        refine lv_iadd hx hb dX6_clock_27 ?_
        obtain ⟨hk8, h⟩ := h
        obtain ⟨hin9, h⟩ := h
        refine r_iald hx hb hK hw hk8 hin9 dX6_clock_28 ?_
        refine lv_istore_n hx hb dX6_clock_29 rfl hl (by decide) rfl (fun ls hl => ?_)
        have hl : lv_has ls 7 [(3, .int (gV S 9 b6 (Int32.toNatClampNeg (((5 : Int32) * v1) + (1 : Int32))))), (2, .int (gV S 9 b2 (Int32.toNatClampNeg ((5 : Int32) * v1)))), (0, .ref v0), (1, .int v1)] := hl
        refine lv_aload_n hx hb dX6_clock_30 rfl (lv_at hl 2 rfl) ?_
        refine r_get (ci := 7) (v := .int (gV S 8 v0 1)) (C := RX6) (T := TX6) (N := 17) hx hb hts hiX6 hown hK hw (ce_8 (S := S) hk1) rfl 1 (by decide) (hts (.fieldLink RX6 69 "TubePostModel" "tick" "I") (by decide +kernel)) (fun _ h9 => h9) rfl dX6_clock_31 ?_
        refine lv_iload_n hx hb dX6_clock_34 rfl (lv_at hl 1 rfl) ?_
        refine lv_icmp_eq (tgt := 64) hx hb dX6_clock_35 (by decide) (fun hc => ?_) (fun hc => ?_)
        · have h := h.1 hc
          exact hB64 _ _ _ _ _ _ h hw hS (lv_sub hl [2, 3] rfl)
        · have h := h.2 hc
          refine lv_iload_n hx hb dX6_clock_38 rfl (lv_at hl 0 rfl) ?_
          refine lv_if_eq (tgt := 170) hx hb dX6_clock_39 (by decide) (fun hc => ?_) (fun hc => ?_)
          · have h := h.1 hc
            exact hB170 _ _ _ _ _ _ h hw hS (lv_sub hl [2, 3] rfl)
          · have h := h.2 hc
            refine lv_aload_n hx hb dX6_clock_42 rfl (lv_at hl 2 rfl) ?_
            refine r_get (ci := 7) (v := .int (gV S 8 v0 1)) (C := RX6) (T := TX6) (N := 17) hx hb hts hiX6 hown hK hw (ce_8 (S := S) hk1) rfl 1 (by decide) (hts (.fieldLink RX6 69 "TubePostModel" "tick" "I") (by decide +kernel)) (fun _ h9 => h9) rfl dX6_clock_43 ?_
            refine lv_iload_n hx hb dX6_clock_46 rfl (lv_at hl 1 rfl) ?_
            refine lv_icmp_lt (tgt := 170) hx hb dX6_clock_47 (by decide) (fun hc => ?_) (fun hc => ?_)
            · have h := h.1 hc
              exact hB170 _ _ _ _ _ _ h hw hS (lv_sub hl [2, 3] rfl)
            · have h := h.2 hc
              refine lv_aload_n hx hb dX6_clock_50 rfl (lv_at hl 2 rfl) ?_
              refine r_get (ci := 7) (v := .int (gV S 8 v0 1)) (C := RX6) (T := TX6) (N := 17) hx hb hts hiX6 hown hK hw (ce_8 (S := S) hk1) rfl 1 (by decide) (hts (.fieldLink RX6 69 "TubePostModel" "tick" "I") (by decide +kernel)) (fun _ h9 => h9) rfl dX6_clock_51 ?_
              refine lv_iload_n hx hb dX6_clock_54 rfl (lv_at hl 1 rfl) ?_
              refine lv_isub hx hb dX6_clock_55 ?_
              refine lv_iload_n hx hb dX6_clock_56 rfl (lv_at hl 0 rfl) ?_
              obtain ⟨hne, h⟩ := h
              refine lv_irem hx hb dX6_clock_57 hne ?_
              refine lv_if_eq (tgt := 64) hx hb dX6_clock_58 (by decide) (fun hc => ?_) (fun hc => ?_)
              · have h := h.1 hc
                exact hB64 _ _ _ _ _ _ h hw hS (lv_sub hl [2, 3] rfl)
              · have h := h.2 hc
                refine lv_goto (tgt := 170) hx hb dX6_clock_61 (by decide) ?_
                exact hB170 _ _ _ _ _ _ h hw hS (lv_sub hl [2, 3] rfl)
  unfold wp_X6_clock at h
  refine lv_iconst (v := (0 : Int32)) hx hb dX6_clock_0 (by decide) ?_
  refine lv_istore_n hx hb dX6_clock_1 rfl hl (by decide) rfl (fun ls hl => ?_)
  have hl : lv_has ls 7 [(1, .int (0 : Int32)), (0, .ref this)] := hl
  obtain ⟨n2, h⟩ := h
  exact hB2 n2 _ _ _ _ _ _ h hw hS (lv_sub hl [1, 0] rfl)
def wb_X6_firstIn_68 (post : Int32 → bS → Prop) (rec4 : Nat → Int32 → Int32 → Int32 → bS → Prop) (v0 : Nat) (v1 : Int32) (v2 : Int32) (v3 : Int32) (S : bS) : Prop := rec4 v0 v1 v2 (v3 + (1 : Int32)) S
def wb_X6_firstIn_65 (post : Int32 → bS → Prop) (rec4 : Nat → Int32 → Int32 → Int32 → bS → Prop) (v0 : Nat) (v1 : Int32) (v3 : Int32) (v4 : Int32) (S : bS) : Prop := wb_X6_firstIn_68 post rec4 v0 v1 v4 v3 S
def wb_X6_firstIn_4 (post : Int32 → bS → Prop) : Nat → Nat → Int32 → Int32 → Int32 → bS → Prop
  | 0, _, _, _, _, _ => False
  | n + 1, v0, v1, v2, v3, S => gK S v0 = 8 ∧ (((gV S 8 v0 14) ≤ v3 → post v2 S) ∧ (¬ ((gV S 8 v0 14) ≤ v3) → ∃ b2, gQ S 8 v0 13 = some b2 ∧ (gK S b2 = 9 ∧ (vp_in v3 (gN S b2) ∧ (wp_X6_get (fun r6 S7 => (r6 ≠ (2 : Int32) → wb_X6_firstIn_68 post (wb_X6_firstIn_4 post n) v0 v1 v2 v3 S7) ∧ (r6 = (2 : Int32) → gK S7 v0 = 8 ∧ (wp_X6_get (fun r9 S10 => (r9 ≠ v1 → wb_X6_firstIn_68 post (wb_X6_firstIn_4 post n) v0 v1 v2 v3 S10) ∧ (r9 = v1 → (v2 = (-1 : Int32) → wb_X6_firstIn_65 post (wb_X6_firstIn_4 post n) v0 v1 v3 (gV S 9 b2 (Int32.toNatClampNeg v3)) S10) ∧ (¬ (v2 = (-1 : Int32)) → gK S10 v0 = 8 ∧ (wp_X6_get (fun r12 S13 => gK S13 v0 = 8 ∧ (wp_X6_get (fun r15 S16 => (r15 ≤ r12 → wb_X6_firstIn_68 post (wb_X6_firstIn_4 post n) v0 v1 v2 v3 S16) ∧ (¬ (r15 ≤ r12) → wb_X6_firstIn_65 post (wb_X6_firstIn_4 post n) v0 v1 v3 (gV S 9 b2 (Int32.toNatClampNeg v3)) S16)) v0 v2 (7 : Int32) S13)) v0 (gV S 9 b2 (Int32.toNatClampNeg v3)) (7 : Int32) S10)))) v0 (gV S 9 b2 (Int32.toNatClampNeg v3)) (1 : Int32) S7))) v0 (gV S 9 b2 (Int32.toNatClampNeg v3)) (0 : Int32) S)))))
def wp_X6_firstIn (post : Int32 → bS → Prop) (this : Nat) (p1 : Int32) (S : bS) : Prop := ∃ n4, wb_X6_firstIn_4 post n4 this p1 (-1 : Int32) (0 : Int32) S
set_option maxHeartbeats 4000000 in
set_option maxRecDepth 100000 in
theorem m_X6_firstIn {l : Launch} {D : va_G} {y : Nat → ClassId} {z : Nat} {A : Nat → Prop} {S : bS} {post : Int32 → bS → Prop} {this : Nat} {p1 : Int32} (h : wp_X6_firstIn post this p1 S) : Met l yX6_firstIn wsX6_firstIn ({ frames := 1, cells := 0, slots := 0, locals := 22 } : Room) (va_Pc ([Value.ref this, Value.int p1] : List Value) (bP D y z S A)) (va_Qi post (fun S' t => wd D y z S' A t.heap) A) 0 0 A := by
  refine Met.ofW (cc := cX6_firstIn) (maxL := 5) (ret := (some .int)) (by decide) rfl ?_
  intro p e s m args below meth c s₁ B hml hv
  obtain ⟨rfl, hB⟩ := hv
  have hx := B.exec
  have hb := B.bytes
  have hr := B.returns
  have hts := atoms_spec (ws := wsX6_firstIn) B.pre
  have hown : s.vm.findClass RX6 = some m.cls := findClass_of_methodNamed B.named
  have hlocks := B.notSynchronized
  have hw : wd D y z S A s.heap := hB.1
  have hK : va_K D bCl (bT y) s := hB.2.1
  have hNw := hB.2.2.1
  have hAn : ∀ q : Nat, s.heap.size ≤ q → A q := hB.2.2.2.1
  have hAz : ¬ A z := hB.2.2.2.2.1
  have hO := hB.2.2.2.2.2.1
  have hS : va_S A s.heap s.heap [] := va_S.rf
  have hiX6 : ∀ w ∈ u_ws RX6 TX6 17, w ∈ wsX6_firstIn := by decide +kernel
  have hl := lv_entry ([Value.ref this, Value.int p1] : List Value) (n := 5) (Nat.le_of_ble_eq_true rfl)
  rw [lg_entry_eq]
  generalize (lg_sl ([Value.ref this, Value.int p1] : List Value) ++ List.replicate (5 - (lg_sl ([Value.ref this, Value.int p1] : List Value)).length) Slot.unset).toArray = ls at hl ⊢
  have hl : lv_has ls 5 [(0, .ref this), (1, .int p1)] := hl
  obtain ⟨Q, hQ⟩ : ∃ Q, Q = MQ below (va_Qi post (fun S' t => wd D y z S' A t.heap) A) (([Value.ref this, Value.int p1] : List Value).toArray) s 0 0 A := ⟨_, rfl⟩
  rw [← hQ]
  generalize hR : (headSpec wsX6_firstIn ({ frames := 1, cells := 0, slots := 0, locals := 22 } : Room)).room = R
  have hRf : 1 ≤ R.frames := by rw [← hR]; exact Nat.le_refl _
  have hRl : 22 ≤ R.locals := by rw [← hR]; exact Nat.le_refl _
  have hret : ∀ (v : Int32) (S : bS) (H : Heap) (locs : List Loc) (pc : Nat) (ls : Array Slot) , post v S → wd D y z S A H → va_S A s.heap H locs → decode cX6_firstIn pc = .ok (.ireturn, 1) → W p l e R s m (([Value.ref this, Value.int p1] : List Value).toArray) below meth c H locs 0 0 Q (F0 m pc ls [.int v]) := by
    intro v S H locs pc ls h hw hS d0
    rw [hQ]; exact W.iret hx hb hr (fun t ht hW => ⟨⟨v, S, rfl, h, by show wd D y z S A t.heap; rw [ht]; exact hw⟩, hS.F ht⟩) hS.2.2 d0 hlocks
  have hB4 : ∀ (n4 : Nat) (S : bS) (H : Heap) (locs : List Loc) (ls : Array Slot) (v0 : Nat) (v1 : Int32) (v2 : Int32) (v3 : Int32), wb_X6_firstIn_4 post n4 v0 v1 v2 v3 S → wd D y z S A H → va_S A s.heap H locs → lv_has ls 5 [(0, .ref v0), (1, .int v1), (2, .int v2), (3, .int v3)] → W p l e R s m (([Value.ref this, Value.int p1] : List Value).toArray) below meth c H locs 0 0 Q (F0 m 4 ls []) := by
    intro n4
    induction n4 with
    | zero =>
      intro S H locs ls v0 v1 v2 v3 h hw hS hl
      exact absurd h (by unfold wb_X6_firstIn_4; exact id)
    | succ n4 ih4 =>
      have hB68 : ∀ (S : bS) (H : Heap) (locs : List Loc) (ls : Array Slot) (v0 : Nat) (v1 : Int32) (v2 : Int32) (v3 : Int32), wb_X6_firstIn_68 post (wb_X6_firstIn_4 post n4) v0 v1 v2 v3 S → wd D y z S A H → va_S A s.heap H locs → lv_has ls 5 [(0, .ref v0), (1, .int v1), (2, .int v2), (3, .int v3)] → W p l e R s m (([Value.ref this, Value.int p1] : List Value).toArray) below meth c H locs 0 0 Q (F0 m 68 ls []) := by
        intro S H locs ls v0 v1 v2 v3 h hw hS hl
        unfold wb_X6_firstIn_68 at h
        refine lv_iinc (v := (v3 + (1 : Int32))) hx hb dX6_firstIn_68 hl (k := 3) rfl rfl (by decide) rfl (fun ls hl => ?_)
        have hl : lv_has ls 5 [(3, .int (v3 + (1 : Int32))), (0, .ref v0), (1, .int v1), (2, .int v2)] := hl
        refine lv_goto (tgt := 4) hx hb dX6_firstIn_71 (by decide) ?_
        exact ih4 _ _ _ _ _ _ _ _ h hw hS (lv_sub hl [1, 2, 3, 0] rfl)
      have hB65 : ∀ (S : bS) (H : Heap) (locs : List Loc) (ls : Array Slot) (v0 : Nat) (v1 : Int32) (v3 : Int32) (v4 : Int32), wb_X6_firstIn_65 post (wb_X6_firstIn_4 post n4) v0 v1 v3 v4 S → wd D y z S A H → va_S A s.heap H locs → lv_has ls 5 [(0, .ref v0), (1, .int v1), (3, .int v3), (4, .int v4)] → W p l e R s m (([Value.ref this, Value.int p1] : List Value).toArray) below meth c H locs 0 0 Q (F0 m 65 ls []) := by
        intro S H locs ls v0 v1 v3 v4 h hw hS hl
        unfold wb_X6_firstIn_65 at h
        refine lv_iload hx hb dX6_firstIn_65 (lv_at hl 3 rfl) ?_
        refine lv_istore_n hx hb dX6_firstIn_67 rfl hl (by decide) rfl (fun ls hl => ?_)
        have hl : lv_has ls 5 [(2, .int v4), (0, .ref v0), (1, .int v1), (3, .int v3), (4, .int v4)] := hl
        exact hB68 _ _ _ _ _ _ _ _ h hw hS (lv_sub hl [1, 2, 0, 3] rfl)
      intro S H locs ls v0 v1 v2 v3 h hw hS hl
      unfold wb_X6_firstIn_4 at h
      refine lv_iload_n hx hb dX6_firstIn_4 rfl (lv_at hl 3 rfl) ?_
      refine lv_aload_n hx hb dX6_firstIn_5 rfl (lv_at hl 0 rfl) ?_
      obtain ⟨hk1, h⟩ := h
      refine r_get (ci := 7) (v := .int (gV S 8 v0 14)) (C := RX6) (T := TX6) (N := 17) hx hb hts hiX6 hown hK hw (ce_8 (S := S) hk1) rfl 14 (by decide) (hts (.fieldLink RX6 76 "TubePostModel" "actives" "I") (by decide +kernel)) (fun _ h9 => h9) rfl dX6_firstIn_6 ?_
      refine lv_icmp_ge (tgt := 74) hx hb dX6_firstIn_9 (by decide) (fun hc => ?_) (fun hc => ?_)
      · have h := h.1 hc
        refine lv_iload_n hx hb dX6_firstIn_74 rfl (lv_at hl 2 rfl) ?_
        exact hret v2 _ _ _ _ _ h hw hS dX6_firstIn_75
      · have h := h.2 hc
        refine lv_aload_n hx hb dX6_firstIn_12 rfl (lv_at hl 0 rfl) ?_
        obtain ⟨b2, hb3, h⟩ := h
        refine r_get (ci := 7) (v := .ref b2) (C := RX6) (T := TX6) (N := 17) hx hb hts hiX6 hown hK hw (ce_8 (S := S) hk1) rfl 13 (by decide) (hts (.fieldLink RX6 22 "TubePostModel" "active" "[I") (by decide +kernel)) (fun _ h9 => h9) (congrArg (fun q => some (va_rf q)) hb3) dX6_firstIn_13 ?_
        refine lv_iload_n hx hb dX6_firstIn_16 rfl (lv_at hl 3 rfl) ?_
        obtain ⟨hk4, h⟩ := h
        obtain ⟨hin5, h⟩ := h
        refine r_iald hx hb hK hw hk4 hin5 dX6_firstIn_17 ?_
        refine lv_istore hx hb dX6_firstIn_18 hl (by decide) rfl (fun ls hl => ?_)
        have hl : lv_has ls 5 [(4, .int (gV S 9 b2 (Int32.toNatClampNeg v3))), (0, .ref v0), (1, .int v1), (2, .int v2), (3, .int v3)] := hl
        refine lv_aload_n hx hb dX6_firstIn_20 rfl (lv_at hl 1 rfl) ?_
        refine lv_iload hx hb dX6_firstIn_21 (lv_at hl 0 rfl) ?_
        refine lv_iconst (v := (0 : Int32)) hx hb dX6_firstIn_23 (by decide) ?_
        have h1 := h
        refine va_calli (va_runV (As := [.int (gV S 9 b2 (Int32.toNatClampNeg v3)), .int (0 : Int32)]) (rest := []) ⟨hx, hb, hml, hown, hts⟩ (m_X6_get (l := l) h1) (cwV 2 hts gX6_firstIn_X6_get rfl rfl rfl (by decide +kernel) ⟨Nat.le_trans (Nat.le_of_ble_eq_true rfl) hRf, Nat.le_trans (Nat.le_of_ble_eq_true rfl) hRl⟩) (r_pV hB hw hS (ce_8 (S := S) hk1) rfl) rfl rfl hl.1 rfl (lv_room (Nat.le_of_ble_eq_true rfl)) dX6_firstIn_24 ⟨Nat.zero_le _, Nat.zero_le _⟩) hS (fun _ _ h => h) (fun _ h => h) (fun r6 S7 t H1 locs ht _ h hw1 _ _ hS => ?_)
        subst ht
        have hw : wd D y z S7 A t.heap := hw1
        clear hw1 h1
        refine lv_iconst (v := (2 : Int32)) hx hb dX6_firstIn_27 (by decide) ?_
        refine lv_icmp_ne (tgt := 68) hx hb dX6_firstIn_28 (by decide) (fun hc => ?_) (fun hc => ?_)
        · have h := h.1 hc
          exact hB68 _ _ _ _ _ _ _ _ h hw hS (lv_sub hl [1, 2, 3, 4] rfl)
        · have h := h.2 hc
          refine lv_aload_n hx hb dX6_firstIn_31 rfl (lv_at hl 1 rfl) ?_
          refine lv_iload hx hb dX6_firstIn_32 (lv_at hl 0 rfl) ?_
          refine lv_iconst (v := (1 : Int32)) hx hb dX6_firstIn_34 (by decide) ?_
          obtain ⟨hk8, h⟩ := h
          have h1 := h
          refine va_calli (va_runV (As := [.int (gV S 9 b2 (Int32.toNatClampNeg v3)), .int (1 : Int32)]) (rest := []) ⟨hx, hb, hml, hown, hts⟩ (m_X6_get (l := l) h1) (cwV 2 hts gX6_firstIn_X6_get rfl rfl rfl (by decide +kernel) ⟨Nat.le_trans (Nat.le_of_ble_eq_true rfl) hRf, Nat.le_trans (Nat.le_of_ble_eq_true rfl) hRl⟩) (r_pV hB hw hS (ce_8 (S := S7) hk8) rfl) rfl rfl hl.1 rfl (lv_room (Nat.le_of_ble_eq_true rfl)) dX6_firstIn_35 ⟨Nat.zero_le _, Nat.zero_le _⟩) hS (fun _ _ h => h) (fun _ h => h) (fun r9 S10 t H1 locs ht _ h hw1 _ _ hS => ?_)
          subst ht
          have hw : wd D y z S10 A t.heap := hw1
          clear hw1 h1
          refine lv_iload_n hx hb dX6_firstIn_38 rfl (lv_at hl 2 rfl) ?_
          refine lv_icmp_ne (tgt := 68) hx hb dX6_firstIn_39 (by decide) (fun hc => ?_) (fun hc => ?_)
          · have h := h.1 hc
            exact hB68 _ _ _ _ _ _ _ _ h hw hS (lv_sub hl [1, 2, 3, 4] rfl)
          · have h := h.2 hc
            refine lv_iload_n hx hb dX6_firstIn_42 rfl (lv_at hl 3 rfl) ?_
            refine lv_iconst (v := (-1 : Int32)) hx hb dX6_firstIn_43 (by decide) ?_
            refine lv_icmp_eq (tgt := 65) hx hb dX6_firstIn_44 (by decide) (fun hc => ?_) (fun hc => ?_)
            · have h := h.1 hc
              exact hB65 _ _ _ _ _ _ _ _ h hw hS (lv_sub hl [1, 2, 4, 0] rfl)
            · have h := h.2 hc
              refine lv_aload_n hx hb dX6_firstIn_47 rfl (lv_at hl 1 rfl) ?_
              refine lv_iload hx hb dX6_firstIn_48 (lv_at hl 0 rfl) ?_
              refine lv_bipush (v := (7 : Int32)) hx hb dX6_firstIn_50 (by decide) ?_
              obtain ⟨hk11, h⟩ := h
              have h1 := h
              refine va_calli (va_runV (As := [.int (gV S 9 b2 (Int32.toNatClampNeg v3)), .int (7 : Int32)]) (rest := []) ⟨hx, hb, hml, hown, hts⟩ (m_X6_get (l := l) h1) (cwV 2 hts gX6_firstIn_X6_get rfl rfl rfl (by decide +kernel) ⟨Nat.le_trans (Nat.le_of_ble_eq_true rfl) hRf, Nat.le_trans (Nat.le_of_ble_eq_true rfl) hRl⟩) (r_pV hB hw hS (ce_8 (S := S10) hk11) rfl) rfl rfl hl.1 rfl (lv_room (Nat.le_of_ble_eq_true rfl)) dX6_firstIn_52 ⟨Nat.zero_le _, Nat.zero_le _⟩) hS (fun _ _ h => h) (fun _ h => h) (fun r12 S13 t H1 locs ht _ h hw1 _ _ hS => ?_)
              subst ht
              have hw : wd D y z S13 A t.heap := hw1
              clear hw1 h1
              refine lv_aload_n hx hb dX6_firstIn_55 rfl (lv_at hl 1 rfl) ?_
              refine lv_iload_n hx hb dX6_firstIn_56 rfl (lv_at hl 3 rfl) ?_
              refine lv_bipush (v := (7 : Int32)) hx hb dX6_firstIn_57 (by decide) ?_
              obtain ⟨hk14, h⟩ := h
              have h1 := h
              refine va_calli (va_runV (As := [.int v2, .int (7 : Int32)]) (rest := [.int r12]) ⟨hx, hb, hml, hown, hts⟩ (m_X6_get (l := l) h1) (cwV 2 hts gX6_firstIn_X6_get rfl rfl rfl (by decide +kernel) ⟨Nat.le_trans (Nat.le_of_ble_eq_true rfl) hRf, Nat.le_trans (Nat.le_of_ble_eq_true rfl) hRl⟩) (r_pV hB hw hS (ce_8 (S := S13) hk14) rfl) rfl rfl hl.1 rfl (lv_room (Nat.le_of_ble_eq_true rfl)) dX6_firstIn_59 ⟨Nat.zero_le _, Nat.zero_le _⟩) hS (fun _ _ h => h) (fun _ h => h) (fun r15 S16 t H1 locs ht _ h hw1 _ _ hS => ?_)
              subst ht
              have hw : wd D y z S16 A t.heap := hw1
              clear hw1 h1
              refine lv_icmp_ge (tgt := 68) hx hb dX6_firstIn_62 (by decide) (fun hc => ?_) (fun hc => ?_)
              · have h := h.1 hc
                exact hB68 _ _ _ _ _ _ _ _ h hw hS (lv_sub hl [1, 2, 3, 4] rfl)
              · have h := h.2 hc
                exact hB65 _ _ _ _ _ _ _ _ h hw hS (lv_sub hl [1, 2, 4, 0] rfl)
  unfold wp_X6_firstIn at h
  refine lv_iconst (v := (-1 : Int32)) hx hb dX6_firstIn_0 (by decide) ?_
  refine lv_istore_n hx hb dX6_firstIn_1 rfl hl (by decide) rfl (fun ls hl => ?_)
  have hl : lv_has ls 5 [(2, .int (-1 : Int32)), (0, .ref this), (1, .int p1)] := hl
  refine lv_iconst (v := (0 : Int32)) hx hb dX6_firstIn_2 (by decide) ?_
  refine lv_istore_n hx hb dX6_firstIn_3 rfl hl (by decide) rfl (fun ls hl => ?_)
  have hl : lv_has ls 5 [(3, .int (0 : Int32)), (2, .int (-1 : Int32)), (0, .ref this), (1, .int p1)] := hl
  obtain ⟨n4, h⟩ := h
  exact hB4 n4 _ _ _ _ _ _ _ _ h hw hS (lv_sub hl [2, 3, 1, 0] rfl)
def wb_X6_isDue_31 (post : Int32 → bS → Prop) (s0 : Int32) (S : bS) : Prop := (s0 = 0 ∨ s0 = 1) ∧ post s0 S
def wb_X6_isDue_30 (post : Int32 → bS → Prop) (S : bS) : Prop := wb_X6_isDue_31 post (0 : Int32) S
def wp_X6_isDue (post : Int32 → bS → Prop) (this : Nat) (p1 : Int32) (S : bS) : Prop := (p1 = (-1 : Int32) → wb_X6_isDue_30 post S) ∧ (¬ (p1 = (-1 : Int32)) → gK S this = 8 ∧ (wp_X6_get (fun r2 S3 => gK S3 this = 8 ∧ (wp_X6_get (fun r5 S6 => (((gV S 8 this 1) - r2) < r5 → wb_X6_isDue_30 post S6) ∧ (¬ (((gV S 8 this 1) - r2) < r5) → wb_X6_isDue_31 post (1 : Int32) S6)) this p1 (8 : Int32) S3)) this p1 (5 : Int32) S))
set_option maxHeartbeats 4000000 in
set_option maxRecDepth 100000 in
theorem m_X6_isDue {l : Launch} {D : va_G} {y : Nat → ClassId} {z : Nat} {A : Nat → Prop} {S : bS} {post : Int32 → bS → Prop} {this : Nat} {p1 : Int32} (h : wp_X6_isDue post this p1 S) : Met l yX6_isDue wsX6_isDue ({ frames := 1, cells := 0, slots := 0, locals := 22 } : Room) (va_Pc ([Value.ref this, Value.int p1] : List Value) (bP D y z S A)) (va_Qi post (fun S' t => wd D y z S' A t.heap) A) 0 0 A := by
  refine Met.ofW (cc := cX6_isDue) (maxL := 2) (ret := (some .boolean)) (by decide) rfl ?_
  intro p e s m args below meth c s₁ B hml hv
  obtain ⟨rfl, hB⟩ := hv
  have hx := B.exec
  have hb := B.bytes
  have hr := B.returns
  have hts := atoms_spec (ws := wsX6_isDue) B.pre
  have hown : s.vm.findClass RX6 = some m.cls := findClass_of_methodNamed B.named
  have hlocks := B.notSynchronized
  have hw : wd D y z S A s.heap := hB.1
  have hK : va_K D bCl (bT y) s := hB.2.1
  have hNw := hB.2.2.1
  have hAn : ∀ q : Nat, s.heap.size ≤ q → A q := hB.2.2.2.1
  have hAz : ¬ A z := hB.2.2.2.2.1
  have hO := hB.2.2.2.2.2.1
  have hS : va_S A s.heap s.heap [] := va_S.rf
  have hiX6 : ∀ w ∈ u_ws RX6 TX6 17, w ∈ wsX6_isDue := by decide +kernel
  have hl := lv_entry ([Value.ref this, Value.int p1] : List Value) (n := 2) (Nat.le_of_ble_eq_true rfl)
  rw [lg_entry_eq]
  generalize (lg_sl ([Value.ref this, Value.int p1] : List Value) ++ List.replicate (2 - (lg_sl ([Value.ref this, Value.int p1] : List Value)).length) Slot.unset).toArray = ls at hl ⊢
  have hl : lv_has ls 2 [(0, .ref this), (1, .int p1)] := hl
  obtain ⟨Q, hQ⟩ : ∃ Q, Q = MQ below (va_Qi post (fun S' t => wd D y z S' A t.heap) A) (([Value.ref this, Value.int p1] : List Value).toArray) s 0 0 A := ⟨_, rfl⟩
  rw [← hQ]
  generalize hR : (headSpec wsX6_isDue ({ frames := 1, cells := 0, slots := 0, locals := 22 } : Room)).room = R
  have hRf : 1 ≤ R.frames := by rw [← hR]; exact Nat.le_refl _
  have hRl : 22 ≤ R.locals := by rw [← hR]; exact Nat.le_refl _
  have hret : ∀ (v : Int32) (S : bS) (H : Heap) (locs : List Loc) (pc : Nat) (ls : Array Slot) , (v = 0 ∨ v = 1) → post v S → wd D y z S A H → va_S A s.heap H locs → decode cX6_isDue pc = .ok (.ireturn, 1) → W p l e R s m (([Value.ref this, Value.int p1] : List Value).toArray) below meth c H locs 0 0 Q (F0 m pc ls [.int v]) := by
    intro v S H locs pc ls hz h hw hS d0
    rw [hQ]; exact W.zret hx hb hr (b_nz hz) (fun t ht hW => ⟨⟨v, S, rfl, h, by show wd D y z S A t.heap; rw [ht]; exact hw⟩, hS.F ht⟩) hS.2.2 d0 hlocks
  have hB31 : ∀ (S : bS) (H : Heap) (locs : List Loc) (ls : Array Slot) (s0 : Int32), wb_X6_isDue_31 post s0 S → wd D y z S A H → va_S A s.heap H locs → lv_has ls 2 [] → W p l e R s m (([Value.ref this, Value.int p1] : List Value).toArray) below meth c H locs 0 0 Q (F0 m 31 ls [.int s0]) := by
    intro S H locs ls s0 h hw hS hl
    unfold wb_X6_isDue_31 at h
    obtain ⟨hz, h⟩ := h
    exact hret _ _ _ _ _ _ hz h hw hS dX6_isDue_31
  have hB30 : ∀ (S : bS) (H : Heap) (locs : List Loc) (ls : Array Slot) , wb_X6_isDue_30 post S → wd D y z S A H → va_S A s.heap H locs → lv_has ls 2 [] → W p l e R s m (([Value.ref this, Value.int p1] : List Value).toArray) below meth c H locs 0 0 Q (F0 m 30 ls []) := by
    intro S H locs ls  h hw hS hl
    unfold wb_X6_isDue_30 at h
    refine lv_iconst (v := (0 : Int32)) hx hb dX6_isDue_30 (by decide) ?_
    exact hB31 _ _ _ _ _ h hw hS (lv_sub hl [] rfl)
  unfold wp_X6_isDue at h
  refine lv_iload_n hx hb dX6_isDue_0 rfl (lv_at hl 1 rfl) ?_
  refine lv_iconst (v := (-1 : Int32)) hx hb dX6_isDue_1 (by decide) ?_
  refine lv_icmp_eq (tgt := 30) hx hb dX6_isDue_2 (by decide) (fun hc => ?_) (fun hc => ?_)
  · have h := h.1 hc
    exact hB30 _ _ _ _ h hw hS (lv_sub hl [] rfl)
  · have h := h.2 hc
    refine lv_aload_n hx hb dX6_isDue_5 rfl (lv_at hl 0 rfl) ?_
    obtain ⟨hk1, h⟩ := h
    refine r_get (ci := 7) (v := .int (gV S 8 this 1)) (C := RX6) (T := TX6) (N := 17) hx hb hts hiX6 hown hK hw (ce_8 (S := S) hk1) rfl 1 (by decide) (hts (.fieldLink RX6 69 "TubePostModel" "tick" "I") (by decide +kernel)) (fun _ h9 => h9) rfl dX6_isDue_6 ?_
    refine lv_aload_n hx hb dX6_isDue_9 rfl (lv_at hl 0 rfl) ?_
    refine lv_iload_n hx hb dX6_isDue_10 rfl (lv_at hl 1 rfl) ?_
    refine lv_iconst (v := (5 : Int32)) hx hb dX6_isDue_11 (by decide) ?_
    have h1 := h
    refine va_calli (va_runV (As := [.int p1, .int (5 : Int32)]) (rest := [.int (gV S 8 this 1)]) ⟨hx, hb, hml, hown, hts⟩ (m_X6_get (l := l) h1) (cwV 2 hts gX6_isDue_X6_get rfl rfl rfl (by decide +kernel) ⟨Nat.le_trans (Nat.le_of_ble_eq_true rfl) hRf, Nat.le_trans (Nat.le_of_ble_eq_true rfl) hRl⟩) (r_pV hB hw hS (ce_8 (S := S) hk1) rfl) rfl rfl hl.1 rfl (lv_room (Nat.le_of_ble_eq_true rfl)) dX6_isDue_12 ⟨Nat.zero_le _, Nat.zero_le _⟩) hS (fun _ _ h => h) (fun _ h => h) (fun r2 S3 t H1 locs ht _ h hw1 _ _ hS => ?_)
    subst ht
    have hw : wd D y z S3 A t.heap := hw1
    clear hw1 h1
    refine lv_isub hx hb dX6_isDue_15 ?_
    refine lv_aload_n hx hb dX6_isDue_16 rfl (lv_at hl 0 rfl) ?_
    refine lv_iload_n hx hb dX6_isDue_17 rfl (lv_at hl 1 rfl) ?_
    refine lv_bipush (v := (8 : Int32)) hx hb dX6_isDue_18 (by decide) ?_
    obtain ⟨hk4, h⟩ := h
    have h1 := h
    refine va_calli (va_runV (As := [.int p1, .int (8 : Int32)]) (rest := [.int ((gV S 8 this 1) - r2)]) ⟨hx, hb, hml, hown, hts⟩ (m_X6_get (l := l) h1) (cwV 2 hts gX6_isDue_X6_get rfl rfl rfl (by decide +kernel) ⟨Nat.le_trans (Nat.le_of_ble_eq_true rfl) hRf, Nat.le_trans (Nat.le_of_ble_eq_true rfl) hRl⟩) (r_pV hB hw hS (ce_8 (S := S3) hk4) rfl) rfl rfl hl.1 rfl (lv_room (Nat.le_of_ble_eq_true rfl)) dX6_isDue_20 ⟨Nat.zero_le _, Nat.zero_le _⟩) hS (fun _ _ h => h) (fun _ h => h) (fun r5 S6 t H1 locs ht _ h hw1 _ _ hS => ?_)
    subst ht
    have hw : wd D y z S6 A t.heap := hw1
    clear hw1 h1
    refine lv_icmp_lt (tgt := 30) hx hb dX6_isDue_23 (by decide) (fun hc => ?_) (fun hc => ?_)
    · have h := h.1 hc
      exact hB30 _ _ _ _ h hw hS (lv_sub hl [] rfl)
    · have h := h.2 hc
      refine lv_iconst (v := (1 : Int32)) hx hb dX6_isDue_26 (by decide) ?_
      refine lv_goto (tgt := 31) hx hb dX6_isDue_27 (by decide) ?_
      exact hB31 _ _ _ _ _ h hw hS (lv_sub hl [] rfl)
def wb_X6_deliver_103 (post : bS → Prop) (rec64 : Nat → Int32 → Int32 → Int32 → bS → Prop) (v0 : Nat) (v1 : Int32) (v3 : Int32) (v4 : Int32) (S : bS) : Prop := rec64 v0 v1 v3 (v4 + (1 : Int32)) S
def wb_X6_deliver_64 (post : bS → Prop) : Nat → Nat → Int32 → Int32 → Int32 → bS → Prop
  | 0, _, _, _, _, _ => False
  | n + 1, v0, v1, v3, v4, S => gK S v0 = 8 ∧ (((gV S 8 v0 14) ≤ v4 → post (sV S 8 v0 14 v3)) ∧ (¬ ((gV S 8 v0 14) ≤ v4) → ∃ b17, gQ S 8 v0 13 = some b17 ∧ (gK S b17 = 9 ∧ (vp_in v4 (gN S b17) ∧ (((gV S 9 b17 (Int32.toNatClampNeg v4)) ≠ v1 → ∃ b21, gQ S 8 v0 13 = some b21 ∧ (∃ b23, gQ S 8 v0 13 = some b23 ∧ (gK S b23 = 9 ∧ (vp_in v4 (gN S b23) ∧ (gK S b21 = 9 ∧ (vp_in v3 (gN S b21) ∧ (wb_X6_deliver_103 post (wb_X6_deliver_64 post n) v0 v1 (v3 + (1 : Int32)) v4 (sV S 9 b21 (Int32.toNatClampNeg v3) (gV S 9 b23 (Int32.toNatClampNeg v4)))))))))) ∧ ((gV S 9 b17 (Int32.toNatClampNeg v4)) = v1 → wb_X6_deliver_103 post (wb_X6_deliver_64 post n) v0 v1 v3 v4 S))))))
def wp_X6_deliver (post : bS → Prop) (this : Nat) (p1 : Int32) (S : bS) : Prop := gK S this = 8 ∧ (wp_X6_get (fun r2 S3 => gK S3 this = 8 ∧ (wp_X6_put (fun S6 => gK S6 this = 8 ∧ (∃ b8, gQ S6 8 this 9 = some b8 ∧ (gK S6 b8 = 9 ∧ (vp_in (((9 : Int32) * r2) + (4 : Int32)) (gN S6 b8) ∧ (vp_in (((9 : Int32) * r2) + (4 : Int32)) (gN S6 b8) ∧ (wp_X6_get (fun r13 S14 => gK S14 this = 8 ∧ (∃ n64, wb_X6_deliver_64 post n64 this p1 (0 : Int32) (0 : Int32) (sV S14 8 this 7 ((gV (sV (sV S6 9 b8 (Int32.toNatClampNeg (((9 : Int32) * r2) + (4 : Int32))) ((gV S6 9 b8 (Int32.toNatClampNeg (((9 : Int32) * r2) + (4 : Int32)))) + (1 : Int32))) 8 this 6 ((gV (sV S6 9 b8 (Int32.toNatClampNeg (((9 : Int32) * r2) + (4 : Int32))) ((gV S6 9 b8 (Int32.toNatClampNeg (((9 : Int32) * r2) + (4 : Int32)))) + (1 : Int32))) 8 this 6) + (1 : Int32))) 8 this 7) + ((gV (sV (sV S6 9 b8 (Int32.toNatClampNeg (((9 : Int32) * r2) + (4 : Int32))) ((gV S6 9 b8 (Int32.toNatClampNeg (((9 : Int32) * r2) + (4 : Int32)))) + (1 : Int32))) 8 this 6 ((gV (sV S6 9 b8 (Int32.toNatClampNeg (((9 : Int32) * r2) + (4 : Int32))) ((gV S6 9 b8 (Int32.toNatClampNeg (((9 : Int32) * r2) + (4 : Int32)))) + (1 : Int32))) 8 this 6) + (1 : Int32))) 8 this 1) - r13))))) this p1 (4 : Int32) (sV (sV S6 9 b8 (Int32.toNatClampNeg (((9 : Int32) * r2) + (4 : Int32))) ((gV S6 9 b8 (Int32.toNatClampNeg (((9 : Int32) * r2) + (4 : Int32)))) + (1 : Int32))) 8 this 6 ((gV (sV S6 9 b8 (Int32.toNatClampNeg (((9 : Int32) * r2) + (4 : Int32))) ((gV S6 9 b8 (Int32.toNatClampNeg (((9 : Int32) * r2) + (4 : Int32)))) + (1 : Int32))) 8 this 6) + (1 : Int32))))))))) this p1 (3 : Int32) r2 S3)) this p1 (2 : Int32) S)
set_option maxHeartbeats 4000000 in
set_option maxRecDepth 100000 in
theorem m_X6_deliver {l : Launch} {D : va_G} {y : Nat → ClassId} {z : Nat} {A : Nat → Prop} {S : bS} {post : bS → Prop} {this : Nat} {p1 : Int32} (h : wp_X6_deliver post this p1 S) : Met l yX6_deliver wsX6_deliver ({ frames := 2, cells := 0, slots := 0, locals := 46 } : Room) (va_Pc ([Value.ref this, Value.int p1] : List Value) (bP D y z S A)) (va_Qv post (fun S' t => wd D y z S' A t.heap) A) 0 0 A := by
  refine Met.ofW (cc := cX6_deliver) (maxL := 5) (ret := none) (by decide) rfl ?_
  intro p e s m args below meth c s₁ B hml hv
  obtain ⟨rfl, hB⟩ := hv
  have hx := B.exec
  have hb := B.bytes
  have hr := B.returns
  have hts := atoms_spec (ws := wsX6_deliver) B.pre
  have hown : s.vm.findClass RX6 = some m.cls := findClass_of_methodNamed B.named
  have hlocks := B.notSynchronized
  have hw : wd D y z S A s.heap := hB.1
  have hK : va_K D bCl (bT y) s := hB.2.1
  have hNw := hB.2.2.1
  have hAn : ∀ q : Nat, s.heap.size ≤ q → A q := hB.2.2.2.1
  have hAz : ¬ A z := hB.2.2.2.2.1
  have hO := hB.2.2.2.2.2.1
  have hS : va_S A s.heap s.heap [] := va_S.rf
  have hiX6 : ∀ w ∈ u_ws RX6 TX6 17, w ∈ wsX6_deliver := by decide +kernel
  have hl := lv_entry ([Value.ref this, Value.int p1] : List Value) (n := 5) (Nat.le_of_ble_eq_true rfl)
  rw [lg_entry_eq]
  generalize (lg_sl ([Value.ref this, Value.int p1] : List Value) ++ List.replicate (5 - (lg_sl ([Value.ref this, Value.int p1] : List Value)).length) Slot.unset).toArray = ls at hl ⊢
  have hl : lv_has ls 5 [(0, .ref this), (1, .int p1)] := hl
  obtain ⟨Q, hQ⟩ : ∃ Q, Q = MQ below (va_Qv post (fun S' t => wd D y z S' A t.heap) A) (([Value.ref this, Value.int p1] : List Value).toArray) s 0 0 A := ⟨_, rfl⟩
  rw [← hQ]
  generalize hR : (headSpec wsX6_deliver ({ frames := 2, cells := 0, slots := 0, locals := 46 } : Room)).room = R
  have hRf : 2 ≤ R.frames := by rw [← hR]; exact Nat.le_refl _
  have hRl : 46 ≤ R.locals := by rw [← hR]; exact Nat.le_refl _
  have hret : ∀ (S : bS) (H : Heap) (locs : List Loc) (pc : Nat) (ls : Array Slot) , post S → wd D y z S A H → va_S A s.heap H locs → decode cX6_deliver pc = .ok (.return_, 1) → W p l e R s m (([Value.ref this, Value.int p1] : List Value).toArray) below meth c H locs 0 0 Q (F0 m pc ls []) := by
    intro S H locs pc ls h hw hS d0
    rw [hQ]; exact W.vret hx hb hr (fun t ht hW => ⟨⟨S, rfl, h, by show wd D y z S A t.heap; rw [ht]; exact hw⟩, hS.F ht⟩) hS.2.2 d0 hlocks
  have hB64 : ∀ (n64 : Nat) (S : bS) (H : Heap) (locs : List Loc) (ls : Array Slot) (v0 : Nat) (v1 : Int32) (v3 : Int32) (v4 : Int32), wb_X6_deliver_64 post n64 v0 v1 v3 v4 S → wd D y z S A H → va_S A s.heap H locs → lv_has ls 5 [(0, .ref v0), (1, .int v1), (3, .int v3), (4, .int v4)] → W p l e R s m (([Value.ref this, Value.int p1] : List Value).toArray) below meth c H locs 0 0 Q (F0 m 64 ls []) := by
    intro n64
    induction n64 with
    | zero =>
      intro S H locs ls v0 v1 v3 v4 h hw hS hl
      exact absurd h (by unfold wb_X6_deliver_64; exact id)
    | succ n64 ih64 =>
      have hB103 : ∀ (S : bS) (H : Heap) (locs : List Loc) (ls : Array Slot) (v0 : Nat) (v1 : Int32) (v3 : Int32) (v4 : Int32), wb_X6_deliver_103 post (wb_X6_deliver_64 post n64) v0 v1 v3 v4 S → wd D y z S A H → va_S A s.heap H locs → lv_has ls 5 [(0, .ref v0), (1, .int v1), (3, .int v3), (4, .int v4)] → W p l e R s m (([Value.ref this, Value.int p1] : List Value).toArray) below meth c H locs 0 0 Q (F0 m 103 ls []) := by
        intro S H locs ls v0 v1 v3 v4 h hw hS hl
        unfold wb_X6_deliver_103 at h
        refine lv_iinc (v := (v4 + (1 : Int32))) hx hb dX6_deliver_103 hl (k := 3) rfl rfl (by decide) rfl (fun ls hl => ?_)
        have hl : lv_has ls 5 [(4, .int (v4 + (1 : Int32))), (0, .ref v0), (1, .int v1), (3, .int v3)] := hl
        refine lv_goto (tgt := 64) hx hb dX6_deliver_106 (by decide) ?_
        exact ih64 _ _ _ _ _ _ _ _ h hw hS (lv_sub hl [1, 2, 3, 0] rfl)
      intro S H locs ls v0 v1 v3 v4 h hw hS hl
      unfold wb_X6_deliver_64 at h
      refine lv_iload hx hb dX6_deliver_64 (lv_at hl 3 rfl) ?_
      refine lv_aload_n hx hb dX6_deliver_66 rfl (lv_at hl 0 rfl) ?_
      obtain ⟨hk16, h⟩ := h
      refine r_get (ci := 7) (v := .int (gV S 8 v0 14)) (C := RX6) (T := TX6) (N := 17) hx hb hts hiX6 hown hK hw (ce_8 (S := S) hk16) rfl 14 (by decide) (hts (.fieldLink RX6 76 "TubePostModel" "actives" "I") (by decide +kernel)) (fun _ h9 => h9) rfl dX6_deliver_67 ?_
      refine lv_icmp_ge (tgt := 109) hx hb dX6_deliver_70 (by decide) (fun hc => ?_) (fun hc => ?_)
      · have h := h.1 hc
        refine lv_aload_n hx hb dX6_deliver_109 rfl (lv_at hl 0 rfl) ?_
        refine lv_iload_n hx hb dX6_deliver_110 rfl (lv_at hl 2 rfl) ?_
        refine r_putI (κ := 8) (ci := 7) (C := RX6) (T := TX6) (N := 17) (ty := .int) (x := v3) hx hb hts hiX6 tyX6 tyX6_ok nmX6 hown hK hw hS (ce_8 (S := S) hk16) rfl 14 (by decide) (hts (.fieldLink RX6 76 "TubePostModel" "actives" "I") (by decide +kernel)) (fun _ h9 => h9) rfl (by decide +kernel) rfl rfl (Nat.le_of_ble_eq_true rfl) (pu_8_14 (S := S) hk16) dX6_deliver_111 (fun H locs hw hS => ?_)
        exact hret _ _ _ _ _ h hw hS dX6_deliver_114
      · have h := h.2 hc
        refine lv_aload_n hx hb dX6_deliver_73 rfl (lv_at hl 0 rfl) ?_
        obtain ⟨b17, hb18, h⟩ := h
        refine r_get (ci := 7) (v := .ref b17) (C := RX6) (T := TX6) (N := 17) hx hb hts hiX6 hown hK hw (ce_8 (S := S) hk16) rfl 13 (by decide) (hts (.fieldLink RX6 22 "TubePostModel" "active" "[I") (by decide +kernel)) (fun _ h9 => h9) (congrArg (fun q => some (va_rf q)) hb18) dX6_deliver_74 ?_
        refine lv_iload hx hb dX6_deliver_77 (lv_at hl 3 rfl) ?_
        obtain ⟨hk19, h⟩ := h
        obtain ⟨hin20, h⟩ := h
        refine r_iald hx hb hK hw hk19 hin20 dX6_deliver_79 ?_
        refine lv_iload_n hx hb dX6_deliver_80 rfl (lv_at hl 1 rfl) ?_
        refine lv_icmp_ne (tgt := 87) hx hb dX6_deliver_81 (by decide) (fun hc => ?_) (fun hc => ?_)
        · have h := h.1 hc
          refine lv_aload_n hx hb dX6_deliver_87 rfl (lv_at hl 0 rfl) ?_
          obtain ⟨b21, hb22, h⟩ := h
          refine r_get (ci := 7) (v := .ref b21) (C := RX6) (T := TX6) (N := 17) hx hb hts hiX6 hown hK hw (ce_8 (S := S) hk16) rfl 13 (by decide) (hts (.fieldLink RX6 22 "TubePostModel" "active" "[I") (by decide +kernel)) (fun _ h9 => h9) (congrArg (fun q => some (va_rf q)) hb22) dX6_deliver_88 ?_
          refine lv_iload_n hx hb dX6_deliver_91 rfl (lv_at hl 2 rfl) ?_
          refine lv_aload_n hx hb dX6_deliver_92 rfl (lv_at hl 0 rfl) ?_
          obtain ⟨b23, hb24, h⟩ := h
          refine r_get (ci := 7) (v := .ref b23) (C := RX6) (T := TX6) (N := 17) hx hb hts hiX6 hown hK hw (ce_8 (S := S) hk16) rfl 13 (by decide) (hts (.fieldLink RX6 22 "TubePostModel" "active" "[I") (by decide +kernel)) (fun _ h9 => h9) (congrArg (fun q => some (va_rf q)) hb24) dX6_deliver_93 ?_
          refine lv_iload hx hb dX6_deliver_96 (lv_at hl 3 rfl) ?_
          obtain ⟨hk25, h⟩ := h
          obtain ⟨hin26, h⟩ := h
          refine r_iald hx hb hK hw hk25 hin26 dX6_deliver_98 ?_
          obtain ⟨hk27, h⟩ := h
          obtain ⟨hin28, h⟩ := h
          refine r_iast hx hb hK hw hS hk27 hin28 dX6_deliver_99 (fun H locs hw hS => ?_)
          refine lv_iinc (v := (v3 + (1 : Int32))) hx hb dX6_deliver_100 hl (k := 2) rfl rfl (by decide) rfl (fun ls hl => ?_)
          have hl : lv_has ls 5 [(3, .int (v3 + (1 : Int32))), (0, .ref v0), (1, .int v1), (4, .int v4)] := hl
          exact hB103 _ _ _ _ _ _ _ _ h hw hS (lv_sub hl [1, 2, 0, 3] rfl)
        · have h := h.2 hc
          refine lv_goto (tgt := 103) hx hb dX6_deliver_84 (by decide) ?_
          exact hB103 _ _ _ _ _ _ _ _ h hw hS (lv_sub hl [0, 1, 2, 3] rfl)
  unfold wp_X6_deliver at h
  refine lv_aload_n hx hb dX6_deliver_0 rfl (lv_at hl 0 rfl) ?_
  refine lv_iload_n hx hb dX6_deliver_1 rfl (lv_at hl 1 rfl) ?_
  refine lv_iconst (v := (2 : Int32)) hx hb dX6_deliver_2 (by decide) ?_
  obtain ⟨hk1, h⟩ := h
  have h1 := h
  refine va_calli (va_runV (As := [.int p1, .int (2 : Int32)]) (rest := []) ⟨hx, hb, hml, hown, hts⟩ (m_X6_get (l := l) h1) (cwV 2 hts gX6_deliver_X6_get rfl rfl rfl (by decide +kernel) ⟨Nat.le_trans (Nat.le_of_ble_eq_true rfl) hRf, Nat.le_trans (Nat.le_of_ble_eq_true rfl) hRl⟩) (r_pV hB hw hS (ce_8 (S := S) hk1) rfl) rfl rfl hl.1 rfl (lv_room (Nat.le_of_ble_eq_true rfl)) dX6_deliver_3 ⟨Nat.zero_le _, Nat.zero_le _⟩) hS (fun _ _ h => h) (fun _ h => h) (fun r2 S3 t H1 locs ht _ h hw1 _ _ hS => ?_)
  subst ht
  have hw : wd D y z S3 A t.heap := hw1
  clear hw1 h1
  refine lv_istore_n hx hb dX6_deliver_6 rfl hl (by decide) rfl (fun ls hl => ?_)
  have hl : lv_has ls 5 [(2, .int r2), (0, .ref this), (1, .int p1)] := hl
  refine lv_aload_n hx hb dX6_deliver_7 rfl (lv_at hl 1 rfl) ?_
  refine lv_iload_n hx hb dX6_deliver_8 rfl (lv_at hl 2 rfl) ?_
  refine lv_iconst (v := (3 : Int32)) hx hb dX6_deliver_9 (by decide) ?_
  refine lv_iload_n hx hb dX6_deliver_10 rfl (lv_at hl 0 rfl) ?_
  obtain ⟨hk4, h⟩ := h
  have h1 := h
  refine va_callv (va_runV (As := [.int p1, .int (3 : Int32), .int r2]) (rest := []) ⟨hx, hb, hml, hown, hts⟩ (m_X6_put (l := l) h1) (cwV 3 hts gX6_deliver_X6_put rfl rfl rfl (by decide +kernel) ⟨Nat.le_trans (Nat.le_of_ble_eq_true rfl) hRf, Nat.le_trans (Nat.le_of_ble_eq_true rfl) hRl⟩) (r_pV hB hw hS (ce_8 (S := S3) hk4) rfl) rfl rfl hl.1 rfl (lv_room (Nat.le_of_ble_eq_true rfl)) dX6_deliver_11 ⟨Nat.zero_le _, Nat.zero_le _⟩) hS (fun _ _ h => h) (fun _ h => h) (fun S6 t H1 locs ht _ h hw1 _ _ hS => ?_)
  subst ht
  have hw : wd D y z S6 A t.heap := hw1
  clear hw1 h1
  refine lv_aload_n hx hb dX6_deliver_14 rfl (lv_at hl 1 rfl) ?_
  obtain ⟨hk7, h⟩ := h
  obtain ⟨b8, hb9, h⟩ := h
  refine r_get (ci := 7) (v := .ref b8) (C := RX6) (T := TX6) (N := 17) hx hb hts hiX6 hown hK hw (ce_8 (S := S6) hk7) rfl 9 (by decide) (hts (.fieldLink RX6 9 "TubePostModel" "stationTable" "[I") (by decide +kernel)) (fun _ h9 => h9) (congrArg (fun q => some (va_rf q)) hb9) dX6_deliver_15 ?_
  refine lv_bipush (v := (9 : Int32)) hx hb dX6_deliver_18 (by decide) ?_
  refine lv_iload_n hx hb dX6_deliver_20 rfl (lv_at hl 0 rfl) ?_
  refine lv_imul hx hb dX6_deliver_21 ?_
  refine lv_iconst (v := (4 : Int32)) hx hb dX6_deliver_22 (by decide) ?_
  refine lv_iadd hx hb dX6_deliver_23 ?_
  refine lv_dup2_11 hx hb dX6_deliver_24 rfl rfl ?_
  obtain ⟨hk10, h⟩ := h
  obtain ⟨hin11, h⟩ := h
  refine r_iald hx hb hK hw hk10 hin11 dX6_deliver_25 ?_
  refine lv_iconst (v := (1 : Int32)) hx hb dX6_deliver_26 (by decide) ?_
  refine lv_iadd hx hb dX6_deliver_27 ?_
  obtain ⟨hin12, h⟩ := h
  refine r_iast hx hb hK hw hS hk10 hin12 dX6_deliver_28 (fun H locs hw hS => ?_)
  refine lv_aload_n hx hb dX6_deliver_29 rfl (lv_at hl 1 rfl) ?_
  refine lv_dup hx hb dX6_deliver_30 rfl ?_
  refine r_get (ci := 7) (v := .int (gV (sV S6 9 b8 (Int32.toNatClampNeg (((9 : Int32) * r2) + (4 : Int32))) ((gV S6 9 b8 (Int32.toNatClampNeg (((9 : Int32) * r2) + (4 : Int32)))) + (1 : Int32))) 8 this 6)) (C := RX6) (T := TX6) (N := 17) hx hb hts hiX6 hown hK hw (ce_8 (S := (sV S6 9 b8 (Int32.toNatClampNeg (((9 : Int32) * r2) + (4 : Int32))) ((gV S6 9 b8 (Int32.toNatClampNeg (((9 : Int32) * r2) + (4 : Int32)))) + (1 : Int32)))) hk7) rfl 6 (by decide) (hts (.fieldLink RX6 114 "TubePostModel" "delivered" "I") (by decide +kernel)) (fun _ h9 => h9) rfl dX6_deliver_31 ?_
  refine lv_iconst (v := (1 : Int32)) hx hb dX6_deliver_34 (by decide) ?_
  refine lv_iadd hx hb dX6_deliver_35 ?_
  refine r_putI (κ := 8) (ci := 7) (C := RX6) (T := TX6) (N := 17) (ty := .int) (x := ((gV (sV S6 9 b8 (Int32.toNatClampNeg (((9 : Int32) * r2) + (4 : Int32))) ((gV S6 9 b8 (Int32.toNatClampNeg (((9 : Int32) * r2) + (4 : Int32)))) + (1 : Int32))) 8 this 6) + (1 : Int32))) hx hb hts hiX6 tyX6 tyX6_ok nmX6 hown hK hw hS (ce_8 (S := (sV S6 9 b8 (Int32.toNatClampNeg (((9 : Int32) * r2) + (4 : Int32))) ((gV S6 9 b8 (Int32.toNatClampNeg (((9 : Int32) * r2) + (4 : Int32)))) + (1 : Int32)))) hk7) rfl 6 (by decide) (hts (.fieldLink RX6 114 "TubePostModel" "delivered" "I") (by decide +kernel)) (fun _ h9 => h9) rfl (by decide +kernel) rfl rfl (Nat.le_of_ble_eq_true rfl) (pu_8_6 (S := (sV S6 9 b8 (Int32.toNatClampNeg (((9 : Int32) * r2) + (4 : Int32))) ((gV S6 9 b8 (Int32.toNatClampNeg (((9 : Int32) * r2) + (4 : Int32)))) + (1 : Int32)))) hk7) dX6_deliver_36 (fun H locs hw hS => ?_)
  refine lv_aload_n hx hb dX6_deliver_39 rfl (lv_at hl 1 rfl) ?_
  refine lv_dup hx hb dX6_deliver_40 rfl ?_
  refine r_get (ci := 7) (v := .int (gV (sV (sV S6 9 b8 (Int32.toNatClampNeg (((9 : Int32) * r2) + (4 : Int32))) ((gV S6 9 b8 (Int32.toNatClampNeg (((9 : Int32) * r2) + (4 : Int32)))) + (1 : Int32))) 8 this 6 ((gV (sV S6 9 b8 (Int32.toNatClampNeg (((9 : Int32) * r2) + (4 : Int32))) ((gV S6 9 b8 (Int32.toNatClampNeg (((9 : Int32) * r2) + (4 : Int32)))) + (1 : Int32))) 8 this 6) + (1 : Int32))) 8 this 7)) (C := RX6) (T := TX6) (N := 17) hx hb hts hiX6 hown hK hw (ce_8 (S := (sV (sV S6 9 b8 (Int32.toNatClampNeg (((9 : Int32) * r2) + (4 : Int32))) ((gV S6 9 b8 (Int32.toNatClampNeg (((9 : Int32) * r2) + (4 : Int32)))) + (1 : Int32))) 8 this 6 ((gV (sV S6 9 b8 (Int32.toNatClampNeg (((9 : Int32) * r2) + (4 : Int32))) ((gV S6 9 b8 (Int32.toNatClampNeg (((9 : Int32) * r2) + (4 : Int32)))) + (1 : Int32))) 8 this 6) + (1 : Int32)))) hk7) rfl 7 (by decide) (hts (.fieldLink RX6 117 "TubePostModel" "all" "I") (by decide +kernel)) (fun _ h9 => h9) rfl dX6_deliver_41 ?_
  refine lv_aload_n hx hb dX6_deliver_44 rfl (lv_at hl 1 rfl) ?_
  refine r_get (ci := 7) (v := .int (gV (sV (sV S6 9 b8 (Int32.toNatClampNeg (((9 : Int32) * r2) + (4 : Int32))) ((gV S6 9 b8 (Int32.toNatClampNeg (((9 : Int32) * r2) + (4 : Int32)))) + (1 : Int32))) 8 this 6 ((gV (sV S6 9 b8 (Int32.toNatClampNeg (((9 : Int32) * r2) + (4 : Int32))) ((gV S6 9 b8 (Int32.toNatClampNeg (((9 : Int32) * r2) + (4 : Int32)))) + (1 : Int32))) 8 this 6) + (1 : Int32))) 8 this 1)) (C := RX6) (T := TX6) (N := 17) hx hb hts hiX6 hown hK hw (ce_8 (S := (sV (sV S6 9 b8 (Int32.toNatClampNeg (((9 : Int32) * r2) + (4 : Int32))) ((gV S6 9 b8 (Int32.toNatClampNeg (((9 : Int32) * r2) + (4 : Int32)))) + (1 : Int32))) 8 this 6 ((gV (sV S6 9 b8 (Int32.toNatClampNeg (((9 : Int32) * r2) + (4 : Int32))) ((gV S6 9 b8 (Int32.toNatClampNeg (((9 : Int32) * r2) + (4 : Int32)))) + (1 : Int32))) 8 this 6) + (1 : Int32)))) hk7) rfl 1 (by decide) (hts (.fieldLink RX6 69 "TubePostModel" "tick" "I") (by decide +kernel)) (fun _ h9 => h9) rfl dX6_deliver_45 ?_
  refine lv_aload_n hx hb dX6_deliver_48 rfl (lv_at hl 1 rfl) ?_
  refine lv_iload_n hx hb dX6_deliver_49 rfl (lv_at hl 2 rfl) ?_
  refine lv_iconst (v := (4 : Int32)) hx hb dX6_deliver_50 (by decide) ?_
  have h1 := h
  refine va_calli (va_runV (As := [.int p1, .int (4 : Int32)]) (rest := [.int (gV (sV (sV S6 9 b8 (Int32.toNatClampNeg (((9 : Int32) * r2) + (4 : Int32))) ((gV S6 9 b8 (Int32.toNatClampNeg (((9 : Int32) * r2) + (4 : Int32)))) + (1 : Int32))) 8 this 6 ((gV (sV S6 9 b8 (Int32.toNatClampNeg (((9 : Int32) * r2) + (4 : Int32))) ((gV S6 9 b8 (Int32.toNatClampNeg (((9 : Int32) * r2) + (4 : Int32)))) + (1 : Int32))) 8 this 6) + (1 : Int32))) 8 this 1), .int (gV (sV (sV S6 9 b8 (Int32.toNatClampNeg (((9 : Int32) * r2) + (4 : Int32))) ((gV S6 9 b8 (Int32.toNatClampNeg (((9 : Int32) * r2) + (4 : Int32)))) + (1 : Int32))) 8 this 6 ((gV (sV S6 9 b8 (Int32.toNatClampNeg (((9 : Int32) * r2) + (4 : Int32))) ((gV S6 9 b8 (Int32.toNatClampNeg (((9 : Int32) * r2) + (4 : Int32)))) + (1 : Int32))) 8 this 6) + (1 : Int32))) 8 this 7), .ref this]) ⟨hx, hb, hml, hown, hts⟩ (m_X6_get (l := l) h1) (cwV 2 hts gX6_deliver_X6_get rfl rfl rfl (by decide +kernel) ⟨Nat.le_trans (Nat.le_of_ble_eq_true rfl) hRf, Nat.le_trans (Nat.le_of_ble_eq_true rfl) hRl⟩) (r_pV hB hw hS (ce_8 (S := (sV (sV S6 9 b8 (Int32.toNatClampNeg (((9 : Int32) * r2) + (4 : Int32))) ((gV S6 9 b8 (Int32.toNatClampNeg (((9 : Int32) * r2) + (4 : Int32)))) + (1 : Int32))) 8 this 6 ((gV (sV S6 9 b8 (Int32.toNatClampNeg (((9 : Int32) * r2) + (4 : Int32))) ((gV S6 9 b8 (Int32.toNatClampNeg (((9 : Int32) * r2) + (4 : Int32)))) + (1 : Int32))) 8 this 6) + (1 : Int32)))) hk7) rfl) rfl rfl hl.1 rfl (lv_room (Nat.le_of_ble_eq_true rfl)) dX6_deliver_51 ⟨Nat.zero_le _, Nat.zero_le _⟩) hS (fun _ _ h => h) (fun _ h => h) (fun r13 S14 t H1 locs ht _ h hw1 _ _ hS => ?_)
  subst ht
  have hw : wd D y z S14 A t.heap := hw1
  clear hw1 h1
  refine lv_isub hx hb dX6_deliver_54 ?_
  refine lv_iadd hx hb dX6_deliver_55 ?_
  obtain ⟨hk15, h⟩ := h
  refine r_putI (κ := 8) (ci := 7) (C := RX6) (T := TX6) (N := 17) (ty := .int) (x := ((gV (sV (sV S6 9 b8 (Int32.toNatClampNeg (((9 : Int32) * r2) + (4 : Int32))) ((gV S6 9 b8 (Int32.toNatClampNeg (((9 : Int32) * r2) + (4 : Int32)))) + (1 : Int32))) 8 this 6 ((gV (sV S6 9 b8 (Int32.toNatClampNeg (((9 : Int32) * r2) + (4 : Int32))) ((gV S6 9 b8 (Int32.toNatClampNeg (((9 : Int32) * r2) + (4 : Int32)))) + (1 : Int32))) 8 this 6) + (1 : Int32))) 8 this 7) + ((gV (sV (sV S6 9 b8 (Int32.toNatClampNeg (((9 : Int32) * r2) + (4 : Int32))) ((gV S6 9 b8 (Int32.toNatClampNeg (((9 : Int32) * r2) + (4 : Int32)))) + (1 : Int32))) 8 this 6 ((gV (sV S6 9 b8 (Int32.toNatClampNeg (((9 : Int32) * r2) + (4 : Int32))) ((gV S6 9 b8 (Int32.toNatClampNeg (((9 : Int32) * r2) + (4 : Int32)))) + (1 : Int32))) 8 this 6) + (1 : Int32))) 8 this 1) - r13))) hx hb hts hiX6 tyX6 tyX6_ok nmX6 hown hK hw hS (ce_8 (S := S14) hk15) rfl 7 (by decide) (hts (.fieldLink RX6 117 "TubePostModel" "all" "I") (by decide +kernel)) (fun _ h9 => h9) rfl (by decide +kernel) rfl rfl (Nat.le_of_ble_eq_true rfl) (pu_8_7 (S := S14) hk15) dX6_deliver_56 (fun H locs hw hS => ?_)
  refine lv_iconst (v := (0 : Int32)) hx hb dX6_deliver_59 (by decide) ?_
  refine lv_istore_n hx hb dX6_deliver_60 rfl hl (by decide) rfl (fun ls hl => ?_)
  have hl : lv_has ls 5 [(3, .int (0 : Int32)), (2, .int r2), (0, .ref this), (1, .int p1)] := hl
  refine lv_iconst (v := (0 : Int32)) hx hb dX6_deliver_61 (by decide) ?_
  refine lv_istore hx hb dX6_deliver_62 hl (by decide) rfl (fun ls hl => ?_)
  have hl : lv_has ls 5 [(4, .int (0 : Int32)), (3, .int (0 : Int32)), (2, .int r2), (0, .ref this), (1, .int p1)] := hl
  obtain ⟨n64, h⟩ := h
  exact hB64 n64 _ _ _ _ _ _ _ _ h hw hS (lv_sub hl [3, 4, 1, 0] rfl)
def wb_X6_arrivals_65 (post : bS → Prop) (rec13 : Nat → Int32 → Int32 → Int32 → bS → Prop) (v0 : Nat) (v1 : Int32) (v2 : Int32) (S : bS) : Prop := gK S v0 = 8 ∧ (wp_X6_firstIn (fun r26 S27 => rec13 v0 v1 v2 r26 S27) v0 v1 S)
def wb_X6_arrivals_13 (post : bS → Prop) : Nat → Nat → Int32 → Int32 → Int32 → bS → Prop
  | 0, _, _, _, _, _ => False
  | n + 1, v0, v1, v2, v3, S => gK S v0 = 8 ∧ (wp_X6_isDue (fun r8 S9 => (r8 = (0 : Int32) → post S9) ∧ (¬ (r8 = (0 : Int32)) → gK S9 v0 = 8 ∧ (wp_X6_get (fun r11 S12 => (r11 ≠ v2 → gK S12 v0 = 8 ∧ (wp_X6_manyAt (fun r14 S15 => gK S15 v0 = 8 ∧ (wp_X6_st (fun r17 S18 => (r17 ≤ r14 → post S18) ∧ (¬ (r17 ≤ r14) → gK S18 v0 = 8 ∧ (wp_X6_put (fun S21 => wb_X6_arrivals_65 post (wb_X6_arrivals_13 post n) v0 v1 v2 S21) v0 v3 (1 : Int32) v2 S18))) v0 v2 (0 : Int32) S15)) v0 (1 : Int32) v2 S12)) ∧ (r11 = v2 → gK S12 v0 = 8 ∧ (wp_X6_deliver (fun S24 => wb_X6_arrivals_65 post (wb_X6_arrivals_13 post n) v0 v1 v2 S24) v0 v3 S12))) v0 v3 (2 : Int32) S9))) v0 v3 S)
def wp_X6_arrivals (post : bS → Prop) (this : Nat) (p1 : Int32) (S : bS) : Prop := gK S this = 8 ∧ (wp_X6_tu (fun r2 S3 => gK S3 this = 8 ∧ (wp_X6_firstIn (fun r5 S6 => ∃ n13, wb_X6_arrivals_13 post n13 this p1 r2 r5 S6) this p1 S3)) this p1 (1 : Int32) S)
set_option maxHeartbeats 4000000 in
set_option maxRecDepth 100000 in
theorem m_X6_arrivals {l : Launch} {D : va_G} {y : Nat → ClassId} {z : Nat} {A : Nat → Prop} {S : bS} {post : bS → Prop} {this : Nat} {p1 : Int32} (h : wp_X6_arrivals post this p1 S) : Met l yX6_arrivals wsX6_arrivals ({ frames := 3, cells := 0, slots := 0, locals := 70 } : Room) (va_Pc ([Value.ref this, Value.int p1] : List Value) (bP D y z S A)) (va_Qv post (fun S' t => wd D y z S' A t.heap) A) 0 0 A := by
  refine Met.ofW (cc := cX6_arrivals) (maxL := 4) (ret := none) (by decide) rfl ?_
  intro p e s m args below meth c s₁ B hml hv
  obtain ⟨rfl, hB⟩ := hv
  have hx := B.exec
  have hb := B.bytes
  have hr := B.returns
  have hts := atoms_spec (ws := wsX6_arrivals) B.pre
  have hown : s.vm.findClass RX6 = some m.cls := findClass_of_methodNamed B.named
  have hlocks := B.notSynchronized
  have hw : wd D y z S A s.heap := hB.1
  have hK : va_K D bCl (bT y) s := hB.2.1
  have hNw := hB.2.2.1
  have hAn : ∀ q : Nat, s.heap.size ≤ q → A q := hB.2.2.2.1
  have hAz : ¬ A z := hB.2.2.2.2.1
  have hO := hB.2.2.2.2.2.1
  have hS : va_S A s.heap s.heap [] := va_S.rf
  have hl := lv_entry ([Value.ref this, Value.int p1] : List Value) (n := 4) (Nat.le_of_ble_eq_true rfl)
  rw [lg_entry_eq]
  generalize (lg_sl ([Value.ref this, Value.int p1] : List Value) ++ List.replicate (4 - (lg_sl ([Value.ref this, Value.int p1] : List Value)).length) Slot.unset).toArray = ls at hl ⊢
  have hl : lv_has ls 4 [(0, .ref this), (1, .int p1)] := hl
  obtain ⟨Q, hQ⟩ : ∃ Q, Q = MQ below (va_Qv post (fun S' t => wd D y z S' A t.heap) A) (([Value.ref this, Value.int p1] : List Value).toArray) s 0 0 A := ⟨_, rfl⟩
  rw [← hQ]
  generalize hR : (headSpec wsX6_arrivals ({ frames := 3, cells := 0, slots := 0, locals := 70 } : Room)).room = R
  have hRf : 3 ≤ R.frames := by rw [← hR]; exact Nat.le_refl _
  have hRl : 70 ≤ R.locals := by rw [← hR]; exact Nat.le_refl _
  have hret : ∀ (S : bS) (H : Heap) (locs : List Loc) (pc : Nat) (ls : Array Slot) , post S → wd D y z S A H → va_S A s.heap H locs → decode cX6_arrivals pc = .ok (.return_, 1) → W p l e R s m (([Value.ref this, Value.int p1] : List Value).toArray) below meth c H locs 0 0 Q (F0 m pc ls []) := by
    intro S H locs pc ls h hw hS d0
    rw [hQ]; exact W.vret hx hb hr (fun t ht hW => ⟨⟨S, rfl, h, by show wd D y z S A t.heap; rw [ht]; exact hw⟩, hS.F ht⟩) hS.2.2 d0 hlocks
  have hB13 : ∀ (n13 : Nat) (S : bS) (H : Heap) (locs : List Loc) (ls : Array Slot) (v0 : Nat) (v1 : Int32) (v2 : Int32) (v3 : Int32), wb_X6_arrivals_13 post n13 v0 v1 v2 v3 S → wd D y z S A H → va_S A s.heap H locs → lv_has ls 4 [(0, .ref v0), (1, .int v1), (2, .int v2), (3, .int v3)] → W p l e R s m (([Value.ref this, Value.int p1] : List Value).toArray) below meth c H locs 0 0 Q (F0 m 13 ls []) := by
    intro n13
    induction n13 with
    | zero =>
      intro S H locs ls v0 v1 v2 v3 h hw hS hl
      exact absurd h (by unfold wb_X6_arrivals_13; exact id)
    | succ n13 ih13 =>
      have hB65 : ∀ (S : bS) (H : Heap) (locs : List Loc) (ls : Array Slot) (v0 : Nat) (v1 : Int32) (v2 : Int32), wb_X6_arrivals_65 post (wb_X6_arrivals_13 post n13) v0 v1 v2 S → wd D y z S A H → va_S A s.heap H locs → lv_has ls 4 [(0, .ref v0), (1, .int v1), (2, .int v2)] → W p l e R s m (([Value.ref this, Value.int p1] : List Value).toArray) below meth c H locs 0 0 Q (F0 m 65 ls []) := by
        intro S H locs ls v0 v1 v2 h hw hS hl
        unfold wb_X6_arrivals_65 at h
        refine lv_aload_n hx hb dX6_arrivals_65 rfl (lv_at hl 0 rfl) ?_
        refine lv_iload_n hx hb dX6_arrivals_66 rfl (lv_at hl 1 rfl) ?_
        obtain ⟨hk25, h⟩ := h
        have h1 := h
        refine va_calli (va_runV (As := [.int v1]) (rest := []) ⟨hx, hb, hml, hown, hts⟩ (m_X6_firstIn (l := l) h1) (cwV 1 hts gX6_arrivals_X6_firstIn rfl rfl rfl (by decide +kernel) ⟨Nat.le_trans (Nat.le_of_ble_eq_true rfl) hRf, Nat.le_trans (Nat.le_of_ble_eq_true rfl) hRl⟩) (r_pV hB hw hS (ce_8 (S := S) hk25) rfl) rfl rfl hl.1 rfl (lv_room (Nat.le_of_ble_eq_true rfl)) dX6_arrivals_67 ⟨Nat.zero_le _, Nat.zero_le _⟩) hS (fun _ _ h => h) (fun _ h => h) (fun r26 S27 t H1 locs ht _ h hw1 _ _ hS => ?_)
        subst ht
        have hw : wd D y z S27 A t.heap := hw1
        clear hw1 h1
        refine lv_istore_n hx hb dX6_arrivals_70 rfl hl (by decide) rfl (fun ls hl => ?_)
        have hl : lv_has ls 4 [(3, .int r26), (0, .ref v0), (1, .int v1), (2, .int v2)] := hl
        refine lv_goto (tgt := 13) hx hb dX6_arrivals_71 (by decide) ?_
        exact ih13 _ _ _ _ _ _ _ _ h hw hS (lv_sub hl [1, 2, 3, 0] rfl)
      intro S H locs ls v0 v1 v2 v3 h hw hS hl
      unfold wb_X6_arrivals_13 at h
      refine lv_aload_n hx hb dX6_arrivals_13 rfl (lv_at hl 0 rfl) ?_
      refine lv_iload_n hx hb dX6_arrivals_14 rfl (lv_at hl 3 rfl) ?_
      obtain ⟨hk7, h⟩ := h
      have h1 := h
      refine va_calli (va_runV (As := [.int v3]) (rest := []) ⟨hx, hb, hml, hown, hts⟩ (m_X6_isDue (l := l) h1) (cwV 1 hts gX6_arrivals_X6_isDue rfl rfl rfl (by decide +kernel) ⟨Nat.le_trans (Nat.le_of_ble_eq_true rfl) hRf, Nat.le_trans (Nat.le_of_ble_eq_true rfl) hRl⟩) (r_pV hB hw hS (ce_8 (S := S) hk7) rfl) rfl rfl hl.1 rfl (lv_room (Nat.le_of_ble_eq_true rfl)) dX6_arrivals_15 ⟨Nat.zero_le _, Nat.zero_le _⟩) hS (fun _ _ h => h) (fun _ h => h) (fun r8 S9 t H1 locs ht _ h hw1 _ _ hS => ?_)
      subst ht
      have hw : wd D y z S9 A t.heap := hw1
      clear hw1 h1
      refine lv_if_eq (tgt := 74) hx hb dX6_arrivals_18 (by decide) (fun hc => ?_) (fun hc => ?_)
      · have h := h.1 hc
        exact hret _ _ _ _ _ h hw hS dX6_arrivals_74
      · have h := h.2 hc
        refine lv_aload_n hx hb dX6_arrivals_21 rfl (lv_at hl 0 rfl) ?_
        refine lv_iload_n hx hb dX6_arrivals_22 rfl (lv_at hl 3 rfl) ?_
        refine lv_iconst (v := (2 : Int32)) hx hb dX6_arrivals_23 (by decide) ?_
        obtain ⟨hk10, h⟩ := h
        have h1 := h
        refine va_calli (va_runV (As := [.int v3, .int (2 : Int32)]) (rest := []) ⟨hx, hb, hml, hown, hts⟩ (m_X6_get (l := l) h1) (cwV 2 hts gX6_arrivals_X6_get rfl rfl rfl (by decide +kernel) ⟨Nat.le_trans (Nat.le_of_ble_eq_true rfl) hRf, Nat.le_trans (Nat.le_of_ble_eq_true rfl) hRl⟩) (r_pV hB hw hS (ce_8 (S := S9) hk10) rfl) rfl rfl hl.1 rfl (lv_room (Nat.le_of_ble_eq_true rfl)) dX6_arrivals_24 ⟨Nat.zero_le _, Nat.zero_le _⟩) hS (fun _ _ h => h) (fun _ h => h) (fun r11 S12 t H1 locs ht _ h hw1 _ _ hS => ?_)
        subst ht
        have hw : wd D y z S12 A t.heap := hw1
        clear hw1 h1
        refine lv_iload_n hx hb dX6_arrivals_27 rfl (lv_at hl 2 rfl) ?_
        refine lv_icmp_ne (tgt := 39) hx hb dX6_arrivals_28 (by decide) (fun hc => ?_) (fun hc => ?_)
        · have h := h.1 hc
          refine lv_aload_n hx hb dX6_arrivals_39 rfl (lv_at hl 0 rfl) ?_
          refine lv_iconst (v := (1 : Int32)) hx hb dX6_arrivals_40 (by decide) ?_
          refine lv_iload_n hx hb dX6_arrivals_41 rfl (lv_at hl 2 rfl) ?_
          obtain ⟨hk13, h⟩ := h
          have h1 := h
          refine va_calli (va_runV (As := [.int (1 : Int32), .int v2]) (rest := []) ⟨hx, hb, hml, hown, hts⟩ (m_X6_manyAt (l := l) h1) (cwV 2 hts gX6_arrivals_X6_manyAt rfl rfl rfl (by decide +kernel) ⟨Nat.le_trans (Nat.le_of_ble_eq_true rfl) hRf, Nat.le_trans (Nat.le_of_ble_eq_true rfl) hRl⟩) (r_pV hB hw hS (ce_8 (S := S12) hk13) rfl) rfl rfl hl.1 rfl (lv_room (Nat.le_of_ble_eq_true rfl)) dX6_arrivals_42 ⟨Nat.zero_le _, Nat.zero_le _⟩) hS (fun _ _ h => h) (fun _ h => h) (fun r14 S15 t H1 locs ht _ h hw1 _ _ hS => ?_)
          subst ht
          have hw : wd D y z S15 A t.heap := hw1
          clear hw1 h1
          refine lv_aload_n hx hb dX6_arrivals_45 rfl (lv_at hl 0 rfl) ?_
          refine lv_iload_n hx hb dX6_arrivals_46 rfl (lv_at hl 2 rfl) ?_
          refine lv_iconst (v := (0 : Int32)) hx hb dX6_arrivals_47 (by decide) ?_
          obtain ⟨hk16, h⟩ := h
          have h1 := h
          refine va_calli (va_runV (As := [.int v2, .int (0 : Int32)]) (rest := [.int r14]) ⟨hx, hb, hml, hown, hts⟩ (m_X6_st (l := l) h1) (cwV 2 hts gX6_arrivals_X6_st rfl rfl rfl (by decide +kernel) ⟨Nat.le_trans (Nat.le_of_ble_eq_true rfl) hRf, Nat.le_trans (Nat.le_of_ble_eq_true rfl) hRl⟩) (r_pV hB hw hS (ce_8 (S := S15) hk16) rfl) rfl rfl hl.1 rfl (lv_room (Nat.le_of_ble_eq_true rfl)) dX6_arrivals_48 ⟨Nat.zero_le _, Nat.zero_le _⟩) hS (fun _ _ h => h) (fun _ h => h) (fun r17 S18 t H1 locs ht _ h hw1 _ _ hS => ?_)
          subst ht
          have hw : wd D y z S18 A t.heap := hw1
          clear hw1 h1
          refine lv_icmp_ge (tgt := 64) hx hb dX6_arrivals_51 (by decide) (fun hc => ?_) (fun hc => ?_)
          · have h := h.1 hc
            exact hret _ _ _ _ _ h hw hS dX6_arrivals_64
          · have h := h.2 hc
            refine lv_aload_n hx hb dX6_arrivals_54 rfl (lv_at hl 0 rfl) ?_
            refine lv_iload_n hx hb dX6_arrivals_55 rfl (lv_at hl 3 rfl) ?_
            refine lv_iconst (v := (1 : Int32)) hx hb dX6_arrivals_56 (by decide) ?_
            refine lv_iload_n hx hb dX6_arrivals_57 rfl (lv_at hl 2 rfl) ?_
            obtain ⟨hk19, h⟩ := h
            have h1 := h
            refine va_callv (va_runV (As := [.int v3, .int (1 : Int32), .int v2]) (rest := []) ⟨hx, hb, hml, hown, hts⟩ (m_X6_put (l := l) h1) (cwV 3 hts gX6_arrivals_X6_put rfl rfl rfl (by decide +kernel) ⟨Nat.le_trans (Nat.le_of_ble_eq_true rfl) hRf, Nat.le_trans (Nat.le_of_ble_eq_true rfl) hRl⟩) (r_pV hB hw hS (ce_8 (S := S18) hk19) rfl) rfl rfl hl.1 rfl (lv_room (Nat.le_of_ble_eq_true rfl)) dX6_arrivals_58 ⟨Nat.zero_le _, Nat.zero_le _⟩) hS (fun _ _ h => h) (fun _ h => h) (fun S21 t H1 locs ht _ h hw1 _ _ hS => ?_)
            subst ht
            have hw : wd D y z S21 A t.heap := hw1
            clear hw1 h1
            refine lv_goto (tgt := 65) hx hb dX6_arrivals_61 (by decide) ?_
            exact hB65 _ _ _ _ _ _ _ h hw hS (lv_sub hl [0, 1, 2] rfl)
        · have h := h.2 hc
          refine lv_aload_n hx hb dX6_arrivals_31 rfl (lv_at hl 0 rfl) ?_
          refine lv_iload_n hx hb dX6_arrivals_32 rfl (lv_at hl 3 rfl) ?_
          obtain ⟨hk22, h⟩ := h
          have h1 := h
          refine va_callv (va_runV (As := [.int v3]) (rest := []) ⟨hx, hb, hml, hown, hts⟩ (m_X6_deliver (l := l) h1) (cwV 1 hts gX6_arrivals_X6_deliver rfl rfl rfl (by decide +kernel) ⟨Nat.le_trans (Nat.le_of_ble_eq_true rfl) hRf, Nat.le_trans (Nat.le_of_ble_eq_true rfl) hRl⟩) (r_pV hB hw hS (ce_8 (S := S12) hk22) rfl) rfl rfl hl.1 rfl (lv_room (Nat.le_of_ble_eq_true rfl)) dX6_arrivals_33 ⟨Nat.zero_le _, Nat.zero_le _⟩) hS (fun _ _ h => h) (fun _ h => h) (fun S24 t H1 locs ht _ h hw1 _ _ hS => ?_)
          subst ht
          have hw : wd D y z S24 A t.heap := hw1
          clear hw1 h1
          refine lv_goto (tgt := 65) hx hb dX6_arrivals_36 (by decide) ?_
          exact hB65 _ _ _ _ _ _ _ h hw hS (lv_sub hl [0, 1, 2] rfl)
  unfold wp_X6_arrivals at h
  refine lv_aload_n hx hb dX6_arrivals_0 rfl (lv_at hl 0 rfl) ?_
  refine lv_iload_n hx hb dX6_arrivals_1 rfl (lv_at hl 1 rfl) ?_
  refine lv_iconst (v := (1 : Int32)) hx hb dX6_arrivals_2 (by decide) ?_
  obtain ⟨hk1, h⟩ := h
  have h1 := h
  refine va_calli (va_runV (As := [.int p1, .int (1 : Int32)]) (rest := []) ⟨hx, hb, hml, hown, hts⟩ (m_X6_tu (l := l) h1) (cwV 2 hts gX6_arrivals_X6_tu rfl rfl rfl (by decide +kernel) ⟨Nat.le_trans (Nat.le_of_ble_eq_true rfl) hRf, Nat.le_trans (Nat.le_of_ble_eq_true rfl) hRl⟩) (r_pV hB hw hS (ce_8 (S := S) hk1) rfl) rfl rfl hl.1 rfl (lv_room (Nat.le_of_ble_eq_true rfl)) dX6_arrivals_3 ⟨Nat.zero_le _, Nat.zero_le _⟩) hS (fun _ _ h => h) (fun _ h => h) (fun r2 S3 t H1 locs ht _ h hw1 _ _ hS => ?_)
  subst ht
  have hw : wd D y z S3 A t.heap := hw1
  clear hw1 h1
  refine lv_istore_n hx hb dX6_arrivals_6 rfl hl (by decide) rfl (fun ls hl => ?_)
  have hl : lv_has ls 4 [(2, .int r2), (0, .ref this), (1, .int p1)] := hl
  refine lv_aload_n hx hb dX6_arrivals_7 rfl (lv_at hl 1 rfl) ?_
  refine lv_iload_n hx hb dX6_arrivals_8 rfl (lv_at hl 2 rfl) ?_
  obtain ⟨hk4, h⟩ := h
  have h1 := h
  refine va_calli (va_runV (As := [.int p1]) (rest := []) ⟨hx, hb, hml, hown, hts⟩ (m_X6_firstIn (l := l) h1) (cwV 1 hts gX6_arrivals_X6_firstIn rfl rfl rfl (by decide +kernel) ⟨Nat.le_trans (Nat.le_of_ble_eq_true rfl) hRf, Nat.le_trans (Nat.le_of_ble_eq_true rfl) hRl⟩) (r_pV hB hw hS (ce_8 (S := S3) hk4) rfl) rfl rfl hl.1 rfl (lv_room (Nat.le_of_ble_eq_true rfl)) dX6_arrivals_9 ⟨Nat.zero_le _, Nat.zero_le _⟩) hS (fun _ _ h => h) (fun _ h => h) (fun r5 S6 t H1 locs ht _ h hw1 _ _ hS => ?_)
  subst ht
  have hw : wd D y z S6 A t.heap := hw1
  clear hw1 h1
  refine lv_istore_n hx hb dX6_arrivals_12 rfl hl (by decide) rfl (fun ls hl => ?_)
  have hl : lv_has ls 4 [(3, .int r5), (2, .int r2), (0, .ref this), (1, .int p1)] := hl
  obtain ⟨n13, h⟩ := h
  exact hB13 n13 _ _ _ _ _ _ _ _ h hw hS (lv_sub hl [2, 3, 1, 0] rfl)
def wb_X6_isAhead_60 (post : Int32 → bS → Prop) (s0 : Int32) (S : bS) : Prop := (s0 = 0 ∨ s0 = 1) ∧ post s0 S
def wp_X6_isAhead (post : Int32 → bS → Prop) (this : Nat) (p1 : Int32) (p2 : Int32) (S : bS) : Prop := gK S this = 8 ∧ (wp_X6_get (fun r2 S3 => gK S3 this = 8 ∧ (wp_X6_get (fun r5 S6 => (r2 = r5 → gK S6 this = 8 ∧ (wp_X6_get (fun r8 S9 => gK S9 this = 8 ∧ (wp_X6_get (fun r11 S12 => (r11 ≤ r8 → wb_X6_isAhead_60 post (0 : Int32) S12) ∧ (¬ (r11 ≤ r8) → wb_X6_isAhead_60 post (1 : Int32) S12)) this p2 (7 : Int32) S9)) this p1 (7 : Int32) S6)) ∧ (¬ (r2 = r5) → gK S6 this = 8 ∧ (wp_X6_get (fun r14 S15 => gK S15 this = 8 ∧ (wp_X6_get (fun r17 S18 => (r14 ≤ r17 → wb_X6_isAhead_60 post (0 : Int32) S18) ∧ (¬ (r14 ≤ r17) → wb_X6_isAhead_60 post (1 : Int32) S18)) this p2 (3 : Int32) S15)) this p1 (3 : Int32) S6))) this p2 (3 : Int32) S3)) this p1 (3 : Int32) S)
set_option maxHeartbeats 4000000 in
set_option maxRecDepth 100000 in
theorem m_X6_isAhead {l : Launch} {D : va_G} {y : Nat → ClassId} {z : Nat} {A : Nat → Prop} {S : bS} {post : Int32 → bS → Prop} {this : Nat} {p1 : Int32} {p2 : Int32} (h : wp_X6_isAhead post this p1 p2 S) : Met l yX6_isAhead wsX6_isAhead ({ frames := 1, cells := 0, slots := 0, locals := 22 } : Room) (va_Pc ([Value.ref this, Value.int p1, Value.int p2] : List Value) (bP D y z S A)) (va_Qi post (fun S' t => wd D y z S' A t.heap) A) 0 0 A := by
  refine Met.ofW (cc := cX6_isAhead) (maxL := 3) (ret := (some .boolean)) (by decide) rfl ?_
  intro p e s m args below meth c s₁ B hml hv
  obtain ⟨rfl, hB⟩ := hv
  have hx := B.exec
  have hb := B.bytes
  have hr := B.returns
  have hts := atoms_spec (ws := wsX6_isAhead) B.pre
  have hown : s.vm.findClass RX6 = some m.cls := findClass_of_methodNamed B.named
  have hlocks := B.notSynchronized
  have hw : wd D y z S A s.heap := hB.1
  have hK : va_K D bCl (bT y) s := hB.2.1
  have hNw := hB.2.2.1
  have hAn : ∀ q : Nat, s.heap.size ≤ q → A q := hB.2.2.2.1
  have hAz : ¬ A z := hB.2.2.2.2.1
  have hO := hB.2.2.2.2.2.1
  have hS : va_S A s.heap s.heap [] := va_S.rf
  have hl := lv_entry ([Value.ref this, Value.int p1, Value.int p2] : List Value) (n := 3) (Nat.le_of_ble_eq_true rfl)
  rw [lg_entry_eq]
  generalize (lg_sl ([Value.ref this, Value.int p1, Value.int p2] : List Value) ++ List.replicate (3 - (lg_sl ([Value.ref this, Value.int p1, Value.int p2] : List Value)).length) Slot.unset).toArray = ls at hl ⊢
  have hl : lv_has ls 3 [(0, .ref this), (1, .int p1), (2, .int p2)] := hl
  obtain ⟨Q, hQ⟩ : ∃ Q, Q = MQ below (va_Qi post (fun S' t => wd D y z S' A t.heap) A) (([Value.ref this, Value.int p1, Value.int p2] : List Value).toArray) s 0 0 A := ⟨_, rfl⟩
  rw [← hQ]
  generalize hR : (headSpec wsX6_isAhead ({ frames := 1, cells := 0, slots := 0, locals := 22 } : Room)).room = R
  have hRf : 1 ≤ R.frames := by rw [← hR]; exact Nat.le_refl _
  have hRl : 22 ≤ R.locals := by rw [← hR]; exact Nat.le_refl _
  have hret : ∀ (v : Int32) (S : bS) (H : Heap) (locs : List Loc) (pc : Nat) (ls : Array Slot) , (v = 0 ∨ v = 1) → post v S → wd D y z S A H → va_S A s.heap H locs → decode cX6_isAhead pc = .ok (.ireturn, 1) → W p l e R s m (([Value.ref this, Value.int p1, Value.int p2] : List Value).toArray) below meth c H locs 0 0 Q (F0 m pc ls [.int v]) := by
    intro v S H locs pc ls hz h hw hS d0
    rw [hQ]; exact W.zret hx hb hr (b_nz hz) (fun t ht hW => ⟨⟨v, S, rfl, h, by show wd D y z S A t.heap; rw [ht]; exact hw⟩, hS.F ht⟩) hS.2.2 d0 hlocks
  have hB60 : ∀ (S : bS) (H : Heap) (locs : List Loc) (ls : Array Slot) (s0 : Int32), wb_X6_isAhead_60 post s0 S → wd D y z S A H → va_S A s.heap H locs → lv_has ls 3 [] → W p l e R s m (([Value.ref this, Value.int p1, Value.int p2] : List Value).toArray) below meth c H locs 0 0 Q (F0 m 60 ls [.int s0]) := by
    intro S H locs ls s0 h hw hS hl
    unfold wb_X6_isAhead_60 at h
    obtain ⟨hz, h⟩ := h
    exact hret _ _ _ _ _ _ hz h hw hS dX6_isAhead_60
  unfold wp_X6_isAhead at h
  refine lv_aload_n hx hb dX6_isAhead_0 rfl (lv_at hl 0 rfl) ?_
  refine lv_iload_n hx hb dX6_isAhead_1 rfl (lv_at hl 1 rfl) ?_
  refine lv_iconst (v := (3 : Int32)) hx hb dX6_isAhead_2 (by decide) ?_
  obtain ⟨hk1, h⟩ := h
  have h1 := h
  refine va_calli (va_runV (As := [.int p1, .int (3 : Int32)]) (rest := []) ⟨hx, hb, hml, hown, hts⟩ (m_X6_get (l := l) h1) (cwV 2 hts gX6_isAhead_X6_get rfl rfl rfl (by decide +kernel) ⟨Nat.le_trans (Nat.le_of_ble_eq_true rfl) hRf, Nat.le_trans (Nat.le_of_ble_eq_true rfl) hRl⟩) (r_pV hB hw hS (ce_8 (S := S) hk1) rfl) rfl rfl hl.1 rfl (lv_room (Nat.le_of_ble_eq_true rfl)) dX6_isAhead_3 ⟨Nat.zero_le _, Nat.zero_le _⟩) hS (fun _ _ h => h) (fun _ h => h) (fun r2 S3 t H1 locs ht _ h hw1 _ _ hS => ?_)
  subst ht
  have hw : wd D y z S3 A t.heap := hw1
  clear hw1 h1
  refine lv_aload_n hx hb dX6_isAhead_6 rfl (lv_at hl 0 rfl) ?_
  refine lv_iload_n hx hb dX6_isAhead_7 rfl (lv_at hl 2 rfl) ?_
  refine lv_iconst (v := (3 : Int32)) hx hb dX6_isAhead_8 (by decide) ?_
  obtain ⟨hk4, h⟩ := h
  have h1 := h
  refine va_calli (va_runV (As := [.int p2, .int (3 : Int32)]) (rest := [.int r2]) ⟨hx, hb, hml, hown, hts⟩ (m_X6_get (l := l) h1) (cwV 2 hts gX6_isAhead_X6_get rfl rfl rfl (by decide +kernel) ⟨Nat.le_trans (Nat.le_of_ble_eq_true rfl) hRf, Nat.le_trans (Nat.le_of_ble_eq_true rfl) hRl⟩) (r_pV hB hw hS (ce_8 (S := S3) hk4) rfl) rfl rfl hl.1 rfl (lv_room (Nat.le_of_ble_eq_true rfl)) dX6_isAhead_9 ⟨Nat.zero_le _, Nat.zero_le _⟩) hS (fun _ _ h => h) (fun _ h => h) (fun r5 S6 t H1 locs ht _ h hw1 _ _ hS => ?_)
  subst ht
  have hw : wd D y z S6 A t.heap := hw1
  clear hw1 h1
  refine lv_icmp_eq (tgt := 38) hx hb dX6_isAhead_12 (by decide) (fun hc => ?_) (fun hc => ?_)
  · have h := h.1 hc
    refine lv_aload_n hx hb dX6_isAhead_38 rfl (lv_at hl 0 rfl) ?_
    refine lv_iload_n hx hb dX6_isAhead_39 rfl (lv_at hl 1 rfl) ?_
    refine lv_bipush (v := (7 : Int32)) hx hb dX6_isAhead_40 (by decide) ?_
    obtain ⟨hk7, h⟩ := h
    have h1 := h
    refine va_calli (va_runV (As := [.int p1, .int (7 : Int32)]) (rest := []) ⟨hx, hb, hml, hown, hts⟩ (m_X6_get (l := l) h1) (cwV 2 hts gX6_isAhead_X6_get rfl rfl rfl (by decide +kernel) ⟨Nat.le_trans (Nat.le_of_ble_eq_true rfl) hRf, Nat.le_trans (Nat.le_of_ble_eq_true rfl) hRl⟩) (r_pV hB hw hS (ce_8 (S := S6) hk7) rfl) rfl rfl hl.1 rfl (lv_room (Nat.le_of_ble_eq_true rfl)) dX6_isAhead_42 ⟨Nat.zero_le _, Nat.zero_le _⟩) hS (fun _ _ h => h) (fun _ h => h) (fun r8 S9 t H1 locs ht _ h hw1 _ _ hS => ?_)
    subst ht
    have hw : wd D y z S9 A t.heap := hw1
    clear hw1 h1
    refine lv_aload_n hx hb dX6_isAhead_45 rfl (lv_at hl 0 rfl) ?_
    refine lv_iload_n hx hb dX6_isAhead_46 rfl (lv_at hl 2 rfl) ?_
    refine lv_bipush (v := (7 : Int32)) hx hb dX6_isAhead_47 (by decide) ?_
    obtain ⟨hk10, h⟩ := h
    have h1 := h
    refine va_calli (va_runV (As := [.int p2, .int (7 : Int32)]) (rest := [.int r8]) ⟨hx, hb, hml, hown, hts⟩ (m_X6_get (l := l) h1) (cwV 2 hts gX6_isAhead_X6_get rfl rfl rfl (by decide +kernel) ⟨Nat.le_trans (Nat.le_of_ble_eq_true rfl) hRf, Nat.le_trans (Nat.le_of_ble_eq_true rfl) hRl⟩) (r_pV hB hw hS (ce_8 (S := S9) hk10) rfl) rfl rfl hl.1 rfl (lv_room (Nat.le_of_ble_eq_true rfl)) dX6_isAhead_49 ⟨Nat.zero_le _, Nat.zero_le _⟩) hS (fun _ _ h => h) (fun _ h => h) (fun r11 S12 t H1 locs ht _ h hw1 _ _ hS => ?_)
    subst ht
    have hw : wd D y z S12 A t.heap := hw1
    clear hw1 h1
    refine lv_icmp_ge (tgt := 59) hx hb dX6_isAhead_52 (by decide) (fun hc => ?_) (fun hc => ?_)
    · have h := h.1 hc
      refine lv_iconst (v := (0 : Int32)) hx hb dX6_isAhead_59 (by decide) ?_
      exact hB60 _ _ _ _ _ h hw hS (lv_sub hl [] rfl)
    · have h := h.2 hc
      refine lv_iconst (v := (1 : Int32)) hx hb dX6_isAhead_55 (by decide) ?_
      refine lv_goto (tgt := 60) hx hb dX6_isAhead_56 (by decide) ?_
      exact hB60 _ _ _ _ _ h hw hS (lv_sub hl [] rfl)
  · have h := h.2 hc
    refine lv_aload_n hx hb dX6_isAhead_15 rfl (lv_at hl 0 rfl) ?_
    refine lv_iload_n hx hb dX6_isAhead_16 rfl (lv_at hl 1 rfl) ?_
    refine lv_iconst (v := (3 : Int32)) hx hb dX6_isAhead_17 (by decide) ?_
    obtain ⟨hk13, h⟩ := h
    have h1 := h
    refine va_calli (va_runV (As := [.int p1, .int (3 : Int32)]) (rest := []) ⟨hx, hb, hml, hown, hts⟩ (m_X6_get (l := l) h1) (cwV 2 hts gX6_isAhead_X6_get rfl rfl rfl (by decide +kernel) ⟨Nat.le_trans (Nat.le_of_ble_eq_true rfl) hRf, Nat.le_trans (Nat.le_of_ble_eq_true rfl) hRl⟩) (r_pV hB hw hS (ce_8 (S := S6) hk13) rfl) rfl rfl hl.1 rfl (lv_room (Nat.le_of_ble_eq_true rfl)) dX6_isAhead_18 ⟨Nat.zero_le _, Nat.zero_le _⟩) hS (fun _ _ h => h) (fun _ h => h) (fun r14 S15 t H1 locs ht _ h hw1 _ _ hS => ?_)
    subst ht
    have hw : wd D y z S15 A t.heap := hw1
    clear hw1 h1
    refine lv_aload_n hx hb dX6_isAhead_21 rfl (lv_at hl 0 rfl) ?_
    refine lv_iload_n hx hb dX6_isAhead_22 rfl (lv_at hl 2 rfl) ?_
    refine lv_iconst (v := (3 : Int32)) hx hb dX6_isAhead_23 (by decide) ?_
    obtain ⟨hk16, h⟩ := h
    have h1 := h
    refine va_calli (va_runV (As := [.int p2, .int (3 : Int32)]) (rest := [.int r14]) ⟨hx, hb, hml, hown, hts⟩ (m_X6_get (l := l) h1) (cwV 2 hts gX6_isAhead_X6_get rfl rfl rfl (by decide +kernel) ⟨Nat.le_trans (Nat.le_of_ble_eq_true rfl) hRf, Nat.le_trans (Nat.le_of_ble_eq_true rfl) hRl⟩) (r_pV hB hw hS (ce_8 (S := S15) hk16) rfl) rfl rfl hl.1 rfl (lv_room (Nat.le_of_ble_eq_true rfl)) dX6_isAhead_24 ⟨Nat.zero_le _, Nat.zero_le _⟩) hS (fun _ _ h => h) (fun _ h => h) (fun r17 S18 t H1 locs ht _ h hw1 _ _ hS => ?_)
    subst ht
    have hw : wd D y z S18 A t.heap := hw1
    clear hw1 h1
    refine lv_icmp_le (tgt := 34) hx hb dX6_isAhead_27 (by decide) (fun hc => ?_) (fun hc => ?_)
    · have h := h.1 hc
      refine lv_iconst (v := (0 : Int32)) hx hb dX6_isAhead_34 (by decide) ?_
      refine lv_goto (tgt := 60) hx hb dX6_isAhead_35 (by decide) ?_
      exact hB60 _ _ _ _ _ h hw hS (lv_sub hl [] rfl)
    · have h := h.2 hc
      refine lv_iconst (v := (1 : Int32)) hx hb dX6_isAhead_30 (by decide) ?_
      refine lv_goto (tgt := 60) hx hb dX6_isAhead_31 (by decide) ?_
      exact hB60 _ _ _ _ _ h hw hS (lv_sub hl [] rfl)
def wb_X6_line_105 (post : Int32 → bS → Prop) (rec4 : Nat → Int32 → Int32 → Int32 → bS → Prop) (v0 : Nat) (v1 : Int32) (v2 : Int32) (v3 : Int32) (S : bS) : Prop := rec4 v0 v1 v2 (v3 + (1 : Int32)) S
def wb_X6_line_93 (post : Int32 → bS → Prop) (rec4 : Nat → Int32 → Int32 → Int32 → bS → Prop) (v0 : Nat) (v1 : Int32) (v2 : Int32) (v3 : Int32) (v4 : Int32) (v5 : Int32) (S : bS) : Prop := gK S v0 = 8 ∧ (∃ b28, gQ S 8 v0 16 = some b28 ∧ (gK S b28 = 9 ∧ (vp_in v5 (gN S b28) ∧ (wb_X6_line_105 post rec4 v0 v1 (v2 + (1 : Int32)) v3 (sV S 9 b28 (Int32.toNatClampNeg v5) v4)))))
def wb_X6_line_48 (post : Int32 → bS → Prop) (rec4 : Nat → Int32 → Int32 → Int32 → bS → Prop) : Nat → Nat → Int32 → Int32 → Int32 → Int32 → Int32 → bS → Prop
  | 0, _, _, _, _, _, _, _ => False
  | n + 1, v0, v1, v2, v3, v4, v5, S => (v5 ≤ (0 : Int32) → wb_X6_line_93 post rec4 v0 v1 v2 v3 v4 v5 S) ∧ (¬ (v5 ≤ (0 : Int32)) → gK S v0 = 8 ∧ (∃ b12, gQ S 8 v0 16 = some b12 ∧ (gK S b12 = 9 ∧ (vp_in (v5 - (1 : Int32)) (gN S b12) ∧ (wp_X6_isAhead (fun r16 S17 => (r16 = (0 : Int32) → wb_X6_line_93 post rec4 v0 v1 v2 v3 v4 v5 S17) ∧ (¬ (r16 = (0 : Int32)) → gK S17 v0 = 8 ∧ (∃ b19, gQ S17 8 v0 16 = some b19 ∧ (∃ b21, gQ S17 8 v0 16 = some b21 ∧ (gK S17 b21 = 9 ∧ (vp_in (v5 - (1 : Int32)) (gN S17 b21) ∧ (gK S17 b19 = 9 ∧ (vp_in v5 (gN S17 b19) ∧ ((wb_X6_line_48 post rec4 n) v0 v1 v2 v3 v4 (v5 + (-1 : Int32)) (sV S17 9 b19 (Int32.toNatClampNeg v5) (gV S17 9 b21 (Int32.toNatClampNeg (v5 - (1 : Int32)))))))))))))) v0 v4 (gV S 9 b12 (Int32.toNatClampNeg (v5 - (1 : Int32)))) S)))))
def wb_X6_line_4 (post : Int32 → bS → Prop) : Nat → Nat → Int32 → Int32 → Int32 → bS → Prop
  | 0, _, _, _, _, _ => False
  | n + 1, v0, v1, v2, v3, S => gK S v0 = 8 ∧ (((gV S 8 v0 14) ≤ v3 → post v2 S) ∧ (¬ ((gV S 8 v0 14) ≤ v3) → ∃ b2, gQ S 8 v0 13 = some b2 ∧ (gK S b2 = 9 ∧ (vp_in v3 (gN S b2) ∧ (wp_X6_get (fun r6 S7 => (r6 ≠ (1 : Int32) → wb_X6_line_105 post (wb_X6_line_4 post n) v0 v1 v2 v3 S7) ∧ (r6 = (1 : Int32) → gK S7 v0 = 8 ∧ (wp_X6_get (fun r9 S10 => (r9 = v1 → ∃ n48, wb_X6_line_48 post (wb_X6_line_4 post n) n48 v0 v1 v2 v3 (gV S 9 b2 (Int32.toNatClampNeg v3)) v2 S10) ∧ (¬ (r9 = v1) → wb_X6_line_105 post (wb_X6_line_4 post n) v0 v1 v2 v3 S10)) v0 (gV S 9 b2 (Int32.toNatClampNeg v3)) (1 : Int32) S7))) v0 (gV S 9 b2 (Int32.toNatClampNeg v3)) (0 : Int32) S)))))
def wp_X6_line (post : Int32 → bS → Prop) (this : Nat) (p1 : Int32) (S : bS) : Prop := ∃ n4, wb_X6_line_4 post n4 this p1 (0 : Int32) (0 : Int32) S
set_option maxHeartbeats 4000000 in
set_option maxRecDepth 100000 in
theorem m_X6_line {l : Launch} {D : va_G} {y : Nat → ClassId} {z : Nat} {A : Nat → Prop} {S : bS} {post : Int32 → bS → Prop} {this : Nat} {p1 : Int32} (h : wp_X6_line post this p1 S) : Met l yX6_line wsX6_line ({ frames := 2, cells := 0, slots := 0, locals := 44 } : Room) (va_Pc ([Value.ref this, Value.int p1] : List Value) (bP D y z S A)) (va_Qi post (fun S' t => wd D y z S' A t.heap) A) 0 0 A := by
  refine Met.ofW (cc := cX6_line) (maxL := 6) (ret := (some .int)) (by decide) rfl ?_
  intro p e s m args below meth c s₁ B hml hv
  obtain ⟨rfl, hB⟩ := hv
  have hx := B.exec
  have hb := B.bytes
  have hr := B.returns
  have hts := atoms_spec (ws := wsX6_line) B.pre
  have hown : s.vm.findClass RX6 = some m.cls := findClass_of_methodNamed B.named
  have hlocks := B.notSynchronized
  have hw : wd D y z S A s.heap := hB.1
  have hK : va_K D bCl (bT y) s := hB.2.1
  have hNw := hB.2.2.1
  have hAn : ∀ q : Nat, s.heap.size ≤ q → A q := hB.2.2.2.1
  have hAz : ¬ A z := hB.2.2.2.2.1
  have hO := hB.2.2.2.2.2.1
  have hS : va_S A s.heap s.heap [] := va_S.rf
  have hiX6 : ∀ w ∈ u_ws RX6 TX6 17, w ∈ wsX6_line := by decide +kernel
  have hl := lv_entry ([Value.ref this, Value.int p1] : List Value) (n := 6) (Nat.le_of_ble_eq_true rfl)
  rw [lg_entry_eq]
  generalize (lg_sl ([Value.ref this, Value.int p1] : List Value) ++ List.replicate (6 - (lg_sl ([Value.ref this, Value.int p1] : List Value)).length) Slot.unset).toArray = ls at hl ⊢
  have hl : lv_has ls 6 [(0, .ref this), (1, .int p1)] := hl
  obtain ⟨Q, hQ⟩ : ∃ Q, Q = MQ below (va_Qi post (fun S' t => wd D y z S' A t.heap) A) (([Value.ref this, Value.int p1] : List Value).toArray) s 0 0 A := ⟨_, rfl⟩
  rw [← hQ]
  generalize hR : (headSpec wsX6_line ({ frames := 2, cells := 0, slots := 0, locals := 44 } : Room)).room = R
  have hRf : 2 ≤ R.frames := by rw [← hR]; exact Nat.le_refl _
  have hRl : 44 ≤ R.locals := by rw [← hR]; exact Nat.le_refl _
  have hret : ∀ (v : Int32) (S : bS) (H : Heap) (locs : List Loc) (pc : Nat) (ls : Array Slot) , post v S → wd D y z S A H → va_S A s.heap H locs → decode cX6_line pc = .ok (.ireturn, 1) → W p l e R s m (([Value.ref this, Value.int p1] : List Value).toArray) below meth c H locs 0 0 Q (F0 m pc ls [.int v]) := by
    intro v S H locs pc ls h hw hS d0
    rw [hQ]; exact W.iret hx hb hr (fun t ht hW => ⟨⟨v, S, rfl, h, by show wd D y z S A t.heap; rw [ht]; exact hw⟩, hS.F ht⟩) hS.2.2 d0 hlocks
  have hB4 : ∀ (n4 : Nat) (S : bS) (H : Heap) (locs : List Loc) (ls : Array Slot) (v0 : Nat) (v1 : Int32) (v2 : Int32) (v3 : Int32), wb_X6_line_4 post n4 v0 v1 v2 v3 S → wd D y z S A H → va_S A s.heap H locs → lv_has ls 6 [(0, .ref v0), (1, .int v1), (2, .int v2), (3, .int v3)] → W p l e R s m (([Value.ref this, Value.int p1] : List Value).toArray) below meth c H locs 0 0 Q (F0 m 4 ls []) := by
    intro n4
    induction n4 with
    | zero =>
      intro S H locs ls v0 v1 v2 v3 h hw hS hl
      exact absurd h (by unfold wb_X6_line_4; exact id)
    | succ n4 ih4 =>
      have hB105 : ∀ (S : bS) (H : Heap) (locs : List Loc) (ls : Array Slot) (v0 : Nat) (v1 : Int32) (v2 : Int32) (v3 : Int32), wb_X6_line_105 post (wb_X6_line_4 post n4) v0 v1 v2 v3 S → wd D y z S A H → va_S A s.heap H locs → lv_has ls 6 [(0, .ref v0), (1, .int v1), (2, .int v2), (3, .int v3)] → W p l e R s m (([Value.ref this, Value.int p1] : List Value).toArray) below meth c H locs 0 0 Q (F0 m 105 ls []) := by
        intro S H locs ls v0 v1 v2 v3 h hw hS hl
        unfold wb_X6_line_105 at h
        refine lv_iinc (v := (v3 + (1 : Int32))) hx hb dX6_line_105 hl (k := 3) rfl rfl (by decide) rfl (fun ls hl => ?_)
        have hl : lv_has ls 6 [(3, .int (v3 + (1 : Int32))), (0, .ref v0), (1, .int v1), (2, .int v2)] := hl
        refine lv_goto (tgt := 4) hx hb dX6_line_108 (by decide) ?_
        exact ih4 _ _ _ _ _ _ _ _ h hw hS (lv_sub hl [1, 2, 3, 0] rfl)
      have hB93 : ∀ (S : bS) (H : Heap) (locs : List Loc) (ls : Array Slot) (v0 : Nat) (v1 : Int32) (v2 : Int32) (v3 : Int32) (v4 : Int32) (v5 : Int32), wb_X6_line_93 post (wb_X6_line_4 post n4) v0 v1 v2 v3 v4 v5 S → wd D y z S A H → va_S A s.heap H locs → lv_has ls 6 [(0, .ref v0), (1, .int v1), (2, .int v2), (3, .int v3), (4, .int v4), (5, .int v5)] → W p l e R s m (([Value.ref this, Value.int p1] : List Value).toArray) below meth c H locs 0 0 Q (F0 m 93 ls []) := by
        intro S H locs ls v0 v1 v2 v3 v4 v5 h hw hS hl
        unfold wb_X6_line_93 at h
        refine lv_aload_n hx hb dX6_line_93 rfl (lv_at hl 0 rfl) ?_
        obtain ⟨hk27, h⟩ := h
        obtain ⟨b28, hb29, h⟩ := h
        refine r_get (ci := 7) (v := .ref b28) (C := RX6) (T := TX6) (N := 17) hx hb hts hiX6 hown hK hw (ce_8 (S := S) hk27) rfl 16 (by decide) (hts (.fieldLink RX6 28 "TubePostModel" "queue" "[I") (by decide +kernel)) (fun _ h9 => h9) (congrArg (fun q => some (va_rf q)) hb29) dX6_line_94 ?_
        refine lv_iload hx hb dX6_line_97 (lv_at hl 5 rfl) ?_
        refine lv_iload hx hb dX6_line_99 (lv_at hl 4 rfl) ?_
        obtain ⟨hk30, h⟩ := h
        obtain ⟨hin31, h⟩ := h
        refine r_iast hx hb hK hw hS hk30 hin31 dX6_line_101 (fun H locs hw hS => ?_)
        refine lv_iinc (v := (v2 + (1 : Int32))) hx hb dX6_line_102 hl (k := 2) rfl rfl (by decide) rfl (fun ls hl => ?_)
        have hl : lv_has ls 6 [(2, .int (v2 + (1 : Int32))), (0, .ref v0), (1, .int v1), (3, .int v3), (4, .int v4), (5, .int v5)] := hl
        exact hB105 _ _ _ _ _ _ _ _ h hw hS (lv_sub hl [1, 2, 0, 3] rfl)
      have hB48 : ∀ (n48 : Nat) (S : bS) (H : Heap) (locs : List Loc) (ls : Array Slot) (v0 : Nat) (v1 : Int32) (v2 : Int32) (v3 : Int32) (v4 : Int32) (v5 : Int32), wb_X6_line_48 post (wb_X6_line_4 post n4) n48 v0 v1 v2 v3 v4 v5 S → wd D y z S A H → va_S A s.heap H locs → lv_has ls 6 [(0, .ref v0), (1, .int v1), (2, .int v2), (3, .int v3), (4, .int v4), (5, .int v5)] → W p l e R s m (([Value.ref this, Value.int p1] : List Value).toArray) below meth c H locs 0 0 Q (F0 m 48 ls []) := by
        intro n48
        induction n48 with
        | zero =>
          intro S H locs ls v0 v1 v2 v3 v4 v5 h hw hS hl
          exact absurd h (by unfold wb_X6_line_48; exact id)
        | succ n48 ih48 =>
          intro S H locs ls v0 v1 v2 v3 v4 v5 h hw hS hl
          unfold wb_X6_line_48 at h
          refine lv_iload hx hb dX6_line_48 (lv_at hl 5 rfl) ?_
          refine lv_if_le (tgt := 93) hx hb dX6_line_50 (by decide) (fun hc => ?_) (fun hc => ?_)
          · have h := h.1 hc
            exact hB93 _ _ _ _ _ _ _ _ _ _ h hw hS (lv_sub hl [0, 1, 2, 3, 4, 5] rfl)
          · have h := h.2 hc
            refine lv_aload_n hx hb dX6_line_53 rfl (lv_at hl 0 rfl) ?_
            refine lv_iload hx hb dX6_line_54 (lv_at hl 4 rfl) ?_
            refine lv_aload_n hx hb dX6_line_56 rfl (lv_at hl 0 rfl) ?_
            obtain ⟨hk11, h⟩ := h
            obtain ⟨b12, hb13, h⟩ := h
            refine r_get (ci := 7) (v := .ref b12) (C := RX6) (T := TX6) (N := 17) hx hb hts hiX6 hown hK hw (ce_8 (S := S) hk11) rfl 16 (by decide) (hts (.fieldLink RX6 28 "TubePostModel" "queue" "[I") (by decide +kernel)) (fun _ h9 => h9) (congrArg (fun q => some (va_rf q)) hb13) dX6_line_57 ?_
            refine lv_iload hx hb dX6_line_60 (lv_at hl 5 rfl) ?_
            refine lv_iconst (v := (1 : Int32)) hx hb dX6_line_62 (by decide) ?_
            refine lv_isub hx hb dX6_line_63 ?_
            obtain ⟨hk14, h⟩ := h
            obtain ⟨hin15, h⟩ := h
            refine r_iald hx hb hK hw hk14 hin15 dX6_line_64 ?_
            have h1 := h
            refine va_calli (va_runV (As := [.int v4, .int (gV S 9 b12 (Int32.toNatClampNeg (v5 - (1 : Int32))))]) (rest := []) ⟨hx, hb, hml, hown, hts⟩ (m_X6_isAhead (l := l) h1) (cwV 2 hts gX6_line_X6_isAhead rfl rfl rfl (by decide +kernel) ⟨Nat.le_trans (Nat.le_of_ble_eq_true rfl) hRf, Nat.le_trans (Nat.le_of_ble_eq_true rfl) hRl⟩) (r_pV hB hw hS (ce_8 (S := S) hk11) rfl) rfl rfl hl.1 rfl (lv_room (Nat.le_of_ble_eq_true rfl)) dX6_line_65 ⟨Nat.zero_le _, Nat.zero_le _⟩) hS (fun _ _ h => h) (fun _ h => h) (fun r16 S17 t H1 locs ht _ h hw1 _ _ hS => ?_)
            subst ht
            have hw : wd D y z S17 A t.heap := hw1
            clear hw1 h1
            refine lv_if_eq (tgt := 93) hx hb dX6_line_68 (by decide) (fun hc => ?_) (fun hc => ?_)
            · have h := h.1 hc
              exact hB93 _ _ _ _ _ _ _ _ _ _ h hw hS (lv_sub hl [0, 1, 2, 3, 4, 5] rfl)
            · have h := h.2 hc
              refine lv_aload_n hx hb dX6_line_71 rfl (lv_at hl 0 rfl) ?_
              obtain ⟨hk18, h⟩ := h
              obtain ⟨b19, hb20, h⟩ := h
              refine r_get (ci := 7) (v := .ref b19) (C := RX6) (T := TX6) (N := 17) hx hb hts hiX6 hown hK hw (ce_8 (S := S17) hk18) rfl 16 (by decide) (hts (.fieldLink RX6 28 "TubePostModel" "queue" "[I") (by decide +kernel)) (fun _ h9 => h9) (congrArg (fun q => some (va_rf q)) hb20) dX6_line_72 ?_
              refine lv_iload hx hb dX6_line_75 (lv_at hl 5 rfl) ?_
              refine lv_aload_n hx hb dX6_line_77 rfl (lv_at hl 0 rfl) ?_
              obtain ⟨b21, hb22, h⟩ := h
              refine r_get (ci := 7) (v := .ref b21) (C := RX6) (T := TX6) (N := 17) hx hb hts hiX6 hown hK hw (ce_8 (S := S17) hk18) rfl 16 (by decide) (hts (.fieldLink RX6 28 "TubePostModel" "queue" "[I") (by decide +kernel)) (fun _ h9 => h9) (congrArg (fun q => some (va_rf q)) hb22) dX6_line_78 ?_
              refine lv_iload hx hb dX6_line_81 (lv_at hl 5 rfl) ?_
              refine lv_iconst (v := (1 : Int32)) hx hb dX6_line_83 (by decide) ?_
              refine lv_isub hx hb dX6_line_84 ?_
              obtain ⟨hk23, h⟩ := h
              obtain ⟨hin24, h⟩ := h
              refine r_iald hx hb hK hw hk23 hin24 dX6_line_85 ?_
              obtain ⟨hk25, h⟩ := h
              obtain ⟨hin26, h⟩ := h
              refine r_iast hx hb hK hw hS hk25 hin26 dX6_line_86 (fun H locs hw hS => ?_)
              refine lv_iinc (v := (v5 + (-1 : Int32))) hx hb dX6_line_87 hl (k := 5) rfl rfl (by decide) rfl (fun ls hl => ?_)
              have hl : lv_has ls 6 [(5, .int (v5 + (-1 : Int32))), (0, .ref v0), (1, .int v1), (2, .int v2), (3, .int v3), (4, .int v4)] := hl
              refine lv_goto (tgt := 48) hx hb dX6_line_90 (by decide) ?_
              exact ih48 _ _ _ _ _ _ _ _ _ _ h hw hS (lv_sub hl [1, 2, 3, 4, 5, 0] rfl)
      intro S H locs ls v0 v1 v2 v3 h hw hS hl
      unfold wb_X6_line_4 at h
      refine lv_iload_n hx hb dX6_line_4 rfl (lv_at hl 3 rfl) ?_
      refine lv_aload_n hx hb dX6_line_5 rfl (lv_at hl 0 rfl) ?_
      obtain ⟨hk1, h⟩ := h
      refine r_get (ci := 7) (v := .int (gV S 8 v0 14)) (C := RX6) (T := TX6) (N := 17) hx hb hts hiX6 hown hK hw (ce_8 (S := S) hk1) rfl 14 (by decide) (hts (.fieldLink RX6 76 "TubePostModel" "actives" "I") (by decide +kernel)) (fun _ h9 => h9) rfl dX6_line_6 ?_
      refine lv_icmp_ge (tgt := 111) hx hb dX6_line_9 (by decide) (fun hc => ?_) (fun hc => ?_)
      · have h := h.1 hc
        refine lv_iload_n hx hb dX6_line_111 rfl (lv_at hl 2 rfl) ?_
        exact hret v2 _ _ _ _ _ h hw hS dX6_line_112
      · have h := h.2 hc
        refine lv_aload_n hx hb dX6_line_12 rfl (lv_at hl 0 rfl) ?_
        obtain ⟨b2, hb3, h⟩ := h
        refine r_get (ci := 7) (v := .ref b2) (C := RX6) (T := TX6) (N := 17) hx hb hts hiX6 hown hK hw (ce_8 (S := S) hk1) rfl 13 (by decide) (hts (.fieldLink RX6 22 "TubePostModel" "active" "[I") (by decide +kernel)) (fun _ h9 => h9) (congrArg (fun q => some (va_rf q)) hb3) dX6_line_13 ?_
        refine lv_iload_n hx hb dX6_line_16 rfl (lv_at hl 3 rfl) ?_
        obtain ⟨hk4, h⟩ := h
        obtain ⟨hin5, h⟩ := h
        refine r_iald hx hb hK hw hk4 hin5 dX6_line_17 ?_
        refine lv_istore hx hb dX6_line_18 hl (by decide) rfl (fun ls hl => ?_)
        have hl : lv_has ls 6 [(4, .int (gV S 9 b2 (Int32.toNatClampNeg v3))), (0, .ref v0), (1, .int v1), (2, .int v2), (3, .int v3)] := hl
        refine lv_aload_n hx hb dX6_line_20 rfl (lv_at hl 1 rfl) ?_
        refine lv_iload hx hb dX6_line_21 (lv_at hl 0 rfl) ?_
        refine lv_iconst (v := (0 : Int32)) hx hb dX6_line_23 (by decide) ?_
        have h1 := h
        refine va_calli (va_runV (As := [.int (gV S 9 b2 (Int32.toNatClampNeg v3)), .int (0 : Int32)]) (rest := []) ⟨hx, hb, hml, hown, hts⟩ (m_X6_get (l := l) h1) (cwV 2 hts gX6_line_X6_get rfl rfl rfl (by decide +kernel) ⟨Nat.le_trans (Nat.le_of_ble_eq_true rfl) hRf, Nat.le_trans (Nat.le_of_ble_eq_true rfl) hRl⟩) (r_pV hB hw hS (ce_8 (S := S) hk1) rfl) rfl rfl hl.1 rfl (lv_room (Nat.le_of_ble_eq_true rfl)) dX6_line_24 ⟨Nat.zero_le _, Nat.zero_le _⟩) hS (fun _ _ h => h) (fun _ h => h) (fun r6 S7 t H1 locs ht _ h hw1 _ _ hS => ?_)
        subst ht
        have hw : wd D y z S7 A t.heap := hw1
        clear hw1 h1
        refine lv_iconst (v := (1 : Int32)) hx hb dX6_line_27 (by decide) ?_
        refine lv_icmp_ne (tgt := 105) hx hb dX6_line_28 (by decide) (fun hc => ?_) (fun hc => ?_)
        · have h := h.1 hc
          exact hB105 _ _ _ _ _ _ _ _ h hw hS (lv_sub hl [1, 2, 3, 4] rfl)
        · have h := h.2 hc
          refine lv_aload_n hx hb dX6_line_31 rfl (lv_at hl 1 rfl) ?_
          refine lv_iload hx hb dX6_line_32 (lv_at hl 0 rfl) ?_
          refine lv_iconst (v := (1 : Int32)) hx hb dX6_line_34 (by decide) ?_
          obtain ⟨hk8, h⟩ := h
          have h1 := h
          refine va_calli (va_runV (As := [.int (gV S 9 b2 (Int32.toNatClampNeg v3)), .int (1 : Int32)]) (rest := []) ⟨hx, hb, hml, hown, hts⟩ (m_X6_get (l := l) h1) (cwV 2 hts gX6_line_X6_get rfl rfl rfl (by decide +kernel) ⟨Nat.le_trans (Nat.le_of_ble_eq_true rfl) hRf, Nat.le_trans (Nat.le_of_ble_eq_true rfl) hRl⟩) (r_pV hB hw hS (ce_8 (S := S7) hk8) rfl) rfl rfl hl.1 rfl (lv_room (Nat.le_of_ble_eq_true rfl)) dX6_line_35 ⟨Nat.zero_le _, Nat.zero_le _⟩) hS (fun _ _ h => h) (fun _ h => h) (fun r9 S10 t H1 locs ht _ h hw1 _ _ hS => ?_)
          subst ht
          have hw : wd D y z S10 A t.heap := hw1
          clear hw1 h1
          refine lv_iload_n hx hb dX6_line_38 rfl (lv_at hl 2 rfl) ?_
          refine lv_icmp_eq (tgt := 45) hx hb dX6_line_39 (by decide) (fun hc => ?_) (fun hc => ?_)
          · have h := h.1 hc
            refine lv_iload_n hx hb dX6_line_45 rfl (lv_at hl 3 rfl) ?_
            refine lv_istore hx hb dX6_line_46 hl (by decide) rfl (fun ls hl => ?_)
            have hl : lv_has ls 6 [(5, .int v2), (4, .int (gV S 9 b2 (Int32.toNatClampNeg v3))), (0, .ref v0), (1, .int v1), (2, .int v2), (3, .int v3)] := hl
            obtain ⟨n48, h⟩ := h
            exact hB48 n48 _ _ _ _ _ _ _ _ _ _ h hw hS (lv_sub hl [2, 3, 4, 5, 1, 0] rfl)
          · have h := h.2 hc
            refine lv_goto (tgt := 105) hx hb dX6_line_42 (by decide) ?_
            exact hB105 _ _ _ _ _ _ _ _ h hw hS (lv_sub hl [1, 2, 3, 4] rfl)
  unfold wp_X6_line at h
  refine lv_iconst (v := (0 : Int32)) hx hb dX6_line_0 (by decide) ?_
  refine lv_istore_n hx hb dX6_line_1 rfl hl (by decide) rfl (fun ls hl => ?_)
  have hl : lv_has ls 6 [(2, .int (0 : Int32)), (0, .ref this), (1, .int p1)] := hl
  refine lv_iconst (v := (0 : Int32)) hx hb dX6_line_2 (by decide) ?_
  refine lv_istore_n hx hb dX6_line_3 rfl hl (by decide) rfl (fun ls hl => ?_)
  have hl : lv_has ls 6 [(3, .int (0 : Int32)), (2, .int (0 : Int32)), (0, .ref this), (1, .int p1)] := hl
  obtain ⟨n4, h⟩ := h
  exact hB4 n4 _ _ _ _ _ _ _ _ h hw hS (lv_sub hl [2, 3, 1, 0] rfl)
def wb_X6_departures_199 (post : bS → Prop) (rec8 : Nat → Int32 → Int32 → Int32 → bS → Prop) (v0 : Nat) (v1 : Int32) (v2 : Int32) (v3 : Int32) (S : bS) : Prop := rec8 v0 v1 v2 (v3 + (1 : Int32)) S
def wb_X6_departures_8 (post : bS → Prop) : Nat → Nat → Int32 → Int32 → Int32 → bS → Prop
  | 0, _, _, _, _, _ => False
  | n + 1, v0, v1, v2, v3, S => (v2 ≤ v3 → post S) ∧ (¬ (v2 ≤ v3) → gK S v0 = 8 ∧ (∃ b5, gQ S 8 v0 16 = some b5 ∧ (gK S b5 = 9 ∧ (vp_in v3 (gN S b5) ∧ (wp_X6_get (fun r9 S10 => gK S10 v0 = 8 ∧ (wp_X6_st (fun r12 S13 => gK S13 v0 = 8 ∧ (((r9 + r12) ≤ (gV S13 8 v0 1) → wp_X6_get (fun r15 S16 => gK S16 v0 = 8 ∧ (wp_X6_chosen (fun r18 S19 => (r18 ≠ (-1 : Int32) → gK S19 v0 = 8 ∧ (wp_X6_st (fun r21 S22 => gK S22 v0 = 8 ∧ (wp_X6_tu (fun r24 S25 => (r24 = (0 : Int32) → wb_X6_departures_199 post (wb_X6_departures_8 post n) v0 v1 v2 v3 S25) ∧ (¬ (r24 = (0 : Int32)) → gK S25 v0 = 8 ∧ (wp_X6_manyAt (fun r27 S28 => gK S28 v0 = 8 ∧ (wp_X6_tu (fun r30 S31 => (r30 ≤ r27 → wb_X6_departures_199 post (wb_X6_departures_8 post n) v0 v1 v2 v3 S31) ∧ (¬ (r30 ≤ r27) → gK S31 v0 = 8 ∧ (wp_X6_tu (fun r33 S34 => gK S34 v0 = 8 ∧ ((r33 ≠ (gV S34 8 v0 1) → wp_X6_put (fun S37 => gK S37 v0 = 8 ∧ (wp_X6_through (fun r39 S40 => gK S40 v0 = 8 ∧ (wp_X6_set (fun S43 => gK S43 v0 = 8 ∧ (wp_X6_get (fun r45 S46 => gK S46 v0 = 8 ∧ (wp_X6_set (fun S49 => gK S49 v0 = 8 ∧ (∃ b51, gQ S49 8 v0 10 = some b51 ∧ (gK S49 b51 = 9 ∧ (vp_in (((8 : Int32) * r21) + (6 : Int32)) (gN S49 b51) ∧ (vp_in (((8 : Int32) * r21) + (6 : Int32)) (gN S49 b51) ∧ (∃ b56, gQ (sV S49 9 b51 (Int32.toNatClampNeg (((8 : Int32) * r21) + (6 : Int32))) ((gV S49 9 b51 (Int32.toNatClampNeg (((8 : Int32) * r21) + (6 : Int32)))) + (1 : Int32))) 8 v0 10 = some b56 ∧ (gK (sV S49 9 b51 (Int32.toNatClampNeg (((8 : Int32) * r21) + (6 : Int32))) ((gV S49 9 b51 (Int32.toNatClampNeg (((8 : Int32) * r21) + (6 : Int32)))) + (1 : Int32))) b56 = 9 ∧ (vp_in (((8 : Int32) * r21) + (7 : Int32)) (gN (sV S49 9 b51 (Int32.toNatClampNeg (((8 : Int32) * r21) + (6 : Int32))) ((gV S49 9 b51 (Int32.toNatClampNeg (((8 : Int32) * r21) + (6 : Int32)))) + (1 : Int32))) b56) ∧ (wb_X6_departures_199 post (wb_X6_departures_8 post n) v0 v1 v2 v3 (sV (sV S49 9 b51 (Int32.toNatClampNeg (((8 : Int32) * r21) + (6 : Int32))) ((gV S49 9 b51 (Int32.toNatClampNeg (((8 : Int32) * r21) + (6 : Int32)))) + (1 : Int32))) 9 b56 (Int32.toNatClampNeg (((8 : Int32) * r21) + (7 : Int32))) (gV (sV S49 9 b51 (Int32.toNatClampNeg (((8 : Int32) * r21) + (6 : Int32))) ((gV S49 9 b51 (Int32.toNatClampNeg (((8 : Int32) * r21) + (6 : Int32)))) + (1 : Int32))) 8 v0 1))))))))))) v0 (gV S 9 b5 (Int32.toNatClampNeg v3)) (6 : Int32) (r45 + (1 : Int32)) S46)) v0 (gV S 9 b5 (Int32.toNatClampNeg v3)) (6 : Int32) S43)) v0 (gV S 9 b5 (Int32.toNatClampNeg v3)) (8 : Int32) r39 S40)) v0 r21 S37)) v0 (gV S 9 b5 (Int32.toNatClampNeg v3)) (2 : Int32) r21 S34) ∧ (r33 = (gV S34 8 v0 1) → wb_X6_departures_199 post (wb_X6_departures_8 post n) v0 v1 v2 v3 S34))) v0 r21 (7 : Int32) S31))) v0 r21 (4 : Int32) S28)) v0 (2 : Int32) r21 S25))) v0 r21 (5 : Int32) S22)) v0 v1 ((5 : Int32) + r18) S19)) ∧ (r18 = (-1 : Int32) → wb_X6_departures_199 post (wb_X6_departures_8 post n) v0 v1 v2 v3 S19)) v0 v1 r15 S16)) v0 (gV S 9 b5 (Int32.toNatClampNeg v3)) (2 : Int32) S13) ∧ (¬ ((r9 + r12) ≤ (gV S13 8 v0 1)) → wb_X6_departures_199 post (wb_X6_departures_8 post n) v0 v1 v2 v3 S13))) v0 v1 (1 : Int32) S10)) v0 (gV S 9 b5 (Int32.toNatClampNeg v3)) (5 : Int32) S)))))
def wp_X6_departures (post : bS → Prop) (this : Nat) (p1 : Int32) (S : bS) : Prop := gK S this = 8 ∧ (wp_X6_line (fun r2 S3 => ∃ n8, wb_X6_departures_8 post n8 this p1 r2 (0 : Int32) S3) this p1 S)
set_option maxHeartbeats 4000000 in
set_option maxRecDepth 100000 in
theorem m_X6_departures {l : Launch} {D : va_G} {y : Nat → ClassId} {z : Nat} {A : Nat → Prop} {S : bS} {post : bS → Prop} {this : Nat} {p1 : Int32} (h : wp_X6_departures post this p1 S) : Met l yX6_departures wsX6_departures ({ frames := 5, cells := 0, slots := 0, locals := 117 } : Room) (va_Pc ([Value.ref this, Value.int p1] : List Value) (bP D y z S A)) (va_Qv post (fun S' t => wd D y z S' A t.heap) A) 0 0 A := by
  refine Met.ofW (cc := cX6_departures) (maxL := 7) (ret := none) (by decide) rfl ?_
  intro p e s m args below meth c s₁ B hml hv
  obtain ⟨rfl, hB⟩ := hv
  have hx := B.exec
  have hb := B.bytes
  have hr := B.returns
  have hts := atoms_spec (ws := wsX6_departures) B.pre
  have hown : s.vm.findClass RX6 = some m.cls := findClass_of_methodNamed B.named
  have hlocks := B.notSynchronized
  have hw : wd D y z S A s.heap := hB.1
  have hK : va_K D bCl (bT y) s := hB.2.1
  have hNw := hB.2.2.1
  have hAn : ∀ q : Nat, s.heap.size ≤ q → A q := hB.2.2.2.1
  have hAz : ¬ A z := hB.2.2.2.2.1
  have hO := hB.2.2.2.2.2.1
  have hS : va_S A s.heap s.heap [] := va_S.rf
  have hiX6 : ∀ w ∈ u_ws RX6 TX6 17, w ∈ wsX6_departures := by decide +kernel
  have hl := lv_entry ([Value.ref this, Value.int p1] : List Value) (n := 7) (Nat.le_of_ble_eq_true rfl)
  rw [lg_entry_eq]
  generalize (lg_sl ([Value.ref this, Value.int p1] : List Value) ++ List.replicate (7 - (lg_sl ([Value.ref this, Value.int p1] : List Value)).length) Slot.unset).toArray = ls at hl ⊢
  have hl : lv_has ls 7 [(0, .ref this), (1, .int p1)] := hl
  obtain ⟨Q, hQ⟩ : ∃ Q, Q = MQ below (va_Qv post (fun S' t => wd D y z S' A t.heap) A) (([Value.ref this, Value.int p1] : List Value).toArray) s 0 0 A := ⟨_, rfl⟩
  rw [← hQ]
  generalize hR : (headSpec wsX6_departures ({ frames := 5, cells := 0, slots := 0, locals := 117 } : Room)).room = R
  have hRf : 5 ≤ R.frames := by rw [← hR]; exact Nat.le_refl _
  have hRl : 117 ≤ R.locals := by rw [← hR]; exact Nat.le_refl _
  have hret : ∀ (S : bS) (H : Heap) (locs : List Loc) (pc : Nat) (ls : Array Slot) , post S → wd D y z S A H → va_S A s.heap H locs → decode cX6_departures pc = .ok (.return_, 1) → W p l e R s m (([Value.ref this, Value.int p1] : List Value).toArray) below meth c H locs 0 0 Q (F0 m pc ls []) := by
    intro S H locs pc ls h hw hS d0
    rw [hQ]; exact W.vret hx hb hr (fun t ht hW => ⟨⟨S, rfl, h, by show wd D y z S A t.heap; rw [ht]; exact hw⟩, hS.F ht⟩) hS.2.2 d0 hlocks
  have hB8 : ∀ (n8 : Nat) (S : bS) (H : Heap) (locs : List Loc) (ls : Array Slot) (v0 : Nat) (v1 : Int32) (v2 : Int32) (v3 : Int32), wb_X6_departures_8 post n8 v0 v1 v2 v3 S → wd D y z S A H → va_S A s.heap H locs → lv_has ls 7 [(0, .ref v0), (1, .int v1), (2, .int v2), (3, .int v3)] → W p l e R s m (([Value.ref this, Value.int p1] : List Value).toArray) below meth c H locs 0 0 Q (F0 m 8 ls []) := by
    intro n8
    induction n8 with
    | zero =>
      intro S H locs ls v0 v1 v2 v3 h hw hS hl
      exact absurd h (by unfold wb_X6_departures_8; exact id)
    | succ n8 ih8 =>
      have hB199 : ∀ (S : bS) (H : Heap) (locs : List Loc) (ls : Array Slot) (v0 : Nat) (v1 : Int32) (v2 : Int32) (v3 : Int32), wb_X6_departures_199 post (wb_X6_departures_8 post n8) v0 v1 v2 v3 S → wd D y z S A H → va_S A s.heap H locs → lv_has ls 7 [(0, .ref v0), (1, .int v1), (2, .int v2), (3, .int v3)] → W p l e R s m (([Value.ref this, Value.int p1] : List Value).toArray) below meth c H locs 0 0 Q (F0 m 199 ls []) := by
        intro S H locs ls v0 v1 v2 v3 h hw hS hl
        unfold wb_X6_departures_199 at h
        refine lv_iinc (v := (v3 + (1 : Int32))) hx hb dX6_departures_199 hl (k := 3) rfl rfl (by decide) rfl (fun ls hl => ?_)
        have hl : lv_has ls 7 [(3, .int (v3 + (1 : Int32))), (0, .ref v0), (1, .int v1), (2, .int v2)] := hl
        refine lv_goto (tgt := 8) hx hb dX6_departures_202 (by decide) ?_
        exact ih8 _ _ _ _ _ _ _ _ h hw hS (lv_sub hl [1, 2, 3, 0] rfl)
      intro S H locs ls v0 v1 v2 v3 h hw hS hl
      unfold wb_X6_departures_8 at h
      refine lv_iload_n hx hb dX6_departures_8 rfl (lv_at hl 3 rfl) ?_
      refine lv_iload_n hx hb dX6_departures_9 rfl (lv_at hl 2 rfl) ?_
      refine lv_icmp_ge (tgt := 205) hx hb dX6_departures_10 (by decide) (fun hc => ?_) (fun hc => ?_)
      · have h := h.1 hc
        exact hret _ _ _ _ _ h hw hS dX6_departures_205
      · have h := h.2 hc
        refine lv_aload_n hx hb dX6_departures_13 rfl (lv_at hl 0 rfl) ?_
        obtain ⟨hk4, h⟩ := h
        obtain ⟨b5, hb6, h⟩ := h
        refine r_get (ci := 7) (v := .ref b5) (C := RX6) (T := TX6) (N := 17) hx hb hts hiX6 hown hK hw (ce_8 (S := S) hk4) rfl 16 (by decide) (hts (.fieldLink RX6 28 "TubePostModel" "queue" "[I") (by decide +kernel)) (fun _ h9 => h9) (congrArg (fun q => some (va_rf q)) hb6) dX6_departures_14 ?_
        refine lv_iload_n hx hb dX6_departures_17 rfl (lv_at hl 3 rfl) ?_
        obtain ⟨hk7, h⟩ := h
        obtain ⟨hin8, h⟩ := h
        refine r_iald hx hb hK hw hk7 hin8 dX6_departures_18 ?_
        refine lv_istore hx hb dX6_departures_19 hl (by decide) rfl (fun ls hl => ?_)
        have hl : lv_has ls 7 [(4, .int (gV S 9 b5 (Int32.toNatClampNeg v3))), (0, .ref v0), (1, .int v1), (2, .int v2), (3, .int v3)] := hl
        refine lv_aload_n hx hb dX6_departures_21 rfl (lv_at hl 1 rfl) ?_
        refine lv_iload hx hb dX6_departures_22 (lv_at hl 0 rfl) ?_
        refine lv_iconst (v := (5 : Int32)) hx hb dX6_departures_24 (by decide) ?_
        have h1 := h
        refine va_calli (va_runV (As := [.int (gV S 9 b5 (Int32.toNatClampNeg v3)), .int (5 : Int32)]) (rest := []) ⟨hx, hb, hml, hown, hts⟩ (m_X6_get (l := l) h1) (cwV 2 hts gX6_departures_X6_get rfl rfl rfl (by decide +kernel) ⟨Nat.le_trans (Nat.le_of_ble_eq_true rfl) hRf, Nat.le_trans (Nat.le_of_ble_eq_true rfl) hRl⟩) (r_pV hB hw hS (ce_8 (S := S) hk4) rfl) rfl rfl hl.1 rfl (lv_room (Nat.le_of_ble_eq_true rfl)) dX6_departures_25 ⟨Nat.zero_le _, Nat.zero_le _⟩) hS (fun _ _ h => h) (fun _ h => h) (fun r9 S10 t H1 locs ht _ h hw1 _ _ hS => ?_)
        subst ht
        have hw : wd D y z S10 A t.heap := hw1
        clear hw1 h1
        refine lv_aload_n hx hb dX6_departures_28 rfl (lv_at hl 1 rfl) ?_
        refine lv_iload_n hx hb dX6_departures_29 rfl (lv_at hl 2 rfl) ?_
        refine lv_iconst (v := (1 : Int32)) hx hb dX6_departures_30 (by decide) ?_
        obtain ⟨hk11, h⟩ := h
        have h1 := h
        refine va_calli (va_runV (As := [.int v1, .int (1 : Int32)]) (rest := [.int r9]) ⟨hx, hb, hml, hown, hts⟩ (m_X6_st (l := l) h1) (cwV 2 hts gX6_departures_X6_st rfl rfl rfl (by decide +kernel) ⟨Nat.le_trans (Nat.le_of_ble_eq_true rfl) hRf, Nat.le_trans (Nat.le_of_ble_eq_true rfl) hRl⟩) (r_pV hB hw hS (ce_8 (S := S10) hk11) rfl) rfl rfl hl.1 rfl (lv_room (Nat.le_of_ble_eq_true rfl)) dX6_departures_31 ⟨Nat.zero_le _, Nat.zero_le _⟩) hS (fun _ _ h => h) (fun _ h => h) (fun r12 S13 t H1 locs ht _ h hw1 _ _ hS => ?_)
        subst ht
        have hw : wd D y z S13 A t.heap := hw1
        clear hw1 h1
        refine lv_iadd hx hb dX6_departures_34 ?_
        refine lv_aload_n hx hb dX6_departures_35 rfl (lv_at hl 1 rfl) ?_
        obtain ⟨hk14, h⟩ := h
        refine r_get (ci := 7) (v := .int (gV S13 8 v0 1)) (C := RX6) (T := TX6) (N := 17) hx hb hts hiX6 hown hK hw (ce_8 (S := S13) hk14) rfl 1 (by decide) (hts (.fieldLink RX6 69 "TubePostModel" "tick" "I") (by decide +kernel)) (fun _ h9 => h9) rfl dX6_departures_36 ?_
        refine lv_icmp_le (tgt := 45) hx hb dX6_departures_39 (by decide) (fun hc => ?_) (fun hc => ?_)
        · have h := h.1 hc
          refine lv_aload_n hx hb dX6_departures_45 rfl (lv_at hl 1 rfl) ?_
          refine lv_iload_n hx hb dX6_departures_46 rfl (lv_at hl 2 rfl) ?_
          refine lv_aload_n hx hb dX6_departures_47 rfl (lv_at hl 1 rfl) ?_
          refine lv_iload hx hb dX6_departures_48 (lv_at hl 0 rfl) ?_
          refine lv_iconst (v := (2 : Int32)) hx hb dX6_departures_50 (by decide) ?_
          have h1 := h
          refine va_calli (va_runV (As := [.int (gV S 9 b5 (Int32.toNatClampNeg v3)), .int (2 : Int32)]) (rest := [.int v1, .ref v0]) ⟨hx, hb, hml, hown, hts⟩ (m_X6_get (l := l) h1) (cwV 2 hts gX6_departures_X6_get rfl rfl rfl (by decide +kernel) ⟨Nat.le_trans (Nat.le_of_ble_eq_true rfl) hRf, Nat.le_trans (Nat.le_of_ble_eq_true rfl) hRl⟩) (r_pV hB hw hS (ce_8 (S := S13) hk14) rfl) rfl rfl hl.1 rfl (lv_room (Nat.le_of_ble_eq_true rfl)) dX6_departures_51 ⟨Nat.zero_le _, Nat.zero_le _⟩) hS (fun _ _ h => h) (fun _ h => h) (fun r15 S16 t H1 locs ht _ h hw1 _ _ hS => ?_)
          subst ht
          have hw : wd D y z S16 A t.heap := hw1
          clear hw1 h1
          obtain ⟨hk17, h⟩ := h
          have h1 := h
          refine va_calli (va_runV (As := [.int v1, .int r15]) (rest := []) ⟨hx, hb, hml, hown, hts⟩ (m_X6_chosen (l := l) h1) (cwV 2 hts gX6_departures_X6_chosen rfl rfl rfl (by decide +kernel) ⟨Nat.le_trans (Nat.le_of_ble_eq_true rfl) hRf, Nat.le_trans (Nat.le_of_ble_eq_true rfl) hRl⟩) (r_pV hB hw hS (ce_8 (S := S16) hk17) rfl) rfl rfl hl.1 rfl (lv_room (Nat.le_of_ble_eq_true rfl)) dX6_departures_54 ⟨Nat.zero_le _, Nat.zero_le _⟩) hS (fun _ _ h => h) (fun _ h => h) (fun r18 S19 t H1 locs ht _ h hw1 _ _ hS => ?_)
          subst ht
          have hw : wd D y z S19 A t.heap := hw1
          clear hw1 h1
          refine lv_istore hx hb dX6_departures_57 hl (by decide) rfl (fun ls hl => ?_)
          have hl : lv_has ls 7 [(5, .int r18), (4, .int (gV S 9 b5 (Int32.toNatClampNeg v3))), (0, .ref v0), (1, .int v1), (2, .int v2), (3, .int v3)] := hl
          refine lv_iload hx hb dX6_departures_59 (lv_at hl 0 rfl) ?_
          refine lv_iconst (v := (-1 : Int32)) hx hb dX6_departures_61 (by decide) ?_
          refine lv_icmp_ne (tgt := 68) hx hb dX6_departures_62 (by decide) (fun hc => ?_) (fun hc => ?_)
          · have h := h.1 hc
            refine lv_aload_n hx hb dX6_departures_68 rfl (lv_at hl 2 rfl) ?_
            refine lv_iload_n hx hb dX6_departures_69 rfl (lv_at hl 3 rfl) ?_
            refine lv_iconst (v := (5 : Int32)) hx hb dX6_departures_70 (by decide) ?_
            refine lv_iload hx hb dX6_departures_71 (lv_at hl 0 rfl) ?_
            refine lv_iadd hx hb dX6_departures_73 ?_
            obtain ⟨hk20, h⟩ := h
            have h1 := h
            refine va_calli (va_runV (As := [.int v1, .int ((5 : Int32) + r18)]) (rest := []) ⟨hx, hb, hml, hown, hts⟩ (m_X6_st (l := l) h1) (cwV 2 hts gX6_departures_X6_st rfl rfl rfl (by decide +kernel) ⟨Nat.le_trans (Nat.le_of_ble_eq_true rfl) hRf, Nat.le_trans (Nat.le_of_ble_eq_true rfl) hRl⟩) (r_pV hB hw hS (ce_8 (S := S19) hk20) rfl) rfl rfl hl.1 rfl (lv_room (Nat.le_of_ble_eq_true rfl)) dX6_departures_74 ⟨Nat.zero_le _, Nat.zero_le _⟩) hS (fun _ _ h => h) (fun _ h => h) (fun r21 S22 t H1 locs ht _ h hw1 _ _ hS => ?_)
            subst ht
            have hw : wd D y z S22 A t.heap := hw1
            clear hw1 h1
            refine lv_istore hx hb dX6_departures_77 hl (by decide) rfl (fun ls hl => ?_)
            have hl : lv_has ls 7 [(6, .int r21), (5, .int r18), (4, .int (gV S 9 b5 (Int32.toNatClampNeg v3))), (0, .ref v0), (1, .int v1), (2, .int v2), (3, .int v3)] := hl
            refine lv_aload_n hx hb dX6_departures_79 rfl (lv_at hl 3 rfl) ?_
            refine lv_iload hx hb dX6_departures_80 (lv_at hl 0 rfl) ?_
            refine lv_iconst (v := (5 : Int32)) hx hb dX6_departures_82 (by decide) ?_
            obtain ⟨hk23, h⟩ := h
            have h1 := h
            refine va_calli (va_runV (As := [.int r21, .int (5 : Int32)]) (rest := []) ⟨hx, hb, hml, hown, hts⟩ (m_X6_tu (l := l) h1) (cwV 2 hts gX6_departures_X6_tu rfl rfl rfl (by decide +kernel) ⟨Nat.le_trans (Nat.le_of_ble_eq_true rfl) hRf, Nat.le_trans (Nat.le_of_ble_eq_true rfl) hRl⟩) (r_pV hB hw hS (ce_8 (S := S22) hk23) rfl) rfl rfl hl.1 rfl (lv_room (Nat.le_of_ble_eq_true rfl)) dX6_departures_83 ⟨Nat.zero_le _, Nat.zero_le _⟩) hS (fun _ _ h => h) (fun _ h => h) (fun r24 S25 t H1 locs ht _ h hw1 _ _ hS => ?_)
            subst ht
            have hw : wd D y z S25 A t.heap := hw1
            clear hw1 h1
            refine lv_if_eq (tgt := 199) hx hb dX6_departures_86 (by decide) (fun hc => ?_) (fun hc => ?_)
            · have h := h.1 hc
              exact hB199 _ _ _ _ _ _ _ _ h hw hS (lv_sub hl [3, 4, 5, 6] rfl)
            · have h := h.2 hc
              refine lv_aload_n hx hb dX6_departures_89 rfl (lv_at hl 3 rfl) ?_
              refine lv_iconst (v := (2 : Int32)) hx hb dX6_departures_90 (by decide) ?_
              refine lv_iload hx hb dX6_departures_91 (lv_at hl 0 rfl) ?_
              obtain ⟨hk26, h⟩ := h
              have h1 := h
              refine va_calli (va_runV (As := [.int (2 : Int32), .int r21]) (rest := []) ⟨hx, hb, hml, hown, hts⟩ (m_X6_manyAt (l := l) h1) (cwV 2 hts gX6_departures_X6_manyAt rfl rfl rfl (by decide +kernel) ⟨Nat.le_trans (Nat.le_of_ble_eq_true rfl) hRf, Nat.le_trans (Nat.le_of_ble_eq_true rfl) hRl⟩) (r_pV hB hw hS (ce_8 (S := S25) hk26) rfl) rfl rfl hl.1 rfl (lv_room (Nat.le_of_ble_eq_true rfl)) dX6_departures_93 ⟨Nat.zero_le _, Nat.zero_le _⟩) hS (fun _ _ h => h) (fun _ h => h) (fun r27 S28 t H1 locs ht _ h hw1 _ _ hS => ?_)
              subst ht
              have hw : wd D y z S28 A t.heap := hw1
              clear hw1 h1
              refine lv_aload_n hx hb dX6_departures_96 rfl (lv_at hl 3 rfl) ?_
              refine lv_iload hx hb dX6_departures_97 (lv_at hl 0 rfl) ?_
              refine lv_iconst (v := (4 : Int32)) hx hb dX6_departures_99 (by decide) ?_
              obtain ⟨hk29, h⟩ := h
              have h1 := h
              refine va_calli (va_runV (As := [.int r21, .int (4 : Int32)]) (rest := [.int r27]) ⟨hx, hb, hml, hown, hts⟩ (m_X6_tu (l := l) h1) (cwV 2 hts gX6_departures_X6_tu rfl rfl rfl (by decide +kernel) ⟨Nat.le_trans (Nat.le_of_ble_eq_true rfl) hRf, Nat.le_trans (Nat.le_of_ble_eq_true rfl) hRl⟩) (r_pV hB hw hS (ce_8 (S := S28) hk29) rfl) rfl rfl hl.1 rfl (lv_room (Nat.le_of_ble_eq_true rfl)) dX6_departures_100 ⟨Nat.zero_le _, Nat.zero_le _⟩) hS (fun _ _ h => h) (fun _ h => h) (fun r30 S31 t H1 locs ht _ h hw1 _ _ hS => ?_)
              subst ht
              have hw : wd D y z S31 A t.heap := hw1
              clear hw1 h1
              refine lv_icmp_ge (tgt := 199) hx hb dX6_departures_103 (by decide) (fun hc => ?_) (fun hc => ?_)
              · have h := h.1 hc
                exact hB199 _ _ _ _ _ _ _ _ h hw hS (lv_sub hl [3, 4, 5, 6] rfl)
              · have h := h.2 hc
                refine lv_aload_n hx hb dX6_departures_106 rfl (lv_at hl 3 rfl) ?_
                refine lv_iload hx hb dX6_departures_107 (lv_at hl 0 rfl) ?_
                refine lv_bipush (v := (7 : Int32)) hx hb dX6_departures_109 (by decide) ?_
                obtain ⟨hk32, h⟩ := h
                have h1 := h
                refine va_calli (va_runV (As := [.int r21, .int (7 : Int32)]) (rest := []) ⟨hx, hb, hml, hown, hts⟩ (m_X6_tu (l := l) h1) (cwV 2 hts gX6_departures_X6_tu rfl rfl rfl (by decide +kernel) ⟨Nat.le_trans (Nat.le_of_ble_eq_true rfl) hRf, Nat.le_trans (Nat.le_of_ble_eq_true rfl) hRl⟩) (r_pV hB hw hS (ce_8 (S := S31) hk32) rfl) rfl rfl hl.1 rfl (lv_room (Nat.le_of_ble_eq_true rfl)) dX6_departures_111 ⟨Nat.zero_le _, Nat.zero_le _⟩) hS (fun _ _ h => h) (fun _ h => h) (fun r33 S34 t H1 locs ht _ h hw1 _ _ hS => ?_)
                subst ht
                have hw : wd D y z S34 A t.heap := hw1
                clear hw1 h1
                refine lv_aload_n hx hb dX6_departures_114 rfl (lv_at hl 3 rfl) ?_
                obtain ⟨hk35, h⟩ := h
                refine r_get (ci := 7) (v := .int (gV S34 8 v0 1)) (C := RX6) (T := TX6) (N := 17) hx hb hts hiX6 hown hK hw (ce_8 (S := S34) hk35) rfl 1 (by decide) (hts (.fieldLink RX6 69 "TubePostModel" "tick" "I") (by decide +kernel)) (fun _ h9 => h9) rfl dX6_departures_115 ?_
                refine lv_icmp_ne (tgt := 124) hx hb dX6_departures_118 (by decide) (fun hc => ?_) (fun hc => ?_)
                · have h := h.1 hc
                  refine lv_aload_n hx hb dX6_departures_124 rfl (lv_at hl 3 rfl) ?_
                  refine lv_iload hx hb dX6_departures_125 (lv_at hl 2 rfl) ?_
                  refine lv_iconst (v := (2 : Int32)) hx hb dX6_departures_127 (by decide) ?_
                  refine lv_iload hx hb dX6_departures_128 (lv_at hl 0 rfl) ?_
                  have h1 := h
                  refine va_callv (va_runV (As := [.int (gV S 9 b5 (Int32.toNatClampNeg v3)), .int (2 : Int32), .int r21]) (rest := []) ⟨hx, hb, hml, hown, hts⟩ (m_X6_put (l := l) h1) (cwV 3 hts gX6_departures_X6_put rfl rfl rfl (by decide +kernel) ⟨Nat.le_trans (Nat.le_of_ble_eq_true rfl) hRf, Nat.le_trans (Nat.le_of_ble_eq_true rfl) hRl⟩) (r_pV hB hw hS (ce_8 (S := S34) hk35) rfl) rfl rfl hl.1 rfl (lv_room (Nat.le_of_ble_eq_true rfl)) dX6_departures_130 ⟨Nat.zero_le _, Nat.zero_le _⟩) hS (fun _ _ h => h) (fun _ h => h) (fun S37 t H1 locs ht _ h hw1 _ _ hS => ?_)
                  subst ht
                  have hw : wd D y z S37 A t.heap := hw1
                  clear hw1 h1
                  refine lv_aload_n hx hb dX6_departures_133 rfl (lv_at hl 3 rfl) ?_
                  refine lv_iload hx hb dX6_departures_134 (lv_at hl 2 rfl) ?_
                  refine lv_bipush (v := (8 : Int32)) hx hb dX6_departures_136 (by decide) ?_
                  refine lv_aload_n hx hb dX6_departures_138 rfl (lv_at hl 3 rfl) ?_
                  refine lv_iload hx hb dX6_departures_139 (lv_at hl 0 rfl) ?_
                  obtain ⟨hk38, h⟩ := h
                  have h1 := h
                  refine va_calli (va_runV (As := [.int r21]) (rest := [.int (8 : Int32), .int (gV S 9 b5 (Int32.toNatClampNeg v3)), .ref v0]) ⟨hx, hb, hml, hown, hts⟩ (m_X6_through (l := l) h1) (cwV 1 hts gX6_departures_X6_through rfl rfl rfl (by decide +kernel) ⟨Nat.le_trans (Nat.le_of_ble_eq_true rfl) hRf, Nat.le_trans (Nat.le_of_ble_eq_true rfl) hRl⟩) (r_pV hB hw hS (ce_8 (S := S37) hk38) rfl) rfl rfl hl.1 rfl (lv_room (Nat.le_of_ble_eq_true rfl)) dX6_departures_141 ⟨Nat.zero_le _, Nat.zero_le _⟩) hS (fun _ _ h => h) (fun _ h => h) (fun r39 S40 t H1 locs ht _ h hw1 _ _ hS => ?_)
                  subst ht
                  have hw : wd D y z S40 A t.heap := hw1
                  clear hw1 h1
                  obtain ⟨hk41, h⟩ := h
                  have h1 := h
                  refine va_callv (va_runV (As := [.int (gV S 9 b5 (Int32.toNatClampNeg v3)), .int (8 : Int32), .int r39]) (rest := []) ⟨hx, hb, hml, hown, hts⟩ (m_X6_set (l := l) h1) (cwV 3 hts gX6_departures_X6_set rfl rfl rfl (by decide +kernel) ⟨Nat.le_trans (Nat.le_of_ble_eq_true rfl) hRf, Nat.le_trans (Nat.le_of_ble_eq_true rfl) hRl⟩) (r_pV hB hw hS (ce_8 (S := S40) hk41) rfl) rfl rfl hl.1 rfl (lv_room (Nat.le_of_ble_eq_true rfl)) dX6_departures_144 ⟨Nat.zero_le _, Nat.zero_le _⟩) hS (fun _ _ h => h) (fun _ h => h) (fun S43 t H1 locs ht _ h hw1 _ _ hS => ?_)
                  subst ht
                  have hw : wd D y z S43 A t.heap := hw1
                  clear hw1 h1
                  refine lv_aload_n hx hb dX6_departures_147 rfl (lv_at hl 3 rfl) ?_
                  refine lv_iload hx hb dX6_departures_148 (lv_at hl 2 rfl) ?_
                  refine lv_bipush (v := (6 : Int32)) hx hb dX6_departures_150 (by decide) ?_
                  refine lv_aload_n hx hb dX6_departures_152 rfl (lv_at hl 3 rfl) ?_
                  refine lv_iload hx hb dX6_departures_153 (lv_at hl 2 rfl) ?_
                  refine lv_bipush (v := (6 : Int32)) hx hb dX6_departures_155 (by decide) ?_
                  obtain ⟨hk44, h⟩ := h
                  have h1 := h
                  refine va_calli (va_runV (As := [.int (gV S 9 b5 (Int32.toNatClampNeg v3)), .int (6 : Int32)]) (rest := [.int (6 : Int32), .int (gV S 9 b5 (Int32.toNatClampNeg v3)), .ref v0]) ⟨hx, hb, hml, hown, hts⟩ (m_X6_get (l := l) h1) (cwV 2 hts gX6_departures_X6_get rfl rfl rfl (by decide +kernel) ⟨Nat.le_trans (Nat.le_of_ble_eq_true rfl) hRf, Nat.le_trans (Nat.le_of_ble_eq_true rfl) hRl⟩) (r_pV hB hw hS (ce_8 (S := S43) hk44) rfl) rfl rfl hl.1 rfl (lv_room (Nat.le_of_ble_eq_true rfl)) dX6_departures_157 ⟨Nat.zero_le _, Nat.zero_le _⟩) hS (fun _ _ h => h) (fun _ h => h) (fun r45 S46 t H1 locs ht _ h hw1 _ _ hS => ?_)
                  subst ht
                  have hw : wd D y z S46 A t.heap := hw1
                  clear hw1 h1
                  refine lv_iconst (v := (1 : Int32)) hx hb dX6_departures_160 (by decide) ?_
                  refine lv_iadd hx hb dX6_departures_161 ?_
                  obtain ⟨hk47, h⟩ := h
                  have h1 := h
                  refine va_callv (va_runV (As := [.int (gV S 9 b5 (Int32.toNatClampNeg v3)), .int (6 : Int32), .int (r45 + (1 : Int32))]) (rest := []) ⟨hx, hb, hml, hown, hts⟩ (m_X6_set (l := l) h1) (cwV 3 hts gX6_departures_X6_set rfl rfl rfl (by decide +kernel) ⟨Nat.le_trans (Nat.le_of_ble_eq_true rfl) hRf, Nat.le_trans (Nat.le_of_ble_eq_true rfl) hRl⟩) (r_pV hB hw hS (ce_8 (S := S46) hk47) rfl) rfl rfl hl.1 rfl (lv_room (Nat.le_of_ble_eq_true rfl)) dX6_departures_162 ⟨Nat.zero_le _, Nat.zero_le _⟩) hS (fun _ _ h => h) (fun _ h => h) (fun S49 t H1 locs ht _ h hw1 _ _ hS => ?_)
                  subst ht
                  have hw : wd D y z S49 A t.heap := hw1
                  clear hw1 h1
                  refine lv_aload_n hx hb dX6_departures_165 rfl (lv_at hl 3 rfl) ?_
                  obtain ⟨hk50, h⟩ := h
                  obtain ⟨b51, hb52, h⟩ := h
                  refine r_get (ci := 7) (v := .ref b51) (C := RX6) (T := TX6) (N := 17) hx hb hts hiX6 hown hK hw (ce_8 (S := S49) hk50) rfl 10 (by decide) (hts (.fieldLink RX6 13 "TubePostModel" "tubeTable" "[I") (by decide +kernel)) (fun _ h9 => h9) (congrArg (fun q => some (va_rf q)) hb52) dX6_departures_166 ?_
                  refine lv_bipush (v := (8 : Int32)) hx hb dX6_departures_169 (by decide) ?_
                  refine lv_iload hx hb dX6_departures_171 (lv_at hl 0 rfl) ?_
                  refine lv_imul hx hb dX6_departures_173 ?_
                  refine lv_bipush (v := (6 : Int32)) hx hb dX6_departures_174 (by decide) ?_
                  refine lv_iadd hx hb dX6_departures_176 ?_
                  refine lv_dup2_11 hx hb dX6_departures_177 rfl rfl ?_
                  obtain ⟨hk53, h⟩ := h
                  obtain ⟨hin54, h⟩ := h
                  refine r_iald hx hb hK hw hk53 hin54 dX6_departures_178 ?_
                  refine lv_iconst (v := (1 : Int32)) hx hb dX6_departures_179 (by decide) ?_
                  refine lv_iadd hx hb dX6_departures_180 ?_
                  obtain ⟨hin55, h⟩ := h
                  refine r_iast hx hb hK hw hS hk53 hin55 dX6_departures_181 (fun H locs hw hS => ?_)
                  refine lv_aload_n hx hb dX6_departures_182 rfl (lv_at hl 3 rfl) ?_
                  obtain ⟨b56, hb57, h⟩ := h
                  refine r_get (ci := 7) (v := .ref b56) (C := RX6) (T := TX6) (N := 17) hx hb hts hiX6 hown hK hw (ce_8 (S := (sV S49 9 b51 (Int32.toNatClampNeg (((8 : Int32) * r21) + (6 : Int32))) ((gV S49 9 b51 (Int32.toNatClampNeg (((8 : Int32) * r21) + (6 : Int32)))) + (1 : Int32)))) hk50) rfl 10 (by decide) (hts (.fieldLink RX6 13 "TubePostModel" "tubeTable" "[I") (by decide +kernel)) (fun _ h9 => h9) (congrArg (fun q => some (va_rf q)) hb57) dX6_departures_183 ?_
                  refine lv_bipush (v := (8 : Int32)) hx hb dX6_departures_186 (by decide) ?_
                  refine lv_iload hx hb dX6_departures_188 (lv_at hl 0 rfl) ?_
                  refine lv_imul hx hb dX6_departures_190 ?_
                  refine lv_bipush (v := (7 : Int32)) hx hb dX6_departures_191 (by decide) ?_
                  refine lv_iadd hx hb dX6_departures_193 ?_
                  refine lv_aload_n hx hb dX6_departures_194 rfl (lv_at hl 3 rfl) ?_
                  refine r_get (ci := 7) (v := .int (gV (sV S49 9 b51 (Int32.toNatClampNeg (((8 : Int32) * r21) + (6 : Int32))) ((gV S49 9 b51 (Int32.toNatClampNeg (((8 : Int32) * r21) + (6 : Int32)))) + (1 : Int32))) 8 v0 1)) (C := RX6) (T := TX6) (N := 17) hx hb hts hiX6 hown hK hw (ce_8 (S := (sV S49 9 b51 (Int32.toNatClampNeg (((8 : Int32) * r21) + (6 : Int32))) ((gV S49 9 b51 (Int32.toNatClampNeg (((8 : Int32) * r21) + (6 : Int32)))) + (1 : Int32)))) hk50) rfl 1 (by decide) (hts (.fieldLink RX6 69 "TubePostModel" "tick" "I") (by decide +kernel)) (fun _ h9 => h9) rfl dX6_departures_195 ?_
                  obtain ⟨hk58, h⟩ := h
                  obtain ⟨hin59, h⟩ := h
                  refine r_iast hx hb hK hw hS hk58 hin59 dX6_departures_198 (fun H locs hw hS => ?_)
                  exact hB199 _ _ _ _ _ _ _ _ h hw hS (lv_sub hl [3, 4, 5, 6] rfl)
                · have h := h.2 hc
                  refine lv_goto (tgt := 199) hx hb dX6_departures_121 (by decide) ?_
                  exact hB199 _ _ _ _ _ _ _ _ h hw hS (lv_sub hl [3, 4, 5, 6] rfl)
          · have h := h.2 hc
            refine lv_goto (tgt := 199) hx hb dX6_departures_65 (by decide) ?_
            exact hB199 _ _ _ _ _ _ _ _ h hw hS (lv_sub hl [2, 3, 4, 5] rfl)
        · have h := h.2 hc
          refine lv_goto (tgt := 199) hx hb dX6_departures_42 (by decide) ?_
          exact hB199 _ _ _ _ _ _ _ _ h hw hS (lv_sub hl [1, 2, 3, 4] rfl)
  unfold wp_X6_departures at h
  refine lv_aload_n hx hb dX6_departures_0 rfl (lv_at hl 0 rfl) ?_
  refine lv_iload_n hx hb dX6_departures_1 rfl (lv_at hl 1 rfl) ?_
  obtain ⟨hk1, h⟩ := h
  have h1 := h
  refine va_calli (va_runV (As := [.int p1]) (rest := []) ⟨hx, hb, hml, hown, hts⟩ (m_X6_line (l := l) h1) (cwV 1 hts gX6_departures_X6_line rfl rfl rfl (by decide +kernel) ⟨Nat.le_trans (Nat.le_of_ble_eq_true rfl) hRf, Nat.le_trans (Nat.le_of_ble_eq_true rfl) hRl⟩) (r_pV hB hw hS (ce_8 (S := S) hk1) rfl) rfl rfl hl.1 rfl (lv_room (Nat.le_of_ble_eq_true rfl)) dX6_departures_2 ⟨Nat.zero_le _, Nat.zero_le _⟩) hS (fun _ _ h => h) (fun _ h => h) (fun r2 S3 t H1 locs ht _ h hw1 _ _ hS => ?_)
  subst ht
  have hw : wd D y z S3 A t.heap := hw1
  clear hw1 h1
  refine lv_istore_n hx hb dX6_departures_5 rfl hl (by decide) rfl (fun ls hl => ?_)
  have hl : lv_has ls 7 [(2, .int r2), (0, .ref this), (1, .int p1)] := hl
  refine lv_iconst (v := (0 : Int32)) hx hb dX6_departures_6 (by decide) ?_
  refine lv_istore_n hx hb dX6_departures_7 rfl hl (by decide) rfl (fun ls hl => ?_)
  have hl : lv_has ls 7 [(3, .int (0 : Int32)), (2, .int r2), (0, .ref this), (1, .int p1)] := hl
  obtain ⟨n8, h⟩ := h
  exact hB8 n8 _ _ _ _ _ _ _ _ h hw hS (lv_sub hl [2, 3, 1, 0] rfl)
def wb_X6_run_75 (post : Int32 → bS → Prop) (rec29 : Nat → Int32 → Int32 → Int32 → bS → Prop) : Nat → Nat → Int32 → Int32 → Int32 → Int32 → bS → Prop
  | 0, _, _, _, _, _, _ => False
  | n + 1, v0, v1, v2, v3, v4, S => gK S v0 = 8 ∧ (((gV S 8 v0 2) ≤ v4 → rec29 v0 v1 v2 (v3 + (1 : Int32)) S) ∧ (¬ ((gV S 8 v0 2) ≤ v4) → wp_X6_departures (fun S17 => (wb_X6_run_75 post rec29 n) v0 v1 v2 v3 (v4 + (1 : Int32)) S17) v0 v4 S))
def wb_X6_run_51 (post : Int32 → bS → Prop) (rec29 : Nat → Int32 → Int32 → Int32 → bS → Prop) : Nat → Nat → Int32 → Int32 → Int32 → Int32 → bS → Prop
  | 0, _, _, _, _, _, _ => False
  | n + 1, v0, v1, v2, v3, v4, S => gK S v0 = 8 ∧ (((gV S 8 v0 3) ≤ v4 → ∃ n75, wb_X6_run_75 post rec29 n75 v0 v1 v2 v3 (0 : Int32) S) ∧ (¬ ((gV S 8 v0 3) ≤ v4) → wp_X6_arrivals (fun S14 => (wb_X6_run_51 post rec29 n) v0 v1 v2 v3 (v4 + (1 : Int32)) S14) v0 v4 S))
def wb_X6_run_29 (post : Int32 → bS → Prop) : Nat → Nat → Int32 → Int32 → Int32 → bS → Prop
  | 0, _, _, _, _, _ => False
  | n + 1, v0, v1, v2, v3, S => (v1 ≤ v3 → gK S v0 = 8 ∧ (post ((gV S 8 v0 6) - v2) S)) ∧ (¬ (v1 ≤ v3) → gK S v0 = 8 ∧ (wp_X6_clock (fun S11 => ∃ n51, wb_X6_run_51 post (wb_X6_run_29 post n) n51 v0 v1 v2 v3 (0 : Int32) S11) v0 (sV S 8 v0 1 ((gV S 8 v0 1) + (1 : Int32)))))
def wp_X6_run (post : Int32 → bS → Prop) (this : Nat) (p1 : Int32) (S : bS) : Prop := gK S this = 8 ∧ (wp_X6_isIn (fun r2 S3 => (r2 ≠ (0 : Int32) → gK S3 this = 8 ∧ (∃ n29, wb_X6_run_29 post n29 this p1 (gV S3 8 this 6) (0 : Int32) S3)) ∧ (r2 = (0 : Int32) → gK S3 this = 8 ∧ (wp_X6_fail (fun r6 S7 => post r6 S7) this (1 : Int32) S3))) p1 (1 : Int32) (500 : Int32) (sV S 8 this 0 (0 : Int32)))
set_option maxHeartbeats 4000000 in
set_option maxRecDepth 100000 in
theorem m_X6_run {l : Launch} {D : va_G} {y : Nat → ClassId} {z : Nat} {A : Nat → Prop} {S : bS} {post : Int32 → bS → Prop} {this : Nat} {p1 : Int32} (h : wp_X6_run post this p1 S) : Met l yX6_run wsX6_run ({ frames := 6, cells := 0, slots := 0, locals := 143 } : Room) (va_Pc ([Value.ref this, Value.int p1] : List Value) (bP D y z S A)) (va_Qi post (fun S' t => wd D y z S' A t.heap) A) 0 0 A := by
  refine Met.ofW (cc := cX6_run) (maxL := 5) (ret := (some .int)) (by decide) rfl ?_
  intro p e s m args below meth c s₁ B hml hv
  obtain ⟨rfl, hB⟩ := hv
  have hx := B.exec
  have hb := B.bytes
  have hr := B.returns
  have hts := atoms_spec (ws := wsX6_run) B.pre
  have hown : s.vm.findClass RX6 = some m.cls := findClass_of_methodNamed B.named
  have hlocks := B.notSynchronized
  have hw : wd D y z S A s.heap := hB.1
  have hK : va_K D bCl (bT y) s := hB.2.1
  have hNw := hB.2.2.1
  have hAn : ∀ q : Nat, s.heap.size ≤ q → A q := hB.2.2.2.1
  have hAz : ¬ A z := hB.2.2.2.2.1
  have hO := hB.2.2.2.2.2.1
  have hS : va_S A s.heap s.heap [] := va_S.rf
  have hiX6 : ∀ w ∈ u_ws RX6 TX6 17, w ∈ wsX6_run := by decide +kernel
  have hl := lv_entry ([Value.ref this, Value.int p1] : List Value) (n := 5) (Nat.le_of_ble_eq_true rfl)
  rw [lg_entry_eq]
  generalize (lg_sl ([Value.ref this, Value.int p1] : List Value) ++ List.replicate (5 - (lg_sl ([Value.ref this, Value.int p1] : List Value)).length) Slot.unset).toArray = ls at hl ⊢
  have hl : lv_has ls 5 [(0, .ref this), (1, .int p1)] := hl
  obtain ⟨Q, hQ⟩ : ∃ Q, Q = MQ below (va_Qi post (fun S' t => wd D y z S' A t.heap) A) (([Value.ref this, Value.int p1] : List Value).toArray) s 0 0 A := ⟨_, rfl⟩
  rw [← hQ]
  generalize hR : (headSpec wsX6_run ({ frames := 6, cells := 0, slots := 0, locals := 143 } : Room)).room = R
  have hRf : 6 ≤ R.frames := by rw [← hR]; exact Nat.le_refl _
  have hRl : 143 ≤ R.locals := by rw [← hR]; exact Nat.le_refl _
  have hret : ∀ (v : Int32) (S : bS) (H : Heap) (locs : List Loc) (pc : Nat) (ls : Array Slot) , post v S → wd D y z S A H → va_S A s.heap H locs → decode cX6_run pc = .ok (.ireturn, 1) → W p l e R s m (([Value.ref this, Value.int p1] : List Value).toArray) below meth c H locs 0 0 Q (F0 m pc ls [.int v]) := by
    intro v S H locs pc ls h hw hS d0
    rw [hQ]; exact W.iret hx hb hr (fun t ht hW => ⟨⟨v, S, rfl, h, by show wd D y z S A t.heap; rw [ht]; exact hw⟩, hS.F ht⟩) hS.2.2 d0 hlocks
  have hB29 : ∀ (n29 : Nat) (S : bS) (H : Heap) (locs : List Loc) (ls : Array Slot) (v0 : Nat) (v1 : Int32) (v2 : Int32) (v3 : Int32), wb_X6_run_29 post n29 v0 v1 v2 v3 S → wd D y z S A H → va_S A s.heap H locs → lv_has ls 5 [(0, .ref v0), (1, .int v1), (2, .int v2), (3, .int v3)] → W p l e R s m (([Value.ref this, Value.int p1] : List Value).toArray) below meth c H locs 0 0 Q (F0 m 29 ls []) := by
    intro n29
    induction n29 with
    | zero =>
      intro S H locs ls v0 v1 v2 v3 h hw hS hl
      exact absurd h (by unfold wb_X6_run_29; exact id)
    | succ n29 ih29 =>
      have hB75 : ∀ (n75 : Nat) (S : bS) (H : Heap) (locs : List Loc) (ls : Array Slot) (v0 : Nat) (v1 : Int32) (v2 : Int32) (v3 : Int32) (v4 : Int32), wb_X6_run_75 post (wb_X6_run_29 post n29) n75 v0 v1 v2 v3 v4 S → wd D y z S A H → va_S A s.heap H locs → lv_has ls 5 [(0, .ref v0), (1, .int v1), (2, .int v2), (3, .int v3), (4, .int v4)] → W p l e R s m (([Value.ref this, Value.int p1] : List Value).toArray) below meth c H locs 0 0 Q (F0 m 75 ls []) := by
        intro n75
        induction n75 with
        | zero =>
          intro S H locs ls v0 v1 v2 v3 v4 h hw hS hl
          exact absurd h (by unfold wb_X6_run_75; exact id)
        | succ n75 ih75 =>
          intro S H locs ls v0 v1 v2 v3 v4 h hw hS hl
          unfold wb_X6_run_75 at h
          refine lv_iload hx hb dX6_run_75 (lv_at hl 4 rfl) ?_
          refine lv_aload_n hx hb dX6_run_77 rfl (lv_at hl 0 rfl) ?_
          obtain ⟨hk15, h⟩ := h
          refine r_get (ci := 7) (v := .int (gV S 8 v0 2)) (C := RX6) (T := TX6) (N := 17) hx hb hts hiX6 hown hK hw (ce_8 (S := S) hk15) rfl 2 (by decide) (hts (.fieldLink RX6 35 "TubePostModel" "stations" "I") (by decide +kernel)) (fun _ h9 => h9) rfl dX6_run_78 ?_
          refine lv_icmp_ge (tgt := 96) hx hb dX6_run_81 (by decide) (fun hc => ?_) (fun hc => ?_)
          · have h := h.1 hc
            refine lv_iinc (v := (v3 + (1 : Int32))) hx hb dX6_run_96 hl (k := 3) rfl rfl (by decide) rfl (fun ls hl => ?_)
            have hl : lv_has ls 5 [(3, .int (v3 + (1 : Int32))), (0, .ref v0), (1, .int v1), (2, .int v2), (4, .int v4)] := hl
            refine lv_goto (tgt := 29) hx hb dX6_run_99 (by decide) ?_
            exact ih29 _ _ _ _ _ _ _ _ h hw hS (lv_sub hl [1, 2, 3, 0] rfl)
          · have h := h.2 hc
            refine lv_aload_n hx hb dX6_run_84 rfl (lv_at hl 0 rfl) ?_
            refine lv_iload hx hb dX6_run_85 (lv_at hl 4 rfl) ?_
            have h1 := h
            refine va_callv (va_runV (As := [.int v4]) (rest := []) ⟨hx, hb, hml, hown, hts⟩ (m_X6_departures (l := l) h1) (cwV 1 hts gX6_run_X6_departures rfl rfl rfl (by decide +kernel) ⟨Nat.le_trans (Nat.le_of_ble_eq_true rfl) hRf, Nat.le_trans (Nat.le_of_ble_eq_true rfl) hRl⟩) (r_pV hB hw hS (ce_8 (S := S) hk15) rfl) rfl rfl hl.1 rfl (lv_room (Nat.le_of_ble_eq_true rfl)) dX6_run_87 ⟨Nat.zero_le _, Nat.zero_le _⟩) hS (fun _ _ h => h) (fun _ h => h) (fun S17 t H1 locs ht _ h hw1 _ _ hS => ?_)
            subst ht
            have hw : wd D y z S17 A t.heap := hw1
            clear hw1 h1
            refine lv_iinc (v := (v4 + (1 : Int32))) hx hb dX6_run_90 hl (k := 4) rfl rfl (by decide) rfl (fun ls hl => ?_)
            have hl : lv_has ls 5 [(4, .int (v4 + (1 : Int32))), (0, .ref v0), (1, .int v1), (2, .int v2), (3, .int v3)] := hl
            refine lv_goto (tgt := 75) hx hb dX6_run_93 (by decide) ?_
            exact ih75 _ _ _ _ _ _ _ _ _ h hw hS (lv_sub hl [1, 2, 3, 4, 0] rfl)
      have hB51 : ∀ (n51 : Nat) (S : bS) (H : Heap) (locs : List Loc) (ls : Array Slot) (v0 : Nat) (v1 : Int32) (v2 : Int32) (v3 : Int32) (v4 : Int32), wb_X6_run_51 post (wb_X6_run_29 post n29) n51 v0 v1 v2 v3 v4 S → wd D y z S A H → va_S A s.heap H locs → lv_has ls 5 [(0, .ref v0), (1, .int v1), (2, .int v2), (3, .int v3), (4, .int v4)] → W p l e R s m (([Value.ref this, Value.int p1] : List Value).toArray) below meth c H locs 0 0 Q (F0 m 51 ls []) := by
        intro n51
        induction n51 with
        | zero =>
          intro S H locs ls v0 v1 v2 v3 v4 h hw hS hl
          exact absurd h (by unfold wb_X6_run_51; exact id)
        | succ n51 ih51 =>
          intro S H locs ls v0 v1 v2 v3 v4 h hw hS hl
          unfold wb_X6_run_51 at h
          refine lv_iload hx hb dX6_run_51 (lv_at hl 4 rfl) ?_
          refine lv_aload_n hx hb dX6_run_53 rfl (lv_at hl 0 rfl) ?_
          obtain ⟨hk12, h⟩ := h
          refine r_get (ci := 7) (v := .int (gV S 8 v0 3)) (C := RX6) (T := TX6) (N := 17) hx hb hts hiX6 hown hK hw (ce_8 (S := S) hk12) rfl 3 (by decide) (hts (.fieldLink RX6 42 "TubePostModel" "tubes" "I") (by decide +kernel)) (fun _ h9 => h9) rfl dX6_run_54 ?_
          refine lv_icmp_ge (tgt := 72) hx hb dX6_run_57 (by decide) (fun hc => ?_) (fun hc => ?_)
          · have h := h.1 hc
            refine lv_iconst (v := (0 : Int32)) hx hb dX6_run_72 (by decide) ?_
            refine lv_istore hx hb dX6_run_73 hl (by decide) rfl (fun ls hl => ?_)
            have hl : lv_has ls 5 [(4, .int (0 : Int32)), (0, .ref v0), (1, .int v1), (2, .int v2), (3, .int v3)] := hl
            obtain ⟨n75, h⟩ := h
            exact hB75 n75 _ _ _ _ _ _ _ _ _ h hw hS (lv_sub hl [1, 2, 3, 4, 0] rfl)
          · have h := h.2 hc
            refine lv_aload_n hx hb dX6_run_60 rfl (lv_at hl 0 rfl) ?_
            refine lv_iload hx hb dX6_run_61 (lv_at hl 4 rfl) ?_
            have h1 := h
            refine va_callv (va_runV (As := [.int v4]) (rest := []) ⟨hx, hb, hml, hown, hts⟩ (m_X6_arrivals (l := l) h1) (cwV 1 hts gX6_run_X6_arrivals rfl rfl rfl (by decide +kernel) ⟨Nat.le_trans (Nat.le_of_ble_eq_true rfl) hRf, Nat.le_trans (Nat.le_of_ble_eq_true rfl) hRl⟩) (r_pV hB hw hS (ce_8 (S := S) hk12) rfl) rfl rfl hl.1 rfl (lv_room (Nat.le_of_ble_eq_true rfl)) dX6_run_63 ⟨Nat.zero_le _, Nat.zero_le _⟩) hS (fun _ _ h => h) (fun _ h => h) (fun S14 t H1 locs ht _ h hw1 _ _ hS => ?_)
            subst ht
            have hw : wd D y z S14 A t.heap := hw1
            clear hw1 h1
            refine lv_iinc (v := (v4 + (1 : Int32))) hx hb dX6_run_66 hl (k := 4) rfl rfl (by decide) rfl (fun ls hl => ?_)
            have hl : lv_has ls 5 [(4, .int (v4 + (1 : Int32))), (0, .ref v0), (1, .int v1), (2, .int v2), (3, .int v3)] := hl
            refine lv_goto (tgt := 51) hx hb dX6_run_69 (by decide) ?_
            exact ih51 _ _ _ _ _ _ _ _ _ h hw hS (lv_sub hl [1, 2, 3, 4, 0] rfl)
      intro S H locs ls v0 v1 v2 v3 h hw hS hl
      unfold wb_X6_run_29 at h
      refine lv_iload_n hx hb dX6_run_29 rfl (lv_at hl 3 rfl) ?_
      refine lv_iload_n hx hb dX6_run_30 rfl (lv_at hl 1 rfl) ?_
      refine lv_icmp_ge (tgt := 102) hx hb dX6_run_31 (by decide) (fun hc => ?_) (fun hc => ?_)
      · have h := h.1 hc
        refine lv_aload_n hx hb dX6_run_102 rfl (lv_at hl 0 rfl) ?_
        obtain ⟨hk8, h⟩ := h
        refine r_get (ci := 7) (v := .int (gV S 8 v0 6)) (C := RX6) (T := TX6) (N := 17) hx hb hts hiX6 hown hK hw (ce_8 (S := S) hk8) rfl 6 (by decide) (hts (.fieldLink RX6 114 "TubePostModel" "delivered" "I") (by decide +kernel)) (fun _ h9 => h9) rfl dX6_run_103 ?_
        refine lv_iload_n hx hb dX6_run_106 rfl (lv_at hl 2 rfl) ?_
        refine lv_isub hx hb dX6_run_107 ?_
        exact hret ((gV S 8 v0 6) - v2) _ _ _ _ _ h hw hS dX6_run_108
      · have h := h.2 hc
        refine lv_aload_n hx hb dX6_run_34 rfl (lv_at hl 0 rfl) ?_
        refine lv_dup hx hb dX6_run_35 rfl ?_
        obtain ⟨hk9, h⟩ := h
        refine r_get (ci := 7) (v := .int (gV S 8 v0 1)) (C := RX6) (T := TX6) (N := 17) hx hb hts hiX6 hown hK hw (ce_8 (S := S) hk9) rfl 1 (by decide) (hts (.fieldLink RX6 69 "TubePostModel" "tick" "I") (by decide +kernel)) (fun _ h9 => h9) rfl dX6_run_36 ?_
        refine lv_iconst (v := (1 : Int32)) hx hb dX6_run_39 (by decide) ?_
        refine lv_iadd hx hb dX6_run_40 ?_
        refine r_putI (κ := 8) (ci := 7) (C := RX6) (T := TX6) (N := 17) (ty := .int) (x := ((gV S 8 v0 1) + (1 : Int32))) hx hb hts hiX6 tyX6 tyX6_ok nmX6 hown hK hw hS (ce_8 (S := S) hk9) rfl 1 (by decide) (hts (.fieldLink RX6 69 "TubePostModel" "tick" "I") (by decide +kernel)) (fun _ h9 => h9) rfl (by decide +kernel) rfl rfl (Nat.le_of_ble_eq_true rfl) (pu_8_1 (S := S) hk9) dX6_run_41 (fun H locs hw hS => ?_)
        refine lv_aload_n hx hb dX6_run_44 rfl (lv_at hl 0 rfl) ?_
        have h1 := h
        refine va_callv (va_runV (As := []) (rest := []) ⟨hx, hb, hml, hown, hts⟩ (m_X6_clock (l := l) h1) (cwV 0 hts gX6_run_X6_clock rfl rfl rfl (by decide +kernel) ⟨Nat.le_trans (Nat.le_of_ble_eq_true rfl) hRf, Nat.le_trans (Nat.le_of_ble_eq_true rfl) hRl⟩) (r_pV hB hw hS (ce_8 (S := (sV S 8 v0 1 ((gV S 8 v0 1) + (1 : Int32)))) hk9) rfl) rfl rfl hl.1 rfl (lv_room (Nat.le_of_ble_eq_true rfl)) dX6_run_45 ⟨Nat.zero_le _, Nat.zero_le _⟩) hS (fun _ _ h => h) (fun _ h => h) (fun S11 t H1 locs ht _ h hw1 _ _ hS => ?_)
        subst ht
        have hw : wd D y z S11 A t.heap := hw1
        clear hw1 h1
        refine lv_iconst (v := (0 : Int32)) hx hb dX6_run_48 (by decide) ?_
        refine lv_istore hx hb dX6_run_49 hl (by decide) rfl (fun ls hl => ?_)
        have hl : lv_has ls 5 [(4, .int (0 : Int32)), (0, .ref v0), (1, .int v1), (2, .int v2), (3, .int v3)] := hl
        obtain ⟨n51, h⟩ := h
        exact hB51 n51 _ _ _ _ _ _ _ _ _ h hw hS (lv_sub hl [1, 2, 3, 4, 0] rfl)
  unfold wp_X6_run at h
  refine lv_aload_n hx hb dX6_run_0 rfl (lv_at hl 0 rfl) ?_
  refine lv_iconst (v := (0 : Int32)) hx hb dX6_run_1 (by decide) ?_
  obtain ⟨hk1, h⟩ := h
  refine r_putI (κ := 8) (ci := 7) (C := RX6) (T := TX6) (N := 17) (ty := .int) (x := (0 : Int32)) hx hb hts hiX6 tyX6 tyX6_ok nmX6 hown hK hw hS (ce_8 (S := S) hk1) rfl 0 (by decide) (hts (.fieldLink RX6 31 "TubePostModel" "thrown" "I") (by decide +kernel)) (fun _ h9 => h9) rfl (by decide +kernel) rfl rfl (Nat.le_of_ble_eq_true rfl) (pu_8_0 (S := S) hk1) dX6_run_2 (fun H locs hw hS => ?_)
  refine lv_iload_n hx hb dX6_run_5 rfl (lv_at hl 1 rfl) ?_
  refine lv_iconst (v := (1 : Int32)) hx hb dX6_run_6 (by decide) ?_
  refine lv_sipush (v := (500 : Int32)) hx hb dX6_run_7 (by decide) ?_
  have h1 := h
  refine va_calli (va_runS (As := [.int p1, .int (1 : Int32), .int (500 : Int32)]) (rest := []) ⟨hx, hb, hml, hown, hts⟩ (m_X6_isIn (l := l) h1) (cwS 3 hts gX6_run_X6_isIn rfl rfl rfl (by decide +kernel) ⟨Nat.le_trans (Nat.le_of_ble_eq_true rfl) hRf, Nat.le_trans (Nat.le_of_ble_eq_true rfl) hRl⟩) (r_pS hB hw hS) rfl rfl hl.1 rfl (lv_room (Nat.le_of_ble_eq_true rfl)) dX6_run_10 ⟨Nat.zero_le _, Nat.zero_le _⟩) hS (fun _ _ h => h) (fun _ h => h) (fun r2 S3 t H1 locs ht _ h hw1 _ _ hS => ?_)
  subst ht
  have hw : wd D y z S3 A t.heap := hw1
  clear hw1 h1
  refine lv_if_ne (tgt := 22) hx hb dX6_run_13 (by decide) (fun hc => ?_) (fun hc => ?_)
  · have h := h.1 hc
    refine lv_aload_n hx hb dX6_run_22 rfl (lv_at hl 0 rfl) ?_
    obtain ⟨hk4, h⟩ := h
    refine r_get (ci := 7) (v := .int (gV S3 8 this 6)) (C := RX6) (T := TX6) (N := 17) hx hb hts hiX6 hown hK hw (ce_8 (S := S3) hk4) rfl 6 (by decide) (hts (.fieldLink RX6 114 "TubePostModel" "delivered" "I") (by decide +kernel)) (fun _ h9 => h9) rfl dX6_run_23 ?_
    refine lv_istore_n hx hb dX6_run_26 rfl hl (by decide) rfl (fun ls hl => ?_)
    have hl : lv_has ls 5 [(2, .int (gV S3 8 this 6)), (0, .ref this), (1, .int p1)] := hl
    refine lv_iconst (v := (0 : Int32)) hx hb dX6_run_27 (by decide) ?_
    refine lv_istore_n hx hb dX6_run_28 rfl hl (by decide) rfl (fun ls hl => ?_)
    have hl : lv_has ls 5 [(3, .int (0 : Int32)), (2, .int (gV S3 8 this 6)), (0, .ref this), (1, .int p1)] := hl
    obtain ⟨n29, h⟩ := h
    exact hB29 n29 _ _ _ _ _ _ _ _ h hw hS (lv_sub hl [2, 3, 1, 0] rfl)
  · have h := h.2 hc
    refine lv_aload_n hx hb dX6_run_16 rfl (lv_at hl 0 rfl) ?_
    refine lv_iconst (v := (1 : Int32)) hx hb dX6_run_17 (by decide) ?_
    obtain ⟨hk5, h⟩ := h
    have h1 := h
    refine va_calli (va_runV (As := [.int (1 : Int32)]) (rest := []) ⟨hx, hb, hml, hown, hts⟩ (m_X6_fail (l := l) h1) (cwV 1 hts gX6_run_X6_fail rfl rfl rfl (by decide +kernel) ⟨Nat.le_trans (Nat.le_of_ble_eq_true rfl) hRf, Nat.le_trans (Nat.le_of_ble_eq_true rfl) hRl⟩) (r_pV hB hw hS (ce_8 (S := S3) hk5) rfl) rfl rfl hl.1 rfl (lv_room (Nat.le_of_ble_eq_true rfl)) dX6_run_18 ⟨Nat.zero_le _, Nat.zero_le _⟩) hS (fun _ _ h => h) (fun _ h => h) (fun r6 S7 t H1 locs ht _ h hw1 _ _ hS => ?_)
    subst ht
    have hw : wd D y z S7 A t.heap := hw1
    clear hw1 h1
    exact hret r6 _ _ _ _ _ h hw hS dX6_run_21
def wb_X6_carrier_43 (post : Int32 → bS → Prop) (s0 : Int32) (S : bS) : Prop := post s0 S
def wb_X6_carrier_38 (post : Int32 → bS → Prop) (v0 : Nat) (S : bS) : Prop := gK S v0 = 8 ∧ (wp_X6_fail (fun r10 S11 => wb_X6_carrier_43 post r10 S11) v0 (1 : Int32) S)
def wp_X6_carrier (post : Int32 → bS → Prop) (this : Nat) (p1 : Int32) (p2 : Int32) (S : bS) : Prop := gK S this = 8 ∧ (wp_X6_isIn (fun r2 S3 => (r2 = (0 : Int32) → wb_X6_carrier_38 post this S3) ∧ (¬ (r2 = (0 : Int32)) → wp_X6_isIn (fun r4 S5 => (r4 = (0 : Int32) → wb_X6_carrier_38 post this S5) ∧ (¬ (r4 = (0 : Int32)) → gK S5 this = 8 ∧ (wp_X6_get (fun r7 S8 => wb_X6_carrier_43 post r7 S8) this p1 p2 S5))) p2 (0 : Int32) (6 : Int32) S3)) p1 (0 : Int32) ((gV (sV S 8 this 0 (0 : Int32)) 8 this 5) - (1 : Int32)) (sV S 8 this 0 (0 : Int32)))
set_option maxHeartbeats 4000000 in
set_option maxRecDepth 100000 in
theorem m_X6_carrier {l : Launch} {D : va_G} {y : Nat → ClassId} {z : Nat} {A : Nat → Prop} {S : bS} {post : Int32 → bS → Prop} {this : Nat} {p1 : Int32} {p2 : Int32} (h : wp_X6_carrier post this p1 p2 S) : Met l yX6_carrier wsX6_carrier ({ frames := 1, cells := 0, slots := 0, locals := 22 } : Room) (va_Pc ([Value.ref this, Value.int p1, Value.int p2] : List Value) (bP D y z S A)) (va_Qi post (fun S' t => wd D y z S' A t.heap) A) 0 0 A := by
  refine Met.ofW (cc := cX6_carrier) (maxL := 3) (ret := (some .int)) (by decide) rfl ?_
  intro p e s m args below meth c s₁ B hml hv
  obtain ⟨rfl, hB⟩ := hv
  have hx := B.exec
  have hb := B.bytes
  have hr := B.returns
  have hts := atoms_spec (ws := wsX6_carrier) B.pre
  have hown : s.vm.findClass RX6 = some m.cls := findClass_of_methodNamed B.named
  have hlocks := B.notSynchronized
  have hw : wd D y z S A s.heap := hB.1
  have hK : va_K D bCl (bT y) s := hB.2.1
  have hNw := hB.2.2.1
  have hAn : ∀ q : Nat, s.heap.size ≤ q → A q := hB.2.2.2.1
  have hAz : ¬ A z := hB.2.2.2.2.1
  have hO := hB.2.2.2.2.2.1
  have hS : va_S A s.heap s.heap [] := va_S.rf
  have hiX6 : ∀ w ∈ u_ws RX6 TX6 17, w ∈ wsX6_carrier := by decide +kernel
  have hl := lv_entry ([Value.ref this, Value.int p1, Value.int p2] : List Value) (n := 3) (Nat.le_of_ble_eq_true rfl)
  rw [lg_entry_eq]
  generalize (lg_sl ([Value.ref this, Value.int p1, Value.int p2] : List Value) ++ List.replicate (3 - (lg_sl ([Value.ref this, Value.int p1, Value.int p2] : List Value)).length) Slot.unset).toArray = ls at hl ⊢
  have hl : lv_has ls 3 [(0, .ref this), (1, .int p1), (2, .int p2)] := hl
  obtain ⟨Q, hQ⟩ : ∃ Q, Q = MQ below (va_Qi post (fun S' t => wd D y z S' A t.heap) A) (([Value.ref this, Value.int p1, Value.int p2] : List Value).toArray) s 0 0 A := ⟨_, rfl⟩
  rw [← hQ]
  generalize hR : (headSpec wsX6_carrier ({ frames := 1, cells := 0, slots := 0, locals := 22 } : Room)).room = R
  have hRf : 1 ≤ R.frames := by rw [← hR]; exact Nat.le_refl _
  have hRl : 22 ≤ R.locals := by rw [← hR]; exact Nat.le_refl _
  have hret : ∀ (v : Int32) (S : bS) (H : Heap) (locs : List Loc) (pc : Nat) (ls : Array Slot) , post v S → wd D y z S A H → va_S A s.heap H locs → decode cX6_carrier pc = .ok (.ireturn, 1) → W p l e R s m (([Value.ref this, Value.int p1, Value.int p2] : List Value).toArray) below meth c H locs 0 0 Q (F0 m pc ls [.int v]) := by
    intro v S H locs pc ls h hw hS d0
    rw [hQ]; exact W.iret hx hb hr (fun t ht hW => ⟨⟨v, S, rfl, h, by show wd D y z S A t.heap; rw [ht]; exact hw⟩, hS.F ht⟩) hS.2.2 d0 hlocks
  have hB43 : ∀ (S : bS) (H : Heap) (locs : List Loc) (ls : Array Slot) (s0 : Int32), wb_X6_carrier_43 post s0 S → wd D y z S A H → va_S A s.heap H locs → lv_has ls 3 [] → W p l e R s m (([Value.ref this, Value.int p1, Value.int p2] : List Value).toArray) below meth c H locs 0 0 Q (F0 m 43 ls [.int s0]) := by
    intro S H locs ls s0 h hw hS hl
    unfold wb_X6_carrier_43 at h
    exact hret s0 _ _ _ _ _ h hw hS dX6_carrier_43
  have hB38 : ∀ (S : bS) (H : Heap) (locs : List Loc) (ls : Array Slot) (v0 : Nat), wb_X6_carrier_38 post v0 S → wd D y z S A H → va_S A s.heap H locs → lv_has ls 3 [(0, .ref v0)] → W p l e R s m (([Value.ref this, Value.int p1, Value.int p2] : List Value).toArray) below meth c H locs 0 0 Q (F0 m 38 ls []) := by
    intro S H locs ls v0 h hw hS hl
    unfold wb_X6_carrier_38 at h
    refine lv_aload_n hx hb dX6_carrier_38 rfl (lv_at hl 0 rfl) ?_
    refine lv_iconst (v := (1 : Int32)) hx hb dX6_carrier_39 (by decide) ?_
    obtain ⟨hk9, h⟩ := h
    have h1 := h
    refine va_calli (va_runV (As := [.int (1 : Int32)]) (rest := []) ⟨hx, hb, hml, hown, hts⟩ (m_X6_fail (l := l) h1) (cwV 1 hts gX6_carrier_X6_fail rfl rfl rfl (by decide +kernel) ⟨Nat.le_trans (Nat.le_of_ble_eq_true rfl) hRf, Nat.le_trans (Nat.le_of_ble_eq_true rfl) hRl⟩) (r_pV hB hw hS (ce_8 (S := S) hk9) rfl) rfl rfl hl.1 rfl (lv_room (Nat.le_of_ble_eq_true rfl)) dX6_carrier_40 ⟨Nat.zero_le _, Nat.zero_le _⟩) hS (fun _ _ h => h) (fun _ h => h) (fun r10 S11 t H1 locs ht _ h hw1 _ _ hS => ?_)
    subst ht
    have hw : wd D y z S11 A t.heap := hw1
    clear hw1 h1
    exact hB43 _ _ _ _ _ h hw hS (lv_sub hl [] rfl)
  unfold wp_X6_carrier at h
  refine lv_aload_n hx hb dX6_carrier_0 rfl (lv_at hl 0 rfl) ?_
  refine lv_iconst (v := (0 : Int32)) hx hb dX6_carrier_1 (by decide) ?_
  obtain ⟨hk1, h⟩ := h
  refine r_putI (κ := 8) (ci := 7) (C := RX6) (T := TX6) (N := 17) (ty := .int) (x := (0 : Int32)) hx hb hts hiX6 tyX6 tyX6_ok nmX6 hown hK hw hS (ce_8 (S := S) hk1) rfl 0 (by decide) (hts (.fieldLink RX6 31 "TubePostModel" "thrown" "I") (by decide +kernel)) (fun _ h9 => h9) rfl (by decide +kernel) rfl rfl (Nat.le_of_ble_eq_true rfl) (pu_8_0 (S := S) hk1) dX6_carrier_2 (fun H locs hw hS => ?_)
  refine lv_iload_n hx hb dX6_carrier_5 rfl (lv_at hl 1 rfl) ?_
  refine lv_iconst (v := (0 : Int32)) hx hb dX6_carrier_6 (by decide) ?_
  refine lv_aload_n hx hb dX6_carrier_7 rfl (lv_at hl 0 rfl) ?_
  refine r_get (ci := 7) (v := .int (gV (sV S 8 this 0 (0 : Int32)) 8 this 5)) (C := RX6) (T := TX6) (N := 17) hx hb hts hiX6 hown hK hw (ce_8 (S := (sV S 8 this 0 (0 : Int32))) hk1) rfl 5 (by decide) (hts (.fieldLink RX6 92 "TubePostModel" "sent" "I") (by decide +kernel)) (fun _ h9 => h9) rfl dX6_carrier_8 ?_
  refine lv_iconst (v := (1 : Int32)) hx hb dX6_carrier_11 (by decide) ?_
  refine lv_isub hx hb dX6_carrier_12 ?_
  have h1 := h
  refine va_calli (va_runS (As := [.int p1, .int (0 : Int32), .int ((gV (sV S 8 this 0 (0 : Int32)) 8 this 5) - (1 : Int32))]) (rest := []) ⟨hx, hb, hml, hown, hts⟩ (m_X6_isIn (l := l) h1) (cwS 3 hts gX6_carrier_X6_isIn rfl rfl rfl (by decide +kernel) ⟨Nat.le_trans (Nat.le_of_ble_eq_true rfl) hRf, Nat.le_trans (Nat.le_of_ble_eq_true rfl) hRl⟩) (r_pS hB hw hS) rfl rfl hl.1 rfl (lv_room (Nat.le_of_ble_eq_true rfl)) dX6_carrier_13 ⟨Nat.zero_le _, Nat.zero_le _⟩) hS (fun _ _ h => h) (fun _ h => h) (fun r2 S3 t H1 locs ht _ h hw1 _ _ hS => ?_)
  subst ht
  have hw : wd D y z S3 A t.heap := hw1
  clear hw1 h1
  refine lv_if_eq (tgt := 38) hx hb dX6_carrier_16 (by decide) (fun hc => ?_) (fun hc => ?_)
  · have h := h.1 hc
    exact hB38 _ _ _ _ _ h hw hS (lv_sub hl [0] rfl)
  · have h := h.2 hc
    refine lv_iload_n hx hb dX6_carrier_19 rfl (lv_at hl 2 rfl) ?_
    refine lv_iconst (v := (0 : Int32)) hx hb dX6_carrier_20 (by decide) ?_
    refine lv_bipush (v := (6 : Int32)) hx hb dX6_carrier_21 (by decide) ?_
    have h1 := h
    refine va_calli (va_runS (As := [.int p2, .int (0 : Int32), .int (6 : Int32)]) (rest := []) ⟨hx, hb, hml, hown, hts⟩ (m_X6_isIn (l := l) h1) (cwS 3 hts gX6_carrier_X6_isIn rfl rfl rfl (by decide +kernel) ⟨Nat.le_trans (Nat.le_of_ble_eq_true rfl) hRf, Nat.le_trans (Nat.le_of_ble_eq_true rfl) hRl⟩) (r_pS hB hw hS) rfl rfl hl.1 rfl (lv_room (Nat.le_of_ble_eq_true rfl)) dX6_carrier_23 ⟨Nat.zero_le _, Nat.zero_le _⟩) hS (fun _ _ h => h) (fun _ h => h) (fun r4 S5 t H1 locs ht _ h hw1 _ _ hS => ?_)
    subst ht
    have hw : wd D y z S5 A t.heap := hw1
    clear hw1 h1
    refine lv_if_eq (tgt := 38) hx hb dX6_carrier_26 (by decide) (fun hc => ?_) (fun hc => ?_)
    · have h := h.1 hc
      exact hB38 _ _ _ _ _ h hw hS (lv_sub hl [0] rfl)
    · have h := h.2 hc
      refine lv_aload_n hx hb dX6_carrier_29 rfl (lv_at hl 0 rfl) ?_
      refine lv_iload_n hx hb dX6_carrier_30 rfl (lv_at hl 1 rfl) ?_
      refine lv_iload_n hx hb dX6_carrier_31 rfl (lv_at hl 2 rfl) ?_
      obtain ⟨hk6, h⟩ := h
      have h1 := h
      refine va_calli (va_runV (As := [.int p1, .int p2]) (rest := []) ⟨hx, hb, hml, hown, hts⟩ (m_X6_get (l := l) h1) (cwV 2 hts gX6_carrier_X6_get rfl rfl rfl (by decide +kernel) ⟨Nat.le_trans (Nat.le_of_ble_eq_true rfl) hRf, Nat.le_trans (Nat.le_of_ble_eq_true rfl) hRl⟩) (r_pV hB hw hS (ce_8 (S := S5) hk6) rfl) rfl rfl hl.1 rfl (lv_room (Nat.le_of_ble_eq_true rfl)) dX6_carrier_32 ⟨Nat.zero_le _, Nat.zero_le _⟩) hS (fun _ _ h => h) (fun _ h => h) (fun r7 S8 t H1 locs ht _ h hw1 _ _ hS => ?_)
      subst ht
      have hw : wd D y z S8 A t.heap := hw1
      clear hw1 h1
      refine lv_goto (tgt := 43) hx hb dX6_carrier_35 (by decide) ?_
      exact hB43 _ _ _ _ _ h hw hS (lv_sub hl [] rfl)
