def wb_X5_canTakeLetterAt_34 (post : Int32 → bS → Prop) (s0 : Int32) (S : bS) : Prop := (s0 = 0 ∨ s0 = 1) ∧ post s0 S
def wb_X5_canTakeLetterAt_33 (post : Int32 → bS → Prop) (S : bS) : Prop := wb_X5_canTakeLetterAt_34 post (0 : Int32) S
def wp_X5_canTakeLetterAt (post : Int32 → bS → Prop) (this : Nat) (p1 : Nat) (S : bS) : Prop := gK S p1 = 5 ∧ (wp_X3_hasRoom (fun r2 S3 => (r2 = (0 : Int32) → wb_X5_canTakeLetterAt_33 post S3) ∧ (¬ (r2 = (0 : Int32)) → gK S3 this = 7 ∧ (wp_X5_underWay (fun r5 S6 => ((40 : Int32) ≤ r5 → wb_X5_canTakeLetterAt_33 post S6) ∧ (¬ ((40 : Int32) ≤ r5) → gK S6 this = 7 ∧ (∃ b8, gQ S6 7 this 2 = some b8 ∧ (gK S6 b8 = 1 ∧ (wp_Jx4a65c_size_8abf5 (fun r11 S12 => ((500 : Int32) ≤ r11 → wb_X5_canTakeLetterAt_33 post S12) ∧ (¬ ((500 : Int32) ≤ r11) → wb_X5_canTakeLetterAt_34 post (1 : Int32) S12)) b8 S6))))) this S3))) p1 S)
set_option maxHeartbeats 4000000 in
set_option maxRecDepth 100000 in
theorem m_X5_canTakeLetterAt {l : Launch} {D : va_G} {y : Nat → ClassId} {z : Nat} {A : Nat → Prop} {S : bS} {post : Int32 → bS → Prop} {this : Nat} {p1 : Nat} (h : wp_X5_canTakeLetterAt post this p1 S) : Met l yX5_canTakeLetterAt wsX5_canTakeLetterAt ({ frames := 2, cells := 0, slots := 0, locals := 40 } : Room) (va_Pc ([Value.ref this, Value.ref p1] : List Value) (bP D y z S A)) (va_Qi post (fun S' t => wd D y z S' A t.heap) A) 0 0 A := by
  refine Met.ofW (cc := cX5_canTakeLetterAt) (maxL := 2) (ret := (some .boolean)) (by decide) rfl ?_
  intro p e s m args below meth c s₁ B hml hv
  obtain ⟨rfl, hB⟩ := hv
  have hx := B.exec
  have hb := B.bytes
  have hr := B.returns
  have hts := atoms_spec (ws := wsX5_canTakeLetterAt) B.pre
  have hown : s.vm.findClass RX5 = some m.cls := findClass_of_methodNamed B.named
  have hlocks := B.notSynchronized
  have hw : wd D y z S A s.heap := hB.1
  have hK : va_K D bCl (bT y) s := hB.2.1
  have hNw := hB.2.2.1
  have hAn : ∀ q : Nat, s.heap.size ≤ q → A q := hB.2.2.2.1
  have hAz : ¬ A z := hB.2.2.2.2.1
  have hO := hB.2.2.2.2.2.1
  have hS : va_S A s.heap s.heap [] := va_S.rf
  have hiX5 : ∀ w ∈ u_ws RX5 TX5 6, w ∈ wsX5_canTakeLetterAt := by decide +kernel
  have hl := lv_entry ([Value.ref this, Value.ref p1] : List Value) (n := 2) (Nat.le_of_ble_eq_true rfl)
  rw [lg_entry_eq]
  generalize (lg_sl ([Value.ref this, Value.ref p1] : List Value) ++ List.replicate (2 - (lg_sl ([Value.ref this, Value.ref p1] : List Value)).length) Slot.unset).toArray = ls at hl ⊢
  have hl : lv_has ls 2 [(0, .ref this), (1, .ref p1)] := hl
  obtain ⟨Q, hQ⟩ : ∃ Q, Q = MQ below (va_Qi post (fun S' t => wd D y z S' A t.heap) A) (([Value.ref this, Value.ref p1] : List Value).toArray) s 0 0 A := ⟨_, rfl⟩
  rw [← hQ]
  generalize hR : (headSpec wsX5_canTakeLetterAt ({ frames := 2, cells := 0, slots := 0, locals := 40 } : Room)).room = R
  have hRf : 2 ≤ R.frames := by rw [← hR]; exact Nat.le_refl _
  have hRl : 40 ≤ R.locals := by rw [← hR]; exact Nat.le_refl _
  have hret : ∀ (v : Int32) (S : bS) (H : Heap) (locs : List Loc) (pc : Nat) (ls : Array Slot) , (v = 0 ∨ v = 1) → post v S → wd D y z S A H → va_S A s.heap H locs → decode cX5_canTakeLetterAt pc = .ok (.ireturn, 1) → W p l e R s m (([Value.ref this, Value.ref p1] : List Value).toArray) below meth c H locs 0 0 Q (F0 m pc ls [.int v]) := by
    intro v S H locs pc ls hz h hw hS d0
    rw [hQ]; exact W.zret hx hb hr (b_nz hz) (fun t ht hW => ⟨⟨v, S, rfl, h, by show wd D y z S A t.heap; rw [ht]; exact hw⟩, hS.F ht⟩) hS.2.2 d0 hlocks
  have hB34 : ∀ (S : bS) (H : Heap) (locs : List Loc) (ls : Array Slot) (s0 : Int32), wb_X5_canTakeLetterAt_34 post s0 S → wd D y z S A H → va_S A s.heap H locs → lv_has ls 2 [] → W p l e R s m (([Value.ref this, Value.ref p1] : List Value).toArray) below meth c H locs 0 0 Q (F0 m 34 ls [.int s0]) := by
    intro S H locs ls s0 h hw hS hl
    unfold wb_X5_canTakeLetterAt_34 at h
    obtain ⟨hz, h⟩ := h
    exact hret _ _ _ _ _ _ hz h hw hS dX5_canTakeLetterAt_34
  have hB33 : ∀ (S : bS) (H : Heap) (locs : List Loc) (ls : Array Slot) , wb_X5_canTakeLetterAt_33 post S → wd D y z S A H → va_S A s.heap H locs → lv_has ls 2 [] → W p l e R s m (([Value.ref this, Value.ref p1] : List Value).toArray) below meth c H locs 0 0 Q (F0 m 33 ls []) := by
    intro S H locs ls  h hw hS hl
    unfold wb_X5_canTakeLetterAt_33 at h
    refine lv_iconst (v := (0 : Int32)) hx hb dX5_canTakeLetterAt_33 (by decide) ?_
    exact hB34 _ _ _ _ _ h hw hS (lv_sub hl [] rfl)
  unfold wp_X5_canTakeLetterAt at h
  refine lv_aload_n hx hb dX5_canTakeLetterAt_0 rfl (lv_at hl 1 rfl) ?_
  obtain ⟨hk1, h⟩ := h
  have h1 := h
  refine va_calli (va_runVN (As := []) (rest := []) ⟨hx, hb, hml, hown, hts⟩ (m_X3_hasRoom (l := l) h1) ⟨va_cnB 0 hts gX5_canTakeLetterAt_X3_hasRoom_n318 rfl rfl rfl (hNw _ bNw_62) (hts (.initialized RX3) (by decide +kernel)) ⟨by decide +kernel, by decide +kernel, by decide +kernel⟩ ⟨Nat.le_trans (Nat.le_of_ble_eq_true rfl) hRf, Nat.le_trans (Nat.le_of_ble_eq_true rfl) hRl⟩, (hts (.instanceMethod yX3_hasRoom) (by decide +kernel)), hts (.selects RX3 yX3_hasRoom yX3_hasRoom) (by decide +kernel)⟩ (r_pV hB hw hS (ce_5 (S := S) hk1) rfl) rfl rfl hl.1 rfl (lv_room (Nat.le_of_ble_eq_true rfl)) dX5_canTakeLetterAt_1 ⟨Nat.zero_le _, Nat.zero_le _⟩) hS (fun _ _ h => h) (fun _ h => h) (fun r2 S3 t H1 locs ht _ h hw1 _ _ hS => ?_)
  subst ht
  have hw : wd D y z S3 A t.heap := hw1
  clear hw1 h1
  refine lv_if_eq (tgt := 33) hx hb dX5_canTakeLetterAt_4 (by decide) (fun hc => ?_) (fun hc => ?_)
  · have h := h.1 hc
    exact hB33 _ _ _ _ h hw hS (lv_sub hl [] rfl)
  · have h := h.2 hc
    refine lv_aload_n hx hb dX5_canTakeLetterAt_7 rfl (lv_at hl 0 rfl) ?_
    obtain ⟨hk4, h⟩ := h
    have h1 := h
    refine va_calli (va_runV (As := []) (rest := []) ⟨hx, hb, hml, hown, hts⟩ (m_X5_underWay (l := l) h1) (cwV 0 hts gX5_canTakeLetterAt_X5_underWay rfl rfl rfl (by decide +kernel) ⟨Nat.le_trans (Nat.le_of_ble_eq_true rfl) hRf, Nat.le_trans (Nat.le_of_ble_eq_true rfl) hRl⟩) (r_pV hB hw hS (ce_7 (S := S3) hk4) rfl) rfl rfl hl.1 rfl (lv_room (Nat.le_of_ble_eq_true rfl)) dX5_canTakeLetterAt_8 ⟨Nat.zero_le _, Nat.zero_le _⟩) hS (fun _ _ h => h) (fun _ h => h) (fun r5 S6 t H1 locs ht _ h hw1 _ _ hS => ?_)
    subst ht
    have hw : wd D y z S6 A t.heap := hw1
    clear hw1 h1
    refine lv_bipush (v := (40 : Int32)) hx hb dX5_canTakeLetterAt_11 (by decide) ?_
    refine lv_icmp_ge (tgt := 33) hx hb dX5_canTakeLetterAt_13 (by decide) (fun hc => ?_) (fun hc => ?_)
    · have h := h.1 hc
      exact hB33 _ _ _ _ h hw hS (lv_sub hl [] rfl)
    · have h := h.2 hc
      refine lv_aload_n hx hb dX5_canTakeLetterAt_16 rfl (lv_at hl 0 rfl) ?_
      obtain ⟨hk7, h⟩ := h
      obtain ⟨b8, hb9, h⟩ := h
      refine r_get (ci := 6) (v := .ref b8) (C := RX5) (T := TX5) (N := 6) hx hb hts hiX5 hown hK hw (ce_7 (S := S6) hk7) rfl 2 (by decide) (hts (.fieldLink RX5 23 "TubePost" "carriers" "Ljava/util/ArrayList;") (by decide +kernel)) (fun _ h9 => h9) (congrArg (fun q => some (va_rf q)) hb9) dX5_canTakeLetterAt_17 ?_
      obtain ⟨hk10, h⟩ := h
      have h1 := h
      refine va_calli (va_runV (As := []) (rest := []) ⟨hx, hb, hml, hown, hts⟩ (m_Jx4a65c_size_8abf5 (l := l) h1) (cwV 0 hts gX5_canTakeLetterAt_Jx4a65c_size_8abf5 rfl rfl rfl (by decide +kernel) ⟨Nat.le_trans (Nat.le_of_ble_eq_true rfl) hRf, Nat.le_trans (Nat.le_of_ble_eq_true rfl) hRl⟩) (r_pV hB hw hS (ce_1 (S := S6) hk10) rfl) rfl rfl hl.1 rfl (lv_room (Nat.le_of_ble_eq_true rfl)) dX5_canTakeLetterAt_20 ⟨Nat.zero_le _, Nat.zero_le _⟩) hS (fun _ _ h => h) (fun _ h => h) (fun r11 S12 t H1 locs ht _ h hw1 _ _ hS => ?_)
      subst ht
      have hw : wd D y z S12 A t.heap := hw1
      clear hw1 h1
      refine lv_sipush (v := (500 : Int32)) hx hb dX5_canTakeLetterAt_23 (by decide) ?_
      refine lv_icmp_ge (tgt := 33) hx hb dX5_canTakeLetterAt_26 (by decide) (fun hc => ?_) (fun hc => ?_)
      · have h := h.1 hc
        exact hB33 _ _ _ _ h hw hS (lv_sub hl [] rfl)
      · have h := h.2 hc
        refine lv_iconst (v := (1 : Int32)) hx hb dX5_canTakeLetterAt_29 (by decide) ?_
        refine lv_goto (tgt := 34) hx hb dX5_canTakeLetterAt_30 (by decide) ?_
        exact hB34 _ _ _ _ _ h hw hS (lv_sub hl [] rfl)
def wp_X5_dispatch (post : bS → Prop) (MC MS : Nat) (this : Nat) (p1 : Nat) (p2 : Nat) (p3 : Int32) (S : bS) : Prop := 1 ≤ MC ∧ 9 ≤ MS ∧ (∀ q1, gK S q1 = 0 → (gK (sNew S q1 2 0) this = 7 ∧ (∃ b5, gQ (sNew S q1 2 0) 7 this 2 = some b5 ∧ (gK (sNew S q1 2 0) b5 = 1 ∧ (wp_Jx4a65c_size_8abf5 (fun r8 S9 => gK S9 this = 7 ∧ (wp_X0_init (fun S12 => gK S12 this = 7 ∧ (∃ b14, gQ S12 7 this 2 = some b14 ∧ (gK S12 b14 = 1 ∧ (∃ k19 n20, k19 ≤ (MC - 1) ∧ n20 ≤ (MS - 9) ∧ (wp_Jx4a65c_add_9ea2d (fun r17 S18 => gK S18 this = 7 ∧ (gK S18 q1 = 2 ∧ (∃ k25 n26, k25 ≤ ((MC - 1) - k19) ∧ n26 ≤ ((MS - 9) - n20) ∧ (wp_X0_comeTo (fun S24 => post S24) k25 n26 q1 p1 (gV S18 7 this 3) S18)))) k19 n20 b14 q1 S12))))) q1 r8 p2 p3 (gV S9 7 this 3) S9)) b5 (sNew S q1 2 0))))))
set_option maxHeartbeats 4000000 in
set_option maxRecDepth 100000 in
theorem m_X5_dispatch {l : Launch} {D : va_G} {y : Nat → ClassId} {z : Nat} {A : Nat → Prop} {S : bS} {post : bS → Prop} {MC MS : Nat} {this : Nat} {p1 : Nat} {p2 : Nat} {p3 : Int32} (h : wp_X5_dispatch post MC MS this p1 p2 p3 S) : Met l yX5_dispatch wsX5_dispatch ({ frames := 8, cells := MC, slots := MS, locals := 215 } : Room) (va_Pc ([Value.ref this, Value.ref p1, Value.ref p2, Value.int p3] : List Value) (bP D y z S A)) (va_Qv post (fun S' t => wd D y z S' A t.heap) A) MC MS A := by
  refine Met.ofW (cc := cX5_dispatch) (maxL := 5) (ret := none) (by decide) rfl ?_
  intro p e s m args below meth c s₁ B hml hv
  obtain ⟨rfl, hB⟩ := hv
  have hx := B.exec
  have hb := B.bytes
  have hr := B.returns
  have hts := atoms_spec (ws := wsX5_dispatch) B.pre
  have hown : s.vm.findClass RX5 = some m.cls := findClass_of_methodNamed B.named
  have hlocks := B.notSynchronized
  have hw : wd D y z S A s.heap := hB.1
  have hK : va_K D bCl (bT y) s := hB.2.1
  have hNw := hB.2.2.1
  have hAn : ∀ q : Nat, s.heap.size ≤ q → A q := hB.2.2.2.1
  have hAz : ¬ A z := hB.2.2.2.2.1
  have hO := hB.2.2.2.2.2.1
  have hS : va_S A s.heap s.heap [] := va_S.rf
  have hiX0 : ∀ w ∈ u_ws RX0 TX0 9, w ∈ wsX5_dispatch := by decide +kernel
  have hiX5 : ∀ w ∈ u_ws RX5 TX5 6, w ∈ wsX5_dispatch := by decide +kernel
  have hl := lv_entry ([Value.ref this, Value.ref p1, Value.ref p2, Value.int p3] : List Value) (n := 5) (Nat.le_of_ble_eq_true rfl)
  rw [lg_entry_eq]
  generalize (lg_sl ([Value.ref this, Value.ref p1, Value.ref p2, Value.int p3] : List Value) ++ List.replicate (5 - (lg_sl ([Value.ref this, Value.ref p1, Value.ref p2, Value.int p3] : List Value)).length) Slot.unset).toArray = ls at hl ⊢
  have hl : lv_has ls 5 [(0, .ref this), (1, .ref p1), (2, .ref p2), (3, .int p3)] := hl
  obtain ⟨Q, hQ⟩ : ∃ Q, Q = MQ below (va_Qv post (fun S' t => wd D y z S' A t.heap) A) (([Value.ref this, Value.ref p1, Value.ref p2, Value.int p3] : List Value).toArray) s MC MS A := ⟨_, rfl⟩
  rw [← hQ]
  generalize hR : (headSpec wsX5_dispatch ({ frames := 8, cells := MC, slots := MS, locals := 215 } : Room)).room = R
  have hRf : 8 ≤ R.frames := by rw [← hR]; exact Nat.le_refl _
  have hRl : 215 ≤ R.locals := by rw [← hR]; exact Nat.le_refl _
  have hRc : R.cells = MC := by rw [← hR]; rfl
  have hRs : R.slots = MS := by rw [← hR]; rfl
  have hret : ∀ (S : bS) (H : Heap) (locs : List Loc) (pc : Nat) (ls : Array Slot) (cu su : Nat) , post S → wd D y z S A H → va_S A s.heap H locs → cu ≤ MC → su ≤ MS → decode cX5_dispatch pc = .ok (.return_, 1) → W p l e R s m (([Value.ref this, Value.ref p1, Value.ref p2, Value.int p3] : List Value).toArray) below meth c H locs cu su Q (F0 m pc ls []) := by
    intro S H locs pc ls cu su h hw hS hcu hsu d0
    rw [hQ]; refine W.widen hcu hsu ?_; exact W.vret hx hb hr (fun t ht hW => ⟨⟨S, rfl, h, by show wd D y z S A t.heap; rw [ht]; exact hw⟩, hS.F ht⟩) hS.2.2 d0 hlocks
  unfold wp_X5_dispatch at h
  have hcu : 0 + MC ≤ MC := by omega
  have hsu : 0 + MS ≤ MS := by omega
  obtain ⟨hbg1, hbg2, h⟩ := h
  refine r_new (ci := 1) (C := RX0) (T := TX0) (N := 9) (κ := 2) (nn := 0) hx hb hts hiX0 tyX0 tyX0_ok hown (hts (.classLink RX5 163 RX0) (by decide +kernel)) (hts (.instantiable RX0 9) (by decide +kernel)) (hts (.initialized RX0) (by decide +kernel)) hK hw hS hAn hAz rfl pn_2 (Nat.le_of_ble_eq_true rfl) b_fs2 (by omega) (by omega) dX5_dispatch_0 (fun q1 H hq2 hw hS => ?_)
  have h := h q1 hq2
  have hk3 : gK (sNew S q1 2 0) q1 = 2 := if_pos rfl
  have hcu : (0 + 1) + (MC - 1) ≤ MC := by omega
  have hsu : (0 + 9) + (MS - 9) ≤ MS := by omega
  refine lv_dup hx hb dX5_dispatch_3 rfl ?_
  refine lv_aload_n hx hb dX5_dispatch_4 rfl (lv_at hl 0 rfl) ?_
  obtain ⟨hk4, h⟩ := h
  obtain ⟨b5, hb6, h⟩ := h
  refine r_get (ci := 6) (v := .ref b5) (C := RX5) (T := TX5) (N := 6) hx hb hts hiX5 hown hK hw (ce_7 (S := (sNew S q1 2 0)) hk4) rfl 2 (by decide) (hts (.fieldLink RX5 23 "TubePost" "carriers" "Ljava/util/ArrayList;") (by decide +kernel)) (fun _ h9 => h9) (congrArg (fun q => some (va_rf q)) hb6) dX5_dispatch_5 ?_
  obtain ⟨hk7, h⟩ := h
  have h1 := h
  refine va_calli (va_runV (As := []) (rest := [.ref q1, .ref q1]) ⟨hx, hb, hml, hown, hts⟩ (m_Jx4a65c_size_8abf5 (l := l) h1) (cwV 0 hts gX5_dispatch_Jx4a65c_size_8abf5 rfl rfl rfl (by decide +kernel) ⟨Nat.le_trans (Nat.le_of_ble_eq_true rfl) hRf, Nat.le_trans (Nat.le_of_ble_eq_true rfl) hRl⟩) (r_pV hB hw hS (ce_1 (S := (sNew S q1 2 0)) hk7) rfl) rfl rfl hl.1 rfl (lv_room (Nat.le_of_ble_eq_true rfl)) dX5_dispatch_8 ⟨by omega, by omega⟩) hS (fun _ _ h => h) (fun _ h => h) (fun r8 S9 t H1 locs ht _ h hw1 _ _ hS => ?_)
  subst ht
  have hw : wd D y z S9 A t.heap := hw1
  clear hw1 h1
  refine lv_aload_n hx hb dX5_dispatch_11 rfl (lv_at hl 2 rfl) ?_
  refine lv_iload_n hx hb dX5_dispatch_12 rfl (lv_at hl 3 rfl) ?_
  refine lv_aload_n hx hb dX5_dispatch_13 rfl (lv_at hl 0 rfl) ?_
  obtain ⟨hk10, h⟩ := h
  refine r_get (ci := 6) (v := .int (gV S9 7 this 3)) (C := RX5) (T := TX5) (N := 6) hx hb hts hiX5 hown hK hw (ce_7 (S := S9) hk10) rfl 3 (by decide) (hts (.fieldLink RX5 26 "TubePost" "tick" "I") (by decide +kernel)) (fun _ h9 => h9) rfl dX5_dispatch_14 ?_
  have h1 := h
  refine va_callv (va_runIN (As := [.int r8, .ref p2, .int p3, .int (gV S9 7 this 3)]) (rest := [.ref q1]) ⟨hx, hb, hml, hown, hts⟩ (m_X0_init (l := l) h1) ⟨va_cnB 4 hts gX5_dispatch_X0_init_n344 rfl rfl rfl (hNw _ bNw_66) (hts (.initialized RX0) (by decide +kernel)) ⟨by decide +kernel, by decide +kernel, by decide +kernel⟩ ⟨Nat.le_trans (Nat.le_of_ble_eq_true rfl) hRf, Nat.le_trans (Nat.le_of_ble_eq_true rfl) hRl⟩, rfl, (hts (.instanceMethod yX0_init) (by decide +kernel))⟩ (r_pS hB hw hS) rfl rfl hl.1 rfl (lv_room (Nat.le_of_ble_eq_true rfl)) dX5_dispatch_17 ⟨by omega, by omega⟩) hS (fun _ _ h => h) (fun _ h => h) (fun S12 t H1 locs ht _ h hw1 _ _ hS => ?_)
  subst ht
  have hw : wd D y z S12 A t.heap := hw1
  clear hw1 h1
  refine lv_astore hx hb dX5_dispatch_20 hl (by decide) rfl (fun ls hl => ?_)
  have hl : lv_has ls 5 [(4, .ref q1), (0, .ref this), (1, .ref p1), (2, .ref p2), (3, .int p3)] := hl
  refine lv_aload_n hx hb dX5_dispatch_22 rfl (lv_at hl 1 rfl) ?_
  obtain ⟨hk13, h⟩ := h
  obtain ⟨b14, hb15, h⟩ := h
  refine r_get (ci := 6) (v := .ref b14) (C := RX5) (T := TX5) (N := 6) hx hb hts hiX5 hown hK hw (ce_7 (S := S12) hk13) rfl 2 (by decide) (hts (.fieldLink RX5 23 "TubePost" "carriers" "Ljava/util/ArrayList;") (by decide +kernel)) (fun _ h9 => h9) (congrArg (fun q => some (va_rf q)) hb15) dX5_dispatch_23 ?_
  refine lv_aload hx hb dX5_dispatch_26 (lv_at hl 0 rfl) ?_
  obtain ⟨hk16, h⟩ := h
  obtain ⟨k19, n20, hbg1, hbg2, h⟩ := h
  have h1 := h
  refine va_calli (va_runV (As := [.ref q1]) (rest := []) ⟨hx, hb, hml, hown, hts⟩ (m_Jx4a65c_add_9ea2d (l := l) h1) (cwV 1 hts gX5_dispatch_Jx4a65c_add_9ea2d rfl rfl rfl (by decide +kernel) ⟨Nat.le_trans (Nat.le_of_ble_eq_true rfl) hRf, Nat.le_trans (Nat.le_of_ble_eq_true rfl) hRl⟩) (r_pV hB hw hS (ce_1 (S := S12) hk16) rfl) rfl rfl hl.1 rfl (lv_room (Nat.le_of_ble_eq_true rfl)) dX5_dispatch_28 ⟨by omega, by omega⟩) hS (fun _ _ h => h) (fun _ h => h) (fun r17 S18 t H1 locs ht _ h hw1 _ _ hS => ?_)
  subst ht
  have hw : wd D y z S18 A t.heap := hw1
  clear hw1 h1
  have hcu : ((0 + 1) + k19) + ((MC - 1) - k19) ≤ MC := by omega
  have hsu : ((0 + 9) + n20) + ((MS - 9) - n20) ≤ MS := by omega
  refine lv_pop hx hb dX5_dispatch_31 rfl ?_
  refine lv_aload hx hb dX5_dispatch_32 (lv_at hl 0 rfl) ?_
  refine lv_aload_n hx hb dX5_dispatch_34 rfl (lv_at hl 2 rfl) ?_
  refine lv_aload_n hx hb dX5_dispatch_35 rfl (lv_at hl 1 rfl) ?_
  obtain ⟨hk21, h⟩ := h
  refine r_get (ci := 6) (v := .int (gV S18 7 this 3)) (C := RX5) (T := TX5) (N := 6) hx hb hts hiX5 hown hK hw (ce_7 (S := S18) hk21) rfl 3 (by decide) (hts (.fieldLink RX5 26 "TubePost" "tick" "I") (by decide +kernel)) (fun _ h9 => h9) rfl dX5_dispatch_36 ?_
  obtain ⟨hk22, h⟩ := h
  obtain ⟨k25, n26, hbg1, hbg2, h⟩ := h
  have h1 := h
  refine va_callv (va_runVN (As := [.ref p1, .int (gV S18 7 this 3)]) (rest := []) ⟨hx, hb, hml, hown, hts⟩ (m_X0_comeTo (l := l) h1) ⟨va_cnB 2 hts gX5_dispatch_X0_comeTo_n322 rfl rfl rfl (hNw _ bNw_63) (hts (.initialized RX0) (by decide +kernel)) ⟨by decide +kernel, by decide +kernel, by decide +kernel⟩ ⟨Nat.le_trans (Nat.le_of_ble_eq_true rfl) hRf, Nat.le_trans (Nat.le_of_ble_eq_true rfl) hRl⟩, (hts (.instanceMethod yX0_comeTo) (by decide +kernel)), hts (.selects RX0 yX0_comeTo yX0_comeTo) (by decide +kernel)⟩ (r_pV hB hw hS (ce_2 (S := S18) hk22) rfl) rfl rfl hl.1 rfl (lv_room (Nat.le_of_ble_eq_true rfl)) dX5_dispatch_39 ⟨by omega, by omega⟩) hS (fun _ _ h => h) (fun _ h => h) (fun S24 t H1 locs ht _ h hw1 _ _ hS => ?_)
  subst ht
  have hw : wd D y z S24 A t.heap := hw1
  clear hw1 h1
  have hcu : (((0 + 1) + k19) + k25) + (((MC - 1) - k19) - k25) ≤ MC := by omega
  have hsu : (((0 + 9) + n20) + n26) + (((MS - 9) - n20) - n26) ≤ MS := by omega
  exact hret _ _ _ _ _ _ _ h hw hS (by omega) (by omega) dX5_dispatch_42
def wb_X5_send_30 (post : Int32 → bS → Prop) (xp : String → bS → Prop) (mc ms : Nat) (S : bS) : Prop := 1 ≤ mc ∧ 6 ≤ ms ∧ xp "java/lang/IllegalArgumentException" S
def wp_X5_send (post : Int32 → bS → Prop) (xp : String → bS → Prop) (MC MS : Nat) (this : Nat) (p1 : Int32) (p2 : Int32) (p3 : Int32) (S : bS) : Prop := gK S this = 7 ∧ (∃ k6 n7, k6 ≤ MC ∧ n7 ≤ MS ∧ (wp_X5_knownStation (fun r2 S3 => ∃ b4, r2 = some b4 ∧ (gK S3 this = 7 ∧ (∃ k13 n14, k13 ≤ (MC - k6) ∧ n14 ≤ (MS - n7) ∧ (wp_X5_knownStation (fun r9 S10 => ∃ b11, r9 = some b11 ∧ (((some b4) = (some b11) → wb_X5_send_30 post xp ((MC - k6) - k13) ((MS - n7) - n14) S10) ∧ (¬ ((some b4) = (some b11)) → wp_X5_isOutside (fun r15 S16 => (r15 = (0 : Int32) → gK S16 this = 7 ∧ (wp_X5_canTakeLetterAt (fun r18 S19 => (r18 ≠ (0 : Int32) → gK S19 this = 7 ∧ (∃ k23 n24, k23 ≤ ((MC - k6) - k13) ∧ n24 ≤ ((MS - n7) - n14) ∧ (wp_X5_dispatch (fun S22 => gK S22 this = 7 ∧ (∃ b26, gQ S22 7 this 2 = some b26 ∧ (gK S22 b26 = 1 ∧ (wp_Jx4a65c_size_8abf5 (fun r29 S30 => post (r29 - (1 : Int32)) S30) b26 S22)))) k23 n24 this b4 b11 p3 S19))) ∧ (r18 = (0 : Int32) → 1 ≤ ((MC - k6) - k13) ∧ 6 ≤ ((MS - n7) - n14) ∧ xp "java/lang/IllegalStateException" S19)) this b4 S16)) ∧ (¬ (r15 = (0 : Int32)) → wb_X5_send_30 post xp ((MC - k6) - k13) ((MS - n7) - n14) S16)) p3 (0 : Int32) (3 : Int32) S10))) xp k13 n14 this p2 S3)))) xp k6 n7 this p1 S))
set_option maxHeartbeats 4000000 in
set_option maxRecDepth 100000 in
theorem m_X5_send {l : Launch} {D : va_G} {y : Nat → ClassId} {z : Nat} {A : Nat → Prop} {S : bS} {post : Int32 → bS → Prop} {xp : String → bS → Prop} (hl0 : l.stackTraces = false) {MC MS : Nat} {this : Nat} {p1 : Int32} {p2 : Int32} {p3 : Int32} (h : wp_X5_send post xp MC MS this p1 p2 p3 S) : vx_Met l yX5_send wsX5_send ({ frames := 9, cells := MC, slots := MS, locals := 421 } : Room) (va_Pc ([Value.ref this, Value.int p1, Value.int p2, Value.int p3] : List Value) (bP D y z S A)) (va_Qi post (fun S' t => wd D y z S' A t.heap) A) (bX D y z A xp) MC MS A := by
  refine vx_ofW (cc := cX5_send) (maxL := 6) (ret := (some .int)) (by decide) rfl ?_
  intro p e s m args below meth c s₁ B hml hex hv
  obtain ⟨rfl, hB⟩ := hv
  have hx := B.exec
  have hb := B.bytes
  have hr := B.returns
  have hts := atoms_spec (ws := wsX5_send) B.pre
  have hown : s.vm.findClass RX5 = some m.cls := findClass_of_methodNamed B.named
  have hlocks := B.notSynchronized
  have hw : wd D y z S A s.heap := hB.1
  have hK : va_K D bCl (bT y) s := hB.2.1
  have hNw := hB.2.2.1
  have hAn : ∀ q : Nat, s.heap.size ≤ q → A q := hB.2.2.2.1
  have hAz : ¬ A z := hB.2.2.2.2.1
  have hO := hB.2.2.2.2.2.1
  have hS : va_S A s.heap s.heap [] := va_S.rf
  have hiX5 : ∀ w ∈ u_ws RX5 TX5 6, w ∈ wsX5_send := by decide +kernel
  have hl := lv_entry ([Value.ref this, Value.int p1, Value.int p2, Value.int p3] : List Value) (n := 6) (Nat.le_of_ble_eq_true rfl)
  rw [lg_entry_eq]
  generalize (lg_sl ([Value.ref this, Value.int p1, Value.int p2, Value.int p3] : List Value) ++ List.replicate (6 - (lg_sl ([Value.ref this, Value.int p1, Value.int p2, Value.int p3] : List Value)).length) Slot.unset).toArray = ls at hl ⊢
  have hl : lv_has ls 6 [(0, .ref this), (1, .int p1), (2, .int p2), (3, .int p3)] := hl
  obtain ⟨Q, hQ⟩ : ∃ Q, Q = vx_MQ below (va_Qi post (fun S' t => wd D y z S' A t.heap) A) (bX D y z A xp) (([Value.ref this, Value.int p1, Value.int p2, Value.int p3] : List Value).toArray) s MC MS A := ⟨_, rfl⟩
  rw [← hQ]
  generalize hR : (headSpec wsX5_send ({ frames := 9, cells := MC, slots := MS, locals := 421 } : Room)).room = R
  have hRf : 9 ≤ R.frames := by rw [← hR]; exact Nat.le_refl _
  have hRl : 421 ≤ R.locals := by rw [← hR]; exact Nat.le_refl _
  have hRc : R.cells = MC := by rw [← hR]; rfl
  have hRs : R.slots = MS := by rw [← hR]; rfl
  have hret : ∀ (v : Int32) (S : bS) (H : Heap) (locs : List Loc) (pc : Nat) (ls : Array Slot) (cu su : Nat) , post v S → wd D y z S A H → va_S A s.heap H locs → cu ≤ MC → su ≤ MS → decode cX5_send pc = .ok (.ireturn, 1) → W p l e R s m (([Value.ref this, Value.int p1, Value.int p2, Value.int p3] : List Value).toArray) below meth c H locs cu su Q (F0 m pc ls [.int v]) := by
    intro v S H locs pc ls cu su h hw hS hcu hsu d0
    rw [hQ]; refine vx_ret ?_; refine W.widen hcu hsu ?_; exact W.iret hx hb hr (fun t ht hW => ⟨⟨v, S, rfl, h, by show wd D y z S A t.heap; rw [ht]; exact hw⟩, hS.F ht⟩) hS.2.2 d0 hlocks
  have hB30 : ∀ (S : bS) (H : Heap) (locs : List Loc) (ls : Array Slot) (mc ms cu su : Nat) , wb_X5_send_30 post xp mc ms S → wd D y z S A H → va_S A s.heap H locs → lv_has ls 6 [] → cu + mc ≤ MC → su + ms ≤ MS → W p l e R s m (([Value.ref this, Value.int p1, Value.int p2, Value.int p3] : List Value).toArray) below meth c H locs cu su Q (F0 m 30 ls []) := by
    intro S H locs ls mc ms cu su  h hw hS hl hcu hsu
    unfold wb_X5_send_30 at h
    obtain ⟨hbg1, hbg2, h⟩ := h
    obtain ⟨sa9, hsa9⟩ := b_str hB 17 rfl
    rw [hQ]
    exact vx_throwS (names := ["java/lang/RuntimeException", "java/lang/Exception"]) hx hb hl0 hown (by decide +kernel) (by decide +kernel) (hts (.classLink RX5 40 "java/lang/IllegalArgumentException") (by decide +kernel)) (hts (.initialized "java/lang/IllegalArgumentException") (by decide +kernel)) hsa9 (b_hat (fun w hw9 => hts w ((by decide +kernel : ∀ w ∈ (vx_atS RX5 44 "java/lang/IllegalArgumentException" ["java/lang/RuntimeException", "java/lang/Exception"]).filter goodWord, w ∈ wsX5_send) w hw9)) (by decide +kernel) hB) (by decide +kernel) (b_U hB) (b_N hB) hS (by rw [hml]; exact hl.1) dX5_send_30 dX5_send_33 dX5_send_34 dX5_send_36 dX5_send_39 (fun x hx => (hex x hx).elim) (Nat.lt_of_lt_of_le (by decide) hRf) (Nat.le_trans (Nat.le_of_ble_eq_true rfl) hRl) (by omega) (by omega) hlocks (fun t9 ha9 hz9 hk9 => ⟨S, trivial, ⟨h, b_grow hw hz9 hk9⟩, b_growF hS hz9 hk9⟩) hS.2.2 (by omega) (by omega)
  unfold wp_X5_send at h
  have hcu : 0 + MC ≤ MC := by omega
  have hsu : 0 + MS ≤ MS := by omega
  refine lv_aload_n hx hb dX5_send_0 rfl (lv_at hl 0 rfl) ?_
  refine lv_iload_n hx hb dX5_send_1 rfl (lv_at hl 1 rfl) ?_
  obtain ⟨hk1, h⟩ := h
  obtain ⟨k6, n7, hbg1, hbg2, h⟩ := h
  have h1 := h
  refine vx_callq (vx_runV (As := [.int p1]) (rest := []) ⟨hx, hb, hml, hown, hts⟩ (m_X5_knownStation (l := l) hl0 h1) (cwV 1 hts gX5_send_X5_knownStation rfl rfl rfl (by decide +kernel) ⟨Nat.le_trans (Nat.le_of_ble_eq_true rfl) hRf, Nat.le_trans (Nat.le_of_ble_eq_true rfl) hRl⟩) (r_pV hB hw hS (ce_7 (S := S) hk1) rfl) rfl rfl hl.1 rfl (lv_room (Nat.le_of_ble_eq_true rfl)) dX5_send_2 ⟨by omega, by omega⟩) hS (fun _ _ h => h) (fun _ h => h) (fun _ _ h => h) (fun E ce q9 S3 t H1 locs ht hal _ hq hz9 hk9 hS hq9 hvm9 hfc9 => by rw [hQ]; exact vx_out (fun x hx => (hex x hx).elim) hlocks hq9 hvm9 hfc9 (fun t9 ht9 _ => ⟨S3, trivial, ⟨hq.1, by rw [ht9, ← ht]; exact hq.2⟩, hS.F ht9⟩) hS.2.2 (by omega) (by omega)) (fun r2 S3 t H1 locs ht _ h hw1 _ _ hS => ?_)
  subst ht
  have hw : wd D y z S3 A t.heap := hw1
  clear hw1 h1
  have hcu : (0 + k6) + (MC - k6) ≤ MC := by omega
  have hsu : (0 + n7) + (MS - n7) ≤ MS := by omega
  obtain ⟨b4, rfl, h⟩ := h
  refine W.eq (g2 := F0 m 5 ls [.ref b4]) rfl ?_
  refine lv_astore hx hb dX5_send_5 hl (by decide) rfl (fun ls hl => ?_)
  have hl : lv_has ls 6 [(4, .ref b4), (0, .ref this), (1, .int p1), (2, .int p2), (3, .int p3)] := hl
  refine lv_aload_n hx hb dX5_send_7 rfl (lv_at hl 1 rfl) ?_
  refine lv_iload_n hx hb dX5_send_8 rfl (lv_at hl 3 rfl) ?_
  obtain ⟨hk8, h⟩ := h
  obtain ⟨k13, n14, hbg1, hbg2, h⟩ := h
  have h1 := h
  refine vx_callq (vx_runV (As := [.int p2]) (rest := []) ⟨hx, hb, hml, hown, hts⟩ (m_X5_knownStation (l := l) hl0 h1) (cwV 1 hts gX5_send_X5_knownStation rfl rfl rfl (by decide +kernel) ⟨Nat.le_trans (Nat.le_of_ble_eq_true rfl) hRf, Nat.le_trans (Nat.le_of_ble_eq_true rfl) hRl⟩) (r_pV hB hw hS (ce_7 (S := S3) hk8) rfl) rfl rfl hl.1 rfl (lv_room (Nat.le_of_ble_eq_true rfl)) dX5_send_9 ⟨by omega, by omega⟩) hS (fun _ _ h => h) (fun _ h => h) (fun _ _ h => h) (fun E ce q9 S10 t H1 locs ht hal _ hq hz9 hk9 hS hq9 hvm9 hfc9 => by rw [hQ]; exact vx_out (fun x hx => (hex x hx).elim) hlocks hq9 hvm9 hfc9 (fun t9 ht9 _ => ⟨S10, trivial, ⟨hq.1, by rw [ht9, ← ht]; exact hq.2⟩, hS.F ht9⟩) hS.2.2 (by omega) (by omega)) (fun r9 S10 t H1 locs ht _ h hw1 _ _ hS => ?_)
  subst ht
  have hw : wd D y z S10 A t.heap := hw1
  clear hw1 h1
  have hcu : ((0 + k6) + k13) + ((MC - k6) - k13) ≤ MC := by omega
  have hsu : ((0 + n7) + n14) + ((MS - n7) - n14) ≤ MS := by omega
  obtain ⟨b11, rfl, h⟩ := h
  refine W.eq (g2 := F0 m 12 ls [.ref b11]) rfl ?_
  refine lv_astore hx hb dX5_send_12 hl (by decide) rfl (fun ls hl => ?_)
  have hl : lv_has ls 6 [(5, .ref b11), (4, .ref b4), (0, .ref this), (1, .int p1), (2, .int p2), (3, .int p3)] := hl
  refine lv_aload hx hb dX5_send_14 (lv_at hl 1 rfl) ?_
  refine lv_aload hx hb dX5_send_16 (lv_at hl 0 rfl) ?_
  refine lv_acmp_eq (rx := (some b4)) (ry := (some b11)) (tgt := 30) hx hb dX5_send_18 (by decide) (fun hc => ?_) (fun hc => ?_)
  · have h := h.1 hc
    exact hB30 _ _ _ _ _ _ _ _ h hw hS (lv_sub hl [] rfl) hcu hsu
  · have h := h.2 hc
    refine lv_iload_n hx hb dX5_send_21 rfl (lv_at hl 5 rfl) ?_
    refine lv_iconst (v := (0 : Int32)) hx hb dX5_send_22 (by decide) ?_
    refine lv_iconst (v := (3 : Int32)) hx hb dX5_send_23 (by decide) ?_
    have h1 := h
    refine va_calli (va_runS (As := [.int p3, .int (0 : Int32), .int (3 : Int32)]) (rest := []) ⟨hx, hb, hml, hown, hts⟩ (m_X5_isOutside (l := l) h1) (cwS 3 hts gX5_send_X5_isOutside rfl rfl rfl (by decide +kernel) ⟨Nat.le_trans (Nat.le_of_ble_eq_true rfl) hRf, Nat.le_trans (Nat.le_of_ble_eq_true rfl) hRl⟩) (r_pS hB hw hS) rfl rfl hl.1 rfl (lv_room (Nat.le_of_ble_eq_true rfl)) dX5_send_24 ⟨by omega, by omega⟩) hS (fun _ _ h => h) (fun _ h => h) (fun r15 S16 t H1 locs ht _ h hw1 _ _ hS => ?_)
    subst ht
    have hw : wd D y z S16 A t.heap := hw1
    clear hw1 h1
    refine lv_if_eq (tgt := 40) hx hb dX5_send_27 (by decide) (fun hc => ?_) (fun hc => ?_)
    · have h := h.1 hc
      refine lv_aload_n hx hb dX5_send_40 rfl (lv_at hl 2 rfl) ?_
      refine lv_aload hx hb dX5_send_41 (lv_at hl 1 rfl) ?_
      obtain ⟨hk17, h⟩ := h
      have h1 := h
      refine va_calli (va_runV (As := [.ref b4]) (rest := []) ⟨hx, hb, hml, hown, hts⟩ (m_X5_canTakeLetterAt (l := l) h1) (cwV 1 hts gX5_send_X5_canTakeLetterAt rfl rfl rfl (by decide +kernel) ⟨Nat.le_trans (Nat.le_of_ble_eq_true rfl) hRf, Nat.le_trans (Nat.le_of_ble_eq_true rfl) hRl⟩) (r_pV hB hw hS (ce_7 (S := S16) hk17) rfl) rfl rfl hl.1 rfl (lv_room (Nat.le_of_ble_eq_true rfl)) dX5_send_43 ⟨by omega, by omega⟩) hS (fun _ _ h => h) (fun _ h => h) (fun r18 S19 t H1 locs ht _ h hw1 _ _ hS => ?_)
      subst ht
      have hw : wd D y z S19 A t.heap := hw1
      clear hw1 h1
      refine lv_if_ne (tgt := 59) hx hb dX5_send_46 (by decide) (fun hc => ?_) (fun hc => ?_)
      · have h := h.1 hc
        refine lv_aload_n hx hb dX5_send_59 rfl (lv_at hl 2 rfl) ?_
        refine lv_aload hx hb dX5_send_60 (lv_at hl 1 rfl) ?_
        refine lv_aload hx hb dX5_send_62 (lv_at hl 0 rfl) ?_
        refine lv_iload_n hx hb dX5_send_64 rfl (lv_at hl 5 rfl) ?_
        obtain ⟨hk20, h⟩ := h
        obtain ⟨k23, n24, hbg1, hbg2, h⟩ := h
        have h1 := h
        refine va_callv (va_runV (As := [.ref b4, .ref b11, .int p3]) (rest := []) ⟨hx, hb, hml, hown, hts⟩ (m_X5_dispatch (l := l) h1) (cwV 3 hts gX5_send_X5_dispatch rfl rfl rfl (by decide +kernel) ⟨Nat.le_trans (Nat.le_of_ble_eq_true rfl) hRf, Nat.le_trans (Nat.le_of_ble_eq_true rfl) hRl⟩) (r_pV hB hw hS (ce_7 (S := S19) hk20) rfl) rfl rfl hl.1 rfl (lv_room (Nat.le_of_ble_eq_true rfl)) dX5_send_65 ⟨by omega, by omega⟩) hS (fun _ _ h => h) (fun _ h => h) (fun S22 t H1 locs ht _ h hw1 _ _ hS => ?_)
        subst ht
        have hw : wd D y z S22 A t.heap := hw1
        clear hw1 h1
        have hcu : (((0 + k6) + k13) + k23) + (((MC - k6) - k13) - k23) ≤ MC := by omega
        have hsu : (((0 + n7) + n14) + n24) + (((MS - n7) - n14) - n24) ≤ MS := by omega
        refine lv_aload_n hx hb dX5_send_68 rfl (lv_at hl 2 rfl) ?_
        obtain ⟨hk25, h⟩ := h
        obtain ⟨b26, hb27, h⟩ := h
        refine r_get (ci := 6) (v := .ref b26) (C := RX5) (T := TX5) (N := 6) hx hb hts hiX5 hown hK hw (ce_7 (S := S22) hk25) rfl 2 (by decide) (hts (.fieldLink RX5 23 "TubePost" "carriers" "Ljava/util/ArrayList;") (by decide +kernel)) (fun _ h9 => h9) (congrArg (fun q => some (va_rf q)) hb27) dX5_send_69 ?_
        obtain ⟨hk28, h⟩ := h
        have h1 := h
        refine va_calli (va_runV (As := []) (rest := []) ⟨hx, hb, hml, hown, hts⟩ (m_Jx4a65c_size_8abf5 (l := l) h1) (cwV 0 hts gX5_send_Jx4a65c_size_8abf5 rfl rfl rfl (by decide +kernel) ⟨Nat.le_trans (Nat.le_of_ble_eq_true rfl) hRf, Nat.le_trans (Nat.le_of_ble_eq_true rfl) hRl⟩) (r_pV hB hw hS (ce_1 (S := S22) hk28) rfl) rfl rfl hl.1 rfl (lv_room (Nat.le_of_ble_eq_true rfl)) dX5_send_72 ⟨by omega, by omega⟩) hS (fun _ _ h => h) (fun _ h => h) (fun r29 S30 t H1 locs ht _ h hw1 _ _ hS => ?_)
        subst ht
        have hw : wd D y z S30 A t.heap := hw1
        clear hw1 h1
        refine lv_iconst (v := (1 : Int32)) hx hb dX5_send_75 (by decide) ?_
        refine lv_isub hx hb dX5_send_76 ?_
        exact hret (r29 - (1 : Int32)) _ _ _ _ _ _ _ h hw hS (by omega) (by omega) dX5_send_77
      · have h := h.2 hc
        obtain ⟨hbg1, hbg2, h⟩ := h
        obtain ⟨sa9, hsa9⟩ := b_str hB 18 rfl
        rw [hQ]
        exact vx_throwS (names := ["java/lang/RuntimeException", "java/lang/Exception"]) hx hb hl0 hown (by decide +kernel) (by decide +kernel) (hts (.classLink RX5 54 "java/lang/IllegalStateException") (by decide +kernel)) (hts (.initialized "java/lang/IllegalStateException") (by decide +kernel)) hsa9 (b_hat (fun w hw9 => hts w ((by decide +kernel : ∀ w ∈ (vx_atS RX5 58 "java/lang/IllegalStateException" ["java/lang/RuntimeException", "java/lang/Exception"]).filter goodWord, w ∈ wsX5_send) w hw9)) (by decide +kernel) hB) (by decide +kernel) (b_U hB) (b_N hB) hS (by rw [hml]; exact hl.1) dX5_send_49 dX5_send_52 dX5_send_53 dX5_send_55 dX5_send_58 (fun x hx => (hex x hx).elim) (Nat.lt_of_lt_of_le (by decide) hRf) (Nat.le_trans (Nat.le_of_ble_eq_true rfl) hRl) (by omega) (by omega) hlocks (fun t9 ha9 hz9 hk9 => ⟨S19, trivial, ⟨h, b_grow hw hz9 hk9⟩, b_growF hS hz9 hk9⟩) hS.2.2 (by omega) (by omega)
    · have h := h.2 hc
      exact hB30 _ _ _ _ _ _ _ _ h hw hS (lv_sub hl [] rfl) hcu hsu
def wb_X5_sendByClock_20 (post : bS → Prop) (mc ms : Nat) (S : bS) : Prop := post S
def wp_X5_sendByClock (post : bS → Prop) (MC MS : Nat) (this : Nat) (p1 : Nat) (p2 : Nat) (S : bS) : Prop := ((some p1) = (some p2) → wb_X5_sendByClock_20 post MC MS S) ∧ (¬ ((some p1) = (some p2)) → gK S this = 7 ∧ (wp_X5_canTakeLetterAt (fun r2 S3 => (r2 = (0 : Int32) → wb_X5_sendByClock_20 post MC MS S3) ∧ (¬ (r2 = (0 : Int32)) → gK S3 this = 7 ∧ (∃ k7 n8, k7 ≤ MC ∧ n8 ≤ MS ∧ (wp_X5_dispatch (fun S6 => wb_X5_sendByClock_20 post (MC - k7) (MS - n8) S6) k7 n8 this p1 p2 (1 : Int32) S3)))) this p1 S))
set_option maxHeartbeats 4000000 in
set_option maxRecDepth 100000 in
theorem m_X5_sendByClock {l : Launch} {D : va_G} {y : Nat → ClassId} {z : Nat} {A : Nat → Prop} {S : bS} {post : bS → Prop} {MC MS : Nat} {this : Nat} {p1 : Nat} {p2 : Nat} (h : wp_X5_sendByClock post MC MS this p1 p2 S) : Met l yX5_sendByClock wsX5_sendByClock ({ frames := 9, cells := MC, slots := MS, locals := 239 } : Room) (va_Pc ([Value.ref this, Value.ref p1, Value.ref p2] : List Value) (bP D y z S A)) (va_Qv post (fun S' t => wd D y z S' A t.heap) A) MC MS A := by
  refine Met.ofW (cc := cX5_sendByClock) (maxL := 3) (ret := none) (by decide) rfl ?_
  intro p e s m args below meth c s₁ B hml hv
  obtain ⟨rfl, hB⟩ := hv
  have hx := B.exec
  have hb := B.bytes
  have hr := B.returns
  have hts := atoms_spec (ws := wsX5_sendByClock) B.pre
  have hown : s.vm.findClass RX5 = some m.cls := findClass_of_methodNamed B.named
  have hlocks := B.notSynchronized
  have hw : wd D y z S A s.heap := hB.1
  have hK : va_K D bCl (bT y) s := hB.2.1
  have hNw := hB.2.2.1
  have hAn : ∀ q : Nat, s.heap.size ≤ q → A q := hB.2.2.2.1
  have hAz : ¬ A z := hB.2.2.2.2.1
  have hO := hB.2.2.2.2.2.1
  have hS : va_S A s.heap s.heap [] := va_S.rf
  have hl := lv_entry ([Value.ref this, Value.ref p1, Value.ref p2] : List Value) (n := 3) (Nat.le_of_ble_eq_true rfl)
  rw [lg_entry_eq]
  generalize (lg_sl ([Value.ref this, Value.ref p1, Value.ref p2] : List Value) ++ List.replicate (3 - (lg_sl ([Value.ref this, Value.ref p1, Value.ref p2] : List Value)).length) Slot.unset).toArray = ls at hl ⊢
  have hl : lv_has ls 3 [(0, .ref this), (1, .ref p1), (2, .ref p2)] := hl
  obtain ⟨Q, hQ⟩ : ∃ Q, Q = MQ below (va_Qv post (fun S' t => wd D y z S' A t.heap) A) (([Value.ref this, Value.ref p1, Value.ref p2] : List Value).toArray) s MC MS A := ⟨_, rfl⟩
  rw [← hQ]
  generalize hR : (headSpec wsX5_sendByClock ({ frames := 9, cells := MC, slots := MS, locals := 239 } : Room)).room = R
  have hRf : 9 ≤ R.frames := by rw [← hR]; exact Nat.le_refl _
  have hRl : 239 ≤ R.locals := by rw [← hR]; exact Nat.le_refl _
  have hRc : R.cells = MC := by rw [← hR]; rfl
  have hRs : R.slots = MS := by rw [← hR]; rfl
  have hret : ∀ (S : bS) (H : Heap) (locs : List Loc) (pc : Nat) (ls : Array Slot) (cu su : Nat) , post S → wd D y z S A H → va_S A s.heap H locs → cu ≤ MC → su ≤ MS → decode cX5_sendByClock pc = .ok (.return_, 1) → W p l e R s m (([Value.ref this, Value.ref p1, Value.ref p2] : List Value).toArray) below meth c H locs cu su Q (F0 m pc ls []) := by
    intro S H locs pc ls cu su h hw hS hcu hsu d0
    rw [hQ]; refine W.widen hcu hsu ?_; exact W.vret hx hb hr (fun t ht hW => ⟨⟨S, rfl, h, by show wd D y z S A t.heap; rw [ht]; exact hw⟩, hS.F ht⟩) hS.2.2 d0 hlocks
  have hB20 : ∀ (S : bS) (H : Heap) (locs : List Loc) (ls : Array Slot) (mc ms cu su : Nat) , wb_X5_sendByClock_20 post mc ms S → wd D y z S A H → va_S A s.heap H locs → lv_has ls 3 [] → cu + mc ≤ MC → su + ms ≤ MS → W p l e R s m (([Value.ref this, Value.ref p1, Value.ref p2] : List Value).toArray) below meth c H locs cu su Q (F0 m 20 ls []) := by
    intro S H locs ls mc ms cu su  h hw hS hl hcu hsu
    unfold wb_X5_sendByClock_20 at h
    exact hret _ _ _ _ _ _ _ h hw hS (by omega) (by omega) dX5_sendByClock_20
  unfold wp_X5_sendByClock at h
  have hcu : 0 + MC ≤ MC := by omega
  have hsu : 0 + MS ≤ MS := by omega
  refine lv_aload_n hx hb dX5_sendByClock_0 rfl (lv_at hl 1 rfl) ?_
  refine lv_aload_n hx hb dX5_sendByClock_1 rfl (lv_at hl 2 rfl) ?_
  refine lv_acmp_eq (rx := (some p1)) (ry := (some p2)) (tgt := 20) hx hb dX5_sendByClock_2 (by decide) (fun hc => ?_) (fun hc => ?_)
  · have h := h.1 hc
    exact hB20 _ _ _ _ _ _ _ _ h hw hS (lv_sub hl [] rfl) hcu hsu
  · have h := h.2 hc
    refine lv_aload_n hx hb dX5_sendByClock_5 rfl (lv_at hl 0 rfl) ?_
    refine lv_aload_n hx hb dX5_sendByClock_6 rfl (lv_at hl 1 rfl) ?_
    obtain ⟨hk1, h⟩ := h
    have h1 := h
    refine va_calli (va_runV (As := [.ref p1]) (rest := []) ⟨hx, hb, hml, hown, hts⟩ (m_X5_canTakeLetterAt (l := l) h1) (cwV 1 hts gX5_sendByClock_X5_canTakeLetterAt rfl rfl rfl (by decide +kernel) ⟨Nat.le_trans (Nat.le_of_ble_eq_true rfl) hRf, Nat.le_trans (Nat.le_of_ble_eq_true rfl) hRl⟩) (r_pV hB hw hS (ce_7 (S := S) hk1) rfl) rfl rfl hl.1 rfl (lv_room (Nat.le_of_ble_eq_true rfl)) dX5_sendByClock_7 ⟨by omega, by omega⟩) hS (fun _ _ h => h) (fun _ h => h) (fun r2 S3 t H1 locs ht _ h hw1 _ _ hS => ?_)
    subst ht
    have hw : wd D y z S3 A t.heap := hw1
    clear hw1 h1
    refine lv_if_eq (tgt := 20) hx hb dX5_sendByClock_10 (by decide) (fun hc => ?_) (fun hc => ?_)
    · have h := h.1 hc
      exact hB20 _ _ _ _ _ _ _ _ h hw hS (lv_sub hl [] rfl) hcu hsu
    · have h := h.2 hc
      refine lv_aload_n hx hb dX5_sendByClock_13 rfl (lv_at hl 0 rfl) ?_
      refine lv_aload_n hx hb dX5_sendByClock_14 rfl (lv_at hl 1 rfl) ?_
      refine lv_aload_n hx hb dX5_sendByClock_15 rfl (lv_at hl 2 rfl) ?_
      refine lv_iconst (v := (1 : Int32)) hx hb dX5_sendByClock_16 (by decide) ?_
      obtain ⟨hk4, h⟩ := h
      obtain ⟨k7, n8, hbg1, hbg2, h⟩ := h
      have h1 := h
      refine va_callv (va_runV (As := [.ref p1, .ref p2, .int (1 : Int32)]) (rest := []) ⟨hx, hb, hml, hown, hts⟩ (m_X5_dispatch (l := l) h1) (cwV 3 hts gX5_sendByClock_X5_dispatch rfl rfl rfl (by decide +kernel) ⟨Nat.le_trans (Nat.le_of_ble_eq_true rfl) hRf, Nat.le_trans (Nat.le_of_ble_eq_true rfl) hRl⟩) (r_pV hB hw hS (ce_7 (S := S3) hk4) rfl) rfl rfl hl.1 rfl (lv_room (Nat.le_of_ble_eq_true rfl)) dX5_sendByClock_17 ⟨by omega, by omega⟩) hS (fun _ _ h => h) (fun _ h => h) (fun S6 t H1 locs ht _ h hw1 _ _ hS => ?_)
      subst ht
      have hw : wd D y z S6 A t.heap := hw1
      clear hw1 h1
      have hcu : (0 + k7) + (MC - k7) ≤ MC := by omega
      have hsu : (0 + n8) + (MS - n8) ≤ MS := by omega
      exact hB20 _ _ _ _ _ _ _ _ h hw hS (lv_sub hl [] rfl) hcu hsu
def wb_X5_carryOut_190 (post : bS → Prop) (mc ms : Nat) (S : bS) : Prop := post S
def wb_X5_carryOut_62 (post : bS → Prop) (mc ms : Nat) (s0 : Int32) (s1 : Int32) (s2 : Nat) (s3 : Nat) (S : bS) : Prop := gK S s3 = 4 ∧ (wp_X2_set (fun S93 => wb_X5_carryOut_190 post mc ms S93) s3 s2 s1 s0 S)
def wb_X5_carryOut_116 (post : bS → Prop) (mc ms : Nat) (v0 : Nat) (v1 : Nat) (S : bS) : Prop := gK S v1 = 3 ∧ (((gV S 3 v1 2) ≠ (2 : Int32) → wb_X5_carryOut_190 post mc ms S) ∧ ((gV S 3 v1 2) = (2 : Int32) → gK S v0 = 7 ∧ (∃ b48, gQ S 7 v0 0 = some b48 ∧ (gK S b48 = 4 ∧ (wp_X2_hasStation (fun r51 S52 => (r51 = (0 : Int32) → wb_X5_carryOut_190 post mc ms S52) ∧ (¬ (r51 = (0 : Int32)) → gK S52 v0 = 7 ∧ (∃ b54, gQ S52 7 v0 0 = some b54 ∧ (gK S52 v1 = 3 ∧ (gK S52 b54 = 4 ∧ (wp_X2_hasStation (fun r58 S59 => (r58 = (0 : Int32) → wb_X5_carryOut_190 post mc ms S59) ∧ (¬ (r58 = (0 : Int32)) → gK S59 v0 = 7 ∧ (∃ b61, gQ S59 7 v0 0 = some b61 ∧ (gK S59 b61 = 4 ∧ (∃ b64, gQ S59 4 b61 0 = some b64 ∧ (gK S59 v1 = 3 ∧ (gK S59 b64 = 1 ∧ (wp_Jx4a65c_get_915e3 (fun r68 S69 => ∃ b70, r68 = some b70 ∧ (gK S69 b70 = 5 ∧ (gK S69 v0 = 7 ∧ (∃ b74, gQ S69 7 v0 0 = some b74 ∧ (gK S69 b74 = 4 ∧ (∃ b77, gQ S69 4 b74 0 = some b77 ∧ (gK S69 v1 = 3 ∧ (gK S69 b77 = 1 ∧ (wp_Jx4a65c_get_915e3 (fun r81 S82 => ∃ b83, r81 = some b83 ∧ (gK S82 b83 = 5 ∧ (gK S82 v0 = 7 ∧ (∃ k89 n90, k89 ≤ mc ∧ n90 ≤ ms ∧ (wp_X5_sendByClock (fun S88 => wb_X5_carryOut_190 post (mc - k89) (ms - n90) S88) k89 n90 v0 b70 b83 S82))))) b77 (gV S69 3 v1 4) S69))))))))) b64 (gV S59 3 v1 3) S59)))))))) b54 (gV S52 3 v1 4) S52)))))) b48 (gV S 3 v1 3) S)))))
def wb_X5_carryOut_68 (post : bS → Prop) (mc ms : Nat) (v0 : Nat) (v1 : Nat) (S : bS) : Prop := gK S v1 = 3 ∧ (((gV S 3 v1 2) ≠ (0 : Int32) → wb_X5_carryOut_116 post mc ms v0 v1 S) ∧ ((gV S 3 v1 2) = (0 : Int32) → gK S v0 = 7 ∧ (∃ b27, gQ S 7 v0 0 = some b27 ∧ (gK S b27 = 4 ∧ (wp_X2_hasStation (fun r30 S31 => (r30 = (0 : Int32) → wb_X5_carryOut_116 post mc ms v0 v1 S31) ∧ (¬ (r30 = (0 : Int32)) → gK S31 v0 = 7 ∧ (∃ b33, gQ S31 7 v0 0 = some b33 ∧ (gK S31 b33 = 4 ∧ (∃ b36, gQ S31 4 b33 0 = some b36 ∧ (gK S31 v1 = 3 ∧ (gK S31 b36 = 1 ∧ (wp_Jx4a65c_get_915e3 (fun r40 S41 => ∃ b42, r40 = some b42 ∧ (gK S41 b42 = 5 ∧ (gK S41 v1 = 3 ∧ (wb_X5_carryOut_190 post mc ms (sV S41 5 b42 8 (gV S41 3 v1 4)))))) b36 (gV S31 3 v1 3) S31)))))))) b27 (gV S 3 v1 3) S)))))
def wp_X5_carryOut (post : bS → Prop) (MC MS : Nat) (this : Nat) (p1 : Nat) (S : bS) : Prop := gK S p1 = 3 ∧ (((gV S 3 p1 2) ≠ (1 : Int32) → wb_X5_carryOut_68 post MC MS this p1 S) ∧ ((gV S 3 p1 2) = (1 : Int32) → gK S this = 7 ∧ (∃ b3, gQ S 7 this 0 = some b3 ∧ (gK S b3 = 4 ∧ (wp_X2_hasTube (fun r6 S7 => (r6 = (0 : Int32) → wb_X5_carryOut_68 post MC MS this p1 S7) ∧ (¬ (r6 = (0 : Int32)) → gK S7 this = 7 ∧ (∃ b9, gQ S7 7 this 0 = some b9 ∧ (gK S7 b9 = 4 ∧ (∃ b12, gQ S7 4 b9 1 = some b12 ∧ (gK S7 p1 = 3 ∧ (gK S7 b12 = 1 ∧ (wp_Jx4a65c_get_915e3 (fun r16 S17 => ∃ b18, r16 = some b18 ∧ (gK S17 b18 = 6 ∧ (gK S17 this = 7 ∧ (∃ b22, gQ S17 7 this 0 = some b22 ∧ (gK S17 p1 = 3 ∧ (((gV S17 3 p1 4) ≠ (1 : Int32) → wb_X5_carryOut_62 post MC MS (0 : Int32) (gV S17 6 b18 6) b18 b22 S17) ∧ ((gV S17 3 p1 4) = (1 : Int32) → wb_X5_carryOut_62 post MC MS (1 : Int32) (gV S17 6 b18 6) b18 b22 S17))))))) b12 (gV S7 3 p1 3) S7)))))))) b3 (gV S 3 p1 3) S)))))
set_option maxHeartbeats 4000000 in
set_option maxRecDepth 100000 in
theorem m_X5_carryOut {l : Launch} {D : va_G} {y : Nat → ClassId} {z : Nat} {A : Nat → Prop} {S : bS} {post : bS → Prop} {MC MS : Nat} {this : Nat} {p1 : Nat} (h : wp_X5_carryOut post MC MS this p1 S) : Met l yX5_carryOut wsX5_carryOut ({ frames := 10, cells := MC, slots := MS, locals := 261 } : Room) (va_Pc ([Value.ref this, Value.ref p1] : List Value) (bP D y z S A)) (va_Qv post (fun S' t => wd D y z S' A t.heap) A) MC MS A := by
  refine Met.ofW (cc := cX5_carryOut) (maxL := 3) (ret := none) (by decide) rfl ?_
  intro p e s m args below meth c s₁ B hml hv
  obtain ⟨rfl, hB⟩ := hv
  have hx := B.exec
  have hb := B.bytes
  have hr := B.returns
  have hts := atoms_spec (ws := wsX5_carryOut) B.pre
  have hown : s.vm.findClass RX5 = some m.cls := findClass_of_methodNamed B.named
  have hlocks := B.notSynchronized
  have hw : wd D y z S A s.heap := hB.1
  have hK : va_K D bCl (bT y) s := hB.2.1
  have hNw := hB.2.2.1
  have hAn : ∀ q : Nat, s.heap.size ≤ q → A q := hB.2.2.2.1
  have hAz : ¬ A z := hB.2.2.2.2.1
  have hO := hB.2.2.2.2.2.1
  have hS : va_S A s.heap s.heap [] := va_S.rf
  have hiX1 : ∀ w ∈ u_ws RX1 TX1 5, w ∈ wsX5_carryOut := by decide +kernel
  have hiX2 : ∀ w ∈ u_ws RX2 TX2 2, w ∈ wsX5_carryOut := by decide +kernel
  have hiX3 : ∀ w ∈ u_ws RX3 TX3 10, w ∈ wsX5_carryOut := by decide +kernel
  have hiX4 : ∀ w ∈ u_ws RX4 TX4 11, w ∈ wsX5_carryOut := by decide +kernel
  have hiX5 : ∀ w ∈ u_ws RX5 TX5 6, w ∈ wsX5_carryOut := by decide +kernel
  have hl := lv_entry ([Value.ref this, Value.ref p1] : List Value) (n := 3) (Nat.le_of_ble_eq_true rfl)
  rw [lg_entry_eq]
  generalize (lg_sl ([Value.ref this, Value.ref p1] : List Value) ++ List.replicate (3 - (lg_sl ([Value.ref this, Value.ref p1] : List Value)).length) Slot.unset).toArray = ls at hl ⊢
  have hl : lv_has ls 3 [(0, .ref this), (1, .ref p1)] := hl
  obtain ⟨Q, hQ⟩ : ∃ Q, Q = MQ below (va_Qv post (fun S' t => wd D y z S' A t.heap) A) (([Value.ref this, Value.ref p1] : List Value).toArray) s MC MS A := ⟨_, rfl⟩
  rw [← hQ]
  generalize hR : (headSpec wsX5_carryOut ({ frames := 10, cells := MC, slots := MS, locals := 261 } : Room)).room = R
  have hRf : 10 ≤ R.frames := by rw [← hR]; exact Nat.le_refl _
  have hRl : 261 ≤ R.locals := by rw [← hR]; exact Nat.le_refl _
  have hRc : R.cells = MC := by rw [← hR]; rfl
  have hRs : R.slots = MS := by rw [← hR]; rfl
  have hret : ∀ (S : bS) (H : Heap) (locs : List Loc) (pc : Nat) (ls : Array Slot) (cu su : Nat) , post S → wd D y z S A H → va_S A s.heap H locs → cu ≤ MC → su ≤ MS → decode cX5_carryOut pc = .ok (.return_, 1) → W p l e R s m (([Value.ref this, Value.ref p1] : List Value).toArray) below meth c H locs cu su Q (F0 m pc ls []) := by
    intro S H locs pc ls cu su h hw hS hcu hsu d0
    rw [hQ]; refine W.widen hcu hsu ?_; exact W.vret hx hb hr (fun t ht hW => ⟨⟨S, rfl, h, by show wd D y z S A t.heap; rw [ht]; exact hw⟩, hS.F ht⟩) hS.2.2 d0 hlocks
  have hB190 : ∀ (S : bS) (H : Heap) (locs : List Loc) (ls : Array Slot) (mc ms cu su : Nat) , wb_X5_carryOut_190 post mc ms S → wd D y z S A H → va_S A s.heap H locs → lv_has ls 3 [] → cu + mc ≤ MC → su + ms ≤ MS → W p l e R s m (([Value.ref this, Value.ref p1] : List Value).toArray) below meth c H locs cu su Q (F0 m 190 ls []) := by
    intro S H locs ls mc ms cu su  h hw hS hl hcu hsu
    unfold wb_X5_carryOut_190 at h
    exact hret _ _ _ _ _ _ _ h hw hS (by omega) (by omega) dX5_carryOut_190
  have hB62 : ∀ (S : bS) (H : Heap) (locs : List Loc) (ls : Array Slot) (mc ms cu su : Nat) (s0 : Int32) (s1 : Int32) (s2 : Nat) (s3 : Nat), wb_X5_carryOut_62 post mc ms s0 s1 s2 s3 S → wd D y z S A H → va_S A s.heap H locs → lv_has ls 3 [] → cu + mc ≤ MC → su + ms ≤ MS → W p l e R s m (([Value.ref this, Value.ref p1] : List Value).toArray) below meth c H locs cu su Q (F0 m 62 ls [.int s0, .int s1, .ref s2, .ref s3]) := by
    intro S H locs ls mc ms cu su s0 s1 s2 s3 h hw hS hl hcu hsu
    unfold wb_X5_carryOut_62 at h
    obtain ⟨hk91, h⟩ := h
    have h1 := h
    refine va_callv (va_runVN (As := [.ref s2, .int s1, .int s0]) (rest := []) ⟨hx, hb, hml, hown, hts⟩ (m_X2_set (l := l) h1) ⟨va_cnB 3 hts gX5_carryOut_X2_set_n105 rfl rfl rfl (hNw _ bNw_53) (hts (.initialized RX2) (by decide +kernel)) ⟨by decide +kernel, by decide +kernel, by decide +kernel⟩ ⟨Nat.le_trans (Nat.le_of_ble_eq_true rfl) hRf, Nat.le_trans (Nat.le_of_ble_eq_true rfl) hRl⟩, (hts (.instanceMethod yX2_set) (by decide +kernel)), hts (.selects RX2 yX2_set yX2_set) (by decide +kernel)⟩ (r_pV hB hw hS (ce_4 (S := S) hk91) rfl) rfl rfl hl.1 rfl (lv_room (Nat.le_of_ble_eq_true rfl)) dX5_carryOut_62 ⟨by omega, by omega⟩) hS (fun _ _ h => h) (fun _ h => h) (fun S93 t H1 locs ht _ h hw1 _ _ hS => ?_)
    subst ht
    have hw : wd D y z S93 A t.heap := hw1
    clear hw1 h1
    refine lv_goto (tgt := 190) hx hb dX5_carryOut_65 (by decide) ?_
    exact hB190 _ _ _ _ _ _ _ _ h hw hS (lv_sub hl [] rfl) hcu hsu
  have hB116 : ∀ (S : bS) (H : Heap) (locs : List Loc) (ls : Array Slot) (mc ms cu su : Nat) (v0 : Nat) (v1 : Nat), wb_X5_carryOut_116 post mc ms v0 v1 S → wd D y z S A H → va_S A s.heap H locs → lv_has ls 3 [(0, .ref v0), (1, .ref v1)] → cu + mc ≤ MC → su + ms ≤ MS → W p l e R s m (([Value.ref this, Value.ref p1] : List Value).toArray) below meth c H locs cu su Q (F0 m 116 ls []) := by
    intro S H locs ls mc ms cu su v0 v1 h hw hS hl hcu hsu
    unfold wb_X5_carryOut_116 at h
    refine lv_aload_n hx hb dX5_carryOut_116 rfl (lv_at hl 1 rfl) ?_
    obtain ⟨hk46, h⟩ := h
    refine r_getN (ci := 2) (v := .int (gV S 3 v1 2)) (C := RX1) (T := TX1) (N := 5) hx hb hts hiX1 hown hK hw (ce_3 (S := S) hk46) rfl 2 (by decide) (hNw _ (bNw_25)) (fun _ h9 => h9) rfl dX5_carryOut_117 ?_
    refine lv_iconst (v := (2 : Int32)) hx hb dX5_carryOut_120 (by decide) ?_
    refine lv_icmp_ne (tgt := 190) hx hb dX5_carryOut_121 (by decide) (fun hc => ?_) (fun hc => ?_)
    · have h := h.1 hc
      exact hB190 _ _ _ _ _ _ _ _ h hw hS (lv_sub hl [] rfl) hcu hsu
    · have h := h.2 hc
      refine lv_aload_n hx hb dX5_carryOut_124 rfl (lv_at hl 0 rfl) ?_
      obtain ⟨hk47, h⟩ := h
      obtain ⟨b48, hb49, h⟩ := h
      refine r_get (ci := 6) (v := .ref b48) (C := RX5) (T := TX5) (N := 6) hx hb hts hiX5 hown hK hw (ce_7 (S := S) hk47) rfl 0 (by decide) (hts (.fieldLink RX5 10 "TubePost" "net" "LTubePost$Net;") (by decide +kernel)) (fun _ h9 => h9) (congrArg (fun q => some (va_rf q)) hb49) dX5_carryOut_125 ?_
      refine lv_aload_n hx hb dX5_carryOut_128 rfl (lv_at hl 1 rfl) ?_
      refine r_getN (ci := 2) (v := .int (gV S 3 v1 3)) (C := RX1) (T := TX1) (N := 5) hx hb hts hiX1 hown hK hw (ce_3 (S := S) hk46) rfl 3 (by decide) (hNw _ (bNw_26)) (fun _ h9 => h9) rfl dX5_carryOut_129 ?_
      obtain ⟨hk50, h⟩ := h
      have h1 := h
      refine va_calli (va_runVN (As := [.int (gV S 3 v1 3)]) (rest := []) ⟨hx, hb, hml, hown, hts⟩ (m_X2_hasStation (l := l) h1) ⟨va_cnB 1 hts gX5_carryOut_X2_hasStation_n278 rfl rfl rfl (hNw _ bNw_59) (hts (.initialized RX2) (by decide +kernel)) ⟨by decide +kernel, by decide +kernel, by decide +kernel⟩ ⟨Nat.le_trans (Nat.le_of_ble_eq_true rfl) hRf, Nat.le_trans (Nat.le_of_ble_eq_true rfl) hRl⟩, (hts (.instanceMethod yX2_hasStation) (by decide +kernel)), hts (.selects RX2 yX2_hasStation yX2_hasStation) (by decide +kernel)⟩ (r_pV hB hw hS (ce_4 (S := S) hk50) rfl) rfl rfl hl.1 rfl (lv_room (Nat.le_of_ble_eq_true rfl)) dX5_carryOut_132 ⟨by omega, by omega⟩) hS (fun _ _ h => h) (fun _ h => h) (fun r51 S52 t H1 locs ht _ h hw1 _ _ hS => ?_)
      subst ht
      have hw : wd D y z S52 A t.heap := hw1
      clear hw1 h1
      refine lv_if_eq (tgt := 190) hx hb dX5_carryOut_135 (by decide) (fun hc => ?_) (fun hc => ?_)
      · have h := h.1 hc
        exact hB190 _ _ _ _ _ _ _ _ h hw hS (lv_sub hl [] rfl) hcu hsu
      · have h := h.2 hc
        refine lv_aload_n hx hb dX5_carryOut_138 rfl (lv_at hl 0 rfl) ?_
        obtain ⟨hk53, h⟩ := h
        obtain ⟨b54, hb55, h⟩ := h
        refine r_get (ci := 6) (v := .ref b54) (C := RX5) (T := TX5) (N := 6) hx hb hts hiX5 hown hK hw (ce_7 (S := S52) hk53) rfl 0 (by decide) (hts (.fieldLink RX5 10 "TubePost" "net" "LTubePost$Net;") (by decide +kernel)) (fun _ h9 => h9) (congrArg (fun q => some (va_rf q)) hb55) dX5_carryOut_139 ?_
        refine lv_aload_n hx hb dX5_carryOut_142 rfl (lv_at hl 1 rfl) ?_
        obtain ⟨hk56, h⟩ := h
        refine r_getN (ci := 2) (v := .int (gV S52 3 v1 4)) (C := RX1) (T := TX1) (N := 5) hx hb hts hiX1 hown hK hw (ce_3 (S := S52) hk56) rfl 4 (by decide) (hNw _ (bNw_27)) (fun _ h9 => h9) rfl dX5_carryOut_143 ?_
        obtain ⟨hk57, h⟩ := h
        have h1 := h
        refine va_calli (va_runVN (As := [.int (gV S52 3 v1 4)]) (rest := []) ⟨hx, hb, hml, hown, hts⟩ (m_X2_hasStation (l := l) h1) ⟨va_cnB 1 hts gX5_carryOut_X2_hasStation_n278 rfl rfl rfl (hNw _ bNw_59) (hts (.initialized RX2) (by decide +kernel)) ⟨by decide +kernel, by decide +kernel, by decide +kernel⟩ ⟨Nat.le_trans (Nat.le_of_ble_eq_true rfl) hRf, Nat.le_trans (Nat.le_of_ble_eq_true rfl) hRl⟩, (hts (.instanceMethod yX2_hasStation) (by decide +kernel)), hts (.selects RX2 yX2_hasStation yX2_hasStation) (by decide +kernel)⟩ (r_pV hB hw hS (ce_4 (S := S52) hk57) rfl) rfl rfl hl.1 rfl (lv_room (Nat.le_of_ble_eq_true rfl)) dX5_carryOut_146 ⟨by omega, by omega⟩) hS (fun _ _ h => h) (fun _ h => h) (fun r58 S59 t H1 locs ht _ h hw1 _ _ hS => ?_)
        subst ht
        have hw : wd D y z S59 A t.heap := hw1
        clear hw1 h1
        refine lv_if_eq (tgt := 190) hx hb dX5_carryOut_149 (by decide) (fun hc => ?_) (fun hc => ?_)
        · have h := h.1 hc
          exact hB190 _ _ _ _ _ _ _ _ h hw hS (lv_sub hl [] rfl) hcu hsu
        · have h := h.2 hc
          refine lv_aload_n hx hb dX5_carryOut_152 rfl (lv_at hl 0 rfl) ?_
          refine lv_aload_n hx hb dX5_carryOut_153 rfl (lv_at hl 0 rfl) ?_
          obtain ⟨hk60, h⟩ := h
          obtain ⟨b61, hb62, h⟩ := h
          refine r_get (ci := 6) (v := .ref b61) (C := RX5) (T := TX5) (N := 6) hx hb hts hiX5 hown hK hw (ce_7 (S := S59) hk60) rfl 0 (by decide) (hts (.fieldLink RX5 10 "TubePost" "net" "LTubePost$Net;") (by decide +kernel)) (fun _ h9 => h9) (congrArg (fun q => some (va_rf q)) hb62) dX5_carryOut_154 ?_
          obtain ⟨hk63, h⟩ := h
          obtain ⟨b64, hb65, h⟩ := h
          refine r_getN (ci := 3) (v := .ref b64) (C := RX2) (T := TX2) (N := 2) hx hb hts hiX2 hown hK hw (ce_4 (S := S59) hk63) rfl 0 (by decide) (hNw _ (bNw_0)) (fun _ h9 => h9) (congrArg (fun q => some (va_rf q)) hb65) dX5_carryOut_157 ?_
          refine lv_aload_n hx hb dX5_carryOut_160 rfl (lv_at hl 1 rfl) ?_
          obtain ⟨hk66, h⟩ := h
          refine r_getN (ci := 2) (v := .int (gV S59 3 v1 3)) (C := RX1) (T := TX1) (N := 5) hx hb hts hiX1 hown hK hw (ce_3 (S := S59) hk66) rfl 3 (by decide) (hNw _ (bNw_26)) (fun _ h9 => h9) rfl dX5_carryOut_161 ?_
          obtain ⟨hk67, h⟩ := h
          have h1 := h
          refine va_callq (va_runV (As := [.int (gV S59 3 v1 3)]) (rest := [.ref v0]) ⟨hx, hb, hml, hown, hts⟩ (m_Jx4a65c_get_915e3 (l := l) h1) (cwV 1 hts gX5_carryOut_Jx4a65c_get_915e3 rfl rfl rfl (by decide +kernel) ⟨Nat.le_trans (Nat.le_of_ble_eq_true rfl) hRf, Nat.le_trans (Nat.le_of_ble_eq_true rfl) hRl⟩) (r_pV hB hw hS (ce_1 (S := S59) hk67) rfl) rfl rfl hl.1 rfl (lv_room (Nat.le_of_ble_eq_true rfl)) dX5_carryOut_164 ⟨by omega, by omega⟩) hS (fun _ _ h => h) (fun _ h => h) (fun r68 S69 t H1 locs ht _ h hw1 _ _ hS => ?_)
          subst ht
          have hw : wd D y z S69 A t.heap := hw1
          clear hw1 h1
          obtain ⟨b70, rfl, h⟩ := h
          refine W.eq (g2 := F0 m 167 ls [.ref b70, .ref v0]) rfl ?_
          obtain ⟨hk72, h⟩ := h
          refine r_cast hx hb hown (hts (.classLink RX5 77 "TubePost$Station") (by decide +kernel)) hK hw (ce_5 hk72) rfl dX5_carryOut_167 ?_
          refine lv_aload_n hx hb dX5_carryOut_170 rfl (lv_at hl 0 rfl) ?_
          obtain ⟨hk73, h⟩ := h
          obtain ⟨b74, hb75, h⟩ := h
          refine r_get (ci := 6) (v := .ref b74) (C := RX5) (T := TX5) (N := 6) hx hb hts hiX5 hown hK hw (ce_7 (S := S69) hk73) rfl 0 (by decide) (hts (.fieldLink RX5 10 "TubePost" "net" "LTubePost$Net;") (by decide +kernel)) (fun _ h9 => h9) (congrArg (fun q => some (va_rf q)) hb75) dX5_carryOut_171 ?_
          obtain ⟨hk76, h⟩ := h
          obtain ⟨b77, hb78, h⟩ := h
          refine r_getN (ci := 3) (v := .ref b77) (C := RX2) (T := TX2) (N := 2) hx hb hts hiX2 hown hK hw (ce_4 (S := S69) hk76) rfl 0 (by decide) (hNw _ (bNw_0)) (fun _ h9 => h9) (congrArg (fun q => some (va_rf q)) hb78) dX5_carryOut_174 ?_
          refine lv_aload_n hx hb dX5_carryOut_177 rfl (lv_at hl 1 rfl) ?_
          obtain ⟨hk79, h⟩ := h
          refine r_getN (ci := 2) (v := .int (gV S69 3 v1 4)) (C := RX1) (T := TX1) (N := 5) hx hb hts hiX1 hown hK hw (ce_3 (S := S69) hk79) rfl 4 (by decide) (hNw _ (bNw_27)) (fun _ h9 => h9) rfl dX5_carryOut_178 ?_
          obtain ⟨hk80, h⟩ := h
          have h1 := h
          refine va_callq (va_runV (As := [.int (gV S69 3 v1 4)]) (rest := [.ref b70, .ref v0]) ⟨hx, hb, hml, hown, hts⟩ (m_Jx4a65c_get_915e3 (l := l) h1) (cwV 1 hts gX5_carryOut_Jx4a65c_get_915e3 rfl rfl rfl (by decide +kernel) ⟨Nat.le_trans (Nat.le_of_ble_eq_true rfl) hRf, Nat.le_trans (Nat.le_of_ble_eq_true rfl) hRl⟩) (r_pV hB hw hS (ce_1 (S := S69) hk80) rfl) rfl rfl hl.1 rfl (lv_room (Nat.le_of_ble_eq_true rfl)) dX5_carryOut_181 ⟨by omega, by omega⟩) hS (fun _ _ h => h) (fun _ h => h) (fun r81 S82 t H1 locs ht _ h hw1 _ _ hS => ?_)
          subst ht
          have hw : wd D y z S82 A t.heap := hw1
          clear hw1 h1
          obtain ⟨b83, rfl, h⟩ := h
          refine W.eq (g2 := F0 m 184 ls [.ref b83, .ref b70, .ref v0]) rfl ?_
          obtain ⟨hk85, h⟩ := h
          refine r_cast hx hb hown (hts (.classLink RX5 77 "TubePost$Station") (by decide +kernel)) hK hw (ce_5 hk85) rfl dX5_carryOut_184 ?_
          obtain ⟨hk86, h⟩ := h
          obtain ⟨k89, n90, hbg1, hbg2, h⟩ := h
          have h1 := h
          refine va_callv (va_runV (As := [.ref b70, .ref b83]) (rest := []) ⟨hx, hb, hml, hown, hts⟩ (m_X5_sendByClock (l := l) h1) (cwV 2 hts gX5_carryOut_X5_sendByClock rfl rfl rfl (by decide +kernel) ⟨Nat.le_trans (Nat.le_of_ble_eq_true rfl) hRf, Nat.le_trans (Nat.le_of_ble_eq_true rfl) hRl⟩) (r_pV hB hw hS (ce_7 (S := S82) hk86) rfl) rfl rfl hl.1 rfl (lv_room (Nat.le_of_ble_eq_true rfl)) dX5_carryOut_187 ⟨by omega, by omega⟩) hS (fun _ _ h => h) (fun _ h => h) (fun S88 t H1 locs ht _ h hw1 _ _ hS => ?_)
          subst ht
          have hw : wd D y z S88 A t.heap := hw1
          clear hw1 h1
          have hcu : (cu + k89) + (mc - k89) ≤ MC := by omega
          have hsu : (su + n90) + (ms - n90) ≤ MS := by omega
          exact hB190 _ _ _ _ _ _ _ _ h hw hS (lv_sub hl [] rfl) hcu hsu
  have hB68 : ∀ (S : bS) (H : Heap) (locs : List Loc) (ls : Array Slot) (mc ms cu su : Nat) (v0 : Nat) (v1 : Nat), wb_X5_carryOut_68 post mc ms v0 v1 S → wd D y z S A H → va_S A s.heap H locs → lv_has ls 3 [(0, .ref v0), (1, .ref v1)] → cu + mc ≤ MC → su + ms ≤ MS → W p l e R s m (([Value.ref this, Value.ref p1] : List Value).toArray) below meth c H locs cu su Q (F0 m 68 ls []) := by
    intro S H locs ls mc ms cu su v0 v1 h hw hS hl hcu hsu
    unfold wb_X5_carryOut_68 at h
    refine lv_aload_n hx hb dX5_carryOut_68 rfl (lv_at hl 1 rfl) ?_
    obtain ⟨hk25, h⟩ := h
    refine r_getN (ci := 2) (v := .int (gV S 3 v1 2)) (C := RX1) (T := TX1) (N := 5) hx hb hts hiX1 hown hK hw (ce_3 (S := S) hk25) rfl 2 (by decide) (hNw _ (bNw_25)) (fun _ h9 => h9) rfl dX5_carryOut_69 ?_
    refine lv_if_ne (tgt := 116) hx hb dX5_carryOut_72 (by decide) (fun hc => ?_) (fun hc => ?_)
    · have h := h.1 hc
      exact hB116 _ _ _ _ _ _ _ _ _ _ h hw hS (lv_sub hl [0, 1] rfl) hcu hsu
    · have h := h.2 hc
      refine lv_aload_n hx hb dX5_carryOut_75 rfl (lv_at hl 0 rfl) ?_
      obtain ⟨hk26, h⟩ := h
      obtain ⟨b27, hb28, h⟩ := h
      refine r_get (ci := 6) (v := .ref b27) (C := RX5) (T := TX5) (N := 6) hx hb hts hiX5 hown hK hw (ce_7 (S := S) hk26) rfl 0 (by decide) (hts (.fieldLink RX5 10 "TubePost" "net" "LTubePost$Net;") (by decide +kernel)) (fun _ h9 => h9) (congrArg (fun q => some (va_rf q)) hb28) dX5_carryOut_76 ?_
      refine lv_aload_n hx hb dX5_carryOut_79 rfl (lv_at hl 1 rfl) ?_
      refine r_getN (ci := 2) (v := .int (gV S 3 v1 3)) (C := RX1) (T := TX1) (N := 5) hx hb hts hiX1 hown hK hw (ce_3 (S := S) hk25) rfl 3 (by decide) (hNw _ (bNw_26)) (fun _ h9 => h9) rfl dX5_carryOut_80 ?_
      obtain ⟨hk29, h⟩ := h
      have h1 := h
      refine va_calli (va_runVN (As := [.int (gV S 3 v1 3)]) (rest := []) ⟨hx, hb, hml, hown, hts⟩ (m_X2_hasStation (l := l) h1) ⟨va_cnB 1 hts gX5_carryOut_X2_hasStation_n278 rfl rfl rfl (hNw _ bNw_59) (hts (.initialized RX2) (by decide +kernel)) ⟨by decide +kernel, by decide +kernel, by decide +kernel⟩ ⟨Nat.le_trans (Nat.le_of_ble_eq_true rfl) hRf, Nat.le_trans (Nat.le_of_ble_eq_true rfl) hRl⟩, (hts (.instanceMethod yX2_hasStation) (by decide +kernel)), hts (.selects RX2 yX2_hasStation yX2_hasStation) (by decide +kernel)⟩ (r_pV hB hw hS (ce_4 (S := S) hk29) rfl) rfl rfl hl.1 rfl (lv_room (Nat.le_of_ble_eq_true rfl)) dX5_carryOut_83 ⟨by omega, by omega⟩) hS (fun _ _ h => h) (fun _ h => h) (fun r30 S31 t H1 locs ht _ h hw1 _ _ hS => ?_)
      subst ht
      have hw : wd D y z S31 A t.heap := hw1
      clear hw1 h1
      refine lv_if_eq (tgt := 116) hx hb dX5_carryOut_86 (by decide) (fun hc => ?_) (fun hc => ?_)
      · have h := h.1 hc
        exact hB116 _ _ _ _ _ _ _ _ _ _ h hw hS (lv_sub hl [0, 1] rfl) hcu hsu
      · have h := h.2 hc
        refine lv_aload_n hx hb dX5_carryOut_89 rfl (lv_at hl 0 rfl) ?_
        obtain ⟨hk32, h⟩ := h
        obtain ⟨b33, hb34, h⟩ := h
        refine r_get (ci := 6) (v := .ref b33) (C := RX5) (T := TX5) (N := 6) hx hb hts hiX5 hown hK hw (ce_7 (S := S31) hk32) rfl 0 (by decide) (hts (.fieldLink RX5 10 "TubePost" "net" "LTubePost$Net;") (by decide +kernel)) (fun _ h9 => h9) (congrArg (fun q => some (va_rf q)) hb34) dX5_carryOut_90 ?_
        obtain ⟨hk35, h⟩ := h
        obtain ⟨b36, hb37, h⟩ := h
        refine r_getN (ci := 3) (v := .ref b36) (C := RX2) (T := TX2) (N := 2) hx hb hts hiX2 hown hK hw (ce_4 (S := S31) hk35) rfl 0 (by decide) (hNw _ (bNw_0)) (fun _ h9 => h9) (congrArg (fun q => some (va_rf q)) hb37) dX5_carryOut_93 ?_
        refine lv_aload_n hx hb dX5_carryOut_96 rfl (lv_at hl 1 rfl) ?_
        obtain ⟨hk38, h⟩ := h
        refine r_getN (ci := 2) (v := .int (gV S31 3 v1 3)) (C := RX1) (T := TX1) (N := 5) hx hb hts hiX1 hown hK hw (ce_3 (S := S31) hk38) rfl 3 (by decide) (hNw _ (bNw_26)) (fun _ h9 => h9) rfl dX5_carryOut_97 ?_
        obtain ⟨hk39, h⟩ := h
        have h1 := h
        refine va_callq (va_runV (As := [.int (gV S31 3 v1 3)]) (rest := []) ⟨hx, hb, hml, hown, hts⟩ (m_Jx4a65c_get_915e3 (l := l) h1) (cwV 1 hts gX5_carryOut_Jx4a65c_get_915e3 rfl rfl rfl (by decide +kernel) ⟨Nat.le_trans (Nat.le_of_ble_eq_true rfl) hRf, Nat.le_trans (Nat.le_of_ble_eq_true rfl) hRl⟩) (r_pV hB hw hS (ce_1 (S := S31) hk39) rfl) rfl rfl hl.1 rfl (lv_room (Nat.le_of_ble_eq_true rfl)) dX5_carryOut_100 ⟨by omega, by omega⟩) hS (fun _ _ h => h) (fun _ h => h) (fun r40 S41 t H1 locs ht _ h hw1 _ _ hS => ?_)
        subst ht
        have hw : wd D y z S41 A t.heap := hw1
        clear hw1 h1
        obtain ⟨b42, rfl, h⟩ := h
        refine W.eq (g2 := F0 m 103 ls [.ref b42]) rfl ?_
        obtain ⟨hk44, h⟩ := h
        refine r_cast hx hb hown (hts (.classLink RX5 77 "TubePost$Station") (by decide +kernel)) hK hw (ce_5 hk44) rfl dX5_carryOut_103 ?_
        refine lv_aload_n hx hb dX5_carryOut_106 rfl (lv_at hl 1 rfl) ?_
        obtain ⟨hk45, h⟩ := h
        refine r_getN (ci := 2) (v := .int (gV S41 3 v1 4)) (C := RX1) (T := TX1) (N := 5) hx hb hts hiX1 hown hK hw (ce_3 (S := S41) hk45) rfl 4 (by decide) (hNw _ (bNw_27)) (fun _ h9 => h9) rfl dX5_carryOut_107 ?_
        refine r_putIN (κ := 5) (ci := 4) (C := RX3) (T := TX3) (N := 10) (ty := .int) (x := (gV S41 3 v1 4)) hx hb hts hiX3 tyX3 tyX3_ok nmX3 hown hK hw hS (ce_5 (S := S41) hk44) rfl 8 (by decide) (hNw _ (bNw_3)) (fun _ h9 => h9) rfl (by decide +kernel) rfl rfl (Nat.le_of_ble_eq_true rfl) (pu_5_8 (S := S41) hk44) dX5_carryOut_110 (fun H locs hw hS => ?_)
        refine lv_goto (tgt := 190) hx hb dX5_carryOut_113 (by decide) ?_
        exact hB190 _ _ _ _ _ _ _ _ h hw hS (lv_sub hl [] rfl) hcu hsu
  unfold wp_X5_carryOut at h
  have hcu : 0 + MC ≤ MC := by omega
  have hsu : 0 + MS ≤ MS := by omega
  refine lv_aload_n hx hb dX5_carryOut_0 rfl (lv_at hl 1 rfl) ?_
  obtain ⟨hk1, h⟩ := h
  refine r_getN (ci := 2) (v := .int (gV S 3 p1 2)) (C := RX1) (T := TX1) (N := 5) hx hb hts hiX1 hown hK hw (ce_3 (S := S) hk1) rfl 2 (by decide) (hNw _ (bNw_25)) (fun _ h9 => h9) rfl dX5_carryOut_1 ?_
  refine lv_iconst (v := (1 : Int32)) hx hb dX5_carryOut_4 (by decide) ?_
  refine lv_icmp_ne (tgt := 68) hx hb dX5_carryOut_5 (by decide) (fun hc => ?_) (fun hc => ?_)
  · have h := h.1 hc
    exact hB68 _ _ _ _ _ _ _ _ _ _ h hw hS (lv_sub hl [0, 1] rfl) hcu hsu
  · have h := h.2 hc
    refine lv_aload_n hx hb dX5_carryOut_8 rfl (lv_at hl 0 rfl) ?_
    obtain ⟨hk2, h⟩ := h
    obtain ⟨b3, hb4, h⟩ := h
    refine r_get (ci := 6) (v := .ref b3) (C := RX5) (T := TX5) (N := 6) hx hb hts hiX5 hown hK hw (ce_7 (S := S) hk2) rfl 0 (by decide) (hts (.fieldLink RX5 10 "TubePost" "net" "LTubePost$Net;") (by decide +kernel)) (fun _ h9 => h9) (congrArg (fun q => some (va_rf q)) hb4) dX5_carryOut_9 ?_
    refine lv_aload_n hx hb dX5_carryOut_12 rfl (lv_at hl 1 rfl) ?_
    refine r_getN (ci := 2) (v := .int (gV S 3 p1 3)) (C := RX1) (T := TX1) (N := 5) hx hb hts hiX1 hown hK hw (ce_3 (S := S) hk1) rfl 3 (by decide) (hNw _ (bNw_26)) (fun _ h9 => h9) rfl dX5_carryOut_13 ?_
    obtain ⟨hk5, h⟩ := h
    have h1 := h
    refine va_calli (va_runVN (As := [.int (gV S 3 p1 3)]) (rest := []) ⟨hx, hb, hml, hown, hts⟩ (m_X2_hasTube (l := l) h1) ⟨va_cnB 1 hts gX5_carryOut_X2_hasTube_n283 rfl rfl rfl (hNw _ bNw_60) (hts (.initialized RX2) (by decide +kernel)) ⟨by decide +kernel, by decide +kernel, by decide +kernel⟩ ⟨Nat.le_trans (Nat.le_of_ble_eq_true rfl) hRf, Nat.le_trans (Nat.le_of_ble_eq_true rfl) hRl⟩, (hts (.instanceMethod yX2_hasTube) (by decide +kernel)), hts (.selects RX2 yX2_hasTube yX2_hasTube) (by decide +kernel)⟩ (r_pV hB hw hS (ce_4 (S := S) hk5) rfl) rfl rfl hl.1 rfl (lv_room (Nat.le_of_ble_eq_true rfl)) dX5_carryOut_16 ⟨by omega, by omega⟩) hS (fun _ _ h => h) (fun _ h => h) (fun r6 S7 t H1 locs ht _ h hw1 _ _ hS => ?_)
    subst ht
    have hw : wd D y z S7 A t.heap := hw1
    clear hw1 h1
    refine lv_if_eq (tgt := 68) hx hb dX5_carryOut_19 (by decide) (fun hc => ?_) (fun hc => ?_)
    · have h := h.1 hc
      exact hB68 _ _ _ _ _ _ _ _ _ _ h hw hS (lv_sub hl [0, 1] rfl) hcu hsu
    · have h := h.2 hc
      refine lv_aload_n hx hb dX5_carryOut_22 rfl (lv_at hl 0 rfl) ?_
      obtain ⟨hk8, h⟩ := h
      obtain ⟨b9, hb10, h⟩ := h
      refine r_get (ci := 6) (v := .ref b9) (C := RX5) (T := TX5) (N := 6) hx hb hts hiX5 hown hK hw (ce_7 (S := S7) hk8) rfl 0 (by decide) (hts (.fieldLink RX5 10 "TubePost" "net" "LTubePost$Net;") (by decide +kernel)) (fun _ h9 => h9) (congrArg (fun q => some (va_rf q)) hb10) dX5_carryOut_23 ?_
      obtain ⟨hk11, h⟩ := h
      obtain ⟨b12, hb13, h⟩ := h
      refine r_getN (ci := 3) (v := .ref b12) (C := RX2) (T := TX2) (N := 2) hx hb hts hiX2 hown hK hw (ce_4 (S := S7) hk11) rfl 1 (by decide) (hNw _ (bNw_1)) (fun _ h9 => h9) (congrArg (fun q => some (va_rf q)) hb13) dX5_carryOut_26 ?_
      refine lv_aload_n hx hb dX5_carryOut_29 rfl (lv_at hl 1 rfl) ?_
      obtain ⟨hk14, h⟩ := h
      refine r_getN (ci := 2) (v := .int (gV S7 3 p1 3)) (C := RX1) (T := TX1) (N := 5) hx hb hts hiX1 hown hK hw (ce_3 (S := S7) hk14) rfl 3 (by decide) (hNw _ (bNw_26)) (fun _ h9 => h9) rfl dX5_carryOut_30 ?_
      obtain ⟨hk15, h⟩ := h
      have h1 := h
      refine va_callq (va_runV (As := [.int (gV S7 3 p1 3)]) (rest := []) ⟨hx, hb, hml, hown, hts⟩ (m_Jx4a65c_get_915e3 (l := l) h1) (cwV 1 hts gX5_carryOut_Jx4a65c_get_915e3 rfl rfl rfl (by decide +kernel) ⟨Nat.le_trans (Nat.le_of_ble_eq_true rfl) hRf, Nat.le_trans (Nat.le_of_ble_eq_true rfl) hRl⟩) (r_pV hB hw hS (ce_1 (S := S7) hk15) rfl) rfl rfl hl.1 rfl (lv_room (Nat.le_of_ble_eq_true rfl)) dX5_carryOut_33 ⟨by omega, by omega⟩) hS (fun _ _ h => h) (fun _ h => h) (fun r16 S17 t H1 locs ht _ h hw1 _ _ hS => ?_)
      subst ht
      have hw : wd D y z S17 A t.heap := hw1
      clear hw1 h1
      obtain ⟨b18, rfl, h⟩ := h
      refine W.eq (g2 := F0 m 36 ls [.ref b18]) rfl ?_
      obtain ⟨hk20, h⟩ := h
      refine r_cast hx hb hown (hts (.classLink RX5 101 "TubePost$Tube") (by decide +kernel)) hK hw (ce_6 hk20) rfl dX5_carryOut_36 ?_
      refine lv_astore_n hx hb dX5_carryOut_39 rfl hl (by decide) rfl (fun ls hl => ?_)
      have hl : lv_has ls 3 [(2, .ref b18), (0, .ref this), (1, .ref p1)] := hl
      refine lv_aload_n hx hb dX5_carryOut_40 rfl (lv_at hl 1 rfl) ?_
      obtain ⟨hk21, h⟩ := h
      obtain ⟨b22, hb23, h⟩ := h
      refine r_get (ci := 6) (v := .ref b22) (C := RX5) (T := TX5) (N := 6) hx hb hts hiX5 hown hK hw (ce_7 (S := S17) hk21) rfl 0 (by decide) (hts (.fieldLink RX5 10 "TubePost" "net" "LTubePost$Net;") (by decide +kernel)) (fun _ h9 => h9) (congrArg (fun q => some (va_rf q)) hb23) dX5_carryOut_41 ?_
      refine lv_aload_n hx hb dX5_carryOut_44 rfl (lv_at hl 0 rfl) ?_
      refine lv_aload_n hx hb dX5_carryOut_45 rfl (lv_at hl 0 rfl) ?_
      refine r_getN (ci := 5) (v := .int (gV S17 6 b18 6)) (C := RX4) (T := TX4) (N := 11) hx hb hts hiX4 hown hK hw (ce_6 (S := S17) hk20) rfl 6 (by decide) (hNw _ (bNw_4)) (fun _ h9 => h9) rfl dX5_carryOut_46 ?_
      refine lv_aload_n hx hb dX5_carryOut_49 rfl (lv_at hl 2 rfl) ?_
      obtain ⟨hk24, h⟩ := h
      refine r_getN (ci := 2) (v := .int (gV S17 3 p1 4)) (C := RX1) (T := TX1) (N := 5) hx hb hts hiX1 hown hK hw (ce_3 (S := S17) hk24) rfl 4 (by decide) (hNw _ (bNw_27)) (fun _ h9 => h9) rfl dX5_carryOut_50 ?_
      refine lv_iconst (v := (1 : Int32)) hx hb dX5_carryOut_53 (by decide) ?_
      refine lv_icmp_ne (tgt := 61) hx hb dX5_carryOut_54 (by decide) (fun hc => ?_) (fun hc => ?_)
      · have h := h.1 hc
        refine lv_iconst (v := (0 : Int32)) hx hb dX5_carryOut_61 (by decide) ?_
        exact hB62 _ _ _ _ _ _ _ _ _ _ _ _ h hw hS (lv_sub hl [] rfl) hcu hsu
      · have h := h.2 hc
        refine lv_iconst (v := (1 : Int32)) hx hb dX5_carryOut_57 (by decide) ?_
        refine lv_goto (tgt := 62) hx hb dX5_carryOut_58 (by decide) ?_
        exact hB62 _ _ _ _ _ _ _ _ _ _ _ _ h hw hS (lv_sub hl [] rfl) hcu hsu
def wb_X5_strikeClock_41 (post : bS → Prop) (rec2 : Nat → Nat → Nat → Int32 → bS → Prop) (mc ms : Nat) (v0 : Nat) (v1 : Int32) (S : bS) : Prop := rec2 mc ms v0 (v1 + (1 : Int32)) S
def wb_X5_strikeClock_2 (post : bS → Prop) : Nat → Nat → Nat → Nat → Int32 → bS → Prop
  | 0, _, _, _, _, _ => False
  | n + 1, mc, ms, v0, v1, S => gK S v0 = 7 ∧ (∃ b2, gQ S 7 v0 1 = some b2 ∧ (gK S b2 = 1 ∧ (wp_Jx4a65c_size_8abf5 (fun r5 S6 => (r5 ≤ v1 → post S6) ∧ (¬ (r5 ≤ v1) → gK S6 v0 = 7 ∧ (∃ b8, gQ S6 7 v0 1 = some b8 ∧ (gK S6 b8 = 1 ∧ (wp_Jx4a65c_get_915e3 (fun r11 S12 => ∃ b13, r11 = some b13 ∧ (gK S12 b13 = 3 ∧ (gK S12 v0 = 7 ∧ (wp_X1_isDueAt (fun r17 S18 => (r17 = (0 : Int32) → wb_X5_strikeClock_41 post (wb_X5_strikeClock_2 post n) mc ms v0 v1 S18) ∧ (¬ (r17 = (0 : Int32)) → gK S18 v0 = 7 ∧ (∃ k22 n23, k22 ≤ mc ∧ n23 ≤ ms ∧ (wp_X5_carryOut (fun S21 => wb_X5_strikeClock_41 post (wb_X5_strikeClock_2 post n) (mc - k22) (ms - n23) v0 v1 S21) k22 n23 v0 b13 S18)))) b13 (gV S12 7 v0 3) S12)))) b8 v1 S6))))) b2 S)))
def wp_X5_strikeClock (post : bS → Prop) (MC MS : Nat) (this : Nat) (S : bS) : Prop := ∃ n2, wb_X5_strikeClock_2 post n2 MC MS this (0 : Int32) S
set_option maxHeartbeats 4000000 in
set_option maxRecDepth 100000 in
theorem m_X5_strikeClock {l : Launch} {D : va_G} {y : Nat → ClassId} {z : Nat} {A : Nat → Prop} {S : bS} {post : bS → Prop} {MC MS : Nat} {this : Nat} (h : wp_X5_strikeClock post MC MS this S) : Met l yX5_strikeClock wsX5_strikeClock ({ frames := 11, cells := MC, slots := MS, locals := 283 } : Room) (va_Pc ([Value.ref this] : List Value) (bP D y z S A)) (va_Qv post (fun S' t => wd D y z S' A t.heap) A) MC MS A := by
  refine Met.ofW (cc := cX5_strikeClock) (maxL := 3) (ret := none) (by decide) rfl ?_
  intro p e s m args below meth c s₁ B hml hv
  obtain ⟨rfl, hB⟩ := hv
  have hx := B.exec
  have hb := B.bytes
  have hr := B.returns
  have hts := atoms_spec (ws := wsX5_strikeClock) B.pre
  have hown : s.vm.findClass RX5 = some m.cls := findClass_of_methodNamed B.named
  have hlocks := B.notSynchronized
  have hw : wd D y z S A s.heap := hB.1
  have hK : va_K D bCl (bT y) s := hB.2.1
  have hNw := hB.2.2.1
  have hAn : ∀ q : Nat, s.heap.size ≤ q → A q := hB.2.2.2.1
  have hAz : ¬ A z := hB.2.2.2.2.1
  have hO := hB.2.2.2.2.2.1
  have hS : va_S A s.heap s.heap [] := va_S.rf
  have hiX5 : ∀ w ∈ u_ws RX5 TX5 6, w ∈ wsX5_strikeClock := by decide +kernel
  have hl := lv_entry ([Value.ref this] : List Value) (n := 3) (Nat.le_of_ble_eq_true rfl)
  rw [lg_entry_eq]
  generalize (lg_sl ([Value.ref this] : List Value) ++ List.replicate (3 - (lg_sl ([Value.ref this] : List Value)).length) Slot.unset).toArray = ls at hl ⊢
  have hl : lv_has ls 3 [(0, .ref this)] := hl
  obtain ⟨Q, hQ⟩ : ∃ Q, Q = MQ below (va_Qv post (fun S' t => wd D y z S' A t.heap) A) (([Value.ref this] : List Value).toArray) s MC MS A := ⟨_, rfl⟩
  rw [← hQ]
  generalize hR : (headSpec wsX5_strikeClock ({ frames := 11, cells := MC, slots := MS, locals := 283 } : Room)).room = R
  have hRf : 11 ≤ R.frames := by rw [← hR]; exact Nat.le_refl _
  have hRl : 283 ≤ R.locals := by rw [← hR]; exact Nat.le_refl _
  have hRc : R.cells = MC := by rw [← hR]; rfl
  have hRs : R.slots = MS := by rw [← hR]; rfl
  have hret : ∀ (S : bS) (H : Heap) (locs : List Loc) (pc : Nat) (ls : Array Slot) (cu su : Nat) , post S → wd D y z S A H → va_S A s.heap H locs → cu ≤ MC → su ≤ MS → decode cX5_strikeClock pc = .ok (.return_, 1) → W p l e R s m (([Value.ref this] : List Value).toArray) below meth c H locs cu su Q (F0 m pc ls []) := by
    intro S H locs pc ls cu su h hw hS hcu hsu d0
    rw [hQ]; refine W.widen hcu hsu ?_; exact W.vret hx hb hr (fun t ht hW => ⟨⟨S, rfl, h, by show wd D y z S A t.heap; rw [ht]; exact hw⟩, hS.F ht⟩) hS.2.2 d0 hlocks
  have hB2 : ∀ (n2 : Nat) (S : bS) (H : Heap) (locs : List Loc) (ls : Array Slot) (mc ms cu su : Nat) (v0 : Nat) (v1 : Int32), wb_X5_strikeClock_2 post n2 mc ms v0 v1 S → wd D y z S A H → va_S A s.heap H locs → lv_has ls 3 [(0, .ref v0), (1, .int v1)] → cu + mc ≤ MC → su + ms ≤ MS → W p l e R s m (([Value.ref this] : List Value).toArray) below meth c H locs cu su Q (F0 m 2 ls []) := by
    intro n2
    induction n2 with
    | zero =>
      intro S H locs ls mc ms cu su v0 v1 h hw hS hl hcu hsu
      exact absurd h (by unfold wb_X5_strikeClock_2; exact id)
    | succ n2 ih2 =>
      have hB41 : ∀ (S : bS) (H : Heap) (locs : List Loc) (ls : Array Slot) (mc ms cu su : Nat) (v0 : Nat) (v1 : Int32), wb_X5_strikeClock_41 post (wb_X5_strikeClock_2 post n2) mc ms v0 v1 S → wd D y z S A H → va_S A s.heap H locs → lv_has ls 3 [(0, .ref v0), (1, .int v1)] → cu + mc ≤ MC → su + ms ≤ MS → W p l e R s m (([Value.ref this] : List Value).toArray) below meth c H locs cu su Q (F0 m 41 ls []) := by
        intro S H locs ls mc ms cu su v0 v1 h hw hS hl hcu hsu
        unfold wb_X5_strikeClock_41 at h
        refine lv_iinc (v := (v1 + (1 : Int32))) hx hb dX5_strikeClock_41 hl (k := 1) rfl rfl (by decide) rfl (fun ls hl => ?_)
        have hl : lv_has ls 3 [(1, .int (v1 + (1 : Int32))), (0, .ref v0)] := hl
        refine lv_goto (tgt := 2) hx hb dX5_strikeClock_44 (by decide) ?_
        exact ih2 _ _ _ _ _ _ _ _ _ _ h hw hS (lv_sub hl [1, 0] rfl) hcu hsu
      intro S H locs ls mc ms cu su v0 v1 h hw hS hl hcu hsu
      unfold wb_X5_strikeClock_2 at h
      refine lv_iload_n hx hb dX5_strikeClock_2 rfl (lv_at hl 1 rfl) ?_
      refine lv_aload_n hx hb dX5_strikeClock_3 rfl (lv_at hl 0 rfl) ?_
      obtain ⟨hk1, h⟩ := h
      obtain ⟨b2, hb3, h⟩ := h
      refine r_get (ci := 6) (v := .ref b2) (C := RX5) (T := TX5) (N := 6) hx hb hts hiX5 hown hK hw (ce_7 (S := S) hk1) rfl 1 (by decide) (hts (.fieldLink RX5 19 "TubePost" "entries" "Ljava/util/ArrayList;") (by decide +kernel)) (fun _ h9 => h9) (congrArg (fun q => some (va_rf q)) hb3) dX5_strikeClock_4 ?_
      obtain ⟨hk4, h⟩ := h
      have h1 := h
      refine va_calli (va_runV (As := []) (rest := [.int v1]) ⟨hx, hb, hml, hown, hts⟩ (m_Jx4a65c_size_8abf5 (l := l) h1) (cwV 0 hts gX5_strikeClock_Jx4a65c_size_8abf5 rfl rfl rfl (by decide +kernel) ⟨Nat.le_trans (Nat.le_of_ble_eq_true rfl) hRf, Nat.le_trans (Nat.le_of_ble_eq_true rfl) hRl⟩) (r_pV hB hw hS (ce_1 (S := S) hk4) rfl) rfl rfl hl.1 rfl (lv_room (Nat.le_of_ble_eq_true rfl)) dX5_strikeClock_7 ⟨by omega, by omega⟩) hS (fun _ _ h => h) (fun _ h => h) (fun r5 S6 t H1 locs ht _ h hw1 _ _ hS => ?_)
      subst ht
      have hw : wd D y z S6 A t.heap := hw1
      clear hw1 h1
      refine lv_icmp_ge (tgt := 47) hx hb dX5_strikeClock_10 (by decide) (fun hc => ?_) (fun hc => ?_)
      · have h := h.1 hc
        exact hret _ _ _ _ _ _ _ h hw hS (by omega) (by omega) dX5_strikeClock_47
      · have h := h.2 hc
        refine lv_aload_n hx hb dX5_strikeClock_13 rfl (lv_at hl 0 rfl) ?_
        obtain ⟨hk7, h⟩ := h
        obtain ⟨b8, hb9, h⟩ := h
        refine r_get (ci := 6) (v := .ref b8) (C := RX5) (T := TX5) (N := 6) hx hb hts hiX5 hown hK hw (ce_7 (S := S6) hk7) rfl 1 (by decide) (hts (.fieldLink RX5 19 "TubePost" "entries" "Ljava/util/ArrayList;") (by decide +kernel)) (fun _ h9 => h9) (congrArg (fun q => some (va_rf q)) hb9) dX5_strikeClock_14 ?_
        refine lv_iload_n hx hb dX5_strikeClock_17 rfl (lv_at hl 1 rfl) ?_
        obtain ⟨hk10, h⟩ := h
        have h1 := h
        refine va_callq (va_runV (As := [.int v1]) (rest := []) ⟨hx, hb, hml, hown, hts⟩ (m_Jx4a65c_get_915e3 (l := l) h1) (cwV 1 hts gX5_strikeClock_Jx4a65c_get_915e3 rfl rfl rfl (by decide +kernel) ⟨Nat.le_trans (Nat.le_of_ble_eq_true rfl) hRf, Nat.le_trans (Nat.le_of_ble_eq_true rfl) hRl⟩) (r_pV hB hw hS (ce_1 (S := S6) hk10) rfl) rfl rfl hl.1 rfl (lv_room (Nat.le_of_ble_eq_true rfl)) dX5_strikeClock_18 ⟨by omega, by omega⟩) hS (fun _ _ h => h) (fun _ h => h) (fun r11 S12 t H1 locs ht _ h hw1 _ _ hS => ?_)
        subst ht
        have hw : wd D y z S12 A t.heap := hw1
        clear hw1 h1
        obtain ⟨b13, rfl, h⟩ := h
        refine W.eq (g2 := F0 m 21 ls [.ref b13]) rfl ?_
        obtain ⟨hk15, h⟩ := h
        refine r_cast hx hb hown (hts (.classLink RX5 118 "TubePost$Entry") (by decide +kernel)) hK hw (ce_3 hk15) rfl dX5_strikeClock_21 ?_
        refine lv_astore_n hx hb dX5_strikeClock_24 rfl hl (by decide) rfl (fun ls hl => ?_)
        have hl : lv_has ls 3 [(2, .ref b13), (0, .ref v0), (1, .int v1)] := hl
        refine lv_aload_n hx hb dX5_strikeClock_25 rfl (lv_at hl 0 rfl) ?_
        refine lv_aload_n hx hb dX5_strikeClock_26 rfl (lv_at hl 1 rfl) ?_
        obtain ⟨hk16, h⟩ := h
        refine r_get (ci := 6) (v := .int (gV S12 7 v0 3)) (C := RX5) (T := TX5) (N := 6) hx hb hts hiX5 hown hK hw (ce_7 (S := S12) hk16) rfl 3 (by decide) (hts (.fieldLink RX5 26 "TubePost" "tick" "I") (by decide +kernel)) (fun _ h9 => h9) rfl dX5_strikeClock_27 ?_
        have h1 := h
        refine va_calli (va_runVN (As := [.int (gV S12 7 v0 3)]) (rest := []) ⟨hx, hb, hml, hown, hts⟩ (m_X1_isDueAt (l := l) h1) ⟨va_cnB 1 hts gX5_strikeClock_X1_isDueAt_n290 rfl rfl rfl (hNw _ bNw_61) (hts (.initialized RX1) (by decide +kernel)) ⟨by decide +kernel, by decide +kernel, by decide +kernel⟩ ⟨Nat.le_trans (Nat.le_of_ble_eq_true rfl) hRf, Nat.le_trans (Nat.le_of_ble_eq_true rfl) hRl⟩, (hts (.instanceMethod yX1_isDueAt) (by decide +kernel)), hts (.selects RX1 yX1_isDueAt yX1_isDueAt) (by decide +kernel)⟩ (r_pV hB hw hS (ce_3 (S := S12) hk15) rfl) rfl rfl hl.1 rfl (lv_room (Nat.le_of_ble_eq_true rfl)) dX5_strikeClock_30 ⟨by omega, by omega⟩) hS (fun _ _ h => h) (fun _ h => h) (fun r17 S18 t H1 locs ht _ h hw1 _ _ hS => ?_)
        subst ht
        have hw : wd D y z S18 A t.heap := hw1
        clear hw1 h1
        refine lv_if_eq (tgt := 41) hx hb dX5_strikeClock_33 (by decide) (fun hc => ?_) (fun hc => ?_)
        · have h := h.1 hc
          exact hB41 _ _ _ _ _ _ _ _ _ _ h hw hS (lv_sub hl [1, 2] rfl) hcu hsu
        · have h := h.2 hc
          refine lv_aload_n hx hb dX5_strikeClock_36 rfl (lv_at hl 1 rfl) ?_
          refine lv_aload_n hx hb dX5_strikeClock_37 rfl (lv_at hl 0 rfl) ?_
          obtain ⟨hk19, h⟩ := h
          obtain ⟨k22, n23, hbg1, hbg2, h⟩ := h
          have h1 := h
          refine va_callv (va_runV (As := [.ref b13]) (rest := []) ⟨hx, hb, hml, hown, hts⟩ (m_X5_carryOut (l := l) h1) (cwV 1 hts gX5_strikeClock_X5_carryOut rfl rfl rfl (by decide +kernel) ⟨Nat.le_trans (Nat.le_of_ble_eq_true rfl) hRf, Nat.le_trans (Nat.le_of_ble_eq_true rfl) hRl⟩) (r_pV hB hw hS (ce_7 (S := S18) hk19) rfl) rfl rfl hl.1 rfl (lv_room (Nat.le_of_ble_eq_true rfl)) dX5_strikeClock_38 ⟨by omega, by omega⟩) hS (fun _ _ h => h) (fun _ h => h) (fun S21 t H1 locs ht _ h hw1 _ _ hS => ?_)
          subst ht
          have hw : wd D y z S21 A t.heap := hw1
          clear hw1 h1
          have hcu : (cu + k22) + (mc - k22) ≤ MC := by omega
          have hsu : (su + n23) + (ms - n23) ≤ MS := by omega
          exact hB41 _ _ _ _ _ _ _ _ _ _ h hw hS (lv_sub hl [1, 2] rfl) hcu hsu
  unfold wp_X5_strikeClock at h
  have hcu : 0 + MC ≤ MC := by omega
  have hsu : 0 + MS ≤ MS := by omega
  refine lv_iconst (v := (0 : Int32)) hx hb dX5_strikeClock_0 (by decide) ?_
  refine lv_istore_n hx hb dX5_strikeClock_1 rfl hl (by decide) rfl (fun ls hl => ?_)
  have hl : lv_has ls 3 [(1, .int (0 : Int32)), (0, .ref this)] := hl
  obtain ⟨n2, h⟩ := h
  exact hB2 n2 _ _ _ _ _ _ _ _ _ _ h hw hS (lv_sub hl [1, 0] rfl) hcu hsu
def wp_X5_deliver (post : bS → Prop) (this : Nat) (p1 : Nat) (S : bS) : Prop := gK S p1 = 2 ∧ (∃ b2, gQ (sV S 2 p1 4 (3 : Int32)) 2 p1 1 = some b2 ∧ (gK (sV S 2 p1 4 (3 : Int32)) b2 = 5 ∧ (gK (sV (sV S 2 p1 4 (3 : Int32)) 2 p1 5 (gV (sV S 2 p1 4 (3 : Int32)) 5 b2 0)) this = 7 ∧ (∃ b6, gQ (sV (sV (sV S 2 p1 4 (3 : Int32)) 2 p1 5 (gV (sV S 2 p1 4 (3 : Int32)) 5 b2 0)) 2 p1 6 (gV (sV (sV S 2 p1 4 (3 : Int32)) 2 p1 5 (gV (sV S 2 p1 4 (3 : Int32)) 5 b2 0)) 7 this 3)) 2 p1 1 = some b6 ∧ (gK (sV (sV (sV S 2 p1 4 (3 : Int32)) 2 p1 5 (gV (sV S 2 p1 4 (3 : Int32)) 5 b2 0)) 2 p1 6 (gV (sV (sV S 2 p1 4 (3 : Int32)) 2 p1 5 (gV (sV S 2 p1 4 (3 : Int32)) 5 b2 0)) 7 this 3)) b6 = 5 ∧ (post (sV (sV (sV (sV (sV (sV S 2 p1 4 (3 : Int32)) 2 p1 5 (gV (sV S 2 p1 4 (3 : Int32)) 5 b2 0)) 2 p1 6 (gV (sV (sV S 2 p1 4 (3 : Int32)) 2 p1 5 (gV (sV S 2 p1 4 (3 : Int32)) 5 b2 0)) 7 this 3)) 5 b6 9 ((gV (sV (sV (sV S 2 p1 4 (3 : Int32)) 2 p1 5 (gV (sV S 2 p1 4 (3 : Int32)) 5 b2 0)) 2 p1 6 (gV (sV (sV S 2 p1 4 (3 : Int32)) 2 p1 5 (gV (sV S 2 p1 4 (3 : Int32)) 5 b2 0)) 7 this 3)) 5 b6 9) + (1 : Int32))) 7 this 4 ((gV (sV (sV (sV (sV S 2 p1 4 (3 : Int32)) 2 p1 5 (gV (sV S 2 p1 4 (3 : Int32)) 5 b2 0)) 2 p1 6 (gV (sV (sV S 2 p1 4 (3 : Int32)) 2 p1 5 (gV (sV S 2 p1 4 (3 : Int32)) 5 b2 0)) 7 this 3)) 5 b6 9 ((gV (sV (sV (sV S 2 p1 4 (3 : Int32)) 2 p1 5 (gV (sV S 2 p1 4 (3 : Int32)) 5 b2 0)) 2 p1 6 (gV (sV (sV S 2 p1 4 (3 : Int32)) 2 p1 5 (gV (sV S 2 p1 4 (3 : Int32)) 5 b2 0)) 7 this 3)) 5 b6 9) + (1 : Int32))) 7 this 4) + (1 : Int32))) 7 this 5 ((gV (sV (sV (sV (sV (sV S 2 p1 4 (3 : Int32)) 2 p1 5 (gV (sV S 2 p1 4 (3 : Int32)) 5 b2 0)) 2 p1 6 (gV (sV (sV S 2 p1 4 (3 : Int32)) 2 p1 5 (gV (sV S 2 p1 4 (3 : Int32)) 5 b2 0)) 7 this 3)) 5 b6 9 ((gV (sV (sV (sV S 2 p1 4 (3 : Int32)) 2 p1 5 (gV (sV S 2 p1 4 (3 : Int32)) 5 b2 0)) 2 p1 6 (gV (sV (sV S 2 p1 4 (3 : Int32)) 2 p1 5 (gV (sV S 2 p1 4 (3 : Int32)) 5 b2 0)) 7 this 3)) 5 b6 9) + (1 : Int32))) 7 this 4 ((gV (sV (sV (sV (sV S 2 p1 4 (3 : Int32)) 2 p1 5 (gV (sV S 2 p1 4 (3 : Int32)) 5 b2 0)) 2 p1 6 (gV (sV (sV S 2 p1 4 (3 : Int32)) 2 p1 5 (gV (sV S 2 p1 4 (3 : Int32)) 5 b2 0)) 7 this 3)) 5 b6 9 ((gV (sV (sV (sV S 2 p1 4 (3 : Int32)) 2 p1 5 (gV (sV S 2 p1 4 (3 : Int32)) 5 b2 0)) 2 p1 6 (gV (sV (sV S 2 p1 4 (3 : Int32)) 2 p1 5 (gV (sV S 2 p1 4 (3 : Int32)) 5 b2 0)) 7 this 3)) 5 b6 9) + (1 : Int32))) 7 this 4) + (1 : Int32))) 7 this 5) + ((gV (sV (sV (sV (sV (sV S 2 p1 4 (3 : Int32)) 2 p1 5 (gV (sV S 2 p1 4 (3 : Int32)) 5 b2 0)) 2 p1 6 (gV (sV (sV S 2 p1 4 (3 : Int32)) 2 p1 5 (gV (sV S 2 p1 4 (3 : Int32)) 5 b2 0)) 7 this 3)) 5 b6 9 ((gV (sV (sV (sV S 2 p1 4 (3 : Int32)) 2 p1 5 (gV (sV S 2 p1 4 (3 : Int32)) 5 b2 0)) 2 p1 6 (gV (sV (sV S 2 p1 4 (3 : Int32)) 2 p1 5 (gV (sV S 2 p1 4 (3 : Int32)) 5 b2 0)) 7 this 3)) 5 b6 9) + (1 : Int32))) 7 this 4 ((gV (sV (sV (sV (sV S 2 p1 4 (3 : Int32)) 2 p1 5 (gV (sV S 2 p1 4 (3 : Int32)) 5 b2 0)) 2 p1 6 (gV (sV (sV S 2 p1 4 (3 : Int32)) 2 p1 5 (gV (sV S 2 p1 4 (3 : Int32)) 5 b2 0)) 7 this 3)) 5 b6 9 ((gV (sV (sV (sV S 2 p1 4 (3 : Int32)) 2 p1 5 (gV (sV S 2 p1 4 (3 : Int32)) 5 b2 0)) 2 p1 6 (gV (sV (sV S 2 p1 4 (3 : Int32)) 2 p1 5 (gV (sV S 2 p1 4 (3 : Int32)) 5 b2 0)) 7 this 3)) 5 b6 9) + (1 : Int32))) 7 this 4) + (1 : Int32))) 7 this 3) - (gV (sV (sV (sV (sV (sV S 2 p1 4 (3 : Int32)) 2 p1 5 (gV (sV S 2 p1 4 (3 : Int32)) 5 b2 0)) 2 p1 6 (gV (sV (sV S 2 p1 4 (3 : Int32)) 2 p1 5 (gV (sV S 2 p1 4 (3 : Int32)) 5 b2 0)) 7 this 3)) 5 b6 9 ((gV (sV (sV (sV S 2 p1 4 (3 : Int32)) 2 p1 5 (gV (sV S 2 p1 4 (3 : Int32)) 5 b2 0)) 2 p1 6 (gV (sV (sV S 2 p1 4 (3 : Int32)) 2 p1 5 (gV (sV S 2 p1 4 (3 : Int32)) 5 b2 0)) 7 this 3)) 5 b6 9) + (1 : Int32))) 7 this 4 ((gV (sV (sV (sV (sV S 2 p1 4 (3 : Int32)) 2 p1 5 (gV (sV S 2 p1 4 (3 : Int32)) 5 b2 0)) 2 p1 6 (gV (sV (sV S 2 p1 4 (3 : Int32)) 2 p1 5 (gV (sV S 2 p1 4 (3 : Int32)) 5 b2 0)) 7 this 3)) 5 b6 9 ((gV (sV (sV (sV S 2 p1 4 (3 : Int32)) 2 p1 5 (gV (sV S 2 p1 4 (3 : Int32)) 5 b2 0)) 2 p1 6 (gV (sV (sV S 2 p1 4 (3 : Int32)) 2 p1 5 (gV (sV S 2 p1 4 (3 : Int32)) 5 b2 0)) 7 this 3)) 5 b6 9) + (1 : Int32))) 7 this 4) + (1 : Int32))) 2 p1 3))))))))))
set_option maxHeartbeats 4000000 in
set_option maxRecDepth 100000 in
theorem m_X5_deliver {l : Launch} {D : va_G} {y : Nat → ClassId} {z : Nat} {A : Nat → Prop} {S : bS} {post : bS → Prop} {this : Nat} {p1 : Nat} (h : wp_X5_deliver post this p1 S) : Met l yX5_deliver wsX5_deliver ({ frames := 0, cells := 0, slots := 0, locals := 0 } : Room) (va_Pc ([Value.ref this, Value.ref p1] : List Value) (bP D y z S A)) (va_Qv post (fun S' t => wd D y z S' A t.heap) A) 0 0 A := by
  refine Met.ofW (cc := cX5_deliver) (maxL := 2) (ret := none) (by decide) rfl ?_
  intro p e s m args below meth c s₁ B hml hv
  obtain ⟨rfl, hB⟩ := hv
  have hx := B.exec
  have hb := B.bytes
  have hr := B.returns
  have hts := atoms_spec (ws := wsX5_deliver) B.pre
  have hown : s.vm.findClass RX5 = some m.cls := findClass_of_methodNamed B.named
  have hlocks := B.notSynchronized
  have hw : wd D y z S A s.heap := hB.1
  have hK : va_K D bCl (bT y) s := hB.2.1
  have hNw := hB.2.2.1
  have hAn : ∀ q : Nat, s.heap.size ≤ q → A q := hB.2.2.2.1
  have hAz : ¬ A z := hB.2.2.2.2.1
  have hO := hB.2.2.2.2.2.1
  have hS : va_S A s.heap s.heap [] := va_S.rf
  have hiX0 : ∀ w ∈ u_ws RX0 TX0 9, w ∈ wsX5_deliver := by decide +kernel
  have hiX3 : ∀ w ∈ u_ws RX3 TX3 10, w ∈ wsX5_deliver := by decide +kernel
  have hiX5 : ∀ w ∈ u_ws RX5 TX5 6, w ∈ wsX5_deliver := by decide +kernel
  have hl := lv_entry ([Value.ref this, Value.ref p1] : List Value) (n := 2) (Nat.le_of_ble_eq_true rfl)
  rw [lg_entry_eq]
  generalize (lg_sl ([Value.ref this, Value.ref p1] : List Value) ++ List.replicate (2 - (lg_sl ([Value.ref this, Value.ref p1] : List Value)).length) Slot.unset).toArray = ls at hl ⊢
  have hl : lv_has ls 2 [(0, .ref this), (1, .ref p1)] := hl
  obtain ⟨Q, hQ⟩ : ∃ Q, Q = MQ below (va_Qv post (fun S' t => wd D y z S' A t.heap) A) (([Value.ref this, Value.ref p1] : List Value).toArray) s 0 0 A := ⟨_, rfl⟩
  rw [← hQ]
  generalize hR : (headSpec wsX5_deliver ({ frames := 0, cells := 0, slots := 0, locals := 0 } : Room)).room = R
  have hRf : 0 ≤ R.frames := by rw [← hR]; exact Nat.le_refl _
  have hRl : 0 ≤ R.locals := by rw [← hR]; exact Nat.le_refl _
  have hret : ∀ (S : bS) (H : Heap) (locs : List Loc) (pc : Nat) (ls : Array Slot) , post S → wd D y z S A H → va_S A s.heap H locs → decode cX5_deliver pc = .ok (.return_, 1) → W p l e R s m (([Value.ref this, Value.ref p1] : List Value).toArray) below meth c H locs 0 0 Q (F0 m pc ls []) := by
    intro S H locs pc ls h hw hS d0
    rw [hQ]; exact W.vret hx hb hr (fun t ht hW => ⟨⟨S, rfl, h, by show wd D y z S A t.heap; rw [ht]; exact hw⟩, hS.F ht⟩) hS.2.2 d0 hlocks
  unfold wp_X5_deliver at h
  refine lv_aload_n hx hb dX5_deliver_0 rfl (lv_at hl 1 rfl) ?_
  refine lv_iconst (v := (3 : Int32)) hx hb dX5_deliver_1 (by decide) ?_
  obtain ⟨hk1, h⟩ := h
  refine r_putIN (κ := 2) (ci := 1) (C := RX0) (T := TX0) (N := 9) (ty := .int) (x := (3 : Int32)) hx hb hts hiX0 tyX0 tyX0_ok nmX0 hown hK hw hS (ce_2 (S := S) hk1) rfl 4 (by decide) (hNw _ (bNw_5)) (fun _ h9 => h9) rfl (by decide +kernel) rfl rfl (Nat.le_of_ble_eq_true rfl) (pu_2_4 (S := S) hk1) dX5_deliver_2 (fun H locs hw hS => ?_)
  refine lv_aload_n hx hb dX5_deliver_5 rfl (lv_at hl 1 rfl) ?_
  refine lv_aload_n hx hb dX5_deliver_6 rfl (lv_at hl 1 rfl) ?_
  obtain ⟨b2, hb3, h⟩ := h
  refine r_getN (ci := 1) (v := .ref b2) (C := RX0) (T := TX0) (N := 9) hx hb hts hiX0 hown hK hw (ce_2 (S := (sV S 2 p1 4 (3 : Int32))) hk1) rfl 1 (by decide) (hNw _ (bNw_7)) (fun _ h9 => h9) (congrArg (fun q => some (va_rf q)) hb3) dX5_deliver_7 ?_
  obtain ⟨hk4, h⟩ := h
  refine r_getN (ci := 4) (v := .int (gV (sV S 2 p1 4 (3 : Int32)) 5 b2 0)) (C := RX3) (T := TX3) (N := 10) hx hb hts hiX3 hown hK hw (ce_5 (S := (sV S 2 p1 4 (3 : Int32))) hk4) rfl 0 (by decide) (hNw _ (bNw_8)) (fun _ h9 => h9) rfl dX5_deliver_10 ?_
  refine r_putIN (κ := 2) (ci := 1) (C := RX0) (T := TX0) (N := 9) (ty := .int) (x := (gV (sV S 2 p1 4 (3 : Int32)) 5 b2 0)) hx hb hts hiX0 tyX0 tyX0_ok nmX0 hown hK hw hS (ce_2 (S := (sV S 2 p1 4 (3 : Int32))) hk1) rfl 5 (by decide) (hNw _ (bNw_6)) (fun _ h9 => h9) rfl (by decide +kernel) rfl rfl (Nat.le_of_ble_eq_true rfl) (pu_2_5 (S := (sV S 2 p1 4 (3 : Int32))) hk1) dX5_deliver_13 (fun H locs hw hS => ?_)
  refine lv_aload_n hx hb dX5_deliver_16 rfl (lv_at hl 1 rfl) ?_
  refine lv_aload_n hx hb dX5_deliver_17 rfl (lv_at hl 0 rfl) ?_
  obtain ⟨hk5, h⟩ := h
  refine r_get (ci := 6) (v := .int (gV (sV (sV S 2 p1 4 (3 : Int32)) 2 p1 5 (gV (sV S 2 p1 4 (3 : Int32)) 5 b2 0)) 7 this 3)) (C := RX5) (T := TX5) (N := 6) hx hb hts hiX5 hown hK hw (ce_7 (S := (sV (sV S 2 p1 4 (3 : Int32)) 2 p1 5 (gV (sV S 2 p1 4 (3 : Int32)) 5 b2 0))) hk5) rfl 3 (by decide) (hts (.fieldLink RX5 26 "TubePost" "tick" "I") (by decide +kernel)) (fun _ h9 => h9) rfl dX5_deliver_18 ?_
  refine r_putIN (κ := 2) (ci := 1) (C := RX0) (T := TX0) (N := 9) (ty := .int) (x := (gV (sV (sV S 2 p1 4 (3 : Int32)) 2 p1 5 (gV (sV S 2 p1 4 (3 : Int32)) 5 b2 0)) 7 this 3)) hx hb hts hiX0 tyX0 tyX0_ok nmX0 hown hK hw hS (ce_2 (S := (sV (sV S 2 p1 4 (3 : Int32)) 2 p1 5 (gV (sV S 2 p1 4 (3 : Int32)) 5 b2 0))) hk1) rfl 6 (by decide) (hNw _ (bNw_11)) (fun _ h9 => h9) rfl (by decide +kernel) rfl rfl (Nat.le_of_ble_eq_true rfl) (pu_2_6 (S := (sV (sV S 2 p1 4 (3 : Int32)) 2 p1 5 (gV (sV S 2 p1 4 (3 : Int32)) 5 b2 0))) hk1) dX5_deliver_21 (fun H locs hw hS => ?_)
  refine lv_aload_n hx hb dX5_deliver_24 rfl (lv_at hl 1 rfl) ?_
  obtain ⟨b6, hb7, h⟩ := h
  refine r_getN (ci := 1) (v := .ref b6) (C := RX0) (T := TX0) (N := 9) hx hb hts hiX0 hown hK hw (ce_2 (S := (sV (sV (sV S 2 p1 4 (3 : Int32)) 2 p1 5 (gV (sV S 2 p1 4 (3 : Int32)) 5 b2 0)) 2 p1 6 (gV (sV (sV S 2 p1 4 (3 : Int32)) 2 p1 5 (gV (sV S 2 p1 4 (3 : Int32)) 5 b2 0)) 7 this 3))) hk1) rfl 1 (by decide) (hNw _ (bNw_7)) (fun _ h9 => h9) (congrArg (fun q => some (va_rf q)) hb7) dX5_deliver_25 ?_
  refine lv_dup hx hb dX5_deliver_28 rfl ?_
  obtain ⟨hk8, h⟩ := h
  refine r_getN (ci := 4) (v := .int (gV (sV (sV (sV S 2 p1 4 (3 : Int32)) 2 p1 5 (gV (sV S 2 p1 4 (3 : Int32)) 5 b2 0)) 2 p1 6 (gV (sV (sV S 2 p1 4 (3 : Int32)) 2 p1 5 (gV (sV S 2 p1 4 (3 : Int32)) 5 b2 0)) 7 this 3)) 5 b6 9)) (C := RX3) (T := TX3) (N := 10) hx hb hts hiX3 hown hK hw (ce_5 (S := (sV (sV (sV S 2 p1 4 (3 : Int32)) 2 p1 5 (gV (sV S 2 p1 4 (3 : Int32)) 5 b2 0)) 2 p1 6 (gV (sV (sV S 2 p1 4 (3 : Int32)) 2 p1 5 (gV (sV S 2 p1 4 (3 : Int32)) 5 b2 0)) 7 this 3))) hk8) rfl 9 (by decide) (hNw _ (bNw_16)) (fun _ h9 => h9) rfl dX5_deliver_29 ?_
  refine lv_iconst (v := (1 : Int32)) hx hb dX5_deliver_32 (by decide) ?_
  refine lv_iadd hx hb dX5_deliver_33 ?_
  refine r_putIN (κ := 5) (ci := 4) (C := RX3) (T := TX3) (N := 10) (ty := .int) (x := ((gV (sV (sV (sV S 2 p1 4 (3 : Int32)) 2 p1 5 (gV (sV S 2 p1 4 (3 : Int32)) 5 b2 0)) 2 p1 6 (gV (sV (sV S 2 p1 4 (3 : Int32)) 2 p1 5 (gV (sV S 2 p1 4 (3 : Int32)) 5 b2 0)) 7 this 3)) 5 b6 9) + (1 : Int32))) hx hb hts hiX3 tyX3 tyX3_ok nmX3 hown hK hw hS (ce_5 (S := (sV (sV (sV S 2 p1 4 (3 : Int32)) 2 p1 5 (gV (sV S 2 p1 4 (3 : Int32)) 5 b2 0)) 2 p1 6 (gV (sV (sV S 2 p1 4 (3 : Int32)) 2 p1 5 (gV (sV S 2 p1 4 (3 : Int32)) 5 b2 0)) 7 this 3))) hk8) rfl 9 (by decide) (hNw _ (bNw_16)) (fun _ h9 => h9) rfl (by decide +kernel) rfl rfl (Nat.le_of_ble_eq_true rfl) (pu_5_9 (S := (sV (sV (sV S 2 p1 4 (3 : Int32)) 2 p1 5 (gV (sV S 2 p1 4 (3 : Int32)) 5 b2 0)) 2 p1 6 (gV (sV (sV S 2 p1 4 (3 : Int32)) 2 p1 5 (gV (sV S 2 p1 4 (3 : Int32)) 5 b2 0)) 7 this 3))) hk8) dX5_deliver_34 (fun H locs hw hS => ?_)
  refine lv_aload_n hx hb dX5_deliver_37 rfl (lv_at hl 0 rfl) ?_
  refine lv_dup hx hb dX5_deliver_38 rfl ?_
  refine r_get (ci := 6) (v := .int (gV (sV (sV (sV (sV S 2 p1 4 (3 : Int32)) 2 p1 5 (gV (sV S 2 p1 4 (3 : Int32)) 5 b2 0)) 2 p1 6 (gV (sV (sV S 2 p1 4 (3 : Int32)) 2 p1 5 (gV (sV S 2 p1 4 (3 : Int32)) 5 b2 0)) 7 this 3)) 5 b6 9 ((gV (sV (sV (sV S 2 p1 4 (3 : Int32)) 2 p1 5 (gV (sV S 2 p1 4 (3 : Int32)) 5 b2 0)) 2 p1 6 (gV (sV (sV S 2 p1 4 (3 : Int32)) 2 p1 5 (gV (sV S 2 p1 4 (3 : Int32)) 5 b2 0)) 7 this 3)) 5 b6 9) + (1 : Int32))) 7 this 4)) (C := RX5) (T := TX5) (N := 6) hx hb hts hiX5 hown hK hw (ce_7 (S := (sV (sV (sV (sV S 2 p1 4 (3 : Int32)) 2 p1 5 (gV (sV S 2 p1 4 (3 : Int32)) 5 b2 0)) 2 p1 6 (gV (sV (sV S 2 p1 4 (3 : Int32)) 2 p1 5 (gV (sV S 2 p1 4 (3 : Int32)) 5 b2 0)) 7 this 3)) 5 b6 9 ((gV (sV (sV (sV S 2 p1 4 (3 : Int32)) 2 p1 5 (gV (sV S 2 p1 4 (3 : Int32)) 5 b2 0)) 2 p1 6 (gV (sV (sV S 2 p1 4 (3 : Int32)) 2 p1 5 (gV (sV S 2 p1 4 (3 : Int32)) 5 b2 0)) 7 this 3)) 5 b6 9) + (1 : Int32)))) hk5) rfl 4 (by decide) (hts (.fieldLink RX5 30 "TubePost" "delivered" "I") (by decide +kernel)) (fun _ h9 => h9) rfl dX5_deliver_39 ?_
  refine lv_iconst (v := (1 : Int32)) hx hb dX5_deliver_42 (by decide) ?_
  refine lv_iadd hx hb dX5_deliver_43 ?_
  refine r_putI (κ := 7) (ci := 6) (C := RX5) (T := TX5) (N := 6) (ty := .int) (x := ((gV (sV (sV (sV (sV S 2 p1 4 (3 : Int32)) 2 p1 5 (gV (sV S 2 p1 4 (3 : Int32)) 5 b2 0)) 2 p1 6 (gV (sV (sV S 2 p1 4 (3 : Int32)) 2 p1 5 (gV (sV S 2 p1 4 (3 : Int32)) 5 b2 0)) 7 this 3)) 5 b6 9 ((gV (sV (sV (sV S 2 p1 4 (3 : Int32)) 2 p1 5 (gV (sV S 2 p1 4 (3 : Int32)) 5 b2 0)) 2 p1 6 (gV (sV (sV S 2 p1 4 (3 : Int32)) 2 p1 5 (gV (sV S 2 p1 4 (3 : Int32)) 5 b2 0)) 7 this 3)) 5 b6 9) + (1 : Int32))) 7 this 4) + (1 : Int32))) hx hb hts hiX5 tyX5 tyX5_ok nmX5 hown hK hw hS (ce_7 (S := (sV (sV (sV (sV S 2 p1 4 (3 : Int32)) 2 p1 5 (gV (sV S 2 p1 4 (3 : Int32)) 5 b2 0)) 2 p1 6 (gV (sV (sV S 2 p1 4 (3 : Int32)) 2 p1 5 (gV (sV S 2 p1 4 (3 : Int32)) 5 b2 0)) 7 this 3)) 5 b6 9 ((gV (sV (sV (sV S 2 p1 4 (3 : Int32)) 2 p1 5 (gV (sV S 2 p1 4 (3 : Int32)) 5 b2 0)) 2 p1 6 (gV (sV (sV S 2 p1 4 (3 : Int32)) 2 p1 5 (gV (sV S 2 p1 4 (3 : Int32)) 5 b2 0)) 7 this 3)) 5 b6 9) + (1 : Int32)))) hk5) rfl 4 (by decide) (hts (.fieldLink RX5 30 "TubePost" "delivered" "I") (by decide +kernel)) (fun _ h9 => h9) rfl (by decide +kernel) rfl rfl (Nat.le_of_ble_eq_true rfl) (pu_7_4 (S := (sV (sV (sV (sV S 2 p1 4 (3 : Int32)) 2 p1 5 (gV (sV S 2 p1 4 (3 : Int32)) 5 b2 0)) 2 p1 6 (gV (sV (sV S 2 p1 4 (3 : Int32)) 2 p1 5 (gV (sV S 2 p1 4 (3 : Int32)) 5 b2 0)) 7 this 3)) 5 b6 9 ((gV (sV (sV (sV S 2 p1 4 (3 : Int32)) 2 p1 5 (gV (sV S 2 p1 4 (3 : Int32)) 5 b2 0)) 2 p1 6 (gV (sV (sV S 2 p1 4 (3 : Int32)) 2 p1 5 (gV (sV S 2 p1 4 (3 : Int32)) 5 b2 0)) 7 this 3)) 5 b6 9) + (1 : Int32)))) hk5) dX5_deliver_44 (fun H locs hw hS => ?_)
  refine lv_aload_n hx hb dX5_deliver_47 rfl (lv_at hl 0 rfl) ?_
  refine lv_dup hx hb dX5_deliver_48 rfl ?_
  refine r_get (ci := 6) (v := .int (gV (sV (sV (sV (sV (sV S 2 p1 4 (3 : Int32)) 2 p1 5 (gV (sV S 2 p1 4 (3 : Int32)) 5 b2 0)) 2 p1 6 (gV (sV (sV S 2 p1 4 (3 : Int32)) 2 p1 5 (gV (sV S 2 p1 4 (3 : Int32)) 5 b2 0)) 7 this 3)) 5 b6 9 ((gV (sV (sV (sV S 2 p1 4 (3 : Int32)) 2 p1 5 (gV (sV S 2 p1 4 (3 : Int32)) 5 b2 0)) 2 p1 6 (gV (sV (sV S 2 p1 4 (3 : Int32)) 2 p1 5 (gV (sV S 2 p1 4 (3 : Int32)) 5 b2 0)) 7 this 3)) 5 b6 9) + (1 : Int32))) 7 this 4 ((gV (sV (sV (sV (sV S 2 p1 4 (3 : Int32)) 2 p1 5 (gV (sV S 2 p1 4 (3 : Int32)) 5 b2 0)) 2 p1 6 (gV (sV (sV S 2 p1 4 (3 : Int32)) 2 p1 5 (gV (sV S 2 p1 4 (3 : Int32)) 5 b2 0)) 7 this 3)) 5 b6 9 ((gV (sV (sV (sV S 2 p1 4 (3 : Int32)) 2 p1 5 (gV (sV S 2 p1 4 (3 : Int32)) 5 b2 0)) 2 p1 6 (gV (sV (sV S 2 p1 4 (3 : Int32)) 2 p1 5 (gV (sV S 2 p1 4 (3 : Int32)) 5 b2 0)) 7 this 3)) 5 b6 9) + (1 : Int32))) 7 this 4) + (1 : Int32))) 7 this 5)) (C := RX5) (T := TX5) (N := 6) hx hb hts hiX5 hown hK hw (ce_7 (S := (sV (sV (sV (sV (sV S 2 p1 4 (3 : Int32)) 2 p1 5 (gV (sV S 2 p1 4 (3 : Int32)) 5 b2 0)) 2 p1 6 (gV (sV (sV S 2 p1 4 (3 : Int32)) 2 p1 5 (gV (sV S 2 p1 4 (3 : Int32)) 5 b2 0)) 7 this 3)) 5 b6 9 ((gV (sV (sV (sV S 2 p1 4 (3 : Int32)) 2 p1 5 (gV (sV S 2 p1 4 (3 : Int32)) 5 b2 0)) 2 p1 6 (gV (sV (sV S 2 p1 4 (3 : Int32)) 2 p1 5 (gV (sV S 2 p1 4 (3 : Int32)) 5 b2 0)) 7 this 3)) 5 b6 9) + (1 : Int32))) 7 this 4 ((gV (sV (sV (sV (sV S 2 p1 4 (3 : Int32)) 2 p1 5 (gV (sV S 2 p1 4 (3 : Int32)) 5 b2 0)) 2 p1 6 (gV (sV (sV S 2 p1 4 (3 : Int32)) 2 p1 5 (gV (sV S 2 p1 4 (3 : Int32)) 5 b2 0)) 7 this 3)) 5 b6 9 ((gV (sV (sV (sV S 2 p1 4 (3 : Int32)) 2 p1 5 (gV (sV S 2 p1 4 (3 : Int32)) 5 b2 0)) 2 p1 6 (gV (sV (sV S 2 p1 4 (3 : Int32)) 2 p1 5 (gV (sV S 2 p1 4 (3 : Int32)) 5 b2 0)) 7 this 3)) 5 b6 9) + (1 : Int32))) 7 this 4) + (1 : Int32)))) hk5) rfl 5 (by decide) (hts (.fieldLink RX5 33 "TubePost" "ticksUnderWay" "I") (by decide +kernel)) (fun _ h9 => h9) rfl dX5_deliver_49 ?_
  refine lv_aload_n hx hb dX5_deliver_52 rfl (lv_at hl 0 rfl) ?_
  refine r_get (ci := 6) (v := .int (gV (sV (sV (sV (sV (sV S 2 p1 4 (3 : Int32)) 2 p1 5 (gV (sV S 2 p1 4 (3 : Int32)) 5 b2 0)) 2 p1 6 (gV (sV (sV S 2 p1 4 (3 : Int32)) 2 p1 5 (gV (sV S 2 p1 4 (3 : Int32)) 5 b2 0)) 7 this 3)) 5 b6 9 ((gV (sV (sV (sV S 2 p1 4 (3 : Int32)) 2 p1 5 (gV (sV S 2 p1 4 (3 : Int32)) 5 b2 0)) 2 p1 6 (gV (sV (sV S 2 p1 4 (3 : Int32)) 2 p1 5 (gV (sV S 2 p1 4 (3 : Int32)) 5 b2 0)) 7 this 3)) 5 b6 9) + (1 : Int32))) 7 this 4 ((gV (sV (sV (sV (sV S 2 p1 4 (3 : Int32)) 2 p1 5 (gV (sV S 2 p1 4 (3 : Int32)) 5 b2 0)) 2 p1 6 (gV (sV (sV S 2 p1 4 (3 : Int32)) 2 p1 5 (gV (sV S 2 p1 4 (3 : Int32)) 5 b2 0)) 7 this 3)) 5 b6 9 ((gV (sV (sV (sV S 2 p1 4 (3 : Int32)) 2 p1 5 (gV (sV S 2 p1 4 (3 : Int32)) 5 b2 0)) 2 p1 6 (gV (sV (sV S 2 p1 4 (3 : Int32)) 2 p1 5 (gV (sV S 2 p1 4 (3 : Int32)) 5 b2 0)) 7 this 3)) 5 b6 9) + (1 : Int32))) 7 this 4) + (1 : Int32))) 7 this 3)) (C := RX5) (T := TX5) (N := 6) hx hb hts hiX5 hown hK hw (ce_7 (S := (sV (sV (sV (sV (sV S 2 p1 4 (3 : Int32)) 2 p1 5 (gV (sV S 2 p1 4 (3 : Int32)) 5 b2 0)) 2 p1 6 (gV (sV (sV S 2 p1 4 (3 : Int32)) 2 p1 5 (gV (sV S 2 p1 4 (3 : Int32)) 5 b2 0)) 7 this 3)) 5 b6 9 ((gV (sV (sV (sV S 2 p1 4 (3 : Int32)) 2 p1 5 (gV (sV S 2 p1 4 (3 : Int32)) 5 b2 0)) 2 p1 6 (gV (sV (sV S 2 p1 4 (3 : Int32)) 2 p1 5 (gV (sV S 2 p1 4 (3 : Int32)) 5 b2 0)) 7 this 3)) 5 b6 9) + (1 : Int32))) 7 this 4 ((gV (sV (sV (sV (sV S 2 p1 4 (3 : Int32)) 2 p1 5 (gV (sV S 2 p1 4 (3 : Int32)) 5 b2 0)) 2 p1 6 (gV (sV (sV S 2 p1 4 (3 : Int32)) 2 p1 5 (gV (sV S 2 p1 4 (3 : Int32)) 5 b2 0)) 7 this 3)) 5 b6 9 ((gV (sV (sV (sV S 2 p1 4 (3 : Int32)) 2 p1 5 (gV (sV S 2 p1 4 (3 : Int32)) 5 b2 0)) 2 p1 6 (gV (sV (sV S 2 p1 4 (3 : Int32)) 2 p1 5 (gV (sV S 2 p1 4 (3 : Int32)) 5 b2 0)) 7 this 3)) 5 b6 9) + (1 : Int32))) 7 this 4) + (1 : Int32)))) hk5) rfl 3 (by decide) (hts (.fieldLink RX5 26 "TubePost" "tick" "I") (by decide +kernel)) (fun _ h9 => h9) rfl dX5_deliver_53 ?_
  refine lv_aload_n hx hb dX5_deliver_56 rfl (lv_at hl 1 rfl) ?_
  refine r_getN (ci := 1) (v := .int (gV (sV (sV (sV (sV (sV S 2 p1 4 (3 : Int32)) 2 p1 5 (gV (sV S 2 p1 4 (3 : Int32)) 5 b2 0)) 2 p1 6 (gV (sV (sV S 2 p1 4 (3 : Int32)) 2 p1 5 (gV (sV S 2 p1 4 (3 : Int32)) 5 b2 0)) 7 this 3)) 5 b6 9 ((gV (sV (sV (sV S 2 p1 4 (3 : Int32)) 2 p1 5 (gV (sV S 2 p1 4 (3 : Int32)) 5 b2 0)) 2 p1 6 (gV (sV (sV S 2 p1 4 (3 : Int32)) 2 p1 5 (gV (sV S 2 p1 4 (3 : Int32)) 5 b2 0)) 7 this 3)) 5 b6 9) + (1 : Int32))) 7 this 4 ((gV (sV (sV (sV (sV S 2 p1 4 (3 : Int32)) 2 p1 5 (gV (sV S 2 p1 4 (3 : Int32)) 5 b2 0)) 2 p1 6 (gV (sV (sV S 2 p1 4 (3 : Int32)) 2 p1 5 (gV (sV S 2 p1 4 (3 : Int32)) 5 b2 0)) 7 this 3)) 5 b6 9 ((gV (sV (sV (sV S 2 p1 4 (3 : Int32)) 2 p1 5 (gV (sV S 2 p1 4 (3 : Int32)) 5 b2 0)) 2 p1 6 (gV (sV (sV S 2 p1 4 (3 : Int32)) 2 p1 5 (gV (sV S 2 p1 4 (3 : Int32)) 5 b2 0)) 7 this 3)) 5 b6 9) + (1 : Int32))) 7 this 4) + (1 : Int32))) 2 p1 3)) (C := RX0) (T := TX0) (N := 9) hx hb hts hiX0 hown hK hw (ce_2 (S := (sV (sV (sV (sV (sV S 2 p1 4 (3 : Int32)) 2 p1 5 (gV (sV S 2 p1 4 (3 : Int32)) 5 b2 0)) 2 p1 6 (gV (sV (sV S 2 p1 4 (3 : Int32)) 2 p1 5 (gV (sV S 2 p1 4 (3 : Int32)) 5 b2 0)) 7 this 3)) 5 b6 9 ((gV (sV (sV (sV S 2 p1 4 (3 : Int32)) 2 p1 5 (gV (sV S 2 p1 4 (3 : Int32)) 5 b2 0)) 2 p1 6 (gV (sV (sV S 2 p1 4 (3 : Int32)) 2 p1 5 (gV (sV S 2 p1 4 (3 : Int32)) 5 b2 0)) 7 this 3)) 5 b6 9) + (1 : Int32))) 7 this 4 ((gV (sV (sV (sV (sV S 2 p1 4 (3 : Int32)) 2 p1 5 (gV (sV S 2 p1 4 (3 : Int32)) 5 b2 0)) 2 p1 6 (gV (sV (sV S 2 p1 4 (3 : Int32)) 2 p1 5 (gV (sV S 2 p1 4 (3 : Int32)) 5 b2 0)) 7 this 3)) 5 b6 9 ((gV (sV (sV (sV S 2 p1 4 (3 : Int32)) 2 p1 5 (gV (sV S 2 p1 4 (3 : Int32)) 5 b2 0)) 2 p1 6 (gV (sV (sV S 2 p1 4 (3 : Int32)) 2 p1 5 (gV (sV S 2 p1 4 (3 : Int32)) 5 b2 0)) 7 this 3)) 5 b6 9) + (1 : Int32))) 7 this 4) + (1 : Int32)))) hk1) rfl 3 (by decide) (hNw _ (bNw_10)) (fun _ h9 => h9) rfl dX5_deliver_57 ?_
  refine lv_isub hx hb dX5_deliver_60 ?_
  refine lv_iadd hx hb dX5_deliver_61 ?_
  refine r_putI (κ := 7) (ci := 6) (C := RX5) (T := TX5) (N := 6) (ty := .int) (x := ((gV (sV (sV (sV (sV (sV S 2 p1 4 (3 : Int32)) 2 p1 5 (gV (sV S 2 p1 4 (3 : Int32)) 5 b2 0)) 2 p1 6 (gV (sV (sV S 2 p1 4 (3 : Int32)) 2 p1 5 (gV (sV S 2 p1 4 (3 : Int32)) 5 b2 0)) 7 this 3)) 5 b6 9 ((gV (sV (sV (sV S 2 p1 4 (3 : Int32)) 2 p1 5 (gV (sV S 2 p1 4 (3 : Int32)) 5 b2 0)) 2 p1 6 (gV (sV (sV S 2 p1 4 (3 : Int32)) 2 p1 5 (gV (sV S 2 p1 4 (3 : Int32)) 5 b2 0)) 7 this 3)) 5 b6 9) + (1 : Int32))) 7 this 4 ((gV (sV (sV (sV (sV S 2 p1 4 (3 : Int32)) 2 p1 5 (gV (sV S 2 p1 4 (3 : Int32)) 5 b2 0)) 2 p1 6 (gV (sV (sV S 2 p1 4 (3 : Int32)) 2 p1 5 (gV (sV S 2 p1 4 (3 : Int32)) 5 b2 0)) 7 this 3)) 5 b6 9 ((gV (sV (sV (sV S 2 p1 4 (3 : Int32)) 2 p1 5 (gV (sV S 2 p1 4 (3 : Int32)) 5 b2 0)) 2 p1 6 (gV (sV (sV S 2 p1 4 (3 : Int32)) 2 p1 5 (gV (sV S 2 p1 4 (3 : Int32)) 5 b2 0)) 7 this 3)) 5 b6 9) + (1 : Int32))) 7 this 4) + (1 : Int32))) 7 this 5) + ((gV (sV (sV (sV (sV (sV S 2 p1 4 (3 : Int32)) 2 p1 5 (gV (sV S 2 p1 4 (3 : Int32)) 5 b2 0)) 2 p1 6 (gV (sV (sV S 2 p1 4 (3 : Int32)) 2 p1 5 (gV (sV S 2 p1 4 (3 : Int32)) 5 b2 0)) 7 this 3)) 5 b6 9 ((gV (sV (sV (sV S 2 p1 4 (3 : Int32)) 2 p1 5 (gV (sV S 2 p1 4 (3 : Int32)) 5 b2 0)) 2 p1 6 (gV (sV (sV S 2 p1 4 (3 : Int32)) 2 p1 5 (gV (sV S 2 p1 4 (3 : Int32)) 5 b2 0)) 7 this 3)) 5 b6 9) + (1 : Int32))) 7 this 4 ((gV (sV (sV (sV (sV S 2 p1 4 (3 : Int32)) 2 p1 5 (gV (sV S 2 p1 4 (3 : Int32)) 5 b2 0)) 2 p1 6 (gV (sV (sV S 2 p1 4 (3 : Int32)) 2 p1 5 (gV (sV S 2 p1 4 (3 : Int32)) 5 b2 0)) 7 this 3)) 5 b6 9 ((gV (sV (sV (sV S 2 p1 4 (3 : Int32)) 2 p1 5 (gV (sV S 2 p1 4 (3 : Int32)) 5 b2 0)) 2 p1 6 (gV (sV (sV S 2 p1 4 (3 : Int32)) 2 p1 5 (gV (sV S 2 p1 4 (3 : Int32)) 5 b2 0)) 7 this 3)) 5 b6 9) + (1 : Int32))) 7 this 4) + (1 : Int32))) 7 this 3) - (gV (sV (sV (sV (sV (sV S 2 p1 4 (3 : Int32)) 2 p1 5 (gV (sV S 2 p1 4 (3 : Int32)) 5 b2 0)) 2 p1 6 (gV (sV (sV S 2 p1 4 (3 : Int32)) 2 p1 5 (gV (sV S 2 p1 4 (3 : Int32)) 5 b2 0)) 7 this 3)) 5 b6 9 ((gV (sV (sV (sV S 2 p1 4 (3 : Int32)) 2 p1 5 (gV (sV S 2 p1 4 (3 : Int32)) 5 b2 0)) 2 p1 6 (gV (sV (sV S 2 p1 4 (3 : Int32)) 2 p1 5 (gV (sV S 2 p1 4 (3 : Int32)) 5 b2 0)) 7 this 3)) 5 b6 9) + (1 : Int32))) 7 this 4 ((gV (sV (sV (sV (sV S 2 p1 4 (3 : Int32)) 2 p1 5 (gV (sV S 2 p1 4 (3 : Int32)) 5 b2 0)) 2 p1 6 (gV (sV (sV S 2 p1 4 (3 : Int32)) 2 p1 5 (gV (sV S 2 p1 4 (3 : Int32)) 5 b2 0)) 7 this 3)) 5 b6 9 ((gV (sV (sV (sV S 2 p1 4 (3 : Int32)) 2 p1 5 (gV (sV S 2 p1 4 (3 : Int32)) 5 b2 0)) 2 p1 6 (gV (sV (sV S 2 p1 4 (3 : Int32)) 2 p1 5 (gV (sV S 2 p1 4 (3 : Int32)) 5 b2 0)) 7 this 3)) 5 b6 9) + (1 : Int32))) 7 this 4) + (1 : Int32))) 2 p1 3)))) hx hb hts hiX5 tyX5 tyX5_ok nmX5 hown hK hw hS (ce_7 (S := (sV (sV (sV (sV (sV S 2 p1 4 (3 : Int32)) 2 p1 5 (gV (sV S 2 p1 4 (3 : Int32)) 5 b2 0)) 2 p1 6 (gV (sV (sV S 2 p1 4 (3 : Int32)) 2 p1 5 (gV (sV S 2 p1 4 (3 : Int32)) 5 b2 0)) 7 this 3)) 5 b6 9 ((gV (sV (sV (sV S 2 p1 4 (3 : Int32)) 2 p1 5 (gV (sV S 2 p1 4 (3 : Int32)) 5 b2 0)) 2 p1 6 (gV (sV (sV S 2 p1 4 (3 : Int32)) 2 p1 5 (gV (sV S 2 p1 4 (3 : Int32)) 5 b2 0)) 7 this 3)) 5 b6 9) + (1 : Int32))) 7 this 4 ((gV (sV (sV (sV (sV S 2 p1 4 (3 : Int32)) 2 p1 5 (gV (sV S 2 p1 4 (3 : Int32)) 5 b2 0)) 2 p1 6 (gV (sV (sV S 2 p1 4 (3 : Int32)) 2 p1 5 (gV (sV S 2 p1 4 (3 : Int32)) 5 b2 0)) 7 this 3)) 5 b6 9 ((gV (sV (sV (sV S 2 p1 4 (3 : Int32)) 2 p1 5 (gV (sV S 2 p1 4 (3 : Int32)) 5 b2 0)) 2 p1 6 (gV (sV (sV S 2 p1 4 (3 : Int32)) 2 p1 5 (gV (sV S 2 p1 4 (3 : Int32)) 5 b2 0)) 7 this 3)) 5 b6 9) + (1 : Int32))) 7 this 4) + (1 : Int32)))) hk5) rfl 5 (by decide) (hts (.fieldLink RX5 33 "TubePost" "ticksUnderWay" "I") (by decide +kernel)) (fun _ h9 => h9) rfl (by decide +kernel) rfl rfl (Nat.le_of_ble_eq_true rfl) (pu_7_5 (S := (sV (sV (sV (sV (sV S 2 p1 4 (3 : Int32)) 2 p1 5 (gV (sV S 2 p1 4 (3 : Int32)) 5 b2 0)) 2 p1 6 (gV (sV (sV S 2 p1 4 (3 : Int32)) 2 p1 5 (gV (sV S 2 p1 4 (3 : Int32)) 5 b2 0)) 7 this 3)) 5 b6 9 ((gV (sV (sV (sV S 2 p1 4 (3 : Int32)) 2 p1 5 (gV (sV S 2 p1 4 (3 : Int32)) 5 b2 0)) 2 p1 6 (gV (sV (sV S 2 p1 4 (3 : Int32)) 2 p1 5 (gV (sV S 2 p1 4 (3 : Int32)) 5 b2 0)) 7 this 3)) 5 b6 9) + (1 : Int32))) 7 this 4 ((gV (sV (sV (sV (sV S 2 p1 4 (3 : Int32)) 2 p1 5 (gV (sV S 2 p1 4 (3 : Int32)) 5 b2 0)) 2 p1 6 (gV (sV (sV S 2 p1 4 (3 : Int32)) 2 p1 5 (gV (sV S 2 p1 4 (3 : Int32)) 5 b2 0)) 7 this 3)) 5 b6 9 ((gV (sV (sV (sV S 2 p1 4 (3 : Int32)) 2 p1 5 (gV (sV S 2 p1 4 (3 : Int32)) 5 b2 0)) 2 p1 6 (gV (sV (sV S 2 p1 4 (3 : Int32)) 2 p1 5 (gV (sV S 2 p1 4 (3 : Int32)) 5 b2 0)) 7 this 3)) 5 b6 9) + (1 : Int32))) 7 this 4) + (1 : Int32)))) hk5) dX5_deliver_62 (fun H locs hw hS => ?_)
  exact hret _ _ _ _ _ h hw hS dX5_deliver_65
def wb_X5_arriveFrom_95 (post : bS → Prop) (mc ms : Nat) (S : bS) : Prop := post S
def wb_X5_arriveFrom_80 (post : bS → Prop) (rec8 : Nat → Nat → Nat → Nat → Int32 → bS → Prop) (mc ms : Nat) (v0 : Nat) (v1 : Nat) (v2 : Int32) (S : bS) : Prop := gK S v1 = 6 ∧ (∃ b43, gQ S 6 v1 5 = some b43 ∧ (gK S b43 = 1 ∧ (wp_Jx4a65c_remove_915e3 (fun r46 S47 => ∃ b48, r46 = some b48 ∧ (rec8 mc ms v0 v1 (v2 + (-1 : Int32)) S47)) b43 (0 : Int32) S)))
def wb_X5_arriveFrom_8 (post : bS → Prop) : Nat → Nat → Nat → Nat → Nat → Int32 → bS → Prop
  | 0, _, _, _, _, _, _ => False
  | n + 1, mc, ms, v0, v1, v2, S => (v2 ≤ (0 : Int32) → wb_X5_arriveFrom_95 post mc ms S) ∧ (¬ (v2 ≤ (0 : Int32)) → gK S v0 = 7 ∧ (gK S v1 = 6 ∧ (wp_X4_isFirstAtEnd (fun r9 S10 => (r9 = (0 : Int32) → wb_X5_arriveFrom_95 post mc ms S10) ∧ (¬ (r9 = (0 : Int32)) → gK S10 v1 = 6 ∧ (∃ b12, gQ S10 6 v1 5 = some b12 ∧ (gK S10 b12 = 1 ∧ (wp_Jx4a65c_get_915e3 (fun r15 S16 => ∃ b17, r15 = some b17 ∧ (gK S16 b17 = 2 ∧ (∃ b20, gQ S16 2 b17 1 = some b20 ∧ (gK S16 v1 = 6 ∧ (∃ b23, gQ S16 6 v1 2 = some b23 ∧ (((some b20) ≠ (some b23) → ∃ b25, gQ S16 6 v1 2 = some b25 ∧ (gK S16 b25 = 5 ∧ (wp_X3_hasRoom (fun r28 S29 => (r28 = (0 : Int32) → post S29) ∧ (¬ (r28 = (0 : Int32)) → gK S29 v1 = 6 ∧ (∃ b31, gQ S29 6 v1 2 = some b31 ∧ (gK S29 v0 = 7 ∧ (gK S29 b17 = 2 ∧ (∃ k37 n38, k37 ≤ mc ∧ n38 ≤ ms ∧ (wp_X0_comeTo (fun S36 => wb_X5_arriveFrom_80 post (wb_X5_arriveFrom_8 post n) (mc - k37) (ms - n38) v0 v1 v2 S36) k37 n38 b17 b31 (gV S29 7 v0 3) S29))))))) b25 S16))) ∧ ((some b20) = (some b23) → gK S16 v0 = 7 ∧ (wp_X5_deliver (fun S41 => wb_X5_arriveFrom_80 post (wb_X5_arriveFrom_8 post n) mc ms v0 v1 v2 S41) v0 b17 S16)))))))) b12 (0 : Int32) S10))))) v1 (gV S 7 v0 3) S)))
def wp_X5_arriveFrom (post : bS → Prop) (MC MS : Nat) (this : Nat) (p1 : Nat) (S : bS) : Prop := gK S p1 = 6 ∧ (∃ b2, gQ S 6 p1 5 = some b2 ∧ (gK S b2 = 1 ∧ (wp_Jx4a65c_size_8abf5 (fun r5 S6 => ∃ n8, wb_X5_arriveFrom_8 post n8 MC MS this p1 r5 S6) b2 S)))
set_option maxHeartbeats 4000000 in
set_option maxRecDepth 100000 in
theorem m_X5_arriveFrom {l : Launch} {D : va_G} {y : Nat → ClassId} {z : Nat} {A : Nat → Prop} {S : bS} {post : bS → Prop} {MC MS : Nat} {this : Nat} {p1 : Nat} (h : wp_X5_arriveFrom post MC MS this p1 S) : Met l yX5_arriveFrom wsX5_arriveFrom ({ frames := 8, cells := MC, slots := MS, locals := 215 } : Room) (va_Pc ([Value.ref this, Value.ref p1] : List Value) (bP D y z S A)) (va_Qv post (fun S' t => wd D y z S' A t.heap) A) MC MS A := by
  refine Met.ofW (cc := cX5_arriveFrom) (maxL := 4) (ret := none) (by decide) rfl ?_
  intro p e s m args below meth c s₁ B hml hv
  obtain ⟨rfl, hB⟩ := hv
  have hx := B.exec
  have hb := B.bytes
  have hr := B.returns
  have hts := atoms_spec (ws := wsX5_arriveFrom) B.pre
  have hown : s.vm.findClass RX5 = some m.cls := findClass_of_methodNamed B.named
  have hlocks := B.notSynchronized
  have hw : wd D y z S A s.heap := hB.1
  have hK : va_K D bCl (bT y) s := hB.2.1
  have hNw := hB.2.2.1
  have hAn : ∀ q : Nat, s.heap.size ≤ q → A q := hB.2.2.2.1
  have hAz : ¬ A z := hB.2.2.2.2.1
  have hO := hB.2.2.2.2.2.1
  have hS : va_S A s.heap s.heap [] := va_S.rf
  have hiX0 : ∀ w ∈ u_ws RX0 TX0 9, w ∈ wsX5_arriveFrom := by decide +kernel
  have hiX4 : ∀ w ∈ u_ws RX4 TX4 11, w ∈ wsX5_arriveFrom := by decide +kernel
  have hiX5 : ∀ w ∈ u_ws RX5 TX5 6, w ∈ wsX5_arriveFrom := by decide +kernel
  have hl := lv_entry ([Value.ref this, Value.ref p1] : List Value) (n := 4) (Nat.le_of_ble_eq_true rfl)
  rw [lg_entry_eq]
  generalize (lg_sl ([Value.ref this, Value.ref p1] : List Value) ++ List.replicate (4 - (lg_sl ([Value.ref this, Value.ref p1] : List Value)).length) Slot.unset).toArray = ls at hl ⊢
  have hl : lv_has ls 4 [(0, .ref this), (1, .ref p1)] := hl
  obtain ⟨Q, hQ⟩ : ∃ Q, Q = MQ below (va_Qv post (fun S' t => wd D y z S' A t.heap) A) (([Value.ref this, Value.ref p1] : List Value).toArray) s MC MS A := ⟨_, rfl⟩
  rw [← hQ]
  generalize hR : (headSpec wsX5_arriveFrom ({ frames := 8, cells := MC, slots := MS, locals := 215 } : Room)).room = R
  have hRf : 8 ≤ R.frames := by rw [← hR]; exact Nat.le_refl _
  have hRl : 215 ≤ R.locals := by rw [← hR]; exact Nat.le_refl _
  have hRc : R.cells = MC := by rw [← hR]; rfl
  have hRs : R.slots = MS := by rw [← hR]; rfl
  have hret : ∀ (S : bS) (H : Heap) (locs : List Loc) (pc : Nat) (ls : Array Slot) (cu su : Nat) , post S → wd D y z S A H → va_S A s.heap H locs → cu ≤ MC → su ≤ MS → decode cX5_arriveFrom pc = .ok (.return_, 1) → W p l e R s m (([Value.ref this, Value.ref p1] : List Value).toArray) below meth c H locs cu su Q (F0 m pc ls []) := by
    intro S H locs pc ls cu su h hw hS hcu hsu d0
    rw [hQ]; refine W.widen hcu hsu ?_; exact W.vret hx hb hr (fun t ht hW => ⟨⟨S, rfl, h, by show wd D y z S A t.heap; rw [ht]; exact hw⟩, hS.F ht⟩) hS.2.2 d0 hlocks
  have hB95 : ∀ (S : bS) (H : Heap) (locs : List Loc) (ls : Array Slot) (mc ms cu su : Nat) , wb_X5_arriveFrom_95 post mc ms S → wd D y z S A H → va_S A s.heap H locs → lv_has ls 4 [] → cu + mc ≤ MC → su + ms ≤ MS → W p l e R s m (([Value.ref this, Value.ref p1] : List Value).toArray) below meth c H locs cu su Q (F0 m 95 ls []) := by
    intro S H locs ls mc ms cu su  h hw hS hl hcu hsu
    unfold wb_X5_arriveFrom_95 at h
    exact hret _ _ _ _ _ _ _ h hw hS (by omega) (by omega) dX5_arriveFrom_95
  have hB8 : ∀ (n8 : Nat) (S : bS) (H : Heap) (locs : List Loc) (ls : Array Slot) (mc ms cu su : Nat) (v0 : Nat) (v1 : Nat) (v2 : Int32), wb_X5_arriveFrom_8 post n8 mc ms v0 v1 v2 S → wd D y z S A H → va_S A s.heap H locs → lv_has ls 4 [(0, .ref v0), (1, .ref v1), (2, .int v2)] → cu + mc ≤ MC → su + ms ≤ MS → W p l e R s m (([Value.ref this, Value.ref p1] : List Value).toArray) below meth c H locs cu su Q (F0 m 8 ls []) := by
    intro n8
    induction n8 with
    | zero =>
      intro S H locs ls mc ms cu su v0 v1 v2 h hw hS hl hcu hsu
      exact absurd h (by unfold wb_X5_arriveFrom_8; exact id)
    | succ n8 ih8 =>
      have hB80 : ∀ (S : bS) (H : Heap) (locs : List Loc) (ls : Array Slot) (mc ms cu su : Nat) (v0 : Nat) (v1 : Nat) (v2 : Int32), wb_X5_arriveFrom_80 post (wb_X5_arriveFrom_8 post n8) mc ms v0 v1 v2 S → wd D y z S A H → va_S A s.heap H locs → lv_has ls 4 [(0, .ref v0), (1, .ref v1), (2, .int v2)] → cu + mc ≤ MC → su + ms ≤ MS → W p l e R s m (([Value.ref this, Value.ref p1] : List Value).toArray) below meth c H locs cu su Q (F0 m 80 ls []) := by
        intro S H locs ls mc ms cu su v0 v1 v2 h hw hS hl hcu hsu
        unfold wb_X5_arriveFrom_80 at h
        refine lv_aload_n hx hb dX5_arriveFrom_80 rfl (lv_at hl 1 rfl) ?_
        obtain ⟨hk42, h⟩ := h
        obtain ⟨b43, hb44, h⟩ := h
        refine r_getN (ci := 5) (v := .ref b43) (C := RX4) (T := TX4) (N := 11) hx hb hts hiX4 hown hK hw (ce_6 (S := S) hk42) rfl 5 (by decide) (hNw _ (bNw_22)) (fun _ h9 => h9) (congrArg (fun q => some (va_rf q)) hb44) dX5_arriveFrom_81 ?_
        refine lv_iconst (v := (0 : Int32)) hx hb dX5_arriveFrom_84 (by decide) ?_
        obtain ⟨hk45, h⟩ := h
        have h1 := h
        refine va_callq (va_runV (As := [.int (0 : Int32)]) (rest := []) ⟨hx, hb, hml, hown, hts⟩ (m_Jx4a65c_remove_915e3 (l := l) h1) (cwV 1 hts gX5_arriveFrom_Jx4a65c_remove_915e3 rfl rfl rfl (by decide +kernel) ⟨Nat.le_trans (Nat.le_of_ble_eq_true rfl) hRf, Nat.le_trans (Nat.le_of_ble_eq_true rfl) hRl⟩) (r_pV hB hw hS (ce_1 (S := S) hk45) rfl) rfl rfl hl.1 rfl (lv_room (Nat.le_of_ble_eq_true rfl)) dX5_arriveFrom_85 ⟨by omega, by omega⟩) hS (fun _ _ h => h) (fun _ h => h) (fun r46 S47 t H1 locs ht _ h hw1 _ _ hS => ?_)
        subst ht
        have hw : wd D y z S47 A t.heap := hw1
        clear hw1 h1
        obtain ⟨b48, rfl, h⟩ := h
        refine W.eq (g2 := F0 m 88 ls [.ref b48]) rfl ?_
        refine lv_pop hx hb dX5_arriveFrom_88 rfl ?_
        refine lv_iinc (v := (v2 + (-1 : Int32))) hx hb dX5_arriveFrom_89 hl (k := 2) rfl rfl (by decide) rfl (fun ls hl => ?_)
        have hl : lv_has ls 4 [(2, .int (v2 + (-1 : Int32))), (0, .ref v0), (1, .ref v1)] := hl
        refine lv_goto (tgt := 8) hx hb dX5_arriveFrom_92 (by decide) ?_
        exact ih8 _ _ _ _ _ _ _ _ _ _ _ h hw hS (lv_sub hl [1, 2, 0] rfl) hcu hsu
      intro S H locs ls mc ms cu su v0 v1 v2 h hw hS hl hcu hsu
      unfold wb_X5_arriveFrom_8 at h
      refine lv_iload_n hx hb dX5_arriveFrom_8 rfl (lv_at hl 2 rfl) ?_
      refine lv_if_le (tgt := 95) hx hb dX5_arriveFrom_9 (by decide) (fun hc => ?_) (fun hc => ?_)
      · have h := h.1 hc
        exact hB95 _ _ _ _ _ _ _ _ h hw hS (lv_sub hl [] rfl) hcu hsu
      · have h := h.2 hc
        refine lv_aload_n hx hb dX5_arriveFrom_12 rfl (lv_at hl 1 rfl) ?_
        refine lv_aload_n hx hb dX5_arriveFrom_13 rfl (lv_at hl 0 rfl) ?_
        obtain ⟨hk7, h⟩ := h
        refine r_get (ci := 6) (v := .int (gV S 7 v0 3)) (C := RX5) (T := TX5) (N := 6) hx hb hts hiX5 hown hK hw (ce_7 (S := S) hk7) rfl 3 (by decide) (hts (.fieldLink RX5 26 "TubePost" "tick" "I") (by decide +kernel)) (fun _ h9 => h9) rfl dX5_arriveFrom_14 ?_
        obtain ⟨hk8, h⟩ := h
        have h1 := h
        refine va_calli (va_runVN (As := [.int (gV S 7 v0 3)]) (rest := []) ⟨hx, hb, hml, hown, hts⟩ (m_X4_isFirstAtEnd (l := l) h1) ⟨va_cnB 1 hts gX5_arriveFrom_X4_isFirstAtEnd_n233 rfl rfl rfl (hNw _ bNw_55) (hts (.initialized RX4) (by decide +kernel)) ⟨by decide +kernel, by decide +kernel, by decide +kernel⟩ ⟨Nat.le_trans (Nat.le_of_ble_eq_true rfl) hRf, Nat.le_trans (Nat.le_of_ble_eq_true rfl) hRl⟩, (hts (.instanceMethod yX4_isFirstAtEnd) (by decide +kernel)), hts (.selects RX4 yX4_isFirstAtEnd yX4_isFirstAtEnd) (by decide +kernel)⟩ (r_pV hB hw hS (ce_6 (S := S) hk8) rfl) rfl rfl hl.1 rfl (lv_room (Nat.le_of_ble_eq_true rfl)) dX5_arriveFrom_17 ⟨by omega, by omega⟩) hS (fun _ _ h => h) (fun _ h => h) (fun r9 S10 t H1 locs ht _ h hw1 _ _ hS => ?_)
        subst ht
        have hw : wd D y z S10 A t.heap := hw1
        clear hw1 h1
        refine lv_if_eq (tgt := 95) hx hb dX5_arriveFrom_20 (by decide) (fun hc => ?_) (fun hc => ?_)
        · have h := h.1 hc
          exact hB95 _ _ _ _ _ _ _ _ h hw hS (lv_sub hl [] rfl) hcu hsu
        · have h := h.2 hc
          refine lv_aload_n hx hb dX5_arriveFrom_23 rfl (lv_at hl 1 rfl) ?_
          obtain ⟨hk11, h⟩ := h
          obtain ⟨b12, hb13, h⟩ := h
          refine r_getN (ci := 5) (v := .ref b12) (C := RX4) (T := TX4) (N := 11) hx hb hts hiX4 hown hK hw (ce_6 (S := S10) hk11) rfl 5 (by decide) (hNw _ (bNw_22)) (fun _ h9 => h9) (congrArg (fun q => some (va_rf q)) hb13) dX5_arriveFrom_24 ?_
          refine lv_iconst (v := (0 : Int32)) hx hb dX5_arriveFrom_27 (by decide) ?_
          obtain ⟨hk14, h⟩ := h
          have h1 := h
          refine va_callq (va_runV (As := [.int (0 : Int32)]) (rest := []) ⟨hx, hb, hml, hown, hts⟩ (m_Jx4a65c_get_915e3 (l := l) h1) (cwV 1 hts gX5_arriveFrom_Jx4a65c_get_915e3 rfl rfl rfl (by decide +kernel) ⟨Nat.le_trans (Nat.le_of_ble_eq_true rfl) hRf, Nat.le_trans (Nat.le_of_ble_eq_true rfl) hRl⟩) (r_pV hB hw hS (ce_1 (S := S10) hk14) rfl) rfl rfl hl.1 rfl (lv_room (Nat.le_of_ble_eq_true rfl)) dX5_arriveFrom_28 ⟨by omega, by omega⟩) hS (fun _ _ h => h) (fun _ h => h) (fun r15 S16 t H1 locs ht _ h hw1 _ _ hS => ?_)
          subst ht
          have hw : wd D y z S16 A t.heap := hw1
          clear hw1 h1
          obtain ⟨b17, rfl, h⟩ := h
          refine W.eq (g2 := F0 m 31 ls [.ref b17]) rfl ?_
          obtain ⟨hk19, h⟩ := h
          refine r_cast hx hb hown (hts (.classLink RX5 163 "TubePost$Carrier") (by decide +kernel)) hK hw (ce_2 hk19) rfl dX5_arriveFrom_31 ?_
          refine lv_astore_n hx hb dX5_arriveFrom_34 rfl hl (by decide) rfl (fun ls hl => ?_)
          have hl : lv_has ls 4 [(3, .ref b17), (0, .ref v0), (1, .ref v1), (2, .int v2)] := hl
          refine lv_aload_n hx hb dX5_arriveFrom_35 rfl (lv_at hl 0 rfl) ?_
          obtain ⟨b20, hb21, h⟩ := h
          refine r_getN (ci := 1) (v := .ref b20) (C := RX0) (T := TX0) (N := 9) hx hb hts hiX0 hown hK hw (ce_2 (S := S16) hk19) rfl 1 (by decide) (hNw _ (bNw_7)) (fun _ h9 => h9) (congrArg (fun q => some (va_rf q)) hb21) dX5_arriveFrom_36 ?_
          refine lv_aload_n hx hb dX5_arriveFrom_39 rfl (lv_at hl 2 rfl) ?_
          obtain ⟨hk22, h⟩ := h
          obtain ⟨b23, hb24, h⟩ := h
          refine r_getN (ci := 5) (v := .ref b23) (C := RX4) (T := TX4) (N := 11) hx hb hts hiX4 hown hK hw (ce_6 (S := S16) hk22) rfl 2 (by decide) (hNw _ (bNw_18)) (fun _ h9 => h9) (congrArg (fun q => some (va_rf q)) hb24) dX5_arriveFrom_40 ?_
          refine lv_acmp_ne (rx := (some b20)) (ry := (some b23)) (tgt := 54) hx hb dX5_arriveFrom_43 (by decide) (fun hc => ?_) (fun hc => ?_)
          · have h := h.1 hc
            refine lv_aload_n hx hb dX5_arriveFrom_54 rfl (lv_at hl 2 rfl) ?_
            obtain ⟨b25, hb26, h⟩ := h
            refine r_getN (ci := 5) (v := .ref b25) (C := RX4) (T := TX4) (N := 11) hx hb hts hiX4 hown hK hw (ce_6 (S := S16) hk22) rfl 2 (by decide) (hNw _ (bNw_18)) (fun _ h9 => h9) (congrArg (fun q => some (va_rf q)) hb26) dX5_arriveFrom_55 ?_
            obtain ⟨hk27, h⟩ := h
            have h1 := h
            refine va_calli (va_runVN (As := []) (rest := []) ⟨hx, hb, hml, hown, hts⟩ (m_X3_hasRoom (l := l) h1) ⟨va_cnB 0 hts gX5_arriveFrom_X3_hasRoom_n318 rfl rfl rfl (hNw _ bNw_62) (hts (.initialized RX3) (by decide +kernel)) ⟨by decide +kernel, by decide +kernel, by decide +kernel⟩ ⟨Nat.le_trans (Nat.le_of_ble_eq_true rfl) hRf, Nat.le_trans (Nat.le_of_ble_eq_true rfl) hRl⟩, (hts (.instanceMethod yX3_hasRoom) (by decide +kernel)), hts (.selects RX3 yX3_hasRoom yX3_hasRoom) (by decide +kernel)⟩ (r_pV hB hw hS (ce_5 (S := S16) hk27) rfl) rfl rfl hl.1 rfl (lv_room (Nat.le_of_ble_eq_true rfl)) dX5_arriveFrom_58 ⟨by omega, by omega⟩) hS (fun _ _ h => h) (fun _ h => h) (fun r28 S29 t H1 locs ht _ h hw1 _ _ hS => ?_)
            subst ht
            have hw : wd D y z S29 A t.heap := hw1
            clear hw1 h1
            refine lv_if_eq (tgt := 79) hx hb dX5_arriveFrom_61 (by decide) (fun hc => ?_) (fun hc => ?_)
            · have h := h.1 hc
              exact hret _ _ _ _ _ _ _ h hw hS (by omega) (by omega) dX5_arriveFrom_79
            · have h := h.2 hc
              refine lv_aload_n hx hb dX5_arriveFrom_64 rfl (lv_at hl 0 rfl) ?_
              refine lv_aload_n hx hb dX5_arriveFrom_65 rfl (lv_at hl 2 rfl) ?_
              obtain ⟨hk30, h⟩ := h
              obtain ⟨b31, hb32, h⟩ := h
              refine r_getN (ci := 5) (v := .ref b31) (C := RX4) (T := TX4) (N := 11) hx hb hts hiX4 hown hK hw (ce_6 (S := S29) hk30) rfl 2 (by decide) (hNw _ (bNw_18)) (fun _ h9 => h9) (congrArg (fun q => some (va_rf q)) hb32) dX5_arriveFrom_66 ?_
              refine lv_aload_n hx hb dX5_arriveFrom_69 rfl (lv_at hl 1 rfl) ?_
              obtain ⟨hk33, h⟩ := h
              refine r_get (ci := 6) (v := .int (gV S29 7 v0 3)) (C := RX5) (T := TX5) (N := 6) hx hb hts hiX5 hown hK hw (ce_7 (S := S29) hk33) rfl 3 (by decide) (hts (.fieldLink RX5 26 "TubePost" "tick" "I") (by decide +kernel)) (fun _ h9 => h9) rfl dX5_arriveFrom_70 ?_
              obtain ⟨hk34, h⟩ := h
              obtain ⟨k37, n38, hbg1, hbg2, h⟩ := h
              have h1 := h
              refine va_callv (va_runVN (As := [.ref b31, .int (gV S29 7 v0 3)]) (rest := []) ⟨hx, hb, hml, hown, hts⟩ (m_X0_comeTo (l := l) h1) ⟨va_cnB 2 hts gX5_arriveFrom_X0_comeTo_n322 rfl rfl rfl (hNw _ bNw_63) (hts (.initialized RX0) (by decide +kernel)) ⟨by decide +kernel, by decide +kernel, by decide +kernel⟩ ⟨Nat.le_trans (Nat.le_of_ble_eq_true rfl) hRf, Nat.le_trans (Nat.le_of_ble_eq_true rfl) hRl⟩, (hts (.instanceMethod yX0_comeTo) (by decide +kernel)), hts (.selects RX0 yX0_comeTo yX0_comeTo) (by decide +kernel)⟩ (r_pV hB hw hS (ce_2 (S := S29) hk34) rfl) rfl rfl hl.1 rfl (lv_room (Nat.le_of_ble_eq_true rfl)) dX5_arriveFrom_73 ⟨by omega, by omega⟩) hS (fun _ _ h => h) (fun _ h => h) (fun S36 t H1 locs ht _ h hw1 _ _ hS => ?_)
              subst ht
              have hw : wd D y z S36 A t.heap := hw1
              clear hw1 h1
              have hcu : (cu + k37) + (mc - k37) ≤ MC := by omega
              have hsu : (su + n38) + (ms - n38) ≤ MS := by omega
              refine lv_goto (tgt := 80) hx hb dX5_arriveFrom_76 (by decide) ?_
              exact hB80 _ _ _ _ _ _ _ _ _ _ _ h hw hS (lv_sub hl [1, 2, 3] rfl) hcu hsu
          · have h := h.2 hc
            refine lv_aload_n hx hb dX5_arriveFrom_46 rfl (lv_at hl 1 rfl) ?_
            refine lv_aload_n hx hb dX5_arriveFrom_47 rfl (lv_at hl 0 rfl) ?_
            obtain ⟨hk39, h⟩ := h
            have h1 := h
            refine va_callv (va_runV (As := [.ref b17]) (rest := []) ⟨hx, hb, hml, hown, hts⟩ (m_X5_deliver (l := l) h1) (cwV 1 hts gX5_arriveFrom_X5_deliver rfl rfl rfl (by decide +kernel) ⟨Nat.le_trans (Nat.le_of_ble_eq_true rfl) hRf, Nat.le_trans (Nat.le_of_ble_eq_true rfl) hRl⟩) (r_pV hB hw hS (ce_7 (S := S16) hk39) rfl) rfl rfl hl.1 rfl (lv_room (Nat.le_of_ble_eq_true rfl)) dX5_arriveFrom_48 ⟨by omega, by omega⟩) hS (fun _ _ h => h) (fun _ h => h) (fun S41 t H1 locs ht _ h hw1 _ _ hS => ?_)
            subst ht
            have hw : wd D y z S41 A t.heap := hw1
            clear hw1 h1
            refine lv_goto (tgt := 80) hx hb dX5_arriveFrom_51 (by decide) ?_
            exact hB80 _ _ _ _ _ _ _ _ _ _ _ h hw hS (lv_sub hl [1, 2, 3] rfl) hcu hsu
  unfold wp_X5_arriveFrom at h
  have hcu : 0 + MC ≤ MC := by omega
  have hsu : 0 + MS ≤ MS := by omega
  refine lv_aload_n hx hb dX5_arriveFrom_0 rfl (lv_at hl 1 rfl) ?_
  obtain ⟨hk1, h⟩ := h
  obtain ⟨b2, hb3, h⟩ := h
  refine r_getN (ci := 5) (v := .ref b2) (C := RX4) (T := TX4) (N := 11) hx hb hts hiX4 hown hK hw (ce_6 (S := S) hk1) rfl 5 (by decide) (hNw _ (bNw_22)) (fun _ h9 => h9) (congrArg (fun q => some (va_rf q)) hb3) dX5_arriveFrom_1 ?_
  obtain ⟨hk4, h⟩ := h
  have h1 := h
  refine va_calli (va_runV (As := []) (rest := []) ⟨hx, hb, hml, hown, hts⟩ (m_Jx4a65c_size_8abf5 (l := l) h1) (cwV 0 hts gX5_arriveFrom_Jx4a65c_size_8abf5 rfl rfl rfl (by decide +kernel) ⟨Nat.le_trans (Nat.le_of_ble_eq_true rfl) hRf, Nat.le_trans (Nat.le_of_ble_eq_true rfl) hRl⟩) (r_pV hB hw hS (ce_1 (S := S) hk4) rfl) rfl rfl hl.1 rfl (lv_room (Nat.le_of_ble_eq_true rfl)) dX5_arriveFrom_4 ⟨by omega, by omega⟩) hS (fun _ _ h => h) (fun _ h => h) (fun r5 S6 t H1 locs ht _ h hw1 _ _ hS => ?_)
  subst ht
  have hw : wd D y z S6 A t.heap := hw1
  clear hw1 h1
  refine lv_istore_n hx hb dX5_arriveFrom_7 rfl hl (by decide) rfl (fun ls hl => ?_)
  have hl : lv_has ls 4 [(2, .int r5), (0, .ref this), (1, .ref p1)] := hl
  obtain ⟨n8, h⟩ := h
  exact hB8 n8 _ _ _ _ _ _ _ _ _ _ _ h hw hS (lv_sub hl [1, 2, 0] rfl) hcu hsu
def wb_X5_arriveEverywhere_2 (post : bS → Prop) : Nat → Nat → Nat → Nat → Int32 → bS → Prop
  | 0, _, _, _, _, _ => False
  | n + 1, mc, ms, v0, v1, S => gK S v0 = 7 ∧ (∃ b2, gQ S 7 v0 0 = some b2 ∧ (gK S b2 = 4 ∧ (∃ b5, gQ S 4 b2 1 = some b5 ∧ (gK S b5 = 1 ∧ (wp_Jx4a65c_size_8abf5 (fun r8 S9 => (r8 ≤ v1 → post S9) ∧ (¬ (r8 ≤ v1) → gK S9 v0 = 7 ∧ (∃ b11, gQ S9 7 v0 0 = some b11 ∧ (gK S9 b11 = 4 ∧ (∃ b14, gQ S9 4 b11 1 = some b14 ∧ (gK S9 b14 = 1 ∧ (wp_Jx4a65c_get_915e3 (fun r17 S18 => ∃ b19, r17 = some b19 ∧ (gK S18 b19 = 6 ∧ (gK S18 v0 = 7 ∧ (∃ k25 n26, k25 ≤ mc ∧ n26 ≤ ms ∧ (wp_X5_arriveFrom (fun S24 => (wb_X5_arriveEverywhere_2 post n) (mc - k25) (ms - n26) v0 (v1 + (1 : Int32)) S24) k25 n26 v0 b19 S18))))) b14 v1 S9))))))) b5 S)))))
def wp_X5_arriveEverywhere (post : bS → Prop) (MC MS : Nat) (this : Nat) (S : bS) : Prop := ∃ n2, wb_X5_arriveEverywhere_2 post n2 MC MS this (0 : Int32) S
set_option maxHeartbeats 4000000 in
set_option maxRecDepth 100000 in
theorem m_X5_arriveEverywhere {l : Launch} {D : va_G} {y : Nat → ClassId} {z : Nat} {A : Nat → Prop} {S : bS} {post : bS → Prop} {MC MS : Nat} {this : Nat} (h : wp_X5_arriveEverywhere post MC MS this S) : Met l yX5_arriveEverywhere wsX5_arriveEverywhere ({ frames := 9, cells := MC, slots := MS, locals := 238 } : Room) (va_Pc ([Value.ref this] : List Value) (bP D y z S A)) (va_Qv post (fun S' t => wd D y z S' A t.heap) A) MC MS A := by
  refine Met.ofW (cc := cX5_arriveEverywhere) (maxL := 2) (ret := none) (by decide) rfl ?_
  intro p e s m args below meth c s₁ B hml hv
  obtain ⟨rfl, hB⟩ := hv
  have hx := B.exec
  have hb := B.bytes
  have hr := B.returns
  have hts := atoms_spec (ws := wsX5_arriveEverywhere) B.pre
  have hown : s.vm.findClass RX5 = some m.cls := findClass_of_methodNamed B.named
  have hlocks := B.notSynchronized
  have hw : wd D y z S A s.heap := hB.1
  have hK : va_K D bCl (bT y) s := hB.2.1
  have hNw := hB.2.2.1
  have hAn : ∀ q : Nat, s.heap.size ≤ q → A q := hB.2.2.2.1
  have hAz : ¬ A z := hB.2.2.2.2.1
  have hO := hB.2.2.2.2.2.1
  have hS : va_S A s.heap s.heap [] := va_S.rf
  have hiX2 : ∀ w ∈ u_ws RX2 TX2 2, w ∈ wsX5_arriveEverywhere := by decide +kernel
  have hiX5 : ∀ w ∈ u_ws RX5 TX5 6, w ∈ wsX5_arriveEverywhere := by decide +kernel
  have hl := lv_entry ([Value.ref this] : List Value) (n := 2) (Nat.le_of_ble_eq_true rfl)
  rw [lg_entry_eq]
  generalize (lg_sl ([Value.ref this] : List Value) ++ List.replicate (2 - (lg_sl ([Value.ref this] : List Value)).length) Slot.unset).toArray = ls at hl ⊢
  have hl : lv_has ls 2 [(0, .ref this)] := hl
  obtain ⟨Q, hQ⟩ : ∃ Q, Q = MQ below (va_Qv post (fun S' t => wd D y z S' A t.heap) A) (([Value.ref this] : List Value).toArray) s MC MS A := ⟨_, rfl⟩
  rw [← hQ]
  generalize hR : (headSpec wsX5_arriveEverywhere ({ frames := 9, cells := MC, slots := MS, locals := 238 } : Room)).room = R
  have hRf : 9 ≤ R.frames := by rw [← hR]; exact Nat.le_refl _
  have hRl : 238 ≤ R.locals := by rw [← hR]; exact Nat.le_refl _
  have hRc : R.cells = MC := by rw [← hR]; rfl
  have hRs : R.slots = MS := by rw [← hR]; rfl
  have hret : ∀ (S : bS) (H : Heap) (locs : List Loc) (pc : Nat) (ls : Array Slot) (cu su : Nat) , post S → wd D y z S A H → va_S A s.heap H locs → cu ≤ MC → su ≤ MS → decode cX5_arriveEverywhere pc = .ok (.return_, 1) → W p l e R s m (([Value.ref this] : List Value).toArray) below meth c H locs cu su Q (F0 m pc ls []) := by
    intro S H locs pc ls cu su h hw hS hcu hsu d0
    rw [hQ]; refine W.widen hcu hsu ?_; exact W.vret hx hb hr (fun t ht hW => ⟨⟨S, rfl, h, by show wd D y z S A t.heap; rw [ht]; exact hw⟩, hS.F ht⟩) hS.2.2 d0 hlocks
  have hB2 : ∀ (n2 : Nat) (S : bS) (H : Heap) (locs : List Loc) (ls : Array Slot) (mc ms cu su : Nat) (v0 : Nat) (v1 : Int32), wb_X5_arriveEverywhere_2 post n2 mc ms v0 v1 S → wd D y z S A H → va_S A s.heap H locs → lv_has ls 2 [(0, .ref v0), (1, .int v1)] → cu + mc ≤ MC → su + ms ≤ MS → W p l e R s m (([Value.ref this] : List Value).toArray) below meth c H locs cu su Q (F0 m 2 ls []) := by
    intro n2
    induction n2 with
    | zero =>
      intro S H locs ls mc ms cu su v0 v1 h hw hS hl hcu hsu
      exact absurd h (by unfold wb_X5_arriveEverywhere_2; exact id)
    | succ n2 ih2 =>
      intro S H locs ls mc ms cu su v0 v1 h hw hS hl hcu hsu
      unfold wb_X5_arriveEverywhere_2 at h
      refine lv_iload_n hx hb dX5_arriveEverywhere_2 rfl (lv_at hl 1 rfl) ?_
      refine lv_aload_n hx hb dX5_arriveEverywhere_3 rfl (lv_at hl 0 rfl) ?_
      obtain ⟨hk1, h⟩ := h
      obtain ⟨b2, hb3, h⟩ := h
      refine r_get (ci := 6) (v := .ref b2) (C := RX5) (T := TX5) (N := 6) hx hb hts hiX5 hown hK hw (ce_7 (S := S) hk1) rfl 0 (by decide) (hts (.fieldLink RX5 10 "TubePost" "net" "LTubePost$Net;") (by decide +kernel)) (fun _ h9 => h9) (congrArg (fun q => some (va_rf q)) hb3) dX5_arriveEverywhere_4 ?_
      obtain ⟨hk4, h⟩ := h
      obtain ⟨b5, hb6, h⟩ := h
      refine r_getN (ci := 3) (v := .ref b5) (C := RX2) (T := TX2) (N := 2) hx hb hts hiX2 hown hK hw (ce_4 (S := S) hk4) rfl 1 (by decide) (hNw _ (bNw_1)) (fun _ h9 => h9) (congrArg (fun q => some (va_rf q)) hb6) dX5_arriveEverywhere_7 ?_
      obtain ⟨hk7, h⟩ := h
      have h1 := h
      refine va_calli (va_runV (As := []) (rest := [.int v1]) ⟨hx, hb, hml, hown, hts⟩ (m_Jx4a65c_size_8abf5 (l := l) h1) (cwV 0 hts gX5_arriveEverywhere_Jx4a65c_size_8abf5 rfl rfl rfl (by decide +kernel) ⟨Nat.le_trans (Nat.le_of_ble_eq_true rfl) hRf, Nat.le_trans (Nat.le_of_ble_eq_true rfl) hRl⟩) (r_pV hB hw hS (ce_1 (S := S) hk7) rfl) rfl rfl hl.1 rfl (lv_room (Nat.le_of_ble_eq_true rfl)) dX5_arriveEverywhere_10 ⟨by omega, by omega⟩) hS (fun _ _ h => h) (fun _ h => h) (fun r8 S9 t H1 locs ht _ h hw1 _ _ hS => ?_)
      subst ht
      have hw : wd D y z S9 A t.heap := hw1
      clear hw1 h1
      refine lv_icmp_ge (tgt := 40) hx hb dX5_arriveEverywhere_13 (by decide) (fun hc => ?_) (fun hc => ?_)
      · have h := h.1 hc
        exact hret _ _ _ _ _ _ _ h hw hS (by omega) (by omega) dX5_arriveEverywhere_40
      · have h := h.2 hc
        refine lv_aload_n hx hb dX5_arriveEverywhere_16 rfl (lv_at hl 0 rfl) ?_
        refine lv_aload_n hx hb dX5_arriveEverywhere_17 rfl (lv_at hl 0 rfl) ?_
        obtain ⟨hk10, h⟩ := h
        obtain ⟨b11, hb12, h⟩ := h
        refine r_get (ci := 6) (v := .ref b11) (C := RX5) (T := TX5) (N := 6) hx hb hts hiX5 hown hK hw (ce_7 (S := S9) hk10) rfl 0 (by decide) (hts (.fieldLink RX5 10 "TubePost" "net" "LTubePost$Net;") (by decide +kernel)) (fun _ h9 => h9) (congrArg (fun q => some (va_rf q)) hb12) dX5_arriveEverywhere_18 ?_
        obtain ⟨hk13, h⟩ := h
        obtain ⟨b14, hb15, h⟩ := h
        refine r_getN (ci := 3) (v := .ref b14) (C := RX2) (T := TX2) (N := 2) hx hb hts hiX2 hown hK hw (ce_4 (S := S9) hk13) rfl 1 (by decide) (hNw _ (bNw_1)) (fun _ h9 => h9) (congrArg (fun q => some (va_rf q)) hb15) dX5_arriveEverywhere_21 ?_
        refine lv_iload_n hx hb dX5_arriveEverywhere_24 rfl (lv_at hl 1 rfl) ?_
        obtain ⟨hk16, h⟩ := h
        have h1 := h
        refine va_callq (va_runV (As := [.int v1]) (rest := [.ref v0]) ⟨hx, hb, hml, hown, hts⟩ (m_Jx4a65c_get_915e3 (l := l) h1) (cwV 1 hts gX5_arriveEverywhere_Jx4a65c_get_915e3 rfl rfl rfl (by decide +kernel) ⟨Nat.le_trans (Nat.le_of_ble_eq_true rfl) hRf, Nat.le_trans (Nat.le_of_ble_eq_true rfl) hRl⟩) (r_pV hB hw hS (ce_1 (S := S9) hk16) rfl) rfl rfl hl.1 rfl (lv_room (Nat.le_of_ble_eq_true rfl)) dX5_arriveEverywhere_25 ⟨by omega, by omega⟩) hS (fun _ _ h => h) (fun _ h => h) (fun r17 S18 t H1 locs ht _ h hw1 _ _ hS => ?_)
        subst ht
        have hw : wd D y z S18 A t.heap := hw1
        clear hw1 h1
        obtain ⟨b19, rfl, h⟩ := h
        refine W.eq (g2 := F0 m 28 ls [.ref b19, .ref v0]) rfl ?_
        obtain ⟨hk21, h⟩ := h
        refine r_cast hx hb hown (hts (.classLink RX5 101 "TubePost$Tube") (by decide +kernel)) hK hw (ce_6 hk21) rfl dX5_arriveEverywhere_28 ?_
        obtain ⟨hk22, h⟩ := h
        obtain ⟨k25, n26, hbg1, hbg2, h⟩ := h
        have h1 := h
        refine va_callv (va_runV (As := [.ref b19]) (rest := []) ⟨hx, hb, hml, hown, hts⟩ (m_X5_arriveFrom (l := l) h1) (cwV 1 hts gX5_arriveEverywhere_X5_arriveFrom rfl rfl rfl (by decide +kernel) ⟨Nat.le_trans (Nat.le_of_ble_eq_true rfl) hRf, Nat.le_trans (Nat.le_of_ble_eq_true rfl) hRl⟩) (r_pV hB hw hS (ce_7 (S := S18) hk22) rfl) rfl rfl hl.1 rfl (lv_room (Nat.le_of_ble_eq_true rfl)) dX5_arriveEverywhere_31 ⟨by omega, by omega⟩) hS (fun _ _ h => h) (fun _ h => h) (fun S24 t H1 locs ht _ h hw1 _ _ hS => ?_)
        subst ht
        have hw : wd D y z S24 A t.heap := hw1
        clear hw1 h1
        have hcu : (cu + k25) + (mc - k25) ≤ MC := by omega
        have hsu : (su + n26) + (ms - n26) ≤ MS := by omega
        refine lv_iinc (v := (v1 + (1 : Int32))) hx hb dX5_arriveEverywhere_34 hl (k := 1) rfl rfl (by decide) rfl (fun ls hl => ?_)
        have hl : lv_has ls 2 [(1, .int (v1 + (1 : Int32))), (0, .ref v0)] := hl
        refine lv_goto (tgt := 2) hx hb dX5_arriveEverywhere_37 (by decide) ?_
        exact ih2 _ _ _ _ _ _ _ _ _ _ h hw hS (lv_sub hl [1, 0] rfl) hcu hsu
  unfold wp_X5_arriveEverywhere at h
  have hcu : 0 + MC ≤ MC := by omega
  have hsu : 0 + MS ≤ MS := by omega
  refine lv_iconst (v := (0 : Int32)) hx hb dX5_arriveEverywhere_0 (by decide) ?_
  refine lv_istore_n hx hb dX5_arriveEverywhere_1 rfl hl (by decide) rfl (fun ls hl => ?_)
  have hl : lv_has ls 2 [(1, .int (0 : Int32)), (0, .ref this)] := hl
  obtain ⟨n2, h⟩ := h
  exact hB2 n2 _ _ _ _ _ _ _ _ _ _ h hw hS (lv_sub hl [1, 0] rfl) hcu hsu
def wb_X5_tubeToEnter_81 (post : Option Nat → bS → Prop) (s0 : Option Nat) (S : bS) : Prop := post s0 S
def wp_X5_tubeToEnter (post : Option Nat → bS → Prop) (this : Nat) (p1 : Nat) (p2 : Nat) (S : bS) : Prop := gK S this = 7 ∧ (gK S p2 = 2 ∧ (gK S p1 = 5 ∧ (((gV S 5 p1 2) ≤ ((gV S 7 this 3) - (gV S 2 p2 6)) → ∃ b4, gQ S 7 this 0 = some b4 ∧ (∃ b6, gQ S 2 p2 1 = some b6 ∧ (gK S b4 = 4 ∧ (wp_X2_wayFor (fun r9 S10 => gK S10 p1 = 5 ∧ (∃ b12, gQ S10 5 p1 3 = some b12 ∧ (gK S10 b12 = 1 ∧ (wp_Jx4a65c_size_8abf5 (fun r15 S16 => wp_X5_isOutside (fun r17 S18 => (r17 = (0 : Int32) → gK S18 p1 = 5 ∧ (∃ b20, gQ S18 5 p1 3 = some b20 ∧ (gK S18 b20 = 1 ∧ (wp_Jx4a65c_get_915e3 (fun r23 S24 => ∃ b25, r23 = some b25 ∧ (gK S24 b25 = 6 ∧ (gK S24 this = 7 ∧ (wp_X4_canBeEnteredAt (fun r29 S30 => (r29 = (0 : Int32) → wb_X5_tubeToEnter_81 post none S30) ∧ (¬ (r29 = (0 : Int32)) → wb_X5_tubeToEnter_81 post (some b25) S30)) b25 (gV S24 7 this 3) S24)))) b20 r9 S18)))) ∧ (¬ (r17 = (0 : Int32)) → post none S18)) r9 (0 : Int32) (r15 - (1 : Int32)) S16) b12 S10)))) b4 p1 b6 S)))) ∧ (¬ ((gV S 5 p1 2) ≤ ((gV S 7 this 3) - (gV S 2 p2 6))) → post none S))))
set_option maxHeartbeats 4000000 in
set_option maxRecDepth 100000 in
theorem m_X5_tubeToEnter {l : Launch} {D : va_G} {y : Nat → ClassId} {z : Nat} {A : Nat → Prop} {S : bS} {post : Option Nat → bS → Prop} {this : Nat} {p1 : Nat} {p2 : Nat} (h : wp_X5_tubeToEnter post this p1 p2 S) : Met l yX5_tubeToEnter wsX5_tubeToEnter ({ frames := 5, cells := 0, slots := 0, locals := 117 } : Room) (va_Pc ([Value.ref this, Value.ref p1, Value.ref p2] : List Value) (bP D y z S A)) (va_Qq post (fun S' t => wd D y z S' A t.heap) A) 0 0 A := by
  refine Met.ofW (cc := cX5_tubeToEnter) (maxL := 5) (ret := (some (.object "TubePost$Tube"))) (by decide) rfl ?_
  intro p e s m args below meth c s₁ B hml hv
  obtain ⟨rfl, hB⟩ := hv
  have hx := B.exec
  have hb := B.bytes
  have hr := B.returns
  have hts := atoms_spec (ws := wsX5_tubeToEnter) B.pre
  have hown : s.vm.findClass RX5 = some m.cls := findClass_of_methodNamed B.named
  have hlocks := B.notSynchronized
  have hw : wd D y z S A s.heap := hB.1
  have hK : va_K D bCl (bT y) s := hB.2.1
  have hNw := hB.2.2.1
  have hAn : ∀ q : Nat, s.heap.size ≤ q → A q := hB.2.2.2.1
  have hAz : ¬ A z := hB.2.2.2.2.1
  have hO := hB.2.2.2.2.2.1
  have hS : va_S A s.heap s.heap [] := va_S.rf
  have hiX0 : ∀ w ∈ u_ws RX0 TX0 9, w ∈ wsX5_tubeToEnter := by decide +kernel
  have hiX3 : ∀ w ∈ u_ws RX3 TX3 10, w ∈ wsX5_tubeToEnter := by decide +kernel
  have hiX5 : ∀ w ∈ u_ws RX5 TX5 6, w ∈ wsX5_tubeToEnter := by decide +kernel
  have hl := lv_entry ([Value.ref this, Value.ref p1, Value.ref p2] : List Value) (n := 5) (Nat.le_of_ble_eq_true rfl)
  rw [lg_entry_eq]
  generalize (lg_sl ([Value.ref this, Value.ref p1, Value.ref p2] : List Value) ++ List.replicate (5 - (lg_sl ([Value.ref this, Value.ref p1, Value.ref p2] : List Value)).length) Slot.unset).toArray = ls at hl ⊢
  have hl : lv_has ls 5 [(0, .ref this), (1, .ref p1), (2, .ref p2)] := hl
  obtain ⟨Q, hQ⟩ : ∃ Q, Q = MQ below (va_Qq post (fun S' t => wd D y z S' A t.heap) A) (([Value.ref this, Value.ref p1, Value.ref p2] : List Value).toArray) s 0 0 A := ⟨_, rfl⟩
  rw [← hQ]
  generalize hR : (headSpec wsX5_tubeToEnter ({ frames := 5, cells := 0, slots := 0, locals := 117 } : Room)).room = R
  have hRf : 5 ≤ R.frames := by rw [← hR]; exact Nat.le_refl _
  have hRl : 117 ≤ R.locals := by rw [← hR]; exact Nat.le_refl _
  have hret : ∀ (v : Option Nat) (S : bS) (H : Heap) (locs : List Loc) (pc : Nat) (ls : Array Slot) , post v S → wd D y z S A H → va_S A s.heap H locs → decode cX5_tubeToEnter pc = .ok (.areturn, 1) → W p l e R s m (([Value.ref this, Value.ref p1, Value.ref p2] : List Value).toArray) below meth c H locs 0 0 Q (F0 m pc ls [va_rf v]) := by
    intro v S H locs pc ls h hw hS d0
    rw [hQ]; exact W.aret hx hb hr (by first | exact Or.inl ⟨_, rfl⟩ | exact Or.inr ⟨_, rfl⟩) (by cases v with | none => exact Or.inl rfl | some a => exact Or.inr ⟨a, rfl⟩) (fun t ht hW => ⟨⟨v, S, rfl, h, by show wd D y z S A t.heap; rw [ht]; exact hw⟩, hS.F ht⟩) hS.2.2 d0 hlocks
  have hB81 : ∀ (S : bS) (H : Heap) (locs : List Loc) (ls : Array Slot) (s0 : Option Nat), wb_X5_tubeToEnter_81 post s0 S → wd D y z S A H → va_S A s.heap H locs → lv_has ls 5 [] → W p l e R s m (([Value.ref this, Value.ref p1, Value.ref p2] : List Value).toArray) below meth c H locs 0 0 Q (F0 m 81 ls [va_rf (s0)]) := by
    intro S H locs ls s0 h hw hS hl
    unfold wb_X5_tubeToEnter_81 at h
    exact hret s0 _ _ _ _ _ h hw hS dX5_tubeToEnter_81
  unfold wp_X5_tubeToEnter at h
  refine lv_aload_n hx hb dX5_tubeToEnter_0 rfl (lv_at hl 0 rfl) ?_
  obtain ⟨hk1, h⟩ := h
  refine r_get (ci := 6) (v := .int (gV S 7 this 3)) (C := RX5) (T := TX5) (N := 6) hx hb hts hiX5 hown hK hw (ce_7 (S := S) hk1) rfl 3 (by decide) (hts (.fieldLink RX5 26 "TubePost" "tick" "I") (by decide +kernel)) (fun _ h9 => h9) rfl dX5_tubeToEnter_1 ?_
  refine lv_aload_n hx hb dX5_tubeToEnter_4 rfl (lv_at hl 2 rfl) ?_
  obtain ⟨hk2, h⟩ := h
  refine r_getN (ci := 1) (v := .int (gV S 2 p2 6)) (C := RX0) (T := TX0) (N := 9) hx hb hts hiX0 hown hK hw (ce_2 (S := S) hk2) rfl 6 (by decide) (hNw _ (bNw_11)) (fun _ h9 => h9) rfl dX5_tubeToEnter_5 ?_
  refine lv_isub hx hb dX5_tubeToEnter_8 ?_
  refine lv_aload_n hx hb dX5_tubeToEnter_9 rfl (lv_at hl 1 rfl) ?_
  obtain ⟨hk3, h⟩ := h
  refine r_getN (ci := 4) (v := .int (gV S 5 p1 2)) (C := RX3) (T := TX3) (N := 10) hx hb hts hiX3 hown hK hw (ce_5 (S := S) hk3) rfl 2 (by decide) (hNw _ (bNw_14)) (fun _ h9 => h9) rfl dX5_tubeToEnter_10 ?_
  refine lv_icmp_ge (tgt := 18) hx hb dX5_tubeToEnter_13 (by decide) (fun hc => ?_) (fun hc => ?_)
  · have h := h.1 hc
    refine lv_aload_n hx hb dX5_tubeToEnter_18 rfl (lv_at hl 0 rfl) ?_
    obtain ⟨b4, hb5, h⟩ := h
    refine r_get (ci := 6) (v := .ref b4) (C := RX5) (T := TX5) (N := 6) hx hb hts hiX5 hown hK hw (ce_7 (S := S) hk1) rfl 0 (by decide) (hts (.fieldLink RX5 10 "TubePost" "net" "LTubePost$Net;") (by decide +kernel)) (fun _ h9 => h9) (congrArg (fun q => some (va_rf q)) hb5) dX5_tubeToEnter_19 ?_
    refine lv_aload_n hx hb dX5_tubeToEnter_22 rfl (lv_at hl 1 rfl) ?_
    refine lv_aload_n hx hb dX5_tubeToEnter_23 rfl (lv_at hl 2 rfl) ?_
    obtain ⟨b6, hb7, h⟩ := h
    refine r_getN (ci := 1) (v := .ref b6) (C := RX0) (T := TX0) (N := 9) hx hb hts hiX0 hown hK hw (ce_2 (S := S) hk2) rfl 1 (by decide) (hNw _ (bNw_7)) (fun _ h9 => h9) (congrArg (fun q => some (va_rf q)) hb7) dX5_tubeToEnter_24 ?_
    obtain ⟨hk8, h⟩ := h
    have h1 := h
    refine va_calli (va_runVN (As := [.ref p1, .ref b6]) (rest := []) ⟨hx, hb, hml, hown, hts⟩ (m_X2_wayFor (l := l) h1) ⟨va_cnB 2 hts gX5_tubeToEnter_X2_wayFor_n247 rfl rfl rfl (hNw _ bNw_57) (hts (.initialized RX2) (by decide +kernel)) ⟨by decide +kernel, by decide +kernel, by decide +kernel⟩ ⟨Nat.le_trans (Nat.le_of_ble_eq_true rfl) hRf, Nat.le_trans (Nat.le_of_ble_eq_true rfl) hRl⟩, (hts (.instanceMethod yX2_wayFor) (by decide +kernel)), hts (.selects RX2 yX2_wayFor yX2_wayFor) (by decide +kernel)⟩ (r_pV hB hw hS (ce_4 (S := S) hk8) rfl) rfl rfl hl.1 rfl (lv_room (Nat.le_of_ble_eq_true rfl)) dX5_tubeToEnter_27 ⟨Nat.zero_le _, Nat.zero_le _⟩) hS (fun _ _ h => h) (fun _ h => h) (fun r9 S10 t H1 locs ht _ h hw1 _ _ hS => ?_)
    subst ht
    have hw : wd D y z S10 A t.heap := hw1
    clear hw1 h1
    refine lv_istore_n hx hb dX5_tubeToEnter_30 rfl hl (by decide) rfl (fun ls hl => ?_)
    have hl : lv_has ls 5 [(3, .int r9), (0, .ref this), (1, .ref p1), (2, .ref p2)] := hl
    refine lv_iload_n hx hb dX5_tubeToEnter_31 rfl (lv_at hl 0 rfl) ?_
    refine lv_iconst (v := (0 : Int32)) hx hb dX5_tubeToEnter_32 (by decide) ?_
    refine lv_aload_n hx hb dX5_tubeToEnter_33 rfl (lv_at hl 2 rfl) ?_
    obtain ⟨hk11, h⟩ := h
    obtain ⟨b12, hb13, h⟩ := h
    refine r_getN (ci := 4) (v := .ref b12) (C := RX3) (T := TX3) (N := 10) hx hb hts hiX3 hown hK hw (ce_5 (S := S10) hk11) rfl 3 (by decide) (hNw _ (bNw_2)) (fun _ h9 => h9) (congrArg (fun q => some (va_rf q)) hb13) dX5_tubeToEnter_34 ?_
    obtain ⟨hk14, h⟩ := h
    have h1 := h
    refine va_calli (va_runV (As := []) (rest := [.int (0 : Int32), .int r9]) ⟨hx, hb, hml, hown, hts⟩ (m_Jx4a65c_size_8abf5 (l := l) h1) (cwV 0 hts gX5_tubeToEnter_Jx4a65c_size_8abf5 rfl rfl rfl (by decide +kernel) ⟨Nat.le_trans (Nat.le_of_ble_eq_true rfl) hRf, Nat.le_trans (Nat.le_of_ble_eq_true rfl) hRl⟩) (r_pV hB hw hS (ce_1 (S := S10) hk14) rfl) rfl rfl hl.1 rfl (lv_room (Nat.le_of_ble_eq_true rfl)) dX5_tubeToEnter_37 ⟨Nat.zero_le _, Nat.zero_le _⟩) hS (fun _ _ h => h) (fun _ h => h) (fun r15 S16 t H1 locs ht _ h hw1 _ _ hS => ?_)
    subst ht
    have hw : wd D y z S16 A t.heap := hw1
    clear hw1 h1
    refine lv_iconst (v := (1 : Int32)) hx hb dX5_tubeToEnter_40 (by decide) ?_
    refine lv_isub hx hb dX5_tubeToEnter_41 ?_
    have h1 := h
    refine va_calli (va_runS (As := [.int r9, .int (0 : Int32), .int (r15 - (1 : Int32))]) (rest := []) ⟨hx, hb, hml, hown, hts⟩ (m_X5_isOutside (l := l) h1) (cwS 3 hts gX5_tubeToEnter_X5_isOutside rfl rfl rfl (by decide +kernel) ⟨Nat.le_trans (Nat.le_of_ble_eq_true rfl) hRf, Nat.le_trans (Nat.le_of_ble_eq_true rfl) hRl⟩) (r_pS hB hw hS) rfl rfl hl.1 rfl (lv_room (Nat.le_of_ble_eq_true rfl)) dX5_tubeToEnter_42 ⟨Nat.zero_le _, Nat.zero_le _⟩) hS (fun _ _ h => h) (fun _ h => h) (fun r17 S18 t H1 locs ht _ h hw1 _ _ hS => ?_)
    subst ht
    have hw : wd D y z S18 A t.heap := hw1
    clear hw1 h1
    refine lv_if_eq (tgt := 50) hx hb dX5_tubeToEnter_45 (by decide) (fun hc => ?_) (fun hc => ?_)
    · have h := h.1 hc
      refine lv_aload_n hx hb dX5_tubeToEnter_50 rfl (lv_at hl 2 rfl) ?_
      obtain ⟨hk19, h⟩ := h
      obtain ⟨b20, hb21, h⟩ := h
      refine r_getN (ci := 4) (v := .ref b20) (C := RX3) (T := TX3) (N := 10) hx hb hts hiX3 hown hK hw (ce_5 (S := S18) hk19) rfl 3 (by decide) (hNw _ (bNw_2)) (fun _ h9 => h9) (congrArg (fun q => some (va_rf q)) hb21) dX5_tubeToEnter_51 ?_
      refine lv_iload_n hx hb dX5_tubeToEnter_54 rfl (lv_at hl 0 rfl) ?_
      obtain ⟨hk22, h⟩ := h
      have h1 := h
      refine va_callq (va_runV (As := [.int r9]) (rest := []) ⟨hx, hb, hml, hown, hts⟩ (m_Jx4a65c_get_915e3 (l := l) h1) (cwV 1 hts gX5_tubeToEnter_Jx4a65c_get_915e3 rfl rfl rfl (by decide +kernel) ⟨Nat.le_trans (Nat.le_of_ble_eq_true rfl) hRf, Nat.le_trans (Nat.le_of_ble_eq_true rfl) hRl⟩) (r_pV hB hw hS (ce_1 (S := S18) hk22) rfl) rfl rfl hl.1 rfl (lv_room (Nat.le_of_ble_eq_true rfl)) dX5_tubeToEnter_55 ⟨Nat.zero_le _, Nat.zero_le _⟩) hS (fun _ _ h => h) (fun _ h => h) (fun r23 S24 t H1 locs ht _ h hw1 _ _ hS => ?_)
      subst ht
      have hw : wd D y z S24 A t.heap := hw1
      clear hw1 h1
      obtain ⟨b25, rfl, h⟩ := h
      refine W.eq (g2 := F0 m 58 ls [.ref b25]) rfl ?_
      obtain ⟨hk27, h⟩ := h
      refine r_cast hx hb hown (hts (.classLink RX5 101 "TubePost$Tube") (by decide +kernel)) hK hw (ce_6 hk27) rfl dX5_tubeToEnter_58 ?_
      refine lv_astore hx hb dX5_tubeToEnter_61 hl (by decide) rfl (fun ls hl => ?_)
      have hl : lv_has ls 5 [(4, .ref b25), (3, .int r9), (0, .ref this), (1, .ref p1), (2, .ref p2)] := hl
      refine lv_aload hx hb dX5_tubeToEnter_63 (lv_at hl 0 rfl) ?_
      refine lv_aload_n hx hb dX5_tubeToEnter_65 rfl (lv_at hl 2 rfl) ?_
      obtain ⟨hk28, h⟩ := h
      refine r_get (ci := 6) (v := .int (gV S24 7 this 3)) (C := RX5) (T := TX5) (N := 6) hx hb hts hiX5 hown hK hw (ce_7 (S := S24) hk28) rfl 3 (by decide) (hts (.fieldLink RX5 26 "TubePost" "tick" "I") (by decide +kernel)) (fun _ h9 => h9) rfl dX5_tubeToEnter_66 ?_
      have h1 := h
      refine va_calli (va_runVN (As := [.int (gV S24 7 this 3)]) (rest := []) ⟨hx, hb, hml, hown, hts⟩ (m_X4_canBeEnteredAt (l := l) h1) ⟨va_cnB 1 hts gX5_tubeToEnter_X4_canBeEnteredAt_n341 rfl rfl rfl (hNw _ bNw_65) (hts (.initialized RX4) (by decide +kernel)) ⟨by decide +kernel, by decide +kernel, by decide +kernel⟩ ⟨Nat.le_trans (Nat.le_of_ble_eq_true rfl) hRf, Nat.le_trans (Nat.le_of_ble_eq_true rfl) hRl⟩, (hts (.instanceMethod yX4_canBeEnteredAt) (by decide +kernel)), hts (.selects RX4 yX4_canBeEnteredAt yX4_canBeEnteredAt) (by decide +kernel)⟩ (r_pV hB hw hS (ce_6 (S := S24) hk27) rfl) rfl rfl hl.1 rfl (lv_room (Nat.le_of_ble_eq_true rfl)) dX5_tubeToEnter_69 ⟨Nat.zero_le _, Nat.zero_le _⟩) hS (fun _ _ h => h) (fun _ h => h) (fun r29 S30 t H1 locs ht _ h hw1 _ _ hS => ?_)
      subst ht
      have hw : wd D y z S30 A t.heap := hw1
      clear hw1 h1
      refine lv_if_eq (tgt := 80) hx hb dX5_tubeToEnter_72 (by decide) (fun hc => ?_) (fun hc => ?_)
      · have h := h.1 hc
        refine lv_null hx hb dX5_tubeToEnter_80 ?_
        exact hB81 _ _ _ _ _ h hw hS (lv_sub hl [] rfl)
      · have h := h.2 hc
        refine lv_aload hx hb dX5_tubeToEnter_75 (lv_at hl 0 rfl) ?_
        refine lv_goto (tgt := 81) hx hb dX5_tubeToEnter_77 (by decide) ?_
        exact hB81 _ _ _ _ _ h hw hS (lv_sub hl [] rfl)
    · have h := h.2 hc
      refine lv_null hx hb dX5_tubeToEnter_48 ?_
      exact hret none _ _ _ _ _ h hw hS dX5_tubeToEnter_49
  · have h := h.2 hc
    refine lv_null hx hb dX5_tubeToEnter_16 ?_
    exact hret none _ _ _ _ _ h hw hS dX5_tubeToEnter_17
def wb_X5_departFrom_79 (post : bS → Prop) (mc ms : Nat) (S : bS) : Prop := post S
def wb_X5_departFrom_73 (post : bS → Prop) (rec13 : Nat → Nat → Nat → Nat → Nat → Int32 → Int32 → bS → Prop) (mc ms : Nat) (v0 : Nat) (v1 : Nat) (v2 : Nat) (v3 : Int32) (v4 : Int32) (S : bS) : Prop := rec13 mc ms v0 v1 v2 v3 (v4 + (-1 : Int32)) S
def wb_X5_departFrom_13 (post : bS → Prop) : Nat → Nat → Nat → Nat → Nat → Nat → Int32 → Int32 → bS → Prop
  | 0, _, _, _, _, _, _, _, _ => False
  | n + 1, mc, ms, v0, v1, v2, v3, v4, S => (v4 ≤ (0 : Int32) → wb_X5_departFrom_79 post mc ms S) ∧ (¬ (v4 ≤ (0 : Int32)) → gK S v2 = 1 ∧ (wp_Jx4a65c_size_8abf5 (fun r8 S9 => (r8 ≤ v3 → wb_X5_departFrom_79 post mc ms S9) ∧ (¬ (r8 ≤ v3) → gK S9 v2 = 1 ∧ (wp_Jx4a65c_get_915e3 (fun r11 S12 => ∃ b13, r11 = some b13 ∧ (gK S12 b13 = 2 ∧ (gK S12 v0 = 7 ∧ (wp_X5_tubeToEnter (fun r17 S18 => (r17 = none → wb_X5_departFrom_73 post (wb_X5_departFrom_13 post n) mc ms v0 v1 v2 (v3 + (1 : Int32)) v4 S18) ∧ (∀ b19, r17 = some b19 → gK S18 v2 = 1 ∧ (wp_Jx4a65c_remove_915e3 (fun r21 S22 => ∃ b23, r21 = some b23 ∧ (gK S22 v0 = 7 ∧ (gK S22 b13 = 2 ∧ (∃ k29 n30, k29 ≤ mc ∧ n30 ≤ ms ∧ (wp_X0_enter (fun S28 => wb_X5_departFrom_73 post (wb_X5_departFrom_13 post n) (mc - k29) (ms - n30) v0 v1 v2 v3 v4 S28) k29 n30 b13 b19 (gV S22 7 v0 3) S22))))) v2 v3 S18))) v0 v1 b13 S12)))) v2 v3 S9))) v2 S))
def wp_X5_departFrom (post : bS → Prop) (MC MS : Nat) (this : Nat) (p1 : Nat) (S : bS) : Prop := gK S p1 = 5 ∧ (∃ b2, gQ S 5 p1 4 = some b2 ∧ (gK S b2 = 1 ∧ (wp_Jx4a65c_size_8abf5 (fun r5 S6 => ∃ n13, wb_X5_departFrom_13 post n13 MC MS this p1 b2 (0 : Int32) r5 S6) b2 S)))
set_option maxHeartbeats 4000000 in
set_option maxRecDepth 100000 in
theorem m_X5_departFrom {l : Launch} {D : va_G} {y : Nat → ClassId} {z : Nat} {A : Nat → Prop} {S : bS} {post : bS → Prop} {MC MS : Nat} {this : Nat} {p1 : Nat} (h : wp_X5_departFrom post MC MS this p1 S) : Met l yX5_departFrom wsX5_departFrom ({ frames := 8, cells := MC, slots := MS, locals := 213 } : Room) (va_Pc ([Value.ref this, Value.ref p1] : List Value) (bP D y z S A)) (va_Qv post (fun S' t => wd D y z S' A t.heap) A) MC MS A := by
  refine Met.ofW (cc := cX5_departFrom) (maxL := 7) (ret := none) (by decide) rfl ?_
  intro p e s m args below meth c s₁ B hml hv
  obtain ⟨rfl, hB⟩ := hv
  have hx := B.exec
  have hb := B.bytes
  have hr := B.returns
  have hts := atoms_spec (ws := wsX5_departFrom) B.pre
  have hown : s.vm.findClass RX5 = some m.cls := findClass_of_methodNamed B.named
  have hlocks := B.notSynchronized
  have hw : wd D y z S A s.heap := hB.1
  have hK : va_K D bCl (bT y) s := hB.2.1
  have hNw := hB.2.2.1
  have hAn : ∀ q : Nat, s.heap.size ≤ q → A q := hB.2.2.2.1
  have hAz : ¬ A z := hB.2.2.2.2.1
  have hO := hB.2.2.2.2.2.1
  have hS : va_S A s.heap s.heap [] := va_S.rf
  have hiX3 : ∀ w ∈ u_ws RX3 TX3 10, w ∈ wsX5_departFrom := by decide +kernel
  have hiX5 : ∀ w ∈ u_ws RX5 TX5 6, w ∈ wsX5_departFrom := by decide +kernel
  have hl := lv_entry ([Value.ref this, Value.ref p1] : List Value) (n := 7) (Nat.le_of_ble_eq_true rfl)
  rw [lg_entry_eq]
  generalize (lg_sl ([Value.ref this, Value.ref p1] : List Value) ++ List.replicate (7 - (lg_sl ([Value.ref this, Value.ref p1] : List Value)).length) Slot.unset).toArray = ls at hl ⊢
  have hl : lv_has ls 7 [(0, .ref this), (1, .ref p1)] := hl
  obtain ⟨Q, hQ⟩ : ∃ Q, Q = MQ below (va_Qv post (fun S' t => wd D y z S' A t.heap) A) (([Value.ref this, Value.ref p1] : List Value).toArray) s MC MS A := ⟨_, rfl⟩
  rw [← hQ]
  generalize hR : (headSpec wsX5_departFrom ({ frames := 8, cells := MC, slots := MS, locals := 213 } : Room)).room = R
  have hRf : 8 ≤ R.frames := by rw [← hR]; exact Nat.le_refl _
  have hRl : 213 ≤ R.locals := by rw [← hR]; exact Nat.le_refl _
  have hRc : R.cells = MC := by rw [← hR]; rfl
  have hRs : R.slots = MS := by rw [← hR]; rfl
  have hret : ∀ (S : bS) (H : Heap) (locs : List Loc) (pc : Nat) (ls : Array Slot) (cu su : Nat) , post S → wd D y z S A H → va_S A s.heap H locs → cu ≤ MC → su ≤ MS → decode cX5_departFrom pc = .ok (.return_, 1) → W p l e R s m (([Value.ref this, Value.ref p1] : List Value).toArray) below meth c H locs cu su Q (F0 m pc ls []) := by
    intro S H locs pc ls cu su h hw hS hcu hsu d0
    rw [hQ]; refine W.widen hcu hsu ?_; exact W.vret hx hb hr (fun t ht hW => ⟨⟨S, rfl, h, by show wd D y z S A t.heap; rw [ht]; exact hw⟩, hS.F ht⟩) hS.2.2 d0 hlocks
  have hB79 : ∀ (S : bS) (H : Heap) (locs : List Loc) (ls : Array Slot) (mc ms cu su : Nat) , wb_X5_departFrom_79 post mc ms S → wd D y z S A H → va_S A s.heap H locs → lv_has ls 7 [] → cu + mc ≤ MC → su + ms ≤ MS → W p l e R s m (([Value.ref this, Value.ref p1] : List Value).toArray) below meth c H locs cu su Q (F0 m 79 ls []) := by
    intro S H locs ls mc ms cu su  h hw hS hl hcu hsu
    unfold wb_X5_departFrom_79 at h
    exact hret _ _ _ _ _ _ _ h hw hS (by omega) (by omega) dX5_departFrom_79
  have hB13 : ∀ (n13 : Nat) (S : bS) (H : Heap) (locs : List Loc) (ls : Array Slot) (mc ms cu su : Nat) (v0 : Nat) (v1 : Nat) (v2 : Nat) (v3 : Int32) (v4 : Int32), wb_X5_departFrom_13 post n13 mc ms v0 v1 v2 v3 v4 S → wd D y z S A H → va_S A s.heap H locs → lv_has ls 7 [(0, .ref v0), (1, .ref v1), (2, .ref v2), (3, .int v3), (4, .int v4)] → cu + mc ≤ MC → su + ms ≤ MS → W p l e R s m (([Value.ref this, Value.ref p1] : List Value).toArray) below meth c H locs cu su Q (F0 m 13 ls []) := by
    intro n13
    induction n13 with
    | zero =>
      intro S H locs ls mc ms cu su v0 v1 v2 v3 v4 h hw hS hl hcu hsu
      exact absurd h (by unfold wb_X5_departFrom_13; exact id)
    | succ n13 ih13 =>
      have hB73 : ∀ (S : bS) (H : Heap) (locs : List Loc) (ls : Array Slot) (mc ms cu su : Nat) (v0 : Nat) (v1 : Nat) (v2 : Nat) (v3 : Int32) (v4 : Int32), wb_X5_departFrom_73 post (wb_X5_departFrom_13 post n13) mc ms v0 v1 v2 v3 v4 S → wd D y z S A H → va_S A s.heap H locs → lv_has ls 7 [(0, .ref v0), (1, .ref v1), (2, .ref v2), (3, .int v3), (4, .int v4)] → cu + mc ≤ MC → su + ms ≤ MS → W p l e R s m (([Value.ref this, Value.ref p1] : List Value).toArray) below meth c H locs cu su Q (F0 m 73 ls []) := by
        intro S H locs ls mc ms cu su v0 v1 v2 v3 v4 h hw hS hl hcu hsu
        unfold wb_X5_departFrom_73 at h
        refine lv_iinc (v := (v4 + (-1 : Int32))) hx hb dX5_departFrom_73 hl (k := 4) rfl rfl (by decide) rfl (fun ls hl => ?_)
        have hl : lv_has ls 7 [(4, .int (v4 + (-1 : Int32))), (0, .ref v0), (1, .ref v1), (2, .ref v2), (3, .int v3)] := hl
        refine lv_goto (tgt := 13) hx hb dX5_departFrom_76 (by decide) ?_
        exact ih13 _ _ _ _ _ _ _ _ _ _ _ _ _ h hw hS (lv_sub hl [1, 2, 3, 4, 0] rfl) hcu hsu
      intro S H locs ls mc ms cu su v0 v1 v2 v3 v4 h hw hS hl hcu hsu
      unfold wb_X5_departFrom_13 at h
      refine lv_iload hx hb dX5_departFrom_13 (lv_at hl 4 rfl) ?_
      refine lv_if_le (tgt := 79) hx hb dX5_departFrom_15 (by decide) (fun hc => ?_) (fun hc => ?_)
      · have h := h.1 hc
        exact hB79 _ _ _ _ _ _ _ _ h hw hS (lv_sub hl [] rfl) hcu hsu
      · have h := h.2 hc
        refine lv_iload_n hx hb dX5_departFrom_18 rfl (lv_at hl 3 rfl) ?_
        refine lv_aload_n hx hb dX5_departFrom_19 rfl (lv_at hl 2 rfl) ?_
        obtain ⟨hk7, h⟩ := h
        have h1 := h
        refine va_calli (va_runV (As := []) (rest := [.int v3]) ⟨hx, hb, hml, hown, hts⟩ (m_Jx4a65c_size_8abf5 (l := l) h1) (cwV 0 hts gX5_departFrom_Jx4a65c_size_8abf5 rfl rfl rfl (by decide +kernel) ⟨Nat.le_trans (Nat.le_of_ble_eq_true rfl) hRf, Nat.le_trans (Nat.le_of_ble_eq_true rfl) hRl⟩) (r_pV hB hw hS (ce_1 (S := S) hk7) rfl) rfl rfl hl.1 rfl (lv_room (Nat.le_of_ble_eq_true rfl)) dX5_departFrom_20 ⟨by omega, by omega⟩) hS (fun _ _ h => h) (fun _ h => h) (fun r8 S9 t H1 locs ht _ h hw1 _ _ hS => ?_)
        subst ht
        have hw : wd D y z S9 A t.heap := hw1
        clear hw1 h1
        refine lv_icmp_ge (tgt := 79) hx hb dX5_departFrom_23 (by decide) (fun hc => ?_) (fun hc => ?_)
        · have h := h.1 hc
          exact hB79 _ _ _ _ _ _ _ _ h hw hS (lv_sub hl [] rfl) hcu hsu
        · have h := h.2 hc
          refine lv_aload_n hx hb dX5_departFrom_26 rfl (lv_at hl 2 rfl) ?_
          refine lv_iload_n hx hb dX5_departFrom_27 rfl (lv_at hl 3 rfl) ?_
          obtain ⟨hk10, h⟩ := h
          have h1 := h
          refine va_callq (va_runV (As := [.int v3]) (rest := []) ⟨hx, hb, hml, hown, hts⟩ (m_Jx4a65c_get_915e3 (l := l) h1) (cwV 1 hts gX5_departFrom_Jx4a65c_get_915e3 rfl rfl rfl (by decide +kernel) ⟨Nat.le_trans (Nat.le_of_ble_eq_true rfl) hRf, Nat.le_trans (Nat.le_of_ble_eq_true rfl) hRl⟩) (r_pV hB hw hS (ce_1 (S := S9) hk10) rfl) rfl rfl hl.1 rfl (lv_room (Nat.le_of_ble_eq_true rfl)) dX5_departFrom_28 ⟨by omega, by omega⟩) hS (fun _ _ h => h) (fun _ h => h) (fun r11 S12 t H1 locs ht _ h hw1 _ _ hS => ?_)
          subst ht
          have hw : wd D y z S12 A t.heap := hw1
          clear hw1 h1
          obtain ⟨b13, rfl, h⟩ := h
          refine W.eq (g2 := F0 m 31 ls [.ref b13]) rfl ?_
          obtain ⟨hk15, h⟩ := h
          refine r_cast hx hb hown (hts (.classLink RX5 163 "TubePost$Carrier") (by decide +kernel)) hK hw (ce_2 hk15) rfl dX5_departFrom_31 ?_
          refine lv_astore hx hb dX5_departFrom_34 hl (by decide) rfl (fun ls hl => ?_)
          have hl : lv_has ls 7 [(5, .ref b13), (0, .ref v0), (1, .ref v1), (2, .ref v2), (3, .int v3), (4, .int v4)] := hl
          refine lv_aload_n hx hb dX5_departFrom_36 rfl (lv_at hl 1 rfl) ?_
          refine lv_aload_n hx hb dX5_departFrom_37 rfl (lv_at hl 2 rfl) ?_
          refine lv_aload hx hb dX5_departFrom_38 (lv_at hl 0 rfl) ?_
          obtain ⟨hk16, h⟩ := h
          have h1 := h
          refine va_callq (va_runV (As := [.ref v1, .ref b13]) (rest := []) ⟨hx, hb, hml, hown, hts⟩ (m_X5_tubeToEnter (l := l) h1) (cwV 2 hts gX5_departFrom_X5_tubeToEnter rfl rfl rfl (by decide +kernel) ⟨Nat.le_trans (Nat.le_of_ble_eq_true rfl) hRf, Nat.le_trans (Nat.le_of_ble_eq_true rfl) hRl⟩) (r_pV hB hw hS (ce_7 (S := S12) hk16) rfl) rfl rfl hl.1 rfl (lv_room (Nat.le_of_ble_eq_true rfl)) dX5_departFrom_40 ⟨by omega, by omega⟩) hS (fun _ _ h => h) (fun _ h => h) (fun r17 S18 t H1 locs ht _ h hw1 _ _ hS => ?_)
          subst ht
          have hw : wd D y z S18 A t.heap := hw1
          clear hw1 h1
          rcases r17 with _ | b19
          · have h := h.1 rfl
            refine W.eq (g2 := F0 m 43 ls [.null]) rfl ?_
            refine lv_astoreN hx hb dX5_departFrom_43 hl (by decide) rfl (fun ls hl => ?_)
            have hl : lv_has ls 7 [(6, .null), (5, .ref b13), (0, .ref v0), (1, .ref v1), (2, .ref v2), (3, .int v3), (4, .int v4)] := hl
            refine lv_aloadN hx hb dX5_departFrom_45 (lv_at hl 0 rfl) ?_
            refine lv_ifnonnullN hx hb dX5_departFrom_47 ?_
            refine lv_iinc (v := (v3 + (1 : Int32))) hx hb dX5_departFrom_50 hl (k := 5) rfl rfl (by decide) rfl (fun ls hl => ?_)
            have hl : lv_has ls 7 [(3, .int (v3 + (1 : Int32))), (6, .null), (5, .ref b13), (0, .ref v0), (1, .ref v1), (2, .ref v2), (4, .int v4)] := hl
            refine lv_goto (tgt := 73) hx hb dX5_departFrom_53 (by decide) ?_
            exact hB73 _ _ _ _ _ _ _ _ _ _ _ _ _ h hw hS (lv_sub hl [3, 4, 5, 0, 6] rfl) hcu hsu
          · have h := h.2 b19 rfl
            refine W.eq (g2 := F0 m 43 ls [.ref b19]) rfl ?_
            refine lv_astore hx hb dX5_departFrom_43 hl (by decide) rfl (fun ls hl => ?_)
            have hl : lv_has ls 7 [(6, .ref b19), (5, .ref b13), (0, .ref v0), (1, .ref v1), (2, .ref v2), (3, .int v3), (4, .int v4)] := hl
            refine lv_aload hx hb dX5_departFrom_45 (lv_at hl 0 rfl) ?_
            refine lv_ifnonnull (tgt := 56) hx hb dX5_departFrom_47 (by decide) ?_
            refine lv_aload_n hx hb dX5_departFrom_56 rfl (lv_at hl 4 rfl) ?_
            refine lv_iload_n hx hb dX5_departFrom_57 rfl (lv_at hl 5 rfl) ?_
            obtain ⟨hk20, h⟩ := h
            have h1 := h
            refine va_callq (va_runV (As := [.int v3]) (rest := []) ⟨hx, hb, hml, hown, hts⟩ (m_Jx4a65c_remove_915e3 (l := l) h1) (cwV 1 hts gX5_departFrom_Jx4a65c_remove_915e3 rfl rfl rfl (by decide +kernel) ⟨Nat.le_trans (Nat.le_of_ble_eq_true rfl) hRf, Nat.le_trans (Nat.le_of_ble_eq_true rfl) hRl⟩) (r_pV hB hw hS (ce_1 (S := S18) hk20) rfl) rfl rfl hl.1 rfl (lv_room (Nat.le_of_ble_eq_true rfl)) dX5_departFrom_58 ⟨by omega, by omega⟩) hS (fun _ _ h => h) (fun _ h => h) (fun r21 S22 t H1 locs ht _ h hw1 _ _ hS => ?_)
            subst ht
            have hw : wd D y z S22 A t.heap := hw1
            clear hw1 h1
            obtain ⟨b23, rfl, h⟩ := h
            refine W.eq (g2 := F0 m 61 ls [.ref b23]) rfl ?_
            refine lv_pop hx hb dX5_departFrom_61 rfl ?_
            refine lv_aload hx hb dX5_departFrom_62 (lv_at hl 1 rfl) ?_
            refine lv_aload hx hb dX5_departFrom_64 (lv_at hl 0 rfl) ?_
            refine lv_aload_n hx hb dX5_departFrom_66 rfl (lv_at hl 2 rfl) ?_
            obtain ⟨hk25, h⟩ := h
            refine r_get (ci := 6) (v := .int (gV S22 7 v0 3)) (C := RX5) (T := TX5) (N := 6) hx hb hts hiX5 hown hK hw (ce_7 (S := S22) hk25) rfl 3 (by decide) (hts (.fieldLink RX5 26 "TubePost" "tick" "I") (by decide +kernel)) (fun _ h9 => h9) rfl dX5_departFrom_67 ?_
            obtain ⟨hk26, h⟩ := h
            obtain ⟨k29, n30, hbg1, hbg2, h⟩ := h
            have h1 := h
            refine va_callv (va_runVN (As := [.ref b19, .int (gV S22 7 v0 3)]) (rest := []) ⟨hx, hb, hml, hown, hts⟩ (m_X0_enter (l := l) h1) ⟨va_cnB 2 hts gX5_departFrom_X0_enter_n337 rfl rfl rfl (hNw _ bNw_64) (hts (.initialized RX0) (by decide +kernel)) ⟨by decide +kernel, by decide +kernel, by decide +kernel⟩ ⟨Nat.le_trans (Nat.le_of_ble_eq_true rfl) hRf, Nat.le_trans (Nat.le_of_ble_eq_true rfl) hRl⟩, (hts (.instanceMethod yX0_enter) (by decide +kernel)), hts (.selects RX0 yX0_enter yX0_enter) (by decide +kernel)⟩ (r_pV hB hw hS (ce_2 (S := S22) hk26) rfl) rfl rfl hl.1 rfl (lv_room (Nat.le_of_ble_eq_true rfl)) dX5_departFrom_70 ⟨by omega, by omega⟩) hS (fun _ _ h => h) (fun _ h => h) (fun S28 t H1 locs ht _ h hw1 _ _ hS => ?_)
            subst ht
            have hw : wd D y z S28 A t.heap := hw1
            clear hw1 h1
            have hcu : (cu + k29) + (mc - k29) ≤ MC := by omega
            have hsu : (su + n30) + (ms - n30) ≤ MS := by omega
            exact hB73 _ _ _ _ _ _ _ _ _ _ _ _ _ h hw hS (lv_sub hl [2, 3, 4, 5, 6] rfl) hcu hsu
  unfold wp_X5_departFrom at h
  have hcu : 0 + MC ≤ MC := by omega
  have hsu : 0 + MS ≤ MS := by omega
  refine lv_aload_n hx hb dX5_departFrom_0 rfl (lv_at hl 1 rfl) ?_
  obtain ⟨hk1, h⟩ := h
  obtain ⟨b2, hb3, h⟩ := h
  refine r_getN (ci := 4) (v := .ref b2) (C := RX3) (T := TX3) (N := 10) hx hb hts hiX3 hown hK hw (ce_5 (S := S) hk1) rfl 4 (by decide) (hNw _ (bNw_15)) (fun _ h9 => h9) (congrArg (fun q => some (va_rf q)) hb3) dX5_departFrom_1 ?_
  refine lv_astore_n hx hb dX5_departFrom_4 rfl hl (by decide) rfl (fun ls hl => ?_)
  have hl : lv_has ls 7 [(2, .ref b2), (0, .ref this), (1, .ref p1)] := hl
  refine lv_iconst (v := (0 : Int32)) hx hb dX5_departFrom_5 (by decide) ?_
  refine lv_istore_n hx hb dX5_departFrom_6 rfl hl (by decide) rfl (fun ls hl => ?_)
  have hl : lv_has ls 7 [(3, .int (0 : Int32)), (2, .ref b2), (0, .ref this), (1, .ref p1)] := hl
  refine lv_aload_n hx hb dX5_departFrom_7 rfl (lv_at hl 1 rfl) ?_
  obtain ⟨hk4, h⟩ := h
  have h1 := h
  refine va_calli (va_runV (As := []) (rest := []) ⟨hx, hb, hml, hown, hts⟩ (m_Jx4a65c_size_8abf5 (l := l) h1) (cwV 0 hts gX5_departFrom_Jx4a65c_size_8abf5 rfl rfl rfl (by decide +kernel) ⟨Nat.le_trans (Nat.le_of_ble_eq_true rfl) hRf, Nat.le_trans (Nat.le_of_ble_eq_true rfl) hRl⟩) (r_pV hB hw hS (ce_1 (S := S) hk4) rfl) rfl rfl hl.1 rfl (lv_room (Nat.le_of_ble_eq_true rfl)) dX5_departFrom_8 ⟨by omega, by omega⟩) hS (fun _ _ h => h) (fun _ h => h) (fun r5 S6 t H1 locs ht _ h hw1 _ _ hS => ?_)
  subst ht
  have hw : wd D y z S6 A t.heap := hw1
  clear hw1 h1
  refine lv_istore hx hb dX5_departFrom_11 hl (by decide) rfl (fun ls hl => ?_)
  have hl : lv_has ls 7 [(4, .int r5), (3, .int (0 : Int32)), (2, .ref b2), (0, .ref this), (1, .ref p1)] := hl
  obtain ⟨n13, h⟩ := h
  exact hB13 n13 _ _ _ _ _ _ _ _ _ _ _ _ _ h hw hS (lv_sub hl [3, 4, 2, 1, 0] rfl) hcu hsu
def wb_X5_departEverywhere_2 (post : bS → Prop) : Nat → Nat → Nat → Nat → Int32 → bS → Prop
  | 0, _, _, _, _, _ => False
  | n + 1, mc, ms, v0, v1, S => gK S v0 = 7 ∧ (∃ b2, gQ S 7 v0 0 = some b2 ∧ (gK S b2 = 4 ∧ (∃ b5, gQ S 4 b2 0 = some b5 ∧ (gK S b5 = 1 ∧ (wp_Jx4a65c_size_8abf5 (fun r8 S9 => (r8 ≤ v1 → post S9) ∧ (¬ (r8 ≤ v1) → gK S9 v0 = 7 ∧ (∃ b11, gQ S9 7 v0 0 = some b11 ∧ (gK S9 b11 = 4 ∧ (∃ b14, gQ S9 4 b11 0 = some b14 ∧ (gK S9 b14 = 1 ∧ (wp_Jx4a65c_get_915e3 (fun r17 S18 => ∃ b19, r17 = some b19 ∧ (gK S18 b19 = 5 ∧ (gK S18 v0 = 7 ∧ (∃ k25 n26, k25 ≤ mc ∧ n26 ≤ ms ∧ (wp_X5_departFrom (fun S24 => (wb_X5_departEverywhere_2 post n) (mc - k25) (ms - n26) v0 (v1 + (1 : Int32)) S24) k25 n26 v0 b19 S18))))) b14 v1 S9))))))) b5 S)))))
def wp_X5_departEverywhere (post : bS → Prop) (MC MS : Nat) (this : Nat) (S : bS) : Prop := ∃ n2, wb_X5_departEverywhere_2 post n2 MC MS this (0 : Int32) S
set_option maxHeartbeats 4000000 in
set_option maxRecDepth 100000 in
theorem m_X5_departEverywhere {l : Launch} {D : va_G} {y : Nat → ClassId} {z : Nat} {A : Nat → Prop} {S : bS} {post : bS → Prop} {MC MS : Nat} {this : Nat} (h : wp_X5_departEverywhere post MC MS this S) : Met l yX5_departEverywhere wsX5_departEverywhere ({ frames := 9, cells := MC, slots := MS, locals := 239 } : Room) (va_Pc ([Value.ref this] : List Value) (bP D y z S A)) (va_Qv post (fun S' t => wd D y z S' A t.heap) A) MC MS A := by
  refine Met.ofW (cc := cX5_departEverywhere) (maxL := 2) (ret := none) (by decide) rfl ?_
  intro p e s m args below meth c s₁ B hml hv
  obtain ⟨rfl, hB⟩ := hv
  have hx := B.exec
  have hb := B.bytes
  have hr := B.returns
  have hts := atoms_spec (ws := wsX5_departEverywhere) B.pre
  have hown : s.vm.findClass RX5 = some m.cls := findClass_of_methodNamed B.named
  have hlocks := B.notSynchronized
  have hw : wd D y z S A s.heap := hB.1
  have hK : va_K D bCl (bT y) s := hB.2.1
  have hNw := hB.2.2.1
  have hAn : ∀ q : Nat, s.heap.size ≤ q → A q := hB.2.2.2.1
  have hAz : ¬ A z := hB.2.2.2.2.1
  have hO := hB.2.2.2.2.2.1
  have hS : va_S A s.heap s.heap [] := va_S.rf
  have hiX2 : ∀ w ∈ u_ws RX2 TX2 2, w ∈ wsX5_departEverywhere := by decide +kernel
  have hiX5 : ∀ w ∈ u_ws RX5 TX5 6, w ∈ wsX5_departEverywhere := by decide +kernel
  have hl := lv_entry ([Value.ref this] : List Value) (n := 2) (Nat.le_of_ble_eq_true rfl)
  rw [lg_entry_eq]
  generalize (lg_sl ([Value.ref this] : List Value) ++ List.replicate (2 - (lg_sl ([Value.ref this] : List Value)).length) Slot.unset).toArray = ls at hl ⊢
  have hl : lv_has ls 2 [(0, .ref this)] := hl
  obtain ⟨Q, hQ⟩ : ∃ Q, Q = MQ below (va_Qv post (fun S' t => wd D y z S' A t.heap) A) (([Value.ref this] : List Value).toArray) s MC MS A := ⟨_, rfl⟩
  rw [← hQ]
  generalize hR : (headSpec wsX5_departEverywhere ({ frames := 9, cells := MC, slots := MS, locals := 239 } : Room)).room = R
  have hRf : 9 ≤ R.frames := by rw [← hR]; exact Nat.le_refl _
  have hRl : 239 ≤ R.locals := by rw [← hR]; exact Nat.le_refl _
  have hRc : R.cells = MC := by rw [← hR]; rfl
  have hRs : R.slots = MS := by rw [← hR]; rfl
  have hret : ∀ (S : bS) (H : Heap) (locs : List Loc) (pc : Nat) (ls : Array Slot) (cu su : Nat) , post S → wd D y z S A H → va_S A s.heap H locs → cu ≤ MC → su ≤ MS → decode cX5_departEverywhere pc = .ok (.return_, 1) → W p l e R s m (([Value.ref this] : List Value).toArray) below meth c H locs cu su Q (F0 m pc ls []) := by
    intro S H locs pc ls cu su h hw hS hcu hsu d0
    rw [hQ]; refine W.widen hcu hsu ?_; exact W.vret hx hb hr (fun t ht hW => ⟨⟨S, rfl, h, by show wd D y z S A t.heap; rw [ht]; exact hw⟩, hS.F ht⟩) hS.2.2 d0 hlocks
  have hB2 : ∀ (n2 : Nat) (S : bS) (H : Heap) (locs : List Loc) (ls : Array Slot) (mc ms cu su : Nat) (v0 : Nat) (v1 : Int32), wb_X5_departEverywhere_2 post n2 mc ms v0 v1 S → wd D y z S A H → va_S A s.heap H locs → lv_has ls 2 [(0, .ref v0), (1, .int v1)] → cu + mc ≤ MC → su + ms ≤ MS → W p l e R s m (([Value.ref this] : List Value).toArray) below meth c H locs cu su Q (F0 m 2 ls []) := by
    intro n2
    induction n2 with
    | zero =>
      intro S H locs ls mc ms cu su v0 v1 h hw hS hl hcu hsu
      exact absurd h (by unfold wb_X5_departEverywhere_2; exact id)
    | succ n2 ih2 =>
      intro S H locs ls mc ms cu su v0 v1 h hw hS hl hcu hsu
      unfold wb_X5_departEverywhere_2 at h
      refine lv_iload_n hx hb dX5_departEverywhere_2 rfl (lv_at hl 1 rfl) ?_
      refine lv_aload_n hx hb dX5_departEverywhere_3 rfl (lv_at hl 0 rfl) ?_
      obtain ⟨hk1, h⟩ := h
      obtain ⟨b2, hb3, h⟩ := h
      refine r_get (ci := 6) (v := .ref b2) (C := RX5) (T := TX5) (N := 6) hx hb hts hiX5 hown hK hw (ce_7 (S := S) hk1) rfl 0 (by decide) (hts (.fieldLink RX5 10 "TubePost" "net" "LTubePost$Net;") (by decide +kernel)) (fun _ h9 => h9) (congrArg (fun q => some (va_rf q)) hb3) dX5_departEverywhere_4 ?_
      obtain ⟨hk4, h⟩ := h
      obtain ⟨b5, hb6, h⟩ := h
      refine r_getN (ci := 3) (v := .ref b5) (C := RX2) (T := TX2) (N := 2) hx hb hts hiX2 hown hK hw (ce_4 (S := S) hk4) rfl 0 (by decide) (hNw _ (bNw_0)) (fun _ h9 => h9) (congrArg (fun q => some (va_rf q)) hb6) dX5_departEverywhere_7 ?_
      obtain ⟨hk7, h⟩ := h
      have h1 := h
      refine va_calli (va_runV (As := []) (rest := [.int v1]) ⟨hx, hb, hml, hown, hts⟩ (m_Jx4a65c_size_8abf5 (l := l) h1) (cwV 0 hts gX5_departEverywhere_Jx4a65c_size_8abf5 rfl rfl rfl (by decide +kernel) ⟨Nat.le_trans (Nat.le_of_ble_eq_true rfl) hRf, Nat.le_trans (Nat.le_of_ble_eq_true rfl) hRl⟩) (r_pV hB hw hS (ce_1 (S := S) hk7) rfl) rfl rfl hl.1 rfl (lv_room (Nat.le_of_ble_eq_true rfl)) dX5_departEverywhere_10 ⟨by omega, by omega⟩) hS (fun _ _ h => h) (fun _ h => h) (fun r8 S9 t H1 locs ht _ h hw1 _ _ hS => ?_)
      subst ht
      have hw : wd D y z S9 A t.heap := hw1
      clear hw1 h1
      refine lv_icmp_ge (tgt := 40) hx hb dX5_departEverywhere_13 (by decide) (fun hc => ?_) (fun hc => ?_)
      · have h := h.1 hc
        exact hret _ _ _ _ _ _ _ h hw hS (by omega) (by omega) dX5_departEverywhere_40
      · have h := h.2 hc
        refine lv_aload_n hx hb dX5_departEverywhere_16 rfl (lv_at hl 0 rfl) ?_
        refine lv_aload_n hx hb dX5_departEverywhere_17 rfl (lv_at hl 0 rfl) ?_
        obtain ⟨hk10, h⟩ := h
        obtain ⟨b11, hb12, h⟩ := h
        refine r_get (ci := 6) (v := .ref b11) (C := RX5) (T := TX5) (N := 6) hx hb hts hiX5 hown hK hw (ce_7 (S := S9) hk10) rfl 0 (by decide) (hts (.fieldLink RX5 10 "TubePost" "net" "LTubePost$Net;") (by decide +kernel)) (fun _ h9 => h9) (congrArg (fun q => some (va_rf q)) hb12) dX5_departEverywhere_18 ?_
        obtain ⟨hk13, h⟩ := h
        obtain ⟨b14, hb15, h⟩ := h
        refine r_getN (ci := 3) (v := .ref b14) (C := RX2) (T := TX2) (N := 2) hx hb hts hiX2 hown hK hw (ce_4 (S := S9) hk13) rfl 0 (by decide) (hNw _ (bNw_0)) (fun _ h9 => h9) (congrArg (fun q => some (va_rf q)) hb15) dX5_departEverywhere_21 ?_
        refine lv_iload_n hx hb dX5_departEverywhere_24 rfl (lv_at hl 1 rfl) ?_
        obtain ⟨hk16, h⟩ := h
        have h1 := h
        refine va_callq (va_runV (As := [.int v1]) (rest := [.ref v0]) ⟨hx, hb, hml, hown, hts⟩ (m_Jx4a65c_get_915e3 (l := l) h1) (cwV 1 hts gX5_departEverywhere_Jx4a65c_get_915e3 rfl rfl rfl (by decide +kernel) ⟨Nat.le_trans (Nat.le_of_ble_eq_true rfl) hRf, Nat.le_trans (Nat.le_of_ble_eq_true rfl) hRl⟩) (r_pV hB hw hS (ce_1 (S := S9) hk16) rfl) rfl rfl hl.1 rfl (lv_room (Nat.le_of_ble_eq_true rfl)) dX5_departEverywhere_25 ⟨by omega, by omega⟩) hS (fun _ _ h => h) (fun _ h => h) (fun r17 S18 t H1 locs ht _ h hw1 _ _ hS => ?_)
        subst ht
        have hw : wd D y z S18 A t.heap := hw1
        clear hw1 h1
        obtain ⟨b19, rfl, h⟩ := h
        refine W.eq (g2 := F0 m 28 ls [.ref b19, .ref v0]) rfl ?_
        obtain ⟨hk21, h⟩ := h
        refine r_cast hx hb hown (hts (.classLink RX5 77 "TubePost$Station") (by decide +kernel)) hK hw (ce_5 hk21) rfl dX5_departEverywhere_28 ?_
        obtain ⟨hk22, h⟩ := h
        obtain ⟨k25, n26, hbg1, hbg2, h⟩ := h
        have h1 := h
        refine va_callv (va_runV (As := [.ref b19]) (rest := []) ⟨hx, hb, hml, hown, hts⟩ (m_X5_departFrom (l := l) h1) (cwV 1 hts gX5_departEverywhere_X5_departFrom rfl rfl rfl (by decide +kernel) ⟨Nat.le_trans (Nat.le_of_ble_eq_true rfl) hRf, Nat.le_trans (Nat.le_of_ble_eq_true rfl) hRl⟩) (r_pV hB hw hS (ce_7 (S := S18) hk22) rfl) rfl rfl hl.1 rfl (lv_room (Nat.le_of_ble_eq_true rfl)) dX5_departEverywhere_31 ⟨by omega, by omega⟩) hS (fun _ _ h => h) (fun _ h => h) (fun S24 t H1 locs ht _ h hw1 _ _ hS => ?_)
        subst ht
        have hw : wd D y z S24 A t.heap := hw1
        clear hw1 h1
        have hcu : (cu + k25) + (mc - k25) ≤ MC := by omega
        have hsu : (su + n26) + (ms - n26) ≤ MS := by omega
        refine lv_iinc (v := (v1 + (1 : Int32))) hx hb dX5_departEverywhere_34 hl (k := 1) rfl rfl (by decide) rfl (fun ls hl => ?_)
        have hl : lv_has ls 2 [(1, .int (v1 + (1 : Int32))), (0, .ref v0)] := hl
        refine lv_goto (tgt := 2) hx hb dX5_departEverywhere_37 (by decide) ?_
        exact ih2 _ _ _ _ _ _ _ _ _ _ h hw hS (lv_sub hl [1, 0] rfl) hcu hsu
  unfold wp_X5_departEverywhere at h
  have hcu : 0 + MC ≤ MC := by omega
  have hsu : 0 + MS ≤ MS := by omega
  refine lv_iconst (v := (0 : Int32)) hx hb dX5_departEverywhere_0 (by decide) ?_
  refine lv_istore_n hx hb dX5_departEverywhere_1 rfl hl (by decide) rfl (fun ls hl => ?_)
  have hl : lv_has ls 2 [(1, .int (0 : Int32)), (0, .ref this)] := hl
  obtain ⟨n2, h⟩ := h
  exact hB2 n2 _ _ _ _ _ _ _ _ _ _ h hw hS (lv_sub hl [1, 0] rfl) hcu hsu
def wb_X5_run_28 (post : Int32 → bS → Prop) (xp : String → bS → Prop) : Nat → Nat → Nat → Nat → Int32 → Int32 → Int32 → bS → Prop
  | 0, _, _, _, _, _, _, _ => False
  | n + 1, mc, ms, v0, v1, v2, v3, S => (v1 ≤ v3 → gK S v0 = 7 ∧ (post ((gV S 7 v0 4) - v2) S)) ∧ (¬ (v1 ≤ v3) → gK S v0 = 7 ∧ (∃ k8 n9, k8 ≤ mc ∧ n9 ≤ ms ∧ (wp_X5_strikeClock (fun S7 => gK S7 v0 = 7 ∧ (∃ k13 n14, k13 ≤ (mc - k8) ∧ n14 ≤ (ms - n9) ∧ (wp_X5_arriveEverywhere (fun S12 => gK S12 v0 = 7 ∧ (∃ k18 n19, k18 ≤ ((mc - k8) - k13) ∧ n19 ≤ ((ms - n9) - n14) ∧ (wp_X5_departEverywhere (fun S17 => (wb_X5_run_28 post xp n) (((mc - k8) - k13) - k18) (((ms - n9) - n14) - n19) v0 v1 v2 (v3 + (1 : Int32)) S17) k18 n19 v0 S12))) k13 n14 v0 S7))) k8 n9 v0 (sV S 7 v0 3 ((gV S 7 v0 3) + (1 : Int32))))))
def wp_X5_run (post : Int32 → bS → Prop) (xp : String → bS → Prop) (MC MS : Nat) (this : Nat) (p1 : Int32) (S : bS) : Prop := wp_X5_isOutside (fun r1 S2 => (r1 = (0 : Int32) → gK S2 this = 7 ∧ (∃ n28, wb_X5_run_28 post xp n28 MC MS this p1 (gV S2 7 this 4) (0 : Int32) S2)) ∧ (¬ (r1 = (0 : Int32)) → 1 ≤ MC ∧ 6 ≤ MS ∧ xp "java/lang/IllegalArgumentException" S2)) p1 (1 : Int32) (500 : Int32) S
set_option maxHeartbeats 4000000 in
set_option maxRecDepth 100000 in
theorem m_X5_run {l : Launch} {D : va_G} {y : Nat → ClassId} {z : Nat} {A : Nat → Prop} {S : bS} {post : Int32 → bS → Prop} {xp : String → bS → Prop} (hl0 : l.stackTraces = false) {MC MS : Nat} {this : Nat} {p1 : Int32} (h : wp_X5_run post xp MC MS this p1 S) : vx_Met l yX5_run wsX5_run ({ frames := 12, cells := MC, slots := MS, locals := 400 } : Room) (va_Pc ([Value.ref this, Value.int p1] : List Value) (bP D y z S A)) (va_Qi post (fun S' t => wd D y z S' A t.heap) A) (bX D y z A xp) MC MS A := by
  refine vx_ofW (cc := cX5_run) (maxL := 4) (ret := (some .int)) (by decide) rfl ?_
  intro p e s m args below meth c s₁ B hml hex hv
  obtain ⟨rfl, hB⟩ := hv
  have hx := B.exec
  have hb := B.bytes
  have hr := B.returns
  have hts := atoms_spec (ws := wsX5_run) B.pre
  have hown : s.vm.findClass RX5 = some m.cls := findClass_of_methodNamed B.named
  have hlocks := B.notSynchronized
  have hw : wd D y z S A s.heap := hB.1
  have hK : va_K D bCl (bT y) s := hB.2.1
  have hNw := hB.2.2.1
  have hAn : ∀ q : Nat, s.heap.size ≤ q → A q := hB.2.2.2.1
  have hAz : ¬ A z := hB.2.2.2.2.1
  have hO := hB.2.2.2.2.2.1
  have hS : va_S A s.heap s.heap [] := va_S.rf
  have hiX5 : ∀ w ∈ u_ws RX5 TX5 6, w ∈ wsX5_run := by decide +kernel
  have hl := lv_entry ([Value.ref this, Value.int p1] : List Value) (n := 4) (Nat.le_of_ble_eq_true rfl)
  rw [lg_entry_eq]
  generalize (lg_sl ([Value.ref this, Value.int p1] : List Value) ++ List.replicate (4 - (lg_sl ([Value.ref this, Value.int p1] : List Value)).length) Slot.unset).toArray = ls at hl ⊢
  have hl : lv_has ls 4 [(0, .ref this), (1, .int p1)] := hl
  obtain ⟨Q, hQ⟩ : ∃ Q, Q = vx_MQ below (va_Qi post (fun S' t => wd D y z S' A t.heap) A) (bX D y z A xp) (([Value.ref this, Value.int p1] : List Value).toArray) s MC MS A := ⟨_, rfl⟩
  rw [← hQ]
  generalize hR : (headSpec wsX5_run ({ frames := 12, cells := MC, slots := MS, locals := 400 } : Room)).room = R
  have hRf : 12 ≤ R.frames := by rw [← hR]; exact Nat.le_refl _
  have hRl : 400 ≤ R.locals := by rw [← hR]; exact Nat.le_refl _
  have hRc : R.cells = MC := by rw [← hR]; rfl
  have hRs : R.slots = MS := by rw [← hR]; rfl
  have hret : ∀ (v : Int32) (S : bS) (H : Heap) (locs : List Loc) (pc : Nat) (ls : Array Slot) (cu su : Nat) , post v S → wd D y z S A H → va_S A s.heap H locs → cu ≤ MC → su ≤ MS → decode cX5_run pc = .ok (.ireturn, 1) → W p l e R s m (([Value.ref this, Value.int p1] : List Value).toArray) below meth c H locs cu su Q (F0 m pc ls [.int v]) := by
    intro v S H locs pc ls cu su h hw hS hcu hsu d0
    rw [hQ]; refine vx_ret ?_; refine W.widen hcu hsu ?_; exact W.iret hx hb hr (fun t ht hW => ⟨⟨v, S, rfl, h, by show wd D y z S A t.heap; rw [ht]; exact hw⟩, hS.F ht⟩) hS.2.2 d0 hlocks
  have hB28 : ∀ (n28 : Nat) (S : bS) (H : Heap) (locs : List Loc) (ls : Array Slot) (mc ms cu su : Nat) (v0 : Nat) (v1 : Int32) (v2 : Int32) (v3 : Int32), wb_X5_run_28 post xp n28 mc ms v0 v1 v2 v3 S → wd D y z S A H → va_S A s.heap H locs → lv_has ls 4 [(0, .ref v0), (1, .int v1), (2, .int v2), (3, .int v3)] → cu + mc ≤ MC → su + ms ≤ MS → W p l e R s m (([Value.ref this, Value.int p1] : List Value).toArray) below meth c H locs cu su Q (F0 m 28 ls []) := by
    intro n28
    induction n28 with
    | zero =>
      intro S H locs ls mc ms cu su v0 v1 v2 v3 h hw hS hl hcu hsu
      exact absurd h (by unfold wb_X5_run_28; exact id)
    | succ n28 ih28 =>
      intro S H locs ls mc ms cu su v0 v1 v2 v3 h hw hS hl hcu hsu
      unfold wb_X5_run_28 at h
      refine lv_iload_n hx hb dX5_run_28 rfl (lv_at hl 3 rfl) ?_
      refine lv_iload_n hx hb dX5_run_29 rfl (lv_at hl 1 rfl) ?_
      refine lv_icmp_ge (tgt := 61) hx hb dX5_run_30 (by decide) (fun hc => ?_) (fun hc => ?_)
      · have h := h.1 hc
        refine lv_aload_n hx hb dX5_run_61 rfl (lv_at hl 0 rfl) ?_
        obtain ⟨hk4, h⟩ := h
        refine r_get (ci := 6) (v := .int (gV S 7 v0 4)) (C := RX5) (T := TX5) (N := 6) hx hb hts hiX5 hown hK hw (ce_7 (S := S) hk4) rfl 4 (by decide) (hts (.fieldLink RX5 30 "TubePost" "delivered" "I") (by decide +kernel)) (fun _ h9 => h9) rfl dX5_run_62 ?_
        refine lv_iload_n hx hb dX5_run_65 rfl (lv_at hl 2 rfl) ?_
        refine lv_isub hx hb dX5_run_66 ?_
        exact hret ((gV S 7 v0 4) - v2) _ _ _ _ _ _ _ h hw hS (by omega) (by omega) dX5_run_67
      · have h := h.2 hc
        refine lv_aload_n hx hb dX5_run_33 rfl (lv_at hl 0 rfl) ?_
        refine lv_dup hx hb dX5_run_34 rfl ?_
        obtain ⟨hk5, h⟩ := h
        refine r_get (ci := 6) (v := .int (gV S 7 v0 3)) (C := RX5) (T := TX5) (N := 6) hx hb hts hiX5 hown hK hw (ce_7 (S := S) hk5) rfl 3 (by decide) (hts (.fieldLink RX5 26 "TubePost" "tick" "I") (by decide +kernel)) (fun _ h9 => h9) rfl dX5_run_35 ?_
        refine lv_iconst (v := (1 : Int32)) hx hb dX5_run_38 (by decide) ?_
        refine lv_iadd hx hb dX5_run_39 ?_
        refine r_putI (κ := 7) (ci := 6) (C := RX5) (T := TX5) (N := 6) (ty := .int) (x := ((gV S 7 v0 3) + (1 : Int32))) hx hb hts hiX5 tyX5 tyX5_ok nmX5 hown hK hw hS (ce_7 (S := S) hk5) rfl 3 (by decide) (hts (.fieldLink RX5 26 "TubePost" "tick" "I") (by decide +kernel)) (fun _ h9 => h9) rfl (by decide +kernel) rfl rfl (Nat.le_of_ble_eq_true rfl) (pu_7_3 (S := S) hk5) dX5_run_40 (fun H locs hw hS => ?_)
        refine lv_aload_n hx hb dX5_run_43 rfl (lv_at hl 0 rfl) ?_
        obtain ⟨k8, n9, hbg1, hbg2, h⟩ := h
        have h1 := h
        refine va_callv (va_runV (As := []) (rest := []) ⟨hx, hb, hml, hown, hts⟩ (m_X5_strikeClock (l := l) h1) (cwV 0 hts gX5_run_X5_strikeClock rfl rfl rfl (by decide +kernel) ⟨Nat.le_trans (Nat.le_of_ble_eq_true rfl) hRf, Nat.le_trans (Nat.le_of_ble_eq_true rfl) hRl⟩) (r_pV hB hw hS (ce_7 (S := (sV S 7 v0 3 ((gV S 7 v0 3) + (1 : Int32)))) hk5) rfl) rfl rfl hl.1 rfl (lv_room (Nat.le_of_ble_eq_true rfl)) dX5_run_44 ⟨by omega, by omega⟩) hS (fun _ _ h => h) (fun _ h => h) (fun S7 t H1 locs ht _ h hw1 _ _ hS => ?_)
        subst ht
        have hw : wd D y z S7 A t.heap := hw1
        clear hw1 h1
        have hcu : (cu + k8) + (mc - k8) ≤ MC := by omega
        have hsu : (su + n9) + (ms - n9) ≤ MS := by omega
        refine lv_aload_n hx hb dX5_run_47 rfl (lv_at hl 0 rfl) ?_
        obtain ⟨hk10, h⟩ := h
        obtain ⟨k13, n14, hbg1, hbg2, h⟩ := h
        have h1 := h
        refine va_callv (va_runV (As := []) (rest := []) ⟨hx, hb, hml, hown, hts⟩ (m_X5_arriveEverywhere (l := l) h1) (cwV 0 hts gX5_run_X5_arriveEverywhere rfl rfl rfl (by decide +kernel) ⟨Nat.le_trans (Nat.le_of_ble_eq_true rfl) hRf, Nat.le_trans (Nat.le_of_ble_eq_true rfl) hRl⟩) (r_pV hB hw hS (ce_7 (S := S7) hk10) rfl) rfl rfl hl.1 rfl (lv_room (Nat.le_of_ble_eq_true rfl)) dX5_run_48 ⟨by omega, by omega⟩) hS (fun _ _ h => h) (fun _ h => h) (fun S12 t H1 locs ht _ h hw1 _ _ hS => ?_)
        subst ht
        have hw : wd D y z S12 A t.heap := hw1
        clear hw1 h1
        have hcu : ((cu + k8) + k13) + ((mc - k8) - k13) ≤ MC := by omega
        have hsu : ((su + n9) + n14) + ((ms - n9) - n14) ≤ MS := by omega
        refine lv_aload_n hx hb dX5_run_51 rfl (lv_at hl 0 rfl) ?_
        obtain ⟨hk15, h⟩ := h
        obtain ⟨k18, n19, hbg1, hbg2, h⟩ := h
        have h1 := h
        refine va_callv (va_runV (As := []) (rest := []) ⟨hx, hb, hml, hown, hts⟩ (m_X5_departEverywhere (l := l) h1) (cwV 0 hts gX5_run_X5_departEverywhere rfl rfl rfl (by decide +kernel) ⟨Nat.le_trans (Nat.le_of_ble_eq_true rfl) hRf, Nat.le_trans (Nat.le_of_ble_eq_true rfl) hRl⟩) (r_pV hB hw hS (ce_7 (S := S12) hk15) rfl) rfl rfl hl.1 rfl (lv_room (Nat.le_of_ble_eq_true rfl)) dX5_run_52 ⟨by omega, by omega⟩) hS (fun _ _ h => h) (fun _ h => h) (fun S17 t H1 locs ht _ h hw1 _ _ hS => ?_)
        subst ht
        have hw : wd D y z S17 A t.heap := hw1
        clear hw1 h1
        have hcu : (((cu + k8) + k13) + k18) + (((mc - k8) - k13) - k18) ≤ MC := by omega
        have hsu : (((su + n9) + n14) + n19) + (((ms - n9) - n14) - n19) ≤ MS := by omega
        refine lv_iinc (v := (v3 + (1 : Int32))) hx hb dX5_run_55 hl (k := 3) rfl rfl (by decide) rfl (fun ls hl => ?_)
        have hl : lv_has ls 4 [(3, .int (v3 + (1 : Int32))), (0, .ref v0), (1, .int v1), (2, .int v2)] := hl
        refine lv_goto (tgt := 28) hx hb dX5_run_58 (by decide) ?_
        exact ih28 _ _ _ _ _ _ _ _ _ _ _ _ h hw hS (lv_sub hl [1, 2, 3, 0] rfl) hcu hsu
  unfold wp_X5_run at h
  have hcu : 0 + MC ≤ MC := by omega
  have hsu : 0 + MS ≤ MS := by omega
  refine lv_iload_n hx hb dX5_run_0 rfl (lv_at hl 1 rfl) ?_
  refine lv_iconst (v := (1 : Int32)) hx hb dX5_run_1 (by decide) ?_
  refine lv_sipush (v := (500 : Int32)) hx hb dX5_run_2 (by decide) ?_
  have h1 := h
  refine va_calli (va_runS (As := [.int p1, .int (1 : Int32), .int (500 : Int32)]) (rest := []) ⟨hx, hb, hml, hown, hts⟩ (m_X5_isOutside (l := l) h1) (cwS 3 hts gX5_run_X5_isOutside rfl rfl rfl (by decide +kernel) ⟨Nat.le_trans (Nat.le_of_ble_eq_true rfl) hRf, Nat.le_trans (Nat.le_of_ble_eq_true rfl) hRl⟩) (r_pS hB hw hS) rfl rfl hl.1 rfl (lv_room (Nat.le_of_ble_eq_true rfl)) dX5_run_5 ⟨by omega, by omega⟩) hS (fun _ _ h => h) (fun _ h => h) (fun r1 S2 t H1 locs ht _ h hw1 _ _ hS => ?_)
  subst ht
  have hw : wd D y z S2 A t.heap := hw1
  clear hw1 h1
  refine lv_if_eq (tgt := 21) hx hb dX5_run_8 (by decide) (fun hc => ?_) (fun hc => ?_)
  · have h := h.1 hc
    refine lv_aload_n hx hb dX5_run_21 rfl (lv_at hl 0 rfl) ?_
    obtain ⟨hk3, h⟩ := h
    refine r_get (ci := 6) (v := .int (gV S2 7 this 4)) (C := RX5) (T := TX5) (N := 6) hx hb hts hiX5 hown hK hw (ce_7 (S := S2) hk3) rfl 4 (by decide) (hts (.fieldLink RX5 30 "TubePost" "delivered" "I") (by decide +kernel)) (fun _ h9 => h9) rfl dX5_run_22 ?_
    refine lv_istore_n hx hb dX5_run_25 rfl hl (by decide) rfl (fun ls hl => ?_)
    have hl : lv_has ls 4 [(2, .int (gV S2 7 this 4)), (0, .ref this), (1, .int p1)] := hl
    refine lv_iconst (v := (0 : Int32)) hx hb dX5_run_26 (by decide) ?_
    refine lv_istore_n hx hb dX5_run_27 rfl hl (by decide) rfl (fun ls hl => ?_)
    have hl : lv_has ls 4 [(3, .int (0 : Int32)), (2, .int (gV S2 7 this 4)), (0, .ref this), (1, .int p1)] := hl
    obtain ⟨n28, h⟩ := h
    exact hB28 n28 _ _ _ _ _ _ _ _ _ _ _ _ h hw hS (lv_sub hl [2, 3, 1, 0] rfl) hcu hsu
  · have h := h.2 hc
    obtain ⟨hbg1, hbg2, h⟩ := h
    obtain ⟨sa9, hsa9⟩ := b_str hB 22 rfl
    rw [hQ]
    exact vx_throwS (names := ["java/lang/RuntimeException", "java/lang/Exception"]) hx hb hl0 hown (by decide +kernel) (by decide +kernel) (hts (.classLink RX5 40 "java/lang/IllegalArgumentException") (by decide +kernel)) (hts (.initialized "java/lang/IllegalArgumentException") (by decide +kernel)) hsa9 (b_hat (fun w hw9 => hts w ((by decide +kernel : ∀ w ∈ (vx_atS RX5 44 "java/lang/IllegalArgumentException" ["java/lang/RuntimeException", "java/lang/Exception"]).filter goodWord, w ∈ wsX5_run) w hw9)) (by decide +kernel) hB) (by decide +kernel) (b_U hB) (b_N hB) hS (by rw [hml]; exact hl.1) dX5_run_11 dX5_run_14 dX5_run_15 dX5_run_17 dX5_run_20 (fun x hx => (hex x hx).elim) (Nat.lt_of_lt_of_le (by decide) hRf) (Nat.le_trans (Nat.le_of_ble_eq_true rfl) hRl) (by omega) (by omega) hlocks (fun t9 ha9 hz9 hk9 => ⟨S2, trivial, ⟨h, b_grow hw hz9 hk9⟩, b_growF hS hz9 hk9⟩) hS.2.2 (by omega) (by omega)
def wp_X5_carrier (post : Int32 → bS → Prop) (xp : String → bS → Prop) (MC MS : Nat) (this : Nat) (p1 : Int32) (p2 : Int32) (S : bS) : Prop := gK S this = 7 ∧ (∃ b2, gQ S 7 this 2 = some b2 ∧ (gK S b2 = 1 ∧ (wp_Jx4a65c_size_8abf5 (fun r5 S6 => wp_X5_isOutside (fun r7 S8 => (r7 = (0 : Int32) → gK S8 this = 7 ∧ (∃ b10, gQ S8 7 this 2 = some b10 ∧ (gK S8 b10 = 1 ∧ (wp_Jx4a65c_get_915e3 (fun r13 S14 => ∃ b15, r13 = some b15 ∧ (gK S14 b15 = 2 ∧ ((p2 = (0 : Int32) → post (gV S14 2 b15 4) S14) ∧ (p2 = (1 : Int32) → post (gV S14 2 b15 5) S14) ∧ (p2 = (2 : Int32) → ∃ b18, gQ S14 2 b15 1 = some b18 ∧ (gK S14 b18 = 5 ∧ (post (gV S14 5 b18 0) S14))) ∧ (p2 = (3 : Int32) → post (gV S14 2 b15 2) S14) ∧ (p2 = (4 : Int32) → post (gV S14 2 b15 3) S14) ∧ (p2 = (5 : Int32) → post (gV S14 2 b15 6) S14) ∧ (p2 = (6 : Int32) → post (gV S14 2 b15 8) S14) ∧ (¬ p2 = (0 : Int32) → ¬ p2 = (1 : Int32) → ¬ p2 = (2 : Int32) → ¬ p2 = (3 : Int32) → ¬ p2 = (4 : Int32) → ¬ p2 = (5 : Int32) → ¬ p2 = (6 : Int32) → 1 ≤ MC ∧ 6 ≤ MS ∧ xp "java/lang/IndexOutOfBoundsException" S14)))) b10 p1 S8)))) ∧ (¬ (r7 = (0 : Int32)) → 1 ≤ MC ∧ 6 ≤ MS ∧ xp "java/lang/IndexOutOfBoundsException" S8)) p1 (0 : Int32) (r5 - (1 : Int32)) S6) b2 S)))
set_option maxHeartbeats 4000000 in
set_option maxRecDepth 100000 in
theorem m_X5_carrier {l : Launch} {D : va_G} {y : Nat → ClassId} {z : Nat} {A : Nat → Prop} {S : bS} {post : Int32 → bS → Prop} {xp : String → bS → Prop} (hl0 : l.stackTraces = false) {MC MS : Nat} {this : Nat} {p1 : Int32} {p2 : Int32} (h : wp_X5_carrier post xp MC MS this p1 p2 S) : vx_Met l yX5_carrier wsX5_carrier ({ frames := 8, cells := MC, slots := MS, locals := 400 } : Room) (va_Pc ([Value.ref this, Value.int p1, Value.int p2] : List Value) (bP D y z S A)) (va_Qi post (fun S' t => wd D y z S' A t.heap) A) (bX D y z A xp) MC MS A := by
  refine vx_ofW (cc := cX5_carrier) (maxL := 4) (ret := (some .int)) (by decide) rfl ?_
  intro p e s m args below meth c s₁ B hml hex hv
  obtain ⟨rfl, hB⟩ := hv
  have hx := B.exec
  have hb := B.bytes
  have hr := B.returns
  have hts := atoms_spec (ws := wsX5_carrier) B.pre
  have hown : s.vm.findClass RX5 = some m.cls := findClass_of_methodNamed B.named
  have hlocks := B.notSynchronized
  have hw : wd D y z S A s.heap := hB.1
  have hK : va_K D bCl (bT y) s := hB.2.1
  have hNw := hB.2.2.1
  have hAn : ∀ q : Nat, s.heap.size ≤ q → A q := hB.2.2.2.1
  have hAz : ¬ A z := hB.2.2.2.2.1
  have hO := hB.2.2.2.2.2.1
  have hS : va_S A s.heap s.heap [] := va_S.rf
  have hiX0 : ∀ w ∈ u_ws RX0 TX0 9, w ∈ wsX5_carrier := by decide +kernel
  have hiX3 : ∀ w ∈ u_ws RX3 TX3 10, w ∈ wsX5_carrier := by decide +kernel
  have hiX5 : ∀ w ∈ u_ws RX5 TX5 6, w ∈ wsX5_carrier := by decide +kernel
  have hl := lv_entry ([Value.ref this, Value.int p1, Value.int p2] : List Value) (n := 4) (Nat.le_of_ble_eq_true rfl)
  rw [lg_entry_eq]
  generalize (lg_sl ([Value.ref this, Value.int p1, Value.int p2] : List Value) ++ List.replicate (4 - (lg_sl ([Value.ref this, Value.int p1, Value.int p2] : List Value)).length) Slot.unset).toArray = ls at hl ⊢
  have hl : lv_has ls 4 [(0, .ref this), (1, .int p1), (2, .int p2)] := hl
  obtain ⟨Q, hQ⟩ : ∃ Q, Q = vx_MQ below (va_Qi post (fun S' t => wd D y z S' A t.heap) A) (bX D y z A xp) (([Value.ref this, Value.int p1, Value.int p2] : List Value).toArray) s MC MS A := ⟨_, rfl⟩
  rw [← hQ]
  generalize hR : (headSpec wsX5_carrier ({ frames := 8, cells := MC, slots := MS, locals := 400 } : Room)).room = R
  have hRf : 8 ≤ R.frames := by rw [← hR]; exact Nat.le_refl _
  have hRl : 400 ≤ R.locals := by rw [← hR]; exact Nat.le_refl _
  have hRc : R.cells = MC := by rw [← hR]; rfl
  have hRs : R.slots = MS := by rw [← hR]; rfl
  have hret : ∀ (v : Int32) (S : bS) (H : Heap) (locs : List Loc) (pc : Nat) (ls : Array Slot) (cu su : Nat) , post v S → wd D y z S A H → va_S A s.heap H locs → cu ≤ MC → su ≤ MS → decode cX5_carrier pc = .ok (.ireturn, 1) → W p l e R s m (([Value.ref this, Value.int p1, Value.int p2] : List Value).toArray) below meth c H locs cu su Q (F0 m pc ls [.int v]) := by
    intro v S H locs pc ls cu su h hw hS hcu hsu d0
    rw [hQ]; refine vx_ret ?_; refine W.widen hcu hsu ?_; exact W.iret hx hb hr (fun t ht hW => ⟨⟨v, S, rfl, h, by show wd D y z S A t.heap; rw [ht]; exact hw⟩, hS.F ht⟩) hS.2.2 d0 hlocks
  unfold wp_X5_carrier at h
  have hcu : 0 + MC ≤ MC := by omega
  have hsu : 0 + MS ≤ MS := by omega
  refine lv_iload_n hx hb dX5_carrier_0 rfl (lv_at hl 1 rfl) ?_
  refine lv_iconst (v := (0 : Int32)) hx hb dX5_carrier_1 (by decide) ?_
  refine lv_aload_n hx hb dX5_carrier_2 rfl (lv_at hl 0 rfl) ?_
  obtain ⟨hk1, h⟩ := h
  obtain ⟨b2, hb3, h⟩ := h
  refine r_get (ci := 6) (v := .ref b2) (C := RX5) (T := TX5) (N := 6) hx hb hts hiX5 hown hK hw (ce_7 (S := S) hk1) rfl 2 (by decide) (hts (.fieldLink RX5 23 "TubePost" "carriers" "Ljava/util/ArrayList;") (by decide +kernel)) (fun _ h9 => h9) (congrArg (fun q => some (va_rf q)) hb3) dX5_carrier_3 ?_
  obtain ⟨hk4, h⟩ := h
  have h1 := h
  refine va_calli (va_runV (As := []) (rest := [.int (0 : Int32), .int p1]) ⟨hx, hb, hml, hown, hts⟩ (m_Jx4a65c_size_8abf5 (l := l) h1) (cwV 0 hts gX5_carrier_Jx4a65c_size_8abf5 rfl rfl rfl (by decide +kernel) ⟨Nat.le_trans (Nat.le_of_ble_eq_true rfl) hRf, Nat.le_trans (Nat.le_of_ble_eq_true rfl) hRl⟩) (r_pV hB hw hS (ce_1 (S := S) hk4) rfl) rfl rfl hl.1 rfl (lv_room (Nat.le_of_ble_eq_true rfl)) dX5_carrier_6 ⟨by omega, by omega⟩) hS (fun _ _ h => h) (fun _ h => h) (fun r5 S6 t H1 locs ht _ h hw1 _ _ hS => ?_)
  subst ht
  have hw : wd D y z S6 A t.heap := hw1
  clear hw1 h1
  refine lv_iconst (v := (1 : Int32)) hx hb dX5_carrier_9 (by decide) ?_
  refine lv_isub hx hb dX5_carrier_10 ?_
  have h1 := h
  refine va_calli (va_runS (As := [.int p1, .int (0 : Int32), .int (r5 - (1 : Int32))]) (rest := []) ⟨hx, hb, hml, hown, hts⟩ (m_X5_isOutside (l := l) h1) (cwS 3 hts gX5_carrier_X5_isOutside rfl rfl rfl (by decide +kernel) ⟨Nat.le_trans (Nat.le_of_ble_eq_true rfl) hRf, Nat.le_trans (Nat.le_of_ble_eq_true rfl) hRl⟩) (r_pS hB hw hS) rfl rfl hl.1 rfl (lv_room (Nat.le_of_ble_eq_true rfl)) dX5_carrier_11 ⟨by omega, by omega⟩) hS (fun _ _ h => h) (fun _ h => h) (fun r7 S8 t H1 locs ht _ h hw1 _ _ hS => ?_)
  subst ht
  have hw : wd D y z S8 A t.heap := hw1
  clear hw1 h1
  refine lv_if_eq (tgt := 27) hx hb dX5_carrier_14 (by decide) (fun hc => ?_) (fun hc => ?_)
  · have h := h.1 hc
    refine lv_aload_n hx hb dX5_carrier_27 rfl (lv_at hl 0 rfl) ?_
    obtain ⟨hk9, h⟩ := h
    obtain ⟨b10, hb11, h⟩ := h
    refine r_get (ci := 6) (v := .ref b10) (C := RX5) (T := TX5) (N := 6) hx hb hts hiX5 hown hK hw (ce_7 (S := S8) hk9) rfl 2 (by decide) (hts (.fieldLink RX5 23 "TubePost" "carriers" "Ljava/util/ArrayList;") (by decide +kernel)) (fun _ h9 => h9) (congrArg (fun q => some (va_rf q)) hb11) dX5_carrier_28 ?_
    refine lv_iload_n hx hb dX5_carrier_31 rfl (lv_at hl 1 rfl) ?_
    obtain ⟨hk12, h⟩ := h
    have h1 := h
    refine va_callq (va_runV (As := [.int p1]) (rest := []) ⟨hx, hb, hml, hown, hts⟩ (m_Jx4a65c_get_915e3 (l := l) h1) (cwV 1 hts gX5_carrier_Jx4a65c_get_915e3 rfl rfl rfl (by decide +kernel) ⟨Nat.le_trans (Nat.le_of_ble_eq_true rfl) hRf, Nat.le_trans (Nat.le_of_ble_eq_true rfl) hRl⟩) (r_pV hB hw hS (ce_1 (S := S8) hk12) rfl) rfl rfl hl.1 rfl (lv_room (Nat.le_of_ble_eq_true rfl)) dX5_carrier_32 ⟨by omega, by omega⟩) hS (fun _ _ h => h) (fun _ h => h) (fun r13 S14 t H1 locs ht _ h hw1 _ _ hS => ?_)
    subst ht
    have hw : wd D y z S14 A t.heap := hw1
    clear hw1 h1
    obtain ⟨b15, rfl, h⟩ := h
    refine W.eq (g2 := F0 m 35 ls [.ref b15]) rfl ?_
    obtain ⟨hk17, h⟩ := h
    refine r_cast hx hb hown (hts (.classLink RX5 163 "TubePost$Carrier") (by decide +kernel)) hK hw (ce_2 hk17) rfl dX5_carrier_35 ?_
    refine lv_astore_n hx hb dX5_carrier_38 rfl hl (by decide) rfl (fun ls hl => ?_)
    have hl : lv_has ls 4 [(3, .ref b15), (0, .ref this), (1, .int p1), (2, .int p2)] := hl
    refine lv_iload_n hx hb dX5_carrier_39 rfl (lv_at hl 3 rfl) ?_
    by_cases hq0 : p2 = (0 : Int32)
    · have h := h.1 hq0
      refine lv_tableIn (off := 44) (tgt := 84) hx hb dX5_carrier_40 (by rw [hq0]; decide) (by rw [hq0]; decide) (by rw [hq0]; decide) (by decide) ?_
      refine lv_aload_n hx hb dX5_carrier_84 rfl (lv_at hl 0 rfl) ?_
      refine r_getN (ci := 1) (v := .int (gV S14 2 b15 4)) (C := RX0) (T := TX0) (N := 9) hx hb hts hiX0 hown hK hw (ce_2 (S := S14) hk17) rfl 4 (by decide) (hNw _ (bNw_5)) (fun _ h9 => h9) rfl dX5_carrier_85 ?_
      exact hret (gV S14 2 b15 4) _ _ _ _ _ _ _ h hw hS (by omega) (by omega) dX5_carrier_88
    by_cases hq1 : p2 = (1 : Int32)
    · have h := h.2.1 hq1
      refine lv_tableIn (off := 49) (tgt := 89) hx hb dX5_carrier_40 (by rw [hq1]; decide) (by rw [hq1]; decide) (by rw [hq1]; decide) (by decide) ?_
      refine lv_aload_n hx hb dX5_carrier_89 rfl (lv_at hl 0 rfl) ?_
      refine r_getN (ci := 1) (v := .int (gV S14 2 b15 5)) (C := RX0) (T := TX0) (N := 9) hx hb hts hiX0 hown hK hw (ce_2 (S := S14) hk17) rfl 5 (by decide) (hNw _ (bNw_6)) (fun _ h9 => h9) rfl dX5_carrier_90 ?_
      exact hret (gV S14 2 b15 5) _ _ _ _ _ _ _ h hw hS (by omega) (by omega) dX5_carrier_93
    by_cases hq2 : p2 = (2 : Int32)
    · have h := h.2.2.1 hq2
      refine lv_tableIn (off := 54) (tgt := 94) hx hb dX5_carrier_40 (by rw [hq2]; decide) (by rw [hq2]; decide) (by rw [hq2]; decide) (by decide) ?_
      refine lv_aload_n hx hb dX5_carrier_94 rfl (lv_at hl 0 rfl) ?_
      obtain ⟨b18, hb19, h⟩ := h
      refine r_getN (ci := 1) (v := .ref b18) (C := RX0) (T := TX0) (N := 9) hx hb hts hiX0 hown hK hw (ce_2 (S := S14) hk17) rfl 1 (by decide) (hNw _ (bNw_7)) (fun _ h9 => h9) (congrArg (fun q => some (va_rf q)) hb19) dX5_carrier_95 ?_
      obtain ⟨hk20, h⟩ := h
      refine r_getN (ci := 4) (v := .int (gV S14 5 b18 0)) (C := RX3) (T := TX3) (N := 10) hx hb hts hiX3 hown hK hw (ce_5 (S := S14) hk20) rfl 0 (by decide) (hNw _ (bNw_8)) (fun _ h9 => h9) rfl dX5_carrier_98 ?_
      exact hret (gV S14 5 b18 0) _ _ _ _ _ _ _ h hw hS (by omega) (by omega) dX5_carrier_101
    by_cases hq3 : p2 = (3 : Int32)
    · have h := h.2.2.2.1 hq3
      refine lv_tableIn (off := 62) (tgt := 102) hx hb dX5_carrier_40 (by rw [hq3]; decide) (by rw [hq3]; decide) (by rw [hq3]; decide) (by decide) ?_
      refine lv_aload_n hx hb dX5_carrier_102 rfl (lv_at hl 0 rfl) ?_
      refine r_getN (ci := 1) (v := .int (gV S14 2 b15 2)) (C := RX0) (T := TX0) (N := 9) hx hb hts hiX0 hown hK hw (ce_2 (S := S14) hk17) rfl 2 (by decide) (hNw _ (bNw_9)) (fun _ h9 => h9) rfl dX5_carrier_103 ?_
      exact hret (gV S14 2 b15 2) _ _ _ _ _ _ _ h hw hS (by omega) (by omega) dX5_carrier_106
    by_cases hq4 : p2 = (4 : Int32)
    · have h := h.2.2.2.2.1 hq4
      refine lv_tableIn (off := 67) (tgt := 107) hx hb dX5_carrier_40 (by rw [hq4]; decide) (by rw [hq4]; decide) (by rw [hq4]; decide) (by decide) ?_
      refine lv_aload_n hx hb dX5_carrier_107 rfl (lv_at hl 0 rfl) ?_
      refine r_getN (ci := 1) (v := .int (gV S14 2 b15 3)) (C := RX0) (T := TX0) (N := 9) hx hb hts hiX0 hown hK hw (ce_2 (S := S14) hk17) rfl 3 (by decide) (hNw _ (bNw_10)) (fun _ h9 => h9) rfl dX5_carrier_108 ?_
      exact hret (gV S14 2 b15 3) _ _ _ _ _ _ _ h hw hS (by omega) (by omega) dX5_carrier_111
    by_cases hq5 : p2 = (5 : Int32)
    · have h := h.2.2.2.2.2.1 hq5
      refine lv_tableIn (off := 72) (tgt := 112) hx hb dX5_carrier_40 (by rw [hq5]; decide) (by rw [hq5]; decide) (by rw [hq5]; decide) (by decide) ?_
      refine lv_aload_n hx hb dX5_carrier_112 rfl (lv_at hl 0 rfl) ?_
      refine r_getN (ci := 1) (v := .int (gV S14 2 b15 6)) (C := RX0) (T := TX0) (N := 9) hx hb hts hiX0 hown hK hw (ce_2 (S := S14) hk17) rfl 6 (by decide) (hNw _ (bNw_11)) (fun _ h9 => h9) rfl dX5_carrier_113 ?_
      exact hret (gV S14 2 b15 6) _ _ _ _ _ _ _ h hw hS (by omega) (by omega) dX5_carrier_116
    by_cases hq6 : p2 = (6 : Int32)
    · have h := h.2.2.2.2.2.2.1 hq6
      refine lv_tableIn (off := 77) (tgt := 117) hx hb dX5_carrier_40 (by rw [hq6]; decide) (by rw [hq6]; decide) (by rw [hq6]; decide) (by decide) ?_
      refine lv_aload_n hx hb dX5_carrier_117 rfl (lv_at hl 0 rfl) ?_
      refine r_getN (ci := 1) (v := .int (gV S14 2 b15 8)) (C := RX0) (T := TX0) (N := 9) hx hb hts hiX0 hown hK hw (ce_2 (S := S14) hk17) rfl 8 (by decide) (hNw _ (bNw_12)) (fun _ h9 => h9) rfl dX5_carrier_118 ?_
      exact hret (gV S14 2 b15 8) _ _ _ _ _ _ _ h hw hS (by omega) (by omega) dX5_carrier_121
    have h := h.2.2.2.2.2.2.2 hq0 hq1 hq2 hq3 hq4 hq5 hq6
    have ht0 : Int32.toInt p2 ≠ (0 : Int) := fun q => hq0 (b_ti q rfl)
    have ht1 : Int32.toInt p2 ≠ (1 : Int) := fun q => hq1 (b_ti q rfl)
    have ht2 : Int32.toInt p2 ≠ (2 : Int) := fun q => hq2 (b_ti q rfl)
    have ht3 : Int32.toInt p2 ≠ (3 : Int) := fun q => hq3 (b_ti q rfl)
    have ht4 : Int32.toInt p2 ≠ (4 : Int) := fun q => hq4 (b_ti q rfl)
    have ht5 : Int32.toInt p2 ≠ (5 : Int) := fun q => hq5 (b_ti q rfl)
    have ht6 : Int32.toInt p2 ≠ (6 : Int) := fun q => hq6 (b_ti q rfl)
    refine lv_tableOut (tgt := 122) hx hb dX5_carrier_40 (by omega) (by decide) ?_
    obtain ⟨hbg1, hbg2, h⟩ := h
    obtain ⟨sa9, hsa9⟩ := b_str hB 6 rfl
    rw [hQ]
    exact vx_throwS (names := ["java/lang/RuntimeException", "java/lang/Exception"]) hx hb hl0 hown (by decide +kernel) (by decide +kernel) (hts (.classLink RX5 127 "java/lang/IndexOutOfBoundsException") (by decide +kernel)) (hts (.initialized "java/lang/IndexOutOfBoundsException") (by decide +kernel)) hsa9 (b_hat (fun w hw9 => hts w ((by decide +kernel : ∀ w ∈ (vx_atS RX5 131 "java/lang/IndexOutOfBoundsException" ["java/lang/RuntimeException", "java/lang/Exception"]).filter goodWord, w ∈ wsX5_carrier) w hw9)) (by decide +kernel) hB) (by decide +kernel) (b_U hB) (b_N hB) hS (by rw [hml]; exact hl.1) dX5_carrier_122 dX5_carrier_125 dX5_carrier_126 dX5_carrier_128 dX5_carrier_131 (fun x hx => (hex x hx).elim) (Nat.lt_of_lt_of_le (by decide) hRf) (Nat.le_trans (Nat.le_of_ble_eq_true rfl) hRl) (by omega) (by omega) hlocks (fun t9 ha9 hz9 hk9 => ⟨S14, trivial, ⟨h, b_grow hw hz9 hk9⟩, b_growF hS hz9 hk9⟩) hS.2.2 (by omega) (by omega)
  · have h := h.2 hc
    obtain ⟨hbg1, hbg2, h⟩ := h
    obtain ⟨sa9, hsa9⟩ := b_str hB 5 rfl
    rw [hQ]
    exact vx_throwS (names := ["java/lang/RuntimeException", "java/lang/Exception"]) hx hb hl0 hown (by decide +kernel) (by decide +kernel) (hts (.classLink RX5 127 "java/lang/IndexOutOfBoundsException") (by decide +kernel)) (hts (.initialized "java/lang/IndexOutOfBoundsException") (by decide +kernel)) hsa9 (b_hat (fun w hw9 => hts w ((by decide +kernel : ∀ w ∈ (vx_atS RX5 131 "java/lang/IndexOutOfBoundsException" ["java/lang/RuntimeException", "java/lang/Exception"]).filter goodWord, w ∈ wsX5_carrier) w hw9)) (by decide +kernel) hB) (by decide +kernel) (b_U hB) (b_N hB) hS (by rw [hml]; exact hl.1) dX5_carrier_17 dX5_carrier_20 dX5_carrier_21 dX5_carrier_23 dX5_carrier_26 (fun x hx => (hex x hx).elim) (Nat.lt_of_lt_of_le (by decide) hRf) (Nat.le_trans (Nat.le_of_ble_eq_true rfl) hRl) (by omega) (by omega) hlocks (fun t9 ha9 hz9 hk9 => ⟨S8, trivial, ⟨h, b_grow hw hz9 hk9⟩, b_growF hS hz9 hk9⟩) hS.2.2 (by omega) (by omega)
def wb_X5_jammedTubes_45 (post : Int32 → bS → Prop) (rec4 : Nat → Int32 → Int32 → bS → Prop) (v0 : Nat) (v1 : Int32) (v2 : Int32) (S : bS) : Prop := rec4 v0 v1 (v2 + (1 : Int32)) S
def wb_X5_jammedTubes_4 (post : Int32 → bS → Prop) : Nat → Nat → Int32 → Int32 → bS → Prop
  | 0, _, _, _, _ => False
  | n + 1, v0, v1, v2, S => gK S v0 = 7 ∧ (∃ b2, gQ S 7 v0 0 = some b2 ∧ (gK S b2 = 4 ∧ (∃ b5, gQ S 4 b2 1 = some b5 ∧ (gK S b5 = 1 ∧ (wp_Jx4a65c_size_8abf5 (fun r8 S9 => (r8 ≤ v2 → post v1 S9) ∧ (¬ (r8 ≤ v2) → gK S9 v0 = 7 ∧ (∃ b11, gQ S9 7 v0 0 = some b11 ∧ (gK S9 b11 = 4 ∧ (∃ b14, gQ S9 4 b11 1 = some b14 ∧ (gK S9 b14 = 1 ∧ (wp_Jx4a65c_get_915e3 (fun r17 S18 => ∃ b19, r17 = some b19 ∧ (gK S18 b19 = 6 ∧ (gK S18 v0 = 7 ∧ (wp_X4_isFirstAtEnd (fun r23 S24 => (r23 = (0 : Int32) → wb_X5_jammedTubes_45 post (wb_X5_jammedTubes_4 post n) v0 v1 v2 S24) ∧ (¬ (r23 = (0 : Int32)) → wb_X5_jammedTubes_45 post (wb_X5_jammedTubes_4 post n) v0 (v1 + (1 : Int32)) v2 S24)) b19 (gV S18 7 v0 3) S18)))) b14 v2 S9))))))) b5 S)))))
def wp_X5_jammedTubes (post : Int32 → bS → Prop) (this : Nat) (S : bS) : Prop := ∃ n4, wb_X5_jammedTubes_4 post n4 this (0 : Int32) (0 : Int32) S
set_option maxHeartbeats 4000000 in
set_option maxRecDepth 100000 in
theorem m_X5_jammedTubes {l : Launch} {D : va_G} {y : Nat → ClassId} {z : Nat} {A : Nat → Prop} {S : bS} {post : Int32 → bS → Prop} {this : Nat} (h : wp_X5_jammedTubes post this S) : Met l yX5_jammedTubes wsX5_jammedTubes ({ frames := 4, cells := 0, slots := 0, locals := 86 } : Room) (va_Pc ([Value.ref this] : List Value) (bP D y z S A)) (va_Qi post (fun S' t => wd D y z S' A t.heap) A) 0 0 A := by
  refine Met.ofW (cc := cX5_jammedTubes) (maxL := 3) (ret := (some .int)) (by decide) rfl ?_
  intro p e s m args below meth c s₁ B hml hv
  obtain ⟨rfl, hB⟩ := hv
  have hx := B.exec
  have hb := B.bytes
  have hr := B.returns
  have hts := atoms_spec (ws := wsX5_jammedTubes) B.pre
  have hown : s.vm.findClass RX5 = some m.cls := findClass_of_methodNamed B.named
  have hlocks := B.notSynchronized
  have hw : wd D y z S A s.heap := hB.1
  have hK : va_K D bCl (bT y) s := hB.2.1
  have hNw := hB.2.2.1
  have hAn : ∀ q : Nat, s.heap.size ≤ q → A q := hB.2.2.2.1
  have hAz : ¬ A z := hB.2.2.2.2.1
  have hO := hB.2.2.2.2.2.1
  have hS : va_S A s.heap s.heap [] := va_S.rf
  have hiX2 : ∀ w ∈ u_ws RX2 TX2 2, w ∈ wsX5_jammedTubes := by decide +kernel
  have hiX5 : ∀ w ∈ u_ws RX5 TX5 6, w ∈ wsX5_jammedTubes := by decide +kernel
  have hl := lv_entry ([Value.ref this] : List Value) (n := 3) (Nat.le_of_ble_eq_true rfl)
  rw [lg_entry_eq]
  generalize (lg_sl ([Value.ref this] : List Value) ++ List.replicate (3 - (lg_sl ([Value.ref this] : List Value)).length) Slot.unset).toArray = ls at hl ⊢
  have hl : lv_has ls 3 [(0, .ref this)] := hl
  obtain ⟨Q, hQ⟩ : ∃ Q, Q = MQ below (va_Qi post (fun S' t => wd D y z S' A t.heap) A) (([Value.ref this] : List Value).toArray) s 0 0 A := ⟨_, rfl⟩
  rw [← hQ]
  generalize hR : (headSpec wsX5_jammedTubes ({ frames := 4, cells := 0, slots := 0, locals := 86 } : Room)).room = R
  have hRf : 4 ≤ R.frames := by rw [← hR]; exact Nat.le_refl _
  have hRl : 86 ≤ R.locals := by rw [← hR]; exact Nat.le_refl _
  have hret : ∀ (v : Int32) (S : bS) (H : Heap) (locs : List Loc) (pc : Nat) (ls : Array Slot) , post v S → wd D y z S A H → va_S A s.heap H locs → decode cX5_jammedTubes pc = .ok (.ireturn, 1) → W p l e R s m (([Value.ref this] : List Value).toArray) below meth c H locs 0 0 Q (F0 m pc ls [.int v]) := by
    intro v S H locs pc ls h hw hS d0
    rw [hQ]; exact W.iret hx hb hr (fun t ht hW => ⟨⟨v, S, rfl, h, by show wd D y z S A t.heap; rw [ht]; exact hw⟩, hS.F ht⟩) hS.2.2 d0 hlocks
  have hB4 : ∀ (n4 : Nat) (S : bS) (H : Heap) (locs : List Loc) (ls : Array Slot) (v0 : Nat) (v1 : Int32) (v2 : Int32), wb_X5_jammedTubes_4 post n4 v0 v1 v2 S → wd D y z S A H → va_S A s.heap H locs → lv_has ls 3 [(0, .ref v0), (1, .int v1), (2, .int v2)] → W p l e R s m (([Value.ref this] : List Value).toArray) below meth c H locs 0 0 Q (F0 m 4 ls []) := by
    intro n4
    induction n4 with
    | zero =>
      intro S H locs ls v0 v1 v2 h hw hS hl
      exact absurd h (by unfold wb_X5_jammedTubes_4; exact id)
    | succ n4 ih4 =>
      have hB45 : ∀ (S : bS) (H : Heap) (locs : List Loc) (ls : Array Slot) (v0 : Nat) (v1 : Int32) (v2 : Int32), wb_X5_jammedTubes_45 post (wb_X5_jammedTubes_4 post n4) v0 v1 v2 S → wd D y z S A H → va_S A s.heap H locs → lv_has ls 3 [(0, .ref v0), (1, .int v1), (2, .int v2)] → W p l e R s m (([Value.ref this] : List Value).toArray) below meth c H locs 0 0 Q (F0 m 45 ls []) := by
        intro S H locs ls v0 v1 v2 h hw hS hl
        unfold wb_X5_jammedTubes_45 at h
        refine lv_iinc (v := (v2 + (1 : Int32))) hx hb dX5_jammedTubes_45 hl (k := 2) rfl rfl (by decide) rfl (fun ls hl => ?_)
        have hl : lv_has ls 3 [(2, .int (v2 + (1 : Int32))), (0, .ref v0), (1, .int v1)] := hl
        refine lv_goto (tgt := 4) hx hb dX5_jammedTubes_48 (by decide) ?_
        exact ih4 _ _ _ _ _ _ _ h hw hS (lv_sub hl [1, 2, 0] rfl)
      intro S H locs ls v0 v1 v2 h hw hS hl
      unfold wb_X5_jammedTubes_4 at h
      refine lv_iload_n hx hb dX5_jammedTubes_4 rfl (lv_at hl 2 rfl) ?_
      refine lv_aload_n hx hb dX5_jammedTubes_5 rfl (lv_at hl 0 rfl) ?_
      obtain ⟨hk1, h⟩ := h
      obtain ⟨b2, hb3, h⟩ := h
      refine r_get (ci := 6) (v := .ref b2) (C := RX5) (T := TX5) (N := 6) hx hb hts hiX5 hown hK hw (ce_7 (S := S) hk1) rfl 0 (by decide) (hts (.fieldLink RX5 10 "TubePost" "net" "LTubePost$Net;") (by decide +kernel)) (fun _ h9 => h9) (congrArg (fun q => some (va_rf q)) hb3) dX5_jammedTubes_6 ?_
      obtain ⟨hk4, h⟩ := h
      obtain ⟨b5, hb6, h⟩ := h
      refine r_getN (ci := 3) (v := .ref b5) (C := RX2) (T := TX2) (N := 2) hx hb hts hiX2 hown hK hw (ce_4 (S := S) hk4) rfl 1 (by decide) (hNw _ (bNw_1)) (fun _ h9 => h9) (congrArg (fun q => some (va_rf q)) hb6) dX5_jammedTubes_9 ?_
      obtain ⟨hk7, h⟩ := h
      have h1 := h
      refine va_calli (va_runV (As := []) (rest := [.int v2]) ⟨hx, hb, hml, hown, hts⟩ (m_Jx4a65c_size_8abf5 (l := l) h1) (cwV 0 hts gX5_jammedTubes_Jx4a65c_size_8abf5 rfl rfl rfl (by decide +kernel) ⟨Nat.le_trans (Nat.le_of_ble_eq_true rfl) hRf, Nat.le_trans (Nat.le_of_ble_eq_true rfl) hRl⟩) (r_pV hB hw hS (ce_1 (S := S) hk7) rfl) rfl rfl hl.1 rfl (lv_room (Nat.le_of_ble_eq_true rfl)) dX5_jammedTubes_12 ⟨Nat.zero_le _, Nat.zero_le _⟩) hS (fun _ _ h => h) (fun _ h => h) (fun r8 S9 t H1 locs ht _ h hw1 _ _ hS => ?_)
      subst ht
      have hw : wd D y z S9 A t.heap := hw1
      clear hw1 h1
      refine lv_icmp_ge (tgt := 51) hx hb dX5_jammedTubes_15 (by decide) (fun hc => ?_) (fun hc => ?_)
      · have h := h.1 hc
        refine lv_iload_n hx hb dX5_jammedTubes_51 rfl (lv_at hl 1 rfl) ?_
        exact hret v1 _ _ _ _ _ h hw hS dX5_jammedTubes_52
      · have h := h.2 hc
        refine lv_aload_n hx hb dX5_jammedTubes_18 rfl (lv_at hl 0 rfl) ?_
        obtain ⟨hk10, h⟩ := h
        obtain ⟨b11, hb12, h⟩ := h
        refine r_get (ci := 6) (v := .ref b11) (C := RX5) (T := TX5) (N := 6) hx hb hts hiX5 hown hK hw (ce_7 (S := S9) hk10) rfl 0 (by decide) (hts (.fieldLink RX5 10 "TubePost" "net" "LTubePost$Net;") (by decide +kernel)) (fun _ h9 => h9) (congrArg (fun q => some (va_rf q)) hb12) dX5_jammedTubes_19 ?_
        obtain ⟨hk13, h⟩ := h
        obtain ⟨b14, hb15, h⟩ := h
        refine r_getN (ci := 3) (v := .ref b14) (C := RX2) (T := TX2) (N := 2) hx hb hts hiX2 hown hK hw (ce_4 (S := S9) hk13) rfl 1 (by decide) (hNw _ (bNw_1)) (fun _ h9 => h9) (congrArg (fun q => some (va_rf q)) hb15) dX5_jammedTubes_22 ?_
        refine lv_iload_n hx hb dX5_jammedTubes_25 rfl (lv_at hl 2 rfl) ?_
        obtain ⟨hk16, h⟩ := h
        have h1 := h
        refine va_callq (va_runV (As := [.int v2]) (rest := []) ⟨hx, hb, hml, hown, hts⟩ (m_Jx4a65c_get_915e3 (l := l) h1) (cwV 1 hts gX5_jammedTubes_Jx4a65c_get_915e3 rfl rfl rfl (by decide +kernel) ⟨Nat.le_trans (Nat.le_of_ble_eq_true rfl) hRf, Nat.le_trans (Nat.le_of_ble_eq_true rfl) hRl⟩) (r_pV hB hw hS (ce_1 (S := S9) hk16) rfl) rfl rfl hl.1 rfl (lv_room (Nat.le_of_ble_eq_true rfl)) dX5_jammedTubes_26 ⟨Nat.zero_le _, Nat.zero_le _⟩) hS (fun _ _ h => h) (fun _ h => h) (fun r17 S18 t H1 locs ht _ h hw1 _ _ hS => ?_)
        subst ht
        have hw : wd D y z S18 A t.heap := hw1
        clear hw1 h1
        obtain ⟨b19, rfl, h⟩ := h
        refine W.eq (g2 := F0 m 29 ls [.ref b19]) rfl ?_
        obtain ⟨hk21, h⟩ := h
        refine r_cast hx hb hown (hts (.classLink RX5 101 "TubePost$Tube") (by decide +kernel)) hK hw (ce_6 hk21) rfl dX5_jammedTubes_29 ?_
        refine lv_aload_n hx hb dX5_jammedTubes_32 rfl (lv_at hl 0 rfl) ?_
        obtain ⟨hk22, h⟩ := h
        refine r_get (ci := 6) (v := .int (gV S18 7 v0 3)) (C := RX5) (T := TX5) (N := 6) hx hb hts hiX5 hown hK hw (ce_7 (S := S18) hk22) rfl 3 (by decide) (hts (.fieldLink RX5 26 "TubePost" "tick" "I") (by decide +kernel)) (fun _ h9 => h9) rfl dX5_jammedTubes_33 ?_
        have h1 := h
        refine va_calli (va_runVN (As := [.int (gV S18 7 v0 3)]) (rest := []) ⟨hx, hb, hml, hown, hts⟩ (m_X4_isFirstAtEnd (l := l) h1) ⟨va_cnB 1 hts gX5_jammedTubes_X4_isFirstAtEnd_n233 rfl rfl rfl (hNw _ bNw_55) (hts (.initialized RX4) (by decide +kernel)) ⟨by decide +kernel, by decide +kernel, by decide +kernel⟩ ⟨Nat.le_trans (Nat.le_of_ble_eq_true rfl) hRf, Nat.le_trans (Nat.le_of_ble_eq_true rfl) hRl⟩, (hts (.instanceMethod yX4_isFirstAtEnd) (by decide +kernel)), hts (.selects RX4 yX4_isFirstAtEnd yX4_isFirstAtEnd) (by decide +kernel)⟩ (r_pV hB hw hS (ce_6 (S := S18) hk21) rfl) rfl rfl hl.1 rfl (lv_room (Nat.le_of_ble_eq_true rfl)) dX5_jammedTubes_36 ⟨Nat.zero_le _, Nat.zero_le _⟩) hS (fun _ _ h => h) (fun _ h => h) (fun r23 S24 t H1 locs ht _ h hw1 _ _ hS => ?_)
        subst ht
        have hw : wd D y z S24 A t.heap := hw1
        clear hw1 h1
        refine lv_if_eq (tgt := 45) hx hb dX5_jammedTubes_39 (by decide) (fun hc => ?_) (fun hc => ?_)
        · have h := h.1 hc
          exact hB45 _ _ _ _ _ _ _ h hw hS (lv_sub hl [0, 1, 2] rfl)
        · have h := h.2 hc
          refine lv_iinc (v := (v1 + (1 : Int32))) hx hb dX5_jammedTubes_42 hl (k := 1) rfl rfl (by decide) rfl (fun ls hl => ?_)
          have hl : lv_has ls 3 [(1, .int (v1 + (1 : Int32))), (0, .ref v0), (2, .int v2)] := hl
          exact hB45 _ _ _ _ _ _ _ h hw hS (lv_sub hl [1, 0, 2] rfl)
  unfold wp_X5_jammedTubes at h
  refine lv_iconst (v := (0 : Int32)) hx hb dX5_jammedTubes_0 (by decide) ?_
  refine lv_istore_n hx hb dX5_jammedTubes_1 rfl hl (by decide) rfl (fun ls hl => ?_)
  have hl : lv_has ls 3 [(1, .int (0 : Int32)), (0, .ref this)] := hl
  refine lv_iconst (v := (0 : Int32)) hx hb dX5_jammedTubes_2 (by decide) ?_
  refine lv_istore_n hx hb dX5_jammedTubes_3 rfl hl (by decide) rfl (fun ls hl => ?_)
  have hl : lv_has ls 3 [(2, .int (0 : Int32)), (1, .int (0 : Int32)), (0, .ref this)] := hl
  obtain ⟨n4, h⟩ := h
  exact hB4 n4 _ _ _ _ _ _ _ h hw hS (lv_sub hl [2, 1, 0] rfl)
def wp_X5_count (post : Int32 → bS → Prop) (xp : String → bS → Prop) (MC MS : Nat) (this : Nat) (p1 : Int32) (S : bS) : Prop := (p1 = (0 : Int32) → gK S this = 7 ∧ (post (gV S 7 this 3) S)) ∧ (p1 = (1 : Int32) → gK S this = 7 ∧ (∃ b3, gQ S 7 this 0 = some b3 ∧ (gK S b3 = 4 ∧ (∃ b6, gQ S 4 b3 0 = some b6 ∧ (gK S b6 = 1 ∧ (wp_Jx4a65c_size_8abf5 (fun r9 S10 => post r9 S10) b6 S)))))) ∧ (p1 = (2 : Int32) → gK S this = 7 ∧ (∃ b12, gQ S 7 this 0 = some b12 ∧ (gK S b12 = 4 ∧ (∃ b15, gQ S 4 b12 1 = some b15 ∧ (gK S b15 = 1 ∧ (wp_Jx4a65c_size_8abf5 (fun r18 S19 => post r18 S19) b15 S)))))) ∧ (p1 = (3 : Int32) → gK S this = 7 ∧ (∃ b21, gQ S 7 this 1 = some b21 ∧ (gK S b21 = 1 ∧ (wp_Jx4a65c_size_8abf5 (fun r24 S25 => post r24 S25) b21 S)))) ∧ (p1 = (4 : Int32) → gK S this = 7 ∧ (∃ b27, gQ S 7 this 2 = some b27 ∧ (gK S b27 = 1 ∧ (wp_Jx4a65c_size_8abf5 (fun r30 S31 => post r30 S31) b27 S)))) ∧ (p1 = (5 : Int32) → gK S this = 7 ∧ (wp_X5_underWay (fun r33 S34 => post r33 S34) this S)) ∧ (p1 = (6 : Int32) → gK S this = 7 ∧ (post (gV S 7 this 4) S)) ∧ (p1 = (7 : Int32) → gK S this = 7 ∧ (wp_X5_jammedTubes (fun r37 S38 => post r37 S38) this S)) ∧ (p1 = (8 : Int32) → gK S this = 7 ∧ (post (gV S 7 this 5) S)) ∧ (¬ p1 = (0 : Int32) → ¬ p1 = (1 : Int32) → ¬ p1 = (2 : Int32) → ¬ p1 = (3 : Int32) → ¬ p1 = (4 : Int32) → ¬ p1 = (5 : Int32) → ¬ p1 = (6 : Int32) → ¬ p1 = (7 : Int32) → ¬ p1 = (8 : Int32) → 1 ≤ MC ∧ 6 ≤ MS ∧ xp "java/lang/IndexOutOfBoundsException" S)
set_option maxHeartbeats 4000000 in
set_option maxRecDepth 100000 in
theorem m_X5_count {l : Launch} {D : va_G} {y : Nat → ClassId} {z : Nat} {A : Nat → Prop} {S : bS} {post : Int32 → bS → Prop} {xp : String → bS → Prop} (hl0 : l.stackTraces = false) {MC MS : Nat} {this : Nat} {p1 : Int32} (h : wp_X5_count post xp MC MS this p1 S) : vx_Met l yX5_count wsX5_count ({ frames := 8, cells := MC, slots := MS, locals := 400 } : Room) (va_Pc ([Value.ref this, Value.int p1] : List Value) (bP D y z S A)) (va_Qi post (fun S' t => wd D y z S' A t.heap) A) (bX D y z A xp) MC MS A := by
  refine vx_ofW (cc := cX5_count) (maxL := 2) (ret := (some .int)) (by decide) rfl ?_
  intro p e s m args below meth c s₁ B hml hex hv
  obtain ⟨rfl, hB⟩ := hv
  have hx := B.exec
  have hb := B.bytes
  have hr := B.returns
  have hts := atoms_spec (ws := wsX5_count) B.pre
  have hown : s.vm.findClass RX5 = some m.cls := findClass_of_methodNamed B.named
  have hlocks := B.notSynchronized
  have hw : wd D y z S A s.heap := hB.1
  have hK : va_K D bCl (bT y) s := hB.2.1
  have hNw := hB.2.2.1
  have hAn : ∀ q : Nat, s.heap.size ≤ q → A q := hB.2.2.2.1
  have hAz : ¬ A z := hB.2.2.2.2.1
  have hO := hB.2.2.2.2.2.1
  have hS : va_S A s.heap s.heap [] := va_S.rf
  have hiX2 : ∀ w ∈ u_ws RX2 TX2 2, w ∈ wsX5_count := by decide +kernel
  have hiX5 : ∀ w ∈ u_ws RX5 TX5 6, w ∈ wsX5_count := by decide +kernel
  have hl := lv_entry ([Value.ref this, Value.int p1] : List Value) (n := 2) (Nat.le_of_ble_eq_true rfl)
  rw [lg_entry_eq]
  generalize (lg_sl ([Value.ref this, Value.int p1] : List Value) ++ List.replicate (2 - (lg_sl ([Value.ref this, Value.int p1] : List Value)).length) Slot.unset).toArray = ls at hl ⊢
  have hl : lv_has ls 2 [(0, .ref this), (1, .int p1)] := hl
  obtain ⟨Q, hQ⟩ : ∃ Q, Q = vx_MQ below (va_Qi post (fun S' t => wd D y z S' A t.heap) A) (bX D y z A xp) (([Value.ref this, Value.int p1] : List Value).toArray) s MC MS A := ⟨_, rfl⟩
  rw [← hQ]
  generalize hR : (headSpec wsX5_count ({ frames := 8, cells := MC, slots := MS, locals := 400 } : Room)).room = R
  have hRf : 8 ≤ R.frames := by rw [← hR]; exact Nat.le_refl _
  have hRl : 400 ≤ R.locals := by rw [← hR]; exact Nat.le_refl _
  have hRc : R.cells = MC := by rw [← hR]; rfl
  have hRs : R.slots = MS := by rw [← hR]; rfl
  have hret : ∀ (v : Int32) (S : bS) (H : Heap) (locs : List Loc) (pc : Nat) (ls : Array Slot) (cu su : Nat) , post v S → wd D y z S A H → va_S A s.heap H locs → cu ≤ MC → su ≤ MS → decode cX5_count pc = .ok (.ireturn, 1) → W p l e R s m (([Value.ref this, Value.int p1] : List Value).toArray) below meth c H locs cu su Q (F0 m pc ls [.int v]) := by
    intro v S H locs pc ls cu su h hw hS hcu hsu d0
    rw [hQ]; refine vx_ret ?_; refine W.widen hcu hsu ?_; exact W.iret hx hb hr (fun t ht hW => ⟨⟨v, S, rfl, h, by show wd D y z S A t.heap; rw [ht]; exact hw⟩, hS.F ht⟩) hS.2.2 d0 hlocks
  unfold wp_X5_count at h
  have hcu : 0 + MC ≤ MC := by omega
  have hsu : 0 + MS ≤ MS := by omega
  refine lv_iload_n hx hb dX5_count_0 rfl (lv_at hl 1 rfl) ?_
  by_cases hq0 : p1 = (0 : Int32)
  · have h := h.1 hq0
    refine lv_tableIn (off := 51) (tgt := 52) hx hb dX5_count_1 (by rw [hq0]; decide) (by rw [hq0]; decide) (by rw [hq0]; decide) (by decide) ?_
    refine lv_aload_n hx hb dX5_count_52 rfl (lv_at hl 0 rfl) ?_
    obtain ⟨hk1, h⟩ := h
    refine r_get (ci := 6) (v := .int (gV S 7 this 3)) (C := RX5) (T := TX5) (N := 6) hx hb hts hiX5 hown hK hw (ce_7 (S := S) hk1) rfl 3 (by decide) (hts (.fieldLink RX5 26 "TubePost" "tick" "I") (by decide +kernel)) (fun _ h9 => h9) rfl dX5_count_53 ?_
    exact hret (gV S 7 this 3) _ _ _ _ _ _ _ h hw hS (by omega) (by omega) dX5_count_56
  by_cases hq1 : p1 = (1 : Int32)
  · have h := h.2.1 hq1
    refine lv_tableIn (off := 56) (tgt := 57) hx hb dX5_count_1 (by rw [hq1]; decide) (by rw [hq1]; decide) (by rw [hq1]; decide) (by decide) ?_
    refine lv_aload_n hx hb dX5_count_57 rfl (lv_at hl 0 rfl) ?_
    obtain ⟨hk2, h⟩ := h
    obtain ⟨b3, hb4, h⟩ := h
    refine r_get (ci := 6) (v := .ref b3) (C := RX5) (T := TX5) (N := 6) hx hb hts hiX5 hown hK hw (ce_7 (S := S) hk2) rfl 0 (by decide) (hts (.fieldLink RX5 10 "TubePost" "net" "LTubePost$Net;") (by decide +kernel)) (fun _ h9 => h9) (congrArg (fun q => some (va_rf q)) hb4) dX5_count_58 ?_
    obtain ⟨hk5, h⟩ := h
    obtain ⟨b6, hb7, h⟩ := h
    refine r_getN (ci := 3) (v := .ref b6) (C := RX2) (T := TX2) (N := 2) hx hb hts hiX2 hown hK hw (ce_4 (S := S) hk5) rfl 0 (by decide) (hNw _ (bNw_0)) (fun _ h9 => h9) (congrArg (fun q => some (va_rf q)) hb7) dX5_count_61 ?_
    obtain ⟨hk8, h⟩ := h
    have h1 := h
    refine va_calli (va_runV (As := []) (rest := []) ⟨hx, hb, hml, hown, hts⟩ (m_Jx4a65c_size_8abf5 (l := l) h1) (cwV 0 hts gX5_count_Jx4a65c_size_8abf5 rfl rfl rfl (by decide +kernel) ⟨Nat.le_trans (Nat.le_of_ble_eq_true rfl) hRf, Nat.le_trans (Nat.le_of_ble_eq_true rfl) hRl⟩) (r_pV hB hw hS (ce_1 (S := S) hk8) rfl) rfl rfl hl.1 rfl (lv_room (Nat.le_of_ble_eq_true rfl)) dX5_count_64 ⟨by omega, by omega⟩) hS (fun _ _ h => h) (fun _ h => h) (fun r9 S10 t H1 locs ht _ h hw1 _ _ hS => ?_)
    subst ht
    have hw : wd D y z S10 A t.heap := hw1
    clear hw1 h1
    exact hret r9 _ _ _ _ _ _ _ h hw hS (by omega) (by omega) dX5_count_67
  by_cases hq2 : p1 = (2 : Int32)
  · have h := h.2.2.1 hq2
    refine lv_tableIn (off := 67) (tgt := 68) hx hb dX5_count_1 (by rw [hq2]; decide) (by rw [hq2]; decide) (by rw [hq2]; decide) (by decide) ?_
    refine lv_aload_n hx hb dX5_count_68 rfl (lv_at hl 0 rfl) ?_
    obtain ⟨hk11, h⟩ := h
    obtain ⟨b12, hb13, h⟩ := h
    refine r_get (ci := 6) (v := .ref b12) (C := RX5) (T := TX5) (N := 6) hx hb hts hiX5 hown hK hw (ce_7 (S := S) hk11) rfl 0 (by decide) (hts (.fieldLink RX5 10 "TubePost" "net" "LTubePost$Net;") (by decide +kernel)) (fun _ h9 => h9) (congrArg (fun q => some (va_rf q)) hb13) dX5_count_69 ?_
    obtain ⟨hk14, h⟩ := h
    obtain ⟨b15, hb16, h⟩ := h
    refine r_getN (ci := 3) (v := .ref b15) (C := RX2) (T := TX2) (N := 2) hx hb hts hiX2 hown hK hw (ce_4 (S := S) hk14) rfl 1 (by decide) (hNw _ (bNw_1)) (fun _ h9 => h9) (congrArg (fun q => some (va_rf q)) hb16) dX5_count_72 ?_
    obtain ⟨hk17, h⟩ := h
    have h1 := h
    refine va_calli (va_runV (As := []) (rest := []) ⟨hx, hb, hml, hown, hts⟩ (m_Jx4a65c_size_8abf5 (l := l) h1) (cwV 0 hts gX5_count_Jx4a65c_size_8abf5 rfl rfl rfl (by decide +kernel) ⟨Nat.le_trans (Nat.le_of_ble_eq_true rfl) hRf, Nat.le_trans (Nat.le_of_ble_eq_true rfl) hRl⟩) (r_pV hB hw hS (ce_1 (S := S) hk17) rfl) rfl rfl hl.1 rfl (lv_room (Nat.le_of_ble_eq_true rfl)) dX5_count_75 ⟨by omega, by omega⟩) hS (fun _ _ h => h) (fun _ h => h) (fun r18 S19 t H1 locs ht _ h hw1 _ _ hS => ?_)
    subst ht
    have hw : wd D y z S19 A t.heap := hw1
    clear hw1 h1
    exact hret r18 _ _ _ _ _ _ _ h hw hS (by omega) (by omega) dX5_count_78
  by_cases hq3 : p1 = (3 : Int32)
  · have h := h.2.2.2.1 hq3
    refine lv_tableIn (off := 78) (tgt := 79) hx hb dX5_count_1 (by rw [hq3]; decide) (by rw [hq3]; decide) (by rw [hq3]; decide) (by decide) ?_
    refine lv_aload_n hx hb dX5_count_79 rfl (lv_at hl 0 rfl) ?_
    obtain ⟨hk20, h⟩ := h
    obtain ⟨b21, hb22, h⟩ := h
    refine r_get (ci := 6) (v := .ref b21) (C := RX5) (T := TX5) (N := 6) hx hb hts hiX5 hown hK hw (ce_7 (S := S) hk20) rfl 1 (by decide) (hts (.fieldLink RX5 19 "TubePost" "entries" "Ljava/util/ArrayList;") (by decide +kernel)) (fun _ h9 => h9) (congrArg (fun q => some (va_rf q)) hb22) dX5_count_80 ?_
    obtain ⟨hk23, h⟩ := h
    have h1 := h
    refine va_calli (va_runV (As := []) (rest := []) ⟨hx, hb, hml, hown, hts⟩ (m_Jx4a65c_size_8abf5 (l := l) h1) (cwV 0 hts gX5_count_Jx4a65c_size_8abf5 rfl rfl rfl (by decide +kernel) ⟨Nat.le_trans (Nat.le_of_ble_eq_true rfl) hRf, Nat.le_trans (Nat.le_of_ble_eq_true rfl) hRl⟩) (r_pV hB hw hS (ce_1 (S := S) hk23) rfl) rfl rfl hl.1 rfl (lv_room (Nat.le_of_ble_eq_true rfl)) dX5_count_83 ⟨by omega, by omega⟩) hS (fun _ _ h => h) (fun _ h => h) (fun r24 S25 t H1 locs ht _ h hw1 _ _ hS => ?_)
    subst ht
    have hw : wd D y z S25 A t.heap := hw1
    clear hw1 h1
    exact hret r24 _ _ _ _ _ _ _ h hw hS (by omega) (by omega) dX5_count_86
  by_cases hq4 : p1 = (4 : Int32)
  · have h := h.2.2.2.2.1 hq4
    refine lv_tableIn (off := 86) (tgt := 87) hx hb dX5_count_1 (by rw [hq4]; decide) (by rw [hq4]; decide) (by rw [hq4]; decide) (by decide) ?_
    refine lv_aload_n hx hb dX5_count_87 rfl (lv_at hl 0 rfl) ?_
    obtain ⟨hk26, h⟩ := h
    obtain ⟨b27, hb28, h⟩ := h
    refine r_get (ci := 6) (v := .ref b27) (C := RX5) (T := TX5) (N := 6) hx hb hts hiX5 hown hK hw (ce_7 (S := S) hk26) rfl 2 (by decide) (hts (.fieldLink RX5 23 "TubePost" "carriers" "Ljava/util/ArrayList;") (by decide +kernel)) (fun _ h9 => h9) (congrArg (fun q => some (va_rf q)) hb28) dX5_count_88 ?_
    obtain ⟨hk29, h⟩ := h
    have h1 := h
    refine va_calli (va_runV (As := []) (rest := []) ⟨hx, hb, hml, hown, hts⟩ (m_Jx4a65c_size_8abf5 (l := l) h1) (cwV 0 hts gX5_count_Jx4a65c_size_8abf5 rfl rfl rfl (by decide +kernel) ⟨Nat.le_trans (Nat.le_of_ble_eq_true rfl) hRf, Nat.le_trans (Nat.le_of_ble_eq_true rfl) hRl⟩) (r_pV hB hw hS (ce_1 (S := S) hk29) rfl) rfl rfl hl.1 rfl (lv_room (Nat.le_of_ble_eq_true rfl)) dX5_count_91 ⟨by omega, by omega⟩) hS (fun _ _ h => h) (fun _ h => h) (fun r30 S31 t H1 locs ht _ h hw1 _ _ hS => ?_)
    subst ht
    have hw : wd D y z S31 A t.heap := hw1
    clear hw1 h1
    exact hret r30 _ _ _ _ _ _ _ h hw hS (by omega) (by omega) dX5_count_94
  by_cases hq5 : p1 = (5 : Int32)
  · have h := h.2.2.2.2.2.1 hq5
    refine lv_tableIn (off := 94) (tgt := 95) hx hb dX5_count_1 (by rw [hq5]; decide) (by rw [hq5]; decide) (by rw [hq5]; decide) (by decide) ?_
    refine lv_aload_n hx hb dX5_count_95 rfl (lv_at hl 0 rfl) ?_
    obtain ⟨hk32, h⟩ := h
    have h1 := h
    refine va_calli (va_runV (As := []) (rest := []) ⟨hx, hb, hml, hown, hts⟩ (m_X5_underWay (l := l) h1) (cwV 0 hts gX5_count_X5_underWay rfl rfl rfl (by decide +kernel) ⟨Nat.le_trans (Nat.le_of_ble_eq_true rfl) hRf, Nat.le_trans (Nat.le_of_ble_eq_true rfl) hRl⟩) (r_pV hB hw hS (ce_7 (S := S) hk32) rfl) rfl rfl hl.1 rfl (lv_room (Nat.le_of_ble_eq_true rfl)) dX5_count_96 ⟨by omega, by omega⟩) hS (fun _ _ h => h) (fun _ h => h) (fun r33 S34 t H1 locs ht _ h hw1 _ _ hS => ?_)
    subst ht
    have hw : wd D y z S34 A t.heap := hw1
    clear hw1 h1
    exact hret r33 _ _ _ _ _ _ _ h hw hS (by omega) (by omega) dX5_count_99
  by_cases hq6 : p1 = (6 : Int32)
  · have h := h.2.2.2.2.2.2.1 hq6
    refine lv_tableIn (off := 99) (tgt := 100) hx hb dX5_count_1 (by rw [hq6]; decide) (by rw [hq6]; decide) (by rw [hq6]; decide) (by decide) ?_
    refine lv_aload_n hx hb dX5_count_100 rfl (lv_at hl 0 rfl) ?_
    obtain ⟨hk35, h⟩ := h
    refine r_get (ci := 6) (v := .int (gV S 7 this 4)) (C := RX5) (T := TX5) (N := 6) hx hb hts hiX5 hown hK hw (ce_7 (S := S) hk35) rfl 4 (by decide) (hts (.fieldLink RX5 30 "TubePost" "delivered" "I") (by decide +kernel)) (fun _ h9 => h9) rfl dX5_count_101 ?_
    exact hret (gV S 7 this 4) _ _ _ _ _ _ _ h hw hS (by omega) (by omega) dX5_count_104
  by_cases hq7 : p1 = (7 : Int32)
  · have h := h.2.2.2.2.2.2.2.1 hq7
    refine lv_tableIn (off := 104) (tgt := 105) hx hb dX5_count_1 (by rw [hq7]; decide) (by rw [hq7]; decide) (by rw [hq7]; decide) (by decide) ?_
    refine lv_aload_n hx hb dX5_count_105 rfl (lv_at hl 0 rfl) ?_
    obtain ⟨hk36, h⟩ := h
    have h1 := h
    refine va_calli (va_runV (As := []) (rest := []) ⟨hx, hb, hml, hown, hts⟩ (m_X5_jammedTubes (l := l) h1) (cwV 0 hts gX5_count_X5_jammedTubes rfl rfl rfl (by decide +kernel) ⟨Nat.le_trans (Nat.le_of_ble_eq_true rfl) hRf, Nat.le_trans (Nat.le_of_ble_eq_true rfl) hRl⟩) (r_pV hB hw hS (ce_7 (S := S) hk36) rfl) rfl rfl hl.1 rfl (lv_room (Nat.le_of_ble_eq_true rfl)) dX5_count_106 ⟨by omega, by omega⟩) hS (fun _ _ h => h) (fun _ h => h) (fun r37 S38 t H1 locs ht _ h hw1 _ _ hS => ?_)
    subst ht
    have hw : wd D y z S38 A t.heap := hw1
    clear hw1 h1
    exact hret r37 _ _ _ _ _ _ _ h hw hS (by omega) (by omega) dX5_count_109
  by_cases hq8 : p1 = (8 : Int32)
  · have h := h.2.2.2.2.2.2.2.2.1 hq8
    refine lv_tableIn (off := 109) (tgt := 110) hx hb dX5_count_1 (by rw [hq8]; decide) (by rw [hq8]; decide) (by rw [hq8]; decide) (by decide) ?_
    refine lv_aload_n hx hb dX5_count_110 rfl (lv_at hl 0 rfl) ?_
    obtain ⟨hk39, h⟩ := h
    refine r_get (ci := 6) (v := .int (gV S 7 this 5)) (C := RX5) (T := TX5) (N := 6) hx hb hts hiX5 hown hK hw (ce_7 (S := S) hk39) rfl 5 (by decide) (hts (.fieldLink RX5 33 "TubePost" "ticksUnderWay" "I") (by decide +kernel)) (fun _ h9 => h9) rfl dX5_count_111 ?_
    exact hret (gV S 7 this 5) _ _ _ _ _ _ _ h hw hS (by omega) (by omega) dX5_count_114
  have h := h.2.2.2.2.2.2.2.2.2 hq0 hq1 hq2 hq3 hq4 hq5 hq6 hq7 hq8
  have ht0 : Int32.toInt p1 ≠ (0 : Int) := fun q => hq0 (b_ti q rfl)
  have ht1 : Int32.toInt p1 ≠ (1 : Int) := fun q => hq1 (b_ti q rfl)
  have ht2 : Int32.toInt p1 ≠ (2 : Int) := fun q => hq2 (b_ti q rfl)
  have ht3 : Int32.toInt p1 ≠ (3 : Int) := fun q => hq3 (b_ti q rfl)
  have ht4 : Int32.toInt p1 ≠ (4 : Int) := fun q => hq4 (b_ti q rfl)
  have ht5 : Int32.toInt p1 ≠ (5 : Int) := fun q => hq5 (b_ti q rfl)
  have ht6 : Int32.toInt p1 ≠ (6 : Int) := fun q => hq6 (b_ti q rfl)
  have ht7 : Int32.toInt p1 ≠ (7 : Int) := fun q => hq7 (b_ti q rfl)
  have ht8 : Int32.toInt p1 ≠ (8 : Int) := fun q => hq8 (b_ti q rfl)
  refine lv_tableOut (tgt := 115) hx hb dX5_count_1 (by omega) (by decide) ?_
  obtain ⟨hbg1, hbg2, h⟩ := h
  obtain ⟨sa9, hsa9⟩ := b_str hB 0 rfl
  rw [hQ]
  exact vx_throwS (names := ["java/lang/RuntimeException", "java/lang/Exception"]) hx hb hl0 hown (by decide +kernel) (by decide +kernel) (hts (.classLink RX5 127 "java/lang/IndexOutOfBoundsException") (by decide +kernel)) (hts (.initialized "java/lang/IndexOutOfBoundsException") (by decide +kernel)) hsa9 (b_hat (fun w hw9 => hts w ((by decide +kernel : ∀ w ∈ (vx_atS RX5 131 "java/lang/IndexOutOfBoundsException" ["java/lang/RuntimeException", "java/lang/Exception"]).filter goodWord, w ∈ wsX5_count) w hw9)) (by decide +kernel) hB) (by decide +kernel) (b_U hB) (b_N hB) hS (by rw [hml]; exact hl.1) dX5_count_115 dX5_count_118 dX5_count_119 dX5_count_121 dX5_count_124 (fun x hx => (hex x hx).elim) (Nat.lt_of_lt_of_le (by decide) hRf) (Nat.le_trans (Nat.le_of_ble_eq_true rfl) hRl) (by omega) (by omega) hlocks (fun t9 ha9 hz9 hk9 => ⟨S, trivial, ⟨h, b_grow hw hz9 hk9⟩, b_growF hS hz9 hk9⟩) hS.2.2 (by omega) (by omega)
def wp_X5_station (post : Int32 → bS → Prop) (xp : String → bS → Prop) (MC MS : Nat) (this : Nat) (p1 : Int32) (p2 : Int32) (S : bS) : Prop := gK S this = 7 ∧ (∃ k6 n7, k6 ≤ MC ∧ n7 ≤ MS ∧ (wp_X5_knownStation (fun r2 S3 => ∃ b4, r2 = some b4 ∧ ((p2 = (0 : Int32) → gK S3 b4 = 5 ∧ (post (gV S3 5 b4 1) S3)) ∧ (p2 = (1 : Int32) → gK S3 b4 = 5 ∧ (post (gV S3 5 b4 2) S3)) ∧ (p2 = (2 : Int32) → gK S3 b4 = 5 ∧ (∃ b11, gQ S3 5 b4 3 = some b11 ∧ (gK S3 b11 = 1 ∧ (wp_Jx4a65c_size_8abf5 (fun r14 S15 => post r14 S15) b11 S3)))) ∧ (p2 = (3 : Int32) → gK S3 b4 = 5 ∧ (post (gV S3 5 b4 8) S3)) ∧ (p2 = (4 : Int32) → gK S3 b4 = 5 ∧ (∃ b18, gQ S3 5 b4 4 = some b18 ∧ (gK S3 b18 = 1 ∧ (wp_Jx4a65c_size_8abf5 (fun r21 S22 => post r21 S22) b18 S3)))) ∧ (p2 = (5 : Int32) → gK S3 b4 = 5 ∧ (post (gV S3 5 b4 9) S3)) ∧ (¬ p2 = (0 : Int32) → ¬ p2 = (1 : Int32) → ¬ p2 = (2 : Int32) → ¬ p2 = (3 : Int32) → ¬ p2 = (4 : Int32) → ¬ p2 = (5 : Int32) → 1 ≤ (MC - k6) ∧ 6 ≤ (MS - n7) ∧ xp "java/lang/IndexOutOfBoundsException" S3))) xp k6 n7 this p1 S))
set_option maxHeartbeats 4000000 in
set_option maxRecDepth 100000 in
theorem m_X5_station {l : Launch} {D : va_G} {y : Nat → ClassId} {z : Nat} {A : Nat → Prop} {S : bS} {post : Int32 → bS → Prop} {xp : String → bS → Prop} (hl0 : l.stackTraces = false) {MC MS : Nat} {this : Nat} {p1 : Int32} {p2 : Int32} (h : wp_X5_station post xp MC MS this p1 p2 S) : vx_Met l yX5_station wsX5_station ({ frames := 9, cells := MC, slots := MS, locals := 421 } : Room) (va_Pc ([Value.ref this, Value.int p1, Value.int p2] : List Value) (bP D y z S A)) (va_Qi post (fun S' t => wd D y z S' A t.heap) A) (bX D y z A xp) MC MS A := by
  refine vx_ofW (cc := cX5_station) (maxL := 4) (ret := (some .int)) (by decide) rfl ?_
  intro p e s m args below meth c s₁ B hml hex hv
  obtain ⟨rfl, hB⟩ := hv
  have hx := B.exec
  have hb := B.bytes
  have hr := B.returns
  have hts := atoms_spec (ws := wsX5_station) B.pre
  have hown : s.vm.findClass RX5 = some m.cls := findClass_of_methodNamed B.named
  have hlocks := B.notSynchronized
  have hw : wd D y z S A s.heap := hB.1
  have hK : va_K D bCl (bT y) s := hB.2.1
  have hNw := hB.2.2.1
  have hAn : ∀ q : Nat, s.heap.size ≤ q → A q := hB.2.2.2.1
  have hAz : ¬ A z := hB.2.2.2.2.1
  have hO := hB.2.2.2.2.2.1
  have hS : va_S A s.heap s.heap [] := va_S.rf
  have hiX3 : ∀ w ∈ u_ws RX3 TX3 10, w ∈ wsX5_station := by decide +kernel
  have hl := lv_entry ([Value.ref this, Value.int p1, Value.int p2] : List Value) (n := 4) (Nat.le_of_ble_eq_true rfl)
  rw [lg_entry_eq]
  generalize (lg_sl ([Value.ref this, Value.int p1, Value.int p2] : List Value) ++ List.replicate (4 - (lg_sl ([Value.ref this, Value.int p1, Value.int p2] : List Value)).length) Slot.unset).toArray = ls at hl ⊢
  have hl : lv_has ls 4 [(0, .ref this), (1, .int p1), (2, .int p2)] := hl
  obtain ⟨Q, hQ⟩ : ∃ Q, Q = vx_MQ below (va_Qi post (fun S' t => wd D y z S' A t.heap) A) (bX D y z A xp) (([Value.ref this, Value.int p1, Value.int p2] : List Value).toArray) s MC MS A := ⟨_, rfl⟩
  rw [← hQ]
  generalize hR : (headSpec wsX5_station ({ frames := 9, cells := MC, slots := MS, locals := 421 } : Room)).room = R
  have hRf : 9 ≤ R.frames := by rw [← hR]; exact Nat.le_refl _
  have hRl : 421 ≤ R.locals := by rw [← hR]; exact Nat.le_refl _
  have hRc : R.cells = MC := by rw [← hR]; rfl
  have hRs : R.slots = MS := by rw [← hR]; rfl
  have hret : ∀ (v : Int32) (S : bS) (H : Heap) (locs : List Loc) (pc : Nat) (ls : Array Slot) (cu su : Nat) , post v S → wd D y z S A H → va_S A s.heap H locs → cu ≤ MC → su ≤ MS → decode cX5_station pc = .ok (.ireturn, 1) → W p l e R s m (([Value.ref this, Value.int p1, Value.int p2] : List Value).toArray) below meth c H locs cu su Q (F0 m pc ls [.int v]) := by
    intro v S H locs pc ls cu su h hw hS hcu hsu d0
    rw [hQ]; refine vx_ret ?_; refine W.widen hcu hsu ?_; exact W.iret hx hb hr (fun t ht hW => ⟨⟨v, S, rfl, h, by show wd D y z S A t.heap; rw [ht]; exact hw⟩, hS.F ht⟩) hS.2.2 d0 hlocks
  unfold wp_X5_station at h
  have hcu : 0 + MC ≤ MC := by omega
  have hsu : 0 + MS ≤ MS := by omega
  refine lv_aload_n hx hb dX5_station_0 rfl (lv_at hl 0 rfl) ?_
  refine lv_iload_n hx hb dX5_station_1 rfl (lv_at hl 1 rfl) ?_
  obtain ⟨hk1, h⟩ := h
  obtain ⟨k6, n7, hbg1, hbg2, h⟩ := h
  have h1 := h
  refine vx_callq (vx_runV (As := [.int p1]) (rest := []) ⟨hx, hb, hml, hown, hts⟩ (m_X5_knownStation (l := l) hl0 h1) (cwV 1 hts gX5_station_X5_knownStation rfl rfl rfl (by decide +kernel) ⟨Nat.le_trans (Nat.le_of_ble_eq_true rfl) hRf, Nat.le_trans (Nat.le_of_ble_eq_true rfl) hRl⟩) (r_pV hB hw hS (ce_7 (S := S) hk1) rfl) rfl rfl hl.1 rfl (lv_room (Nat.le_of_ble_eq_true rfl)) dX5_station_2 ⟨by omega, by omega⟩) hS (fun _ _ h => h) (fun _ h => h) (fun _ _ h => h) (fun E ce q9 S3 t H1 locs ht hal _ hq hz9 hk9 hS hq9 hvm9 hfc9 => by rw [hQ]; exact vx_out (fun x hx => (hex x hx).elim) hlocks hq9 hvm9 hfc9 (fun t9 ht9 _ => ⟨S3, trivial, ⟨hq.1, by rw [ht9, ← ht]; exact hq.2⟩, hS.F ht9⟩) hS.2.2 (by omega) (by omega)) (fun r2 S3 t H1 locs ht _ h hw1 _ _ hS => ?_)
  subst ht
  have hw : wd D y z S3 A t.heap := hw1
  clear hw1 h1
  have hcu : (0 + k6) + (MC - k6) ≤ MC := by omega
  have hsu : (0 + n7) + (MS - n7) ≤ MS := by omega
  obtain ⟨b4, rfl, h⟩ := h
  refine W.eq (g2 := F0 m 5 ls [.ref b4]) rfl ?_
  refine lv_astore_n hx hb dX5_station_5 rfl hl (by decide) rfl (fun ls hl => ?_)
  have hl : lv_has ls 4 [(3, .ref b4), (0, .ref this), (1, .int p1), (2, .int p2)] := hl
  refine lv_iload_n hx hb dX5_station_6 rfl (lv_at hl 3 rfl) ?_
  by_cases hq0 : p2 = (0 : Int32)
  · have h := h.1 hq0
    refine lv_tableIn (off := 37) (tgt := 44) hx hb dX5_station_7 (by rw [hq0]; decide) (by rw [hq0]; decide) (by rw [hq0]; decide) (by decide) ?_
    refine lv_aload_n hx hb dX5_station_44 rfl (lv_at hl 0 rfl) ?_
    obtain ⟨hk8, h⟩ := h
    refine r_getN (ci := 4) (v := .int (gV S3 5 b4 1)) (C := RX3) (T := TX3) (N := 10) hx hb hts hiX3 hown hK hw (ce_5 (S := S3) hk8) rfl 1 (by decide) (hNw _ (bNw_13)) (fun _ h9 => h9) rfl dX5_station_45 ?_
    exact hret (gV S3 5 b4 1) _ _ _ _ _ _ _ h hw hS (by omega) (by omega) dX5_station_48
  by_cases hq1 : p2 = (1 : Int32)
  · have h := h.2.1 hq1
    refine lv_tableIn (off := 42) (tgt := 49) hx hb dX5_station_7 (by rw [hq1]; decide) (by rw [hq1]; decide) (by rw [hq1]; decide) (by decide) ?_
    refine lv_aload_n hx hb dX5_station_49 rfl (lv_at hl 0 rfl) ?_
    obtain ⟨hk9, h⟩ := h
    refine r_getN (ci := 4) (v := .int (gV S3 5 b4 2)) (C := RX3) (T := TX3) (N := 10) hx hb hts hiX3 hown hK hw (ce_5 (S := S3) hk9) rfl 2 (by decide) (hNw _ (bNw_14)) (fun _ h9 => h9) rfl dX5_station_50 ?_
    exact hret (gV S3 5 b4 2) _ _ _ _ _ _ _ h hw hS (by omega) (by omega) dX5_station_53
  by_cases hq2 : p2 = (2 : Int32)
  · have h := h.2.2.1 hq2
    refine lv_tableIn (off := 47) (tgt := 54) hx hb dX5_station_7 (by rw [hq2]; decide) (by rw [hq2]; decide) (by rw [hq2]; decide) (by decide) ?_
    refine lv_aload_n hx hb dX5_station_54 rfl (lv_at hl 0 rfl) ?_
    obtain ⟨hk10, h⟩ := h
    obtain ⟨b11, hb12, h⟩ := h
    refine r_getN (ci := 4) (v := .ref b11) (C := RX3) (T := TX3) (N := 10) hx hb hts hiX3 hown hK hw (ce_5 (S := S3) hk10) rfl 3 (by decide) (hNw _ (bNw_2)) (fun _ h9 => h9) (congrArg (fun q => some (va_rf q)) hb12) dX5_station_55 ?_
    obtain ⟨hk13, h⟩ := h
    have h1 := h
    refine va_calli (va_runV (As := []) (rest := []) ⟨hx, hb, hml, hown, hts⟩ (m_Jx4a65c_size_8abf5 (l := l) h1) (cwV 0 hts gX5_station_Jx4a65c_size_8abf5 rfl rfl rfl (by decide +kernel) ⟨Nat.le_trans (Nat.le_of_ble_eq_true rfl) hRf, Nat.le_trans (Nat.le_of_ble_eq_true rfl) hRl⟩) (r_pV hB hw hS (ce_1 (S := S3) hk13) rfl) rfl rfl hl.1 rfl (lv_room (Nat.le_of_ble_eq_true rfl)) dX5_station_58 ⟨by omega, by omega⟩) hS (fun _ _ h => h) (fun _ h => h) (fun r14 S15 t H1 locs ht _ h hw1 _ _ hS => ?_)
    subst ht
    have hw : wd D y z S15 A t.heap := hw1
    clear hw1 h1
    exact hret r14 _ _ _ _ _ _ _ h hw hS (by omega) (by omega) dX5_station_61
  by_cases hq3 : p2 = (3 : Int32)
  · have h := h.2.2.2.1 hq3
    refine lv_tableIn (off := 55) (tgt := 62) hx hb dX5_station_7 (by rw [hq3]; decide) (by rw [hq3]; decide) (by rw [hq3]; decide) (by decide) ?_
    refine lv_aload_n hx hb dX5_station_62 rfl (lv_at hl 0 rfl) ?_
    obtain ⟨hk16, h⟩ := h
    refine r_getN (ci := 4) (v := .int (gV S3 5 b4 8)) (C := RX3) (T := TX3) (N := 10) hx hb hts hiX3 hown hK hw (ce_5 (S := S3) hk16) rfl 8 (by decide) (hNw _ (bNw_3)) (fun _ h9 => h9) rfl dX5_station_63 ?_
    exact hret (gV S3 5 b4 8) _ _ _ _ _ _ _ h hw hS (by omega) (by omega) dX5_station_66
  by_cases hq4 : p2 = (4 : Int32)
  · have h := h.2.2.2.2.1 hq4
    refine lv_tableIn (off := 60) (tgt := 67) hx hb dX5_station_7 (by rw [hq4]; decide) (by rw [hq4]; decide) (by rw [hq4]; decide) (by decide) ?_
    refine lv_aload_n hx hb dX5_station_67 rfl (lv_at hl 0 rfl) ?_
    obtain ⟨hk17, h⟩ := h
    obtain ⟨b18, hb19, h⟩ := h
    refine r_getN (ci := 4) (v := .ref b18) (C := RX3) (T := TX3) (N := 10) hx hb hts hiX3 hown hK hw (ce_5 (S := S3) hk17) rfl 4 (by decide) (hNw _ (bNw_15)) (fun _ h9 => h9) (congrArg (fun q => some (va_rf q)) hb19) dX5_station_68 ?_
    obtain ⟨hk20, h⟩ := h
    have h1 := h
    refine va_calli (va_runV (As := []) (rest := []) ⟨hx, hb, hml, hown, hts⟩ (m_Jx4a65c_size_8abf5 (l := l) h1) (cwV 0 hts gX5_station_Jx4a65c_size_8abf5 rfl rfl rfl (by decide +kernel) ⟨Nat.le_trans (Nat.le_of_ble_eq_true rfl) hRf, Nat.le_trans (Nat.le_of_ble_eq_true rfl) hRl⟩) (r_pV hB hw hS (ce_1 (S := S3) hk20) rfl) rfl rfl hl.1 rfl (lv_room (Nat.le_of_ble_eq_true rfl)) dX5_station_71 ⟨by omega, by omega⟩) hS (fun _ _ h => h) (fun _ h => h) (fun r21 S22 t H1 locs ht _ h hw1 _ _ hS => ?_)
    subst ht
    have hw : wd D y z S22 A t.heap := hw1
    clear hw1 h1
    exact hret r21 _ _ _ _ _ _ _ h hw hS (by omega) (by omega) dX5_station_74
  by_cases hq5 : p2 = (5 : Int32)
  · have h := h.2.2.2.2.2.1 hq5
    refine lv_tableIn (off := 68) (tgt := 75) hx hb dX5_station_7 (by rw [hq5]; decide) (by rw [hq5]; decide) (by rw [hq5]; decide) (by decide) ?_
    refine lv_aload_n hx hb dX5_station_75 rfl (lv_at hl 0 rfl) ?_
    obtain ⟨hk23, h⟩ := h
    refine r_getN (ci := 4) (v := .int (gV S3 5 b4 9)) (C := RX3) (T := TX3) (N := 10) hx hb hts hiX3 hown hK hw (ce_5 (S := S3) hk23) rfl 9 (by decide) (hNw _ (bNw_16)) (fun _ h9 => h9) rfl dX5_station_76 ?_
    exact hret (gV S3 5 b4 9) _ _ _ _ _ _ _ h hw hS (by omega) (by omega) dX5_station_79
  have h := h.2.2.2.2.2.2 hq0 hq1 hq2 hq3 hq4 hq5
  have ht0 : Int32.toInt p2 ≠ (0 : Int) := fun q => hq0 (b_ti q rfl)
  have ht1 : Int32.toInt p2 ≠ (1 : Int) := fun q => hq1 (b_ti q rfl)
  have ht2 : Int32.toInt p2 ≠ (2 : Int) := fun q => hq2 (b_ti q rfl)
  have ht3 : Int32.toInt p2 ≠ (3 : Int) := fun q => hq3 (b_ti q rfl)
  have ht4 : Int32.toInt p2 ≠ (4 : Int) := fun q => hq4 (b_ti q rfl)
  have ht5 : Int32.toInt p2 ≠ (5 : Int) := fun q => hq5 (b_ti q rfl)
  refine lv_tableOut (tgt := 80) hx hb dX5_station_7 (by omega) (by decide) ?_
  obtain ⟨hbg1, hbg2, h⟩ := h
  obtain ⟨sa9, hsa9⟩ := b_str hB 2 rfl
  rw [hQ]
  exact vx_throwS (names := ["java/lang/RuntimeException", "java/lang/Exception"]) hx hb hl0 hown (by decide +kernel) (by decide +kernel) (hts (.classLink RX5 127 "java/lang/IndexOutOfBoundsException") (by decide +kernel)) (hts (.initialized "java/lang/IndexOutOfBoundsException") (by decide +kernel)) hsa9 (b_hat (fun w hw9 => hts w ((by decide +kernel : ∀ w ∈ (vx_atS RX5 131 "java/lang/IndexOutOfBoundsException" ["java/lang/RuntimeException", "java/lang/Exception"]).filter goodWord, w ∈ wsX5_station) w hw9)) (by decide +kernel) hB) (by decide +kernel) (b_U hB) (b_N hB) hS (by rw [hml]; exact hl.1) dX5_station_80 dX5_station_83 dX5_station_84 dX5_station_86 dX5_station_89 (fun x hx => (hex x hx).elim) (Nat.lt_of_lt_of_le (by decide) hRf) (Nat.le_trans (Nat.le_of_ble_eq_true rfl) hRl) (by omega) (by omega) hlocks (fun t9 ha9 hz9 hk9 => ⟨S3, trivial, ⟨h, b_grow hw hz9 hk9⟩, b_growF hS hz9 hk9⟩) hS.2.2 (by omega) (by omega)
def wb_X5_tube_99 (post : Int32 → bS → Prop) (xp : String → bS → Prop) (mc ms : Nat) (s0 : Int32) (S : bS) : Prop := post s0 S
def wb_X5_tube_124 (post : Int32 → bS → Prop) (xp : String → bS → Prop) (mc ms : Nat) (s0 : Int32) (S : bS) : Prop := post s0 S
def wp_X5_tube (post : Int32 → bS → Prop) (xp : String → bS → Prop) (MC MS : Nat) (this : Nat) (p1 : Int32) (p2 : Int32) (S : bS) : Prop := gK S this = 7 ∧ (∃ k6 n7, k6 ≤ MC ∧ n7 ≤ MS ∧ (wp_X5_knownTube (fun r2 S3 => ∃ b4, r2 = some b4 ∧ ((p2 = (0 : Int32) → gK S3 b4 = 6 ∧ (∃ b9, gQ S3 6 b4 1 = some b9 ∧ (gK S3 b9 = 5 ∧ (post (gV S3 5 b9 0) S3)))) ∧ (p2 = (1 : Int32) → gK S3 b4 = 6 ∧ (∃ b13, gQ S3 6 b4 2 = some b13 ∧ (gK S3 b13 = 5 ∧ (post (gV S3 5 b13 0) S3)))) ∧ (p2 = (2 : Int32) → gK S3 b4 = 6 ∧ (post (gV S3 6 b4 3) S3)) ∧ (p2 = (3 : Int32) → gK S3 b4 = 6 ∧ (post (gV S3 6 b4 6) S3)) ∧ (p2 = (4 : Int32) → gK S3 b4 = 6 ∧ (post (gV S3 6 b4 4) S3)) ∧ (p2 = (5 : Int32) → gK S3 b4 = 6 ∧ (((gV S3 6 b4 8) = (0 : Int32) → wb_X5_tube_99 post xp (MC - k6) (MS - n7) (0 : Int32) S3) ∧ (¬ ((gV S3 6 b4 8) = (0 : Int32)) → wb_X5_tube_99 post xp (MC - k6) (MS - n7) (1 : Int32) S3))) ∧ (p2 = (6 : Int32) → gK S3 b4 = 6 ∧ (∃ b21, gQ S3 6 b4 5 = some b21 ∧ (gK S3 b21 = 1 ∧ (wp_Jx4a65c_size_8abf5 (fun r24 S25 => post r24 S25) b21 S3)))) ∧ (p2 = (7 : Int32) → gK S3 this = 7 ∧ (gK S3 b4 = 6 ∧ (wp_X4_isFirstAtEnd (fun r28 S29 => (r28 = (0 : Int32) → wb_X5_tube_124 post xp (MC - k6) (MS - n7) (0 : Int32) S29) ∧ (¬ (r28 = (0 : Int32)) → wb_X5_tube_124 post xp (MC - k6) (MS - n7) (1 : Int32) S29)) b4 (gV S3 7 this 3) S3))) ∧ (p2 = (8 : Int32) → gK S3 b4 = 6 ∧ (post (gV S3 6 b4 9) S3)) ∧ (¬ p2 = (0 : Int32) → ¬ p2 = (1 : Int32) → ¬ p2 = (2 : Int32) → ¬ p2 = (3 : Int32) → ¬ p2 = (4 : Int32) → ¬ p2 = (5 : Int32) → ¬ p2 = (6 : Int32) → ¬ p2 = (7 : Int32) → ¬ p2 = (8 : Int32) → 1 ≤ (MC - k6) ∧ 6 ≤ (MS - n7) ∧ xp "java/lang/IndexOutOfBoundsException" S3))) xp k6 n7 this p1 S))
set_option maxHeartbeats 4000000 in
set_option maxRecDepth 100000 in
theorem m_X5_tube {l : Launch} {D : va_G} {y : Nat → ClassId} {z : Nat} {A : Nat → Prop} {S : bS} {post : Int32 → bS → Prop} {xp : String → bS → Prop} (hl0 : l.stackTraces = false) {MC MS : Nat} {this : Nat} {p1 : Int32} {p2 : Int32} (h : wp_X5_tube post xp MC MS this p1 p2 S) : vx_Met l yX5_tube wsX5_tube ({ frames := 9, cells := MC, slots := MS, locals := 421 } : Room) (va_Pc ([Value.ref this, Value.int p1, Value.int p2] : List Value) (bP D y z S A)) (va_Qi post (fun S' t => wd D y z S' A t.heap) A) (bX D y z A xp) MC MS A := by
  refine vx_ofW (cc := cX5_tube) (maxL := 4) (ret := (some .int)) (by decide) rfl ?_
  intro p e s m args below meth c s₁ B hml hex hv
  obtain ⟨rfl, hB⟩ := hv
  have hx := B.exec
  have hb := B.bytes
  have hr := B.returns
  have hts := atoms_spec (ws := wsX5_tube) B.pre
  have hown : s.vm.findClass RX5 = some m.cls := findClass_of_methodNamed B.named
  have hlocks := B.notSynchronized
  have hw : wd D y z S A s.heap := hB.1
  have hK : va_K D bCl (bT y) s := hB.2.1
  have hNw := hB.2.2.1
  have hAn : ∀ q : Nat, s.heap.size ≤ q → A q := hB.2.2.2.1
  have hAz : ¬ A z := hB.2.2.2.2.1
  have hO := hB.2.2.2.2.2.1
  have hS : va_S A s.heap s.heap [] := va_S.rf
  have hiX3 : ∀ w ∈ u_ws RX3 TX3 10, w ∈ wsX5_tube := by decide +kernel
  have hiX4 : ∀ w ∈ u_ws RX4 TX4 11, w ∈ wsX5_tube := by decide +kernel
  have hiX5 : ∀ w ∈ u_ws RX5 TX5 6, w ∈ wsX5_tube := by decide +kernel
  have hl := lv_entry ([Value.ref this, Value.int p1, Value.int p2] : List Value) (n := 4) (Nat.le_of_ble_eq_true rfl)
  rw [lg_entry_eq]
  generalize (lg_sl ([Value.ref this, Value.int p1, Value.int p2] : List Value) ++ List.replicate (4 - (lg_sl ([Value.ref this, Value.int p1, Value.int p2] : List Value)).length) Slot.unset).toArray = ls at hl ⊢
  have hl : lv_has ls 4 [(0, .ref this), (1, .int p1), (2, .int p2)] := hl
  obtain ⟨Q, hQ⟩ : ∃ Q, Q = vx_MQ below (va_Qi post (fun S' t => wd D y z S' A t.heap) A) (bX D y z A xp) (([Value.ref this, Value.int p1, Value.int p2] : List Value).toArray) s MC MS A := ⟨_, rfl⟩
  rw [← hQ]
  generalize hR : (headSpec wsX5_tube ({ frames := 9, cells := MC, slots := MS, locals := 421 } : Room)).room = R
  have hRf : 9 ≤ R.frames := by rw [← hR]; exact Nat.le_refl _
  have hRl : 421 ≤ R.locals := by rw [← hR]; exact Nat.le_refl _
  have hRc : R.cells = MC := by rw [← hR]; rfl
  have hRs : R.slots = MS := by rw [← hR]; rfl
  have hret : ∀ (v : Int32) (S : bS) (H : Heap) (locs : List Loc) (pc : Nat) (ls : Array Slot) (cu su : Nat) , post v S → wd D y z S A H → va_S A s.heap H locs → cu ≤ MC → su ≤ MS → decode cX5_tube pc = .ok (.ireturn, 1) → W p l e R s m (([Value.ref this, Value.int p1, Value.int p2] : List Value).toArray) below meth c H locs cu su Q (F0 m pc ls [.int v]) := by
    intro v S H locs pc ls cu su h hw hS hcu hsu d0
    rw [hQ]; refine vx_ret ?_; refine W.widen hcu hsu ?_; exact W.iret hx hb hr (fun t ht hW => ⟨⟨v, S, rfl, h, by show wd D y z S A t.heap; rw [ht]; exact hw⟩, hS.F ht⟩) hS.2.2 d0 hlocks
  have hB99 : ∀ (S : bS) (H : Heap) (locs : List Loc) (ls : Array Slot) (mc ms cu su : Nat) (s0 : Int32), wb_X5_tube_99 post xp mc ms s0 S → wd D y z S A H → va_S A s.heap H locs → lv_has ls 4 [] → cu + mc ≤ MC → su + ms ≤ MS → W p l e R s m (([Value.ref this, Value.int p1, Value.int p2] : List Value).toArray) below meth c H locs cu su Q (F0 m 99 ls [.int s0]) := by
    intro S H locs ls mc ms cu su s0 h hw hS hl hcu hsu
    unfold wb_X5_tube_99 at h
    exact hret s0 _ _ _ _ _ _ _ h hw hS (by omega) (by omega) dX5_tube_99
  have hB124 : ∀ (S : bS) (H : Heap) (locs : List Loc) (ls : Array Slot) (mc ms cu su : Nat) (s0 : Int32), wb_X5_tube_124 post xp mc ms s0 S → wd D y z S A H → va_S A s.heap H locs → lv_has ls 4 [] → cu + mc ≤ MC → su + ms ≤ MS → W p l e R s m (([Value.ref this, Value.int p1, Value.int p2] : List Value).toArray) below meth c H locs cu su Q (F0 m 124 ls [.int s0]) := by
    intro S H locs ls mc ms cu su s0 h hw hS hl hcu hsu
    unfold wb_X5_tube_124 at h
    exact hret s0 _ _ _ _ _ _ _ h hw hS (by omega) (by omega) dX5_tube_124
  unfold wp_X5_tube at h
  have hcu : 0 + MC ≤ MC := by omega
  have hsu : 0 + MS ≤ MS := by omega
  refine lv_aload_n hx hb dX5_tube_0 rfl (lv_at hl 0 rfl) ?_
  refine lv_iload_n hx hb dX5_tube_1 rfl (lv_at hl 1 rfl) ?_
  obtain ⟨hk1, h⟩ := h
  obtain ⟨k6, n7, hbg1, hbg2, h⟩ := h
  have h1 := h
  refine vx_callq (vx_runV (As := [.int p1]) (rest := []) ⟨hx, hb, hml, hown, hts⟩ (m_X5_knownTube (l := l) hl0 h1) (cwV 1 hts gX5_tube_X5_knownTube rfl rfl rfl (by decide +kernel) ⟨Nat.le_trans (Nat.le_of_ble_eq_true rfl) hRf, Nat.le_trans (Nat.le_of_ble_eq_true rfl) hRl⟩) (r_pV hB hw hS (ce_7 (S := S) hk1) rfl) rfl rfl hl.1 rfl (lv_room (Nat.le_of_ble_eq_true rfl)) dX5_tube_2 ⟨by omega, by omega⟩) hS (fun _ _ h => h) (fun _ h => h) (fun _ _ h => h) (fun E ce q9 S3 t H1 locs ht hal _ hq hz9 hk9 hS hq9 hvm9 hfc9 => by rw [hQ]; exact vx_out (fun x hx => (hex x hx).elim) hlocks hq9 hvm9 hfc9 (fun t9 ht9 _ => ⟨S3, trivial, ⟨hq.1, by rw [ht9, ← ht]; exact hq.2⟩, hS.F ht9⟩) hS.2.2 (by omega) (by omega)) (fun r2 S3 t H1 locs ht _ h hw1 _ _ hS => ?_)
  subst ht
  have hw : wd D y z S3 A t.heap := hw1
  clear hw1 h1
  have hcu : (0 + k6) + (MC - k6) ≤ MC := by omega
  have hsu : (0 + n7) + (MS - n7) ≤ MS := by omega
  obtain ⟨b4, rfl, h⟩ := h
  refine W.eq (g2 := F0 m 5 ls [.ref b4]) rfl ?_
  refine lv_astore_n hx hb dX5_tube_5 rfl hl (by decide) rfl (fun ls hl => ?_)
  have hl : lv_has ls 4 [(3, .ref b4), (0, .ref this), (1, .int p1), (2, .int p2)] := hl
  refine lv_iload_n hx hb dX5_tube_6 rfl (lv_at hl 3 rfl) ?_
  by_cases hq0 : p2 = (0 : Int32)
  · have h := h.1 hq0
    refine lv_tableIn (off := 49) (tgt := 56) hx hb dX5_tube_7 (by rw [hq0]; decide) (by rw [hq0]; decide) (by rw [hq0]; decide) (by decide) ?_
    refine lv_aload_n hx hb dX5_tube_56 rfl (lv_at hl 0 rfl) ?_
    obtain ⟨hk8, h⟩ := h
    obtain ⟨b9, hb10, h⟩ := h
    refine r_getN (ci := 5) (v := .ref b9) (C := RX4) (T := TX4) (N := 11) hx hb hts hiX4 hown hK hw (ce_6 (S := S3) hk8) rfl 1 (by decide) (hNw _ (bNw_17)) (fun _ h9 => h9) (congrArg (fun q => some (va_rf q)) hb10) dX5_tube_57 ?_
    obtain ⟨hk11, h⟩ := h
    refine r_getN (ci := 4) (v := .int (gV S3 5 b9 0)) (C := RX3) (T := TX3) (N := 10) hx hb hts hiX3 hown hK hw (ce_5 (S := S3) hk11) rfl 0 (by decide) (hNw _ (bNw_8)) (fun _ h9 => h9) rfl dX5_tube_60 ?_
    exact hret (gV S3 5 b9 0) _ _ _ _ _ _ _ h hw hS (by omega) (by omega) dX5_tube_63
  by_cases hq1 : p2 = (1 : Int32)
  · have h := h.2.1 hq1
    refine lv_tableIn (off := 57) (tgt := 64) hx hb dX5_tube_7 (by rw [hq1]; decide) (by rw [hq1]; decide) (by rw [hq1]; decide) (by decide) ?_
    refine lv_aload_n hx hb dX5_tube_64 rfl (lv_at hl 0 rfl) ?_
    obtain ⟨hk12, h⟩ := h
    obtain ⟨b13, hb14, h⟩ := h
    refine r_getN (ci := 5) (v := .ref b13) (C := RX4) (T := TX4) (N := 11) hx hb hts hiX4 hown hK hw (ce_6 (S := S3) hk12) rfl 2 (by decide) (hNw _ (bNw_18)) (fun _ h9 => h9) (congrArg (fun q => some (va_rf q)) hb14) dX5_tube_65 ?_
    obtain ⟨hk15, h⟩ := h
    refine r_getN (ci := 4) (v := .int (gV S3 5 b13 0)) (C := RX3) (T := TX3) (N := 10) hx hb hts hiX3 hown hK hw (ce_5 (S := S3) hk15) rfl 0 (by decide) (hNw _ (bNw_8)) (fun _ h9 => h9) rfl dX5_tube_68 ?_
    exact hret (gV S3 5 b13 0) _ _ _ _ _ _ _ h hw hS (by omega) (by omega) dX5_tube_71
  by_cases hq2 : p2 = (2 : Int32)
  · have h := h.2.2.1 hq2
    refine lv_tableIn (off := 65) (tgt := 72) hx hb dX5_tube_7 (by rw [hq2]; decide) (by rw [hq2]; decide) (by rw [hq2]; decide) (by decide) ?_
    refine lv_aload_n hx hb dX5_tube_72 rfl (lv_at hl 0 rfl) ?_
    obtain ⟨hk16, h⟩ := h
    refine r_getN (ci := 5) (v := .int (gV S3 6 b4 3)) (C := RX4) (T := TX4) (N := 11) hx hb hts hiX4 hown hK hw (ce_6 (S := S3) hk16) rfl 3 (by decide) (hNw _ (bNw_19)) (fun _ h9 => h9) rfl dX5_tube_73 ?_
    exact hret (gV S3 6 b4 3) _ _ _ _ _ _ _ h hw hS (by omega) (by omega) dX5_tube_76
  by_cases hq3 : p2 = (3 : Int32)
  · have h := h.2.2.2.1 hq3
    refine lv_tableIn (off := 70) (tgt := 77) hx hb dX5_tube_7 (by rw [hq3]; decide) (by rw [hq3]; decide) (by rw [hq3]; decide) (by decide) ?_
    refine lv_aload_n hx hb dX5_tube_77 rfl (lv_at hl 0 rfl) ?_
    obtain ⟨hk17, h⟩ := h
    refine r_getN (ci := 5) (v := .int (gV S3 6 b4 6)) (C := RX4) (T := TX4) (N := 11) hx hb hts hiX4 hown hK hw (ce_6 (S := S3) hk17) rfl 6 (by decide) (hNw _ (bNw_4)) (fun _ h9 => h9) rfl dX5_tube_78 ?_
    exact hret (gV S3 6 b4 6) _ _ _ _ _ _ _ h hw hS (by omega) (by omega) dX5_tube_81
  by_cases hq4 : p2 = (4 : Int32)
  · have h := h.2.2.2.2.1 hq4
    refine lv_tableIn (off := 75) (tgt := 82) hx hb dX5_tube_7 (by rw [hq4]; decide) (by rw [hq4]; decide) (by rw [hq4]; decide) (by decide) ?_
    refine lv_aload_n hx hb dX5_tube_82 rfl (lv_at hl 0 rfl) ?_
    obtain ⟨hk18, h⟩ := h
    refine r_getN (ci := 5) (v := .int (gV S3 6 b4 4)) (C := RX4) (T := TX4) (N := 11) hx hb hts hiX4 hown hK hw (ce_6 (S := S3) hk18) rfl 4 (by decide) (hNw _ (bNw_20)) (fun _ h9 => h9) rfl dX5_tube_83 ?_
    exact hret (gV S3 6 b4 4) _ _ _ _ _ _ _ h hw hS (by omega) (by omega) dX5_tube_86
  by_cases hq5 : p2 = (5 : Int32)
  · have h := h.2.2.2.2.2.1 hq5
    refine lv_tableIn (off := 80) (tgt := 87) hx hb dX5_tube_7 (by rw [hq5]; decide) (by rw [hq5]; decide) (by rw [hq5]; decide) (by decide) ?_
    refine lv_aload_n hx hb dX5_tube_87 rfl (lv_at hl 0 rfl) ?_
    obtain ⟨hk19, h⟩ := h
    refine r_getN (ci := 5) (v := .int (gV S3 6 b4 8)) (C := RX4) (T := TX4) (N := 11) hx hb hts hiX4 hown hK hw (ce_6 (S := S3) hk19) rfl 8 (by decide) (hNw _ (bNw_21)) (fun _ h9 => h9) rfl dX5_tube_88 ?_
    refine lv_if_eq (tgt := 98) hx hb dX5_tube_91 (by decide) (fun hc => ?_) (fun hc => ?_)
    · have h := h.1 hc
      refine lv_iconst (v := (0 : Int32)) hx hb dX5_tube_98 (by decide) ?_
      exact hB99 _ _ _ _ _ _ _ _ _ h hw hS (lv_sub hl [] rfl) hcu hsu
    · have h := h.2 hc
      refine lv_iconst (v := (1 : Int32)) hx hb dX5_tube_94 (by decide) ?_
      refine lv_goto (tgt := 99) hx hb dX5_tube_95 (by decide) ?_
      exact hB99 _ _ _ _ _ _ _ _ _ h hw hS (lv_sub hl [] rfl) hcu hsu
  by_cases hq6 : p2 = (6 : Int32)
  · have h := h.2.2.2.2.2.2.1 hq6
    refine lv_tableIn (off := 93) (tgt := 100) hx hb dX5_tube_7 (by rw [hq6]; decide) (by rw [hq6]; decide) (by rw [hq6]; decide) (by decide) ?_
    refine lv_aload_n hx hb dX5_tube_100 rfl (lv_at hl 0 rfl) ?_
    obtain ⟨hk20, h⟩ := h
    obtain ⟨b21, hb22, h⟩ := h
    refine r_getN (ci := 5) (v := .ref b21) (C := RX4) (T := TX4) (N := 11) hx hb hts hiX4 hown hK hw (ce_6 (S := S3) hk20) rfl 5 (by decide) (hNw _ (bNw_22)) (fun _ h9 => h9) (congrArg (fun q => some (va_rf q)) hb22) dX5_tube_101 ?_
    obtain ⟨hk23, h⟩ := h
    have h1 := h
    refine va_calli (va_runV (As := []) (rest := []) ⟨hx, hb, hml, hown, hts⟩ (m_Jx4a65c_size_8abf5 (l := l) h1) (cwV 0 hts gX5_tube_Jx4a65c_size_8abf5 rfl rfl rfl (by decide +kernel) ⟨Nat.le_trans (Nat.le_of_ble_eq_true rfl) hRf, Nat.le_trans (Nat.le_of_ble_eq_true rfl) hRl⟩) (r_pV hB hw hS (ce_1 (S := S3) hk23) rfl) rfl rfl hl.1 rfl (lv_room (Nat.le_of_ble_eq_true rfl)) dX5_tube_104 ⟨by omega, by omega⟩) hS (fun _ _ h => h) (fun _ h => h) (fun r24 S25 t H1 locs ht _ h hw1 _ _ hS => ?_)
    subst ht
    have hw : wd D y z S25 A t.heap := hw1
    clear hw1 h1
    exact hret r24 _ _ _ _ _ _ _ h hw hS (by omega) (by omega) dX5_tube_107
  by_cases hq7 : p2 = (7 : Int32)
  · have h := h.2.2.2.2.2.2.2.1 hq7
    refine lv_tableIn (off := 101) (tgt := 108) hx hb dX5_tube_7 (by rw [hq7]; decide) (by rw [hq7]; decide) (by rw [hq7]; decide) (by decide) ?_
    refine lv_aload_n hx hb dX5_tube_108 rfl (lv_at hl 0 rfl) ?_
    refine lv_aload_n hx hb dX5_tube_109 rfl (lv_at hl 1 rfl) ?_
    obtain ⟨hk26, h⟩ := h
    refine r_get (ci := 6) (v := .int (gV S3 7 this 3)) (C := RX5) (T := TX5) (N := 6) hx hb hts hiX5 hown hK hw (ce_7 (S := S3) hk26) rfl 3 (by decide) (hts (.fieldLink RX5 26 "TubePost" "tick" "I") (by decide +kernel)) (fun _ h9 => h9) rfl dX5_tube_110 ?_
    obtain ⟨hk27, h⟩ := h
    have h1 := h
    refine va_calli (va_runVN (As := [.int (gV S3 7 this 3)]) (rest := []) ⟨hx, hb, hml, hown, hts⟩ (m_X4_isFirstAtEnd (l := l) h1) ⟨va_cnB 1 hts gX5_tube_X4_isFirstAtEnd_n233 rfl rfl rfl (hNw _ bNw_55) (hts (.initialized RX4) (by decide +kernel)) ⟨by decide +kernel, by decide +kernel, by decide +kernel⟩ ⟨Nat.le_trans (Nat.le_of_ble_eq_true rfl) hRf, Nat.le_trans (Nat.le_of_ble_eq_true rfl) hRl⟩, (hts (.instanceMethod yX4_isFirstAtEnd) (by decide +kernel)), hts (.selects RX4 yX4_isFirstAtEnd yX4_isFirstAtEnd) (by decide +kernel)⟩ (r_pV hB hw hS (ce_6 (S := S3) hk27) rfl) rfl rfl hl.1 rfl (lv_room (Nat.le_of_ble_eq_true rfl)) dX5_tube_113 ⟨by omega, by omega⟩) hS (fun _ _ h => h) (fun _ h => h) (fun r28 S29 t H1 locs ht _ h hw1 _ _ hS => ?_)
    subst ht
    have hw : wd D y z S29 A t.heap := hw1
    clear hw1 h1
    refine lv_if_eq (tgt := 123) hx hb dX5_tube_116 (by decide) (fun hc => ?_) (fun hc => ?_)
    · have h := h.1 hc
      refine lv_iconst (v := (0 : Int32)) hx hb dX5_tube_123 (by decide) ?_
      exact hB124 _ _ _ _ _ _ _ _ _ h hw hS (lv_sub hl [] rfl) hcu hsu
    · have h := h.2 hc
      refine lv_iconst (v := (1 : Int32)) hx hb dX5_tube_119 (by decide) ?_
      refine lv_goto (tgt := 124) hx hb dX5_tube_120 (by decide) ?_
      exact hB124 _ _ _ _ _ _ _ _ _ h hw hS (lv_sub hl [] rfl) hcu hsu
  by_cases hq8 : p2 = (8 : Int32)
  · have h := h.2.2.2.2.2.2.2.2.1 hq8
    refine lv_tableIn (off := 118) (tgt := 125) hx hb dX5_tube_7 (by rw [hq8]; decide) (by rw [hq8]; decide) (by rw [hq8]; decide) (by decide) ?_
    refine lv_aload_n hx hb dX5_tube_125 rfl (lv_at hl 0 rfl) ?_
    obtain ⟨hk30, h⟩ := h
    refine r_getN (ci := 5) (v := .int (gV S3 6 b4 9)) (C := RX4) (T := TX4) (N := 11) hx hb hts hiX4 hown hK hw (ce_6 (S := S3) hk30) rfl 9 (by decide) (hNw _ (bNw_23)) (fun _ h9 => h9) rfl dX5_tube_126 ?_
    exact hret (gV S3 6 b4 9) _ _ _ _ _ _ _ h hw hS (by omega) (by omega) dX5_tube_129
  have h := h.2.2.2.2.2.2.2.2.2 hq0 hq1 hq2 hq3 hq4 hq5 hq6 hq7 hq8
  have ht0 : Int32.toInt p2 ≠ (0 : Int) := fun q => hq0 (b_ti q rfl)
  have ht1 : Int32.toInt p2 ≠ (1 : Int) := fun q => hq1 (b_ti q rfl)
  have ht2 : Int32.toInt p2 ≠ (2 : Int) := fun q => hq2 (b_ti q rfl)
  have ht3 : Int32.toInt p2 ≠ (3 : Int) := fun q => hq3 (b_ti q rfl)
  have ht4 : Int32.toInt p2 ≠ (4 : Int) := fun q => hq4 (b_ti q rfl)
  have ht5 : Int32.toInt p2 ≠ (5 : Int) := fun q => hq5 (b_ti q rfl)
  have ht6 : Int32.toInt p2 ≠ (6 : Int) := fun q => hq6 (b_ti q rfl)
  have ht7 : Int32.toInt p2 ≠ (7 : Int) := fun q => hq7 (b_ti q rfl)
  have ht8 : Int32.toInt p2 ≠ (8 : Int) := fun q => hq8 (b_ti q rfl)
  refine lv_tableOut (tgt := 130) hx hb dX5_tube_7 (by omega) (by decide) ?_
  obtain ⟨hbg1, hbg2, h⟩ := h
  obtain ⟨sa9, hsa9⟩ := b_str hB 0 rfl
  rw [hQ]
  exact vx_throwS (names := ["java/lang/RuntimeException", "java/lang/Exception"]) hx hb hl0 hown (by decide +kernel) (by decide +kernel) (hts (.classLink RX5 127 "java/lang/IndexOutOfBoundsException") (by decide +kernel)) (hts (.initialized "java/lang/IndexOutOfBoundsException") (by decide +kernel)) hsa9 (b_hat (fun w hw9 => hts w ((by decide +kernel : ∀ w ∈ (vx_atS RX5 131 "java/lang/IndexOutOfBoundsException" ["java/lang/RuntimeException", "java/lang/Exception"]).filter goodWord, w ∈ wsX5_tube) w hw9)) (by decide +kernel) hB) (by decide +kernel) (b_U hB) (b_N hB) hS (by rw [hml]; exact hl.1) dX5_tube_130 dX5_tube_133 dX5_tube_134 dX5_tube_136 dX5_tube_139 (fun x hx => (hex x hx).elim) (Nat.lt_of_lt_of_le (by decide) hRf) (Nat.le_trans (Nat.le_of_ble_eq_true rfl) hRl) (by omega) (by omega) hlocks (fun t9 ha9 hz9 hk9 => ⟨S3, trivial, ⟨h, b_grow hw hz9 hk9⟩, b_growF hS hz9 hk9⟩) hS.2.2 (by omega) (by omega)
def wp_X5_there (post : Int32 → bS → Prop) (xp : String → bS → Prop) (MC MS : Nat) (this : Nat) (p1 : Int32) (p2 : Int32) (S : bS) : Prop := gK S this = 7 ∧ (∃ k6 n7, k6 ≤ MC ∧ n7 ≤ MS ∧ (wp_X5_knownStation (fun r2 S3 => ∃ b4, r2 = some b4 ∧ (gK S3 b4 = 5 ∧ (∃ b9, gQ S3 5 b4 4 = some b9 ∧ (gK S3 b9 = 1 ∧ (wp_Jx4a65c_size_8abf5 (fun r12 S13 => wp_X5_isOutside (fun r14 S15 => (r14 = (0 : Int32) → gK S15 b9 = 1 ∧ (wp_Jx4a65c_get_915e3 (fun r17 S18 => ∃ b19, r17 = some b19 ∧ (gK S18 b19 = 2 ∧ (post (gV S18 2 b19 0) S18))) b9 p2 S15)) ∧ (¬ (r14 = (0 : Int32)) → 1 ≤ (MC - k6) ∧ 6 ≤ (MS - n7) ∧ xp "java/lang/IndexOutOfBoundsException" S15)) p2 (0 : Int32) (r12 - (1 : Int32)) S13) b9 S3))))) xp k6 n7 this p1 S))
set_option maxHeartbeats 4000000 in
set_option maxRecDepth 100000 in
theorem m_X5_there {l : Launch} {D : va_G} {y : Nat → ClassId} {z : Nat} {A : Nat → Prop} {S : bS} {post : Int32 → bS → Prop} {xp : String → bS → Prop} (hl0 : l.stackTraces = false) {MC MS : Nat} {this : Nat} {p1 : Int32} {p2 : Int32} (h : wp_X5_there post xp MC MS this p1 p2 S) : vx_Met l yX5_there wsX5_there ({ frames := 9, cells := MC, slots := MS, locals := 421 } : Room) (va_Pc ([Value.ref this, Value.int p1, Value.int p2] : List Value) (bP D y z S A)) (va_Qi post (fun S' t => wd D y z S' A t.heap) A) (bX D y z A xp) MC MS A := by
  refine vx_ofW (cc := cX5_there) (maxL := 4) (ret := (some .int)) (by decide) rfl ?_
  intro p e s m args below meth c s₁ B hml hex hv
  obtain ⟨rfl, hB⟩ := hv
  have hx := B.exec
  have hb := B.bytes
  have hr := B.returns
  have hts := atoms_spec (ws := wsX5_there) B.pre
  have hown : s.vm.findClass RX5 = some m.cls := findClass_of_methodNamed B.named
  have hlocks := B.notSynchronized
  have hw : wd D y z S A s.heap := hB.1
  have hK : va_K D bCl (bT y) s := hB.2.1
  have hNw := hB.2.2.1
  have hAn : ∀ q : Nat, s.heap.size ≤ q → A q := hB.2.2.2.1
  have hAz : ¬ A z := hB.2.2.2.2.1
  have hO := hB.2.2.2.2.2.1
  have hS : va_S A s.heap s.heap [] := va_S.rf
  have hiX0 : ∀ w ∈ u_ws RX0 TX0 9, w ∈ wsX5_there := by decide +kernel
  have hiX3 : ∀ w ∈ u_ws RX3 TX3 10, w ∈ wsX5_there := by decide +kernel
  have hl := lv_entry ([Value.ref this, Value.int p1, Value.int p2] : List Value) (n := 4) (Nat.le_of_ble_eq_true rfl)
  rw [lg_entry_eq]
  generalize (lg_sl ([Value.ref this, Value.int p1, Value.int p2] : List Value) ++ List.replicate (4 - (lg_sl ([Value.ref this, Value.int p1, Value.int p2] : List Value)).length) Slot.unset).toArray = ls at hl ⊢
  have hl : lv_has ls 4 [(0, .ref this), (1, .int p1), (2, .int p2)] := hl
  obtain ⟨Q, hQ⟩ : ∃ Q, Q = vx_MQ below (va_Qi post (fun S' t => wd D y z S' A t.heap) A) (bX D y z A xp) (([Value.ref this, Value.int p1, Value.int p2] : List Value).toArray) s MC MS A := ⟨_, rfl⟩
  rw [← hQ]
  generalize hR : (headSpec wsX5_there ({ frames := 9, cells := MC, slots := MS, locals := 421 } : Room)).room = R
  have hRf : 9 ≤ R.frames := by rw [← hR]; exact Nat.le_refl _
  have hRl : 421 ≤ R.locals := by rw [← hR]; exact Nat.le_refl _
  have hRc : R.cells = MC := by rw [← hR]; rfl
  have hRs : R.slots = MS := by rw [← hR]; rfl
  have hret : ∀ (v : Int32) (S : bS) (H : Heap) (locs : List Loc) (pc : Nat) (ls : Array Slot) (cu su : Nat) , post v S → wd D y z S A H → va_S A s.heap H locs → cu ≤ MC → su ≤ MS → decode cX5_there pc = .ok (.ireturn, 1) → W p l e R s m (([Value.ref this, Value.int p1, Value.int p2] : List Value).toArray) below meth c H locs cu su Q (F0 m pc ls [.int v]) := by
    intro v S H locs pc ls cu su h hw hS hcu hsu d0
    rw [hQ]; refine vx_ret ?_; refine W.widen hcu hsu ?_; exact W.iret hx hb hr (fun t ht hW => ⟨⟨v, S, rfl, h, by show wd D y z S A t.heap; rw [ht]; exact hw⟩, hS.F ht⟩) hS.2.2 d0 hlocks
  unfold wp_X5_there at h
  have hcu : 0 + MC ≤ MC := by omega
  have hsu : 0 + MS ≤ MS := by omega
  refine lv_aload_n hx hb dX5_there_0 rfl (lv_at hl 0 rfl) ?_
  refine lv_iload_n hx hb dX5_there_1 rfl (lv_at hl 1 rfl) ?_
  obtain ⟨hk1, h⟩ := h
  obtain ⟨k6, n7, hbg1, hbg2, h⟩ := h
  have h1 := h
  refine vx_callq (vx_runV (As := [.int p1]) (rest := []) ⟨hx, hb, hml, hown, hts⟩ (m_X5_knownStation (l := l) hl0 h1) (cwV 1 hts gX5_there_X5_knownStation rfl rfl rfl (by decide +kernel) ⟨Nat.le_trans (Nat.le_of_ble_eq_true rfl) hRf, Nat.le_trans (Nat.le_of_ble_eq_true rfl) hRl⟩) (r_pV hB hw hS (ce_7 (S := S) hk1) rfl) rfl rfl hl.1 rfl (lv_room (Nat.le_of_ble_eq_true rfl)) dX5_there_2 ⟨by omega, by omega⟩) hS (fun _ _ h => h) (fun _ h => h) (fun _ _ h => h) (fun E ce q9 S3 t H1 locs ht hal _ hq hz9 hk9 hS hq9 hvm9 hfc9 => by rw [hQ]; exact vx_out (fun x hx => (hex x hx).elim) hlocks hq9 hvm9 hfc9 (fun t9 ht9 _ => ⟨S3, trivial, ⟨hq.1, by rw [ht9, ← ht]; exact hq.2⟩, hS.F ht9⟩) hS.2.2 (by omega) (by omega)) (fun r2 S3 t H1 locs ht _ h hw1 _ _ hS => ?_)
  subst ht
  have hw : wd D y z S3 A t.heap := hw1
  clear hw1 h1
  have hcu : (0 + k6) + (MC - k6) ≤ MC := by omega
  have hsu : (0 + n7) + (MS - n7) ≤ MS := by omega
  obtain ⟨b4, rfl, h⟩ := h
  refine W.eq (g2 := F0 m 5 ls [.ref b4]) rfl ?_
  obtain ⟨hk8, h⟩ := h
  obtain ⟨b9, hb10, h⟩ := h
  refine r_getN (ci := 4) (v := .ref b9) (C := RX3) (T := TX3) (N := 10) hx hb hts hiX3 hown hK hw (ce_5 (S := S3) hk8) rfl 4 (by decide) (hNw _ (bNw_15)) (fun _ h9 => h9) (congrArg (fun q => some (va_rf q)) hb10) dX5_there_5 ?_
  refine lv_astore_n hx hb dX5_there_8 rfl hl (by decide) rfl (fun ls hl => ?_)
  have hl : lv_has ls 4 [(3, .ref b9), (0, .ref this), (1, .int p1), (2, .int p2)] := hl
  refine lv_iload_n hx hb dX5_there_9 rfl (lv_at hl 3 rfl) ?_
  refine lv_iconst (v := (0 : Int32)) hx hb dX5_there_10 (by decide) ?_
  refine lv_aload_n hx hb dX5_there_11 rfl (lv_at hl 0 rfl) ?_
  obtain ⟨hk11, h⟩ := h
  have h1 := h
  refine va_calli (va_runV (As := []) (rest := [.int (0 : Int32), .int p2]) ⟨hx, hb, hml, hown, hts⟩ (m_Jx4a65c_size_8abf5 (l := l) h1) (cwV 0 hts gX5_there_Jx4a65c_size_8abf5 rfl rfl rfl (by decide +kernel) ⟨Nat.le_trans (Nat.le_of_ble_eq_true rfl) hRf, Nat.le_trans (Nat.le_of_ble_eq_true rfl) hRl⟩) (r_pV hB hw hS (ce_1 (S := S3) hk11) rfl) rfl rfl hl.1 rfl (lv_room (Nat.le_of_ble_eq_true rfl)) dX5_there_12 ⟨by omega, by omega⟩) hS (fun _ _ h => h) (fun _ h => h) (fun r12 S13 t H1 locs ht _ h hw1 _ _ hS => ?_)
  subst ht
  have hw : wd D y z S13 A t.heap := hw1
  clear hw1 h1
  refine lv_iconst (v := (1 : Int32)) hx hb dX5_there_15 (by decide) ?_
  refine lv_isub hx hb dX5_there_16 ?_
  have h1 := h
  refine va_calli (va_runS (As := [.int p2, .int (0 : Int32), .int (r12 - (1 : Int32))]) (rest := []) ⟨hx, hb, hml, hown, hts⟩ (m_X5_isOutside (l := l) h1) (cwS 3 hts gX5_there_X5_isOutside rfl rfl rfl (by decide +kernel) ⟨Nat.le_trans (Nat.le_of_ble_eq_true rfl) hRf, Nat.le_trans (Nat.le_of_ble_eq_true rfl) hRl⟩) (r_pS hB hw hS) rfl rfl hl.1 rfl (lv_room (Nat.le_of_ble_eq_true rfl)) dX5_there_17 ⟨by omega, by omega⟩) hS (fun _ _ h => h) (fun _ h => h) (fun r14 S15 t H1 locs ht _ h hw1 _ _ hS => ?_)
  subst ht
  have hw : wd D y z S15 A t.heap := hw1
  clear hw1 h1
  refine lv_if_eq (tgt := 33) hx hb dX5_there_20 (by decide) (fun hc => ?_) (fun hc => ?_)
  · have h := h.1 hc
    refine lv_aload_n hx hb dX5_there_33 rfl (lv_at hl 0 rfl) ?_
    refine lv_iload_n hx hb dX5_there_34 rfl (lv_at hl 3 rfl) ?_
    obtain ⟨hk16, h⟩ := h
    have h1 := h
    refine va_callq (va_runV (As := [.int p2]) (rest := []) ⟨hx, hb, hml, hown, hts⟩ (m_Jx4a65c_get_915e3 (l := l) h1) (cwV 1 hts gX5_there_Jx4a65c_get_915e3 rfl rfl rfl (by decide +kernel) ⟨Nat.le_trans (Nat.le_of_ble_eq_true rfl) hRf, Nat.le_trans (Nat.le_of_ble_eq_true rfl) hRl⟩) (r_pV hB hw hS (ce_1 (S := S15) hk16) rfl) rfl rfl hl.1 rfl (lv_room (Nat.le_of_ble_eq_true rfl)) dX5_there_35 ⟨by omega, by omega⟩) hS (fun _ _ h => h) (fun _ h => h) (fun r17 S18 t H1 locs ht _ h hw1 _ _ hS => ?_)
    subst ht
    have hw : wd D y z S18 A t.heap := hw1
    clear hw1 h1
    obtain ⟨b19, rfl, h⟩ := h
    refine W.eq (g2 := F0 m 38 ls [.ref b19]) rfl ?_
    obtain ⟨hk21, h⟩ := h
    refine r_cast hx hb hown (hts (.classLink RX5 163 "TubePost$Carrier") (by decide +kernel)) hK hw (ce_2 hk21) rfl dX5_there_38 ?_
    refine r_getN (ci := 1) (v := .int (gV S18 2 b19 0)) (C := RX0) (T := TX0) (N := 9) hx hb hts hiX0 hown hK hw (ce_2 (S := S18) hk21) rfl 0 (by decide) (hNw _ (bNw_24)) (fun _ h9 => h9) rfl dX5_there_41 ?_
    exact hret (gV S18 2 b19 0) _ _ _ _ _ _ _ h hw hS (by omega) (by omega) dX5_there_44
  · have h := h.2 hc
    obtain ⟨hbg1, hbg2, h⟩ := h
    obtain ⟨sa9, hsa9⟩ := b_str hB 3 rfl
    rw [hQ]
    exact vx_throwS (names := ["java/lang/RuntimeException", "java/lang/Exception"]) hx hb hl0 hown (by decide +kernel) (by decide +kernel) (hts (.classLink RX5 127 "java/lang/IndexOutOfBoundsException") (by decide +kernel)) (hts (.initialized "java/lang/IndexOutOfBoundsException") (by decide +kernel)) hsa9 (b_hat (fun w hw9 => hts w ((by decide +kernel : ∀ w ∈ (vx_atS RX5 131 "java/lang/IndexOutOfBoundsException" ["java/lang/RuntimeException", "java/lang/Exception"]).filter goodWord, w ∈ wsX5_there) w hw9)) (by decide +kernel) hB) (by decide +kernel) (b_U hB) (b_N hB) hS (by rw [hml]; exact hl.1) dX5_there_23 dX5_there_26 dX5_there_27 dX5_there_29 dX5_there_32 (fun x hx => (hex x hx).elim) (Nat.lt_of_lt_of_le (by decide) hRf) (Nat.le_trans (Nat.le_of_ble_eq_true rfl) hRl) (by omega) (by omega) hlocks (fun t9 ha9 hz9 hk9 => ⟨S15, trivial, ⟨h, b_grow hw hz9 hk9⟩, b_growF hS hz9 hk9⟩) hS.2.2 (by omega) (by omega)
def wb_X5_time_29 (post : Int32 → bS → Prop) (xp : String → bS → Prop) (mc ms : Nat) (s0 : Int32) (S : bS) : Prop := post s0 S
def wp_X5_time (post : Int32 → bS → Prop) (xp : String → bS → Prop) (MC MS : Nat) (this : Nat) (p1 : Int32) (p2 : Int32) (S : bS) : Prop := gK S this = 7 ∧ (∃ b2, gQ S 7 this 0 = some b2 ∧ (∃ k8 n9, k8 ≤ MC ∧ n9 ≤ MS ∧ (wp_X5_knownStation (fun r4 S5 => ∃ b6, r4 = some b6 ∧ (gK S5 this = 7 ∧ (∃ k15 n16, k15 ≤ (MC - k8) ∧ n16 ≤ (MS - n9) ∧ (wp_X5_knownStation (fun r11 S12 => ∃ b13, r11 = some b13 ∧ (gK S12 b2 = 4 ∧ (wp_X2_leastTime (fun r18 S19 => (r18 ≠ (1000000 : Int32) → wb_X5_time_29 post xp ((MC - k8) - k15) ((MS - n9) - n16) r18 S19) ∧ (r18 = (1000000 : Int32) → wb_X5_time_29 post xp ((MC - k8) - k15) ((MS - n9) - n16) (-1 : Int32) S19)) b2 b6 b13 S12))) xp k15 n16 this p2 S5)))) xp k8 n9 this p1 S)))
set_option maxHeartbeats 4000000 in
set_option maxRecDepth 100000 in
theorem m_X5_time {l : Launch} {D : va_G} {y : Nat → ClassId} {z : Nat} {A : Nat → Prop} {S : bS} {post : Int32 → bS → Prop} {xp : String → bS → Prop} (hl0 : l.stackTraces = false) {MC MS : Nat} {this : Nat} {p1 : Int32} {p2 : Int32} (h : wp_X5_time post xp MC MS this p1 p2 S) : vx_Met l yX5_time wsX5_time ({ frames := 9, cells := MC, slots := MS, locals := 421 } : Room) (va_Pc ([Value.ref this, Value.int p1, Value.int p2] : List Value) (bP D y z S A)) (va_Qi post (fun S' t => wd D y z S' A t.heap) A) (bX D y z A xp) MC MS A := by
  refine vx_ofW (cc := cX5_time) (maxL := 4) (ret := (some .int)) (by decide) rfl ?_
  intro p e s m args below meth c s₁ B hml hex hv
  obtain ⟨rfl, hB⟩ := hv
  have hx := B.exec
  have hb := B.bytes
  have hr := B.returns
  have hts := atoms_spec (ws := wsX5_time) B.pre
  have hown : s.vm.findClass RX5 = some m.cls := findClass_of_methodNamed B.named
  have hlocks := B.notSynchronized
  have hw : wd D y z S A s.heap := hB.1
  have hK : va_K D bCl (bT y) s := hB.2.1
  have hNw := hB.2.2.1
  have hAn : ∀ q : Nat, s.heap.size ≤ q → A q := hB.2.2.2.1
  have hAz : ¬ A z := hB.2.2.2.2.1
  have hO := hB.2.2.2.2.2.1
  have hS : va_S A s.heap s.heap [] := va_S.rf
  have hiX5 : ∀ w ∈ u_ws RX5 TX5 6, w ∈ wsX5_time := by decide +kernel
  have hl := lv_entry ([Value.ref this, Value.int p1, Value.int p2] : List Value) (n := 4) (Nat.le_of_ble_eq_true rfl)
  rw [lg_entry_eq]
  generalize (lg_sl ([Value.ref this, Value.int p1, Value.int p2] : List Value) ++ List.replicate (4 - (lg_sl ([Value.ref this, Value.int p1, Value.int p2] : List Value)).length) Slot.unset).toArray = ls at hl ⊢
  have hl : lv_has ls 4 [(0, .ref this), (1, .int p1), (2, .int p2)] := hl
  obtain ⟨Q, hQ⟩ : ∃ Q, Q = vx_MQ below (va_Qi post (fun S' t => wd D y z S' A t.heap) A) (bX D y z A xp) (([Value.ref this, Value.int p1, Value.int p2] : List Value).toArray) s MC MS A := ⟨_, rfl⟩
  rw [← hQ]
  generalize hR : (headSpec wsX5_time ({ frames := 9, cells := MC, slots := MS, locals := 421 } : Room)).room = R
  have hRf : 9 ≤ R.frames := by rw [← hR]; exact Nat.le_refl _
  have hRl : 421 ≤ R.locals := by rw [← hR]; exact Nat.le_refl _
  have hRc : R.cells = MC := by rw [← hR]; rfl
  have hRs : R.slots = MS := by rw [← hR]; rfl
  have hret : ∀ (v : Int32) (S : bS) (H : Heap) (locs : List Loc) (pc : Nat) (ls : Array Slot) (cu su : Nat) , post v S → wd D y z S A H → va_S A s.heap H locs → cu ≤ MC → su ≤ MS → decode cX5_time pc = .ok (.ireturn, 1) → W p l e R s m (([Value.ref this, Value.int p1, Value.int p2] : List Value).toArray) below meth c H locs cu su Q (F0 m pc ls [.int v]) := by
    intro v S H locs pc ls cu su h hw hS hcu hsu d0
    rw [hQ]; refine vx_ret ?_; refine W.widen hcu hsu ?_; exact W.iret hx hb hr (fun t ht hW => ⟨⟨v, S, rfl, h, by show wd D y z S A t.heap; rw [ht]; exact hw⟩, hS.F ht⟩) hS.2.2 d0 hlocks
  have hB29 : ∀ (S : bS) (H : Heap) (locs : List Loc) (ls : Array Slot) (mc ms cu su : Nat) (s0 : Int32), wb_X5_time_29 post xp mc ms s0 S → wd D y z S A H → va_S A s.heap H locs → lv_has ls 4 [] → cu + mc ≤ MC → su + ms ≤ MS → W p l e R s m (([Value.ref this, Value.int p1, Value.int p2] : List Value).toArray) below meth c H locs cu su Q (F0 m 29 ls [.int s0]) := by
    intro S H locs ls mc ms cu su s0 h hw hS hl hcu hsu
    unfold wb_X5_time_29 at h
    exact hret s0 _ _ _ _ _ _ _ h hw hS (by omega) (by omega) dX5_time_29
  unfold wp_X5_time at h
  have hcu : 0 + MC ≤ MC := by omega
  have hsu : 0 + MS ≤ MS := by omega
  refine lv_aload_n hx hb dX5_time_0 rfl (lv_at hl 0 rfl) ?_
  obtain ⟨hk1, h⟩ := h
  obtain ⟨b2, hb3, h⟩ := h
  refine r_get (ci := 6) (v := .ref b2) (C := RX5) (T := TX5) (N := 6) hx hb hts hiX5 hown hK hw (ce_7 (S := S) hk1) rfl 0 (by decide) (hts (.fieldLink RX5 10 "TubePost" "net" "LTubePost$Net;") (by decide +kernel)) (fun _ h9 => h9) (congrArg (fun q => some (va_rf q)) hb3) dX5_time_1 ?_
  refine lv_aload_n hx hb dX5_time_4 rfl (lv_at hl 0 rfl) ?_
  refine lv_iload_n hx hb dX5_time_5 rfl (lv_at hl 1 rfl) ?_
  obtain ⟨k8, n9, hbg1, hbg2, h⟩ := h
  have h1 := h
  refine vx_callq (vx_runV (As := [.int p1]) (rest := [.ref b2]) ⟨hx, hb, hml, hown, hts⟩ (m_X5_knownStation (l := l) hl0 h1) (cwV 1 hts gX5_time_X5_knownStation rfl rfl rfl (by decide +kernel) ⟨Nat.le_trans (Nat.le_of_ble_eq_true rfl) hRf, Nat.le_trans (Nat.le_of_ble_eq_true rfl) hRl⟩) (r_pV hB hw hS (ce_7 (S := S) hk1) rfl) rfl rfl hl.1 rfl (lv_room (Nat.le_of_ble_eq_true rfl)) dX5_time_6 ⟨by omega, by omega⟩) hS (fun _ _ h => h) (fun _ h => h) (fun _ _ h => h) (fun E ce q9 S5 t H1 locs ht hal _ hq hz9 hk9 hS hq9 hvm9 hfc9 => by rw [hQ]; exact vx_out (fun x hx => (hex x hx).elim) hlocks hq9 hvm9 hfc9 (fun t9 ht9 _ => ⟨S5, trivial, ⟨hq.1, by rw [ht9, ← ht]; exact hq.2⟩, hS.F ht9⟩) hS.2.2 (by omega) (by omega)) (fun r4 S5 t H1 locs ht _ h hw1 _ _ hS => ?_)
  subst ht
  have hw : wd D y z S5 A t.heap := hw1
  clear hw1 h1
  have hcu : (0 + k8) + (MC - k8) ≤ MC := by omega
  have hsu : (0 + n9) + (MS - n9) ≤ MS := by omega
  obtain ⟨b6, rfl, h⟩ := h
  refine W.eq (g2 := F0 m 9 ls [.ref b6, .ref b2]) rfl ?_
  refine lv_aload_n hx hb dX5_time_9 rfl (lv_at hl 0 rfl) ?_
  refine lv_iload_n hx hb dX5_time_10 rfl (lv_at hl 2 rfl) ?_
  obtain ⟨hk10, h⟩ := h
  obtain ⟨k15, n16, hbg1, hbg2, h⟩ := h
  have h1 := h
  refine vx_callq (vx_runV (As := [.int p2]) (rest := [.ref b6, .ref b2]) ⟨hx, hb, hml, hown, hts⟩ (m_X5_knownStation (l := l) hl0 h1) (cwV 1 hts gX5_time_X5_knownStation rfl rfl rfl (by decide +kernel) ⟨Nat.le_trans (Nat.le_of_ble_eq_true rfl) hRf, Nat.le_trans (Nat.le_of_ble_eq_true rfl) hRl⟩) (r_pV hB hw hS (ce_7 (S := S5) hk10) rfl) rfl rfl hl.1 rfl (lv_room (Nat.le_of_ble_eq_true rfl)) dX5_time_11 ⟨by omega, by omega⟩) hS (fun _ _ h => h) (fun _ h => h) (fun _ _ h => h) (fun E ce q9 S12 t H1 locs ht hal _ hq hz9 hk9 hS hq9 hvm9 hfc9 => by rw [hQ]; exact vx_out (fun x hx => (hex x hx).elim) hlocks hq9 hvm9 hfc9 (fun t9 ht9 _ => ⟨S12, trivial, ⟨hq.1, by rw [ht9, ← ht]; exact hq.2⟩, hS.F ht9⟩) hS.2.2 (by omega) (by omega)) (fun r11 S12 t H1 locs ht _ h hw1 _ _ hS => ?_)
  subst ht
  have hw : wd D y z S12 A t.heap := hw1
  clear hw1 h1
  have hcu : ((0 + k8) + k15) + ((MC - k8) - k15) ≤ MC := by omega
  have hsu : ((0 + n9) + n16) + ((MS - n9) - n16) ≤ MS := by omega
  obtain ⟨b13, rfl, h⟩ := h
  refine W.eq (g2 := F0 m 14 ls [.ref b13, .ref b6, .ref b2]) rfl ?_
  obtain ⟨hk17, h⟩ := h
  have h1 := h
  refine va_calli (va_runVN (As := [.ref b6, .ref b13]) (rest := []) ⟨hx, hb, hml, hown, hts⟩ (m_X2_leastTime (l := l) h1) ⟨va_cnB 2 hts gX5_time_X2_leastTime_n242 rfl rfl rfl (hNw _ bNw_56) (hts (.initialized RX2) (by decide +kernel)) ⟨by decide +kernel, by decide +kernel, by decide +kernel⟩ ⟨Nat.le_trans (Nat.le_of_ble_eq_true rfl) hRf, Nat.le_trans (Nat.le_of_ble_eq_true rfl) hRl⟩, (hts (.instanceMethod yX2_leastTime) (by decide +kernel)), hts (.selects RX2 yX2_leastTime yX2_leastTime) (by decide +kernel)⟩ (r_pV hB hw hS (ce_4 (S := S12) hk17) rfl) rfl rfl hl.1 rfl (lv_room (Nat.le_of_ble_eq_true rfl)) dX5_time_14 ⟨by omega, by omega⟩) hS (fun _ _ h => h) (fun _ h => h) (fun r18 S19 t H1 locs ht _ h hw1 _ _ hS => ?_)
  subst ht
  have hw : wd D y z S19 A t.heap := hw1
  clear hw1 h1
  refine lv_istore_n hx hb dX5_time_17 rfl hl (by decide) rfl (fun ls hl => ?_)
  have hl : lv_has ls 4 [(3, .int r18), (0, .ref this), (1, .int p1), (2, .int p2)] := hl
  refine lv_iload_n hx hb dX5_time_18 rfl (lv_at hl 0 rfl) ?_
  refine lv_ldc (v := (1000000 : Int32)) hx hb hown (hts (.constant RX5 246 (1000000 : Int32)) (by decide +kernel)) dX5_time_19 ?_
  refine lv_icmp_ne (tgt := 28) hx hb dX5_time_21 (by decide) (fun hc => ?_) (fun hc => ?_)
  · have h := h.1 hc
    refine lv_iload_n hx hb dX5_time_28 rfl (lv_at hl 0 rfl) ?_
    exact hB29 _ _ _ _ _ _ _ _ _ h hw hS (lv_sub hl [] rfl) hcu hsu
  · have h := h.2 hc
    refine lv_iconst (v := (-1 : Int32)) hx hb dX5_time_24 (by decide) ?_
    refine lv_goto (tgt := 29) hx hb dX5_time_25 (by decide) ?_
    exact hB29 _ _ _ _ _ _ _ _ _ h hw hS (lv_sub hl [] rfl) hcu hsu
def wp_X5_next (post : Int32 → bS → Prop) (xp : String → bS → Prop) (MC MS : Nat) (this : Nat) (p1 : Int32) (p2 : Int32) (S : bS) : Prop := gK S this = 7 ∧ (∃ b2, gQ S 7 this 0 = some b2 ∧ (∃ k8 n9, k8 ≤ MC ∧ n9 ≤ MS ∧ (wp_X5_knownStation (fun r4 S5 => ∃ b6, r4 = some b6 ∧ (gK S5 this = 7 ∧ (∃ k15 n16, k15 ≤ (MC - k8) ∧ n16 ≤ (MS - n9) ∧ (wp_X5_knownStation (fun r11 S12 => ∃ b13, r11 = some b13 ∧ (gK S12 b2 = 4 ∧ (wp_X2_wayFor (fun r18 S19 => post r18 S19) b2 b6 b13 S12))) xp k15 n16 this p2 S5)))) xp k8 n9 this p1 S)))
set_option maxHeartbeats 4000000 in
set_option maxRecDepth 100000 in
theorem m_X5_next {l : Launch} {D : va_G} {y : Nat → ClassId} {z : Nat} {A : Nat → Prop} {S : bS} {post : Int32 → bS → Prop} {xp : String → bS → Prop} (hl0 : l.stackTraces = false) {MC MS : Nat} {this : Nat} {p1 : Int32} {p2 : Int32} (h : wp_X5_next post xp MC MS this p1 p2 S) : vx_Met l yX5_next wsX5_next ({ frames := 9, cells := MC, slots := MS, locals := 421 } : Room) (va_Pc ([Value.ref this, Value.int p1, Value.int p2] : List Value) (bP D y z S A)) (va_Qi post (fun S' t => wd D y z S' A t.heap) A) (bX D y z A xp) MC MS A := by
  refine vx_ofW (cc := cX5_next) (maxL := 3) (ret := (some .int)) (by decide) rfl ?_
  intro p e s m args below meth c s₁ B hml hex hv
  obtain ⟨rfl, hB⟩ := hv
  have hx := B.exec
  have hb := B.bytes
  have hr := B.returns
  have hts := atoms_spec (ws := wsX5_next) B.pre
  have hown : s.vm.findClass RX5 = some m.cls := findClass_of_methodNamed B.named
  have hlocks := B.notSynchronized
  have hw : wd D y z S A s.heap := hB.1
  have hK : va_K D bCl (bT y) s := hB.2.1
  have hNw := hB.2.2.1
  have hAn : ∀ q : Nat, s.heap.size ≤ q → A q := hB.2.2.2.1
  have hAz : ¬ A z := hB.2.2.2.2.1
  have hO := hB.2.2.2.2.2.1
  have hS : va_S A s.heap s.heap [] := va_S.rf
  have hiX5 : ∀ w ∈ u_ws RX5 TX5 6, w ∈ wsX5_next := by decide +kernel
  have hl := lv_entry ([Value.ref this, Value.int p1, Value.int p2] : List Value) (n := 3) (Nat.le_of_ble_eq_true rfl)
  rw [lg_entry_eq]
  generalize (lg_sl ([Value.ref this, Value.int p1, Value.int p2] : List Value) ++ List.replicate (3 - (lg_sl ([Value.ref this, Value.int p1, Value.int p2] : List Value)).length) Slot.unset).toArray = ls at hl ⊢
  have hl : lv_has ls 3 [(0, .ref this), (1, .int p1), (2, .int p2)] := hl
  obtain ⟨Q, hQ⟩ : ∃ Q, Q = vx_MQ below (va_Qi post (fun S' t => wd D y z S' A t.heap) A) (bX D y z A xp) (([Value.ref this, Value.int p1, Value.int p2] : List Value).toArray) s MC MS A := ⟨_, rfl⟩
  rw [← hQ]
  generalize hR : (headSpec wsX5_next ({ frames := 9, cells := MC, slots := MS, locals := 421 } : Room)).room = R
  have hRf : 9 ≤ R.frames := by rw [← hR]; exact Nat.le_refl _
  have hRl : 421 ≤ R.locals := by rw [← hR]; exact Nat.le_refl _
  have hRc : R.cells = MC := by rw [← hR]; rfl
  have hRs : R.slots = MS := by rw [← hR]; rfl
  have hret : ∀ (v : Int32) (S : bS) (H : Heap) (locs : List Loc) (pc : Nat) (ls : Array Slot) (cu su : Nat) , post v S → wd D y z S A H → va_S A s.heap H locs → cu ≤ MC → su ≤ MS → decode cX5_next pc = .ok (.ireturn, 1) → W p l e R s m (([Value.ref this, Value.int p1, Value.int p2] : List Value).toArray) below meth c H locs cu su Q (F0 m pc ls [.int v]) := by
    intro v S H locs pc ls cu su h hw hS hcu hsu d0
    rw [hQ]; refine vx_ret ?_; refine W.widen hcu hsu ?_; exact W.iret hx hb hr (fun t ht hW => ⟨⟨v, S, rfl, h, by show wd D y z S A t.heap; rw [ht]; exact hw⟩, hS.F ht⟩) hS.2.2 d0 hlocks
  unfold wp_X5_next at h
  have hcu : 0 + MC ≤ MC := by omega
  have hsu : 0 + MS ≤ MS := by omega
  refine lv_aload_n hx hb dX5_next_0 rfl (lv_at hl 0 rfl) ?_
  obtain ⟨hk1, h⟩ := h
  obtain ⟨b2, hb3, h⟩ := h
  refine r_get (ci := 6) (v := .ref b2) (C := RX5) (T := TX5) (N := 6) hx hb hts hiX5 hown hK hw (ce_7 (S := S) hk1) rfl 0 (by decide) (hts (.fieldLink RX5 10 "TubePost" "net" "LTubePost$Net;") (by decide +kernel)) (fun _ h9 => h9) (congrArg (fun q => some (va_rf q)) hb3) dX5_next_1 ?_
  refine lv_aload_n hx hb dX5_next_4 rfl (lv_at hl 0 rfl) ?_
  refine lv_iload_n hx hb dX5_next_5 rfl (lv_at hl 1 rfl) ?_
  obtain ⟨k8, n9, hbg1, hbg2, h⟩ := h
  have h1 := h
  refine vx_callq (vx_runV (As := [.int p1]) (rest := [.ref b2]) ⟨hx, hb, hml, hown, hts⟩ (m_X5_knownStation (l := l) hl0 h1) (cwV 1 hts gX5_next_X5_knownStation rfl rfl rfl (by decide +kernel) ⟨Nat.le_trans (Nat.le_of_ble_eq_true rfl) hRf, Nat.le_trans (Nat.le_of_ble_eq_true rfl) hRl⟩) (r_pV hB hw hS (ce_7 (S := S) hk1) rfl) rfl rfl hl.1 rfl (lv_room (Nat.le_of_ble_eq_true rfl)) dX5_next_6 ⟨by omega, by omega⟩) hS (fun _ _ h => h) (fun _ h => h) (fun _ _ h => h) (fun E ce q9 S5 t H1 locs ht hal _ hq hz9 hk9 hS hq9 hvm9 hfc9 => by rw [hQ]; exact vx_out (fun x hx => (hex x hx).elim) hlocks hq9 hvm9 hfc9 (fun t9 ht9 _ => ⟨S5, trivial, ⟨hq.1, by rw [ht9, ← ht]; exact hq.2⟩, hS.F ht9⟩) hS.2.2 (by omega) (by omega)) (fun r4 S5 t H1 locs ht _ h hw1 _ _ hS => ?_)
  subst ht
  have hw : wd D y z S5 A t.heap := hw1
  clear hw1 h1
  have hcu : (0 + k8) + (MC - k8) ≤ MC := by omega
  have hsu : (0 + n9) + (MS - n9) ≤ MS := by omega
  obtain ⟨b6, rfl, h⟩ := h
  refine W.eq (g2 := F0 m 9 ls [.ref b6, .ref b2]) rfl ?_
  refine lv_aload_n hx hb dX5_next_9 rfl (lv_at hl 0 rfl) ?_
  refine lv_iload_n hx hb dX5_next_10 rfl (lv_at hl 2 rfl) ?_
  obtain ⟨hk10, h⟩ := h
  obtain ⟨k15, n16, hbg1, hbg2, h⟩ := h
  have h1 := h
  refine vx_callq (vx_runV (As := [.int p2]) (rest := [.ref b6, .ref b2]) ⟨hx, hb, hml, hown, hts⟩ (m_X5_knownStation (l := l) hl0 h1) (cwV 1 hts gX5_next_X5_knownStation rfl rfl rfl (by decide +kernel) ⟨Nat.le_trans (Nat.le_of_ble_eq_true rfl) hRf, Nat.le_trans (Nat.le_of_ble_eq_true rfl) hRl⟩) (r_pV hB hw hS (ce_7 (S := S5) hk10) rfl) rfl rfl hl.1 rfl (lv_room (Nat.le_of_ble_eq_true rfl)) dX5_next_11 ⟨by omega, by omega⟩) hS (fun _ _ h => h) (fun _ h => h) (fun _ _ h => h) (fun E ce q9 S12 t H1 locs ht hal _ hq hz9 hk9 hS hq9 hvm9 hfc9 => by rw [hQ]; exact vx_out (fun x hx => (hex x hx).elim) hlocks hq9 hvm9 hfc9 (fun t9 ht9 _ => ⟨S12, trivial, ⟨hq.1, by rw [ht9, ← ht]; exact hq.2⟩, hS.F ht9⟩) hS.2.2 (by omega) (by omega)) (fun r11 S12 t H1 locs ht _ h hw1 _ _ hS => ?_)
  subst ht
  have hw : wd D y z S12 A t.heap := hw1
  clear hw1 h1
  have hcu : ((0 + k8) + k15) + ((MC - k8) - k15) ≤ MC := by omega
  have hsu : ((0 + n9) + n16) + ((MS - n9) - n16) ≤ MS := by omega
  obtain ⟨b13, rfl, h⟩ := h
  refine W.eq (g2 := F0 m 14 ls [.ref b13, .ref b6, .ref b2]) rfl ?_
  obtain ⟨hk17, h⟩ := h
  have h1 := h
  refine va_calli (va_runVN (As := [.ref b6, .ref b13]) (rest := []) ⟨hx, hb, hml, hown, hts⟩ (m_X2_wayFor (l := l) h1) ⟨va_cnB 2 hts gX5_next_X2_wayFor_n247 rfl rfl rfl (hNw _ bNw_57) (hts (.initialized RX2) (by decide +kernel)) ⟨by decide +kernel, by decide +kernel, by decide +kernel⟩ ⟨Nat.le_trans (Nat.le_of_ble_eq_true rfl) hRf, Nat.le_trans (Nat.le_of_ble_eq_true rfl) hRl⟩, (hts (.instanceMethod yX2_wayFor) (by decide +kernel)), hts (.selects RX2 yX2_wayFor yX2_wayFor) (by decide +kernel)⟩ (r_pV hB hw hS (ce_4 (S := S12) hk17) rfl) rfl rfl hl.1 rfl (lv_room (Nat.le_of_ble_eq_true rfl)) dX5_next_14 ⟨by omega, by omega⟩) hS (fun _ _ h => h) (fun _ h => h) (fun r18 S19 t H1 locs ht _ h hw1 _ _ hS => ?_)
  subst ht
  have hw : wd D y z S19 A t.heap := hw1
  clear hw1 h1
  exact hret r18 _ _ _ _ _ _ _ h hw hS (by omega) (by omega) dX5_next_17
def wp_X5_parts (post : Int32 → bS → Prop) (xp : String → bS → Prop) (MC MS : Nat) (this : Nat) (p1 : Int32) (S : bS) : Prop := gK S this = 7 ∧ (∃ b2, gQ S 7 this 0 = some b2 ∧ (∃ k8 n9, k8 ≤ MC ∧ n9 ≤ MS ∧ (wp_X5_knownTube (fun r4 S5 => ∃ b6, r4 = some b6 ∧ (gK S5 b2 = 4 ∧ (wp_X2_pairsPartedWithout (fun r11 S12 => post r11 S12) b2 b6 S5))) xp k8 n9 this p1 S)))
set_option maxHeartbeats 4000000 in
set_option maxRecDepth 100000 in
theorem m_X5_parts {l : Launch} {D : va_G} {y : Nat → ClassId} {z : Nat} {A : Nat → Prop} {S : bS} {post : Int32 → bS → Prop} {xp : String → bS → Prop} (hl0 : l.stackTraces = false) {MC MS : Nat} {this : Nat} {p1 : Int32} (h : wp_X5_parts post xp MC MS this p1 S) : vx_Met l yX5_parts wsX5_parts ({ frames := 9, cells := MC, slots := MS, locals := 421 } : Room) (va_Pc ([Value.ref this, Value.int p1] : List Value) (bP D y z S A)) (va_Qi post (fun S' t => wd D y z S' A t.heap) A) (bX D y z A xp) MC MS A := by
  refine vx_ofW (cc := cX5_parts) (maxL := 2) (ret := (some .int)) (by decide) rfl ?_
  intro p e s m args below meth c s₁ B hml hex hv
  obtain ⟨rfl, hB⟩ := hv
  have hx := B.exec
  have hb := B.bytes
  have hr := B.returns
  have hts := atoms_spec (ws := wsX5_parts) B.pre
  have hown : s.vm.findClass RX5 = some m.cls := findClass_of_methodNamed B.named
  have hlocks := B.notSynchronized
  have hw : wd D y z S A s.heap := hB.1
  have hK : va_K D bCl (bT y) s := hB.2.1
  have hNw := hB.2.2.1
  have hAn : ∀ q : Nat, s.heap.size ≤ q → A q := hB.2.2.2.1
  have hAz : ¬ A z := hB.2.2.2.2.1
  have hO := hB.2.2.2.2.2.1
  have hS : va_S A s.heap s.heap [] := va_S.rf
  have hiX5 : ∀ w ∈ u_ws RX5 TX5 6, w ∈ wsX5_parts := by decide +kernel
  have hl := lv_entry ([Value.ref this, Value.int p1] : List Value) (n := 2) (Nat.le_of_ble_eq_true rfl)
  rw [lg_entry_eq]
  generalize (lg_sl ([Value.ref this, Value.int p1] : List Value) ++ List.replicate (2 - (lg_sl ([Value.ref this, Value.int p1] : List Value)).length) Slot.unset).toArray = ls at hl ⊢
  have hl : lv_has ls 2 [(0, .ref this), (1, .int p1)] := hl
  obtain ⟨Q, hQ⟩ : ∃ Q, Q = vx_MQ below (va_Qi post (fun S' t => wd D y z S' A t.heap) A) (bX D y z A xp) (([Value.ref this, Value.int p1] : List Value).toArray) s MC MS A := ⟨_, rfl⟩
  rw [← hQ]
  generalize hR : (headSpec wsX5_parts ({ frames := 9, cells := MC, slots := MS, locals := 421 } : Room)).room = R
  have hRf : 9 ≤ R.frames := by rw [← hR]; exact Nat.le_refl _
  have hRl : 421 ≤ R.locals := by rw [← hR]; exact Nat.le_refl _
  have hRc : R.cells = MC := by rw [← hR]; rfl
  have hRs : R.slots = MS := by rw [← hR]; rfl
  have hret : ∀ (v : Int32) (S : bS) (H : Heap) (locs : List Loc) (pc : Nat) (ls : Array Slot) (cu su : Nat) , post v S → wd D y z S A H → va_S A s.heap H locs → cu ≤ MC → su ≤ MS → decode cX5_parts pc = .ok (.ireturn, 1) → W p l e R s m (([Value.ref this, Value.int p1] : List Value).toArray) below meth c H locs cu su Q (F0 m pc ls [.int v]) := by
    intro v S H locs pc ls cu su h hw hS hcu hsu d0
    rw [hQ]; refine vx_ret ?_; refine W.widen hcu hsu ?_; exact W.iret hx hb hr (fun t ht hW => ⟨⟨v, S, rfl, h, by show wd D y z S A t.heap; rw [ht]; exact hw⟩, hS.F ht⟩) hS.2.2 d0 hlocks
  unfold wp_X5_parts at h
  have hcu : 0 + MC ≤ MC := by omega
  have hsu : 0 + MS ≤ MS := by omega
  refine lv_aload_n hx hb dX5_parts_0 rfl (lv_at hl 0 rfl) ?_
  obtain ⟨hk1, h⟩ := h
  obtain ⟨b2, hb3, h⟩ := h
  refine r_get (ci := 6) (v := .ref b2) (C := RX5) (T := TX5) (N := 6) hx hb hts hiX5 hown hK hw (ce_7 (S := S) hk1) rfl 0 (by decide) (hts (.fieldLink RX5 10 "TubePost" "net" "LTubePost$Net;") (by decide +kernel)) (fun _ h9 => h9) (congrArg (fun q => some (va_rf q)) hb3) dX5_parts_1 ?_
  refine lv_aload_n hx hb dX5_parts_4 rfl (lv_at hl 0 rfl) ?_
  refine lv_iload_n hx hb dX5_parts_5 rfl (lv_at hl 1 rfl) ?_
  obtain ⟨k8, n9, hbg1, hbg2, h⟩ := h
  have h1 := h
  refine vx_callq (vx_runV (As := [.int p1]) (rest := [.ref b2]) ⟨hx, hb, hml, hown, hts⟩ (m_X5_knownTube (l := l) hl0 h1) (cwV 1 hts gX5_parts_X5_knownTube rfl rfl rfl (by decide +kernel) ⟨Nat.le_trans (Nat.le_of_ble_eq_true rfl) hRf, Nat.le_trans (Nat.le_of_ble_eq_true rfl) hRl⟩) (r_pV hB hw hS (ce_7 (S := S) hk1) rfl) rfl rfl hl.1 rfl (lv_room (Nat.le_of_ble_eq_true rfl)) dX5_parts_6 ⟨by omega, by omega⟩) hS (fun _ _ h => h) (fun _ h => h) (fun _ _ h => h) (fun E ce q9 S5 t H1 locs ht hal _ hq hz9 hk9 hS hq9 hvm9 hfc9 => by rw [hQ]; exact vx_out (fun x hx => (hex x hx).elim) hlocks hq9 hvm9 hfc9 (fun t9 ht9 _ => ⟨S5, trivial, ⟨hq.1, by rw [ht9, ← ht]; exact hq.2⟩, hS.F ht9⟩) hS.2.2 (by omega) (by omega)) (fun r4 S5 t H1 locs ht _ h hw1 _ _ hS => ?_)
  subst ht
  have hw : wd D y z S5 A t.heap := hw1
  clear hw1 h1
  have hcu : (0 + k8) + (MC - k8) ≤ MC := by omega
  have hsu : (0 + n9) + (MS - n9) ≤ MS := by omega
  obtain ⟨b6, rfl, h⟩ := h
  refine W.eq (g2 := F0 m 9 ls [.ref b6, .ref b2]) rfl ?_
  obtain ⟨hk10, h⟩ := h
  have h1 := h
  refine va_calli (va_runVN (As := [.ref b6]) (rest := []) ⟨hx, hb, hml, hown, hts⟩ (m_X2_pairsPartedWithout (l := l) h1) ⟨va_cnB 1 hts gX5_parts_X2_pairsPartedWithout_n250 rfl rfl rfl (hNw _ bNw_58) (hts (.initialized RX2) (by decide +kernel)) ⟨by decide +kernel, by decide +kernel, by decide +kernel⟩ ⟨Nat.le_trans (Nat.le_of_ble_eq_true rfl) hRf, Nat.le_trans (Nat.le_of_ble_eq_true rfl) hRl⟩, (hts (.instanceMethod yX2_pairsPartedWithout) (by decide +kernel)), hts (.selects RX2 yX2_pairsPartedWithout yX2_pairsPartedWithout) (by decide +kernel)⟩ (r_pV hB hw hS (ce_4 (S := S5) hk10) rfl) rfl rfl hl.1 rfl (lv_room (Nat.le_of_ble_eq_true rfl)) dX5_parts_9 ⟨by omega, by omega⟩) hS (fun _ _ h => h) (fun _ h => h) (fun r11 S12 t H1 locs ht _ h hw1 _ _ hS => ?_)
  subst ht
  have hw : wd D y z S12 A t.heap := hw1
  clear hw1 h1
  exact hret r11 _ _ _ _ _ _ _ h hw hS (by omega) (by omega) dX5_parts_12
def wp_X5_mean (post : UInt64 → bS → Prop) (this : Nat) (S : bS) : Prop := gK S this = 7 ∧ (((gV S 7 this 4) ≠ (0 : Int32) → (∀ r2 : UInt64, alike64 r2 (FP.ddiv (FP.i2d (gV S 7 this 5)) (FP.i2d (gV S 7 this 4))) = true → (post r2 S))) ∧ ((gV S 7 this 4) = (0 : Int32) → post FP.dconst0 S))
set_option maxHeartbeats 4000000 in
set_option maxRecDepth 100000 in
theorem m_X5_mean {l : Launch} {D : va_G} {y : Nat → ClassId} {z : Nat} {A : Nat → Prop} {S : bS} {post : UInt64 → bS → Prop} {this : Nat} (h : wp_X5_mean post this S) : MetD lw_cs l yX5_mean wsX5_mean ({ frames := 0, cells := 0, slots := 0, locals := 0 } : Room) (va_Pc ([Value.ref this] : List Value) (bP D y z S A)) (va_Qd post (fun S' t => wd D y z S' A t.heap) A) 0 0 A := by
  refine MetD.ofW (cc := cX5_mean) (maxL := 1) (ret := (some .double)) (by decide) rfl ?_
  intro p e s m args below meth c s₁ B hml hv hd0
  obtain ⟨rfl, hB⟩ := hv
  have hx := B.exec
  have hb := B.bytes
  have hr := B.returns
  have hts := atoms_spec (ws := wsX5_mean) B.pre
  have hown : s.vm.findClass RX5 = some m.cls := findClass_of_methodNamed B.named
  have hlocks := B.notSynchronized
  have hw : wd D y z S A s.heap := hB.1
  have hK : va_K D bCl (bT y) s := hB.2.1
  have hNw := hB.2.2.1
  have hAn : ∀ q : Nat, s.heap.size ≤ q → A q := hB.2.2.2.1
  have hAz : ¬ A z := hB.2.2.2.2.1
  have hO := hB.2.2.2.2.2.1
  have hS : va_S A s.heap s.heap [] := va_S.rf
  have hiX5 : ∀ w ∈ u_ws RX5 TX5 6, w ∈ wsX5_mean := by decide +kernel
  have hl := lv_entry ([Value.ref this] : List Value) (n := 1) (Nat.le_of_ble_eq_true rfl)
  rw [lg_entry_eq]
  generalize (lg_sl ([Value.ref this] : List Value) ++ List.replicate (1 - (lg_sl ([Value.ref this] : List Value)).length) Slot.unset).toArray = ls at hl ⊢
  have hl : lv_has ls 1 [(0, .ref this)] := hl
  have hts0 := hts
  have hts := dr_words hts0 s.drawn
  unfold wp_X5_mean at h
  refine lv_aload_n hx hb dX5_mean_0 rfl (lv_at hl 0 rfl) ?_
  obtain ⟨hk1, h⟩ := h
  refine r_get (ci := 6) (v := .int (gV S 7 this 4)) (C := RX5) (T := TX5) (N := 6) hx hb hts hiX5 hown hK hw (ce_7 (S := S) hk1) rfl 4 (by decide) (hts (.fieldLink RX5 30 "TubePost" "delivered" "I") (by decide +kernel)) (fun _ h9 => h9) rfl dX5_mean_1 ?_
  refine lv_if_ne (tgt := 9) hx hb dX5_mean_4 (by decide) (fun hc => ?_) (fun hc => ?_)
  · have h := h.1 hc
    refine lv_aload_n hx hb dX5_mean_9 rfl (lv_at hl 0 rfl) ?_
    refine r_get (ci := 6) (v := .int (gV S 7 this 5)) (C := RX5) (T := TX5) (N := 6) hx hb hts hiX5 hown hK hw (ce_7 (S := S) hk1) rfl 5 (by decide) (hts (.fieldLink RX5 33 "TubePost" "ticksUnderWay" "I") (by decide +kernel)) (fun _ h9 => h9) rfl dX5_mean_10 ?_
    refine lv_i2d hx hb dX5_mean_13 ?_
    refine lv_aload_n hx hb dX5_mean_14 rfl (lv_at hl 0 rfl) ?_
    refine r_get (ci := 6) (v := .int (gV S 7 this 4)) (C := RX5) (T := TX5) (N := 6) hx hb hts hiX5 hown hK hw (ce_7 (S := S) hk1) rfl 4 (by decide) (hts (.fieldLink RX5 30 "TubePost" "delivered" "I") (by decide +kernel)) (fun _ h9 => h9) rfl dX5_mean_15 ?_
    refine lv_i2d hx hb dX5_mean_18 ?_
    refine lv_ddiv_any hd0 lw_bits hx hb dX5_mean_19 (fun r2 d3 hal hd0 => ?_)
    have h := h r2 hal
    have hts := dr_words hts0 d3
    refine W.endD hd0 ?_
    exact W.dret hx hb hr (fun t ht hW => ⟨⟨r2, S, rfl, h, by show wd D y z S A t.heap; rw [ht]; exact hw⟩, hS.F ht⟩) hS.2.2 dX5_mean_20 hlocks
  · have h := h.2 hc
    refine lv_dconst0 hx hb dX5_mean_7 ?_
    refine W.endD hd0 ?_
    exact W.dret hx hb hr (fun t ht hW => ⟨⟨FP.dconst0, S, rfl, h, by show wd D y z S A t.heap; rw [ht]; exact hw⟩, hS.F ht⟩) hS.2.2 dX5_mean_8 hlocks
def wb_X5_digestStation_47 (post : Int64 → bS → Prop) (xp : String → bS → Prop) : Nat → Nat → Nat → Nat → Int32 → Int64 → Int32 → Int32 → bS → Prop
  | 0, _, _, _, _, _, _, _, _ => False
  | n + 1, mc, ms, v0, v3, v4, v6, v7, S => (v6 ≤ v7 → post v4 S) ∧ (¬ (v6 ≤ v7) → gK S v0 = 7 ∧ (∃ k14 n15, k14 ≤ mc ∧ n15 ≤ ms ∧ (wp_X5_there (fun r12 S13 => (wb_X5_digestStation_47 post xp n) (mc - k14) (ms - n15) v0 v3 ((v4 * (31 : Int64)) + (Int32.toInt64 r12)) v6 (v7 + (1 : Int32)) S13) xp k14 n15 v0 v3 v7 S)))
def wb_X5_digestStation_6 (post : Int64 → bS → Prop) (xp : String → bS → Prop) : Nat → Nat → Nat → Nat → Int32 → Int64 → Int32 → bS → Prop
  | 0, _, _, _, _, _, _, _ => False
  | n + 1, mc, ms, v0, v3, v4, v6, S => ((6 : Int32) ≤ v6 → gK S v0 = 7 ∧ (∃ k4 n5, k4 ≤ mc ∧ n5 ≤ ms ∧ (wp_X5_station (fun r2 S3 => ∃ n47, wb_X5_digestStation_47 post xp n47 (mc - k4) (ms - n5) v0 v3 v4 r2 (0 : Int32) S3) xp k4 n5 v0 v3 (4 : Int32) S))) ∧ (¬ ((6 : Int32) ≤ v6) → gK S v0 = 7 ∧ (∃ k9 n10, k9 ≤ mc ∧ n10 ≤ ms ∧ (wp_X5_station (fun r7 S8 => (wb_X5_digestStation_6 post xp n) (mc - k9) (ms - n10) v0 v3 ((v4 * (31 : Int64)) + (Int32.toInt64 r7)) (v6 + (1 : Int32)) S8) xp k9 n10 v0 v3 v6 S)))
def wp_X5_digestStation (post : Int64 → bS → Prop) (xp : String → bS → Prop) (MC MS : Nat) (this : Nat) (p1 : Int64) (p2 : Int32) (S : bS) : Prop := ∃ n6, wb_X5_digestStation_6 post xp n6 MC MS this p2 p1 (0 : Int32) S
set_option maxHeartbeats 4000000 in
set_option maxRecDepth 100000 in
theorem m_X5_digestStation {l : Launch} {D : va_G} {y : Nat → ClassId} {z : Nat} {A : Nat → Prop} {S : bS} {post : Int64 → bS → Prop} {xp : String → bS → Prop} (hl0 : l.stackTraces = false) {MC MS : Nat} {this : Nat} {p1 : Int64} {p2 : Int32} (h : wp_X5_digestStation post xp MC MS this p1 p2 S) : vx_Met l yX5_digestStation wsX5_digestStation ({ frames := 10, cells := MC, slots := MS, locals := 444 } : Room) (va_Pc ([Value.ref this, Value.long p1, Value.int p2] : List Value) (bP D y z S A)) (va_Ql post (fun S' t => wd D y z S' A t.heap) A) (bX D y z A xp) MC MS A := by
  refine vx_ofW (cc := cX5_digestStation) (maxL := 8) (ret := (some .long)) (by decide) rfl ?_
  intro p e s m args below meth c s₁ B hml hex hv
  obtain ⟨rfl, hB⟩ := hv
  have hx := B.exec
  have hb := B.bytes
  have hr := B.returns
  have hts := atoms_spec (ws := wsX5_digestStation) B.pre
  have hown : s.vm.findClass RX5 = some m.cls := findClass_of_methodNamed B.named
  have hlocks := B.notSynchronized
  have hw : wd D y z S A s.heap := hB.1
  have hK : va_K D bCl (bT y) s := hB.2.1
  have hNw := hB.2.2.1
  have hAn : ∀ q : Nat, s.heap.size ≤ q → A q := hB.2.2.2.1
  have hAz : ¬ A z := hB.2.2.2.2.1
  have hO := hB.2.2.2.2.2.1
  have hS : va_S A s.heap s.heap [] := va_S.rf
  have hl := lv_entry ([Value.ref this, Value.long p1, Value.int p2] : List Value) (n := 8) (Nat.le_of_ble_eq_true rfl)
  rw [lg_entry_eq]
  generalize (lg_sl ([Value.ref this, Value.long p1, Value.int p2] : List Value) ++ List.replicate (8 - (lg_sl ([Value.ref this, Value.long p1, Value.int p2] : List Value)).length) Slot.unset).toArray = ls at hl ⊢
  have hl : lv_has ls 8 [(0, .ref this), (1, .long p1), (3, .int p2)] := hl
  obtain ⟨Q, hQ⟩ : ∃ Q, Q = vx_MQ below (va_Ql post (fun S' t => wd D y z S' A t.heap) A) (bX D y z A xp) (([Value.ref this, Value.long p1, Value.int p2] : List Value).toArray) s MC MS A := ⟨_, rfl⟩
  rw [← hQ]
  generalize hR : (headSpec wsX5_digestStation ({ frames := 10, cells := MC, slots := MS, locals := 444 } : Room)).room = R
  have hRf : 10 ≤ R.frames := by rw [← hR]; exact Nat.le_refl _
  have hRl : 444 ≤ R.locals := by rw [← hR]; exact Nat.le_refl _
  have hRc : R.cells = MC := by rw [← hR]; rfl
  have hRs : R.slots = MS := by rw [← hR]; rfl
  have hret : ∀ (v : Int64) (S : bS) (H : Heap) (locs : List Loc) (pc : Nat) (ls : Array Slot) (cu su : Nat) , post v S → wd D y z S A H → va_S A s.heap H locs → cu ≤ MC → su ≤ MS → decode cX5_digestStation pc = .ok (.lreturn, 1) → W p l e R s m (([Value.ref this, Value.long p1, Value.int p2] : List Value).toArray) below meth c H locs cu su Q (F0 m pc ls [.long v]) := by
    intro v S H locs pc ls cu su h hw hS hcu hsu d0
    rw [hQ]; refine vx_ret ?_; refine W.widen hcu hsu ?_; exact W.lret hx hb hr (fun t ht hW => ⟨⟨v, S, rfl, h, by show wd D y z S A t.heap; rw [ht]; exact hw⟩, hS.F ht⟩) hS.2.2 d0 hlocks
  have hB47 : ∀ (n47 : Nat) (S : bS) (H : Heap) (locs : List Loc) (ls : Array Slot) (mc ms cu su : Nat) (v0 : Nat) (v3 : Int32) (v4 : Int64) (v6 : Int32) (v7 : Int32), wb_X5_digestStation_47 post xp n47 mc ms v0 v3 v4 v6 v7 S → wd D y z S A H → va_S A s.heap H locs → lv_has ls 8 [(0, .ref v0), (3, .int v3), (4, .long v4), (6, .int v6), (7, .int v7)] → cu + mc ≤ MC → su + ms ≤ MS → W p l e R s m (([Value.ref this, Value.long p1, Value.int p2] : List Value).toArray) below meth c H locs cu su Q (F0 m 47 ls []) := by
    intro n47
    induction n47 with
    | zero =>
      intro S H locs ls mc ms cu su v0 v3 v4 v6 v7 h hw hS hl hcu hsu
      exact absurd h (by unfold wb_X5_digestStation_47; exact id)
    | succ n47 ih47 =>
      intro S H locs ls mc ms cu su v0 v3 v4 v6 v7 h hw hS hl hcu hsu
      unfold wb_X5_digestStation_47 at h
      refine lv_iload hx hb dX5_digestStation_47 (lv_at hl 4 rfl) ?_
      refine lv_iload hx hb dX5_digestStation_49 (lv_at hl 3 rfl) ?_
      refine lv_icmp_ge (tgt := 77) hx hb dX5_digestStation_51 (by decide) (fun hc => ?_) (fun hc => ?_)
      · have h := h.1 hc
        refine lv_lload hx hb dX5_digestStation_77 (lv_at hl 2 rfl) ?_
        exact hret v4 _ _ _ _ _ _ _ h hw hS (by omega) (by omega) dX5_digestStation_79
      · have h := h.2 hc
        refine lv_lload hx hb dX5_digestStation_54 (lv_at hl 2 rfl) ?_
        refine lv_ldc2 (v := (31 : Int64)) hx hb hown (hts (.constantLong RX5 256 (31 : Int64)) (by decide +kernel)) dX5_digestStation_56 ?_
        refine lv_lmul hx hb dX5_digestStation_59 ?_
        refine lv_aload_n hx hb dX5_digestStation_60 rfl (lv_at hl 0 rfl) ?_
        refine lv_iload_n hx hb dX5_digestStation_61 rfl (lv_at hl 1 rfl) ?_
        refine lv_iload hx hb dX5_digestStation_62 (lv_at hl 4 rfl) ?_
        obtain ⟨hk11, h⟩ := h
        obtain ⟨k14, n15, hbg1, hbg2, h⟩ := h
        have h1 := h
        refine vx_calli (vx_runV (As := [.int v3, .int v7]) (rest := [.long (v4 * (31 : Int64))]) ⟨hx, hb, hml, hown, hts⟩ (m_X5_there (l := l) hl0 h1) (cwV 2 hts gX5_digestStation_X5_there rfl rfl rfl (by decide +kernel) ⟨Nat.le_trans (Nat.le_of_ble_eq_true rfl) hRf, Nat.le_trans (Nat.le_of_ble_eq_true rfl) hRl⟩) (r_pV hB hw hS (ce_7 (S := S) hk11) rfl) rfl rfl hl.1 rfl (lv_room (Nat.le_of_ble_eq_true rfl)) dX5_digestStation_64 ⟨by omega, by omega⟩) hS (fun _ _ h => h) (fun _ h => h) (fun _ _ h => h) (fun E ce q9 S13 t H1 locs ht hal _ hq hz9 hk9 hS hq9 hvm9 hfc9 => by rw [hQ]; exact vx_out (fun x hx => (hex x hx).elim) hlocks hq9 hvm9 hfc9 (fun t9 ht9 _ => ⟨S13, trivial, ⟨hq.1, by rw [ht9, ← ht]; exact hq.2⟩, hS.F ht9⟩) hS.2.2 (by omega) (by omega)) (fun r12 S13 t H1 locs ht _ h hw1 _ _ hS => ?_)
        subst ht
        have hw : wd D y z S13 A t.heap := hw1
        clear hw1 h1
        have hcu : (cu + k14) + (mc - k14) ≤ MC := by omega
        have hsu : (su + n15) + (ms - n15) ≤ MS := by omega
        refine lv_i2l (v := (Int32.toInt64 r12)) hx hb dX5_digestStation_67 rfl ?_
        refine lv_ladd hx hb dX5_digestStation_68 ?_
        refine lv_lstore hx hb dX5_digestStation_69 hl (by decide) rfl (fun ls hl => ?_)
        have hl : lv_has ls 8 [(4, .long ((v4 * (31 : Int64)) + (Int32.toInt64 r12))), (0, .ref v0), (3, .int v3), (6, .int v6), (7, .int v7)] := hl
        refine lv_iinc (v := (v7 + (1 : Int32))) hx hb dX5_digestStation_71 hl (k := 4) rfl rfl (by decide) rfl (fun ls hl => ?_)
        have hl : lv_has ls 8 [(7, .int (v7 + (1 : Int32))), (4, .long ((v4 * (31 : Int64)) + (Int32.toInt64 r12))), (0, .ref v0), (3, .int v3), (6, .int v6)] := hl
        refine lv_goto (tgt := 47) hx hb dX5_digestStation_74 (by decide) ?_
        exact ih47 _ _ _ _ _ _ _ _ _ _ _ _ _ h hw hS (lv_sub hl [2, 3, 1, 4, 0] rfl) hcu hsu
  have hB6 : ∀ (n6 : Nat) (S : bS) (H : Heap) (locs : List Loc) (ls : Array Slot) (mc ms cu su : Nat) (v0 : Nat) (v3 : Int32) (v4 : Int64) (v6 : Int32), wb_X5_digestStation_6 post xp n6 mc ms v0 v3 v4 v6 S → wd D y z S A H → va_S A s.heap H locs → lv_has ls 8 [(0, .ref v0), (3, .int v3), (4, .long v4), (6, .int v6)] → cu + mc ≤ MC → su + ms ≤ MS → W p l e R s m (([Value.ref this, Value.long p1, Value.int p2] : List Value).toArray) below meth c H locs cu su Q (F0 m 6 ls []) := by
    intro n6
    induction n6 with
    | zero =>
      intro S H locs ls mc ms cu su v0 v3 v4 v6 h hw hS hl hcu hsu
      exact absurd h (by unfold wb_X5_digestStation_6; exact id)
    | succ n6 ih6 =>
      intro S H locs ls mc ms cu su v0 v3 v4 v6 h hw hS hl hcu hsu
      unfold wb_X5_digestStation_6 at h
      refine lv_iload hx hb dX5_digestStation_6 (lv_at hl 3 rfl) ?_
      refine lv_bipush (v := (6 : Int32)) hx hb dX5_digestStation_8 (by decide) ?_
      refine lv_icmp_ge (tgt := 36) hx hb dX5_digestStation_10 (by decide) (fun hc => ?_) (fun hc => ?_)
      · have h := h.1 hc
        refine lv_aload_n hx hb dX5_digestStation_36 rfl (lv_at hl 0 rfl) ?_
        refine lv_iload_n hx hb dX5_digestStation_37 rfl (lv_at hl 1 rfl) ?_
        refine lv_iconst (v := (4 : Int32)) hx hb dX5_digestStation_38 (by decide) ?_
        obtain ⟨hk1, h⟩ := h
        obtain ⟨k4, n5, hbg1, hbg2, h⟩ := h
        have h1 := h
        refine vx_calli (vx_runV (As := [.int v3, .int (4 : Int32)]) (rest := []) ⟨hx, hb, hml, hown, hts⟩ (m_X5_station (l := l) hl0 h1) (cwV 2 hts gX5_digestStation_X5_station rfl rfl rfl (by decide +kernel) ⟨Nat.le_trans (Nat.le_of_ble_eq_true rfl) hRf, Nat.le_trans (Nat.le_of_ble_eq_true rfl) hRl⟩) (r_pV hB hw hS (ce_7 (S := S) hk1) rfl) rfl rfl hl.1 rfl (lv_room (Nat.le_of_ble_eq_true rfl)) dX5_digestStation_39 ⟨by omega, by omega⟩) hS (fun _ _ h => h) (fun _ h => h) (fun _ _ h => h) (fun E ce q9 S3 t H1 locs ht hal _ hq hz9 hk9 hS hq9 hvm9 hfc9 => by rw [hQ]; exact vx_out (fun x hx => (hex x hx).elim) hlocks hq9 hvm9 hfc9 (fun t9 ht9 _ => ⟨S3, trivial, ⟨hq.1, by rw [ht9, ← ht]; exact hq.2⟩, hS.F ht9⟩) hS.2.2 (by omega) (by omega)) (fun r2 S3 t H1 locs ht _ h hw1 _ _ hS => ?_)
        subst ht
        have hw : wd D y z S3 A t.heap := hw1
        clear hw1 h1
        have hcu : (cu + k4) + (mc - k4) ≤ MC := by omega
        have hsu : (su + n5) + (ms - n5) ≤ MS := by omega
        refine lv_istore hx hb dX5_digestStation_42 hl (by decide) rfl (fun ls hl => ?_)
        have hl : lv_has ls 8 [(6, .int r2), (0, .ref v0), (3, .int v3), (4, .long v4)] := hl
        refine lv_iconst (v := (0 : Int32)) hx hb dX5_digestStation_44 (by decide) ?_
        refine lv_istore hx hb dX5_digestStation_45 hl (by decide) rfl (fun ls hl => ?_)
        have hl : lv_has ls 8 [(7, .int (0 : Int32)), (6, .int r2), (0, .ref v0), (3, .int v3), (4, .long v4)] := hl
        obtain ⟨n47, h⟩ := h
        exact hB47 n47 _ _ _ _ _ _ _ _ _ _ _ _ _ h hw hS (lv_sub hl [2, 3, 4, 1, 0] rfl) hcu hsu
      · have h := h.2 hc
        refine lv_lload hx hb dX5_digestStation_13 (lv_at hl 2 rfl) ?_
        refine lv_ldc2 (v := (31 : Int64)) hx hb hown (hts (.constantLong RX5 256 (31 : Int64)) (by decide +kernel)) dX5_digestStation_15 ?_
        refine lv_lmul hx hb dX5_digestStation_18 ?_
        refine lv_aload_n hx hb dX5_digestStation_19 rfl (lv_at hl 0 rfl) ?_
        refine lv_iload_n hx hb dX5_digestStation_20 rfl (lv_at hl 1 rfl) ?_
        refine lv_iload hx hb dX5_digestStation_21 (lv_at hl 3 rfl) ?_
        obtain ⟨hk6, h⟩ := h
        obtain ⟨k9, n10, hbg1, hbg2, h⟩ := h
        have h1 := h
        refine vx_calli (vx_runV (As := [.int v3, .int v6]) (rest := [.long (v4 * (31 : Int64))]) ⟨hx, hb, hml, hown, hts⟩ (m_X5_station (l := l) hl0 h1) (cwV 2 hts gX5_digestStation_X5_station rfl rfl rfl (by decide +kernel) ⟨Nat.le_trans (Nat.le_of_ble_eq_true rfl) hRf, Nat.le_trans (Nat.le_of_ble_eq_true rfl) hRl⟩) (r_pV hB hw hS (ce_7 (S := S) hk6) rfl) rfl rfl hl.1 rfl (lv_room (Nat.le_of_ble_eq_true rfl)) dX5_digestStation_23 ⟨by omega, by omega⟩) hS (fun _ _ h => h) (fun _ h => h) (fun _ _ h => h) (fun E ce q9 S8 t H1 locs ht hal _ hq hz9 hk9 hS hq9 hvm9 hfc9 => by rw [hQ]; exact vx_out (fun x hx => (hex x hx).elim) hlocks hq9 hvm9 hfc9 (fun t9 ht9 _ => ⟨S8, trivial, ⟨hq.1, by rw [ht9, ← ht]; exact hq.2⟩, hS.F ht9⟩) hS.2.2 (by omega) (by omega)) (fun r7 S8 t H1 locs ht _ h hw1 _ _ hS => ?_)
        subst ht
        have hw : wd D y z S8 A t.heap := hw1
        clear hw1 h1
        have hcu : (cu + k9) + (mc - k9) ≤ MC := by omega
        have hsu : (su + n10) + (ms - n10) ≤ MS := by omega
        refine lv_i2l (v := (Int32.toInt64 r7)) hx hb dX5_digestStation_26 rfl ?_
        refine lv_ladd hx hb dX5_digestStation_27 ?_
        refine lv_lstore hx hb dX5_digestStation_28 hl (by decide) rfl (fun ls hl => ?_)
        have hl : lv_has ls 8 [(4, .long ((v4 * (31 : Int64)) + (Int32.toInt64 r7))), (0, .ref v0), (3, .int v3), (6, .int v6)] := hl
        refine lv_iinc (v := (v6 + (1 : Int32))) hx hb dX5_digestStation_30 hl (k := 3) rfl rfl (by decide) rfl (fun ls hl => ?_)
        have hl : lv_has ls 8 [(6, .int (v6 + (1 : Int32))), (4, .long ((v4 * (31 : Int64)) + (Int32.toInt64 r7))), (0, .ref v0), (3, .int v3)] := hl
        refine lv_goto (tgt := 6) hx hb dX5_digestStation_33 (by decide) ?_
        exact ih6 _ _ _ _ _ _ _ _ _ _ _ _ h hw hS (lv_sub hl [2, 3, 1, 0] rfl) hcu hsu
  unfold wp_X5_digestStation at h
  have hcu : 0 + MC ≤ MC := by omega
  have hsu : 0 + MS ≤ MS := by omega
  refine lv_lload_n hx hb dX5_digestStation_0 rfl (lv_at hl 1 rfl) ?_
  refine lv_lstore hx hb dX5_digestStation_1 hl (by decide) rfl (fun ls hl => ?_)
  have hl : lv_has ls 8 [(4, .long p1), (0, .ref this), (1, .long p1), (3, .int p2)] := hl
  refine lv_iconst (v := (0 : Int32)) hx hb dX5_digestStation_3 (by decide) ?_
  refine lv_istore hx hb dX5_digestStation_4 hl (by decide) rfl (fun ls hl => ?_)
  have hl : lv_has ls 8 [(6, .int (0 : Int32)), (4, .long p1), (0, .ref this), (1, .long p1), (3, .int p2)] := hl
  obtain ⟨n6, h⟩ := h
  exact hB6 n6 _ _ _ _ _ _ _ _ _ _ _ _ h hw hS (lv_sub hl [2, 4, 1, 0] rfl) hcu hsu
def wb_X5_digest_129 (post : Int64 → bS → Prop) (xp : String → bS → Prop) (rec115 : Nat → Nat → Nat → Int64 → Int32 → bS → Prop) : Nat → Nat → Nat → Nat → Int64 → Int32 → Int32 → bS → Prop
  | 0, _, _, _, _, _, _, _ => False
  | n + 1, mc, ms, v0, v1, v3, v4, S => ((7 : Int32) ≤ v4 → rec115 mc ms v0 v1 (v3 + (1 : Int32)) S) ∧ (¬ ((7 : Int32) ≤ v4) → gK S v0 = 7 ∧ (∃ k43 n44, k43 ≤ mc ∧ n44 ≤ ms ∧ (wp_X5_carrier (fun r41 S42 => (wb_X5_digest_129 post xp rec115 n) (mc - k43) (ms - n44) v0 ((v1 * (31 : Int64)) + (Int32.toInt64 r41)) v3 (v4 + (1 : Int32)) S42) xp k43 n44 v0 v3 v4 S)))
def wb_X5_digest_115 (post : Int64 → bS → Prop) (xp : String → bS → Prop) : Nat → Nat → Nat → Nat → Int64 → Int32 → bS → Prop
  | 0, _, _, _, _, _, _ => False
  | n + 1, mc, ms, v0, v1, v3, S => gK S v0 = 7 ∧ (∃ b35, gQ S 7 v0 2 = some b35 ∧ (gK S b35 = 1 ∧ (wp_Jx4a65c_size_8abf5 (fun r38 S39 => (r38 ≤ v3 → post v1 S39) ∧ (¬ (r38 ≤ v3) → ∃ n129, wb_X5_digest_129 post xp (wb_X5_digest_115 post xp n) n129 mc ms v0 v1 v3 (0 : Int32) S39)) b35 S)))
def wb_X5_digest_79 (post : Int64 → bS → Prop) (xp : String → bS → Prop) (rec62 : Nat → Nat → Nat → Int64 → Int32 → bS → Prop) : Nat → Nat → Nat → Nat → Int64 → Int32 → Int32 → bS → Prop
  | 0, _, _, _, _, _, _, _ => False
  | n + 1, mc, ms, v0, v1, v3, v4, S => ((9 : Int32) ≤ v4 → rec62 mc ms v0 v1 (v3 + (1 : Int32)) S) ∧ (¬ ((9 : Int32) ≤ v4) → gK S v0 = 7 ∧ (∃ k32 n33, k32 ≤ mc ∧ n33 ≤ ms ∧ (wp_X5_tube (fun r30 S31 => (wb_X5_digest_79 post xp rec62 n) (mc - k32) (ms - n33) v0 ((v1 * (31 : Int64)) + (Int32.toInt64 r30)) v3 (v4 + (1 : Int32)) S31) xp k32 n33 v0 v3 v4 S)))
def wb_X5_digest_62 (post : Int64 → bS → Prop) (xp : String → bS → Prop) : Nat → Nat → Nat → Nat → Int64 → Int32 → bS → Prop
  | 0, _, _, _, _, _, _ => False
  | n + 1, mc, ms, v0, v1, v3, S => gK S v0 = 7 ∧ (∃ b21, gQ S 7 v0 0 = some b21 ∧ (gK S b21 = 4 ∧ (∃ b24, gQ S 4 b21 1 = some b24 ∧ (gK S b24 = 1 ∧ (wp_Jx4a65c_size_8abf5 (fun r27 S28 => (r27 ≤ v3 → ∃ n115, wb_X5_digest_115 post xp n115 mc ms v0 v1 (0 : Int32) S28) ∧ (¬ (r27 ≤ v3) → ∃ n79, wb_X5_digest_79 post xp (wb_X5_digest_62 post xp n) n79 mc ms v0 v1 v3 (0 : Int32) S28)) b24 S)))))
def wb_X5_digest_33 (post : Int64 → bS → Prop) (xp : String → bS → Prop) : Nat → Nat → Nat → Nat → Int64 → Int32 → bS → Prop
  | 0, _, _, _, _, _, _ => False
  | n + 1, mc, ms, v0, v1, v3, S => gK S v0 = 7 ∧ (∃ b7, gQ S 7 v0 0 = some b7 ∧ (gK S b7 = 4 ∧ (∃ b10, gQ S 4 b7 0 = some b10 ∧ (gK S b10 = 1 ∧ (wp_Jx4a65c_size_8abf5 (fun r13 S14 => (r13 ≤ v3 → ∃ n62, wb_X5_digest_62 post xp n62 mc ms v0 v1 (0 : Int32) S14) ∧ (¬ (r13 ≤ v3) → gK S14 v0 = 7 ∧ (∃ k18 n19, k18 ≤ mc ∧ n19 ≤ ms ∧ (wp_X5_digestStation (fun r16 S17 => (wb_X5_digest_33 post xp n) (mc - k18) (ms - n19) v0 r16 (v3 + (1 : Int32)) S17) xp k18 n19 v0 v1 v3 S14)))) b10 S)))))
def wb_X5_digest_6 (post : Int64 → bS → Prop) (xp : String → bS → Prop) : Nat → Nat → Nat → Nat → Int64 → Int32 → bS → Prop
  | 0, _, _, _, _, _, _ => False
  | n + 1, mc, ms, v0, v1, v3, S => ((9 : Int32) ≤ v3 → ∃ n33, wb_X5_digest_33 post xp n33 mc ms v0 v1 (0 : Int32) S) ∧ (¬ ((9 : Int32) ≤ v3) → gK S v0 = 7 ∧ (∃ k4 n5, k4 ≤ mc ∧ n5 ≤ ms ∧ (wp_X5_count (fun r2 S3 => (wb_X5_digest_6 post xp n) (mc - k4) (ms - n5) v0 ((v1 * (31 : Int64)) + (Int32.toInt64 r2)) (v3 + (1 : Int32)) S3) xp k4 n5 v0 v3 S)))
def wp_X5_digest (post : Int64 → bS → Prop) (xp : String → bS → Prop) (MC MS : Nat) (this : Nat) (S : bS) : Prop := ∃ n6, wb_X5_digest_6 post xp n6 MC MS this (457 : Int64) (0 : Int32) S
set_option maxHeartbeats 4000000 in
set_option maxRecDepth 100000 in
theorem m_X5_digest {l : Launch} {D : va_G} {y : Nat → ClassId} {z : Nat} {A : Nat → Prop} {S : bS} {post : Int64 → bS → Prop} {xp : String → bS → Prop} (hl0 : l.stackTraces = false) {MC MS : Nat} {this : Nat} (h : wp_X5_digest post xp MC MS this S) : vx_Met l yX5_digest wsX5_digest ({ frames := 11, cells := MC, slots := MS, locals := 471 } : Room) (va_Pc ([Value.ref this] : List Value) (bP D y z S A)) (va_Ql post (fun S' t => wd D y z S' A t.heap) A) (bX D y z A xp) MC MS A := by
  refine vx_ofW (cc := cX5_digest) (maxL := 5) (ret := (some .long)) (by decide) rfl ?_
  intro p e s m args below meth c s₁ B hml hex hv
  obtain ⟨rfl, hB⟩ := hv
  have hx := B.exec
  have hb := B.bytes
  have hr := B.returns
  have hts := atoms_spec (ws := wsX5_digest) B.pre
  have hown : s.vm.findClass RX5 = some m.cls := findClass_of_methodNamed B.named
  have hlocks := B.notSynchronized
  have hw : wd D y z S A s.heap := hB.1
  have hK : va_K D bCl (bT y) s := hB.2.1
  have hNw := hB.2.2.1
  have hAn : ∀ q : Nat, s.heap.size ≤ q → A q := hB.2.2.2.1
  have hAz : ¬ A z := hB.2.2.2.2.1
  have hO := hB.2.2.2.2.2.1
  have hS : va_S A s.heap s.heap [] := va_S.rf
  have hiX2 : ∀ w ∈ u_ws RX2 TX2 2, w ∈ wsX5_digest := by decide +kernel
  have hiX5 : ∀ w ∈ u_ws RX5 TX5 6, w ∈ wsX5_digest := by decide +kernel
  have hl := lv_entry ([Value.ref this] : List Value) (n := 5) (Nat.le_of_ble_eq_true rfl)
  rw [lg_entry_eq]
  generalize (lg_sl ([Value.ref this] : List Value) ++ List.replicate (5 - (lg_sl ([Value.ref this] : List Value)).length) Slot.unset).toArray = ls at hl ⊢
  have hl : lv_has ls 5 [(0, .ref this)] := hl
  obtain ⟨Q, hQ⟩ : ∃ Q, Q = vx_MQ below (va_Ql post (fun S' t => wd D y z S' A t.heap) A) (bX D y z A xp) (([Value.ref this] : List Value).toArray) s MC MS A := ⟨_, rfl⟩
  rw [← hQ]
  generalize hR : (headSpec wsX5_digest ({ frames := 11, cells := MC, slots := MS, locals := 471 } : Room)).room = R
  have hRf : 11 ≤ R.frames := by rw [← hR]; exact Nat.le_refl _
  have hRl : 471 ≤ R.locals := by rw [← hR]; exact Nat.le_refl _
  have hRc : R.cells = MC := by rw [← hR]; rfl
  have hRs : R.slots = MS := by rw [← hR]; rfl
  have hret : ∀ (v : Int64) (S : bS) (H : Heap) (locs : List Loc) (pc : Nat) (ls : Array Slot) (cu su : Nat) , post v S → wd D y z S A H → va_S A s.heap H locs → cu ≤ MC → su ≤ MS → decode cX5_digest pc = .ok (.lreturn, 1) → W p l e R s m (([Value.ref this] : List Value).toArray) below meth c H locs cu su Q (F0 m pc ls [.long v]) := by
    intro v S H locs pc ls cu su h hw hS hcu hsu d0
    rw [hQ]; refine vx_ret ?_; refine W.widen hcu hsu ?_; exact W.lret hx hb hr (fun t ht hW => ⟨⟨v, S, rfl, h, by show wd D y z S A t.heap; rw [ht]; exact hw⟩, hS.F ht⟩) hS.2.2 d0 hlocks
  have hB115 : ∀ (n115 : Nat) (S : bS) (H : Heap) (locs : List Loc) (ls : Array Slot) (mc ms cu su : Nat) (v0 : Nat) (v1 : Int64) (v3 : Int32), wb_X5_digest_115 post xp n115 mc ms v0 v1 v3 S → wd D y z S A H → va_S A s.heap H locs → lv_has ls 5 [(0, .ref v0), (1, .long v1), (3, .int v3)] → cu + mc ≤ MC → su + ms ≤ MS → W p l e R s m (([Value.ref this] : List Value).toArray) below meth c H locs cu su Q (F0 m 115 ls []) := by
    intro n115
    induction n115 with
    | zero =>
      intro S H locs ls mc ms cu su v0 v1 v3 h hw hS hl hcu hsu
      exact absurd h (by unfold wb_X5_digest_115; exact id)
    | succ n115 ih115 =>
      have hB129 : ∀ (n129 : Nat) (S : bS) (H : Heap) (locs : List Loc) (ls : Array Slot) (mc ms cu su : Nat) (v0 : Nat) (v1 : Int64) (v3 : Int32) (v4 : Int32), wb_X5_digest_129 post xp (wb_X5_digest_115 post xp n115) n129 mc ms v0 v1 v3 v4 S → wd D y z S A H → va_S A s.heap H locs → lv_has ls 5 [(0, .ref v0), (1, .long v1), (3, .int v3), (4, .int v4)] → cu + mc ≤ MC → su + ms ≤ MS → W p l e R s m (([Value.ref this] : List Value).toArray) below meth c H locs cu su Q (F0 m 129 ls []) := by
        intro n129
        induction n129 with
        | zero =>
          intro S H locs ls mc ms cu su v0 v1 v3 v4 h hw hS hl hcu hsu
          exact absurd h (by unfold wb_X5_digest_129; exact id)
        | succ n129 ih129 =>
          intro S H locs ls mc ms cu su v0 v1 v3 v4 h hw hS hl hcu hsu
          unfold wb_X5_digest_129 at h
          refine lv_iload hx hb dX5_digest_129 (lv_at hl 3 rfl) ?_
          refine lv_bipush (v := (7 : Int32)) hx hb dX5_digest_131 (by decide) ?_
          refine lv_icmp_ge (tgt := 157) hx hb dX5_digest_133 (by decide) (fun hc => ?_) (fun hc => ?_)
          · have h := h.1 hc
            refine lv_iinc (v := (v3 + (1 : Int32))) hx hb dX5_digest_157 hl (k := 2) rfl rfl (by decide) rfl (fun ls hl => ?_)
            have hl : lv_has ls 5 [(3, .int (v3 + (1 : Int32))), (0, .ref v0), (1, .long v1), (4, .int v4)] := hl
            refine lv_goto (tgt := 115) hx hb dX5_digest_160 (by decide) ?_
            exact ih115 _ _ _ _ _ _ _ _ _ _ _ h hw hS (lv_sub hl [1, 2, 0] rfl) hcu hsu
          · have h := h.2 hc
            refine lv_lload_n hx hb dX5_digest_136 rfl (lv_at hl 1 rfl) ?_
            refine lv_ldc2 (v := (31 : Int64)) hx hb hown (hts (.constantLong RX5 256 (31 : Int64)) (by decide +kernel)) dX5_digest_137 ?_
            refine lv_lmul hx hb dX5_digest_140 ?_
            refine lv_aload_n hx hb dX5_digest_141 rfl (lv_at hl 0 rfl) ?_
            refine lv_iload_n hx hb dX5_digest_142 rfl (lv_at hl 2 rfl) ?_
            refine lv_iload hx hb dX5_digest_143 (lv_at hl 3 rfl) ?_
            obtain ⟨hk40, h⟩ := h
            obtain ⟨k43, n44, hbg1, hbg2, h⟩ := h
            have h1 := h
            refine vx_calli (vx_runV (As := [.int v3, .int v4]) (rest := [.long (v1 * (31 : Int64))]) ⟨hx, hb, hml, hown, hts⟩ (m_X5_carrier (l := l) hl0 h1) (cwV 2 hts gX5_digest_X5_carrier rfl rfl rfl (by decide +kernel) ⟨Nat.le_trans (Nat.le_of_ble_eq_true rfl) hRf, Nat.le_trans (Nat.le_of_ble_eq_true rfl) hRl⟩) (r_pV hB hw hS (ce_7 (S := S) hk40) rfl) rfl rfl hl.1 rfl (lv_room (Nat.le_of_ble_eq_true rfl)) dX5_digest_145 ⟨by omega, by omega⟩) hS (fun _ _ h => h) (fun _ h => h) (fun _ _ h => h) (fun E ce q9 S42 t H1 locs ht hal _ hq hz9 hk9 hS hq9 hvm9 hfc9 => by rw [hQ]; exact vx_out (fun x hx => (hex x hx).elim) hlocks hq9 hvm9 hfc9 (fun t9 ht9 _ => ⟨S42, trivial, ⟨hq.1, by rw [ht9, ← ht]; exact hq.2⟩, hS.F ht9⟩) hS.2.2 (by omega) (by omega)) (fun r41 S42 t H1 locs ht _ h hw1 _ _ hS => ?_)
            subst ht
            have hw : wd D y z S42 A t.heap := hw1
            clear hw1 h1
            have hcu : (cu + k43) + (mc - k43) ≤ MC := by omega
            have hsu : (su + n44) + (ms - n44) ≤ MS := by omega
            refine lv_i2l (v := (Int32.toInt64 r41)) hx hb dX5_digest_148 rfl ?_
            refine lv_ladd hx hb dX5_digest_149 ?_
            refine lv_lstore_n hx hb dX5_digest_150 rfl hl (by decide) rfl (fun ls hl => ?_)
            have hl : lv_has ls 5 [(1, .long ((v1 * (31 : Int64)) + (Int32.toInt64 r41))), (0, .ref v0), (3, .int v3), (4, .int v4)] := hl
            refine lv_iinc (v := (v4 + (1 : Int32))) hx hb dX5_digest_151 hl (k := 3) rfl rfl (by decide) rfl (fun ls hl => ?_)
            have hl : lv_has ls 5 [(4, .int (v4 + (1 : Int32))), (1, .long ((v1 * (31 : Int64)) + (Int32.toInt64 r41))), (0, .ref v0), (3, .int v3)] := hl
            refine lv_goto (tgt := 129) hx hb dX5_digest_154 (by decide) ?_
            exact ih129 _ _ _ _ _ _ _ _ _ _ _ _ h hw hS (lv_sub hl [2, 1, 3, 0] rfl) hcu hsu
      intro S H locs ls mc ms cu su v0 v1 v3 h hw hS hl hcu hsu
      unfold wb_X5_digest_115 at h
      refine lv_iload_n hx hb dX5_digest_115 rfl (lv_at hl 2 rfl) ?_
      refine lv_aload_n hx hb dX5_digest_116 rfl (lv_at hl 0 rfl) ?_
      obtain ⟨hk34, h⟩ := h
      obtain ⟨b35, hb36, h⟩ := h
      refine r_get (ci := 6) (v := .ref b35) (C := RX5) (T := TX5) (N := 6) hx hb hts hiX5 hown hK hw (ce_7 (S := S) hk34) rfl 2 (by decide) (hts (.fieldLink RX5 23 "TubePost" "carriers" "Ljava/util/ArrayList;") (by decide +kernel)) (fun _ h9 => h9) (congrArg (fun q => some (va_rf q)) hb36) dX5_digest_117 ?_
      obtain ⟨hk37, h⟩ := h
      have h1 := h
      refine va_calli (va_runV (As := []) (rest := [.int v3]) ⟨hx, hb, hml, hown, hts⟩ (m_Jx4a65c_size_8abf5 (l := l) h1) (cwV 0 hts gX5_digest_Jx4a65c_size_8abf5 rfl rfl rfl (by decide +kernel) ⟨Nat.le_trans (Nat.le_of_ble_eq_true rfl) hRf, Nat.le_trans (Nat.le_of_ble_eq_true rfl) hRl⟩) (r_pV hB hw hS (ce_1 (S := S) hk37) rfl) rfl rfl hl.1 rfl (lv_room (Nat.le_of_ble_eq_true rfl)) dX5_digest_120 ⟨by omega, by omega⟩) hS (fun _ _ h => h) (fun _ h => h) (fun r38 S39 t H1 locs ht _ h hw1 _ _ hS => ?_)
      subst ht
      have hw : wd D y z S39 A t.heap := hw1
      clear hw1 h1
      refine lv_icmp_ge (tgt := 163) hx hb dX5_digest_123 (by decide) (fun hc => ?_) (fun hc => ?_)
      · have h := h.1 hc
        refine lv_lload_n hx hb dX5_digest_163 rfl (lv_at hl 1 rfl) ?_
        exact hret v1 _ _ _ _ _ _ _ h hw hS (by omega) (by omega) dX5_digest_164
      · have h := h.2 hc
        refine lv_iconst (v := (0 : Int32)) hx hb dX5_digest_126 (by decide) ?_
        refine lv_istore hx hb dX5_digest_127 hl (by decide) rfl (fun ls hl => ?_)
        have hl : lv_has ls 5 [(4, .int (0 : Int32)), (0, .ref v0), (1, .long v1), (3, .int v3)] := hl
        obtain ⟨n129, h⟩ := h
        exact hB129 n129 _ _ _ _ _ _ _ _ _ _ _ _ h hw hS (lv_sub hl [1, 2, 3, 0] rfl) hcu hsu
  have hB62 : ∀ (n62 : Nat) (S : bS) (H : Heap) (locs : List Loc) (ls : Array Slot) (mc ms cu su : Nat) (v0 : Nat) (v1 : Int64) (v3 : Int32), wb_X5_digest_62 post xp n62 mc ms v0 v1 v3 S → wd D y z S A H → va_S A s.heap H locs → lv_has ls 5 [(0, .ref v0), (1, .long v1), (3, .int v3)] → cu + mc ≤ MC → su + ms ≤ MS → W p l e R s m (([Value.ref this] : List Value).toArray) below meth c H locs cu su Q (F0 m 62 ls []) := by
    intro n62
    induction n62 with
    | zero =>
      intro S H locs ls mc ms cu su v0 v1 v3 h hw hS hl hcu hsu
      exact absurd h (by unfold wb_X5_digest_62; exact id)
    | succ n62 ih62 =>
      have hB79 : ∀ (n79 : Nat) (S : bS) (H : Heap) (locs : List Loc) (ls : Array Slot) (mc ms cu su : Nat) (v0 : Nat) (v1 : Int64) (v3 : Int32) (v4 : Int32), wb_X5_digest_79 post xp (wb_X5_digest_62 post xp n62) n79 mc ms v0 v1 v3 v4 S → wd D y z S A H → va_S A s.heap H locs → lv_has ls 5 [(0, .ref v0), (1, .long v1), (3, .int v3), (4, .int v4)] → cu + mc ≤ MC → su + ms ≤ MS → W p l e R s m (([Value.ref this] : List Value).toArray) below meth c H locs cu su Q (F0 m 79 ls []) := by
        intro n79
        induction n79 with
        | zero =>
          intro S H locs ls mc ms cu su v0 v1 v3 v4 h hw hS hl hcu hsu
          exact absurd h (by unfold wb_X5_digest_79; exact id)
        | succ n79 ih79 =>
          intro S H locs ls mc ms cu su v0 v1 v3 v4 h hw hS hl hcu hsu
          unfold wb_X5_digest_79 at h
          refine lv_iload hx hb dX5_digest_79 (lv_at hl 3 rfl) ?_
          refine lv_bipush (v := (9 : Int32)) hx hb dX5_digest_81 (by decide) ?_
          refine lv_icmp_ge (tgt := 107) hx hb dX5_digest_83 (by decide) (fun hc => ?_) (fun hc => ?_)
          · have h := h.1 hc
            refine lv_iinc (v := (v3 + (1 : Int32))) hx hb dX5_digest_107 hl (k := 2) rfl rfl (by decide) rfl (fun ls hl => ?_)
            have hl : lv_has ls 5 [(3, .int (v3 + (1 : Int32))), (0, .ref v0), (1, .long v1), (4, .int v4)] := hl
            refine lv_goto (tgt := 62) hx hb dX5_digest_110 (by decide) ?_
            exact ih62 _ _ _ _ _ _ _ _ _ _ _ h hw hS (lv_sub hl [1, 2, 0] rfl) hcu hsu
          · have h := h.2 hc
            refine lv_lload_n hx hb dX5_digest_86 rfl (lv_at hl 1 rfl) ?_
            refine lv_ldc2 (v := (31 : Int64)) hx hb hown (hts (.constantLong RX5 256 (31 : Int64)) (by decide +kernel)) dX5_digest_87 ?_
            refine lv_lmul hx hb dX5_digest_90 ?_
            refine lv_aload_n hx hb dX5_digest_91 rfl (lv_at hl 0 rfl) ?_
            refine lv_iload_n hx hb dX5_digest_92 rfl (lv_at hl 2 rfl) ?_
            refine lv_iload hx hb dX5_digest_93 (lv_at hl 3 rfl) ?_
            obtain ⟨hk29, h⟩ := h
            obtain ⟨k32, n33, hbg1, hbg2, h⟩ := h
            have h1 := h
            refine vx_calli (vx_runV (As := [.int v3, .int v4]) (rest := [.long (v1 * (31 : Int64))]) ⟨hx, hb, hml, hown, hts⟩ (m_X5_tube (l := l) hl0 h1) (cwV 2 hts gX5_digest_X5_tube rfl rfl rfl (by decide +kernel) ⟨Nat.le_trans (Nat.le_of_ble_eq_true rfl) hRf, Nat.le_trans (Nat.le_of_ble_eq_true rfl) hRl⟩) (r_pV hB hw hS (ce_7 (S := S) hk29) rfl) rfl rfl hl.1 rfl (lv_room (Nat.le_of_ble_eq_true rfl)) dX5_digest_95 ⟨by omega, by omega⟩) hS (fun _ _ h => h) (fun _ h => h) (fun _ _ h => h) (fun E ce q9 S31 t H1 locs ht hal _ hq hz9 hk9 hS hq9 hvm9 hfc9 => by rw [hQ]; exact vx_out (fun x hx => (hex x hx).elim) hlocks hq9 hvm9 hfc9 (fun t9 ht9 _ => ⟨S31, trivial, ⟨hq.1, by rw [ht9, ← ht]; exact hq.2⟩, hS.F ht9⟩) hS.2.2 (by omega) (by omega)) (fun r30 S31 t H1 locs ht _ h hw1 _ _ hS => ?_)
            subst ht
            have hw : wd D y z S31 A t.heap := hw1
            clear hw1 h1
            have hcu : (cu + k32) + (mc - k32) ≤ MC := by omega
            have hsu : (su + n33) + (ms - n33) ≤ MS := by omega
            refine lv_i2l (v := (Int32.toInt64 r30)) hx hb dX5_digest_98 rfl ?_
            refine lv_ladd hx hb dX5_digest_99 ?_
            refine lv_lstore_n hx hb dX5_digest_100 rfl hl (by decide) rfl (fun ls hl => ?_)
            have hl : lv_has ls 5 [(1, .long ((v1 * (31 : Int64)) + (Int32.toInt64 r30))), (0, .ref v0), (3, .int v3), (4, .int v4)] := hl
            refine lv_iinc (v := (v4 + (1 : Int32))) hx hb dX5_digest_101 hl (k := 3) rfl rfl (by decide) rfl (fun ls hl => ?_)
            have hl : lv_has ls 5 [(4, .int (v4 + (1 : Int32))), (1, .long ((v1 * (31 : Int64)) + (Int32.toInt64 r30))), (0, .ref v0), (3, .int v3)] := hl
            refine lv_goto (tgt := 79) hx hb dX5_digest_104 (by decide) ?_
            exact ih79 _ _ _ _ _ _ _ _ _ _ _ _ h hw hS (lv_sub hl [2, 1, 3, 0] rfl) hcu hsu
      intro S H locs ls mc ms cu su v0 v1 v3 h hw hS hl hcu hsu
      unfold wb_X5_digest_62 at h
      refine lv_iload_n hx hb dX5_digest_62 rfl (lv_at hl 2 rfl) ?_
      refine lv_aload_n hx hb dX5_digest_63 rfl (lv_at hl 0 rfl) ?_
      obtain ⟨hk20, h⟩ := h
      obtain ⟨b21, hb22, h⟩ := h
      refine r_get (ci := 6) (v := .ref b21) (C := RX5) (T := TX5) (N := 6) hx hb hts hiX5 hown hK hw (ce_7 (S := S) hk20) rfl 0 (by decide) (hts (.fieldLink RX5 10 "TubePost" "net" "LTubePost$Net;") (by decide +kernel)) (fun _ h9 => h9) (congrArg (fun q => some (va_rf q)) hb22) dX5_digest_64 ?_
      obtain ⟨hk23, h⟩ := h
      obtain ⟨b24, hb25, h⟩ := h
      refine r_getN (ci := 3) (v := .ref b24) (C := RX2) (T := TX2) (N := 2) hx hb hts hiX2 hown hK hw (ce_4 (S := S) hk23) rfl 1 (by decide) (hNw _ (bNw_1)) (fun _ h9 => h9) (congrArg (fun q => some (va_rf q)) hb25) dX5_digest_67 ?_
      obtain ⟨hk26, h⟩ := h
      have h1 := h
      refine va_calli (va_runV (As := []) (rest := [.int v3]) ⟨hx, hb, hml, hown, hts⟩ (m_Jx4a65c_size_8abf5 (l := l) h1) (cwV 0 hts gX5_digest_Jx4a65c_size_8abf5 rfl rfl rfl (by decide +kernel) ⟨Nat.le_trans (Nat.le_of_ble_eq_true rfl) hRf, Nat.le_trans (Nat.le_of_ble_eq_true rfl) hRl⟩) (r_pV hB hw hS (ce_1 (S := S) hk26) rfl) rfl rfl hl.1 rfl (lv_room (Nat.le_of_ble_eq_true rfl)) dX5_digest_70 ⟨by omega, by omega⟩) hS (fun _ _ h => h) (fun _ h => h) (fun r27 S28 t H1 locs ht _ h hw1 _ _ hS => ?_)
      subst ht
      have hw : wd D y z S28 A t.heap := hw1
      clear hw1 h1
      refine lv_icmp_ge (tgt := 113) hx hb dX5_digest_73 (by decide) (fun hc => ?_) (fun hc => ?_)
      · have h := h.1 hc
        refine lv_iconst (v := (0 : Int32)) hx hb dX5_digest_113 (by decide) ?_
        refine lv_istore_n hx hb dX5_digest_114 rfl hl (by decide) rfl (fun ls hl => ?_)
        have hl : lv_has ls 5 [(3, .int (0 : Int32)), (0, .ref v0), (1, .long v1)] := hl
        obtain ⟨n115, h⟩ := h
        exact hB115 n115 _ _ _ _ _ _ _ _ _ _ _ h hw hS (lv_sub hl [1, 2, 0] rfl) hcu hsu
      · have h := h.2 hc
        refine lv_iconst (v := (0 : Int32)) hx hb dX5_digest_76 (by decide) ?_
        refine lv_istore hx hb dX5_digest_77 hl (by decide) rfl (fun ls hl => ?_)
        have hl : lv_has ls 5 [(4, .int (0 : Int32)), (0, .ref v0), (1, .long v1), (3, .int v3)] := hl
        obtain ⟨n79, h⟩ := h
        exact hB79 n79 _ _ _ _ _ _ _ _ _ _ _ _ h hw hS (lv_sub hl [1, 2, 3, 0] rfl) hcu hsu
  have hB33 : ∀ (n33 : Nat) (S : bS) (H : Heap) (locs : List Loc) (ls : Array Slot) (mc ms cu su : Nat) (v0 : Nat) (v1 : Int64) (v3 : Int32), wb_X5_digest_33 post xp n33 mc ms v0 v1 v3 S → wd D y z S A H → va_S A s.heap H locs → lv_has ls 5 [(0, .ref v0), (1, .long v1), (3, .int v3)] → cu + mc ≤ MC → su + ms ≤ MS → W p l e R s m (([Value.ref this] : List Value).toArray) below meth c H locs cu su Q (F0 m 33 ls []) := by
    intro n33
    induction n33 with
    | zero =>
      intro S H locs ls mc ms cu su v0 v1 v3 h hw hS hl hcu hsu
      exact absurd h (by unfold wb_X5_digest_33; exact id)
    | succ n33 ih33 =>
      intro S H locs ls mc ms cu su v0 v1 v3 h hw hS hl hcu hsu
      unfold wb_X5_digest_33 at h
      refine lv_iload_n hx hb dX5_digest_33 rfl (lv_at hl 2 rfl) ?_
      refine lv_aload_n hx hb dX5_digest_34 rfl (lv_at hl 0 rfl) ?_
      obtain ⟨hk6, h⟩ := h
      obtain ⟨b7, hb8, h⟩ := h
      refine r_get (ci := 6) (v := .ref b7) (C := RX5) (T := TX5) (N := 6) hx hb hts hiX5 hown hK hw (ce_7 (S := S) hk6) rfl 0 (by decide) (hts (.fieldLink RX5 10 "TubePost" "net" "LTubePost$Net;") (by decide +kernel)) (fun _ h9 => h9) (congrArg (fun q => some (va_rf q)) hb8) dX5_digest_35 ?_
      obtain ⟨hk9, h⟩ := h
      obtain ⟨b10, hb11, h⟩ := h
      refine r_getN (ci := 3) (v := .ref b10) (C := RX2) (T := TX2) (N := 2) hx hb hts hiX2 hown hK hw (ce_4 (S := S) hk9) rfl 0 (by decide) (hNw _ (bNw_0)) (fun _ h9 => h9) (congrArg (fun q => some (va_rf q)) hb11) dX5_digest_38 ?_
      obtain ⟨hk12, h⟩ := h
      have h1 := h
      refine va_calli (va_runV (As := []) (rest := [.int v3]) ⟨hx, hb, hml, hown, hts⟩ (m_Jx4a65c_size_8abf5 (l := l) h1) (cwV 0 hts gX5_digest_Jx4a65c_size_8abf5 rfl rfl rfl (by decide +kernel) ⟨Nat.le_trans (Nat.le_of_ble_eq_true rfl) hRf, Nat.le_trans (Nat.le_of_ble_eq_true rfl) hRl⟩) (r_pV hB hw hS (ce_1 (S := S) hk12) rfl) rfl rfl hl.1 rfl (lv_room (Nat.le_of_ble_eq_true rfl)) dX5_digest_41 ⟨by omega, by omega⟩) hS (fun _ _ h => h) (fun _ h => h) (fun r13 S14 t H1 locs ht _ h hw1 _ _ hS => ?_)
      subst ht
      have hw : wd D y z S14 A t.heap := hw1
      clear hw1 h1
      refine lv_icmp_ge (tgt := 60) hx hb dX5_digest_44 (by decide) (fun hc => ?_) (fun hc => ?_)
      · have h := h.1 hc
        refine lv_iconst (v := (0 : Int32)) hx hb dX5_digest_60 (by decide) ?_
        refine lv_istore_n hx hb dX5_digest_61 rfl hl (by decide) rfl (fun ls hl => ?_)
        have hl : lv_has ls 5 [(3, .int (0 : Int32)), (0, .ref v0), (1, .long v1)] := hl
        obtain ⟨n62, h⟩ := h
        exact hB62 n62 _ _ _ _ _ _ _ _ _ _ _ h hw hS (lv_sub hl [1, 2, 0] rfl) hcu hsu
      · have h := h.2 hc
        refine lv_aload_n hx hb dX5_digest_47 rfl (lv_at hl 0 rfl) ?_
        refine lv_lload_n hx hb dX5_digest_48 rfl (lv_at hl 1 rfl) ?_
        refine lv_iload_n hx hb dX5_digest_49 rfl (lv_at hl 2 rfl) ?_
        obtain ⟨hk15, h⟩ := h
        obtain ⟨k18, n19, hbg1, hbg2, h⟩ := h
        have h1 := h
        refine vx_calll (vx_runV (As := [.long v1, .int v3]) (rest := []) ⟨hx, hb, hml, hown, hts⟩ (m_X5_digestStation (l := l) hl0 h1) (cwV 2 hts gX5_digest_X5_digestStation rfl rfl rfl (by decide +kernel) ⟨Nat.le_trans (Nat.le_of_ble_eq_true rfl) hRf, Nat.le_trans (Nat.le_of_ble_eq_true rfl) hRl⟩) (r_pV hB hw hS (ce_7 (S := S14) hk15) rfl) rfl rfl hl.1 rfl (lv_room (Nat.le_of_ble_eq_true rfl)) dX5_digest_50 ⟨by omega, by omega⟩) hS (fun _ _ h => h) (fun _ h => h) (fun _ _ h => h) (fun E ce q9 S17 t H1 locs ht hal _ hq hz9 hk9 hS hq9 hvm9 hfc9 => by rw [hQ]; exact vx_out (fun x hx => (hex x hx).elim) hlocks hq9 hvm9 hfc9 (fun t9 ht9 _ => ⟨S17, trivial, ⟨hq.1, by rw [ht9, ← ht]; exact hq.2⟩, hS.F ht9⟩) hS.2.2 (by omega) (by omega)) (fun r16 S17 t H1 locs ht _ h hw1 _ _ hS => ?_)
        subst ht
        have hw : wd D y z S17 A t.heap := hw1
        clear hw1 h1
        have hcu : (cu + k18) + (mc - k18) ≤ MC := by omega
        have hsu : (su + n19) + (ms - n19) ≤ MS := by omega
        refine lv_lstore_n hx hb dX5_digest_53 rfl hl (by decide) rfl (fun ls hl => ?_)
        have hl : lv_has ls 5 [(1, .long r16), (0, .ref v0), (3, .int v3)] := hl
        refine lv_iinc (v := (v3 + (1 : Int32))) hx hb dX5_digest_54 hl (k := 2) rfl rfl (by decide) rfl (fun ls hl => ?_)
        have hl : lv_has ls 5 [(3, .int (v3 + (1 : Int32))), (1, .long r16), (0, .ref v0)] := hl
        refine lv_goto (tgt := 33) hx hb dX5_digest_57 (by decide) ?_
        exact ih33 _ _ _ _ _ _ _ _ _ _ _ h hw hS (lv_sub hl [2, 1, 0] rfl) hcu hsu
  have hB6 : ∀ (n6 : Nat) (S : bS) (H : Heap) (locs : List Loc) (ls : Array Slot) (mc ms cu su : Nat) (v0 : Nat) (v1 : Int64) (v3 : Int32), wb_X5_digest_6 post xp n6 mc ms v0 v1 v3 S → wd D y z S A H → va_S A s.heap H locs → lv_has ls 5 [(0, .ref v0), (1, .long v1), (3, .int v3)] → cu + mc ≤ MC → su + ms ≤ MS → W p l e R s m (([Value.ref this] : List Value).toArray) below meth c H locs cu su Q (F0 m 6 ls []) := by
    intro n6
    induction n6 with
    | zero =>
      intro S H locs ls mc ms cu su v0 v1 v3 h hw hS hl hcu hsu
      exact absurd h (by unfold wb_X5_digest_6; exact id)
    | succ n6 ih6 =>
      intro S H locs ls mc ms cu su v0 v1 v3 h hw hS hl hcu hsu
      unfold wb_X5_digest_6 at h
      refine lv_iload_n hx hb dX5_digest_6 rfl (lv_at hl 2 rfl) ?_
      refine lv_bipush (v := (9 : Int32)) hx hb dX5_digest_7 (by decide) ?_
      refine lv_icmp_ge (tgt := 31) hx hb dX5_digest_9 (by decide) (fun hc => ?_) (fun hc => ?_)
      · have h := h.1 hc
        refine lv_iconst (v := (0 : Int32)) hx hb dX5_digest_31 (by decide) ?_
        refine lv_istore_n hx hb dX5_digest_32 rfl hl (by decide) rfl (fun ls hl => ?_)
        have hl : lv_has ls 5 [(3, .int (0 : Int32)), (0, .ref v0), (1, .long v1)] := hl
        obtain ⟨n33, h⟩ := h
        exact hB33 n33 _ _ _ _ _ _ _ _ _ _ _ h hw hS (lv_sub hl [1, 2, 0] rfl) hcu hsu
      · have h := h.2 hc
        refine lv_lload_n hx hb dX5_digest_12 rfl (lv_at hl 1 rfl) ?_
        refine lv_ldc2 (v := (31 : Int64)) hx hb hown (hts (.constantLong RX5 256 (31 : Int64)) (by decide +kernel)) dX5_digest_13 ?_
        refine lv_lmul hx hb dX5_digest_16 ?_
        refine lv_aload_n hx hb dX5_digest_17 rfl (lv_at hl 0 rfl) ?_
        refine lv_iload_n hx hb dX5_digest_18 rfl (lv_at hl 2 rfl) ?_
        obtain ⟨hk1, h⟩ := h
        obtain ⟨k4, n5, hbg1, hbg2, h⟩ := h
        have h1 := h
        refine vx_calli (vx_runV (As := [.int v3]) (rest := [.long (v1 * (31 : Int64))]) ⟨hx, hb, hml, hown, hts⟩ (m_X5_count (l := l) hl0 h1) (cwV 1 hts gX5_digest_X5_count rfl rfl rfl (by decide +kernel) ⟨Nat.le_trans (Nat.le_of_ble_eq_true rfl) hRf, Nat.le_trans (Nat.le_of_ble_eq_true rfl) hRl⟩) (r_pV hB hw hS (ce_7 (S := S) hk1) rfl) rfl rfl hl.1 rfl (lv_room (Nat.le_of_ble_eq_true rfl)) dX5_digest_19 ⟨by omega, by omega⟩) hS (fun _ _ h => h) (fun _ h => h) (fun _ _ h => h) (fun E ce q9 S3 t H1 locs ht hal _ hq hz9 hk9 hS hq9 hvm9 hfc9 => by rw [hQ]; exact vx_out (fun x hx => (hex x hx).elim) hlocks hq9 hvm9 hfc9 (fun t9 ht9 _ => ⟨S3, trivial, ⟨hq.1, by rw [ht9, ← ht]; exact hq.2⟩, hS.F ht9⟩) hS.2.2 (by omega) (by omega)) (fun r2 S3 t H1 locs ht _ h hw1 _ _ hS => ?_)
        subst ht
        have hw : wd D y z S3 A t.heap := hw1
        clear hw1 h1
        have hcu : (cu + k4) + (mc - k4) ≤ MC := by omega
        have hsu : (su + n5) + (ms - n5) ≤ MS := by omega
        refine lv_i2l (v := (Int32.toInt64 r2)) hx hb dX5_digest_22 rfl ?_
        refine lv_ladd hx hb dX5_digest_23 ?_
        refine lv_lstore_n hx hb dX5_digest_24 rfl hl (by decide) rfl (fun ls hl => ?_)
        have hl : lv_has ls 5 [(1, .long ((v1 * (31 : Int64)) + (Int32.toInt64 r2))), (0, .ref v0), (3, .int v3)] := hl
        refine lv_iinc (v := (v3 + (1 : Int32))) hx hb dX5_digest_25 hl (k := 2) rfl rfl (by decide) rfl (fun ls hl => ?_)
        have hl : lv_has ls 5 [(3, .int (v3 + (1 : Int32))), (1, .long ((v1 * (31 : Int64)) + (Int32.toInt64 r2))), (0, .ref v0)] := hl
        refine lv_goto (tgt := 6) hx hb dX5_digest_28 (by decide) ?_
        exact ih6 _ _ _ _ _ _ _ _ _ _ _ h hw hS (lv_sub hl [2, 1, 0] rfl) hcu hsu
  unfold wp_X5_digest at h
  have hcu : 0 + MC ≤ MC := by omega
  have hsu : 0 + MS ≤ MS := by omega
  refine lv_ldc2 (v := (457 : Int64)) hx hb hown (hts (.constantLong RX5 254 (457 : Int64)) (by decide +kernel)) dX5_digest_0 ?_
  refine lv_lstore_n hx hb dX5_digest_3 rfl hl (by decide) rfl (fun ls hl => ?_)
  have hl : lv_has ls 5 [(1, .long (457 : Int64)), (0, .ref this)] := hl
  refine lv_iconst (v := (0 : Int32)) hx hb dX5_digest_4 (by decide) ?_
  refine lv_istore_n hx hb dX5_digest_5 rfl hl (by decide) rfl (fun ls hl => ?_)
  have hl : lv_has ls 5 [(3, .int (0 : Int32)), (1, .long (457 : Int64)), (0, .ref this)] := hl
  obtain ⟨n6, h⟩ := h
  exact hB6 n6 _ _ _ _ _ _ _ _ _ _ _ h hw hS (lv_sub hl [2, 1, 0] rfl) hcu hsu
