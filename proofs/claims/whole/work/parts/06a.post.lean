def wp_X0_init (post : bS → Prop) (this : Nat) (p1 : Int32) (p2 : Nat) (p3 : Int32) (p4 : Int32) (S : bS) : Prop := gK S this = 2 ∧ (post (sV (sV (sV (sV (sV (sV (sV (sQ (sV S 2 this 0 p1) 2 this 1 (some p2)) 2 this 2 p3) 2 this 3 p4) 2 this 4 (1 : Int32)) 2 this 5 (0 : Int32)) 2 this 6 p4) 2 this 7 (0 : Int32)) 2 this 8 (0 : Int32)))
set_option maxHeartbeats 4000000 in
set_option maxRecDepth 100000 in
theorem m_X0_init {l : Launch} {D : va_G} {y : Nat → ClassId} {z : Nat} {A : Nat → Prop} {S : bS} {post : bS → Prop} {this : Nat} {p1 : Int32} {p2 : Nat} {p3 : Int32} {p4 : Int32} (h : wp_X0_init post this p1 p2 p3 p4 S) : Met l yX0_init wsX0_init ({ frames := 1, cells := 0, slots := 0, locals := 20 } : Room) (va_Pc ([Value.ref this, Value.int p1, Value.ref p2, Value.int p3, Value.int p4] : List Value) (bP D y z S A)) (va_Qv post (fun S' t => wd D y z S' A t.heap) A) 0 0 A := by
  refine Met.ofW (cc := cX0_init) (maxL := 5) (ret := none) (by decide) rfl ?_
  intro p e s m args below meth c s₁ B hml hv
  obtain ⟨rfl, hB⟩ := hv
  have hx := B.exec
  have hb := B.bytes
  have hr := B.returns
  have hts := atoms_spec (ws := wsX0_init) B.pre
  have hown : s.vm.findClass RX0 = some m.cls := findClass_of_methodNamed B.named
  have hlocks := B.notSynchronized
  have hin : meth.name = "<init>" := (name_of_methodNamed B.named B.method).1
  have hw : wd D y z S A s.heap := hB.1
  have hK : va_K D bCl (bT y) s := hB.2.1
  have hNw := hB.2.2.1
  have hAn : ∀ q : Nat, s.heap.size ≤ q → A q := hB.2.2.2.1
  have hAz : ¬ A z := hB.2.2.2.2.1
  have hO := hB.2.2.2.2.2.1
  have hS : va_S A s.heap s.heap [] := va_S.rf
  have hiX0 : ∀ w ∈ u_ws RX0 TX0 9, w ∈ wsX0_init := by decide +kernel
  have hl := lv_entry ([Value.ref this, Value.int p1, Value.ref p2, Value.int p3, Value.int p4] : List Value) (n := 5) (Nat.le_of_ble_eq_true rfl)
  rw [lg_entry_eq]
  generalize (lg_sl ([Value.ref this, Value.int p1, Value.ref p2, Value.int p3, Value.int p4] : List Value) ++ List.replicate (5 - (lg_sl ([Value.ref this, Value.int p1, Value.ref p2, Value.int p3, Value.int p4] : List Value)).length) Slot.unset).toArray = ls at hl ⊢
  have hl : lv_has ls 5 [(0, .ref this), (1, .int p1), (2, .ref p2), (3, .int p3), (4, .int p4)] := hl
  obtain ⟨Q, hQ⟩ : ∃ Q, Q = MQ below (va_Qv post (fun S' t => wd D y z S' A t.heap) A) (([Value.ref this, Value.int p1, Value.ref p2, Value.int p3, Value.int p4] : List Value).toArray) s 0 0 A := ⟨_, rfl⟩
  rw [← hQ]
  generalize hR : (headSpec wsX0_init ({ frames := 1, cells := 0, slots := 0, locals := 20 } : Room)).room = R
  have hRf : 1 ≤ R.frames := by rw [← hR]; exact Nat.le_refl _
  have hRl : 20 ≤ R.locals := by rw [← hR]; exact Nat.le_refl _
  have hret : ∀ (S : bS) (H : Heap) (locs : List Loc) (pc : Nat) (ls : Array Slot) , post S → wd D y z S A H → va_S A s.heap H locs → decode cX0_init pc = .ok (.return_, 1) → W p l e R s m (([Value.ref this, Value.int p1, Value.ref p2, Value.int p3, Value.int p4] : List Value).toArray) below meth c H locs 0 0 Q (F0 m pc ls []) := by
    intro S H locs pc ls h hw hS d0
    rw [hQ]; exact W.vret hx hb hr (fun t ht hW => ⟨⟨S, rfl, h, by show wd D y z S A t.heap; rw [ht]; exact hw⟩, hS.F ht⟩) hS.2.2 d0 hlocks
  unfold wp_X0_init at h
  refine lv_aload_n hx hb dX0_init_0 rfl (lv_at hl 0 rfl) ?_
  refine W.objInit hx hb hown (hts (.methodLink RX0 3 objectInit) (by decide +kernel)) (hts (.instanceMethod objectInit) (by decide +kernel)) (hts (.code objectInit ⟨#[0xb1]⟩ 1 none) (by decide +kernel)) rfl (by rw [hml]; exact hl.1) rfl dX0_init_1 (Nat.le_trans (Nat.le_of_ble_eq_true rfl) hRf) (Nat.le_trans (Nat.le_of_ble_eq_true rfl) hRl) ?_
  refine W.eq (g2 := F0 m 4 ls []) rfl ?_
  refine lv_aload_n hx hb dX0_init_4 rfl (lv_at hl 0 rfl) ?_
  refine lv_iload_n hx hb dX0_init_5 rfl (lv_at hl 1 rfl) ?_
  obtain ⟨hk1, h⟩ := h
  refine r_putIF (κ := 2) (ci := 1) (C := RX0) (T := TX0) (N := 9) (ty := .int) (x := p1) hx hb hts hiX0 tyX0 tyX0_ok nmX0 hown hK hw hS (ce_2 (S := S) hk1) rfl 0 (by decide) (hts (.fieldLink RX0 9 "TubePost$Carrier" "number" "I") (by decide +kernel)) (fun _ h9 => h9) rfl hin rfl (by decide +kernel) rfl rfl (Nat.le_of_ble_eq_true rfl) (pu_2_0 (S := S) hk1) dX0_init_6 (fun H locs hw hS => ?_)
  refine lv_aload_n hx hb dX0_init_9 rfl (lv_at hl 0 rfl) ?_
  refine lv_aload_n hx hb dX0_init_10 rfl (lv_at hl 2 rfl) ?_
  refine r_putQF (κ := 2) (ci := 1) (C := RX0) (T := TX0) (N := 9) (ty := (tyX0 1)) (x := (some p2)) hx hb hts hiX0 tyX0 tyX0_ok nmX0 hown hK hw hS (ce_2 (S := (sV S 2 this 0 p1)) hk1) rfl 1 (by decide) (hts (.fieldLink RX0 15 "TubePost$Carrier" "aim" "LTubePost$Station;") (by decide +kernel)) (fun _ h9 => h9) rfl hin rfl (by decide +kernel) rfl rfl (Nat.le_of_ble_eq_true rfl) (pu_2_1 (S := (sV S 2 this 0 p1)) hk1) dX0_init_11 (fun H locs hw hS => ?_)
  refine lv_aload_n hx hb dX0_init_14 rfl (lv_at hl 0 rfl) ?_
  refine lv_iload_n hx hb dX0_init_15 rfl (lv_at hl 3 rfl) ?_
  refine r_putIF (κ := 2) (ci := 1) (C := RX0) (T := TX0) (N := 9) (ty := .int) (x := p3) hx hb hts hiX0 tyX0 tyX0_ok nmX0 hown hK hw hS (ce_2 (S := (sQ (sV S 2 this 0 p1) 2 this 1 (some p2))) hk1) rfl 2 (by decide) (hts (.fieldLink RX0 19 "TubePost$Carrier" "rank" "I") (by decide +kernel)) (fun _ h9 => h9) rfl hin rfl (by decide +kernel) rfl rfl (Nat.le_of_ble_eq_true rfl) (pu_2_2 (S := (sQ (sV S 2 this 0 p1) 2 this 1 (some p2))) hk1) dX0_init_16 (fun H locs hw hS => ?_)
  refine lv_aload_n hx hb dX0_init_19 rfl (lv_at hl 0 rfl) ?_
  refine lv_iload hx hb dX0_init_20 (lv_at hl 4 rfl) ?_
  refine r_putIF (κ := 2) (ci := 1) (C := RX0) (T := TX0) (N := 9) (ty := .int) (x := p4) hx hb hts hiX0 tyX0 tyX0_ok nmX0 hown hK hw hS (ce_2 (S := (sV (sQ (sV S 2 this 0 p1) 2 this 1 (some p2)) 2 this 2 p3)) hk1) rfl 3 (by decide) (hts (.fieldLink RX0 22 "TubePost$Carrier" "sentAt" "I") (by decide +kernel)) (fun _ h9 => h9) rfl hin rfl (by decide +kernel) rfl rfl (Nat.le_of_ble_eq_true rfl) (pu_2_3 (S := (sV (sQ (sV S 2 this 0 p1) 2 this 1 (some p2)) 2 this 2 p3)) hk1) dX0_init_22 (fun H locs hw hS => ?_)
  refine lv_aload_n hx hb dX0_init_25 rfl (lv_at hl 0 rfl) ?_
  refine lv_iconst (v := (1 : Int32)) hx hb dX0_init_26 (by decide) ?_
  refine r_putI (κ := 2) (ci := 1) (C := RX0) (T := TX0) (N := 9) (ty := .int) (x := (1 : Int32)) hx hb hts hiX0 tyX0 tyX0_ok nmX0 hown hK hw hS (ce_2 (S := (sV (sV (sQ (sV S 2 this 0 p1) 2 this 1 (some p2)) 2 this 2 p3) 2 this 3 p4)) hk1) rfl 4 (by decide) (hts (.fieldLink RX0 25 "TubePost$Carrier" "state" "I") (by decide +kernel)) (fun _ h9 => h9) rfl (by decide +kernel) rfl rfl (Nat.le_of_ble_eq_true rfl) (pu_2_4 (S := (sV (sV (sQ (sV S 2 this 0 p1) 2 this 1 (some p2)) 2 this 2 p3) 2 this 3 p4)) hk1) dX0_init_27 (fun H locs hw hS => ?_)
  refine lv_aload_n hx hb dX0_init_30 rfl (lv_at hl 0 rfl) ?_
  refine lv_iconst (v := (0 : Int32)) hx hb dX0_init_31 (by decide) ?_
  refine r_putI (κ := 2) (ci := 1) (C := RX0) (T := TX0) (N := 9) (ty := .int) (x := (0 : Int32)) hx hb hts hiX0 tyX0 tyX0_ok nmX0 hown hK hw hS (ce_2 (S := (sV (sV (sV (sQ (sV S 2 this 0 p1) 2 this 1 (some p2)) 2 this 2 p3) 2 this 3 p4) 2 this 4 (1 : Int32))) hk1) rfl 5 (by decide) (hts (.fieldLink RX0 28 "TubePost$Carrier" "place" "I") (by decide +kernel)) (fun _ h9 => h9) rfl (by decide +kernel) rfl rfl (Nat.le_of_ble_eq_true rfl) (pu_2_5 (S := (sV (sV (sV (sQ (sV S 2 this 0 p1) 2 this 1 (some p2)) 2 this 2 p3) 2 this 3 p4) 2 this 4 (1 : Int32))) hk1) dX0_init_32 (fun H locs hw hS => ?_)
  refine lv_aload_n hx hb dX0_init_35 rfl (lv_at hl 0 rfl) ?_
  refine lv_iload hx hb dX0_init_36 (lv_at hl 4 rfl) ?_
  refine r_putI (κ := 2) (ci := 1) (C := RX0) (T := TX0) (N := 9) (ty := .int) (x := p4) hx hb hts hiX0 tyX0 tyX0_ok nmX0 hown hK hw hS (ce_2 (S := (sV (sV (sV (sV (sQ (sV S 2 this 0 p1) 2 this 1 (some p2)) 2 this 2 p3) 2 this 3 p4) 2 this 4 (1 : Int32)) 2 this 5 (0 : Int32))) hk1) rfl 6 (by decide) (hts (.fieldLink RX0 31 "TubePost$Carrier" "since" "I") (by decide +kernel)) (fun _ h9 => h9) rfl (by decide +kernel) rfl rfl (Nat.le_of_ble_eq_true rfl) (pu_2_6 (S := (sV (sV (sV (sV (sQ (sV S 2 this 0 p1) 2 this 1 (some p2)) 2 this 2 p3) 2 this 3 p4) 2 this 4 (1 : Int32)) 2 this 5 (0 : Int32))) hk1) dX0_init_38 (fun H locs hw hS => ?_)
  refine lv_aload_n hx hb dX0_init_41 rfl (lv_at hl 0 rfl) ?_
  refine lv_iconst (v := (0 : Int32)) hx hb dX0_init_42 (by decide) ?_
  refine r_putI (κ := 2) (ci := 1) (C := RX0) (T := TX0) (N := 9) (ty := .int) (x := (0 : Int32)) hx hb hts hiX0 tyX0 tyX0_ok nmX0 hown hK hw hS (ce_2 (S := (sV (sV (sV (sV (sV (sQ (sV S 2 this 0 p1) 2 this 1 (some p2)) 2 this 2 p3) 2 this 3 p4) 2 this 4 (1 : Int32)) 2 this 5 (0 : Int32)) 2 this 6 p4)) hk1) rfl 7 (by decide) (hts (.fieldLink RX0 34 "TubePost$Carrier" "timeInTube" "I") (by decide +kernel)) (fun _ h9 => h9) rfl (by decide +kernel) rfl rfl (Nat.le_of_ble_eq_true rfl) (pu_2_7 (S := (sV (sV (sV (sV (sV (sQ (sV S 2 this 0 p1) 2 this 1 (some p2)) 2 this 2 p3) 2 this 3 p4) 2 this 4 (1 : Int32)) 2 this 5 (0 : Int32)) 2 this 6 p4)) hk1) dX0_init_43 (fun H locs hw hS => ?_)
  refine lv_aload_n hx hb dX0_init_46 rfl (lv_at hl 0 rfl) ?_
  refine lv_iconst (v := (0 : Int32)) hx hb dX0_init_47 (by decide) ?_
  refine r_putI (κ := 2) (ci := 1) (C := RX0) (T := TX0) (N := 9) (ty := .int) (x := (0 : Int32)) hx hb hts hiX0 tyX0 tyX0_ok nmX0 hown hK hw hS (ce_2 (S := (sV (sV (sV (sV (sV (sV (sQ (sV S 2 this 0 p1) 2 this 1 (some p2)) 2 this 2 p3) 2 this 3 p4) 2 this 4 (1 : Int32)) 2 this 5 (0 : Int32)) 2 this 6 p4) 2 this 7 (0 : Int32))) hk1) rfl 8 (by decide) (hts (.fieldLink RX0 37 "TubePost$Carrier" "tubesEntered" "I") (by decide +kernel)) (fun _ h9 => h9) rfl (by decide +kernel) rfl rfl (Nat.le_of_ble_eq_true rfl) (pu_2_8 (S := (sV (sV (sV (sV (sV (sV (sQ (sV S 2 this 0 p1) 2 this 1 (some p2)) 2 this 2 p3) 2 this 3 p4) 2 this 4 (1 : Int32)) 2 this 5 (0 : Int32)) 2 this 6 p4) 2 this 7 (0 : Int32))) hk1) dX0_init_48 (fun H locs hw hS => ?_)
  exact hret _ _ _ _ _ h hw hS dX0_init_51
def wb_X3_lineUp_41 (post : bS → Prop) (mc ms : Nat) (v0 : Nat) (v1 : Nat) (v2 : Int32) (S : bS) : Prop := gK S v0 = 5 ∧ (∃ b18, gQ S 5 v0 4 = some b18 ∧ (gK S b18 = 1 ∧ (∃ k23 n24, k23 ≤ mc ∧ n24 ≤ ms ∧ (wp_Jx4a65c_add_7a177 (fun S22 => post S22) k23 n24 b18 v2 v1 S))))
def wb_X3_lineUp_8 (post : bS → Prop) : Nat → Nat → Nat → Nat → Nat → Int32 → bS → Prop
  | 0, _, _, _, _, _, _ => False
  | n + 1, mc, ms, v0, v1, v2, S => (v2 ≤ (0 : Int32) → wb_X3_lineUp_41 post mc ms v0 v1 v2 S) ∧ (¬ (v2 ≤ (0 : Int32)) → gK S v0 = 5 ∧ (∃ b8, gQ S 5 v0 4 = some b8 ∧ (gK S b8 = 1 ∧ (wp_Jx4a65c_get_915e3 (fun r11 S12 => ∃ b13, r11 = some b13 ∧ (gK S12 b13 = 2 ∧ (gK S12 v1 = 2 ∧ (((gV S12 2 v1 2) ≤ (gV S12 2 b13 2) → wb_X3_lineUp_41 post mc ms v0 v1 v2 S12) ∧ (¬ ((gV S12 2 v1 2) ≤ (gV S12 2 b13 2)) → (wb_X3_lineUp_8 post n) mc ms v0 v1 (v2 + (-1 : Int32)) S12))))) b8 (v2 - (1 : Int32)) S))))
def wp_X3_lineUp (post : bS → Prop) (MC MS : Nat) (this : Nat) (p1 : Nat) (S : bS) : Prop := gK S this = 5 ∧ (∃ b2, gQ S 5 this 4 = some b2 ∧ (gK S b2 = 1 ∧ (wp_Jx4a65c_size_8abf5 (fun r5 S6 => ∃ n8, wb_X3_lineUp_8 post n8 MC MS this p1 r5 S6) b2 S)))
set_option maxHeartbeats 4000000 in
set_option maxRecDepth 100000 in
theorem m_X3_lineUp {l : Launch} {D : va_G} {y : Nat → ClassId} {z : Nat} {A : Nat → Prop} {S : bS} {post : bS → Prop} {MC MS : Nat} {this : Nat} {p1 : Nat} (h : wp_X3_lineUp post MC MS this p1 S) : Met l yX3_lineUp wsX3_lineUp ({ frames := 6, cells := MC, slots := MS, locals := 171 } : Room) (va_Pc ([Value.ref this, Value.ref p1] : List Value) (bP D y z S A)) (va_Qv post (fun S' t => wd D y z S' A t.heap) A) MC MS A := by
  refine Met.ofW (cc := cX3_lineUp) (maxL := 3) (ret := none) (by decide) rfl ?_
  intro p e s m args below meth c s₁ B hml hv
  obtain ⟨rfl, hB⟩ := hv
  have hx := B.exec
  have hb := B.bytes
  have hr := B.returns
  have hts := atoms_spec (ws := wsX3_lineUp) B.pre
  have hown : s.vm.findClass RX3 = some m.cls := findClass_of_methodNamed B.named
  have hlocks := B.notSynchronized
  have hw : wd D y z S A s.heap := hB.1
  have hK : va_K D bCl (bT y) s := hB.2.1
  have hNw := hB.2.2.1
  have hAn : ∀ q : Nat, s.heap.size ≤ q → A q := hB.2.2.2.1
  have hAz : ¬ A z := hB.2.2.2.2.1
  have hO := hB.2.2.2.2.2.1
  have hS : va_S A s.heap s.heap [] := va_S.rf
  have hiX0 : ∀ w ∈ u_ws RX0 TX0 9, w ∈ wsX3_lineUp := by decide +kernel
  have hiX3 : ∀ w ∈ u_ws RX3 TX3 7, w ∈ wsX3_lineUp := by decide +kernel
  have hl := lv_entry ([Value.ref this, Value.ref p1] : List Value) (n := 3) (Nat.le_of_ble_eq_true rfl)
  rw [lg_entry_eq]
  generalize (lg_sl ([Value.ref this, Value.ref p1] : List Value) ++ List.replicate (3 - (lg_sl ([Value.ref this, Value.ref p1] : List Value)).length) Slot.unset).toArray = ls at hl ⊢
  have hl : lv_has ls 3 [(0, .ref this), (1, .ref p1)] := hl
  obtain ⟨Q, hQ⟩ : ∃ Q, Q = MQ below (va_Qv post (fun S' t => wd D y z S' A t.heap) A) (([Value.ref this, Value.ref p1] : List Value).toArray) s MC MS A := ⟨_, rfl⟩
  rw [← hQ]
  generalize hR : (headSpec wsX3_lineUp ({ frames := 6, cells := MC, slots := MS, locals := 171 } : Room)).room = R
  have hRf : 6 ≤ R.frames := by rw [← hR]; exact Nat.le_refl _
  have hRl : 171 ≤ R.locals := by rw [← hR]; exact Nat.le_refl _
  have hRc : R.cells = MC := by rw [← hR]; rfl
  have hRs : R.slots = MS := by rw [← hR]; rfl
  have hret : ∀ (S : bS) (H : Heap) (locs : List Loc) (pc : Nat) (ls : Array Slot) (cu su : Nat) , post S → wd D y z S A H → va_S A s.heap H locs → cu ≤ MC → su ≤ MS → decode cX3_lineUp pc = .ok (.return_, 1) → W p l e R s m (([Value.ref this, Value.ref p1] : List Value).toArray) below meth c H locs cu su Q (F0 m pc ls []) := by
    intro S H locs pc ls cu su h hw hS hcu hsu d0
    rw [hQ]; refine W.widen hcu hsu ?_; exact W.vret hx hb hr (fun t ht hW => ⟨⟨S, rfl, h, by show wd D y z S A t.heap; rw [ht]; exact hw⟩, hS.F ht⟩) hS.2.2 d0 hlocks
  have hB41 : ∀ (S : bS) (H : Heap) (locs : List Loc) (ls : Array Slot) (mc ms cu su : Nat) (v0 : Nat) (v1 : Nat) (v2 : Int32), wb_X3_lineUp_41 post mc ms v0 v1 v2 S → wd D y z S A H → va_S A s.heap H locs → lv_has ls 3 [(0, .ref v0), (1, .ref v1), (2, .int v2)] → cu + mc ≤ MC → su + ms ≤ MS → W p l e R s m (([Value.ref this, Value.ref p1] : List Value).toArray) below meth c H locs cu su Q (F0 m 41 ls []) := by
    intro S H locs ls mc ms cu su v0 v1 v2 h hw hS hl hcu hsu
    unfold wb_X3_lineUp_41 at h
    refine lv_aload_n hx hb dX3_lineUp_41 rfl (lv_at hl 0 rfl) ?_
    obtain ⟨hk17, h⟩ := h
    obtain ⟨b18, hb19, h⟩ := h
    refine r_get (ci := 4) (v := .ref b18) (C := RX3) (T := TX3) (N := 7) hx hb hts hiX3 hown hK hw (ce_5 (S := S) hk17) rfl 4 (by decide) (hts (.fieldLink RX3 28 "TubePost$Station" "line" "Ljava/util/ArrayList;") (by decide +kernel)) (fun _ h9 => h9) (congrArg (fun q => some (va_rf q)) hb19) dX3_lineUp_42 ?_
    refine lv_iload_n hx hb dX3_lineUp_45 rfl (lv_at hl 2 rfl) ?_
    refine lv_aload_n hx hb dX3_lineUp_46 rfl (lv_at hl 1 rfl) ?_
    obtain ⟨hk20, h⟩ := h
    obtain ⟨k23, n24, hbg1, hbg2, h⟩ := h
    have h1 := h
    refine va_callv (va_runV (As := [.int v2, .ref v1]) (rest := []) ⟨hx, hb, hml, hown, hts⟩ (m_Jx4a65c_add_7a177 (l := l) h1) (cwV 2 hts gX3_lineUp_Jx4a65c_add_7a177 rfl rfl rfl (by decide +kernel) ⟨Nat.le_trans (Nat.le_of_ble_eq_true rfl) hRf, Nat.le_trans (Nat.le_of_ble_eq_true rfl) hRl⟩) (r_pV hB hw hS (ce_1 (S := S) hk20) rfl) rfl rfl hl.1 rfl (lv_room (Nat.le_of_ble_eq_true rfl)) dX3_lineUp_47 ⟨by omega, by omega⟩) hS (fun _ _ h => h) (fun _ h => h) (fun S22 t H1 locs ht _ h hw1 _ _ hS => ?_)
    subst ht
    have hw : wd D y z S22 A t.heap := hw1
    clear hw1 h1
    have hcu : (cu + k23) + (mc - k23) ≤ MC := by omega
    have hsu : (su + n24) + (ms - n24) ≤ MS := by omega
    exact hret _ _ _ _ _ _ _ h hw hS (by omega) (by omega) dX3_lineUp_50
  have hB8 : ∀ (n8 : Nat) (S : bS) (H : Heap) (locs : List Loc) (ls : Array Slot) (mc ms cu su : Nat) (v0 : Nat) (v1 : Nat) (v2 : Int32), wb_X3_lineUp_8 post n8 mc ms v0 v1 v2 S → wd D y z S A H → va_S A s.heap H locs → lv_has ls 3 [(0, .ref v0), (1, .ref v1), (2, .int v2)] → cu + mc ≤ MC → su + ms ≤ MS → W p l e R s m (([Value.ref this, Value.ref p1] : List Value).toArray) below meth c H locs cu su Q (F0 m 8 ls []) := by
    intro n8
    induction n8 with
    | zero =>
      intro S H locs ls mc ms cu su v0 v1 v2 h hw hS hl hcu hsu
      exact absurd h (by unfold wb_X3_lineUp_8; exact id)
    | succ n8 ih8 =>
      intro S H locs ls mc ms cu su v0 v1 v2 h hw hS hl hcu hsu
      unfold wb_X3_lineUp_8 at h
      refine lv_iload_n hx hb dX3_lineUp_8 rfl (lv_at hl 2 rfl) ?_
      refine lv_if_le (tgt := 41) hx hb dX3_lineUp_9 (by decide) (fun hc => ?_) (fun hc => ?_)
      · have h := h.1 hc
        exact hB41 _ _ _ _ _ _ _ _ _ _ _ h hw hS (lv_sub hl [0, 1, 2] rfl) hcu hsu
      · have h := h.2 hc
        refine lv_aload_n hx hb dX3_lineUp_12 rfl (lv_at hl 0 rfl) ?_
        obtain ⟨hk7, h⟩ := h
        obtain ⟨b8, hb9, h⟩ := h
        refine r_get (ci := 4) (v := .ref b8) (C := RX3) (T := TX3) (N := 7) hx hb hts hiX3 hown hK hw (ce_5 (S := S) hk7) rfl 4 (by decide) (hts (.fieldLink RX3 28 "TubePost$Station" "line" "Ljava/util/ArrayList;") (by decide +kernel)) (fun _ h9 => h9) (congrArg (fun q => some (va_rf q)) hb9) dX3_lineUp_13 ?_
        refine lv_iload_n hx hb dX3_lineUp_16 rfl (lv_at hl 2 rfl) ?_
        refine lv_iconst (v := (1 : Int32)) hx hb dX3_lineUp_17 (by decide) ?_
        refine lv_isub hx hb dX3_lineUp_18 ?_
        obtain ⟨hk10, h⟩ := h
        have h1 := h
        refine va_callq (va_runV (As := [.int (v2 - (1 : Int32))]) (rest := []) ⟨hx, hb, hml, hown, hts⟩ (m_Jx4a65c_get_915e3 (l := l) h1) (cwV 1 hts gX3_lineUp_Jx4a65c_get_915e3 rfl rfl rfl (by decide +kernel) ⟨Nat.le_trans (Nat.le_of_ble_eq_true rfl) hRf, Nat.le_trans (Nat.le_of_ble_eq_true rfl) hRl⟩) (r_pV hB hw hS (ce_1 (S := S) hk10) rfl) rfl rfl hl.1 rfl (lv_room (Nat.le_of_ble_eq_true rfl)) dX3_lineUp_19 ⟨by omega, by omega⟩) hS (fun _ _ h => h) (fun _ h => h) (fun r11 S12 t H1 locs ht _ h hw1 _ _ hS => ?_)
        subst ht
        have hw : wd D y z S12 A t.heap := hw1
        clear hw1 h1
        obtain ⟨b13, rfl, h⟩ := h
        refine W.eq (g2 := F0 m 22 ls [.ref b13]) rfl ?_
        obtain ⟨hk15, h⟩ := h
        refine r_cast hx hb hown (hts (.classLink RX3 45 "TubePost$Carrier") (by decide +kernel)) hK hw (ce_2 hk15) rfl dX3_lineUp_22 ?_
        refine r_getN (ci := 1) (v := .int (gV S12 2 b13 2)) (C := RX0) (T := TX0) (N := 9) hx hb hts hiX0 hown hK hw (ce_2 (S := S12) hk15) rfl 2 (by decide) (hNw _ (bNw_43)) (fun _ h9 => h9) rfl dX3_lineUp_25 ?_
        refine lv_aload_n hx hb dX3_lineUp_28 rfl (lv_at hl 1 rfl) ?_
        obtain ⟨hk16, h⟩ := h
        refine r_getN (ci := 1) (v := .int (gV S12 2 v1 2)) (C := RX0) (T := TX0) (N := 9) hx hb hts hiX0 hown hK hw (ce_2 (S := S12) hk16) rfl 2 (by decide) (hNw _ (bNw_43)) (fun _ h9 => h9) rfl dX3_lineUp_29 ?_
        refine lv_icmp_ge (tgt := 41) hx hb dX3_lineUp_32 (by decide) (fun hc => ?_) (fun hc => ?_)
        · have h := h.1 hc
          exact hB41 _ _ _ _ _ _ _ _ _ _ _ h hw hS (lv_sub hl [0, 1, 2] rfl) hcu hsu
        · have h := h.2 hc
          refine lv_iinc (v := (v2 + (-1 : Int32))) hx hb dX3_lineUp_35 hl (k := 2) rfl rfl (by decide) rfl (fun ls hl => ?_)
          have hl : lv_has ls 3 [(2, .int (v2 + (-1 : Int32))), (0, .ref v0), (1, .ref v1)] := hl
          refine lv_goto (tgt := 8) hx hb dX3_lineUp_38 (by decide) ?_
          exact ih8 _ _ _ _ _ _ _ _ _ _ _ h hw hS (lv_sub hl [1, 2, 0] rfl) hcu hsu
  unfold wp_X3_lineUp at h
  have hcu : 0 + MC ≤ MC := by omega
  have hsu : 0 + MS ≤ MS := by omega
  refine lv_aload_n hx hb dX3_lineUp_0 rfl (lv_at hl 0 rfl) ?_
  obtain ⟨hk1, h⟩ := h
  obtain ⟨b2, hb3, h⟩ := h
  refine r_get (ci := 4) (v := .ref b2) (C := RX3) (T := TX3) (N := 7) hx hb hts hiX3 hown hK hw (ce_5 (S := S) hk1) rfl 4 (by decide) (hts (.fieldLink RX3 28 "TubePost$Station" "line" "Ljava/util/ArrayList;") (by decide +kernel)) (fun _ h9 => h9) (congrArg (fun q => some (va_rf q)) hb3) dX3_lineUp_1 ?_
  obtain ⟨hk4, h⟩ := h
  have h1 := h
  refine va_calli (va_runV (As := []) (rest := []) ⟨hx, hb, hml, hown, hts⟩ (m_Jx4a65c_size_8abf5 (l := l) h1) (cwV 0 hts gX3_lineUp_Jx4a65c_size_8abf5 rfl rfl rfl (by decide +kernel) ⟨Nat.le_trans (Nat.le_of_ble_eq_true rfl) hRf, Nat.le_trans (Nat.le_of_ble_eq_true rfl) hRl⟩) (r_pV hB hw hS (ce_1 (S := S) hk4) rfl) rfl rfl hl.1 rfl (lv_room (Nat.le_of_ble_eq_true rfl)) dX3_lineUp_4 ⟨by omega, by omega⟩) hS (fun _ _ h => h) (fun _ h => h) (fun r5 S6 t H1 locs ht _ h hw1 _ _ hS => ?_)
  subst ht
  have hw : wd D y z S6 A t.heap := hw1
  clear hw1 h1
  refine lv_istore_n hx hb dX3_lineUp_7 rfl hl (by decide) rfl (fun ls hl => ?_)
  have hl : lv_has ls 3 [(2, .int r5), (0, .ref this), (1, .ref p1)] := hl
  obtain ⟨n8, h⟩ := h
  exact hB8 n8 _ _ _ _ _ _ _ _ _ _ _ h hw hS (lv_sub hl [1, 2, 0] rfl) hcu hsu
def wp_X0_comeTo (post : bS → Prop) (MC MS : Nat) (this : Nat) (p1 : Nat) (p2 : Int32) (S : bS) : Prop := gK S this = 2 ∧ (gK (sV S 2 this 4 (1 : Int32)) p1 = 5 ∧ (∃ k5 n6, k5 ≤ MC ∧ n6 ≤ MS ∧ (wp_X3_lineUp (fun S4 => post S4) k5 n6 p1 this (sV (sV (sV S 2 this 4 (1 : Int32)) 2 this 5 (gV (sV S 2 this 4 (1 : Int32)) 5 p1 0)) 2 this 6 p2))))
set_option maxHeartbeats 4000000 in
set_option maxRecDepth 100000 in
theorem m_X0_comeTo {l : Launch} {D : va_G} {y : Nat → ClassId} {z : Nat} {A : Nat → Prop} {S : bS} {post : bS → Prop} {MC MS : Nat} {this : Nat} {p1 : Nat} {p2 : Int32} (h : wp_X0_comeTo post MC MS this p1 p2 S) : Met l yX0_comeTo wsX0_comeTo ({ frames := 7, cells := MC, slots := MS, locals := 193 } : Room) (va_Pc ([Value.ref this, Value.ref p1, Value.int p2] : List Value) (bP D y z S A)) (va_Qv post (fun S' t => wd D y z S' A t.heap) A) MC MS A := by
  refine Met.ofW (cc := cX0_comeTo) (maxL := 3) (ret := none) (by decide) rfl ?_
  intro p e s m args below meth c s₁ B hml hv
  obtain ⟨rfl, hB⟩ := hv
  have hx := B.exec
  have hb := B.bytes
  have hr := B.returns
  have hts := atoms_spec (ws := wsX0_comeTo) B.pre
  have hown : s.vm.findClass RX0 = some m.cls := findClass_of_methodNamed B.named
  have hlocks := B.notSynchronized
  have hw : wd D y z S A s.heap := hB.1
  have hK : va_K D bCl (bT y) s := hB.2.1
  have hNw := hB.2.2.1
  have hAn : ∀ q : Nat, s.heap.size ≤ q → A q := hB.2.2.2.1
  have hAz : ¬ A z := hB.2.2.2.2.1
  have hO := hB.2.2.2.2.2.1
  have hS : va_S A s.heap s.heap [] := va_S.rf
  have hiX0 : ∀ w ∈ u_ws RX0 TX0 9, w ∈ wsX0_comeTo := by decide +kernel
  have hiX3 : ∀ w ∈ u_ws RX3 TX3 7, w ∈ wsX0_comeTo := by decide +kernel
  have hl := lv_entry ([Value.ref this, Value.ref p1, Value.int p2] : List Value) (n := 3) (Nat.le_of_ble_eq_true rfl)
  rw [lg_entry_eq]
  generalize (lg_sl ([Value.ref this, Value.ref p1, Value.int p2] : List Value) ++ List.replicate (3 - (lg_sl ([Value.ref this, Value.ref p1, Value.int p2] : List Value)).length) Slot.unset).toArray = ls at hl ⊢
  have hl : lv_has ls 3 [(0, .ref this), (1, .ref p1), (2, .int p2)] := hl
  obtain ⟨Q, hQ⟩ : ∃ Q, Q = MQ below (va_Qv post (fun S' t => wd D y z S' A t.heap) A) (([Value.ref this, Value.ref p1, Value.int p2] : List Value).toArray) s MC MS A := ⟨_, rfl⟩
  rw [← hQ]
  generalize hR : (headSpec wsX0_comeTo ({ frames := 7, cells := MC, slots := MS, locals := 193 } : Room)).room = R
  have hRf : 7 ≤ R.frames := by rw [← hR]; exact Nat.le_refl _
  have hRl : 193 ≤ R.locals := by rw [← hR]; exact Nat.le_refl _
  have hRc : R.cells = MC := by rw [← hR]; rfl
  have hRs : R.slots = MS := by rw [← hR]; rfl
  have hret : ∀ (S : bS) (H : Heap) (locs : List Loc) (pc : Nat) (ls : Array Slot) (cu su : Nat) , post S → wd D y z S A H → va_S A s.heap H locs → cu ≤ MC → su ≤ MS → decode cX0_comeTo pc = .ok (.return_, 1) → W p l e R s m (([Value.ref this, Value.ref p1, Value.int p2] : List Value).toArray) below meth c H locs cu su Q (F0 m pc ls []) := by
    intro S H locs pc ls cu su h hw hS hcu hsu d0
    rw [hQ]; refine W.widen hcu hsu ?_; exact W.vret hx hb hr (fun t ht hW => ⟨⟨S, rfl, h, by show wd D y z S A t.heap; rw [ht]; exact hw⟩, hS.F ht⟩) hS.2.2 d0 hlocks
  unfold wp_X0_comeTo at h
  have hcu : 0 + MC ≤ MC := by omega
  have hsu : 0 + MS ≤ MS := by omega
  refine lv_aload_n hx hb dX0_comeTo_0 rfl (lv_at hl 0 rfl) ?_
  refine lv_iconst (v := (1 : Int32)) hx hb dX0_comeTo_1 (by decide) ?_
  obtain ⟨hk1, h⟩ := h
  refine r_putI (κ := 2) (ci := 1) (C := RX0) (T := TX0) (N := 9) (ty := .int) (x := (1 : Int32)) hx hb hts hiX0 tyX0 tyX0_ok nmX0 hown hK hw hS (ce_2 (S := S) hk1) rfl 4 (by decide) (hts (.fieldLink RX0 25 "TubePost$Carrier" "state" "I") (by decide +kernel)) (fun _ h9 => h9) rfl (by decide +kernel) rfl rfl (Nat.le_of_ble_eq_true rfl) (pu_2_4 (S := S) hk1) dX0_comeTo_2 (fun H locs hw hS => ?_)
  refine lv_aload_n hx hb dX0_comeTo_5 rfl (lv_at hl 0 rfl) ?_
  refine lv_aload_n hx hb dX0_comeTo_6 rfl (lv_at hl 1 rfl) ?_
  obtain ⟨hk2, h⟩ := h
  refine r_getN (ci := 4) (v := .int (gV (sV S 2 this 4 (1 : Int32)) 5 p1 0)) (C := RX3) (T := TX3) (N := 7) hx hb hts hiX3 hown hK hw (ce_5 (S := (sV S 2 this 4 (1 : Int32))) hk2) rfl 0 (by decide) (hNw _ (bNw_28)) (fun _ h9 => h9) rfl dX0_comeTo_7 ?_
  refine r_putI (κ := 2) (ci := 1) (C := RX0) (T := TX0) (N := 9) (ty := .int) (x := (gV (sV S 2 this 4 (1 : Int32)) 5 p1 0)) hx hb hts hiX0 tyX0 tyX0_ok nmX0 hown hK hw hS (ce_2 (S := (sV S 2 this 4 (1 : Int32))) hk1) rfl 5 (by decide) (hts (.fieldLink RX0 28 "TubePost$Carrier" "place" "I") (by decide +kernel)) (fun _ h9 => h9) rfl (by decide +kernel) rfl rfl (Nat.le_of_ble_eq_true rfl) (pu_2_5 (S := (sV S 2 this 4 (1 : Int32))) hk1) dX0_comeTo_10 (fun H locs hw hS => ?_)
  refine lv_aload_n hx hb dX0_comeTo_13 rfl (lv_at hl 0 rfl) ?_
  refine lv_iload_n hx hb dX0_comeTo_14 rfl (lv_at hl 2 rfl) ?_
  refine r_putI (κ := 2) (ci := 1) (C := RX0) (T := TX0) (N := 9) (ty := .int) (x := p2) hx hb hts hiX0 tyX0 tyX0_ok nmX0 hown hK hw hS (ce_2 (S := (sV (sV S 2 this 4 (1 : Int32)) 2 this 5 (gV (sV S 2 this 4 (1 : Int32)) 5 p1 0))) hk1) rfl 6 (by decide) (hts (.fieldLink RX0 31 "TubePost$Carrier" "since" "I") (by decide +kernel)) (fun _ h9 => h9) rfl (by decide +kernel) rfl rfl (Nat.le_of_ble_eq_true rfl) (pu_2_6 (S := (sV (sV S 2 this 4 (1 : Int32)) 2 this 5 (gV (sV S 2 this 4 (1 : Int32)) 5 p1 0))) hk1) dX0_comeTo_15 (fun H locs hw hS => ?_)
  refine lv_aload_n hx hb dX0_comeTo_18 rfl (lv_at hl 1 rfl) ?_
  refine lv_aload_n hx hb dX0_comeTo_19 rfl (lv_at hl 0 rfl) ?_
  obtain ⟨k5, n6, hbg1, hbg2, h⟩ := h
  have h1 := h
  refine va_callv (va_runVN (As := [.ref this]) (rest := []) ⟨hx, hb, hml, hown, hts⟩ (m_X3_lineUp (l := l) h1) ⟨va_cnB 1 hts gX0_comeTo_X3_lineUp_n43 rfl rfl rfl (hNw _ bNw_64) (hts (.initialized RX3) (by decide +kernel)) ⟨by decide +kernel, by decide +kernel, by decide +kernel⟩ ⟨Nat.le_trans (Nat.le_of_ble_eq_true rfl) hRf, Nat.le_trans (Nat.le_of_ble_eq_true rfl) hRl⟩, (hts (.instanceMethod yX3_lineUp) (by decide +kernel)), hts (.selects RX3 yX3_lineUp yX3_lineUp) (by decide +kernel)⟩ (r_pV hB hw hS (ce_5 (S := (sV (sV (sV S 2 this 4 (1 : Int32)) 2 this 5 (gV (sV S 2 this 4 (1 : Int32)) 5 p1 0)) 2 this 6 p2)) hk2) rfl) rfl rfl hl.1 rfl (lv_room (Nat.le_of_ble_eq_true rfl)) dX0_comeTo_20 ⟨by omega, by omega⟩) hS (fun _ _ h => h) (fun _ h => h) (fun S4 t H1 locs ht _ h hw1 _ _ hS => ?_)
  subst ht
  have hw : wd D y z S4 A t.heap := hw1
  clear hw1 h1
  have hcu : (0 + k5) + (MC - k5) ≤ MC := by omega
  have hsu : (0 + n6) + (MS - n6) ≤ MS := by omega
  exact hret _ _ _ _ _ _ _ h hw hS (by omega) (by omega) dX0_comeTo_23
def wp_X0_enter (post : bS → Prop) (MC MS : Nat) (this : Nat) (p1 : Nat) (p2 : Int32) (S : bS) : Prop := gK S this = 2 ∧ (gK (sV S 2 this 4 (2 : Int32)) p1 = 6 ∧ (∃ b3, gQ (sV (sV (sV (sV (sV S 2 this 4 (2 : Int32)) 2 this 5 (gV (sV S 2 this 4 (2 : Int32)) 6 p1 0)) 2 this 6 p2) 2 this 7 (gV (sV (sV (sV S 2 this 4 (2 : Int32)) 2 this 5 (gV (sV S 2 this 4 (2 : Int32)) 6 p1 0)) 2 this 6 p2) 6 p1 7)) 2 this 8 ((gV (sV (sV (sV (sV S 2 this 4 (2 : Int32)) 2 this 5 (gV (sV S 2 this 4 (2 : Int32)) 6 p1 0)) 2 this 6 p2) 2 this 7 (gV (sV (sV (sV S 2 this 4 (2 : Int32)) 2 this 5 (gV (sV S 2 this 4 (2 : Int32)) 6 p1 0)) 2 this 6 p2) 6 p1 7)) 2 this 8) + (1 : Int32))) 6 p1 5 = some b3 ∧ (gK (sV (sV (sV (sV (sV S 2 this 4 (2 : Int32)) 2 this 5 (gV (sV S 2 this 4 (2 : Int32)) 6 p1 0)) 2 this 6 p2) 2 this 7 (gV (sV (sV (sV S 2 this 4 (2 : Int32)) 2 this 5 (gV (sV S 2 this 4 (2 : Int32)) 6 p1 0)) 2 this 6 p2) 6 p1 7)) 2 this 8 ((gV (sV (sV (sV (sV S 2 this 4 (2 : Int32)) 2 this 5 (gV (sV S 2 this 4 (2 : Int32)) 6 p1 0)) 2 this 6 p2) 2 this 7 (gV (sV (sV (sV S 2 this 4 (2 : Int32)) 2 this 5 (gV (sV S 2 this 4 (2 : Int32)) 6 p1 0)) 2 this 6 p2) 6 p1 7)) 2 this 8) + (1 : Int32))) b3 = 1 ∧ (∃ k8 n9, k8 ≤ MC ∧ n9 ≤ MS ∧ (wp_Jx4a65c_add_9ea2d (fun r6 S7 => gK S7 p1 = 6 ∧ (post (sV (sV S7 6 p1 9 ((gV S7 6 p1 9) + (1 : Int32))) 6 p1 10 p2))) k8 n9 b3 this (sV (sV (sV (sV (sV S 2 this 4 (2 : Int32)) 2 this 5 (gV (sV S 2 this 4 (2 : Int32)) 6 p1 0)) 2 this 6 p2) 2 this 7 (gV (sV (sV (sV S 2 this 4 (2 : Int32)) 2 this 5 (gV (sV S 2 this 4 (2 : Int32)) 6 p1 0)) 2 this 6 p2) 6 p1 7)) 2 this 8 ((gV (sV (sV (sV (sV S 2 this 4 (2 : Int32)) 2 this 5 (gV (sV S 2 this 4 (2 : Int32)) 6 p1 0)) 2 this 6 p2) 2 this 7 (gV (sV (sV (sV S 2 this 4 (2 : Int32)) 2 this 5 (gV (sV S 2 this 4 (2 : Int32)) 6 p1 0)) 2 this 6 p2) 6 p1 7)) 2 this 8) + (1 : Int32))))))))
set_option maxHeartbeats 4000000 in
set_option maxRecDepth 100000 in
theorem m_X0_enter {l : Launch} {D : va_G} {y : Nat → ClassId} {z : Nat} {A : Nat → Prop} {S : bS} {post : bS → Prop} {MC MS : Nat} {this : Nat} {p1 : Nat} {p2 : Int32} (h : wp_X0_enter post MC MS this p1 p2 S) : Met l yX0_enter wsX0_enter ({ frames := 7, cells := MC, slots := MS, locals := 191 } : Room) (va_Pc ([Value.ref this, Value.ref p1, Value.int p2] : List Value) (bP D y z S A)) (va_Qv post (fun S' t => wd D y z S' A t.heap) A) MC MS A := by
  refine Met.ofW (cc := cX0_enter) (maxL := 3) (ret := none) (by decide) rfl ?_
  intro p e s m args below meth c s₁ B hml hv
  obtain ⟨rfl, hB⟩ := hv
  have hx := B.exec
  have hb := B.bytes
  have hr := B.returns
  have hts := atoms_spec (ws := wsX0_enter) B.pre
  have hown : s.vm.findClass RX0 = some m.cls := findClass_of_methodNamed B.named
  have hlocks := B.notSynchronized
  have hw : wd D y z S A s.heap := hB.1
  have hK : va_K D bCl (bT y) s := hB.2.1
  have hNw := hB.2.2.1
  have hAn : ∀ q : Nat, s.heap.size ≤ q → A q := hB.2.2.2.1
  have hAz : ¬ A z := hB.2.2.2.2.1
  have hO := hB.2.2.2.2.2.1
  have hS : va_S A s.heap s.heap [] := va_S.rf
  have hiX0 : ∀ w ∈ u_ws RX0 TX0 9, w ∈ wsX0_enter := by decide +kernel
  have hiX4 : ∀ w ∈ u_ws RX4 TX4 11, w ∈ wsX0_enter := by decide +kernel
  have hl := lv_entry ([Value.ref this, Value.ref p1, Value.int p2] : List Value) (n := 3) (Nat.le_of_ble_eq_true rfl)
  rw [lg_entry_eq]
  generalize (lg_sl ([Value.ref this, Value.ref p1, Value.int p2] : List Value) ++ List.replicate (3 - (lg_sl ([Value.ref this, Value.ref p1, Value.int p2] : List Value)).length) Slot.unset).toArray = ls at hl ⊢
  have hl : lv_has ls 3 [(0, .ref this), (1, .ref p1), (2, .int p2)] := hl
  obtain ⟨Q, hQ⟩ : ∃ Q, Q = MQ below (va_Qv post (fun S' t => wd D y z S' A t.heap) A) (([Value.ref this, Value.ref p1, Value.int p2] : List Value).toArray) s MC MS A := ⟨_, rfl⟩
  rw [← hQ]
  generalize hR : (headSpec wsX0_enter ({ frames := 7, cells := MC, slots := MS, locals := 191 } : Room)).room = R
  have hRf : 7 ≤ R.frames := by rw [← hR]; exact Nat.le_refl _
  have hRl : 191 ≤ R.locals := by rw [← hR]; exact Nat.le_refl _
  have hRc : R.cells = MC := by rw [← hR]; rfl
  have hRs : R.slots = MS := by rw [← hR]; rfl
  have hret : ∀ (S : bS) (H : Heap) (locs : List Loc) (pc : Nat) (ls : Array Slot) (cu su : Nat) , post S → wd D y z S A H → va_S A s.heap H locs → cu ≤ MC → su ≤ MS → decode cX0_enter pc = .ok (.return_, 1) → W p l e R s m (([Value.ref this, Value.ref p1, Value.int p2] : List Value).toArray) below meth c H locs cu su Q (F0 m pc ls []) := by
    intro S H locs pc ls cu su h hw hS hcu hsu d0
    rw [hQ]; refine W.widen hcu hsu ?_; exact W.vret hx hb hr (fun t ht hW => ⟨⟨S, rfl, h, by show wd D y z S A t.heap; rw [ht]; exact hw⟩, hS.F ht⟩) hS.2.2 d0 hlocks
  unfold wp_X0_enter at h
  have hcu : 0 + MC ≤ MC := by omega
  have hsu : 0 + MS ≤ MS := by omega
  refine lv_aload_n hx hb dX0_enter_0 rfl (lv_at hl 0 rfl) ?_
  refine lv_iconst (v := (2 : Int32)) hx hb dX0_enter_1 (by decide) ?_
  obtain ⟨hk1, h⟩ := h
  refine r_putI (κ := 2) (ci := 1) (C := RX0) (T := TX0) (N := 9) (ty := .int) (x := (2 : Int32)) hx hb hts hiX0 tyX0 tyX0_ok nmX0 hown hK hw hS (ce_2 (S := S) hk1) rfl 4 (by decide) (hts (.fieldLink RX0 25 "TubePost$Carrier" "state" "I") (by decide +kernel)) (fun _ h9 => h9) rfl (by decide +kernel) rfl rfl (Nat.le_of_ble_eq_true rfl) (pu_2_4 (S := S) hk1) dX0_enter_2 (fun H locs hw hS => ?_)
  refine lv_aload_n hx hb dX0_enter_5 rfl (lv_at hl 0 rfl) ?_
  refine lv_aload_n hx hb dX0_enter_6 rfl (lv_at hl 1 rfl) ?_
  obtain ⟨hk2, h⟩ := h
  refine r_getN (ci := 5) (v := .int (gV (sV S 2 this 4 (2 : Int32)) 6 p1 0)) (C := RX4) (T := TX4) (N := 11) hx hb hts hiX4 hown hK hw (ce_6 (S := (sV S 2 this 4 (2 : Int32))) hk2) rfl 0 (by decide) (hNw _ (bNw_29)) (fun _ h9 => h9) rfl dX0_enter_7 ?_
  refine r_putI (κ := 2) (ci := 1) (C := RX0) (T := TX0) (N := 9) (ty := .int) (x := (gV (sV S 2 this 4 (2 : Int32)) 6 p1 0)) hx hb hts hiX0 tyX0 tyX0_ok nmX0 hown hK hw hS (ce_2 (S := (sV S 2 this 4 (2 : Int32))) hk1) rfl 5 (by decide) (hts (.fieldLink RX0 28 "TubePost$Carrier" "place" "I") (by decide +kernel)) (fun _ h9 => h9) rfl (by decide +kernel) rfl rfl (Nat.le_of_ble_eq_true rfl) (pu_2_5 (S := (sV S 2 this 4 (2 : Int32))) hk1) dX0_enter_10 (fun H locs hw hS => ?_)
  refine lv_aload_n hx hb dX0_enter_13 rfl (lv_at hl 0 rfl) ?_
  refine lv_iload_n hx hb dX0_enter_14 rfl (lv_at hl 2 rfl) ?_
  refine r_putI (κ := 2) (ci := 1) (C := RX0) (T := TX0) (N := 9) (ty := .int) (x := p2) hx hb hts hiX0 tyX0 tyX0_ok nmX0 hown hK hw hS (ce_2 (S := (sV (sV S 2 this 4 (2 : Int32)) 2 this 5 (gV (sV S 2 this 4 (2 : Int32)) 6 p1 0))) hk1) rfl 6 (by decide) (hts (.fieldLink RX0 31 "TubePost$Carrier" "since" "I") (by decide +kernel)) (fun _ h9 => h9) rfl (by decide +kernel) rfl rfl (Nat.le_of_ble_eq_true rfl) (pu_2_6 (S := (sV (sV S 2 this 4 (2 : Int32)) 2 this 5 (gV (sV S 2 this 4 (2 : Int32)) 6 p1 0))) hk1) dX0_enter_15 (fun H locs hw hS => ?_)
  refine lv_aload_n hx hb dX0_enter_18 rfl (lv_at hl 0 rfl) ?_
  refine lv_aload_n hx hb dX0_enter_19 rfl (lv_at hl 1 rfl) ?_
  refine r_getN (ci := 5) (v := .int (gV (sV (sV (sV S 2 this 4 (2 : Int32)) 2 this 5 (gV (sV S 2 this 4 (2 : Int32)) 6 p1 0)) 2 this 6 p2) 6 p1 7)) (C := RX4) (T := TX4) (N := 11) hx hb hts hiX4 hown hK hw (ce_6 (S := (sV (sV (sV S 2 this 4 (2 : Int32)) 2 this 5 (gV (sV S 2 this 4 (2 : Int32)) 6 p1 0)) 2 this 6 p2)) hk2) rfl 7 (by decide) (hNw _ (bNw_30)) (fun _ h9 => h9) rfl dX0_enter_20 ?_
  refine r_putI (κ := 2) (ci := 1) (C := RX0) (T := TX0) (N := 9) (ty := .int) (x := (gV (sV (sV (sV S 2 this 4 (2 : Int32)) 2 this 5 (gV (sV S 2 this 4 (2 : Int32)) 6 p1 0)) 2 this 6 p2) 6 p1 7)) hx hb hts hiX0 tyX0 tyX0_ok nmX0 hown hK hw hS (ce_2 (S := (sV (sV (sV S 2 this 4 (2 : Int32)) 2 this 5 (gV (sV S 2 this 4 (2 : Int32)) 6 p1 0)) 2 this 6 p2)) hk1) rfl 7 (by decide) (hts (.fieldLink RX0 34 "TubePost$Carrier" "timeInTube" "I") (by decide +kernel)) (fun _ h9 => h9) rfl (by decide +kernel) rfl rfl (Nat.le_of_ble_eq_true rfl) (pu_2_7 (S := (sV (sV (sV S 2 this 4 (2 : Int32)) 2 this 5 (gV (sV S 2 this 4 (2 : Int32)) 6 p1 0)) 2 this 6 p2)) hk1) dX0_enter_23 (fun H locs hw hS => ?_)
  refine lv_aload_n hx hb dX0_enter_26 rfl (lv_at hl 0 rfl) ?_
  refine lv_dup hx hb dX0_enter_27 rfl ?_
  refine r_get (ci := 1) (v := .int (gV (sV (sV (sV (sV S 2 this 4 (2 : Int32)) 2 this 5 (gV (sV S 2 this 4 (2 : Int32)) 6 p1 0)) 2 this 6 p2) 2 this 7 (gV (sV (sV (sV S 2 this 4 (2 : Int32)) 2 this 5 (gV (sV S 2 this 4 (2 : Int32)) 6 p1 0)) 2 this 6 p2) 6 p1 7)) 2 this 8)) (C := RX0) (T := TX0) (N := 9) hx hb hts hiX0 hown hK hw (ce_2 (S := (sV (sV (sV (sV S 2 this 4 (2 : Int32)) 2 this 5 (gV (sV S 2 this 4 (2 : Int32)) 6 p1 0)) 2 this 6 p2) 2 this 7 (gV (sV (sV (sV S 2 this 4 (2 : Int32)) 2 this 5 (gV (sV S 2 this 4 (2 : Int32)) 6 p1 0)) 2 this 6 p2) 6 p1 7))) hk1) rfl 8 (by decide) (hts (.fieldLink RX0 37 "TubePost$Carrier" "tubesEntered" "I") (by decide +kernel)) (fun _ h9 => h9) rfl dX0_enter_28 ?_
  refine lv_iconst (v := (1 : Int32)) hx hb dX0_enter_31 (by decide) ?_
  refine lv_iadd hx hb dX0_enter_32 ?_
  refine r_putI (κ := 2) (ci := 1) (C := RX0) (T := TX0) (N := 9) (ty := .int) (x := ((gV (sV (sV (sV (sV S 2 this 4 (2 : Int32)) 2 this 5 (gV (sV S 2 this 4 (2 : Int32)) 6 p1 0)) 2 this 6 p2) 2 this 7 (gV (sV (sV (sV S 2 this 4 (2 : Int32)) 2 this 5 (gV (sV S 2 this 4 (2 : Int32)) 6 p1 0)) 2 this 6 p2) 6 p1 7)) 2 this 8) + (1 : Int32))) hx hb hts hiX0 tyX0 tyX0_ok nmX0 hown hK hw hS (ce_2 (S := (sV (sV (sV (sV S 2 this 4 (2 : Int32)) 2 this 5 (gV (sV S 2 this 4 (2 : Int32)) 6 p1 0)) 2 this 6 p2) 2 this 7 (gV (sV (sV (sV S 2 this 4 (2 : Int32)) 2 this 5 (gV (sV S 2 this 4 (2 : Int32)) 6 p1 0)) 2 this 6 p2) 6 p1 7))) hk1) rfl 8 (by decide) (hts (.fieldLink RX0 37 "TubePost$Carrier" "tubesEntered" "I") (by decide +kernel)) (fun _ h9 => h9) rfl (by decide +kernel) rfl rfl (Nat.le_of_ble_eq_true rfl) (pu_2_8 (S := (sV (sV (sV (sV S 2 this 4 (2 : Int32)) 2 this 5 (gV (sV S 2 this 4 (2 : Int32)) 6 p1 0)) 2 this 6 p2) 2 this 7 (gV (sV (sV (sV S 2 this 4 (2 : Int32)) 2 this 5 (gV (sV S 2 this 4 (2 : Int32)) 6 p1 0)) 2 this 6 p2) 6 p1 7))) hk1) dX0_enter_33 (fun H locs hw hS => ?_)
  refine lv_aload_n hx hb dX0_enter_36 rfl (lv_at hl 1 rfl) ?_
  obtain ⟨b3, hb4, h⟩ := h
  refine r_getN (ci := 5) (v := .ref b3) (C := RX4) (T := TX4) (N := 11) hx hb hts hiX4 hown hK hw (ce_6 (S := (sV (sV (sV (sV (sV S 2 this 4 (2 : Int32)) 2 this 5 (gV (sV S 2 this 4 (2 : Int32)) 6 p1 0)) 2 this 6 p2) 2 this 7 (gV (sV (sV (sV S 2 this 4 (2 : Int32)) 2 this 5 (gV (sV S 2 this 4 (2 : Int32)) 6 p1 0)) 2 this 6 p2) 6 p1 7)) 2 this 8 ((gV (sV (sV (sV (sV S 2 this 4 (2 : Int32)) 2 this 5 (gV (sV S 2 this 4 (2 : Int32)) 6 p1 0)) 2 this 6 p2) 2 this 7 (gV (sV (sV (sV S 2 this 4 (2 : Int32)) 2 this 5 (gV (sV S 2 this 4 (2 : Int32)) 6 p1 0)) 2 this 6 p2) 6 p1 7)) 2 this 8) + (1 : Int32)))) hk2) rfl 5 (by decide) (hNw _ (bNw_31)) (fun _ h9 => h9) (congrArg (fun q => some (va_rf q)) hb4) dX0_enter_37 ?_
  refine lv_aload_n hx hb dX0_enter_40 rfl (lv_at hl 0 rfl) ?_
  obtain ⟨hk5, h⟩ := h
  obtain ⟨k8, n9, hbg1, hbg2, h⟩ := h
  have h1 := h
  refine va_calli (va_runV (As := [.ref this]) (rest := []) ⟨hx, hb, hml, hown, hts⟩ (m_Jx4a65c_add_9ea2d (l := l) h1) (cwV 1 hts gX0_enter_Jx4a65c_add_9ea2d rfl rfl rfl (by decide +kernel) ⟨Nat.le_trans (Nat.le_of_ble_eq_true rfl) hRf, Nat.le_trans (Nat.le_of_ble_eq_true rfl) hRl⟩) (r_pV hB hw hS (ce_1 (S := (sV (sV (sV (sV (sV S 2 this 4 (2 : Int32)) 2 this 5 (gV (sV S 2 this 4 (2 : Int32)) 6 p1 0)) 2 this 6 p2) 2 this 7 (gV (sV (sV (sV S 2 this 4 (2 : Int32)) 2 this 5 (gV (sV S 2 this 4 (2 : Int32)) 6 p1 0)) 2 this 6 p2) 6 p1 7)) 2 this 8 ((gV (sV (sV (sV (sV S 2 this 4 (2 : Int32)) 2 this 5 (gV (sV S 2 this 4 (2 : Int32)) 6 p1 0)) 2 this 6 p2) 2 this 7 (gV (sV (sV (sV S 2 this 4 (2 : Int32)) 2 this 5 (gV (sV S 2 this 4 (2 : Int32)) 6 p1 0)) 2 this 6 p2) 6 p1 7)) 2 this 8) + (1 : Int32)))) hk5) rfl) rfl rfl hl.1 rfl (lv_room (Nat.le_of_ble_eq_true rfl)) dX0_enter_41 ⟨by omega, by omega⟩) hS (fun _ _ h => h) (fun _ h => h) (fun r6 S7 t H1 locs ht _ h hw1 _ _ hS => ?_)
  subst ht
  have hw : wd D y z S7 A t.heap := hw1
  clear hw1 h1
  have hcu : (0 + k8) + (MC - k8) ≤ MC := by omega
  have hsu : (0 + n9) + (MS - n9) ≤ MS := by omega
  refine lv_pop hx hb dX0_enter_44 rfl ?_
  refine lv_aload_n hx hb dX0_enter_45 rfl (lv_at hl 1 rfl) ?_
  refine lv_dup hx hb dX0_enter_46 rfl ?_
  obtain ⟨hk10, h⟩ := h
  refine r_getN (ci := 5) (v := .int (gV S7 6 p1 9)) (C := RX4) (T := TX4) (N := 11) hx hb hts hiX4 hown hK hw (ce_6 (S := S7) hk10) rfl 9 (by decide) (hNw _ (bNw_32)) (fun _ h9 => h9) rfl dX0_enter_47 ?_
  refine lv_iconst (v := (1 : Int32)) hx hb dX0_enter_50 (by decide) ?_
  refine lv_iadd hx hb dX0_enter_51 ?_
  refine r_putIN (κ := 6) (ci := 5) (C := RX4) (T := TX4) (N := 11) (ty := .int) (x := ((gV S7 6 p1 9) + (1 : Int32))) hx hb hts hiX4 tyX4 tyX4_ok nmX4 hown hK hw hS (ce_6 (S := S7) hk10) rfl 9 (by decide) (hNw _ (bNw_32)) (fun _ h9 => h9) rfl (by decide +kernel) rfl rfl (Nat.le_of_ble_eq_true rfl) (pu_6_9 (S := S7) hk10) dX0_enter_52 (fun H locs hw hS => ?_)
  refine lv_aload_n hx hb dX0_enter_55 rfl (lv_at hl 1 rfl) ?_
  refine lv_iload_n hx hb dX0_enter_56 rfl (lv_at hl 2 rfl) ?_
  refine r_putIN (κ := 6) (ci := 5) (C := RX4) (T := TX4) (N := 11) (ty := .int) (x := p2) hx hb hts hiX4 tyX4 tyX4_ok nmX4 hown hK hw hS (ce_6 (S := (sV S7 6 p1 9 ((gV S7 6 p1 9) + (1 : Int32)))) hk10) rfl 10 (by decide) (hNw _ (bNw_33)) (fun _ h9 => h9) rfl (by decide +kernel) rfl rfl (Nat.le_of_ble_eq_true rfl) (pu_6_10 (S := (sV S7 6 p1 9 ((gV S7 6 p1 9) + (1 : Int32)))) hk10) dX0_enter_57 (fun H locs hw hS => ?_)
  exact hret _ _ _ _ _ _ _ h hw hS (by omega) (by omega) dX0_enter_60
def wp_X1_init (post : bS → Prop) (this : Nat) (p1 : Int32) (p2 : Int32) (p3 : Int32) (p4 : Int32) (p5 : Int32) (S : bS) : Prop := gK S this = 3 ∧ (post (sV (sV (sV (sV (sV S 3 this 0 p1) 3 this 1 p2) 3 this 2 p3) 3 this 3 p4) 3 this 4 p5))
set_option maxHeartbeats 4000000 in
set_option maxRecDepth 100000 in
theorem m_X1_init {l : Launch} {D : va_G} {y : Nat → ClassId} {z : Nat} {A : Nat → Prop} {S : bS} {post : bS → Prop} {this : Nat} {p1 : Int32} {p2 : Int32} {p3 : Int32} {p4 : Int32} {p5 : Int32} (h : wp_X1_init post this p1 p2 p3 p4 p5 S) : Met l yX1_init wsX1_init ({ frames := 1, cells := 0, slots := 0, locals := 20 } : Room) (va_Pc ([Value.ref this, Value.int p1, Value.int p2, Value.int p3, Value.int p4, Value.int p5] : List Value) (bP D y z S A)) (va_Qv post (fun S' t => wd D y z S' A t.heap) A) 0 0 A := by
  refine Met.ofW (cc := cX1_init) (maxL := 6) (ret := none) (by decide) rfl ?_
  intro p e s m args below meth c s₁ B hml hv
  obtain ⟨rfl, hB⟩ := hv
  have hx := B.exec
  have hb := B.bytes
  have hr := B.returns
  have hts := atoms_spec (ws := wsX1_init) B.pre
  have hown : s.vm.findClass RX1 = some m.cls := findClass_of_methodNamed B.named
  have hlocks := B.notSynchronized
  have hin : meth.name = "<init>" := (name_of_methodNamed B.named B.method).1
  have hw : wd D y z S A s.heap := hB.1
  have hK : va_K D bCl (bT y) s := hB.2.1
  have hNw := hB.2.2.1
  have hAn : ∀ q : Nat, s.heap.size ≤ q → A q := hB.2.2.2.1
  have hAz : ¬ A z := hB.2.2.2.2.1
  have hO := hB.2.2.2.2.2.1
  have hS : va_S A s.heap s.heap [] := va_S.rf
  have hiX1 : ∀ w ∈ u_ws RX1 TX1 5, w ∈ wsX1_init := by decide +kernel
  have hl := lv_entry ([Value.ref this, Value.int p1, Value.int p2, Value.int p3, Value.int p4, Value.int p5] : List Value) (n := 6) (Nat.le_of_ble_eq_true rfl)
  rw [lg_entry_eq]
  generalize (lg_sl ([Value.ref this, Value.int p1, Value.int p2, Value.int p3, Value.int p4, Value.int p5] : List Value) ++ List.replicate (6 - (lg_sl ([Value.ref this, Value.int p1, Value.int p2, Value.int p3, Value.int p4, Value.int p5] : List Value)).length) Slot.unset).toArray = ls at hl ⊢
  have hl : lv_has ls 6 [(0, .ref this), (1, .int p1), (2, .int p2), (3, .int p3), (4, .int p4), (5, .int p5)] := hl
  obtain ⟨Q, hQ⟩ : ∃ Q, Q = MQ below (va_Qv post (fun S' t => wd D y z S' A t.heap) A) (([Value.ref this, Value.int p1, Value.int p2, Value.int p3, Value.int p4, Value.int p5] : List Value).toArray) s 0 0 A := ⟨_, rfl⟩
  rw [← hQ]
  generalize hR : (headSpec wsX1_init ({ frames := 1, cells := 0, slots := 0, locals := 20 } : Room)).room = R
  have hRf : 1 ≤ R.frames := by rw [← hR]; exact Nat.le_refl _
  have hRl : 20 ≤ R.locals := by rw [← hR]; exact Nat.le_refl _
  have hret : ∀ (S : bS) (H : Heap) (locs : List Loc) (pc : Nat) (ls : Array Slot) , post S → wd D y z S A H → va_S A s.heap H locs → decode cX1_init pc = .ok (.return_, 1) → W p l e R s m (([Value.ref this, Value.int p1, Value.int p2, Value.int p3, Value.int p4, Value.int p5] : List Value).toArray) below meth c H locs 0 0 Q (F0 m pc ls []) := by
    intro S H locs pc ls h hw hS d0
    rw [hQ]; exact W.vret hx hb hr (fun t ht hW => ⟨⟨S, rfl, h, by show wd D y z S A t.heap; rw [ht]; exact hw⟩, hS.F ht⟩) hS.2.2 d0 hlocks
  unfold wp_X1_init at h
  refine lv_aload_n hx hb dX1_init_0 rfl (lv_at hl 0 rfl) ?_
  refine W.objInit hx hb hown (hts (.methodLink RX1 1 objectInit) (by decide +kernel)) (hts (.instanceMethod objectInit) (by decide +kernel)) (hts (.code objectInit ⟨#[0xb1]⟩ 1 none) (by decide +kernel)) rfl (by rw [hml]; exact hl.1) rfl dX1_init_1 (Nat.le_trans (Nat.le_of_ble_eq_true rfl) hRf) (Nat.le_trans (Nat.le_of_ble_eq_true rfl) hRl) ?_
  refine W.eq (g2 := F0 m 4 ls []) rfl ?_
  refine lv_aload_n hx hb dX1_init_4 rfl (lv_at hl 0 rfl) ?_
  refine lv_iload_n hx hb dX1_init_5 rfl (lv_at hl 1 rfl) ?_
  obtain ⟨hk1, h⟩ := h
  refine r_putIF (κ := 3) (ci := 2) (C := RX1) (T := TX1) (N := 5) (ty := .int) (x := p1) hx hb hts hiX1 tyX1 tyX1_ok nmX1 hown hK hw hS (ce_3 (S := S) hk1) rfl 0 (by decide) (hts (.fieldLink RX1 7 "TubePost$Entry" "first" "I") (by decide +kernel)) (fun _ h9 => h9) rfl hin rfl (by decide +kernel) rfl rfl (Nat.le_of_ble_eq_true rfl) (pu_3_0 (S := S) hk1) dX1_init_6 (fun H locs hw hS => ?_)
  refine lv_aload_n hx hb dX1_init_9 rfl (lv_at hl 0 rfl) ?_
  refine lv_iload_n hx hb dX1_init_10 rfl (lv_at hl 2 rfl) ?_
  refine r_putIF (κ := 3) (ci := 2) (C := RX1) (T := TX1) (N := 5) (ty := .int) (x := p2) hx hb hts hiX1 tyX1 tyX1_ok nmX1 hown hK hw hS (ce_3 (S := (sV S 3 this 0 p1)) hk1) rfl 1 (by decide) (hts (.fieldLink RX1 13 "TubePost$Entry" "period" "I") (by decide +kernel)) (fun _ h9 => h9) rfl hin rfl (by decide +kernel) rfl rfl (Nat.le_of_ble_eq_true rfl) (pu_3_1 (S := (sV S 3 this 0 p1)) hk1) dX1_init_11 (fun H locs hw hS => ?_)
  refine lv_aload_n hx hb dX1_init_14 rfl (lv_at hl 0 rfl) ?_
  refine lv_iload_n hx hb dX1_init_15 rfl (lv_at hl 3 rfl) ?_
  refine r_putIF (κ := 3) (ci := 2) (C := RX1) (T := TX1) (N := 5) (ty := .int) (x := p3) hx hb hts hiX1 tyX1 tyX1_ok nmX1 hown hK hw hS (ce_3 (S := (sV (sV S 3 this 0 p1) 3 this 1 p2)) hk1) rfl 2 (by decide) (hts (.fieldLink RX1 16 "TubePost$Entry" "sort" "I") (by decide +kernel)) (fun _ h9 => h9) rfl hin rfl (by decide +kernel) rfl rfl (Nat.le_of_ble_eq_true rfl) (pu_3_2 (S := (sV (sV S 3 this 0 p1) 3 this 1 p2)) hk1) dX1_init_16 (fun H locs hw hS => ?_)
  refine lv_aload_n hx hb dX1_init_19 rfl (lv_at hl 0 rfl) ?_
  refine lv_iload hx hb dX1_init_20 (lv_at hl 4 rfl) ?_
  refine r_putIF (κ := 3) (ci := 2) (C := RX1) (T := TX1) (N := 5) (ty := .int) (x := p4) hx hb hts hiX1 tyX1 tyX1_ok nmX1 hown hK hw hS (ce_3 (S := (sV (sV (sV S 3 this 0 p1) 3 this 1 p2) 3 this 2 p3)) hk1) rfl 3 (by decide) (hts (.fieldLink RX1 19 "TubePost$Entry" "what" "I") (by decide +kernel)) (fun _ h9 => h9) rfl hin rfl (by decide +kernel) rfl rfl (Nat.le_of_ble_eq_true rfl) (pu_3_3 (S := (sV (sV (sV S 3 this 0 p1) 3 this 1 p2) 3 this 2 p3)) hk1) dX1_init_22 (fun H locs hw hS => ?_)
  refine lv_aload_n hx hb dX1_init_25 rfl (lv_at hl 0 rfl) ?_
  refine lv_iload hx hb dX1_init_26 (lv_at hl 5 rfl) ?_
  refine r_putIF (κ := 3) (ci := 2) (C := RX1) (T := TX1) (N := 5) (ty := .int) (x := p5) hx hb hts hiX1 tyX1 tyX1_ok nmX1 hown hK hw hS (ce_3 (S := (sV (sV (sV (sV S 3 this 0 p1) 3 this 1 p2) 3 this 2 p3) 3 this 3 p4)) hk1) rfl 4 (by decide) (hts (.fieldLink RX1 22 "TubePost$Entry" "how" "I") (by decide +kernel)) (fun _ h9 => h9) rfl hin rfl (by decide +kernel) rfl rfl (Nat.le_of_ble_eq_true rfl) (pu_3_4 (S := (sV (sV (sV (sV S 3 this 0 p1) 3 this 1 p2) 3 this 2 p3) 3 this 3 p4)) hk1) dX1_init_28 (fun H locs hw hS => ?_)
  exact hret _ _ _ _ _ h hw hS dX1_init_31
def wb_X1_isDueAt_21 (post : Int32 → bS → Prop) (s0 : Int32) (S : bS) : Prop := (s0 = 0 ∨ s0 = 1) ∧ post s0 S
def wb_X1_isDueAt_49 (post : Int32 → bS → Prop) (s0 : Int32) (S : bS) : Prop := (s0 = 0 ∨ s0 = 1) ∧ post s0 S
def wb_X1_isDueAt_48 (post : Int32 → bS → Prop) (S : bS) : Prop := wb_X1_isDueAt_49 post (0 : Int32) S
def wp_X1_isDueAt (post : Int32 → bS → Prop) (this : Nat) (p1 : Int32) (S : bS) : Prop := gK S this = 3 ∧ (((1 : Int32) ≤ (gV S 3 this 1) → (p1 < (gV S 3 this 0) → wb_X1_isDueAt_48 post S) ∧ (¬ (p1 < (gV S 3 this 0)) → ¬ (gV S 3 this 1) = 0 ∧ ((((p1 - (gV S 3 this 0)) - (p1 - (gV S 3 this 0)) / (gV S 3 this 1) * (gV S 3 this 1)) ≠ (0 : Int32) → wb_X1_isDueAt_48 post S) ∧ (((p1 - (gV S 3 this 0)) - (p1 - (gV S 3 this 0)) / (gV S 3 this 1) * (gV S 3 this 1)) = (0 : Int32) → wb_X1_isDueAt_49 post (1 : Int32) S)))) ∧ (¬ ((1 : Int32) ≤ (gV S 3 this 1)) → (p1 ≠ (gV S 3 this 0) → wb_X1_isDueAt_21 post (0 : Int32) S) ∧ (p1 = (gV S 3 this 0) → wb_X1_isDueAt_21 post (1 : Int32) S)))
set_option maxHeartbeats 4000000 in
set_option maxRecDepth 100000 in
theorem m_X1_isDueAt {l : Launch} {D : va_G} {y : Nat → ClassId} {z : Nat} {A : Nat → Prop} {S : bS} {post : Int32 → bS → Prop} {this : Nat} {p1 : Int32} (h : wp_X1_isDueAt post this p1 S) : Met l yX1_isDueAt wsX1_isDueAt ({ frames := 0, cells := 0, slots := 0, locals := 0 } : Room) (va_Pc ([Value.ref this, Value.int p1] : List Value) (bP D y z S A)) (va_Qi post (fun S' t => wd D y z S' A t.heap) A) 0 0 A := by
  refine Met.ofW (cc := cX1_isDueAt) (maxL := 2) (ret := (some .boolean)) (by decide) rfl ?_
  intro p e s m args below meth c s₁ B hml hv
  obtain ⟨rfl, hB⟩ := hv
  have hx := B.exec
  have hb := B.bytes
  have hr := B.returns
  have hts := atoms_spec (ws := wsX1_isDueAt) B.pre
  have hown : s.vm.findClass RX1 = some m.cls := findClass_of_methodNamed B.named
  have hlocks := B.notSynchronized
  have hw : wd D y z S A s.heap := hB.1
  have hK : va_K D bCl (bT y) s := hB.2.1
  have hNw := hB.2.2.1
  have hAn : ∀ q : Nat, s.heap.size ≤ q → A q := hB.2.2.2.1
  have hAz : ¬ A z := hB.2.2.2.2.1
  have hO := hB.2.2.2.2.2.1
  have hS : va_S A s.heap s.heap [] := va_S.rf
  have hiX1 : ∀ w ∈ u_ws RX1 TX1 5, w ∈ wsX1_isDueAt := by decide +kernel
  have hl := lv_entry ([Value.ref this, Value.int p1] : List Value) (n := 2) (Nat.le_of_ble_eq_true rfl)
  rw [lg_entry_eq]
  generalize (lg_sl ([Value.ref this, Value.int p1] : List Value) ++ List.replicate (2 - (lg_sl ([Value.ref this, Value.int p1] : List Value)).length) Slot.unset).toArray = ls at hl ⊢
  have hl : lv_has ls 2 [(0, .ref this), (1, .int p1)] := hl
  obtain ⟨Q, hQ⟩ : ∃ Q, Q = MQ below (va_Qi post (fun S' t => wd D y z S' A t.heap) A) (([Value.ref this, Value.int p1] : List Value).toArray) s 0 0 A := ⟨_, rfl⟩
  rw [← hQ]
  generalize hR : (headSpec wsX1_isDueAt ({ frames := 0, cells := 0, slots := 0, locals := 0 } : Room)).room = R
  have hRf : 0 ≤ R.frames := by rw [← hR]; exact Nat.le_refl _
  have hRl : 0 ≤ R.locals := by rw [← hR]; exact Nat.le_refl _
  have hret : ∀ (v : Int32) (S : bS) (H : Heap) (locs : List Loc) (pc : Nat) (ls : Array Slot) , (v = 0 ∨ v = 1) → post v S → wd D y z S A H → va_S A s.heap H locs → decode cX1_isDueAt pc = .ok (.ireturn, 1) → W p l e R s m (([Value.ref this, Value.int p1] : List Value).toArray) below meth c H locs 0 0 Q (F0 m pc ls [.int v]) := by
    intro v S H locs pc ls hz h hw hS d0
    rw [hQ]; exact W.zret hx hb hr (b_nz hz) (fun t ht hW => ⟨⟨v, S, rfl, h, by show wd D y z S A t.heap; rw [ht]; exact hw⟩, hS.F ht⟩) hS.2.2 d0 hlocks
  have hB21 : ∀ (S : bS) (H : Heap) (locs : List Loc) (ls : Array Slot) (s0 : Int32), wb_X1_isDueAt_21 post s0 S → wd D y z S A H → va_S A s.heap H locs → lv_has ls 2 [] → W p l e R s m (([Value.ref this, Value.int p1] : List Value).toArray) below meth c H locs 0 0 Q (F0 m 21 ls [.int s0]) := by
    intro S H locs ls s0 h hw hS hl
    unfold wb_X1_isDueAt_21 at h
    obtain ⟨hz, h⟩ := h
    exact hret _ _ _ _ _ _ hz h hw hS dX1_isDueAt_21
  have hB49 : ∀ (S : bS) (H : Heap) (locs : List Loc) (ls : Array Slot) (s0 : Int32), wb_X1_isDueAt_49 post s0 S → wd D y z S A H → va_S A s.heap H locs → lv_has ls 2 [] → W p l e R s m (([Value.ref this, Value.int p1] : List Value).toArray) below meth c H locs 0 0 Q (F0 m 49 ls [.int s0]) := by
    intro S H locs ls s0 h hw hS hl
    unfold wb_X1_isDueAt_49 at h
    obtain ⟨hz, h⟩ := h
    exact hret _ _ _ _ _ _ hz h hw hS dX1_isDueAt_49
  have hB48 : ∀ (S : bS) (H : Heap) (locs : List Loc) (ls : Array Slot) , wb_X1_isDueAt_48 post S → wd D y z S A H → va_S A s.heap H locs → lv_has ls 2 [] → W p l e R s m (([Value.ref this, Value.int p1] : List Value).toArray) below meth c H locs 0 0 Q (F0 m 48 ls []) := by
    intro S H locs ls  h hw hS hl
    unfold wb_X1_isDueAt_48 at h
    refine lv_iconst (v := (0 : Int32)) hx hb dX1_isDueAt_48 (by decide) ?_
    exact hB49 _ _ _ _ _ h hw hS (lv_sub hl [] rfl)
  unfold wp_X1_isDueAt at h
  refine lv_aload_n hx hb dX1_isDueAt_0 rfl (lv_at hl 0 rfl) ?_
  obtain ⟨hk1, h⟩ := h
  refine r_get (ci := 2) (v := .int (gV S 3 this 1)) (C := RX1) (T := TX1) (N := 5) hx hb hts hiX1 hown hK hw (ce_3 (S := S) hk1) rfl 1 (by decide) (hts (.fieldLink RX1 13 "TubePost$Entry" "period" "I") (by decide +kernel)) (fun _ h9 => h9) rfl dX1_isDueAt_1 ?_
  refine lv_iconst (v := (1 : Int32)) hx hb dX1_isDueAt_4 (by decide) ?_
  refine lv_icmp_ge (tgt := 22) hx hb dX1_isDueAt_5 (by decide) (fun hc => ?_) (fun hc => ?_)
  · have h := h.1 hc
    refine lv_iload_n hx hb dX1_isDueAt_22 rfl (lv_at hl 1 rfl) ?_
    refine lv_aload_n hx hb dX1_isDueAt_23 rfl (lv_at hl 0 rfl) ?_
    refine r_get (ci := 2) (v := .int (gV S 3 this 0)) (C := RX1) (T := TX1) (N := 5) hx hb hts hiX1 hown hK hw (ce_3 (S := S) hk1) rfl 0 (by decide) (hts (.fieldLink RX1 7 "TubePost$Entry" "first" "I") (by decide +kernel)) (fun _ h9 => h9) rfl dX1_isDueAt_24 ?_
    refine lv_icmp_lt (tgt := 48) hx hb dX1_isDueAt_27 (by decide) (fun hc => ?_) (fun hc => ?_)
    · have h := h.1 hc
      exact hB48 _ _ _ _ h hw hS (lv_sub hl [] rfl)
    · have h := h.2 hc
      refine lv_iload_n hx hb dX1_isDueAt_30 rfl (lv_at hl 1 rfl) ?_
      refine lv_aload_n hx hb dX1_isDueAt_31 rfl (lv_at hl 0 rfl) ?_
      refine r_get (ci := 2) (v := .int (gV S 3 this 0)) (C := RX1) (T := TX1) (N := 5) hx hb hts hiX1 hown hK hw (ce_3 (S := S) hk1) rfl 0 (by decide) (hts (.fieldLink RX1 7 "TubePost$Entry" "first" "I") (by decide +kernel)) (fun _ h9 => h9) rfl dX1_isDueAt_32 ?_
      refine lv_isub hx hb dX1_isDueAt_35 ?_
      refine lv_aload_n hx hb dX1_isDueAt_36 rfl (lv_at hl 0 rfl) ?_
      refine r_get (ci := 2) (v := .int (gV S 3 this 1)) (C := RX1) (T := TX1) (N := 5) hx hb hts hiX1 hown hK hw (ce_3 (S := S) hk1) rfl 1 (by decide) (hts (.fieldLink RX1 13 "TubePost$Entry" "period" "I") (by decide +kernel)) (fun _ h9 => h9) rfl dX1_isDueAt_37 ?_
      obtain ⟨hne, h⟩ := h
      refine lv_irem hx hb dX1_isDueAt_40 hne ?_
      refine lv_if_ne (tgt := 48) hx hb dX1_isDueAt_41 (by decide) (fun hc => ?_) (fun hc => ?_)
      · have h := h.1 hc
        exact hB48 _ _ _ _ h hw hS (lv_sub hl [] rfl)
      · have h := h.2 hc
        refine lv_iconst (v := (1 : Int32)) hx hb dX1_isDueAt_44 (by decide) ?_
        refine lv_goto (tgt := 49) hx hb dX1_isDueAt_45 (by decide) ?_
        exact hB49 _ _ _ _ _ h hw hS (lv_sub hl [] rfl)
  · have h := h.2 hc
    refine lv_iload_n hx hb dX1_isDueAt_8 rfl (lv_at hl 1 rfl) ?_
    refine lv_aload_n hx hb dX1_isDueAt_9 rfl (lv_at hl 0 rfl) ?_
    refine r_get (ci := 2) (v := .int (gV S 3 this 0)) (C := RX1) (T := TX1) (N := 5) hx hb hts hiX1 hown hK hw (ce_3 (S := S) hk1) rfl 0 (by decide) (hts (.fieldLink RX1 7 "TubePost$Entry" "first" "I") (by decide +kernel)) (fun _ h9 => h9) rfl dX1_isDueAt_10 ?_
    refine lv_icmp_ne (tgt := 20) hx hb dX1_isDueAt_13 (by decide) (fun hc => ?_) (fun hc => ?_)
    · have h := h.1 hc
      refine lv_iconst (v := (0 : Int32)) hx hb dX1_isDueAt_20 (by decide) ?_
      exact hB21 _ _ _ _ _ h hw hS (lv_sub hl [] rfl)
    · have h := h.2 hc
      refine lv_iconst (v := (1 : Int32)) hx hb dX1_isDueAt_16 (by decide) ?_
      refine lv_goto (tgt := 21) hx hb dX1_isDueAt_17 (by decide) ?_
      exact hB21 _ _ _ _ _ h hw hS (lv_sub hl [] rfl)
def wp_X2_init (post : bS → Prop) (MC MS : Nat) (this : Nat) (S : bS) : Prop := 1 ≤ MC ∧ 3 ≤ MS ∧ (∀ q1, gK S q1 = 0 → (wp_Jx4a65c_init_da8c8 (fun S5 => gK S5 this = 4 ∧ (1 ≤ (MC - 1) ∧ 3 ≤ (MS - 3) ∧ (∀ q7, gK (sQ S5 4 this 0 (some q1)) q7 = 0 → (wp_Jx4a65c_init_da8c8 (fun S12 => gK S12 this = 4 ∧ (¬ (14 : Int32) < 0 ∧ ¬ (14 : Int32) < 0 ∧ (Int32.toNatClampNeg (14 : Int32)) * 4 ≤ 536870912 ∧ (Int32.toNatClampNeg (14 : Int32)) * 4 ≤ 536870912 ∧ (1 + (Int32.toNatClampNeg (14 : Int32))) ≤ ((MC - 1) - 1) ∧ ((Int32.toNatClampNeg (14 : Int32)) + (Int32.toNatClampNeg (14 : Int32)) * (Int32.toNatClampNeg (14 : Int32))) ≤ ((MS - 3) - 3) ∧ (∀ (q14 : Nat) (r15 : Nat → Nat), gK (sQ S12 4 this 1 (some q7)) q14 = 0 → (∀ i, i < (Int32.toNatClampNeg (14 : Int32)) → gK (sQ S12 4 this 1 (some q7)) (r15 i) = 0 ∧ r15 i ≠ q14) → (∀ i j : Nat, i < (Int32.toNatClampNeg (14 : Int32)) → j < (Int32.toNatClampNeg (14 : Int32)) → r15 i = r15 j → i = j) → (¬ (14 : Int32) < 0 ∧ (Int32.toNatClampNeg (14 : Int32)) * 1 ≤ 536870912 ∧ 1 ≤ (((MC - 1) - 1) - (1 + (Int32.toNatClampNeg (14 : Int32)))) ∧ (Int32.toNatClampNeg (14 : Int32)) ≤ (((MS - 3) - 3) - ((Int32.toNatClampNeg (14 : Int32)) + (Int32.toNatClampNeg (14 : Int32)) * (Int32.toNatClampNeg (14 : Int32)))) ∧ (∀ q18, gK (sQ (sMn (sQ S12 4 this 1 (some q7)) q14 r15 (Int32.toNatClampNeg (14 : Int32)) (Int32.toNatClampNeg (14 : Int32))) 4 this 2 (some q14)) q18 = 0 → (¬ (14 : Int32) < 0 ∧ (Int32.toNatClampNeg (14 : Int32)) * 4 ≤ 536870912 ∧ 1 ≤ ((((MC - 1) - 1) - (1 + (Int32.toNatClampNeg (14 : Int32)))) - 1) ∧ (Int32.toNatClampNeg (14 : Int32)) ≤ ((((MS - 3) - 3) - ((Int32.toNatClampNeg (14 : Int32)) + (Int32.toNatClampNeg (14 : Int32)) * (Int32.toNatClampNeg (14 : Int32)))) - (Int32.toNatClampNeg (14 : Int32))) ∧ (∀ q23, gK (sQ (sNew (sQ (sMn (sQ S12 4 this 1 (some q7)) q14 r15 (Int32.toNatClampNeg (14 : Int32)) (Int32.toNatClampNeg (14 : Int32))) 4 this 2 (some q14)) q18 10 (Int32.toNatClampNeg (14 : Int32))) 4 this 3 (some q18)) q23 = 0 → (¬ (14 : Int32) < 0 ∧ (Int32.toNatClampNeg (14 : Int32)) * 4 ≤ 536870912 ∧ 1 ≤ (((((MC - 1) - 1) - (1 + (Int32.toNatClampNeg (14 : Int32)))) - 1) - 1) ∧ (Int32.toNatClampNeg (14 : Int32)) ≤ (((((MS - 3) - 3) - ((Int32.toNatClampNeg (14 : Int32)) + (Int32.toNatClampNeg (14 : Int32)) * (Int32.toNatClampNeg (14 : Int32)))) - (Int32.toNatClampNeg (14 : Int32))) - (Int32.toNatClampNeg (14 : Int32))) ∧ (∀ q29, gK (sQ (sNew (sQ (sNew (sQ (sMn (sQ S12 4 this 1 (some q7)) q14 r15 (Int32.toNatClampNeg (14 : Int32)) (Int32.toNatClampNeg (14 : Int32))) 4 this 2 (some q14)) q18 10 (Int32.toNatClampNeg (14 : Int32))) 4 this 3 (some q18)) q23 9 (Int32.toNatClampNeg (14 : Int32))) 4 this 4 (some q23)) q29 = 0 → (post (sQ (sNew (sQ (sNew (sQ (sNew (sQ (sMn (sQ S12 4 this 1 (some q7)) q14 r15 (Int32.toNatClampNeg (14 : Int32)) (Int32.toNatClampNeg (14 : Int32))) 4 this 2 (some q14)) q18 10 (Int32.toNatClampNeg (14 : Int32))) 4 this 3 (some q18)) q23 9 (Int32.toNatClampNeg (14 : Int32))) 4 this 4 (some q23)) q29 9 (Int32.toNatClampNeg (14 : Int32))) 4 this 5 (some q29)))))))))))) q7 (sNew (sQ S5 4 this 0 (some q1)) q7 1 0))))) q1 (sNew S q1 1 0)))
set_option maxHeartbeats 4000000 in
set_option maxRecDepth 100000 in
theorem m_X2_init {l : Launch} {D : va_G} {y : Nat → ClassId} {z : Nat} {A : Nat → Prop} {S : bS} {post : bS → Prop} {MC MS : Nat} {this : Nat} (h : wp_X2_init post MC MS this S) : Met l yX2_init wsX2_init ({ frames := 4, cells := MC, slots := MS, locals := 80 } : Room) (va_Pc ([Value.ref this] : List Value) (bP D y z S A)) (va_Qv post (fun S' t => wd D y z S' A t.heap) A) MC MS A := by
  refine Met.ofW (cc := cX2_init) (maxL := 1) (ret := none) (by decide) rfl ?_
  intro p e s m args below meth c s₁ B hml hv
  obtain ⟨rfl, hB⟩ := hv
  have hx := B.exec
  have hb := B.bytes
  have hr := B.returns
  have hts := atoms_spec (ws := wsX2_init) B.pre
  have hown : s.vm.findClass RX2 = some m.cls := findClass_of_methodNamed B.named
  have hlocks := B.notSynchronized
  have hin : meth.name = "<init>" := (name_of_methodNamed B.named B.method).1
  have hw : wd D y z S A s.heap := hB.1
  have hK : va_K D bCl (bT y) s := hB.2.1
  have hNw := hB.2.2.1
  have hAn : ∀ q : Nat, s.heap.size ≤ q → A q := hB.2.2.2.1
  have hAz : ¬ A z := hB.2.2.2.2.1
  have hO := hB.2.2.2.2.2.1
  have hS : va_S A s.heap s.heap [] := va_S.rf
  have hiJx4a65c : ∀ w ∈ u_ws RJx4a65c TJx4a65c 3, w ∈ wsX2_init := by decide +kernel
  have hiX2 : ∀ w ∈ u_ws RX2 TX2 6, w ∈ wsX2_init := by decide +kernel
  have hl := lv_entry ([Value.ref this] : List Value) (n := 1) (Nat.le_of_ble_eq_true rfl)
  rw [lg_entry_eq]
  generalize (lg_sl ([Value.ref this] : List Value) ++ List.replicate (1 - (lg_sl ([Value.ref this] : List Value)).length) Slot.unset).toArray = ls at hl ⊢
  have hl : lv_has ls 1 [(0, .ref this)] := hl
  obtain ⟨Q, hQ⟩ : ∃ Q, Q = MQ below (va_Qv post (fun S' t => wd D y z S' A t.heap) A) (([Value.ref this] : List Value).toArray) s MC MS A := ⟨_, rfl⟩
  rw [← hQ]
  generalize hR : (headSpec wsX2_init ({ frames := 4, cells := MC, slots := MS, locals := 80 } : Room)).room = R
  have hRf : 4 ≤ R.frames := by rw [← hR]; exact Nat.le_refl _
  have hRl : 80 ≤ R.locals := by rw [← hR]; exact Nat.le_refl _
  have hRc : R.cells = MC := by rw [← hR]; rfl
  have hRs : R.slots = MS := by rw [← hR]; rfl
  have hret : ∀ (S : bS) (H : Heap) (locs : List Loc) (pc : Nat) (ls : Array Slot) (cu su : Nat) , post S → wd D y z S A H → va_S A s.heap H locs → cu ≤ MC → su ≤ MS → decode cX2_init pc = .ok (.return_, 1) → W p l e R s m (([Value.ref this] : List Value).toArray) below meth c H locs cu su Q (F0 m pc ls []) := by
    intro S H locs pc ls cu su h hw hS hcu hsu d0
    rw [hQ]; refine W.widen hcu hsu ?_; exact W.vret hx hb hr (fun t ht hW => ⟨⟨S, rfl, h, by show wd D y z S A t.heap; rw [ht]; exact hw⟩, hS.F ht⟩) hS.2.2 d0 hlocks
  unfold wp_X2_init at h
  have hcu : 0 + MC ≤ MC := by omega
  have hsu : 0 + MS ≤ MS := by omega
  refine lv_aload_n hx hb dX2_init_0 rfl (lv_at hl 0 rfl) ?_
  refine W.objInit hx hb hown (hts (.methodLink RX2 3 objectInit) (by decide +kernel)) (hts (.instanceMethod objectInit) (by decide +kernel)) (hts (.code objectInit ⟨#[0xb1]⟩ 1 none) (by decide +kernel)) rfl (by rw [hml]; exact hl.1) rfl dX2_init_1 (Nat.le_trans (Nat.le_of_ble_eq_true rfl) hRf) (Nat.le_trans (Nat.le_of_ble_eq_true rfl) hRl) ?_
  refine W.eq (g2 := F0 m 4 ls []) rfl ?_
  refine lv_aload_n hx hb dX2_init_4 rfl (lv_at hl 0 rfl) ?_
  obtain ⟨hbg1, hbg2, h⟩ := h
  refine r_new (ci := 0) (C := RJx4a65c) (T := TJx4a65c) (N := 3) (κ := 1) (nn := 0) hx hb hts hiJx4a65c tyJx4a65c tyJx4a65c_ok hown (hts (.classLink RX2 9 RJx4a65c) (by decide +kernel)) (hts (.instantiable RJx4a65c 3) (by decide +kernel)) (hts (.initialized RJx4a65c) (by decide +kernel)) hK hw hS hAn hAz rfl pn_1 (Nat.le_of_ble_eq_true rfl) b_fs1 (by omega) (by omega) dX2_init_5 (fun q1 H hq2 hw hS => ?_)
  have h := h q1 hq2
  have hk3 : gK (sNew S q1 1 0) q1 = 1 := if_pos rfl
  have hcu : (0 + 1) + (MC - 1) ≤ MC := by omega
  have hsu : (0 + 3) + (MS - 3) ≤ MS := by omega
  refine lv_dup hx hb dX2_init_8 rfl ?_
  have h1 := h
  refine va_callv (va_runI (As := []) (rest := [.ref q1, .ref this]) ⟨hx, hb, hml, hown, hts⟩ (m_Jx4a65c_init_da8c8 (l := l) h1) (cwI 0 hts gX2_init_Jx4a65c_init_da8c8 rfl rfl rfl (hts (.initialized RJx4a65c) (by decide +kernel)) (hts (.methodLink RX2 11 yJx4a65c_init_da8c8) (by decide +kernel)) (hts (.instanceMethod yJx4a65c_init_da8c8) (by decide +kernel)) rfl (by decide +kernel) ⟨Nat.le_trans (Nat.le_of_ble_eq_true rfl) hRf, Nat.le_trans (Nat.le_of_ble_eq_true rfl) hRl⟩) (r_pS hB hw hS) rfl rfl hl.1 rfl (lv_room (Nat.le_of_ble_eq_true rfl)) dX2_init_9 ⟨by omega, by omega⟩) hS (fun _ _ h => h) (fun _ h => h) (fun S5 t H1 locs ht _ h hw1 _ _ hS => ?_)
  subst ht
  have hw : wd D y z S5 A t.heap := hw1
  clear hw1 h1
  obtain ⟨hk6, h⟩ := h
  refine r_putQF (κ := 4) (ci := 3) (C := RX2) (T := TX2) (N := 6) (ty := (tyX2 0)) (x := (some q1)) hx hb hts hiX2 tyX2 tyX2_ok nmX2 hown hK hw hS (ce_4 (S := S5) hk6) rfl 0 (by decide) (hts (.fieldLink RX2 12 "TubePost$Net" "stations" "Ljava/util/ArrayList;") (by decide +kernel)) (fun _ h9 => h9) rfl hin rfl (by decide +kernel) rfl rfl (Nat.le_of_ble_eq_true rfl) (pu_4_0 (S := S5) hk6) dX2_init_12 (fun H locs hw hS => ?_)
  refine lv_aload_n hx hb dX2_init_15 rfl (lv_at hl 0 rfl) ?_
  obtain ⟨hbg1, hbg2, h⟩ := h
  refine r_new (ci := 0) (C := RJx4a65c) (T := TJx4a65c) (N := 3) (κ := 1) (nn := 0) hx hb hts hiJx4a65c tyJx4a65c tyJx4a65c_ok hown (hts (.classLink RX2 9 RJx4a65c) (by decide +kernel)) (hts (.instantiable RJx4a65c 3) (by decide +kernel)) (hts (.initialized RJx4a65c) (by decide +kernel)) hK hw hS hAn hAz rfl pn_1 (Nat.le_of_ble_eq_true rfl) b_fs1 (by omega) (by omega) dX2_init_16 (fun q7 H hq8 hw hS => ?_)
  have h := h q7 hq8
  have hk9 : gK (sNew (sQ S5 4 this 0 (some q1)) q7 1 0) this = 4 := b_old hk6 hq8 (by decide)
  have hk10 : gK (sNew (sQ S5 4 this 0 (some q1)) q7 1 0) q7 = 1 := if_pos rfl
  have hcu : ((0 + 1) + 1) + ((MC - 1) - 1) ≤ MC := by omega
  have hsu : ((0 + 3) + 3) + ((MS - 3) - 3) ≤ MS := by omega
  refine lv_dup hx hb dX2_init_19 rfl ?_
  have h1 := h
  refine va_callv (va_runI (As := []) (rest := [.ref q7, .ref this]) ⟨hx, hb, hml, hown, hts⟩ (m_Jx4a65c_init_da8c8 (l := l) h1) (cwI 0 hts gX2_init_Jx4a65c_init_da8c8 rfl rfl rfl (hts (.initialized RJx4a65c) (by decide +kernel)) (hts (.methodLink RX2 11 yJx4a65c_init_da8c8) (by decide +kernel)) (hts (.instanceMethod yJx4a65c_init_da8c8) (by decide +kernel)) rfl (by decide +kernel) ⟨Nat.le_trans (Nat.le_of_ble_eq_true rfl) hRf, Nat.le_trans (Nat.le_of_ble_eq_true rfl) hRl⟩) (r_pS hB hw hS) rfl rfl hl.1 rfl (lv_room (Nat.le_of_ble_eq_true rfl)) dX2_init_20 ⟨by omega, by omega⟩) hS (fun _ _ h => h) (fun _ h => h) (fun S12 t H1 locs ht _ h hw1 _ _ hS => ?_)
  subst ht
  have hw : wd D y z S12 A t.heap := hw1
  clear hw1 h1
  obtain ⟨hk13, h⟩ := h
  refine r_putQF (κ := 4) (ci := 3) (C := RX2) (T := TX2) (N := 6) (ty := (tyX2 1)) (x := (some q7)) hx hb hts hiX2 tyX2 tyX2_ok nmX2 hown hK hw hS (ce_4 (S := S12) hk13) rfl 1 (by decide) (hts (.fieldLink RX2 18 "TubePost$Net" "tubes" "Ljava/util/ArrayList;") (by decide +kernel)) (fun _ h9 => h9) rfl hin rfl (by decide +kernel) rfl rfl (Nat.le_of_ble_eq_true rfl) (pu_4_1 (S := S12) hk13) dX2_init_23 (fun H locs hw hS => ?_)
  refine lv_aload_n hx hb dX2_init_26 rfl (lv_at hl 0 rfl) ?_
  refine lv_bipush (v := (14 : Int32)) hx hb dX2_init_27 (by decide) ?_
  refine lv_bipush (v := (14 : Int32)) hx hb dX2_init_29 (by decide) ?_
  obtain ⟨hn0, hn1, hb1, hb2, hbg1, hbg2, h⟩ := h
  refine r_mna hx hb hown (hts (.classLink RX2 21 "[[I") (by decide +kernel)) hO.2.2.1 (hts (.arrayClass .int) (by decide +kernel)) hK hw hS hAn hAz hn0 hn1 rfl rfl hb1 hb2 (by omega) (by omega) dX2_init_31 (fun q14 r15 H hq9 hr9 hi9 hw hS => ?_)
  have h := h q14 r15 hq9 hr9 hi9
  have hk16 : gK (sMn (sQ S12 4 this 1 (some q7)) q14 r15 (Int32.toNatClampNeg (14 : Int32)) (Int32.toNatClampNeg (14 : Int32))) this = 4 := b_oldM hk13 (by decide) hq9 hr9
  have hk17 : gK (sMn (sQ S12 4 this 1 (some q7)) q14 r15 (Int32.toNatClampNeg (14 : Int32)) (Int32.toNatClampNeg (14 : Int32))) q14 = 12 := sMn_out.1
  have hcu : (((0 + 1) + 1) + 1 + (Int32.toNatClampNeg (14 : Int32))) + (((MC - 1) - 1) - (1 + (Int32.toNatClampNeg (14 : Int32)))) ≤ MC := by omega
  have hsu : (((0 + 3) + 3) + (Int32.toNatClampNeg (14 : Int32)) + (Int32.toNatClampNeg (14 : Int32)) * (Int32.toNatClampNeg (14 : Int32))) + (((MS - 3) - 3) - ((Int32.toNatClampNeg (14 : Int32)) + (Int32.toNatClampNeg (14 : Int32)) * (Int32.toNatClampNeg (14 : Int32)))) ≤ MS := by omega
  refine r_putQF (κ := 4) (ci := 3) (C := RX2) (T := TX2) (N := 6) (ty := (tyX2 2)) (x := (some q14)) hx hb hts hiX2 tyX2 tyX2_ok nmX2 hown hK hw hS (ce_4 (S := (sMn (sQ S12 4 this 1 (some q7)) q14 r15 (Int32.toNatClampNeg (14 : Int32)) (Int32.toNatClampNeg (14 : Int32)))) hk16) rfl 2 (by decide) (hts (.fieldLink RX2 23 "TubePost$Net" "timesToAims" "[[I") (by decide +kernel)) (fun _ h9 => h9) rfl hin rfl (by decide +kernel) rfl rfl (Nat.le_of_ble_eq_true rfl) (pu_4_2 (S := (sMn (sQ S12 4 this 1 (some q7)) q14 r15 (Int32.toNatClampNeg (14 : Int32)) (Int32.toNatClampNeg (14 : Int32)))) hk16) dX2_init_35 (fun H locs hw hS => ?_)
  refine lv_aload_n hx hb dX2_init_38 rfl (lv_at hl 0 rfl) ?_
  refine lv_bipush (v := (14 : Int32)) hx hb dX2_init_39 (by decide) ?_
  obtain ⟨hn0, hn1, hbg1, hbg2, h⟩ := h
  refine r_newa10 hx hb (hts (.arrayClass .boolean) (by decide +kernel)) hK hw hS hAn hAz hn0 rfl hn1 (by omega) (by omega) dX2_init_41 (fun q18 H hq19 hw hS => ?_)
  have h := h q18 hq19
  have hk20 : gK (sNew (sQ (sMn (sQ S12 4 this 1 (some q7)) q14 r15 (Int32.toNatClampNeg (14 : Int32)) (Int32.toNatClampNeg (14 : Int32))) 4 this 2 (some q14)) q18 10 (Int32.toNatClampNeg (14 : Int32))) this = 4 := b_old hk16 hq19 (by decide)
  have hk21 : gK (sNew (sQ (sMn (sQ S12 4 this 1 (some q7)) q14 r15 (Int32.toNatClampNeg (14 : Int32)) (Int32.toNatClampNeg (14 : Int32))) 4 this 2 (some q14)) q18 10 (Int32.toNatClampNeg (14 : Int32))) q14 = 12 := b_old hk17 hq19 (by decide)
  have hk22 : gK (sNew (sQ (sMn (sQ S12 4 this 1 (some q7)) q14 r15 (Int32.toNatClampNeg (14 : Int32)) (Int32.toNatClampNeg (14 : Int32))) 4 this 2 (some q14)) q18 10 (Int32.toNatClampNeg (14 : Int32))) q18 = 10 := if_pos rfl
  have hcu : ((((0 + 1) + 1) + 1 + (Int32.toNatClampNeg (14 : Int32))) + 1) + ((((MC - 1) - 1) - (1 + (Int32.toNatClampNeg (14 : Int32)))) - 1) ≤ MC := by omega
  have hsu : ((((0 + 3) + 3) + (Int32.toNatClampNeg (14 : Int32)) + (Int32.toNatClampNeg (14 : Int32)) * (Int32.toNatClampNeg (14 : Int32))) + (Int32.toNatClampNeg (14 : Int32))) + ((((MS - 3) - 3) - ((Int32.toNatClampNeg (14 : Int32)) + (Int32.toNatClampNeg (14 : Int32)) * (Int32.toNatClampNeg (14 : Int32)))) - (Int32.toNatClampNeg (14 : Int32))) ≤ MS := by omega
  refine r_putQF (κ := 4) (ci := 3) (C := RX2) (T := TX2) (N := 6) (ty := (tyX2 3)) (x := (some q18)) hx hb hts hiX2 tyX2 tyX2_ok nmX2 hown hK hw hS (ce_4 (S := (sNew (sQ (sMn (sQ S12 4 this 1 (some q7)) q14 r15 (Int32.toNatClampNeg (14 : Int32)) (Int32.toNatClampNeg (14 : Int32))) 4 this 2 (some q14)) q18 10 (Int32.toNatClampNeg (14 : Int32)))) hk20) rfl 3 (by decide) (hts (.fieldLink RX2 26 "TubePost$Net" "isReckoned" "[Z") (by decide +kernel)) (fun _ h9 => h9) rfl hin rfl (by decide +kernel) rfl rfl (Nat.le_of_ble_eq_true rfl) (pu_4_3 (S := (sNew (sQ (sMn (sQ S12 4 this 1 (some q7)) q14 r15 (Int32.toNatClampNeg (14 : Int32)) (Int32.toNatClampNeg (14 : Int32))) 4 this 2 (some q14)) q18 10 (Int32.toNatClampNeg (14 : Int32)))) hk20) dX2_init_43 (fun H locs hw hS => ?_)
  refine lv_aload_n hx hb dX2_init_46 rfl (lv_at hl 0 rfl) ?_
  refine lv_bipush (v := (14 : Int32)) hx hb dX2_init_47 (by decide) ?_
  obtain ⟨hn0, hn1, hbg1, hbg2, h⟩ := h
  refine r_newa9 hx hb (hts (.arrayClass .int) (by decide +kernel)) hK hw hS hAn hAz hn0 rfl hn1 (by omega) (by omega) dX2_init_49 (fun q23 H hq24 hw hS => ?_)
  have h := h q23 hq24
  have hk25 : gK (sNew (sQ (sNew (sQ (sMn (sQ S12 4 this 1 (some q7)) q14 r15 (Int32.toNatClampNeg (14 : Int32)) (Int32.toNatClampNeg (14 : Int32))) 4 this 2 (some q14)) q18 10 (Int32.toNatClampNeg (14 : Int32))) 4 this 3 (some q18)) q23 9 (Int32.toNatClampNeg (14 : Int32))) this = 4 := b_old hk20 hq24 (by decide)
  have hk26 : gK (sNew (sQ (sNew (sQ (sMn (sQ S12 4 this 1 (some q7)) q14 r15 (Int32.toNatClampNeg (14 : Int32)) (Int32.toNatClampNeg (14 : Int32))) 4 this 2 (some q14)) q18 10 (Int32.toNatClampNeg (14 : Int32))) 4 this 3 (some q18)) q23 9 (Int32.toNatClampNeg (14 : Int32))) q14 = 12 := b_old hk21 hq24 (by decide)
  have hk27 : gK (sNew (sQ (sNew (sQ (sMn (sQ S12 4 this 1 (some q7)) q14 r15 (Int32.toNatClampNeg (14 : Int32)) (Int32.toNatClampNeg (14 : Int32))) 4 this 2 (some q14)) q18 10 (Int32.toNatClampNeg (14 : Int32))) 4 this 3 (some q18)) q23 9 (Int32.toNatClampNeg (14 : Int32))) q18 = 10 := b_old hk22 hq24 (by decide)
  have hk28 : gK (sNew (sQ (sNew (sQ (sMn (sQ S12 4 this 1 (some q7)) q14 r15 (Int32.toNatClampNeg (14 : Int32)) (Int32.toNatClampNeg (14 : Int32))) 4 this 2 (some q14)) q18 10 (Int32.toNatClampNeg (14 : Int32))) 4 this 3 (some q18)) q23 9 (Int32.toNatClampNeg (14 : Int32))) q23 = 9 := if_pos rfl
  have hcu : (((((0 + 1) + 1) + 1 + (Int32.toNatClampNeg (14 : Int32))) + 1) + 1) + (((((MC - 1) - 1) - (1 + (Int32.toNatClampNeg (14 : Int32)))) - 1) - 1) ≤ MC := by omega
  have hsu : (((((0 + 3) + 3) + (Int32.toNatClampNeg (14 : Int32)) + (Int32.toNatClampNeg (14 : Int32)) * (Int32.toNatClampNeg (14 : Int32))) + (Int32.toNatClampNeg (14 : Int32))) + (Int32.toNatClampNeg (14 : Int32))) + (((((MS - 3) - 3) - ((Int32.toNatClampNeg (14 : Int32)) + (Int32.toNatClampNeg (14 : Int32)) * (Int32.toNatClampNeg (14 : Int32)))) - (Int32.toNatClampNeg (14 : Int32))) - (Int32.toNatClampNeg (14 : Int32))) ≤ MS := by omega
  refine r_putQF (κ := 4) (ci := 3) (C := RX2) (T := TX2) (N := 6) (ty := (tyX2 4)) (x := (some q23)) hx hb hts hiX2 tyX2 tyX2_ok nmX2 hown hK hw hS (ce_4 (S := (sNew (sQ (sNew (sQ (sMn (sQ S12 4 this 1 (some q7)) q14 r15 (Int32.toNatClampNeg (14 : Int32)) (Int32.toNatClampNeg (14 : Int32))) 4 this 2 (some q14)) q18 10 (Int32.toNatClampNeg (14 : Int32))) 4 this 3 (some q18)) q23 9 (Int32.toNatClampNeg (14 : Int32)))) hk25) rfl 4 (by decide) (hts (.fieldLink RX2 30 "TubePost$Net" "reach" "[I") (by decide +kernel)) (fun _ h9 => h9) rfl hin rfl (by decide +kernel) rfl rfl (Nat.le_of_ble_eq_true rfl) (pu_4_4 (S := (sNew (sQ (sNew (sQ (sMn (sQ S12 4 this 1 (some q7)) q14 r15 (Int32.toNatClampNeg (14 : Int32)) (Int32.toNatClampNeg (14 : Int32))) 4 this 2 (some q14)) q18 10 (Int32.toNatClampNeg (14 : Int32))) 4 this 3 (some q18)) q23 9 (Int32.toNatClampNeg (14 : Int32)))) hk25) dX2_init_51 (fun H locs hw hS => ?_)
  refine lv_aload_n hx hb dX2_init_54 rfl (lv_at hl 0 rfl) ?_
  refine lv_bipush (v := (14 : Int32)) hx hb dX2_init_55 (by decide) ?_
  obtain ⟨hn0, hn1, hbg1, hbg2, h⟩ := h
  refine r_newa9 hx hb (hts (.arrayClass .int) (by decide +kernel)) hK hw hS hAn hAz hn0 rfl hn1 (by omega) (by omega) dX2_init_57 (fun q29 H hq30 hw hS => ?_)
  have h := h q29 hq30
  have hk31 : gK (sNew (sQ (sNew (sQ (sNew (sQ (sMn (sQ S12 4 this 1 (some q7)) q14 r15 (Int32.toNatClampNeg (14 : Int32)) (Int32.toNatClampNeg (14 : Int32))) 4 this 2 (some q14)) q18 10 (Int32.toNatClampNeg (14 : Int32))) 4 this 3 (some q18)) q23 9 (Int32.toNatClampNeg (14 : Int32))) 4 this 4 (some q23)) q29 9 (Int32.toNatClampNeg (14 : Int32))) this = 4 := b_old hk25 hq30 (by decide)
  have hk32 : gK (sNew (sQ (sNew (sQ (sNew (sQ (sMn (sQ S12 4 this 1 (some q7)) q14 r15 (Int32.toNatClampNeg (14 : Int32)) (Int32.toNatClampNeg (14 : Int32))) 4 this 2 (some q14)) q18 10 (Int32.toNatClampNeg (14 : Int32))) 4 this 3 (some q18)) q23 9 (Int32.toNatClampNeg (14 : Int32))) 4 this 4 (some q23)) q29 9 (Int32.toNatClampNeg (14 : Int32))) q14 = 12 := b_old hk26 hq30 (by decide)
  have hk33 : gK (sNew (sQ (sNew (sQ (sNew (sQ (sMn (sQ S12 4 this 1 (some q7)) q14 r15 (Int32.toNatClampNeg (14 : Int32)) (Int32.toNatClampNeg (14 : Int32))) 4 this 2 (some q14)) q18 10 (Int32.toNatClampNeg (14 : Int32))) 4 this 3 (some q18)) q23 9 (Int32.toNatClampNeg (14 : Int32))) 4 this 4 (some q23)) q29 9 (Int32.toNatClampNeg (14 : Int32))) q18 = 10 := b_old hk27 hq30 (by decide)
  have hk34 : gK (sNew (sQ (sNew (sQ (sNew (sQ (sMn (sQ S12 4 this 1 (some q7)) q14 r15 (Int32.toNatClampNeg (14 : Int32)) (Int32.toNatClampNeg (14 : Int32))) 4 this 2 (some q14)) q18 10 (Int32.toNatClampNeg (14 : Int32))) 4 this 3 (some q18)) q23 9 (Int32.toNatClampNeg (14 : Int32))) 4 this 4 (some q23)) q29 9 (Int32.toNatClampNeg (14 : Int32))) q23 = 9 := b_old hk28 hq30 (by decide)
  have hk35 : gK (sNew (sQ (sNew (sQ (sNew (sQ (sMn (sQ S12 4 this 1 (some q7)) q14 r15 (Int32.toNatClampNeg (14 : Int32)) (Int32.toNatClampNeg (14 : Int32))) 4 this 2 (some q14)) q18 10 (Int32.toNatClampNeg (14 : Int32))) 4 this 3 (some q18)) q23 9 (Int32.toNatClampNeg (14 : Int32))) 4 this 4 (some q23)) q29 9 (Int32.toNatClampNeg (14 : Int32))) q29 = 9 := if_pos rfl
  have hcu : ((((((0 + 1) + 1) + 1 + (Int32.toNatClampNeg (14 : Int32))) + 1) + 1) + 1) + ((((((MC - 1) - 1) - (1 + (Int32.toNatClampNeg (14 : Int32)))) - 1) - 1) - 1) ≤ MC := by omega
  have hsu : ((((((0 + 3) + 3) + (Int32.toNatClampNeg (14 : Int32)) + (Int32.toNatClampNeg (14 : Int32)) * (Int32.toNatClampNeg (14 : Int32))) + (Int32.toNatClampNeg (14 : Int32))) + (Int32.toNatClampNeg (14 : Int32))) + (Int32.toNatClampNeg (14 : Int32))) + ((((((MS - 3) - 3) - ((Int32.toNatClampNeg (14 : Int32)) + (Int32.toNatClampNeg (14 : Int32)) * (Int32.toNatClampNeg (14 : Int32)))) - (Int32.toNatClampNeg (14 : Int32))) - (Int32.toNatClampNeg (14 : Int32))) - (Int32.toNatClampNeg (14 : Int32))) ≤ MS := by omega
  refine r_putQF (κ := 4) (ci := 3) (C := RX2) (T := TX2) (N := 6) (ty := (tyX2 5)) (x := (some q29)) hx hb hts hiX2 tyX2 tyX2_ok nmX2 hown hK hw hS (ce_4 (S := (sNew (sQ (sNew (sQ (sNew (sQ (sMn (sQ S12 4 this 1 (some q7)) q14 r15 (Int32.toNatClampNeg (14 : Int32)) (Int32.toNatClampNeg (14 : Int32))) 4 this 2 (some q14)) q18 10 (Int32.toNatClampNeg (14 : Int32))) 4 this 3 (some q18)) q23 9 (Int32.toNatClampNeg (14 : Int32))) 4 this 4 (some q23)) q29 9 (Int32.toNatClampNeg (14 : Int32)))) hk31) rfl 5 (by decide) (hts (.fieldLink RX2 34 "TubePost$Net" "reachWithout" "[I") (by decide +kernel)) (fun _ h9 => h9) rfl hin rfl (by decide +kernel) rfl rfl (Nat.le_of_ble_eq_true rfl) (pu_4_5 (S := (sNew (sQ (sNew (sQ (sNew (sQ (sMn (sQ S12 4 this 1 (some q7)) q14 r15 (Int32.toNatClampNeg (14 : Int32)) (Int32.toNatClampNeg (14 : Int32))) 4 this 2 (some q14)) q18 10 (Int32.toNatClampNeg (14 : Int32))) 4 this 3 (some q18)) q23 9 (Int32.toNatClampNeg (14 : Int32))) 4 this 4 (some q23)) q29 9 (Int32.toNatClampNeg (14 : Int32)))) hk31) dX2_init_59 (fun H locs hw hS => ?_)
  exact hret _ _ _ _ _ _ _ h hw hS (by omega) (by omega) dX2_init_62
def wp_X3_init (post : bS → Prop) (MC MS : Nat) (this : Nat) (p1 : Int32) (p2 : Int32) (p3 : Int32) (S : bS) : Prop := gK S this = 5 ∧ (1 ≤ MC ∧ 3 ≤ MS ∧ (∀ q2, gK (sV (sV (sV S 5 this 0 p1) 5 this 1 p2) 5 this 2 p3) q2 = 0 → (wp_Jx4a65c_init_da8c8 (fun S7 => gK S7 this = 5 ∧ (1 ≤ (MC - 1) ∧ 3 ≤ (MS - 3) ∧ (∀ q9, gK (sQ S7 5 this 3 (some q2)) q9 = 0 → (wp_Jx4a65c_init_da8c8 (fun S14 => gK S14 this = 5 ∧ (post (sV (sV (sQ S14 5 this 4 (some q9)) 5 this 5 (-1 : Int32)) 5 this 6 (0 : Int32)))) q9 (sNew (sQ S7 5 this 3 (some q2)) q9 1 0))))) q2 (sNew (sV (sV (sV S 5 this 0 p1) 5 this 1 p2) 5 this 2 p3) q2 1 0))))
set_option maxHeartbeats 4000000 in
set_option maxRecDepth 100000 in
theorem m_X3_init {l : Launch} {D : va_G} {y : Nat → ClassId} {z : Nat} {A : Nat → Prop} {S : bS} {post : bS → Prop} {MC MS : Nat} {this : Nat} {p1 : Int32} {p2 : Int32} {p3 : Int32} (h : wp_X3_init post MC MS this p1 p2 p3 S) : Met l yX3_init wsX3_init ({ frames := 4, cells := MC, slots := MS, locals := 80 } : Room) (va_Pc ([Value.ref this, Value.int p1, Value.int p2, Value.int p3] : List Value) (bP D y z S A)) (va_Qv post (fun S' t => wd D y z S' A t.heap) A) MC MS A := by
  refine Met.ofW (cc := cX3_init) (maxL := 4) (ret := none) (by decide) rfl ?_
  intro p e s m args below meth c s₁ B hml hv
  obtain ⟨rfl, hB⟩ := hv
  have hx := B.exec
  have hb := B.bytes
  have hr := B.returns
  have hts := atoms_spec (ws := wsX3_init) B.pre
  have hown : s.vm.findClass RX3 = some m.cls := findClass_of_methodNamed B.named
  have hlocks := B.notSynchronized
  have hin : meth.name = "<init>" := (name_of_methodNamed B.named B.method).1
  have hw : wd D y z S A s.heap := hB.1
  have hK : va_K D bCl (bT y) s := hB.2.1
  have hNw := hB.2.2.1
  have hAn : ∀ q : Nat, s.heap.size ≤ q → A q := hB.2.2.2.1
  have hAz : ¬ A z := hB.2.2.2.2.1
  have hO := hB.2.2.2.2.2.1
  have hS : va_S A s.heap s.heap [] := va_S.rf
  have hiJx4a65c : ∀ w ∈ u_ws RJx4a65c TJx4a65c 3, w ∈ wsX3_init := by decide +kernel
  have hiX3 : ∀ w ∈ u_ws RX3 TX3 7, w ∈ wsX3_init := by decide +kernel
  have hl := lv_entry ([Value.ref this, Value.int p1, Value.int p2, Value.int p3] : List Value) (n := 4) (Nat.le_of_ble_eq_true rfl)
  rw [lg_entry_eq]
  generalize (lg_sl ([Value.ref this, Value.int p1, Value.int p2, Value.int p3] : List Value) ++ List.replicate (4 - (lg_sl ([Value.ref this, Value.int p1, Value.int p2, Value.int p3] : List Value)).length) Slot.unset).toArray = ls at hl ⊢
  have hl : lv_has ls 4 [(0, .ref this), (1, .int p1), (2, .int p2), (3, .int p3)] := hl
  obtain ⟨Q, hQ⟩ : ∃ Q, Q = MQ below (va_Qv post (fun S' t => wd D y z S' A t.heap) A) (([Value.ref this, Value.int p1, Value.int p2, Value.int p3] : List Value).toArray) s MC MS A := ⟨_, rfl⟩
  rw [← hQ]
  generalize hR : (headSpec wsX3_init ({ frames := 4, cells := MC, slots := MS, locals := 80 } : Room)).room = R
  have hRf : 4 ≤ R.frames := by rw [← hR]; exact Nat.le_refl _
  have hRl : 80 ≤ R.locals := by rw [← hR]; exact Nat.le_refl _
  have hRc : R.cells = MC := by rw [← hR]; rfl
  have hRs : R.slots = MS := by rw [← hR]; rfl
  have hret : ∀ (S : bS) (H : Heap) (locs : List Loc) (pc : Nat) (ls : Array Slot) (cu su : Nat) , post S → wd D y z S A H → va_S A s.heap H locs → cu ≤ MC → su ≤ MS → decode cX3_init pc = .ok (.return_, 1) → W p l e R s m (([Value.ref this, Value.int p1, Value.int p2, Value.int p3] : List Value).toArray) below meth c H locs cu su Q (F0 m pc ls []) := by
    intro S H locs pc ls cu su h hw hS hcu hsu d0
    rw [hQ]; refine W.widen hcu hsu ?_; exact W.vret hx hb hr (fun t ht hW => ⟨⟨S, rfl, h, by show wd D y z S A t.heap; rw [ht]; exact hw⟩, hS.F ht⟩) hS.2.2 d0 hlocks
  unfold wp_X3_init at h
  have hcu : 0 + MC ≤ MC := by omega
  have hsu : 0 + MS ≤ MS := by omega
  refine lv_aload_n hx hb dX3_init_0 rfl (lv_at hl 0 rfl) ?_
  refine W.objInit hx hb hown (hts (.methodLink RX3 3 objectInit) (by decide +kernel)) (hts (.instanceMethod objectInit) (by decide +kernel)) (hts (.code objectInit ⟨#[0xb1]⟩ 1 none) (by decide +kernel)) rfl (by rw [hml]; exact hl.1) rfl dX3_init_1 (Nat.le_trans (Nat.le_of_ble_eq_true rfl) hRf) (Nat.le_trans (Nat.le_of_ble_eq_true rfl) hRl) ?_
  refine W.eq (g2 := F0 m 4 ls []) rfl ?_
  refine lv_aload_n hx hb dX3_init_4 rfl (lv_at hl 0 rfl) ?_
  refine lv_iload_n hx hb dX3_init_5 rfl (lv_at hl 1 rfl) ?_
  obtain ⟨hk1, h⟩ := h
  refine r_putIF (κ := 5) (ci := 4) (C := RX3) (T := TX3) (N := 7) (ty := .int) (x := p1) hx hb hts hiX3 tyX3 tyX3_ok nmX3 hown hK hw hS (ce_5 (S := S) hk1) rfl 0 (by decide) (hts (.fieldLink RX3 9 "TubePost$Station" "number" "I") (by decide +kernel)) (fun _ h9 => h9) rfl hin rfl (by decide +kernel) rfl rfl (Nat.le_of_ble_eq_true rfl) (pu_5_0 (S := S) hk1) dX3_init_6 (fun H locs hw hS => ?_)
  refine lv_aload_n hx hb dX3_init_9 rfl (lv_at hl 0 rfl) ?_
  refine lv_iload_n hx hb dX3_init_10 rfl (lv_at hl 2 rfl) ?_
  refine r_putIF (κ := 5) (ci := 4) (C := RX3) (T := TX3) (N := 7) (ty := .int) (x := p2) hx hb hts hiX3 tyX3 tyX3_ok nmX3 hown hK hw hS (ce_5 (S := (sV S 5 this 0 p1)) hk1) rfl 1 (by decide) (hts (.fieldLink RX3 15 "TubePost$Station" "room" "I") (by decide +kernel)) (fun _ h9 => h9) rfl hin rfl (by decide +kernel) rfl rfl (Nat.le_of_ble_eq_true rfl) (pu_5_1 (S := (sV S 5 this 0 p1)) hk1) dX3_init_11 (fun H locs hw hS => ?_)
  refine lv_aload_n hx hb dX3_init_14 rfl (lv_at hl 0 rfl) ?_
  refine lv_iload_n hx hb dX3_init_15 rfl (lv_at hl 3 rfl) ?_
  refine r_putIF (κ := 5) (ci := 4) (C := RX3) (T := TX3) (N := 7) (ty := .int) (x := p3) hx hb hts hiX3 tyX3 tyX3_ok nmX3 hown hK hw hS (ce_5 (S := (sV (sV S 5 this 0 p1) 5 this 1 p2)) hk1) rfl 2 (by decide) (hts (.fieldLink RX3 18 "TubePost$Station" "handling" "I") (by decide +kernel)) (fun _ h9 => h9) rfl hin rfl (by decide +kernel) rfl rfl (Nat.le_of_ble_eq_true rfl) (pu_5_2 (S := (sV (sV S 5 this 0 p1) 5 this 1 p2)) hk1) dX3_init_16 (fun H locs hw hS => ?_)
  refine lv_aload_n hx hb dX3_init_19 rfl (lv_at hl 0 rfl) ?_
  obtain ⟨hbg1, hbg2, h⟩ := h
  refine r_new (ci := 0) (C := RJx4a65c) (T := TJx4a65c) (N := 3) (κ := 1) (nn := 0) hx hb hts hiJx4a65c tyJx4a65c tyJx4a65c_ok hown (hts (.classLink RX3 21 RJx4a65c) (by decide +kernel)) (hts (.instantiable RJx4a65c 3) (by decide +kernel)) (hts (.initialized RJx4a65c) (by decide +kernel)) hK hw hS hAn hAz rfl pn_1 (Nat.le_of_ble_eq_true rfl) b_fs1 (by omega) (by omega) dX3_init_20 (fun q2 H hq3 hw hS => ?_)
  have h := h q2 hq3
  have hk4 : gK (sNew (sV (sV (sV S 5 this 0 p1) 5 this 1 p2) 5 this 2 p3) q2 1 0) this = 5 := b_old hk1 hq3 (by decide)
  have hk5 : gK (sNew (sV (sV (sV S 5 this 0 p1) 5 this 1 p2) 5 this 2 p3) q2 1 0) q2 = 1 := if_pos rfl
  have hcu : (0 + 1) + (MC - 1) ≤ MC := by omega
  have hsu : (0 + 3) + (MS - 3) ≤ MS := by omega
  refine lv_dup hx hb dX3_init_23 rfl ?_
  have h1 := h
  refine va_callv (va_runI (As := []) (rest := [.ref q2, .ref this]) ⟨hx, hb, hml, hown, hts⟩ (m_Jx4a65c_init_da8c8 (l := l) h1) (cwI 0 hts gX3_init_Jx4a65c_init_da8c8 rfl rfl rfl (hts (.initialized RJx4a65c) (by decide +kernel)) (hts (.methodLink RX3 23 yJx4a65c_init_da8c8) (by decide +kernel)) (hts (.instanceMethod yJx4a65c_init_da8c8) (by decide +kernel)) rfl (by decide +kernel) ⟨Nat.le_trans (Nat.le_of_ble_eq_true rfl) hRf, Nat.le_trans (Nat.le_of_ble_eq_true rfl) hRl⟩) (r_pS hB hw hS) rfl rfl hl.1 rfl (lv_room (Nat.le_of_ble_eq_true rfl)) dX3_init_24 ⟨by omega, by omega⟩) hS (fun _ _ h => h) (fun _ h => h) (fun S7 t H1 locs ht _ h hw1 _ _ hS => ?_)
  subst ht
  have hw : wd D y z S7 A t.heap := hw1
  clear hw1 h1
  obtain ⟨hk8, h⟩ := h
  refine r_putQF (κ := 5) (ci := 4) (C := RX3) (T := TX3) (N := 7) (ty := (tyX3 3)) (x := (some q2)) hx hb hts hiX3 tyX3 tyX3_ok nmX3 hown hK hw hS (ce_5 (S := S7) hk8) rfl 3 (by decide) (hts (.fieldLink RX3 24 "TubePost$Station" "ways" "Ljava/util/ArrayList;") (by decide +kernel)) (fun _ h9 => h9) rfl hin rfl (by decide +kernel) rfl rfl (Nat.le_of_ble_eq_true rfl) (pu_5_3 (S := S7) hk8) dX3_init_27 (fun H locs hw hS => ?_)
  refine lv_aload_n hx hb dX3_init_30 rfl (lv_at hl 0 rfl) ?_
  obtain ⟨hbg1, hbg2, h⟩ := h
  refine r_new (ci := 0) (C := RJx4a65c) (T := TJx4a65c) (N := 3) (κ := 1) (nn := 0) hx hb hts hiJx4a65c tyJx4a65c tyJx4a65c_ok hown (hts (.classLink RX3 21 RJx4a65c) (by decide +kernel)) (hts (.instantiable RJx4a65c 3) (by decide +kernel)) (hts (.initialized RJx4a65c) (by decide +kernel)) hK hw hS hAn hAz rfl pn_1 (Nat.le_of_ble_eq_true rfl) b_fs1 (by omega) (by omega) dX3_init_31 (fun q9 H hq10 hw hS => ?_)
  have h := h q9 hq10
  have hk11 : gK (sNew (sQ S7 5 this 3 (some q2)) q9 1 0) this = 5 := b_old hk8 hq10 (by decide)
  have hk12 : gK (sNew (sQ S7 5 this 3 (some q2)) q9 1 0) q9 = 1 := if_pos rfl
  have hcu : ((0 + 1) + 1) + ((MC - 1) - 1) ≤ MC := by omega
  have hsu : ((0 + 3) + 3) + ((MS - 3) - 3) ≤ MS := by omega
  refine lv_dup hx hb dX3_init_34 rfl ?_
  have h1 := h
  refine va_callv (va_runI (As := []) (rest := [.ref q9, .ref this]) ⟨hx, hb, hml, hown, hts⟩ (m_Jx4a65c_init_da8c8 (l := l) h1) (cwI 0 hts gX3_init_Jx4a65c_init_da8c8 rfl rfl rfl (hts (.initialized RJx4a65c) (by decide +kernel)) (hts (.methodLink RX3 23 yJx4a65c_init_da8c8) (by decide +kernel)) (hts (.instanceMethod yJx4a65c_init_da8c8) (by decide +kernel)) rfl (by decide +kernel) ⟨Nat.le_trans (Nat.le_of_ble_eq_true rfl) hRf, Nat.le_trans (Nat.le_of_ble_eq_true rfl) hRl⟩) (r_pS hB hw hS) rfl rfl hl.1 rfl (lv_room (Nat.le_of_ble_eq_true rfl)) dX3_init_35 ⟨by omega, by omega⟩) hS (fun _ _ h => h) (fun _ h => h) (fun S14 t H1 locs ht _ h hw1 _ _ hS => ?_)
  subst ht
  have hw : wd D y z S14 A t.heap := hw1
  clear hw1 h1
  obtain ⟨hk15, h⟩ := h
  refine r_putQF (κ := 5) (ci := 4) (C := RX3) (T := TX3) (N := 7) (ty := (tyX3 4)) (x := (some q9)) hx hb hts hiX3 tyX3 tyX3_ok nmX3 hown hK hw hS (ce_5 (S := S14) hk15) rfl 4 (by decide) (hts (.fieldLink RX3 28 "TubePost$Station" "line" "Ljava/util/ArrayList;") (by decide +kernel)) (fun _ h9 => h9) rfl hin rfl (by decide +kernel) rfl rfl (Nat.le_of_ble_eq_true rfl) (pu_5_4 (S := S14) hk15) dX3_init_38 (fun H locs hw hS => ?_)
  refine lv_aload_n hx hb dX3_init_41 rfl (lv_at hl 0 rfl) ?_
  refine lv_iconst (v := (-1 : Int32)) hx hb dX3_init_42 (by decide) ?_
  refine r_putI (κ := 5) (ci := 4) (C := RX3) (T := TX3) (N := 7) (ty := .int) (x := (-1 : Int32)) hx hb hts hiX3 tyX3 tyX3_ok nmX3 hown hK hw hS (ce_5 (S := (sQ S14 5 this 4 (some q9))) hk15) rfl 5 (by decide) (hts (.fieldLink RX3 31 "TubePost$Station" "switchedTo" "I") (by decide +kernel)) (fun _ h9 => h9) rfl (by decide +kernel) rfl rfl (Nat.le_of_ble_eq_true rfl) (pu_5_5 (S := (sQ S14 5 this 4 (some q9))) hk15) dX3_init_43 (fun H locs hw hS => ?_)
  refine lv_aload_n hx hb dX3_init_46 rfl (lv_at hl 0 rfl) ?_
  refine lv_iconst (v := (0 : Int32)) hx hb dX3_init_47 (by decide) ?_
  refine r_putI (κ := 5) (ci := 4) (C := RX3) (T := TX3) (N := 7) (ty := .int) (x := (0 : Int32)) hx hb hts hiX3 tyX3 tyX3_ok nmX3 hown hK hw hS (ce_5 (S := (sV (sQ S14 5 this 4 (some q9)) 5 this 5 (-1 : Int32))) hk15) rfl 6 (by decide) (hts (.fieldLink RX3 34 "TubePost$Station" "received" "I") (by decide +kernel)) (fun _ h9 => h9) rfl (by decide +kernel) rfl rfl (Nat.le_of_ble_eq_true rfl) (pu_5_6 (S := (sV (sQ S14 5 this 4 (some q9)) 5 this 5 (-1 : Int32))) hk15) dX3_init_48 (fun H locs hw hS => ?_)
  exact hret _ _ _ _ _ _ _ h hw hS (by omega) (by omega) dX3_init_51
def wb_X2_forgetTimes_2 (post : bS → Prop) : Nat → Nat → Int32 → bS → Prop
  | 0, _, _, _ => False
  | n + 1, v0, v1, S => gK S v0 = 4 ∧ (∃ b2, gQ S 4 v0 3 = some b2 ∧ (gK S b2 = 10 ∧ (((Int32.ofNat (gN S b2)) ≤ v1 → post S) ∧ (¬ ((Int32.ofNat (gN S b2)) ≤ v1) → ∃ b5, gQ S 4 v0 3 = some b5 ∧ (gK S b5 = 10 ∧ (vp_in v1 (gN S b5) ∧ ((wb_X2_forgetTimes_2 post n) v0 (v1 + (1 : Int32)) (sV S 10 b5 (Int32.toNatClampNeg v1) (vp_nar .boolean (0 : Int32))))))))))
def wp_X2_forgetTimes (post : bS → Prop) (this : Nat) (S : bS) : Prop := ∃ n2, wb_X2_forgetTimes_2 post n2 this (0 : Int32) S
set_option maxHeartbeats 4000000 in
set_option maxRecDepth 100000 in
theorem m_X2_forgetTimes {l : Launch} {D : va_G} {y : Nat → ClassId} {z : Nat} {A : Nat → Prop} {S : bS} {post : bS → Prop} {this : Nat} (h : wp_X2_forgetTimes post this S) : Met l yX2_forgetTimes wsX2_forgetTimes ({ frames := 0, cells := 0, slots := 0, locals := 0 } : Room) (va_Pc ([Value.ref this] : List Value) (bP D y z S A)) (va_Qv post (fun S' t => wd D y z S' A t.heap) A) 0 0 A := by
  refine Met.ofW (cc := cX2_forgetTimes) (maxL := 2) (ret := none) (by decide) rfl ?_
  intro p e s m args below meth c s₁ B hml hv
  obtain ⟨rfl, hB⟩ := hv
  have hx := B.exec
  have hb := B.bytes
  have hr := B.returns
  have hts := atoms_spec (ws := wsX2_forgetTimes) B.pre
  have hown : s.vm.findClass RX2 = some m.cls := findClass_of_methodNamed B.named
  have hlocks := B.notSynchronized
  have hw : wd D y z S A s.heap := hB.1
  have hK : va_K D bCl (bT y) s := hB.2.1
  have hNw := hB.2.2.1
  have hAn : ∀ q : Nat, s.heap.size ≤ q → A q := hB.2.2.2.1
  have hAz : ¬ A z := hB.2.2.2.2.1
  have hO := hB.2.2.2.2.2.1
  have hS : va_S A s.heap s.heap [] := va_S.rf
  have hiX2 : ∀ w ∈ u_ws RX2 TX2 6, w ∈ wsX2_forgetTimes := by decide +kernel
  have hl := lv_entry ([Value.ref this] : List Value) (n := 2) (Nat.le_of_ble_eq_true rfl)
  rw [lg_entry_eq]
  generalize (lg_sl ([Value.ref this] : List Value) ++ List.replicate (2 - (lg_sl ([Value.ref this] : List Value)).length) Slot.unset).toArray = ls at hl ⊢
  have hl : lv_has ls 2 [(0, .ref this)] := hl
  obtain ⟨Q, hQ⟩ : ∃ Q, Q = MQ below (va_Qv post (fun S' t => wd D y z S' A t.heap) A) (([Value.ref this] : List Value).toArray) s 0 0 A := ⟨_, rfl⟩
  rw [← hQ]
  generalize hR : (headSpec wsX2_forgetTimes ({ frames := 0, cells := 0, slots := 0, locals := 0 } : Room)).room = R
  have hRf : 0 ≤ R.frames := by rw [← hR]; exact Nat.le_refl _
  have hRl : 0 ≤ R.locals := by rw [← hR]; exact Nat.le_refl _
  have hret : ∀ (S : bS) (H : Heap) (locs : List Loc) (pc : Nat) (ls : Array Slot) , post S → wd D y z S A H → va_S A s.heap H locs → decode cX2_forgetTimes pc = .ok (.return_, 1) → W p l e R s m (([Value.ref this] : List Value).toArray) below meth c H locs 0 0 Q (F0 m pc ls []) := by
    intro S H locs pc ls h hw hS d0
    rw [hQ]; exact W.vret hx hb hr (fun t ht hW => ⟨⟨S, rfl, h, by show wd D y z S A t.heap; rw [ht]; exact hw⟩, hS.F ht⟩) hS.2.2 d0 hlocks
  have hB2 : ∀ (n2 : Nat) (S : bS) (H : Heap) (locs : List Loc) (ls : Array Slot) (v0 : Nat) (v1 : Int32), wb_X2_forgetTimes_2 post n2 v0 v1 S → wd D y z S A H → va_S A s.heap H locs → lv_has ls 2 [(0, .ref v0), (1, .int v1)] → W p l e R s m (([Value.ref this] : List Value).toArray) below meth c H locs 0 0 Q (F0 m 2 ls []) := by
    intro n2
    induction n2 with
    | zero =>
      intro S H locs ls v0 v1 h hw hS hl
      exact absurd h (by unfold wb_X2_forgetTimes_2; exact id)
    | succ n2 ih2 =>
      intro S H locs ls v0 v1 h hw hS hl
      unfold wb_X2_forgetTimes_2 at h
      refine lv_iload_n hx hb dX2_forgetTimes_2 rfl (lv_at hl 1 rfl) ?_
      refine lv_aload_n hx hb dX2_forgetTimes_3 rfl (lv_at hl 0 rfl) ?_
      obtain ⟨hk1, h⟩ := h
      obtain ⟨b2, hb3, h⟩ := h
      refine r_get (ci := 3) (v := .ref b2) (C := RX2) (T := TX2) (N := 6) hx hb hts hiX2 hown hK hw (ce_4 (S := S) hk1) rfl 3 (by decide) (hts (.fieldLink RX2 26 "TubePost$Net" "isReckoned" "[Z") (by decide +kernel)) (fun _ h9 => h9) (congrArg (fun q => some (va_rf q)) hb3) dX2_forgetTimes_4 ?_
      obtain ⟨hk4, h⟩ := h
      refine r_alen hx hb hK hw (S := S) (by rw [show gK S b2 = 10 from hk4]; decide) rfl dX2_forgetTimes_7 ?_
      refine lv_icmp_ge (tgt := 24) hx hb dX2_forgetTimes_8 (by decide) (fun hc => ?_) (fun hc => ?_)
      · have h := h.1 hc
        exact hret _ _ _ _ _ h hw hS dX2_forgetTimes_24
      · have h := h.2 hc
        refine lv_aload_n hx hb dX2_forgetTimes_11 rfl (lv_at hl 0 rfl) ?_
        obtain ⟨b5, hb6, h⟩ := h
        refine r_get (ci := 3) (v := .ref b5) (C := RX2) (T := TX2) (N := 6) hx hb hts hiX2 hown hK hw (ce_4 (S := S) hk1) rfl 3 (by decide) (hts (.fieldLink RX2 26 "TubePost$Net" "isReckoned" "[Z") (by decide +kernel)) (fun _ h9 => h9) (congrArg (fun q => some (va_rf q)) hb6) dX2_forgetTimes_12 ?_
        refine lv_iload_n hx hb dX2_forgetTimes_15 rfl (lv_at hl 1 rfl) ?_
        refine lv_iconst (v := (0 : Int32)) hx hb dX2_forgetTimes_16 (by decide) ?_
        obtain ⟨hk7, h⟩ := h
        obtain ⟨hin8, h⟩ := h
        refine r_zast hx hb hK hw hS hk7 hin8 dX2_forgetTimes_17 (fun H locs hw hS => ?_)
        refine lv_iinc (v := (v1 + (1 : Int32))) hx hb dX2_forgetTimes_18 hl (k := 1) rfl rfl (by decide) rfl (fun ls hl => ?_)
        have hl : lv_has ls 2 [(1, .int (v1 + (1 : Int32))), (0, .ref v0)] := hl
        refine lv_goto (tgt := 2) hx hb dX2_forgetTimes_21 (by decide) ?_
        exact ih2 _ _ _ _ _ _ h hw hS (lv_sub hl [1, 0] rfl)
  unfold wp_X2_forgetTimes at h
  refine lv_iconst (v := (0 : Int32)) hx hb dX2_forgetTimes_0 (by decide) ?_
  refine lv_istore_n hx hb dX2_forgetTimes_1 rfl hl (by decide) rfl (fun ls hl => ?_)
  have hl : lv_has ls 2 [(1, .int (0 : Int32)), (0, .ref this)] := hl
  obtain ⟨n2, h⟩ := h
  exact hB2 n2 _ _ _ _ _ _ h hw hS (lv_sub hl [1, 0] rfl)
def wp_X2_build (post : Int32 → bS → Prop) (MC MS : Nat) (this : Nat) (p1 : Int32) (p2 : Int32) (S : bS) : Prop := gK S this = 4 ∧ (∃ b2, gQ S 4 this 0 = some b2 ∧ (1 ≤ MC ∧ 7 ≤ MS ∧ (∀ q4, gK S q4 = 0 → (∃ b8, gQ (sNew S q4 5 0) 4 this 0 = some b8 ∧ (gK (sNew S q4 5 0) b8 = 1 ∧ (wp_Jx4a65c_size_8abf5 (fun r11 S12 => ∃ k15 n16, k15 ≤ (MC - 1) ∧ n16 ≤ (MS - 7) ∧ (wp_X3_init (fun S14 => gK S14 b2 = 1 ∧ (∃ k20 n21, k20 ≤ ((MC - 1) - k15) ∧ n21 ≤ ((MS - 7) - n16) ∧ (wp_Jx4a65c_add_9ea2d (fun r18 S19 => gK S19 this = 4 ∧ (wp_X2_forgetTimes (fun S24 => gK S24 this = 4 ∧ (∃ b26, gQ S24 4 this 0 = some b26 ∧ (gK S24 b26 = 1 ∧ (wp_Jx4a65c_size_8abf5 (fun r29 S30 => post (r29 - (1 : Int32)) S30) b26 S24)))) this S19)) k20 n21 b2 q4 S14))) k15 n16 q4 r11 p1 p2 S12)) b8 (sNew S q4 5 0)))))))
set_option maxHeartbeats 4000000 in
set_option maxRecDepth 100000 in
theorem m_X2_build {l : Launch} {D : va_G} {y : Nat → ClassId} {z : Nat} {A : Nat → Prop} {S : bS} {post : Int32 → bS → Prop} {MC MS : Nat} {this : Nat} {p1 : Int32} {p2 : Int32} (h : wp_X2_build post MC MS this p1 p2 S) : Met l yX2_build wsX2_build ({ frames := 7, cells := MC, slots := MS, locals := 191 } : Room) (va_Pc ([Value.ref this, Value.int p1, Value.int p2] : List Value) (bP D y z S A)) (va_Qi post (fun S' t => wd D y z S' A t.heap) A) MC MS A := by
  refine Met.ofW (cc := cX2_build) (maxL := 3) (ret := (some .int)) (by decide) rfl ?_
  intro p e s m args below meth c s₁ B hml hv
  obtain ⟨rfl, hB⟩ := hv
  have hx := B.exec
  have hb := B.bytes
  have hr := B.returns
  have hts := atoms_spec (ws := wsX2_build) B.pre
  have hown : s.vm.findClass RX2 = some m.cls := findClass_of_methodNamed B.named
  have hlocks := B.notSynchronized
  have hw : wd D y z S A s.heap := hB.1
  have hK : va_K D bCl (bT y) s := hB.2.1
  have hNw := hB.2.2.1
  have hAn : ∀ q : Nat, s.heap.size ≤ q → A q := hB.2.2.2.1
  have hAz : ¬ A z := hB.2.2.2.2.1
  have hO := hB.2.2.2.2.2.1
  have hS : va_S A s.heap s.heap [] := va_S.rf
  have hiX2 : ∀ w ∈ u_ws RX2 TX2 6, w ∈ wsX2_build := by decide +kernel
  have hiX3 : ∀ w ∈ u_ws RX3 TX3 7, w ∈ wsX2_build := by decide +kernel
  have hl := lv_entry ([Value.ref this, Value.int p1, Value.int p2] : List Value) (n := 3) (Nat.le_of_ble_eq_true rfl)
  rw [lg_entry_eq]
  generalize (lg_sl ([Value.ref this, Value.int p1, Value.int p2] : List Value) ++ List.replicate (3 - (lg_sl ([Value.ref this, Value.int p1, Value.int p2] : List Value)).length) Slot.unset).toArray = ls at hl ⊢
  have hl : lv_has ls 3 [(0, .ref this), (1, .int p1), (2, .int p2)] := hl
  obtain ⟨Q, hQ⟩ : ∃ Q, Q = MQ below (va_Qi post (fun S' t => wd D y z S' A t.heap) A) (([Value.ref this, Value.int p1, Value.int p2] : List Value).toArray) s MC MS A := ⟨_, rfl⟩
  rw [← hQ]
  generalize hR : (headSpec wsX2_build ({ frames := 7, cells := MC, slots := MS, locals := 191 } : Room)).room = R
  have hRf : 7 ≤ R.frames := by rw [← hR]; exact Nat.le_refl _
  have hRl : 191 ≤ R.locals := by rw [← hR]; exact Nat.le_refl _
  have hRc : R.cells = MC := by rw [← hR]; rfl
  have hRs : R.slots = MS := by rw [← hR]; rfl
  have hret : ∀ (v : Int32) (S : bS) (H : Heap) (locs : List Loc) (pc : Nat) (ls : Array Slot) (cu su : Nat) , post v S → wd D y z S A H → va_S A s.heap H locs → cu ≤ MC → su ≤ MS → decode cX2_build pc = .ok (.ireturn, 1) → W p l e R s m (([Value.ref this, Value.int p1, Value.int p2] : List Value).toArray) below meth c H locs cu su Q (F0 m pc ls [.int v]) := by
    intro v S H locs pc ls cu su h hw hS hcu hsu d0
    rw [hQ]; refine W.widen hcu hsu ?_; exact W.iret hx hb hr (fun t ht hW => ⟨⟨v, S, rfl, h, by show wd D y z S A t.heap; rw [ht]; exact hw⟩, hS.F ht⟩) hS.2.2 d0 hlocks
  unfold wp_X2_build at h
  have hcu : 0 + MC ≤ MC := by omega
  have hsu : 0 + MS ≤ MS := by omega
  refine lv_aload_n hx hb dX2_build_0 rfl (lv_at hl 0 rfl) ?_
  obtain ⟨hk1, h⟩ := h
  obtain ⟨b2, hb3, h⟩ := h
  refine r_get (ci := 3) (v := .ref b2) (C := RX2) (T := TX2) (N := 6) hx hb hts hiX2 hown hK hw (ce_4 (S := S) hk1) rfl 0 (by decide) (hts (.fieldLink RX2 12 "TubePost$Net" "stations" "Ljava/util/ArrayList;") (by decide +kernel)) (fun _ h9 => h9) (congrArg (fun q => some (va_rf q)) hb3) dX2_build_1 ?_
  obtain ⟨hbg1, hbg2, h⟩ := h
  refine r_new (ci := 4) (C := RX3) (T := TX3) (N := 7) (κ := 5) (nn := 0) hx hb hts hiX3 tyX3 tyX3_ok hown (hts (.classLink RX2 37 RX3) (by decide +kernel)) (hts (.instantiable RX3 7) (by decide +kernel)) (hts (.initialized RX3) (by decide +kernel)) hK hw hS hAn hAz rfl pn_5 (Nat.le_of_ble_eq_true rfl) b_fs5 (by omega) (by omega) dX2_build_4 (fun q4 H hq5 hw hS => ?_)
  have h := h q4 hq5
  have hk6 : gK (sNew S q4 5 0) this = 4 := b_old hk1 hq5 (by decide)
  have hk7 : gK (sNew S q4 5 0) q4 = 5 := if_pos rfl
  have hcu : (0 + 1) + (MC - 1) ≤ MC := by omega
  have hsu : (0 + 7) + (MS - 7) ≤ MS := by omega
  refine lv_dup hx hb dX2_build_7 rfl ?_
  refine lv_aload_n hx hb dX2_build_8 rfl (lv_at hl 0 rfl) ?_
  obtain ⟨b8, hb9, h⟩ := h
  refine r_get (ci := 3) (v := .ref b8) (C := RX2) (T := TX2) (N := 6) hx hb hts hiX2 hown hK hw (ce_4 (S := (sNew S q4 5 0)) hk6) rfl 0 (by decide) (hts (.fieldLink RX2 12 "TubePost$Net" "stations" "Ljava/util/ArrayList;") (by decide +kernel)) (fun _ h9 => h9) (congrArg (fun q => some (va_rf q)) hb9) dX2_build_9 ?_
  obtain ⟨hk10, h⟩ := h
  have h1 := h
  refine va_calli (va_runV (As := []) (rest := [.ref q4, .ref q4, .ref b2]) ⟨hx, hb, hml, hown, hts⟩ (m_Jx4a65c_size_8abf5 (l := l) h1) (cwV 0 hts gX2_build_Jx4a65c_size_8abf5 rfl rfl rfl (by decide +kernel) ⟨Nat.le_trans (Nat.le_of_ble_eq_true rfl) hRf, Nat.le_trans (Nat.le_of_ble_eq_true rfl) hRl⟩) (r_pV hB hw hS (ce_1 (S := (sNew S q4 5 0)) hk10) rfl) rfl rfl hl.1 rfl (lv_room (Nat.le_of_ble_eq_true rfl)) dX2_build_12 ⟨by omega, by omega⟩) hS (fun _ _ h => h) (fun _ h => h) (fun r11 S12 t H1 locs ht _ h hw1 _ _ hS => ?_)
  subst ht
  have hw : wd D y z S12 A t.heap := hw1
  clear hw1 h1
  refine lv_iload_n hx hb dX2_build_15 rfl (lv_at hl 1 rfl) ?_
  refine lv_iload_n hx hb dX2_build_16 rfl (lv_at hl 2 rfl) ?_
  obtain ⟨k15, n16, hbg1, hbg2, h⟩ := h
  have h1 := h
  refine va_callv (va_runIN (As := [.int r11, .int p1, .int p2]) (rest := [.ref q4, .ref b2]) ⟨hx, hb, hml, hown, hts⟩ (m_X3_init (l := l) h1) ⟨va_cnB 3 hts gX2_build_X3_init_n43 rfl rfl rfl (hNw _ bNw_65) (hts (.initialized RX3) (by decide +kernel)) ⟨by decide +kernel, by decide +kernel, by decide +kernel⟩ ⟨Nat.le_trans (Nat.le_of_ble_eq_true rfl) hRf, Nat.le_trans (Nat.le_of_ble_eq_true rfl) hRl⟩, rfl, (hts (.instanceMethod yX3_init) (by decide +kernel))⟩ (r_pS hB hw hS) rfl rfl hl.1 rfl (lv_room (Nat.le_of_ble_eq_true rfl)) dX2_build_17 ⟨by omega, by omega⟩) hS (fun _ _ h => h) (fun _ h => h) (fun S14 t H1 locs ht _ h hw1 _ _ hS => ?_)
  subst ht
  have hw : wd D y z S14 A t.heap := hw1
  clear hw1 h1
  have hcu : ((0 + 1) + k15) + ((MC - 1) - k15) ≤ MC := by omega
  have hsu : ((0 + 7) + n16) + ((MS - 7) - n16) ≤ MS := by omega
  obtain ⟨hk17, h⟩ := h
  obtain ⟨k20, n21, hbg1, hbg2, h⟩ := h
  have h1 := h
  refine va_calli (va_runV (As := [.ref q4]) (rest := []) ⟨hx, hb, hml, hown, hts⟩ (m_Jx4a65c_add_9ea2d (l := l) h1) (cwV 1 hts gX2_build_Jx4a65c_add_9ea2d rfl rfl rfl (by decide +kernel) ⟨Nat.le_trans (Nat.le_of_ble_eq_true rfl) hRf, Nat.le_trans (Nat.le_of_ble_eq_true rfl) hRl⟩) (r_pV hB hw hS (ce_1 (S := S14) hk17) rfl) rfl rfl hl.1 rfl (lv_room (Nat.le_of_ble_eq_true rfl)) dX2_build_20 ⟨by omega, by omega⟩) hS (fun _ _ h => h) (fun _ h => h) (fun r18 S19 t H1 locs ht _ h hw1 _ _ hS => ?_)
  subst ht
  have hw : wd D y z S19 A t.heap := hw1
  clear hw1 h1
  have hcu : (((0 + 1) + k15) + k20) + (((MC - 1) - k15) - k20) ≤ MC := by omega
  have hsu : (((0 + 7) + n16) + n21) + (((MS - 7) - n16) - n21) ≤ MS := by omega
  refine lv_pop hx hb dX2_build_23 rfl ?_
  refine lv_aload_n hx hb dX2_build_24 rfl (lv_at hl 0 rfl) ?_
  obtain ⟨hk22, h⟩ := h
  have h1 := h
  refine va_callv (va_runV (As := []) (rest := []) ⟨hx, hb, hml, hown, hts⟩ (m_X2_forgetTimes (l := l) h1) (cwV 0 hts gX2_build_X2_forgetTimes rfl rfl rfl (by decide +kernel) ⟨Nat.le_trans (Nat.le_of_ble_eq_true rfl) hRf, Nat.le_trans (Nat.le_of_ble_eq_true rfl) hRl⟩) (r_pV hB hw hS (ce_4 (S := S19) hk22) rfl) rfl rfl hl.1 rfl (lv_room (Nat.le_of_ble_eq_true rfl)) dX2_build_25 ⟨by omega, by omega⟩) hS (fun _ _ h => h) (fun _ h => h) (fun S24 t H1 locs ht _ h hw1 _ _ hS => ?_)
  subst ht
  have hw : wd D y z S24 A t.heap := hw1
  clear hw1 h1
  refine lv_aload_n hx hb dX2_build_28 rfl (lv_at hl 0 rfl) ?_
  obtain ⟨hk25, h⟩ := h
  obtain ⟨b26, hb27, h⟩ := h
  refine r_get (ci := 3) (v := .ref b26) (C := RX2) (T := TX2) (N := 6) hx hb hts hiX2 hown hK hw (ce_4 (S := S24) hk25) rfl 0 (by decide) (hts (.fieldLink RX2 12 "TubePost$Net" "stations" "Ljava/util/ArrayList;") (by decide +kernel)) (fun _ h9 => h9) (congrArg (fun q => some (va_rf q)) hb27) dX2_build_29 ?_
  obtain ⟨hk28, h⟩ := h
  have h1 := h
  refine va_calli (va_runV (As := []) (rest := []) ⟨hx, hb, hml, hown, hts⟩ (m_Jx4a65c_size_8abf5 (l := l) h1) (cwV 0 hts gX2_build_Jx4a65c_size_8abf5 rfl rfl rfl (by decide +kernel) ⟨Nat.le_trans (Nat.le_of_ble_eq_true rfl) hRf, Nat.le_trans (Nat.le_of_ble_eq_true rfl) hRl⟩) (r_pV hB hw hS (ce_1 (S := S24) hk28) rfl) rfl rfl hl.1 rfl (lv_room (Nat.le_of_ble_eq_true rfl)) dX2_build_32 ⟨by omega, by omega⟩) hS (fun _ _ h => h) (fun _ h => h) (fun r29 S30 t H1 locs ht _ h hw1 _ _ hS => ?_)
  subst ht
  have hw : wd D y z S30 A t.heap := hw1
  clear hw1 h1
  refine lv_iconst (v := (1 : Int32)) hx hb dX2_build_35 (by decide) ?_
  refine lv_isub hx hb dX2_build_36 ?_
  exact hret (r29 - (1 : Int32)) _ _ _ _ _ _ _ h hw hS (by omega) (by omega) dX2_build_37
def wb_X4_dividedUp_17 (post : Int32 → bS → Prop) (s0 : Int32) (S : bS) : Prop := post s0 S
def wp_X4_dividedUp (post : Int32 → bS → Prop) (p1 : Int32) (p2 : Int32) (S : bS) : Prop := ((1 : Int32) ≤ p2 → ¬ p2 = 0 ∧ (wb_X4_dividedUp_17 post (((p1 + p2) - (1 : Int32)) / p2) S)) ∧ (¬ ((1 : Int32) ≤ p2) → wb_X4_dividedUp_17 post (1000000 : Int32) S)
set_option maxHeartbeats 4000000 in
set_option maxRecDepth 100000 in
theorem m_X4_dividedUp {l : Launch} {D : va_G} {y : Nat → ClassId} {z : Nat} {A : Nat → Prop} {S : bS} {post : Int32 → bS → Prop} {p1 : Int32} {p2 : Int32} (h : wp_X4_dividedUp post p1 p2 S) : Met l yX4_dividedUp wsX4_dividedUp ({ frames := 0, cells := 0, slots := 0, locals := 0 } : Room) (va_Pc ([Value.int p1, Value.int p2] : List Value) (bP D y z S A)) (va_Qi post (fun S' t => wd D y z S' A t.heap) A) 0 0 A := by
  refine Met.ofW (cc := cX4_dividedUp) (maxL := 2) (ret := (some .int)) (by decide) rfl ?_
  intro p e s m args below meth c s₁ B hml hv
  obtain ⟨rfl, hB⟩ := hv
  have hx := B.exec
  have hb := B.bytes
  have hr := B.returns
  have hts := atoms_spec (ws := wsX4_dividedUp) B.pre
  have hown : s.vm.findClass RX4 = some m.cls := findClass_of_methodNamed B.named
  have hlocks := B.notSynchronized
  have hw : wd D y z S A s.heap := hB.1
  have hK : va_K D bCl (bT y) s := hB.2.1
  have hNw := hB.2.2.1
  have hAn : ∀ q : Nat, s.heap.size ≤ q → A q := hB.2.2.2.1
  have hAz : ¬ A z := hB.2.2.2.2.1
  have hO := hB.2.2.2.2.2.1
  have hS : va_S A s.heap s.heap [] := va_S.rf
  have hl := lv_entry ([Value.int p1, Value.int p2] : List Value) (n := 2) (Nat.le_of_ble_eq_true rfl)
  rw [lg_entry_eq]
  generalize (lg_sl ([Value.int p1, Value.int p2] : List Value) ++ List.replicate (2 - (lg_sl ([Value.int p1, Value.int p2] : List Value)).length) Slot.unset).toArray = ls at hl ⊢
  have hl : lv_has ls 2 [(0, .int p1), (1, .int p2)] := hl
  obtain ⟨Q, hQ⟩ : ∃ Q, Q = MQ below (va_Qi post (fun S' t => wd D y z S' A t.heap) A) (([Value.int p1, Value.int p2] : List Value).toArray) s 0 0 A := ⟨_, rfl⟩
  rw [← hQ]
  generalize hR : (headSpec wsX4_dividedUp ({ frames := 0, cells := 0, slots := 0, locals := 0 } : Room)).room = R
  have hRf : 0 ≤ R.frames := by rw [← hR]; exact Nat.le_refl _
  have hRl : 0 ≤ R.locals := by rw [← hR]; exact Nat.le_refl _
  have hret : ∀ (v : Int32) (S : bS) (H : Heap) (locs : List Loc) (pc : Nat) (ls : Array Slot) , post v S → wd D y z S A H → va_S A s.heap H locs → decode cX4_dividedUp pc = .ok (.ireturn, 1) → W p l e R s m (([Value.int p1, Value.int p2] : List Value).toArray) below meth c H locs 0 0 Q (F0 m pc ls [.int v]) := by
    intro v S H locs pc ls h hw hS d0
    rw [hQ]; exact W.iret hx hb hr (fun t ht hW => ⟨⟨v, S, rfl, h, by show wd D y z S A t.heap; rw [ht]; exact hw⟩, hS.F ht⟩) hS.2.2 d0 hlocks
  have hB17 : ∀ (S : bS) (H : Heap) (locs : List Loc) (ls : Array Slot) (s0 : Int32), wb_X4_dividedUp_17 post s0 S → wd D y z S A H → va_S A s.heap H locs → lv_has ls 2 [] → W p l e R s m (([Value.int p1, Value.int p2] : List Value).toArray) below meth c H locs 0 0 Q (F0 m 17 ls [.int s0]) := by
    intro S H locs ls s0 h hw hS hl
    unfold wb_X4_dividedUp_17 at h
    exact hret s0 _ _ _ _ _ h hw hS dX4_dividedUp_17
  unfold wp_X4_dividedUp at h
  refine lv_iload_n hx hb dX4_dividedUp_0 rfl (lv_at hl 1 rfl) ?_
  refine lv_iconst (v := (1 : Int32)) hx hb dX4_dividedUp_1 (by decide) ?_
  refine lv_icmp_ge (tgt := 10) hx hb dX4_dividedUp_2 (by decide) (fun hc => ?_) (fun hc => ?_)
  · have h := h.1 hc
    refine lv_iload_n hx hb dX4_dividedUp_10 rfl (lv_at hl 0 rfl) ?_
    refine lv_iload_n hx hb dX4_dividedUp_11 rfl (lv_at hl 1 rfl) ?_
    refine lv_iadd hx hb dX4_dividedUp_12 ?_
    refine lv_iconst (v := (1 : Int32)) hx hb dX4_dividedUp_13 (by decide) ?_
    refine lv_isub hx hb dX4_dividedUp_14 ?_
    refine lv_iload_n hx hb dX4_dividedUp_15 rfl (lv_at hl 1 rfl) ?_
    obtain ⟨hne, h⟩ := h
    refine lv_idiv hx hb dX4_dividedUp_16 hne ?_
    exact hB17 _ _ _ _ _ h hw hS (lv_sub hl [] rfl)
  · have h := h.2 hc
    refine lv_ldc (v := (1000000 : Int32)) hx hb hown (hts (.constant RX4 55 (1000000 : Int32)) (by decide +kernel)) dX4_dividedUp_5 ?_
    refine lv_goto (tgt := 17) hx hb dX4_dividedUp_7 (by decide) ?_
    exact hB17 _ _ _ _ _ h hw hS (lv_sub hl [] rfl)
def wp_X4_init (post : bS → Prop) (MC MS : Nat) (this : Nat) (p1 : Int32) (p2 : Nat) (p3 : Nat) (p4 : Int32) (p5 : Int32) (p6 : Int32) (S : bS) : Prop := gK S this = 6 ∧ (wp_X4_dividedUp (fun r2 S3 => gK S3 this = 6 ∧ (1 ≤ MC ∧ 3 ≤ MS ∧ (∀ q5, gK (sV S3 6 this 7 r2) q5 = 0 → (wp_Jx4a65c_init_da8c8 (fun S10 => gK S10 this = 6 ∧ (post (sV (sV (sV (sQ S10 6 this 5 (some q5)) 6 this 8 (1 : Int32)) 6 this 9 (0 : Int32)) 6 this 10 (0 : Int32)))) q5 (sNew (sV S3 6 this 7 r2) q5 1 0))))) p4 p5 (sV (sV (sV (sQ (sQ (sV S 6 this 0 p1) 6 this 1 (some p2)) 6 this 2 (some p3)) 6 this 3 p4) 6 this 4 p6) 6 this 6 p5))
set_option maxHeartbeats 4000000 in
set_option maxRecDepth 100000 in
theorem m_X4_init {l : Launch} {D : va_G} {y : Nat → ClassId} {z : Nat} {A : Nat → Prop} {S : bS} {post : bS → Prop} {MC MS : Nat} {this : Nat} {p1 : Int32} {p2 : Nat} {p3 : Nat} {p4 : Int32} {p5 : Int32} {p6 : Int32} (h : wp_X4_init post MC MS this p1 p2 p3 p4 p5 p6 S) : Met l yX4_init wsX4_init ({ frames := 4, cells := MC, slots := MS, locals := 80 } : Room) (va_Pc ([Value.ref this, Value.int p1, Value.ref p2, Value.ref p3, Value.int p4, Value.int p5, Value.int p6] : List Value) (bP D y z S A)) (va_Qv post (fun S' t => wd D y z S' A t.heap) A) MC MS A := by
  refine Met.ofW (cc := cX4_init) (maxL := 7) (ret := none) (by decide) rfl ?_
  intro p e s m args below meth c s₁ B hml hv
  obtain ⟨rfl, hB⟩ := hv
  have hx := B.exec
  have hb := B.bytes
  have hr := B.returns
  have hts := atoms_spec (ws := wsX4_init) B.pre
  have hown : s.vm.findClass RX4 = some m.cls := findClass_of_methodNamed B.named
  have hlocks := B.notSynchronized
  have hin : meth.name = "<init>" := (name_of_methodNamed B.named B.method).1
  have hw : wd D y z S A s.heap := hB.1
  have hK : va_K D bCl (bT y) s := hB.2.1
  have hNw := hB.2.2.1
  have hAn : ∀ q : Nat, s.heap.size ≤ q → A q := hB.2.2.2.1
  have hAz : ¬ A z := hB.2.2.2.2.1
  have hO := hB.2.2.2.2.2.1
  have hS : va_S A s.heap s.heap [] := va_S.rf
  have hiJx4a65c : ∀ w ∈ u_ws RJx4a65c TJx4a65c 3, w ∈ wsX4_init := by decide +kernel
  have hiX4 : ∀ w ∈ u_ws RX4 TX4 11, w ∈ wsX4_init := by decide +kernel
  have hl := lv_entry ([Value.ref this, Value.int p1, Value.ref p2, Value.ref p3, Value.int p4, Value.int p5, Value.int p6] : List Value) (n := 7) (Nat.le_of_ble_eq_true rfl)
  rw [lg_entry_eq]
  generalize (lg_sl ([Value.ref this, Value.int p1, Value.ref p2, Value.ref p3, Value.int p4, Value.int p5, Value.int p6] : List Value) ++ List.replicate (7 - (lg_sl ([Value.ref this, Value.int p1, Value.ref p2, Value.ref p3, Value.int p4, Value.int p5, Value.int p6] : List Value)).length) Slot.unset).toArray = ls at hl ⊢
  have hl : lv_has ls 7 [(0, .ref this), (1, .int p1), (2, .ref p2), (3, .ref p3), (4, .int p4), (5, .int p5), (6, .int p6)] := hl
  obtain ⟨Q, hQ⟩ : ∃ Q, Q = MQ below (va_Qv post (fun S' t => wd D y z S' A t.heap) A) (([Value.ref this, Value.int p1, Value.ref p2, Value.ref p3, Value.int p4, Value.int p5, Value.int p6] : List Value).toArray) s MC MS A := ⟨_, rfl⟩
  rw [← hQ]
  generalize hR : (headSpec wsX4_init ({ frames := 4, cells := MC, slots := MS, locals := 80 } : Room)).room = R
  have hRf : 4 ≤ R.frames := by rw [← hR]; exact Nat.le_refl _
  have hRl : 80 ≤ R.locals := by rw [← hR]; exact Nat.le_refl _
  have hRc : R.cells = MC := by rw [← hR]; rfl
  have hRs : R.slots = MS := by rw [← hR]; rfl
  have hret : ∀ (S : bS) (H : Heap) (locs : List Loc) (pc : Nat) (ls : Array Slot) (cu su : Nat) , post S → wd D y z S A H → va_S A s.heap H locs → cu ≤ MC → su ≤ MS → decode cX4_init pc = .ok (.return_, 1) → W p l e R s m (([Value.ref this, Value.int p1, Value.ref p2, Value.ref p3, Value.int p4, Value.int p5, Value.int p6] : List Value).toArray) below meth c H locs cu su Q (F0 m pc ls []) := by
    intro S H locs pc ls cu su h hw hS hcu hsu d0
    rw [hQ]; refine W.widen hcu hsu ?_; exact W.vret hx hb hr (fun t ht hW => ⟨⟨S, rfl, h, by show wd D y z S A t.heap; rw [ht]; exact hw⟩, hS.F ht⟩) hS.2.2 d0 hlocks
  unfold wp_X4_init at h
  have hcu : 0 + MC ≤ MC := by omega
  have hsu : 0 + MS ≤ MS := by omega
  refine lv_aload_n hx hb dX4_init_0 rfl (lv_at hl 0 rfl) ?_
  refine W.objInit hx hb hown (hts (.methodLink RX4 3 objectInit) (by decide +kernel)) (hts (.instanceMethod objectInit) (by decide +kernel)) (hts (.code objectInit ⟨#[0xb1]⟩ 1 none) (by decide +kernel)) rfl (by rw [hml]; exact hl.1) rfl dX4_init_1 (Nat.le_trans (Nat.le_of_ble_eq_true rfl) hRf) (Nat.le_trans (Nat.le_of_ble_eq_true rfl) hRl) ?_
  refine W.eq (g2 := F0 m 4 ls []) rfl ?_
  refine lv_aload_n hx hb dX4_init_4 rfl (lv_at hl 0 rfl) ?_
  refine lv_iload_n hx hb dX4_init_5 rfl (lv_at hl 1 rfl) ?_
  obtain ⟨hk1, h⟩ := h
  refine r_putIF (κ := 6) (ci := 5) (C := RX4) (T := TX4) (N := 11) (ty := .int) (x := p1) hx hb hts hiX4 tyX4 tyX4_ok nmX4 hown hK hw hS (ce_6 (S := S) hk1) rfl 0 (by decide) (hts (.fieldLink RX4 9 "TubePost$Tube" "number" "I") (by decide +kernel)) (fun _ h9 => h9) rfl hin rfl (by decide +kernel) rfl rfl (Nat.le_of_ble_eq_true rfl) (pu_6_0 (S := S) hk1) dX4_init_6 (fun H locs hw hS => ?_)
  refine lv_aload_n hx hb dX4_init_9 rfl (lv_at hl 0 rfl) ?_
  refine lv_aload_n hx hb dX4_init_10 rfl (lv_at hl 2 rfl) ?_
  refine r_putQF (κ := 6) (ci := 5) (C := RX4) (T := TX4) (N := 11) (ty := (tyX4 1)) (x := (some p2)) hx hb hts hiX4 tyX4 tyX4_ok nmX4 hown hK hw hS (ce_6 (S := (sV S 6 this 0 p1)) hk1) rfl 1 (by decide) (hts (.fieldLink RX4 15 "TubePost$Tube" "from" "LTubePost$Station;") (by decide +kernel)) (fun _ h9 => h9) rfl hin rfl (by decide +kernel) rfl rfl (Nat.le_of_ble_eq_true rfl) (pu_6_1 (S := (sV S 6 this 0 p1)) hk1) dX4_init_11 (fun H locs hw hS => ?_)
  refine lv_aload_n hx hb dX4_init_14 rfl (lv_at hl 0 rfl) ?_
  refine lv_aload_n hx hb dX4_init_15 rfl (lv_at hl 3 rfl) ?_
  refine r_putQF (κ := 6) (ci := 5) (C := RX4) (T := TX4) (N := 11) (ty := (tyX4 2)) (x := (some p3)) hx hb hts hiX4 tyX4 tyX4_ok nmX4 hown hK hw hS (ce_6 (S := (sQ (sV S 6 this 0 p1) 6 this 1 (some p2))) hk1) rfl 2 (by decide) (hts (.fieldLink RX4 19 "TubePost$Tube" "to" "LTubePost$Station;") (by decide +kernel)) (fun _ h9 => h9) rfl hin rfl (by decide +kernel) rfl rfl (Nat.le_of_ble_eq_true rfl) (pu_6_2 (S := (sQ (sV S 6 this 0 p1) 6 this 1 (some p2))) hk1) dX4_init_16 (fun H locs hw hS => ?_)
  refine lv_aload_n hx hb dX4_init_19 rfl (lv_at hl 0 rfl) ?_
  refine lv_iload hx hb dX4_init_20 (lv_at hl 4 rfl) ?_
  refine r_putIF (κ := 6) (ci := 5) (C := RX4) (T := TX4) (N := 11) (ty := .int) (x := p4) hx hb hts hiX4 tyX4 tyX4_ok nmX4 hown hK hw hS (ce_6 (S := (sQ (sQ (sV S 6 this 0 p1) 6 this 1 (some p2)) 6 this 2 (some p3))) hk1) rfl 3 (by decide) (hts (.fieldLink RX4 22 "TubePost$Tube" "length" "I") (by decide +kernel)) (fun _ h9 => h9) rfl hin rfl (by decide +kernel) rfl rfl (Nat.le_of_ble_eq_true rfl) (pu_6_3 (S := (sQ (sQ (sV S 6 this 0 p1) 6 this 1 (some p2)) 6 this 2 (some p3))) hk1) dX4_init_22 (fun H locs hw hS => ?_)
  refine lv_aload_n hx hb dX4_init_25 rfl (lv_at hl 0 rfl) ?_
  refine lv_iload hx hb dX4_init_26 (lv_at hl 6 rfl) ?_
  refine r_putIF (κ := 6) (ci := 5) (C := RX4) (T := TX4) (N := 11) (ty := .int) (x := p6) hx hb hts hiX4 tyX4 tyX4_ok nmX4 hown hK hw hS (ce_6 (S := (sV (sQ (sQ (sV S 6 this 0 p1) 6 this 1 (some p2)) 6 this 2 (some p3)) 6 this 3 p4)) hk1) rfl 4 (by decide) (hts (.fieldLink RX4 25 "TubePost$Tube" "bore" "I") (by decide +kernel)) (fun _ h9 => h9) rfl hin rfl (by decide +kernel) rfl rfl (Nat.le_of_ble_eq_true rfl) (pu_6_4 (S := (sV (sQ (sQ (sV S 6 this 0 p1) 6 this 1 (some p2)) 6 this 2 (some p3)) 6 this 3 p4)) hk1) dX4_init_28 (fun H locs hw hS => ?_)
  refine lv_aload_n hx hb dX4_init_31 rfl (lv_at hl 0 rfl) ?_
  refine lv_iload hx hb dX4_init_32 (lv_at hl 5 rfl) ?_
  refine r_putI (κ := 6) (ci := 5) (C := RX4) (T := TX4) (N := 11) (ty := .int) (x := p5) hx hb hts hiX4 tyX4 tyX4_ok nmX4 hown hK hw hS (ce_6 (S := (sV (sV (sQ (sQ (sV S 6 this 0 p1) 6 this 1 (some p2)) 6 this 2 (some p3)) 6 this 3 p4) 6 this 4 p6)) hk1) rfl 6 (by decide) (hts (.fieldLink RX4 28 "TubePost$Tube" "speed" "I") (by decide +kernel)) (fun _ h9 => h9) rfl (by decide +kernel) rfl rfl (Nat.le_of_ble_eq_true rfl) (pu_6_6 (S := (sV (sV (sQ (sQ (sV S 6 this 0 p1) 6 this 1 (some p2)) 6 this 2 (some p3)) 6 this 3 p4) 6 this 4 p6)) hk1) dX4_init_34 (fun H locs hw hS => ?_)
  refine lv_aload_n hx hb dX4_init_37 rfl (lv_at hl 0 rfl) ?_
  refine lv_iload hx hb dX4_init_38 (lv_at hl 4 rfl) ?_
  refine lv_iload hx hb dX4_init_40 (lv_at hl 5 rfl) ?_
  have h1 := h
  refine va_calli (va_runS (As := [.int p4, .int p5]) (rest := [.ref this]) ⟨hx, hb, hml, hown, hts⟩ (m_X4_dividedUp (l := l) h1) (cwS 2 hts gX4_init_X4_dividedUp rfl rfl rfl (by decide +kernel) ⟨Nat.le_trans (Nat.le_of_ble_eq_true rfl) hRf, Nat.le_trans (Nat.le_of_ble_eq_true rfl) hRl⟩) (r_pS hB hw hS) rfl rfl hl.1 rfl (lv_room (Nat.le_of_ble_eq_true rfl)) dX4_init_42 ⟨by omega, by omega⟩) hS (fun _ _ h => h) (fun _ h => h) (fun r2 S3 t H1 locs ht _ h hw1 _ _ hS => ?_)
  subst ht
  have hw : wd D y z S3 A t.heap := hw1
  clear hw1 h1
  obtain ⟨hk4, h⟩ := h
  refine r_putI (κ := 6) (ci := 5) (C := RX4) (T := TX4) (N := 11) (ty := .int) (x := r2) hx hb hts hiX4 tyX4 tyX4_ok nmX4 hown hK hw hS (ce_6 (S := S3) hk4) rfl 7 (by decide) (hts (.fieldLink RX4 35 "TubePost$Tube" "timeThrough" "I") (by decide +kernel)) (fun _ h9 => h9) rfl (by decide +kernel) rfl rfl (Nat.le_of_ble_eq_true rfl) (pu_6_7 (S := S3) hk4) dX4_init_45 (fun H locs hw hS => ?_)
  refine lv_aload_n hx hb dX4_init_48 rfl (lv_at hl 0 rfl) ?_
  obtain ⟨hbg1, hbg2, h⟩ := h
  refine r_new (ci := 0) (C := RJx4a65c) (T := TJx4a65c) (N := 3) (κ := 1) (nn := 0) hx hb hts hiJx4a65c tyJx4a65c tyJx4a65c_ok hown (hts (.classLink RX4 38 RJx4a65c) (by decide +kernel)) (hts (.instantiable RJx4a65c 3) (by decide +kernel)) (hts (.initialized RJx4a65c) (by decide +kernel)) hK hw hS hAn hAz rfl pn_1 (Nat.le_of_ble_eq_true rfl) b_fs1 (by omega) (by omega) dX4_init_49 (fun q5 H hq6 hw hS => ?_)
  have h := h q5 hq6
  have hk7 : gK (sNew (sV S3 6 this 7 r2) q5 1 0) this = 6 := b_old hk4 hq6 (by decide)
  have hk8 : gK (sNew (sV S3 6 this 7 r2) q5 1 0) q5 = 1 := if_pos rfl
  have hcu : (0 + 1) + (MC - 1) ≤ MC := by omega
  have hsu : (0 + 3) + (MS - 3) ≤ MS := by omega
  refine lv_dup hx hb dX4_init_52 rfl ?_
  have h1 := h
  refine va_callv (va_runI (As := []) (rest := [.ref q5, .ref this]) ⟨hx, hb, hml, hown, hts⟩ (m_Jx4a65c_init_da8c8 (l := l) h1) (cwI 0 hts gX4_init_Jx4a65c_init_da8c8 rfl rfl rfl (hts (.initialized RJx4a65c) (by decide +kernel)) (hts (.methodLink RX4 40 yJx4a65c_init_da8c8) (by decide +kernel)) (hts (.instanceMethod yJx4a65c_init_da8c8) (by decide +kernel)) rfl (by decide +kernel) ⟨Nat.le_trans (Nat.le_of_ble_eq_true rfl) hRf, Nat.le_trans (Nat.le_of_ble_eq_true rfl) hRl⟩) (r_pS hB hw hS) rfl rfl hl.1 rfl (lv_room (Nat.le_of_ble_eq_true rfl)) dX4_init_53 ⟨by omega, by omega⟩) hS (fun _ _ h => h) (fun _ h => h) (fun S10 t H1 locs ht _ h hw1 _ _ hS => ?_)
  subst ht
  have hw : wd D y z S10 A t.heap := hw1
  clear hw1 h1
  obtain ⟨hk11, h⟩ := h
  refine r_putQF (κ := 6) (ci := 5) (C := RX4) (T := TX4) (N := 11) (ty := (tyX4 5)) (x := (some q5)) hx hb hts hiX4 tyX4 tyX4_ok nmX4 hown hK hw hS (ce_6 (S := S10) hk11) rfl 5 (by decide) (hts (.fieldLink RX4 41 "TubePost$Tube" "inside" "Ljava/util/ArrayList;") (by decide +kernel)) (fun _ h9 => h9) rfl hin rfl (by decide +kernel) rfl rfl (Nat.le_of_ble_eq_true rfl) (pu_6_5 (S := S10) hk11) dX4_init_56 (fun H locs hw hS => ?_)
  refine lv_aload_n hx hb dX4_init_59 rfl (lv_at hl 0 rfl) ?_
  refine lv_iconst (v := (1 : Int32)) hx hb dX4_init_60 (by decide) ?_
  refine r_putI (κ := 6) (ci := 5) (C := RX4) (T := TX4) (N := 11) (ty := .boolean) (x := (1 : Int32)) hx hb hts hiX4 tyX4 tyX4_ok nmX4 hown hK hw hS (ce_6 (S := (sQ S10 6 this 5 (some q5))) hk11) rfl 8 (by decide) (hts (.fieldLink RX4 45 "TubePost$Tube" "isOpen" "Z") (by decide +kernel)) (fun _ h9 => h9) rfl (by decide +kernel) rfl rfl (Nat.le_of_ble_eq_true rfl) (pu_6_8 (S := (sQ S10 6 this 5 (some q5))) hk11) dX4_init_61 (fun H locs hw hS => ?_)
  refine lv_aload_n hx hb dX4_init_64 rfl (lv_at hl 0 rfl) ?_
  refine lv_iconst (v := (0 : Int32)) hx hb dX4_init_65 (by decide) ?_
  refine r_putI (κ := 6) (ci := 5) (C := RX4) (T := TX4) (N := 11) (ty := .int) (x := (0 : Int32)) hx hb hts hiX4 tyX4 tyX4_ok nmX4 hown hK hw hS (ce_6 (S := (sV (sQ S10 6 this 5 (some q5)) 6 this 8 (1 : Int32))) hk11) rfl 9 (by decide) (hts (.fieldLink RX4 49 "TubePost$Tube" "entered" "I") (by decide +kernel)) (fun _ h9 => h9) rfl (by decide +kernel) rfl rfl (Nat.le_of_ble_eq_true rfl) (pu_6_9 (S := (sV (sQ S10 6 this 5 (some q5)) 6 this 8 (1 : Int32))) hk11) dX4_init_66 (fun H locs hw hS => ?_)
  refine lv_aload_n hx hb dX4_init_69 rfl (lv_at hl 0 rfl) ?_
  refine lv_iconst (v := (0 : Int32)) hx hb dX4_init_70 (by decide) ?_
  refine r_putI (κ := 6) (ci := 5) (C := RX4) (T := TX4) (N := 11) (ty := .int) (x := (0 : Int32)) hx hb hts hiX4 tyX4 tyX4_ok nmX4 hown hK hw hS (ce_6 (S := (sV (sV (sQ S10 6 this 5 (some q5)) 6 this 8 (1 : Int32)) 6 this 9 (0 : Int32))) hk11) rfl 10 (by decide) (hts (.fieldLink RX4 52 "TubePost$Tube" "lastEntryAt" "I") (by decide +kernel)) (fun _ h9 => h9) rfl (by decide +kernel) rfl rfl (Nat.le_of_ble_eq_true rfl) (pu_6_10 (S := (sV (sV (sQ S10 6 this 5 (some q5)) 6 this 8 (1 : Int32)) 6 this 9 (0 : Int32))) hk11) dX4_init_71 (fun H locs hw hS => ?_)
  exact hret _ _ _ _ _ _ _ h hw hS (by omega) (by omega) dX4_init_74
def wp_X2_lay (post : Int32 → bS → Prop) (MC MS : Nat) (this : Nat) (p1 : Nat) (p2 : Nat) (p3 : Int32) (p4 : Int32) (p5 : Int32) (S : bS) : Prop := 1 ≤ MC ∧ 11 ≤ MS ∧ (∀ q1, gK S q1 = 0 → (gK (sNew S q1 6 0) this = 4 ∧ (∃ b5, gQ (sNew S q1 6 0) 4 this 1 = some b5 ∧ (gK (sNew S q1 6 0) b5 = 1 ∧ (wp_Jx4a65c_size_8abf5 (fun r8 S9 => ∃ k12 n13, k12 ≤ (MC - 1) ∧ n13 ≤ (MS - 11) ∧ (wp_X4_init (fun S11 => gK S11 this = 4 ∧ (∃ b15, gQ S11 4 this 1 = some b15 ∧ (gK S11 b15 = 1 ∧ (∃ k20 n21, k20 ≤ ((MC - 1) - k12) ∧ n21 ≤ ((MS - 11) - n13) ∧ (wp_Jx4a65c_add_9ea2d (fun r18 S19 => gK S19 p1 = 5 ∧ (∃ b23, gQ S19 5 p1 3 = some b23 ∧ (gK S19 b23 = 1 ∧ (∃ k28 n29, k28 ≤ (((MC - 1) - k12) - k20) ∧ n29 ≤ (((MS - 11) - n13) - n21) ∧ (wp_Jx4a65c_add_9ea2d (fun r26 S27 => gK S27 this = 4 ∧ (wp_X2_forgetTimes (fun S32 => gK S32 q1 = 6 ∧ (post (gV S32 6 q1 0) S32)) this S27)) k28 n29 b23 q1 S19))))) k20 n21 b15 q1 S11))))) k12 n13 q1 r8 p1 p2 p3 p4 p5 S9)) b5 (sNew S q1 6 0))))))
set_option maxHeartbeats 4000000 in
set_option maxRecDepth 100000 in
theorem m_X2_lay {l : Launch} {D : va_G} {y : Nat → ClassId} {z : Nat} {A : Nat → Prop} {S : bS} {post : Int32 → bS → Prop} {MC MS : Nat} {this : Nat} {p1 : Nat} {p2 : Nat} {p3 : Int32} {p4 : Int32} {p5 : Int32} (h : wp_X2_lay post MC MS this p1 p2 p3 p4 p5 S) : Met l yX2_lay wsX2_lay ({ frames := 7, cells := MC, slots := MS, locals := 191 } : Room) (va_Pc ([Value.ref this, Value.ref p1, Value.ref p2, Value.int p3, Value.int p4, Value.int p5] : List Value) (bP D y z S A)) (va_Qi post (fun S' t => wd D y z S' A t.heap) A) MC MS A := by
  refine Met.ofW (cc := cX2_lay) (maxL := 7) (ret := (some .int)) (by decide) rfl ?_
  intro p e s m args below meth c s₁ B hml hv
  obtain ⟨rfl, hB⟩ := hv
  have hx := B.exec
  have hb := B.bytes
  have hr := B.returns
  have hts := atoms_spec (ws := wsX2_lay) B.pre
  have hown : s.vm.findClass RX2 = some m.cls := findClass_of_methodNamed B.named
  have hlocks := B.notSynchronized
  have hw : wd D y z S A s.heap := hB.1
  have hK : va_K D bCl (bT y) s := hB.2.1
  have hNw := hB.2.2.1
  have hAn : ∀ q : Nat, s.heap.size ≤ q → A q := hB.2.2.2.1
  have hAz : ¬ A z := hB.2.2.2.2.1
  have hO := hB.2.2.2.2.2.1
  have hS : va_S A s.heap s.heap [] := va_S.rf
  have hiX2 : ∀ w ∈ u_ws RX2 TX2 6, w ∈ wsX2_lay := by decide +kernel
  have hiX3 : ∀ w ∈ u_ws RX3 TX3 7, w ∈ wsX2_lay := by decide +kernel
  have hiX4 : ∀ w ∈ u_ws RX4 TX4 11, w ∈ wsX2_lay := by decide +kernel
  have hl := lv_entry ([Value.ref this, Value.ref p1, Value.ref p2, Value.int p3, Value.int p4, Value.int p5] : List Value) (n := 7) (Nat.le_of_ble_eq_true rfl)
  rw [lg_entry_eq]
  generalize (lg_sl ([Value.ref this, Value.ref p1, Value.ref p2, Value.int p3, Value.int p4, Value.int p5] : List Value) ++ List.replicate (7 - (lg_sl ([Value.ref this, Value.ref p1, Value.ref p2, Value.int p3, Value.int p4, Value.int p5] : List Value)).length) Slot.unset).toArray = ls at hl ⊢
  have hl : lv_has ls 7 [(0, .ref this), (1, .ref p1), (2, .ref p2), (3, .int p3), (4, .int p4), (5, .int p5)] := hl
  obtain ⟨Q, hQ⟩ : ∃ Q, Q = MQ below (va_Qi post (fun S' t => wd D y z S' A t.heap) A) (([Value.ref this, Value.ref p1, Value.ref p2, Value.int p3, Value.int p4, Value.int p5] : List Value).toArray) s MC MS A := ⟨_, rfl⟩
  rw [← hQ]
  generalize hR : (headSpec wsX2_lay ({ frames := 7, cells := MC, slots := MS, locals := 191 } : Room)).room = R
  have hRf : 7 ≤ R.frames := by rw [← hR]; exact Nat.le_refl _
  have hRl : 191 ≤ R.locals := by rw [← hR]; exact Nat.le_refl _
  have hRc : R.cells = MC := by rw [← hR]; rfl
  have hRs : R.slots = MS := by rw [← hR]; rfl
  have hret : ∀ (v : Int32) (S : bS) (H : Heap) (locs : List Loc) (pc : Nat) (ls : Array Slot) (cu su : Nat) , post v S → wd D y z S A H → va_S A s.heap H locs → cu ≤ MC → su ≤ MS → decode cX2_lay pc = .ok (.ireturn, 1) → W p l e R s m (([Value.ref this, Value.ref p1, Value.ref p2, Value.int p3, Value.int p4, Value.int p5] : List Value).toArray) below meth c H locs cu su Q (F0 m pc ls [.int v]) := by
    intro v S H locs pc ls cu su h hw hS hcu hsu d0
    rw [hQ]; refine W.widen hcu hsu ?_; exact W.iret hx hb hr (fun t ht hW => ⟨⟨v, S, rfl, h, by show wd D y z S A t.heap; rw [ht]; exact hw⟩, hS.F ht⟩) hS.2.2 d0 hlocks
  unfold wp_X2_lay at h
  have hcu : 0 + MC ≤ MC := by omega
  have hsu : 0 + MS ≤ MS := by omega
  obtain ⟨hbg1, hbg2, h⟩ := h
  refine r_new (ci := 5) (C := RX4) (T := TX4) (N := 11) (κ := 6) (nn := 0) hx hb hts hiX4 tyX4 tyX4_ok hown (hts (.classLink RX2 53 RX4) (by decide +kernel)) (hts (.instantiable RX4 11) (by decide +kernel)) (hts (.initialized RX4) (by decide +kernel)) hK hw hS hAn hAz rfl pn_6 (Nat.le_of_ble_eq_true rfl) b_fs6 (by omega) (by omega) dX2_lay_0 (fun q1 H hq2 hw hS => ?_)
  have h := h q1 hq2
  have hk3 : gK (sNew S q1 6 0) q1 = 6 := if_pos rfl
  have hcu : (0 + 1) + (MC - 1) ≤ MC := by omega
  have hsu : (0 + 11) + (MS - 11) ≤ MS := by omega
  refine lv_dup hx hb dX2_lay_3 rfl ?_
  refine lv_aload_n hx hb dX2_lay_4 rfl (lv_at hl 0 rfl) ?_
  obtain ⟨hk4, h⟩ := h
  obtain ⟨b5, hb6, h⟩ := h
  refine r_get (ci := 3) (v := .ref b5) (C := RX2) (T := TX2) (N := 6) hx hb hts hiX2 hown hK hw (ce_4 (S := (sNew S q1 6 0)) hk4) rfl 1 (by decide) (hts (.fieldLink RX2 18 "TubePost$Net" "tubes" "Ljava/util/ArrayList;") (by decide +kernel)) (fun _ h9 => h9) (congrArg (fun q => some (va_rf q)) hb6) dX2_lay_5 ?_
  obtain ⟨hk7, h⟩ := h
  have h1 := h
  refine va_calli (va_runV (As := []) (rest := [.ref q1, .ref q1]) ⟨hx, hb, hml, hown, hts⟩ (m_Jx4a65c_size_8abf5 (l := l) h1) (cwV 0 hts gX2_lay_Jx4a65c_size_8abf5 rfl rfl rfl (by decide +kernel) ⟨Nat.le_trans (Nat.le_of_ble_eq_true rfl) hRf, Nat.le_trans (Nat.le_of_ble_eq_true rfl) hRl⟩) (r_pV hB hw hS (ce_1 (S := (sNew S q1 6 0)) hk7) rfl) rfl rfl hl.1 rfl (lv_room (Nat.le_of_ble_eq_true rfl)) dX2_lay_8 ⟨by omega, by omega⟩) hS (fun _ _ h => h) (fun _ h => h) (fun r8 S9 t H1 locs ht _ h hw1 _ _ hS => ?_)
  subst ht
  have hw : wd D y z S9 A t.heap := hw1
  clear hw1 h1
  refine lv_aload_n hx hb dX2_lay_11 rfl (lv_at hl 1 rfl) ?_
  refine lv_aload_n hx hb dX2_lay_12 rfl (lv_at hl 2 rfl) ?_
  refine lv_iload_n hx hb dX2_lay_13 rfl (lv_at hl 3 rfl) ?_
  refine lv_iload hx hb dX2_lay_14 (lv_at hl 4 rfl) ?_
  refine lv_iload hx hb dX2_lay_16 (lv_at hl 5 rfl) ?_
  obtain ⟨k12, n13, hbg1, hbg2, h⟩ := h
  have h1 := h
  refine va_callv (va_runIN (As := [.int r8, .ref p1, .ref p2, .int p3, .int p4, .int p5]) (rest := [.ref q1]) ⟨hx, hb, hml, hown, hts⟩ (m_X4_init (l := l) h1) ⟨va_cnB 6 hts gX2_lay_X4_init_n55 rfl rfl rfl (hNw _ bNw_66) (hts (.initialized RX4) (by decide +kernel)) ⟨by decide +kernel, by decide +kernel, by decide +kernel⟩ ⟨Nat.le_trans (Nat.le_of_ble_eq_true rfl) hRf, Nat.le_trans (Nat.le_of_ble_eq_true rfl) hRl⟩, rfl, (hts (.instanceMethod yX4_init) (by decide +kernel))⟩ (r_pS hB hw hS) rfl rfl hl.1 rfl (lv_room (Nat.le_of_ble_eq_true rfl)) dX2_lay_18 ⟨by omega, by omega⟩) hS (fun _ _ h => h) (fun _ h => h) (fun S11 t H1 locs ht _ h hw1 _ _ hS => ?_)
  subst ht
  have hw : wd D y z S11 A t.heap := hw1
  clear hw1 h1
  have hcu : ((0 + 1) + k12) + ((MC - 1) - k12) ≤ MC := by omega
  have hsu : ((0 + 11) + n13) + ((MS - 11) - n13) ≤ MS := by omega
  refine lv_astore hx hb dX2_lay_21 hl (by decide) rfl (fun ls hl => ?_)
  have hl : lv_has ls 7 [(6, .ref q1), (0, .ref this), (1, .ref p1), (2, .ref p2), (3, .int p3), (4, .int p4), (5, .int p5)] := hl
  refine lv_aload_n hx hb dX2_lay_23 rfl (lv_at hl 1 rfl) ?_
  obtain ⟨hk14, h⟩ := h
  obtain ⟨b15, hb16, h⟩ := h
  refine r_get (ci := 3) (v := .ref b15) (C := RX2) (T := TX2) (N := 6) hx hb hts hiX2 hown hK hw (ce_4 (S := S11) hk14) rfl 1 (by decide) (hts (.fieldLink RX2 18 "TubePost$Net" "tubes" "Ljava/util/ArrayList;") (by decide +kernel)) (fun _ h9 => h9) (congrArg (fun q => some (va_rf q)) hb16) dX2_lay_24 ?_
  refine lv_aload hx hb dX2_lay_27 (lv_at hl 0 rfl) ?_
  obtain ⟨hk17, h⟩ := h
  obtain ⟨k20, n21, hbg1, hbg2, h⟩ := h
  have h1 := h
  refine va_calli (va_runV (As := [.ref q1]) (rest := []) ⟨hx, hb, hml, hown, hts⟩ (m_Jx4a65c_add_9ea2d (l := l) h1) (cwV 1 hts gX2_lay_Jx4a65c_add_9ea2d rfl rfl rfl (by decide +kernel) ⟨Nat.le_trans (Nat.le_of_ble_eq_true rfl) hRf, Nat.le_trans (Nat.le_of_ble_eq_true rfl) hRl⟩) (r_pV hB hw hS (ce_1 (S := S11) hk17) rfl) rfl rfl hl.1 rfl (lv_room (Nat.le_of_ble_eq_true rfl)) dX2_lay_29 ⟨by omega, by omega⟩) hS (fun _ _ h => h) (fun _ h => h) (fun r18 S19 t H1 locs ht _ h hw1 _ _ hS => ?_)
  subst ht
  have hw : wd D y z S19 A t.heap := hw1
  clear hw1 h1
  have hcu : (((0 + 1) + k12) + k20) + (((MC - 1) - k12) - k20) ≤ MC := by omega
  have hsu : (((0 + 11) + n13) + n21) + (((MS - 11) - n13) - n21) ≤ MS := by omega
  refine lv_pop hx hb dX2_lay_32 rfl ?_
  refine lv_aload_n hx hb dX2_lay_33 rfl (lv_at hl 2 rfl) ?_
  obtain ⟨hk22, h⟩ := h
  obtain ⟨b23, hb24, h⟩ := h
  refine r_getN (ci := 4) (v := .ref b23) (C := RX3) (T := TX3) (N := 7) hx hb hts hiX3 hown hK hw (ce_5 (S := S19) hk22) rfl 3 (by decide) (hNw _ (bNw_34)) (fun _ h9 => h9) (congrArg (fun q => some (va_rf q)) hb24) dX2_lay_34 ?_
  refine lv_aload hx hb dX2_lay_37 (lv_at hl 0 rfl) ?_
  obtain ⟨hk25, h⟩ := h
  obtain ⟨k28, n29, hbg1, hbg2, h⟩ := h
  have h1 := h
  refine va_calli (va_runV (As := [.ref q1]) (rest := []) ⟨hx, hb, hml, hown, hts⟩ (m_Jx4a65c_add_9ea2d (l := l) h1) (cwV 1 hts gX2_lay_Jx4a65c_add_9ea2d rfl rfl rfl (by decide +kernel) ⟨Nat.le_trans (Nat.le_of_ble_eq_true rfl) hRf, Nat.le_trans (Nat.le_of_ble_eq_true rfl) hRl⟩) (r_pV hB hw hS (ce_1 (S := S19) hk25) rfl) rfl rfl hl.1 rfl (lv_room (Nat.le_of_ble_eq_true rfl)) dX2_lay_39 ⟨by omega, by omega⟩) hS (fun _ _ h => h) (fun _ h => h) (fun r26 S27 t H1 locs ht _ h hw1 _ _ hS => ?_)
  subst ht
  have hw : wd D y z S27 A t.heap := hw1
  clear hw1 h1
  have hcu : ((((0 + 1) + k12) + k20) + k28) + ((((MC - 1) - k12) - k20) - k28) ≤ MC := by omega
  have hsu : ((((0 + 11) + n13) + n21) + n29) + ((((MS - 11) - n13) - n21) - n29) ≤ MS := by omega
  refine lv_pop hx hb dX2_lay_42 rfl ?_
  refine lv_aload_n hx hb dX2_lay_43 rfl (lv_at hl 1 rfl) ?_
  obtain ⟨hk30, h⟩ := h
  have h1 := h
  refine va_callv (va_runV (As := []) (rest := []) ⟨hx, hb, hml, hown, hts⟩ (m_X2_forgetTimes (l := l) h1) (cwV 0 hts gX2_lay_X2_forgetTimes rfl rfl rfl (by decide +kernel) ⟨Nat.le_trans (Nat.le_of_ble_eq_true rfl) hRf, Nat.le_trans (Nat.le_of_ble_eq_true rfl) hRl⟩) (r_pV hB hw hS (ce_4 (S := S27) hk30) rfl) rfl rfl hl.1 rfl (lv_room (Nat.le_of_ble_eq_true rfl)) dX2_lay_44 ⟨by omega, by omega⟩) hS (fun _ _ h => h) (fun _ h => h) (fun S32 t H1 locs ht _ h hw1 _ _ hS => ?_)
  subst ht
  have hw : wd D y z S32 A t.heap := hw1
  clear hw1 h1
  refine lv_aload hx hb dX2_lay_47 (lv_at hl 0 rfl) ?_
  obtain ⟨hk33, h⟩ := h
  refine r_getN (ci := 5) (v := .int (gV S32 6 q1 0)) (C := RX4) (T := TX4) (N := 11) hx hb hts hiX4 hown hK hw (ce_6 (S := S32) hk33) rfl 0 (by decide) (hNw _ (bNw_35)) (fun _ h9 => h9) rfl dX2_lay_49 ?_
  exact hret (gV S32 6 q1 0) _ _ _ _ _ _ _ h hw hS (by omega) (by omega) dX2_lay_52
def wb_X2_hasStation_20 (post : Int32 → bS → Prop) (s0 : Int32) (S : bS) : Prop := (s0 = 0 ∨ s0 = 1) ∧ post s0 S
def wb_X2_hasStation_19 (post : Int32 → bS → Prop) (S : bS) : Prop := wb_X2_hasStation_20 post (0 : Int32) S
def wp_X2_hasStation (post : Int32 → bS → Prop) (this : Nat) (p1 : Int32) (S : bS) : Prop := (p1 < (0 : Int32) → wb_X2_hasStation_19 post S) ∧ (¬ (p1 < (0 : Int32)) → gK S this = 4 ∧ (∃ b2, gQ S 4 this 0 = some b2 ∧ (gK S b2 = 1 ∧ (wp_Jx4a65c_size_8abf5 (fun r5 S6 => (r5 ≤ p1 → wb_X2_hasStation_19 post S6) ∧ (¬ (r5 ≤ p1) → wb_X2_hasStation_20 post (1 : Int32) S6)) b2 S))))
set_option maxHeartbeats 4000000 in
set_option maxRecDepth 100000 in
theorem m_X2_hasStation {l : Launch} {D : va_G} {y : Nat → ClassId} {z : Nat} {A : Nat → Prop} {S : bS} {post : Int32 → bS → Prop} {this : Nat} {p1 : Int32} (h : wp_X2_hasStation post this p1 S) : Met l yX2_hasStation wsX2_hasStation ({ frames := 1, cells := 0, slots := 0, locals := 20 } : Room) (va_Pc ([Value.ref this, Value.int p1] : List Value) (bP D y z S A)) (va_Qi post (fun S' t => wd D y z S' A t.heap) A) 0 0 A := by
  refine Met.ofW (cc := cX2_hasStation) (maxL := 2) (ret := (some .boolean)) (by decide) rfl ?_
  intro p e s m args below meth c s₁ B hml hv
  obtain ⟨rfl, hB⟩ := hv
  have hx := B.exec
  have hb := B.bytes
  have hr := B.returns
  have hts := atoms_spec (ws := wsX2_hasStation) B.pre
  have hown : s.vm.findClass RX2 = some m.cls := findClass_of_methodNamed B.named
  have hlocks := B.notSynchronized
  have hw : wd D y z S A s.heap := hB.1
  have hK : va_K D bCl (bT y) s := hB.2.1
  have hNw := hB.2.2.1
  have hAn : ∀ q : Nat, s.heap.size ≤ q → A q := hB.2.2.2.1
  have hAz : ¬ A z := hB.2.2.2.2.1
  have hO := hB.2.2.2.2.2.1
  have hS : va_S A s.heap s.heap [] := va_S.rf
  have hiX2 : ∀ w ∈ u_ws RX2 TX2 6, w ∈ wsX2_hasStation := by decide +kernel
  have hl := lv_entry ([Value.ref this, Value.int p1] : List Value) (n := 2) (Nat.le_of_ble_eq_true rfl)
  rw [lg_entry_eq]
  generalize (lg_sl ([Value.ref this, Value.int p1] : List Value) ++ List.replicate (2 - (lg_sl ([Value.ref this, Value.int p1] : List Value)).length) Slot.unset).toArray = ls at hl ⊢
  have hl : lv_has ls 2 [(0, .ref this), (1, .int p1)] := hl
  obtain ⟨Q, hQ⟩ : ∃ Q, Q = MQ below (va_Qi post (fun S' t => wd D y z S' A t.heap) A) (([Value.ref this, Value.int p1] : List Value).toArray) s 0 0 A := ⟨_, rfl⟩
  rw [← hQ]
  generalize hR : (headSpec wsX2_hasStation ({ frames := 1, cells := 0, slots := 0, locals := 20 } : Room)).room = R
  have hRf : 1 ≤ R.frames := by rw [← hR]; exact Nat.le_refl _
  have hRl : 20 ≤ R.locals := by rw [← hR]; exact Nat.le_refl _
  have hret : ∀ (v : Int32) (S : bS) (H : Heap) (locs : List Loc) (pc : Nat) (ls : Array Slot) , (v = 0 ∨ v = 1) → post v S → wd D y z S A H → va_S A s.heap H locs → decode cX2_hasStation pc = .ok (.ireturn, 1) → W p l e R s m (([Value.ref this, Value.int p1] : List Value).toArray) below meth c H locs 0 0 Q (F0 m pc ls [.int v]) := by
    intro v S H locs pc ls hz h hw hS d0
    rw [hQ]; exact W.zret hx hb hr (b_nz hz) (fun t ht hW => ⟨⟨v, S, rfl, h, by show wd D y z S A t.heap; rw [ht]; exact hw⟩, hS.F ht⟩) hS.2.2 d0 hlocks
  have hB20 : ∀ (S : bS) (H : Heap) (locs : List Loc) (ls : Array Slot) (s0 : Int32), wb_X2_hasStation_20 post s0 S → wd D y z S A H → va_S A s.heap H locs → lv_has ls 2 [] → W p l e R s m (([Value.ref this, Value.int p1] : List Value).toArray) below meth c H locs 0 0 Q (F0 m 20 ls [.int s0]) := by
    intro S H locs ls s0 h hw hS hl
    unfold wb_X2_hasStation_20 at h
    obtain ⟨hz, h⟩ := h
    exact hret _ _ _ _ _ _ hz h hw hS dX2_hasStation_20
  have hB19 : ∀ (S : bS) (H : Heap) (locs : List Loc) (ls : Array Slot) , wb_X2_hasStation_19 post S → wd D y z S A H → va_S A s.heap H locs → lv_has ls 2 [] → W p l e R s m (([Value.ref this, Value.int p1] : List Value).toArray) below meth c H locs 0 0 Q (F0 m 19 ls []) := by
    intro S H locs ls  h hw hS hl
    unfold wb_X2_hasStation_19 at h
    refine lv_iconst (v := (0 : Int32)) hx hb dX2_hasStation_19 (by decide) ?_
    exact hB20 _ _ _ _ _ h hw hS (lv_sub hl [] rfl)
  unfold wp_X2_hasStation at h
  refine lv_iload_n hx hb dX2_hasStation_0 rfl (lv_at hl 1 rfl) ?_
  refine lv_if_lt (tgt := 19) hx hb dX2_hasStation_1 (by decide) (fun hc => ?_) (fun hc => ?_)
  · have h := h.1 hc
    exact hB19 _ _ _ _ h hw hS (lv_sub hl [] rfl)
  · have h := h.2 hc
    refine lv_iload_n hx hb dX2_hasStation_4 rfl (lv_at hl 1 rfl) ?_
    refine lv_aload_n hx hb dX2_hasStation_5 rfl (lv_at hl 0 rfl) ?_
    obtain ⟨hk1, h⟩ := h
    obtain ⟨b2, hb3, h⟩ := h
    refine r_get (ci := 3) (v := .ref b2) (C := RX2) (T := TX2) (N := 6) hx hb hts hiX2 hown hK hw (ce_4 (S := S) hk1) rfl 0 (by decide) (hts (.fieldLink RX2 12 "TubePost$Net" "stations" "Ljava/util/ArrayList;") (by decide +kernel)) (fun _ h9 => h9) (congrArg (fun q => some (va_rf q)) hb3) dX2_hasStation_6 ?_
    obtain ⟨hk4, h⟩ := h
    have h1 := h
    refine va_calli (va_runV (As := []) (rest := [.int p1]) ⟨hx, hb, hml, hown, hts⟩ (m_Jx4a65c_size_8abf5 (l := l) h1) (cwV 0 hts gX2_hasStation_Jx4a65c_size_8abf5 rfl rfl rfl (by decide +kernel) ⟨Nat.le_trans (Nat.le_of_ble_eq_true rfl) hRf, Nat.le_trans (Nat.le_of_ble_eq_true rfl) hRl⟩) (r_pV hB hw hS (ce_1 (S := S) hk4) rfl) rfl rfl hl.1 rfl (lv_room (Nat.le_of_ble_eq_true rfl)) dX2_hasStation_9 ⟨Nat.zero_le _, Nat.zero_le _⟩) hS (fun _ _ h => h) (fun _ h => h) (fun r5 S6 t H1 locs ht _ h hw1 _ _ hS => ?_)
    subst ht
    have hw : wd D y z S6 A t.heap := hw1
    clear hw1 h1
    refine lv_icmp_ge (tgt := 19) hx hb dX2_hasStation_12 (by decide) (fun hc => ?_) (fun hc => ?_)
    · have h := h.1 hc
      exact hB19 _ _ _ _ h hw hS (lv_sub hl [] rfl)
    · have h := h.2 hc
      refine lv_iconst (v := (1 : Int32)) hx hb dX2_hasStation_15 (by decide) ?_
      refine lv_goto (tgt := 20) hx hb dX2_hasStation_16 (by decide) ?_
      exact hB20 _ _ _ _ _ h hw hS (lv_sub hl [] rfl)
def wb_X2_hasTube_20 (post : Int32 → bS → Prop) (s0 : Int32) (S : bS) : Prop := (s0 = 0 ∨ s0 = 1) ∧ post s0 S
def wb_X2_hasTube_19 (post : Int32 → bS → Prop) (S : bS) : Prop := wb_X2_hasTube_20 post (0 : Int32) S
def wp_X2_hasTube (post : Int32 → bS → Prop) (this : Nat) (p1 : Int32) (S : bS) : Prop := (p1 < (0 : Int32) → wb_X2_hasTube_19 post S) ∧ (¬ (p1 < (0 : Int32)) → gK S this = 4 ∧ (∃ b2, gQ S 4 this 1 = some b2 ∧ (gK S b2 = 1 ∧ (wp_Jx4a65c_size_8abf5 (fun r5 S6 => (r5 ≤ p1 → wb_X2_hasTube_19 post S6) ∧ (¬ (r5 ≤ p1) → wb_X2_hasTube_20 post (1 : Int32) S6)) b2 S))))
set_option maxHeartbeats 4000000 in
set_option maxRecDepth 100000 in
theorem m_X2_hasTube {l : Launch} {D : va_G} {y : Nat → ClassId} {z : Nat} {A : Nat → Prop} {S : bS} {post : Int32 → bS → Prop} {this : Nat} {p1 : Int32} (h : wp_X2_hasTube post this p1 S) : Met l yX2_hasTube wsX2_hasTube ({ frames := 1, cells := 0, slots := 0, locals := 20 } : Room) (va_Pc ([Value.ref this, Value.int p1] : List Value) (bP D y z S A)) (va_Qi post (fun S' t => wd D y z S' A t.heap) A) 0 0 A := by
  refine Met.ofW (cc := cX2_hasTube) (maxL := 2) (ret := (some .boolean)) (by decide) rfl ?_
  intro p e s m args below meth c s₁ B hml hv
  obtain ⟨rfl, hB⟩ := hv
  have hx := B.exec
  have hb := B.bytes
  have hr := B.returns
  have hts := atoms_spec (ws := wsX2_hasTube) B.pre
  have hown : s.vm.findClass RX2 = some m.cls := findClass_of_methodNamed B.named
  have hlocks := B.notSynchronized
  have hw : wd D y z S A s.heap := hB.1
  have hK : va_K D bCl (bT y) s := hB.2.1
  have hNw := hB.2.2.1
  have hAn : ∀ q : Nat, s.heap.size ≤ q → A q := hB.2.2.2.1
  have hAz : ¬ A z := hB.2.2.2.2.1
  have hO := hB.2.2.2.2.2.1
  have hS : va_S A s.heap s.heap [] := va_S.rf
  have hiX2 : ∀ w ∈ u_ws RX2 TX2 6, w ∈ wsX2_hasTube := by decide +kernel
  have hl := lv_entry ([Value.ref this, Value.int p1] : List Value) (n := 2) (Nat.le_of_ble_eq_true rfl)
  rw [lg_entry_eq]
  generalize (lg_sl ([Value.ref this, Value.int p1] : List Value) ++ List.replicate (2 - (lg_sl ([Value.ref this, Value.int p1] : List Value)).length) Slot.unset).toArray = ls at hl ⊢
  have hl : lv_has ls 2 [(0, .ref this), (1, .int p1)] := hl
  obtain ⟨Q, hQ⟩ : ∃ Q, Q = MQ below (va_Qi post (fun S' t => wd D y z S' A t.heap) A) (([Value.ref this, Value.int p1] : List Value).toArray) s 0 0 A := ⟨_, rfl⟩
  rw [← hQ]
  generalize hR : (headSpec wsX2_hasTube ({ frames := 1, cells := 0, slots := 0, locals := 20 } : Room)).room = R
  have hRf : 1 ≤ R.frames := by rw [← hR]; exact Nat.le_refl _
  have hRl : 20 ≤ R.locals := by rw [← hR]; exact Nat.le_refl _
  have hret : ∀ (v : Int32) (S : bS) (H : Heap) (locs : List Loc) (pc : Nat) (ls : Array Slot) , (v = 0 ∨ v = 1) → post v S → wd D y z S A H → va_S A s.heap H locs → decode cX2_hasTube pc = .ok (.ireturn, 1) → W p l e R s m (([Value.ref this, Value.int p1] : List Value).toArray) below meth c H locs 0 0 Q (F0 m pc ls [.int v]) := by
    intro v S H locs pc ls hz h hw hS d0
    rw [hQ]; exact W.zret hx hb hr (b_nz hz) (fun t ht hW => ⟨⟨v, S, rfl, h, by show wd D y z S A t.heap; rw [ht]; exact hw⟩, hS.F ht⟩) hS.2.2 d0 hlocks
  have hB20 : ∀ (S : bS) (H : Heap) (locs : List Loc) (ls : Array Slot) (s0 : Int32), wb_X2_hasTube_20 post s0 S → wd D y z S A H → va_S A s.heap H locs → lv_has ls 2 [] → W p l e R s m (([Value.ref this, Value.int p1] : List Value).toArray) below meth c H locs 0 0 Q (F0 m 20 ls [.int s0]) := by
    intro S H locs ls s0 h hw hS hl
    unfold wb_X2_hasTube_20 at h
    obtain ⟨hz, h⟩ := h
    exact hret _ _ _ _ _ _ hz h hw hS dX2_hasTube_20
  have hB19 : ∀ (S : bS) (H : Heap) (locs : List Loc) (ls : Array Slot) , wb_X2_hasTube_19 post S → wd D y z S A H → va_S A s.heap H locs → lv_has ls 2 [] → W p l e R s m (([Value.ref this, Value.int p1] : List Value).toArray) below meth c H locs 0 0 Q (F0 m 19 ls []) := by
    intro S H locs ls  h hw hS hl
    unfold wb_X2_hasTube_19 at h
    refine lv_iconst (v := (0 : Int32)) hx hb dX2_hasTube_19 (by decide) ?_
    exact hB20 _ _ _ _ _ h hw hS (lv_sub hl [] rfl)
  unfold wp_X2_hasTube at h
  refine lv_iload_n hx hb dX2_hasTube_0 rfl (lv_at hl 1 rfl) ?_
  refine lv_if_lt (tgt := 19) hx hb dX2_hasTube_1 (by decide) (fun hc => ?_) (fun hc => ?_)
  · have h := h.1 hc
    exact hB19 _ _ _ _ h hw hS (lv_sub hl [] rfl)
  · have h := h.2 hc
    refine lv_iload_n hx hb dX2_hasTube_4 rfl (lv_at hl 1 rfl) ?_
    refine lv_aload_n hx hb dX2_hasTube_5 rfl (lv_at hl 0 rfl) ?_
    obtain ⟨hk1, h⟩ := h
    obtain ⟨b2, hb3, h⟩ := h
    refine r_get (ci := 3) (v := .ref b2) (C := RX2) (T := TX2) (N := 6) hx hb hts hiX2 hown hK hw (ce_4 (S := S) hk1) rfl 1 (by decide) (hts (.fieldLink RX2 18 "TubePost$Net" "tubes" "Ljava/util/ArrayList;") (by decide +kernel)) (fun _ h9 => h9) (congrArg (fun q => some (va_rf q)) hb3) dX2_hasTube_6 ?_
    obtain ⟨hk4, h⟩ := h
    have h1 := h
    refine va_calli (va_runV (As := []) (rest := [.int p1]) ⟨hx, hb, hml, hown, hts⟩ (m_Jx4a65c_size_8abf5 (l := l) h1) (cwV 0 hts gX2_hasTube_Jx4a65c_size_8abf5 rfl rfl rfl (by decide +kernel) ⟨Nat.le_trans (Nat.le_of_ble_eq_true rfl) hRf, Nat.le_trans (Nat.le_of_ble_eq_true rfl) hRl⟩) (r_pV hB hw hS (ce_1 (S := S) hk4) rfl) rfl rfl hl.1 rfl (lv_room (Nat.le_of_ble_eq_true rfl)) dX2_hasTube_9 ⟨Nat.zero_le _, Nat.zero_le _⟩) hS (fun _ _ h => h) (fun _ h => h) (fun r5 S6 t H1 locs ht _ h hw1 _ _ hS => ?_)
    subst ht
    have hw : wd D y z S6 A t.heap := hw1
    clear hw1 h1
    refine lv_icmp_ge (tgt := 19) hx hb dX2_hasTube_12 (by decide) (fun hc => ?_) (fun hc => ?_)
    · have h := h.1 hc
      exact hB19 _ _ _ _ h hw hS (lv_sub hl [] rfl)
    · have h := h.2 hc
      refine lv_iconst (v := (1 : Int32)) hx hb dX2_hasTube_15 (by decide) ?_
      refine lv_goto (tgt := 20) hx hb dX2_hasTube_16 (by decide) ?_
      exact hB20 _ _ _ _ _ h hw hS (lv_sub hl [] rfl)
def wp_X4_setSpeed (post : bS → Prop) (this : Nat) (p1 : Int32) (S : bS) : Prop := gK S this = 6 ∧ (wp_X4_dividedUp (fun r2 S3 => gK S3 this = 6 ∧ (post (sV S3 6 this 7 r2))) (gV (sV S 6 this 6 p1) 6 this 3) p1 (sV S 6 this 6 p1))
set_option maxHeartbeats 4000000 in
set_option maxRecDepth 100000 in
theorem m_X4_setSpeed {l : Launch} {D : va_G} {y : Nat → ClassId} {z : Nat} {A : Nat → Prop} {S : bS} {post : bS → Prop} {this : Nat} {p1 : Int32} (h : wp_X4_setSpeed post this p1 S) : Met l yX4_setSpeed wsX4_setSpeed ({ frames := 1, cells := 0, slots := 0, locals := 21 } : Room) (va_Pc ([Value.ref this, Value.int p1] : List Value) (bP D y z S A)) (va_Qv post (fun S' t => wd D y z S' A t.heap) A) 0 0 A := by
  refine Met.ofW (cc := cX4_setSpeed) (maxL := 2) (ret := none) (by decide) rfl ?_
  intro p e s m args below meth c s₁ B hml hv
  obtain ⟨rfl, hB⟩ := hv
  have hx := B.exec
  have hb := B.bytes
  have hr := B.returns
  have hts := atoms_spec (ws := wsX4_setSpeed) B.pre
  have hown : s.vm.findClass RX4 = some m.cls := findClass_of_methodNamed B.named
  have hlocks := B.notSynchronized
  have hw : wd D y z S A s.heap := hB.1
  have hK : va_K D bCl (bT y) s := hB.2.1
  have hNw := hB.2.2.1
  have hAn : ∀ q : Nat, s.heap.size ≤ q → A q := hB.2.2.2.1
  have hAz : ¬ A z := hB.2.2.2.2.1
  have hO := hB.2.2.2.2.2.1
  have hS : va_S A s.heap s.heap [] := va_S.rf
  have hiX4 : ∀ w ∈ u_ws RX4 TX4 11, w ∈ wsX4_setSpeed := by decide +kernel
  have hl := lv_entry ([Value.ref this, Value.int p1] : List Value) (n := 2) (Nat.le_of_ble_eq_true rfl)
  rw [lg_entry_eq]
  generalize (lg_sl ([Value.ref this, Value.int p1] : List Value) ++ List.replicate (2 - (lg_sl ([Value.ref this, Value.int p1] : List Value)).length) Slot.unset).toArray = ls at hl ⊢
  have hl : lv_has ls 2 [(0, .ref this), (1, .int p1)] := hl
  obtain ⟨Q, hQ⟩ : ∃ Q, Q = MQ below (va_Qv post (fun S' t => wd D y z S' A t.heap) A) (([Value.ref this, Value.int p1] : List Value).toArray) s 0 0 A := ⟨_, rfl⟩
  rw [← hQ]
  generalize hR : (headSpec wsX4_setSpeed ({ frames := 1, cells := 0, slots := 0, locals := 21 } : Room)).room = R
  have hRf : 1 ≤ R.frames := by rw [← hR]; exact Nat.le_refl _
  have hRl : 21 ≤ R.locals := by rw [← hR]; exact Nat.le_refl _
  have hret : ∀ (S : bS) (H : Heap) (locs : List Loc) (pc : Nat) (ls : Array Slot) , post S → wd D y z S A H → va_S A s.heap H locs → decode cX4_setSpeed pc = .ok (.return_, 1) → W p l e R s m (([Value.ref this, Value.int p1] : List Value).toArray) below meth c H locs 0 0 Q (F0 m pc ls []) := by
    intro S H locs pc ls h hw hS d0
    rw [hQ]; exact W.vret hx hb hr (fun t ht hW => ⟨⟨S, rfl, h, by show wd D y z S A t.heap; rw [ht]; exact hw⟩, hS.F ht⟩) hS.2.2 d0 hlocks
  unfold wp_X4_setSpeed at h
  refine lv_aload_n hx hb dX4_setSpeed_0 rfl (lv_at hl 0 rfl) ?_
  refine lv_iload_n hx hb dX4_setSpeed_1 rfl (lv_at hl 1 rfl) ?_
  obtain ⟨hk1, h⟩ := h
  refine r_putI (κ := 6) (ci := 5) (C := RX4) (T := TX4) (N := 11) (ty := .int) (x := p1) hx hb hts hiX4 tyX4 tyX4_ok nmX4 hown hK hw hS (ce_6 (S := S) hk1) rfl 6 (by decide) (hts (.fieldLink RX4 28 "TubePost$Tube" "speed" "I") (by decide +kernel)) (fun _ h9 => h9) rfl (by decide +kernel) rfl rfl (Nat.le_of_ble_eq_true rfl) (pu_6_6 (S := S) hk1) dX4_setSpeed_2 (fun H locs hw hS => ?_)
  refine lv_aload_n hx hb dX4_setSpeed_5 rfl (lv_at hl 0 rfl) ?_
  refine lv_aload_n hx hb dX4_setSpeed_6 rfl (lv_at hl 0 rfl) ?_
  refine r_get (ci := 5) (v := .int (gV (sV S 6 this 6 p1) 6 this 3)) (C := RX4) (T := TX4) (N := 11) hx hb hts hiX4 hown hK hw (ce_6 (S := (sV S 6 this 6 p1)) hk1) rfl 3 (by decide) (hts (.fieldLink RX4 22 "TubePost$Tube" "length" "I") (by decide +kernel)) (fun _ h9 => h9) rfl dX4_setSpeed_7 ?_
  refine lv_iload_n hx hb dX4_setSpeed_10 rfl (lv_at hl 1 rfl) ?_
  have h1 := h
  refine va_calli (va_runS (As := [.int (gV (sV S 6 this 6 p1) 6 this 3), .int p1]) (rest := [.ref this]) ⟨hx, hb, hml, hown, hts⟩ (m_X4_dividedUp (l := l) h1) (cwS 2 hts gX4_setSpeed_X4_dividedUp rfl rfl rfl (by decide +kernel) ⟨Nat.le_trans (Nat.le_of_ble_eq_true rfl) hRf, Nat.le_trans (Nat.le_of_ble_eq_true rfl) hRl⟩) (r_pS hB hw hS) rfl rfl hl.1 rfl (lv_room (Nat.le_of_ble_eq_true rfl)) dX4_setSpeed_11 ⟨Nat.zero_le _, Nat.zero_le _⟩) hS (fun _ _ h => h) (fun _ h => h) (fun r2 S3 t H1 locs ht _ h hw1 _ _ hS => ?_)
  subst ht
  have hw : wd D y z S3 A t.heap := hw1
  clear hw1 h1
  obtain ⟨hk4, h⟩ := h
  refine r_putI (κ := 6) (ci := 5) (C := RX4) (T := TX4) (N := 11) (ty := .int) (x := r2) hx hb hts hiX4 tyX4 tyX4_ok nmX4 hown hK hw hS (ce_6 (S := S3) hk4) rfl 7 (by decide) (hts (.fieldLink RX4 35 "TubePost$Tube" "timeThrough" "I") (by decide +kernel)) (fun _ h9 => h9) rfl (by decide +kernel) rfl rfl (Nat.le_of_ble_eq_true rfl) (pu_6_7 (S := S3) hk4) dX4_setSpeed_14 (fun H locs hw hS => ?_)
  exact hret _ _ _ _ _ h hw hS dX4_setSpeed_17
def wp_X2_set (post : bS → Prop) (this : Nat) (p1 : Nat) (p2 : Int32) (p3 : Int32) (S : bS) : Prop := gK S p1 = 6 ∧ (wp_X4_setSpeed (fun S3 => gK S3 p1 = 6 ∧ ((p3 = 0 ∨ p3 = 1) ∧ (gK (sV S3 6 p1 8 p3) this = 4 ∧ (wp_X2_forgetTimes (fun S7 => post S7) this (sV S3 6 p1 8 p3))))) p1 p2 S)
set_option maxHeartbeats 4000000 in
set_option maxRecDepth 100000 in
theorem m_X2_set {l : Launch} {D : va_G} {y : Nat → ClassId} {z : Nat} {A : Nat → Prop} {S : bS} {post : bS → Prop} {this : Nat} {p1 : Nat} {p2 : Int32} {p3 : Int32} (h : wp_X2_set post this p1 p2 p3 S) : Met l yX2_set wsX2_set ({ frames := 2, cells := 0, slots := 0, locals := 42 } : Room) (va_Pc ([Value.ref this, Value.ref p1, Value.int p2, Value.int p3] : List Value) (bP D y z S A)) (va_Qv post (fun S' t => wd D y z S' A t.heap) A) 0 0 A := by
  refine Met.ofW (cc := cX2_set) (maxL := 4) (ret := none) (by decide) rfl ?_
  intro p e s m args below meth c s₁ B hml hv
  obtain ⟨rfl, hB⟩ := hv
  have hx := B.exec
  have hb := B.bytes
  have hr := B.returns
  have hts := atoms_spec (ws := wsX2_set) B.pre
  have hown : s.vm.findClass RX2 = some m.cls := findClass_of_methodNamed B.named
  have hlocks := B.notSynchronized
  have hw : wd D y z S A s.heap := hB.1
  have hK : va_K D bCl (bT y) s := hB.2.1
  have hNw := hB.2.2.1
  have hAn : ∀ q : Nat, s.heap.size ≤ q → A q := hB.2.2.2.1
  have hAz : ¬ A z := hB.2.2.2.2.1
  have hO := hB.2.2.2.2.2.1
  have hS : va_S A s.heap s.heap [] := va_S.rf
  have hiX4 : ∀ w ∈ u_ws RX4 TX4 11, w ∈ wsX2_set := by decide +kernel
  have hl := lv_entry ([Value.ref this, Value.ref p1, Value.int p2, Value.int p3] : List Value) (n := 4) (Nat.le_of_ble_eq_true rfl)
  rw [lg_entry_eq]
  generalize (lg_sl ([Value.ref this, Value.ref p1, Value.int p2, Value.int p3] : List Value) ++ List.replicate (4 - (lg_sl ([Value.ref this, Value.ref p1, Value.int p2, Value.int p3] : List Value)).length) Slot.unset).toArray = ls at hl ⊢
  have hl : lv_has ls 4 [(0, .ref this), (1, .ref p1), (2, .int p2), (3, .int p3)] := hl
  obtain ⟨Q, hQ⟩ : ∃ Q, Q = MQ below (va_Qv post (fun S' t => wd D y z S' A t.heap) A) (([Value.ref this, Value.ref p1, Value.int p2, Value.int p3] : List Value).toArray) s 0 0 A := ⟨_, rfl⟩
  rw [← hQ]
  generalize hR : (headSpec wsX2_set ({ frames := 2, cells := 0, slots := 0, locals := 42 } : Room)).room = R
  have hRf : 2 ≤ R.frames := by rw [← hR]; exact Nat.le_refl _
  have hRl : 42 ≤ R.locals := by rw [← hR]; exact Nat.le_refl _
  have hret : ∀ (S : bS) (H : Heap) (locs : List Loc) (pc : Nat) (ls : Array Slot) , post S → wd D y z S A H → va_S A s.heap H locs → decode cX2_set pc = .ok (.return_, 1) → W p l e R s m (([Value.ref this, Value.ref p1, Value.int p2, Value.int p3] : List Value).toArray) below meth c H locs 0 0 Q (F0 m pc ls []) := by
    intro S H locs pc ls h hw hS d0
    rw [hQ]; exact W.vret hx hb hr (fun t ht hW => ⟨⟨S, rfl, h, by show wd D y z S A t.heap; rw [ht]; exact hw⟩, hS.F ht⟩) hS.2.2 d0 hlocks
  unfold wp_X2_set at h
  refine lv_aload_n hx hb dX2_set_0 rfl (lv_at hl 1 rfl) ?_
  refine lv_iload_n hx hb dX2_set_1 rfl (lv_at hl 2 rfl) ?_
  obtain ⟨hk1, h⟩ := h
  have h1 := h
  refine va_callv (va_runVN (As := [.int p2]) (rest := []) ⟨hx, hb, hml, hown, hts⟩ (m_X4_setSpeed (l := l) h1) ⟨va_cnB 1 hts gX2_set_X4_setSpeed_n65 rfl rfl rfl (hNw _ bNw_67) (hts (.initialized RX4) (by decide +kernel)) ⟨by decide +kernel, by decide +kernel, by decide +kernel⟩ ⟨Nat.le_trans (Nat.le_of_ble_eq_true rfl) hRf, Nat.le_trans (Nat.le_of_ble_eq_true rfl) hRl⟩, (hts (.instanceMethod yX4_setSpeed) (by decide +kernel)), hts (.selects RX4 yX4_setSpeed yX4_setSpeed) (by decide +kernel)⟩ (r_pV hB hw hS (ce_6 (S := S) hk1) rfl) rfl rfl hl.1 rfl (lv_room (Nat.le_of_ble_eq_true rfl)) dX2_set_2 ⟨Nat.zero_le _, Nat.zero_le _⟩) hS (fun _ _ h => h) (fun _ h => h) (fun S3 t H1 locs ht _ h hw1 _ _ hS => ?_)
  subst ht
  have hw : wd D y z S3 A t.heap := hw1
  clear hw1 h1
  refine lv_aload_n hx hb dX2_set_5 rfl (lv_at hl 1 rfl) ?_
  refine lv_iload_n hx hb dX2_set_6 rfl (lv_at hl 3 rfl) ?_
  obtain ⟨hk4, h⟩ := h
  obtain ⟨hz, h⟩ := h
  refine r_putIN (κ := 6) (ci := 5) (C := RX4) (T := TX4) (N := 11) (ty := .boolean) (x := p3) hx hb hts hiX4 tyX4 tyX4_ok nmX4 hown hK hw hS (ce_6 (S := S3) hk4) rfl 8 (by decide) (hNw _ (bNw_36)) (fun _ h9 => h9) rfl (by decide +kernel) (b_nz hz) (b_fz hz) (Nat.le_of_ble_eq_true rfl) (pu_6_8 (S := S3) hk4) dX2_set_7 (fun H locs hw hS => ?_)
  refine lv_aload_n hx hb dX2_set_10 rfl (lv_at hl 0 rfl) ?_
  obtain ⟨hk5, h⟩ := h
  have h1 := h
  refine va_callv (va_runV (As := []) (rest := []) ⟨hx, hb, hml, hown, hts⟩ (m_X2_forgetTimes (l := l) h1) (cwV 0 hts gX2_set_X2_forgetTimes rfl rfl rfl (by decide +kernel) ⟨Nat.le_trans (Nat.le_of_ble_eq_true rfl) hRf, Nat.le_trans (Nat.le_of_ble_eq_true rfl) hRl⟩) (r_pV hB hw hS (ce_4 (S := (sV S3 6 p1 8 p3)) hk5) rfl) rfl rfl hl.1 rfl (lv_room (Nat.le_of_ble_eq_true rfl)) dX2_set_11 ⟨Nat.zero_le _, Nat.zero_le _⟩) hS (fun _ _ h => h) (fun _ h => h) (fun S7 t H1 locs ht _ h hw1 _ _ hS => ?_)
  subst ht
  have hw : wd D y z S7 A t.heap := hw1
  clear hw1 h1
  exact hret _ _ _ _ _ h hw hS dX2_set_14
def wb_X2_timeBy_25 (post : Int32 → bS → Prop) (S : bS) : Prop := post (1000000 : Int32) S
def wb_X2_timeBy_47 (post : Int32 → bS → Prop) (v1 : Nat) (v4 : Int32) (s0 : Int32) (S : bS) : Prop := gK S v1 = 6 ∧ (post (((gV S 6 v1 7) + s0) + v4) S)
def wp_X2_timeBy (post : Int32 → bS → Prop) (this : Nat) (p1 : Nat) (p2 : Nat) (p3 : Nat) (S : bS) : Prop := gK S p1 = 6 ∧ (∃ b2, gQ S 6 p1 2 = some b2 ∧ (gK S b2 = 5 ∧ (gK S p3 = 9 ∧ (vp_in (gV S 5 b2 0) (gN S p3) ∧ (((gV S 6 p1 8) = (0 : Int32) → wb_X2_timeBy_25 post S) ∧ (¬ ((gV S 6 p1 8) = (0 : Int32)) → ((gV S 9 p3 (Int32.toNatClampNeg (gV S 5 b2 0))) ≠ (1000000 : Int32) → ∃ b7, gQ S 6 p1 2 = some b7 ∧ (((some b7) ≠ (some p2) → ∃ b9, gQ S 6 p1 2 = some b9 ∧ (gK S b9 = 5 ∧ (wb_X2_timeBy_47 post p1 (gV S 9 p3 (Int32.toNatClampNeg (gV S 5 b2 0))) (gV S 5 b9 2) S))) ∧ ((some b7) = (some p2) → wb_X2_timeBy_47 post p1 (gV S 9 p3 (Int32.toNatClampNeg (gV S 5 b2 0))) (0 : Int32) S))) ∧ ((gV S 9 p3 (Int32.toNatClampNeg (gV S 5 b2 0))) = (1000000 : Int32) → wb_X2_timeBy_25 post S)))))))
set_option maxHeartbeats 4000000 in
set_option maxRecDepth 100000 in
theorem m_X2_timeBy {l : Launch} {D : va_G} {y : Nat → ClassId} {z : Nat} {A : Nat → Prop} {S : bS} {post : Int32 → bS → Prop} {this : Nat} {p1 : Nat} {p2 : Nat} {p3 : Nat} (h : wp_X2_timeBy post this p1 p2 p3 S) : Met l yX2_timeBy wsX2_timeBy ({ frames := 0, cells := 0, slots := 0, locals := 0 } : Room) (va_Pc ([Value.ref this, Value.ref p1, Value.ref p2, Value.ref p3] : List Value) (bP D y z S A)) (va_Qi post (fun S' t => wd D y z S' A t.heap) A) 0 0 A := by
  refine Met.ofW (cc := cX2_timeBy) (maxL := 6) (ret := (some .int)) (by decide) rfl ?_
  intro p e s m args below meth c s₁ B hml hv
  obtain ⟨rfl, hB⟩ := hv
  have hx := B.exec
  have hb := B.bytes
  have hr := B.returns
  have hts := atoms_spec (ws := wsX2_timeBy) B.pre
  have hown : s.vm.findClass RX2 = some m.cls := findClass_of_methodNamed B.named
  have hlocks := B.notSynchronized
  have hw : wd D y z S A s.heap := hB.1
  have hK : va_K D bCl (bT y) s := hB.2.1
  have hNw := hB.2.2.1
  have hAn : ∀ q : Nat, s.heap.size ≤ q → A q := hB.2.2.2.1
  have hAz : ¬ A z := hB.2.2.2.2.1
  have hO := hB.2.2.2.2.2.1
  have hS : va_S A s.heap s.heap [] := va_S.rf
  have hiX3 : ∀ w ∈ u_ws RX3 TX3 7, w ∈ wsX2_timeBy := by decide +kernel
  have hiX4 : ∀ w ∈ u_ws RX4 TX4 11, w ∈ wsX2_timeBy := by decide +kernel
  have hl := lv_entry ([Value.ref this, Value.ref p1, Value.ref p2, Value.ref p3] : List Value) (n := 6) (Nat.le_of_ble_eq_true rfl)
  rw [lg_entry_eq]
  generalize (lg_sl ([Value.ref this, Value.ref p1, Value.ref p2, Value.ref p3] : List Value) ++ List.replicate (6 - (lg_sl ([Value.ref this, Value.ref p1, Value.ref p2, Value.ref p3] : List Value)).length) Slot.unset).toArray = ls at hl ⊢
  have hl : lv_has ls 6 [(0, .ref this), (1, .ref p1), (2, .ref p2), (3, .ref p3)] := hl
  obtain ⟨Q, hQ⟩ : ∃ Q, Q = MQ below (va_Qi post (fun S' t => wd D y z S' A t.heap) A) (([Value.ref this, Value.ref p1, Value.ref p2, Value.ref p3] : List Value).toArray) s 0 0 A := ⟨_, rfl⟩
  rw [← hQ]
  generalize hR : (headSpec wsX2_timeBy ({ frames := 0, cells := 0, slots := 0, locals := 0 } : Room)).room = R
  have hRf : 0 ≤ R.frames := by rw [← hR]; exact Nat.le_refl _
  have hRl : 0 ≤ R.locals := by rw [← hR]; exact Nat.le_refl _
  have hret : ∀ (v : Int32) (S : bS) (H : Heap) (locs : List Loc) (pc : Nat) (ls : Array Slot) , post v S → wd D y z S A H → va_S A s.heap H locs → decode cX2_timeBy pc = .ok (.ireturn, 1) → W p l e R s m (([Value.ref this, Value.ref p1, Value.ref p2, Value.ref p3] : List Value).toArray) below meth c H locs 0 0 Q (F0 m pc ls [.int v]) := by
    intro v S H locs pc ls h hw hS d0
    rw [hQ]; exact W.iret hx hb hr (fun t ht hW => ⟨⟨v, S, rfl, h, by show wd D y z S A t.heap; rw [ht]; exact hw⟩, hS.F ht⟩) hS.2.2 d0 hlocks
  have hB25 : ∀ (S : bS) (H : Heap) (locs : List Loc) (ls : Array Slot) , wb_X2_timeBy_25 post S → wd D y z S A H → va_S A s.heap H locs → lv_has ls 6 [] → W p l e R s m (([Value.ref this, Value.ref p1, Value.ref p2, Value.ref p3] : List Value).toArray) below meth c H locs 0 0 Q (F0 m 25 ls []) := by
    intro S H locs ls  h hw hS hl
    unfold wb_X2_timeBy_25 at h
    refine lv_ldc (v := (1000000 : Int32)) hx hb hown (hts (.constant RX2 81 (1000000 : Int32)) (by decide +kernel)) dX2_timeBy_25 ?_
    exact hret (1000000 : Int32) _ _ _ _ _ h hw hS dX2_timeBy_27
  have hB47 : ∀ (S : bS) (H : Heap) (locs : List Loc) (ls : Array Slot) (v1 : Nat) (v4 : Int32) (s0 : Int32), wb_X2_timeBy_47 post v1 v4 s0 S → wd D y z S A H → va_S A s.heap H locs → lv_has ls 6 [(1, .ref v1), (4, .int v4)] → W p l e R s m (([Value.ref this, Value.ref p1, Value.ref p2, Value.ref p3] : List Value).toArray) below meth c H locs 0 0 Q (F0 m 47 ls [.int s0]) := by
    intro S H locs ls v1 v4 s0 h hw hS hl
    unfold wb_X2_timeBy_47 at h
    refine lv_istore hx hb dX2_timeBy_47 hl (by decide) rfl (fun ls hl => ?_)
    have hl : lv_has ls 6 [(5, .int s0), (1, .ref v1), (4, .int v4)] := hl
    refine lv_aload_n hx hb dX2_timeBy_49 rfl (lv_at hl 1 rfl) ?_
    obtain ⟨hk12, h⟩ := h
    refine r_getN (ci := 5) (v := .int (gV S 6 v1 7)) (C := RX4) (T := TX4) (N := 11) hx hb hts hiX4 hown hK hw (ce_6 (S := S) hk12) rfl 7 (by decide) (hNw _ (bNw_42)) (fun _ h9 => h9) rfl dX2_timeBy_50 ?_
    refine lv_iload hx hb dX2_timeBy_53 (lv_at hl 0 rfl) ?_
    refine lv_iadd hx hb dX2_timeBy_55 ?_
    refine lv_iload hx hb dX2_timeBy_56 (lv_at hl 2 rfl) ?_
    refine lv_iadd hx hb dX2_timeBy_58 ?_
    exact hret (((gV S 6 v1 7) + s0) + v4) _ _ _ _ _ h hw hS dX2_timeBy_59
  unfold wp_X2_timeBy at h
  refine lv_aload_n hx hb dX2_timeBy_0 rfl (lv_at hl 3 rfl) ?_
  refine lv_aload_n hx hb dX2_timeBy_1 rfl (lv_at hl 1 rfl) ?_
  obtain ⟨hk1, h⟩ := h
  obtain ⟨b2, hb3, h⟩ := h
  refine r_getN (ci := 5) (v := .ref b2) (C := RX4) (T := TX4) (N := 11) hx hb hts hiX4 hown hK hw (ce_6 (S := S) hk1) rfl 2 (by decide) (hNw _ (bNw_40)) (fun _ h9 => h9) (congrArg (fun q => some (va_rf q)) hb3) dX2_timeBy_2 ?_
  obtain ⟨hk4, h⟩ := h
  refine r_getN (ci := 4) (v := .int (gV S 5 b2 0)) (C := RX3) (T := TX3) (N := 7) hx hb hts hiX3 hown hK hw (ce_5 (S := S) hk4) rfl 0 (by decide) (hNw _ (bNw_37)) (fun _ h9 => h9) rfl dX2_timeBy_5 ?_
  obtain ⟨hk5, h⟩ := h
  obtain ⟨hin6, h⟩ := h
  refine r_iald hx hb hK hw hk5 hin6 dX2_timeBy_8 ?_
  refine lv_istore hx hb dX2_timeBy_9 hl (by decide) rfl (fun ls hl => ?_)
  have hl : lv_has ls 6 [(4, .int (gV S 9 p3 (Int32.toNatClampNeg (gV S 5 b2 0)))), (0, .ref this), (1, .ref p1), (2, .ref p2), (3, .ref p3)] := hl
  refine lv_aload_n hx hb dX2_timeBy_11 rfl (lv_at hl 2 rfl) ?_
  refine r_getN (ci := 5) (v := .int (gV S 6 p1 8)) (C := RX4) (T := TX4) (N := 11) hx hb hts hiX4 hown hK hw (ce_6 (S := S) hk1) rfl 8 (by decide) (hNw _ (bNw_36)) (fun _ h9 => h9) rfl dX2_timeBy_12 ?_
  refine lv_if_eq (tgt := 25) hx hb dX2_timeBy_15 (by decide) (fun hc => ?_) (fun hc => ?_)
  · have h := h.1 hc
    exact hB25 _ _ _ _ h hw hS (lv_sub hl [] rfl)
  · have h := h.2 hc
    refine lv_iload hx hb dX2_timeBy_18 (lv_at hl 0 rfl) ?_
    refine lv_ldc (v := (1000000 : Int32)) hx hb hown (hts (.constant RX2 81 (1000000 : Int32)) (by decide +kernel)) dX2_timeBy_20 ?_
    refine lv_icmp_ne (tgt := 28) hx hb dX2_timeBy_22 (by decide) (fun hc => ?_) (fun hc => ?_)
    · have h := h.1 hc
      refine lv_aload_n hx hb dX2_timeBy_28 rfl (lv_at hl 2 rfl) ?_
      obtain ⟨b7, hb8, h⟩ := h
      refine r_getN (ci := 5) (v := .ref b7) (C := RX4) (T := TX4) (N := 11) hx hb hts hiX4 hown hK hw (ce_6 (S := S) hk1) rfl 2 (by decide) (hNw _ (bNw_40)) (fun _ h9 => h9) (congrArg (fun q => some (va_rf q)) hb8) dX2_timeBy_29 ?_
      refine lv_aload_n hx hb dX2_timeBy_32 rfl (lv_at hl 3 rfl) ?_
      refine lv_acmp_ne (rx := (some b7)) (ry := (some p2)) (tgt := 40) hx hb dX2_timeBy_33 (by decide) (fun hc => ?_) (fun hc => ?_)
      · have h := h.1 hc
        refine lv_aload_n hx hb dX2_timeBy_40 rfl (lv_at hl 2 rfl) ?_
        obtain ⟨b9, hb10, h⟩ := h
        refine r_getN (ci := 5) (v := .ref b9) (C := RX4) (T := TX4) (N := 11) hx hb hts hiX4 hown hK hw (ce_6 (S := S) hk1) rfl 2 (by decide) (hNw _ (bNw_40)) (fun _ h9 => h9) (congrArg (fun q => some (va_rf q)) hb10) dX2_timeBy_41 ?_
        obtain ⟨hk11, h⟩ := h
        refine r_getN (ci := 4) (v := .int (gV S 5 b9 2)) (C := RX3) (T := TX3) (N := 7) hx hb hts hiX3 hown hK hw (ce_5 (S := S) hk11) rfl 2 (by decide) (hNw _ (bNw_41)) (fun _ h9 => h9) rfl dX2_timeBy_44 ?_
        exact hB47 _ _ _ _ _ _ _ h hw hS (lv_sub hl [2, 0] rfl)
      · have h := h.2 hc
        refine lv_iconst (v := (0 : Int32)) hx hb dX2_timeBy_36 (by decide) ?_
        refine lv_goto (tgt := 47) hx hb dX2_timeBy_37 (by decide) ?_
        exact hB47 _ _ _ _ _ _ _ h hw hS (lv_sub hl [2, 0] rfl)
    · have h := h.2 hc
      exact hB25 _ _ _ _ h hw hS (lv_sub hl [] rfl)
def wb_X2_timesTo_140 (post : Option Nat → bS → Prop) (v0 : Nat) (v1 : Nat) (v2 : Nat) (S : bS) : Prop := gK S v0 = 4 ∧ (∃ b53, gQ S 4 v0 3 = some b53 ∧ (gK S v1 = 5 ∧ (gK S b53 = 10 ∧ (vp_in (gV S 5 v1 0) (gN S b53) ∧ (post (some v2) (sV S 10 b53 (Int32.toNatClampNeg (gV S 5 v1 0)) (vp_nar .boolean (1 : Int32))))))))
def wb_X2_timesTo_128 (post : Option Nat → bS → Prop) (rec42 : Nat → Nat → Nat → Int32 → Int32 → bS → Prop) (rec63 : Nat → Nat → Nat → Int32 → Int32 → Int32 → bS → Prop) (v0 : Nat) (v1 : Nat) (v2 : Nat) (v3 : Int32) (v4 : Int32) (v5 : Int32) (S : bS) : Prop := rec63 v0 v1 v2 v3 v4 (v5 + (1 : Int32)) S
def wb_X2_timesTo_63 (post : Option Nat → bS → Prop) (rec42 : Nat → Nat → Nat → Int32 → Int32 → bS → Prop) : Nat → Nat → Nat → Nat → Int32 → Int32 → Int32 → bS → Prop
  | 0, _, _, _, _, _, _, _ => False
  | n + 1, v0, v1, v2, v3, v4, v5, S => gK S v0 = 4 ∧ (∃ b25, gQ S 4 v0 1 = some b25 ∧ (gK S b25 = 1 ∧ (wp_Jx4a65c_size_8abf5 (fun r28 S29 => (r28 ≤ v5 → rec42 v0 v1 v2 v3 (v4 + (1 : Int32)) S29) ∧ (¬ (r28 ≤ v5) → gK S29 v0 = 4 ∧ (∃ b31, gQ S29 4 v0 1 = some b31 ∧ (gK S29 b31 = 1 ∧ (wp_Jx4a65c_get_915e3 (fun r34 S35 => ∃ b36, r34 = some b36 ∧ (gK S35 b36 = 6 ∧ (gK S35 v0 = 4 ∧ (wp_X2_timeBy (fun r40 S41 => gK S41 b36 = 6 ∧ (∃ b43, gQ S41 6 b36 1 = some b43 ∧ (gK S41 b43 = 5 ∧ (gK S41 v2 = 9 ∧ (vp_in (gV S41 5 b43 0) (gN S41 v2) ∧ (((gV S41 9 v2 (Int32.toNatClampNeg (gV S41 5 b43 0))) ≤ r40 → wb_X2_timesTo_128 post rec42 (wb_X2_timesTo_63 post rec42 n) v0 v1 v2 v3 v4 v5 S41) ∧ (¬ ((gV S41 9 v2 (Int32.toNatClampNeg (gV S41 5 b43 0))) ≤ r40) → ∃ b48, gQ S41 6 b36 1 = some b48 ∧ (gK S41 b48 = 5 ∧ (vp_in (gV S41 5 b48 0) (gN S41 v2) ∧ (wb_X2_timesTo_128 post rec42 (wb_X2_timesTo_63 post rec42 n) v0 v1 v2 (1 : Int32) v4 v5 (sV S41 9 v2 (Int32.toNatClampNeg (gV S41 5 b48 0)) r40))))))))))) v0 b36 v1 v2 S35)))) b31 v5 S29))))) b25 S)))
def wb_X2_timesTo_42 (post : Option Nat → bS → Prop) : Nat → Nat → Nat → Nat → Int32 → Int32 → bS → Prop
  | 0, _, _, _, _, _, _ => False
  | n + 1, v0, v1, v2, v3, v4, S => (v3 = (0 : Int32) → wb_X2_timesTo_140 post v0 v1 v2 S) ∧ (¬ (v3 = (0 : Int32)) → gK S v0 = 4 ∧ (∃ b19, gQ S 4 v0 0 = some b19 ∧ (gK S b19 = 1 ∧ (wp_Jx4a65c_size_8abf5 (fun r22 S23 => (r22 ≤ v4 → wb_X2_timesTo_140 post v0 v1 v2 S23) ∧ (¬ (r22 ≤ v4) → ∃ n63, wb_X2_timesTo_63 post (wb_X2_timesTo_42 post n) n63 v0 v1 v2 (0 : Int32) v4 (0 : Int32) S23)) b19 S))))
def wp_X2_timesTo (post : Option Nat → bS → Prop) (this : Nat) (p1 : Nat) (S : bS) : Prop := gK S this = 4 ∧ (∃ b2, gQ S 4 this 2 = some b2 ∧ (gK S p1 = 5 ∧ (gK S b2 = 12 ∧ (vp_in (gV S 5 p1 0) (gN S b2) ∧ (∃ b7, gQ S 12 b2 (Int32.toNatClampNeg (gV S 5 p1 0)) = some b7 ∧ (∃ b9, gQ S 4 this 3 = some b9 ∧ (gK S b9 = 10 ∧ (vp_in (gV S 5 p1 0) (gN S b9) ∧ (((gV S 10 b9 (Int32.toNatClampNeg (gV S 5 p1 0))) = (0 : Int32) → wp_J7_fill_53178 (fun S14 => gK S14 p1 = 5 ∧ (gK S14 b7 = 9 ∧ (vp_in (gV S14 5 p1 0) (gN S14 b7) ∧ (∃ n42, wb_X2_timesTo_42 post n42 this p1 b7 (1 : Int32) (0 : Int32) (sV S14 9 b7 (Int32.toNatClampNeg (gV S14 5 p1 0)) (0 : Int32)))))) b7 (1000000 : Int32) S) ∧ (¬ ((gV S 10 b9 (Int32.toNatClampNeg (gV S 5 p1 0))) = (0 : Int32)) → post (some b7) S))))))))))
set_option maxHeartbeats 4000000 in
set_option maxRecDepth 100000 in
theorem m_X2_timesTo {l : Launch} {D : va_G} {y : Nat → ClassId} {z : Nat} {A : Nat → Prop} {S : bS} {post : Option Nat → bS → Prop} {this : Nat} {p1 : Nat} (h : wp_X2_timesTo post this p1 S) : Met l yX2_timesTo wsX2_timesTo ({ frames := 3, cells := 0, slots := 0, locals := 64 } : Room) (va_Pc ([Value.ref this, Value.ref p1] : List Value) (bP D y z S A)) (va_Qq post (fun S' t => wd D y z S' A t.heap) A) 0 0 A := by
  refine Met.ofW (cc := cX2_timesTo) (maxL := 8) (ret := (some (.array .int))) (by decide) rfl ?_
  intro p e s m args below meth c s₁ B hml hv
  obtain ⟨rfl, hB⟩ := hv
  have hx := B.exec
  have hb := B.bytes
  have hr := B.returns
  have hts := atoms_spec (ws := wsX2_timesTo) B.pre
  have hown : s.vm.findClass RX2 = some m.cls := findClass_of_methodNamed B.named
  have hlocks := B.notSynchronized
  have hw : wd D y z S A s.heap := hB.1
  have hK : va_K D bCl (bT y) s := hB.2.1
  have hNw := hB.2.2.1
  have hAn : ∀ q : Nat, s.heap.size ≤ q → A q := hB.2.2.2.1
  have hAz : ¬ A z := hB.2.2.2.2.1
  have hO := hB.2.2.2.2.2.1
  have hS : va_S A s.heap s.heap [] := va_S.rf
  have hiX2 : ∀ w ∈ u_ws RX2 TX2 6, w ∈ wsX2_timesTo := by decide +kernel
  have hiX3 : ∀ w ∈ u_ws RX3 TX3 7, w ∈ wsX2_timesTo := by decide +kernel
  have hiX4 : ∀ w ∈ u_ws RX4 TX4 11, w ∈ wsX2_timesTo := by decide +kernel
  have hl := lv_entry ([Value.ref this, Value.ref p1] : List Value) (n := 8) (Nat.le_of_ble_eq_true rfl)
  rw [lg_entry_eq]
  generalize (lg_sl ([Value.ref this, Value.ref p1] : List Value) ++ List.replicate (8 - (lg_sl ([Value.ref this, Value.ref p1] : List Value)).length) Slot.unset).toArray = ls at hl ⊢
  have hl : lv_has ls 8 [(0, .ref this), (1, .ref p1)] := hl
  obtain ⟨Q, hQ⟩ : ∃ Q, Q = MQ below (va_Qq post (fun S' t => wd D y z S' A t.heap) A) (([Value.ref this, Value.ref p1] : List Value).toArray) s 0 0 A := ⟨_, rfl⟩
  rw [← hQ]
  generalize hR : (headSpec wsX2_timesTo ({ frames := 3, cells := 0, slots := 0, locals := 64 } : Room)).room = R
  have hRf : 3 ≤ R.frames := by rw [← hR]; exact Nat.le_refl _
  have hRl : 64 ≤ R.locals := by rw [← hR]; exact Nat.le_refl _
  have hret : ∀ (v : Option Nat) (S : bS) (H : Heap) (locs : List Loc) (pc : Nat) (ls : Array Slot) , post v S → wd D y z S A H → va_S A s.heap H locs → decode cX2_timesTo pc = .ok (.areturn, 1) → W p l e R s m (([Value.ref this, Value.ref p1] : List Value).toArray) below meth c H locs 0 0 Q (F0 m pc ls [va_rf v]) := by
    intro v S H locs pc ls h hw hS d0
    rw [hQ]; exact W.aret hx hb hr (by first | exact Or.inl ⟨_, rfl⟩ | exact Or.inr ⟨_, rfl⟩) (by cases v with | none => exact Or.inl rfl | some a => exact Or.inr ⟨a, rfl⟩) (fun t ht hW => ⟨⟨v, S, rfl, h, by show wd D y z S A t.heap; rw [ht]; exact hw⟩, hS.F ht⟩) hS.2.2 d0 hlocks
  have hB140 : ∀ (S : bS) (H : Heap) (locs : List Loc) (ls : Array Slot) (v0 : Nat) (v1 : Nat) (v2 : Nat), wb_X2_timesTo_140 post v0 v1 v2 S → wd D y z S A H → va_S A s.heap H locs → lv_has ls 8 [(0, .ref v0), (1, .ref v1), (2, .ref v2)] → W p l e R s m (([Value.ref this, Value.ref p1] : List Value).toArray) below meth c H locs 0 0 Q (F0 m 140 ls []) := by
    intro S H locs ls v0 v1 v2 h hw hS hl
    unfold wb_X2_timesTo_140 at h
    refine lv_aload_n hx hb dX2_timesTo_140 rfl (lv_at hl 0 rfl) ?_
    obtain ⟨hk52, h⟩ := h
    obtain ⟨b53, hb54, h⟩ := h
    refine r_get (ci := 3) (v := .ref b53) (C := RX2) (T := TX2) (N := 6) hx hb hts hiX2 hown hK hw (ce_4 (S := S) hk52) rfl 3 (by decide) (hts (.fieldLink RX2 26 "TubePost$Net" "isReckoned" "[Z") (by decide +kernel)) (fun _ h9 => h9) (congrArg (fun q => some (va_rf q)) hb54) dX2_timesTo_141 ?_
    refine lv_aload_n hx hb dX2_timesTo_144 rfl (lv_at hl 1 rfl) ?_
    obtain ⟨hk55, h⟩ := h
    refine r_getN (ci := 4) (v := .int (gV S 5 v1 0)) (C := RX3) (T := TX3) (N := 7) hx hb hts hiX3 hown hK hw (ce_5 (S := S) hk55) rfl 0 (by decide) (hNw _ (bNw_37)) (fun _ h9 => h9) rfl dX2_timesTo_145 ?_
    refine lv_iconst (v := (1 : Int32)) hx hb dX2_timesTo_148 (by decide) ?_
    obtain ⟨hk56, h⟩ := h
    obtain ⟨hin57, h⟩ := h
    refine r_zast hx hb hK hw hS hk56 hin57 dX2_timesTo_149 (fun H locs hw hS => ?_)
    refine lv_aload_n hx hb dX2_timesTo_150 rfl (lv_at hl 2 rfl) ?_
    exact hret (some v2) _ _ _ _ _ h hw hS dX2_timesTo_151
  have hB42 : ∀ (n42 : Nat) (S : bS) (H : Heap) (locs : List Loc) (ls : Array Slot) (v0 : Nat) (v1 : Nat) (v2 : Nat) (v3 : Int32) (v4 : Int32), wb_X2_timesTo_42 post n42 v0 v1 v2 v3 v4 S → wd D y z S A H → va_S A s.heap H locs → lv_has ls 8 [(0, .ref v0), (1, .ref v1), (2, .ref v2), (3, .int v3), (4, .int v4)] → W p l e R s m (([Value.ref this, Value.ref p1] : List Value).toArray) below meth c H locs 0 0 Q (F0 m 42 ls []) := by
    intro n42
    induction n42 with
    | zero =>
      intro S H locs ls v0 v1 v2 v3 v4 h hw hS hl
      exact absurd h (by unfold wb_X2_timesTo_42; exact id)
    | succ n42 ih42 =>
      have hB63 : ∀ (n63 : Nat) (S : bS) (H : Heap) (locs : List Loc) (ls : Array Slot) (v0 : Nat) (v1 : Nat) (v2 : Nat) (v3 : Int32) (v4 : Int32) (v5 : Int32), wb_X2_timesTo_63 post (wb_X2_timesTo_42 post n42) n63 v0 v1 v2 v3 v4 v5 S → wd D y z S A H → va_S A s.heap H locs → lv_has ls 8 [(0, .ref v0), (1, .ref v1), (2, .ref v2), (3, .int v3), (4, .int v4), (5, .int v5)] → W p l e R s m (([Value.ref this, Value.ref p1] : List Value).toArray) below meth c H locs 0 0 Q (F0 m 63 ls []) := by
        intro n63
        induction n63 with
        | zero =>
          intro S H locs ls v0 v1 v2 v3 v4 v5 h hw hS hl
          exact absurd h (by unfold wb_X2_timesTo_63; exact id)
        | succ n63 ih63 =>
          have hB128 : ∀ (S : bS) (H : Heap) (locs : List Loc) (ls : Array Slot) (v0 : Nat) (v1 : Nat) (v2 : Nat) (v3 : Int32) (v4 : Int32) (v5 : Int32), wb_X2_timesTo_128 post (wb_X2_timesTo_42 post n42) (wb_X2_timesTo_63 post (wb_X2_timesTo_42 post n42) n63) v0 v1 v2 v3 v4 v5 S → wd D y z S A H → va_S A s.heap H locs → lv_has ls 8 [(0, .ref v0), (1, .ref v1), (2, .ref v2), (3, .int v3), (4, .int v4), (5, .int v5)] → W p l e R s m (([Value.ref this, Value.ref p1] : List Value).toArray) below meth c H locs 0 0 Q (F0 m 128 ls []) := by
            intro S H locs ls v0 v1 v2 v3 v4 v5 h hw hS hl
            unfold wb_X2_timesTo_128 at h
            refine lv_iinc (v := (v5 + (1 : Int32))) hx hb dX2_timesTo_128 hl (k := 5) rfl rfl (by decide) rfl (fun ls hl => ?_)
            have hl : lv_has ls 8 [(5, .int (v5 + (1 : Int32))), (0, .ref v0), (1, .ref v1), (2, .ref v2), (3, .int v3), (4, .int v4)] := hl
            refine lv_goto (tgt := 63) hx hb dX2_timesTo_131 (by decide) ?_
            exact ih63 _ _ _ _ _ _ _ _ _ _ h hw hS (lv_sub hl [1, 2, 3, 4, 5, 0] rfl)
          intro S H locs ls v0 v1 v2 v3 v4 v5 h hw hS hl
          unfold wb_X2_timesTo_63 at h
          refine lv_iload hx hb dX2_timesTo_63 (lv_at hl 5 rfl) ?_
          refine lv_aload_n hx hb dX2_timesTo_65 rfl (lv_at hl 0 rfl) ?_
          obtain ⟨hk24, h⟩ := h
          obtain ⟨b25, hb26, h⟩ := h
          refine r_get (ci := 3) (v := .ref b25) (C := RX2) (T := TX2) (N := 6) hx hb hts hiX2 hown hK hw (ce_4 (S := S) hk24) rfl 1 (by decide) (hts (.fieldLink RX2 18 "TubePost$Net" "tubes" "Ljava/util/ArrayList;") (by decide +kernel)) (fun _ h9 => h9) (congrArg (fun q => some (va_rf q)) hb26) dX2_timesTo_66 ?_
          obtain ⟨hk27, h⟩ := h
          have h1 := h
          refine va_calli (va_runV (As := []) (rest := [.int v5]) ⟨hx, hb, hml, hown, hts⟩ (m_Jx4a65c_size_8abf5 (l := l) h1) (cwV 0 hts gX2_timesTo_Jx4a65c_size_8abf5 rfl rfl rfl (by decide +kernel) ⟨Nat.le_trans (Nat.le_of_ble_eq_true rfl) hRf, Nat.le_trans (Nat.le_of_ble_eq_true rfl) hRl⟩) (r_pV hB hw hS (ce_1 (S := S) hk27) rfl) rfl rfl hl.1 rfl (lv_room (Nat.le_of_ble_eq_true rfl)) dX2_timesTo_69 ⟨Nat.zero_le _, Nat.zero_le _⟩) hS (fun _ _ h => h) (fun _ h => h) (fun r28 S29 t H1 locs ht _ h hw1 _ _ hS => ?_)
          subst ht
          have hw : wd D y z S29 A t.heap := hw1
          clear hw1 h1
          refine lv_icmp_ge (tgt := 134) hx hb dX2_timesTo_72 (by decide) (fun hc => ?_) (fun hc => ?_)
          · have h := h.1 hc
            refine lv_iinc (v := (v4 + (1 : Int32))) hx hb dX2_timesTo_134 hl (k := 4) rfl rfl (by decide) rfl (fun ls hl => ?_)
            have hl : lv_has ls 8 [(4, .int (v4 + (1 : Int32))), (0, .ref v0), (1, .ref v1), (2, .ref v2), (3, .int v3), (5, .int v5)] := hl
            refine lv_goto (tgt := 42) hx hb dX2_timesTo_137 (by decide) ?_
            exact ih42 _ _ _ _ _ _ _ _ _ h hw hS (lv_sub hl [1, 2, 3, 4, 0] rfl)
          · have h := h.2 hc
            refine lv_aload_n hx hb dX2_timesTo_75 rfl (lv_at hl 0 rfl) ?_
            obtain ⟨hk30, h⟩ := h
            obtain ⟨b31, hb32, h⟩ := h
            refine r_get (ci := 3) (v := .ref b31) (C := RX2) (T := TX2) (N := 6) hx hb hts hiX2 hown hK hw (ce_4 (S := S29) hk30) rfl 1 (by decide) (hts (.fieldLink RX2 18 "TubePost$Net" "tubes" "Ljava/util/ArrayList;") (by decide +kernel)) (fun _ h9 => h9) (congrArg (fun q => some (va_rf q)) hb32) dX2_timesTo_76 ?_
            refine lv_iload hx hb dX2_timesTo_79 (lv_at hl 5 rfl) ?_
            obtain ⟨hk33, h⟩ := h
            have h1 := h
            refine va_callq (va_runV (As := [.int v5]) (rest := []) ⟨hx, hb, hml, hown, hts⟩ (m_Jx4a65c_get_915e3 (l := l) h1) (cwV 1 hts gX2_timesTo_Jx4a65c_get_915e3 rfl rfl rfl (by decide +kernel) ⟨Nat.le_trans (Nat.le_of_ble_eq_true rfl) hRf, Nat.le_trans (Nat.le_of_ble_eq_true rfl) hRl⟩) (r_pV hB hw hS (ce_1 (S := S29) hk33) rfl) rfl rfl hl.1 rfl (lv_room (Nat.le_of_ble_eq_true rfl)) dX2_timesTo_81 ⟨Nat.zero_le _, Nat.zero_le _⟩) hS (fun _ _ h => h) (fun _ h => h) (fun r34 S35 t H1 locs ht _ h hw1 _ _ hS => ?_)
            subst ht
            have hw : wd D y z S35 A t.heap := hw1
            clear hw1 h1
            obtain ⟨b36, rfl, h⟩ := h
            refine W.eq (g2 := F0 m 84 ls [.ref b36]) rfl ?_
            obtain ⟨hk38, h⟩ := h
            refine r_cast hx hb hown (hts (.classLink RX2 53 "TubePost$Tube") (by decide +kernel)) hK hw (ce_6 hk38) rfl dX2_timesTo_84 ?_
            refine lv_astore hx hb dX2_timesTo_87 hl (by decide) rfl (fun ls hl => ?_)
            have hl : lv_has ls 8 [(6, .ref b36), (0, .ref v0), (1, .ref v1), (2, .ref v2), (3, .int v3), (4, .int v4), (5, .int v5)] := hl
            refine lv_aload_n hx hb dX2_timesTo_89 rfl (lv_at hl 1 rfl) ?_
            refine lv_aload hx hb dX2_timesTo_90 (lv_at hl 0 rfl) ?_
            refine lv_aload_n hx hb dX2_timesTo_92 rfl (lv_at hl 2 rfl) ?_
            refine lv_aload_n hx hb dX2_timesTo_93 rfl (lv_at hl 3 rfl) ?_
            obtain ⟨hk39, h⟩ := h
            have h1 := h
            refine va_calli (va_runV (As := [.ref b36, .ref v1, .ref v2]) (rest := []) ⟨hx, hb, hml, hown, hts⟩ (m_X2_timeBy (l := l) h1) (cwV 3 hts gX2_timesTo_X2_timeBy rfl rfl rfl (by decide +kernel) ⟨Nat.le_trans (Nat.le_of_ble_eq_true rfl) hRf, Nat.le_trans (Nat.le_of_ble_eq_true rfl) hRl⟩) (r_pV hB hw hS (ce_4 (S := S35) hk39) rfl) rfl rfl hl.1 rfl (lv_room (Nat.le_of_ble_eq_true rfl)) dX2_timesTo_94 ⟨Nat.zero_le _, Nat.zero_le _⟩) hS (fun _ _ h => h) (fun _ h => h) (fun r40 S41 t H1 locs ht _ h hw1 _ _ hS => ?_)
            subst ht
            have hw : wd D y z S41 A t.heap := hw1
            clear hw1 h1
            refine lv_istore hx hb dX2_timesTo_97 hl (by decide) rfl (fun ls hl => ?_)
            have hl : lv_has ls 8 [(7, .int r40), (6, .ref b36), (0, .ref v0), (1, .ref v1), (2, .ref v2), (3, .int v3), (4, .int v4), (5, .int v5)] := hl
            refine lv_iload hx hb dX2_timesTo_99 (lv_at hl 0 rfl) ?_
            refine lv_aload_n hx hb dX2_timesTo_101 rfl (lv_at hl 4 rfl) ?_
            refine lv_aload hx hb dX2_timesTo_102 (lv_at hl 1 rfl) ?_
            obtain ⟨hk42, h⟩ := h
            obtain ⟨b43, hb44, h⟩ := h
            refine r_getN (ci := 5) (v := .ref b43) (C := RX4) (T := TX4) (N := 11) hx hb hts hiX4 hown hK hw (ce_6 (S := S41) hk42) rfl 1 (by decide) (hNw _ (bNw_39)) (fun _ h9 => h9) (congrArg (fun q => some (va_rf q)) hb44) dX2_timesTo_104 ?_
            obtain ⟨hk45, h⟩ := h
            refine r_getN (ci := 4) (v := .int (gV S41 5 b43 0)) (C := RX3) (T := TX3) (N := 7) hx hb hts hiX3 hown hK hw (ce_5 (S := S41) hk45) rfl 0 (by decide) (hNw _ (bNw_37)) (fun _ h9 => h9) rfl dX2_timesTo_107 ?_
            obtain ⟨hk46, h⟩ := h
            obtain ⟨hin47, h⟩ := h
            refine r_iald hx hb hK hw hk46 hin47 dX2_timesTo_110 ?_
            refine lv_icmp_ge (tgt := 128) hx hb dX2_timesTo_111 (by decide) (fun hc => ?_) (fun hc => ?_)
            · have h := h.1 hc
              exact hB128 _ _ _ _ _ _ _ _ _ _ h hw hS (lv_sub hl [2, 3, 4, 5, 6, 7] rfl)
            · have h := h.2 hc
              refine lv_aload_n hx hb dX2_timesTo_114 rfl (lv_at hl 4 rfl) ?_
              refine lv_aload hx hb dX2_timesTo_115 (lv_at hl 1 rfl) ?_
              obtain ⟨b48, hb49, h⟩ := h
              refine r_getN (ci := 5) (v := .ref b48) (C := RX4) (T := TX4) (N := 11) hx hb hts hiX4 hown hK hw (ce_6 (S := S41) hk42) rfl 1 (by decide) (hNw _ (bNw_39)) (fun _ h9 => h9) (congrArg (fun q => some (va_rf q)) hb49) dX2_timesTo_117 ?_
              obtain ⟨hk50, h⟩ := h
              refine r_getN (ci := 4) (v := .int (gV S41 5 b48 0)) (C := RX3) (T := TX3) (N := 7) hx hb hts hiX3 hown hK hw (ce_5 (S := S41) hk50) rfl 0 (by decide) (hNw _ (bNw_37)) (fun _ h9 => h9) rfl dX2_timesTo_120 ?_
              refine lv_iload hx hb dX2_timesTo_123 (lv_at hl 0 rfl) ?_
              obtain ⟨hin51, h⟩ := h
              refine r_iast hx hb hK hw hS hk46 hin51 dX2_timesTo_125 (fun H locs hw hS => ?_)
              refine lv_iconst (v := (1 : Int32)) hx hb dX2_timesTo_126 (by decide) ?_
              refine lv_istore_n hx hb dX2_timesTo_127 rfl hl (by decide) rfl (fun ls hl => ?_)
              have hl : lv_has ls 8 [(3, .int (1 : Int32)), (7, .int r40), (6, .ref b36), (0, .ref v0), (1, .ref v1), (2, .ref v2), (4, .int v4), (5, .int v5)] := hl
              exact hB128 _ _ _ _ _ _ _ _ _ _ h hw hS (lv_sub hl [3, 4, 5, 0, 6, 7] rfl)
      intro S H locs ls v0 v1 v2 v3 v4 h hw hS hl
      unfold wb_X2_timesTo_42 at h
      refine lv_iload_n hx hb dX2_timesTo_42 rfl (lv_at hl 3 rfl) ?_
      refine lv_if_eq (tgt := 140) hx hb dX2_timesTo_43 (by decide) (fun hc => ?_) (fun hc => ?_)
      · have h := h.1 hc
        exact hB140 _ _ _ _ _ _ _ h hw hS (lv_sub hl [0, 1, 2] rfl)
      · have h := h.2 hc
        refine lv_iload hx hb dX2_timesTo_46 (lv_at hl 4 rfl) ?_
        refine lv_aload_n hx hb dX2_timesTo_48 rfl (lv_at hl 0 rfl) ?_
        obtain ⟨hk18, h⟩ := h
        obtain ⟨b19, hb20, h⟩ := h
        refine r_get (ci := 3) (v := .ref b19) (C := RX2) (T := TX2) (N := 6) hx hb hts hiX2 hown hK hw (ce_4 (S := S) hk18) rfl 0 (by decide) (hts (.fieldLink RX2 12 "TubePost$Net" "stations" "Ljava/util/ArrayList;") (by decide +kernel)) (fun _ h9 => h9) (congrArg (fun q => some (va_rf q)) hb20) dX2_timesTo_49 ?_
        obtain ⟨hk21, h⟩ := h
        have h1 := h
        refine va_calli (va_runV (As := []) (rest := [.int v4]) ⟨hx, hb, hml, hown, hts⟩ (m_Jx4a65c_size_8abf5 (l := l) h1) (cwV 0 hts gX2_timesTo_Jx4a65c_size_8abf5 rfl rfl rfl (by decide +kernel) ⟨Nat.le_trans (Nat.le_of_ble_eq_true rfl) hRf, Nat.le_trans (Nat.le_of_ble_eq_true rfl) hRl⟩) (r_pV hB hw hS (ce_1 (S := S) hk21) rfl) rfl rfl hl.1 rfl (lv_room (Nat.le_of_ble_eq_true rfl)) dX2_timesTo_52 ⟨Nat.zero_le _, Nat.zero_le _⟩) hS (fun _ _ h => h) (fun _ h => h) (fun r22 S23 t H1 locs ht _ h hw1 _ _ hS => ?_)
        subst ht
        have hw : wd D y z S23 A t.heap := hw1
        clear hw1 h1
        refine lv_icmp_ge (tgt := 140) hx hb dX2_timesTo_55 (by decide) (fun hc => ?_) (fun hc => ?_)
        · have h := h.1 hc
          exact hB140 _ _ _ _ _ _ _ h hw hS (lv_sub hl [0, 1, 2] rfl)
        · have h := h.2 hc
          refine lv_iconst (v := (0 : Int32)) hx hb dX2_timesTo_58 (by decide) ?_
          refine lv_istore_n hx hb dX2_timesTo_59 rfl hl (by decide) rfl (fun ls hl => ?_)
          have hl : lv_has ls 8 [(3, .int (0 : Int32)), (0, .ref v0), (1, .ref v1), (2, .ref v2), (4, .int v4)] := hl
          refine lv_iconst (v := (0 : Int32)) hx hb dX2_timesTo_60 (by decide) ?_
          refine lv_istore hx hb dX2_timesTo_61 hl (by decide) rfl (fun ls hl => ?_)
          have hl : lv_has ls 8 [(5, .int (0 : Int32)), (3, .int (0 : Int32)), (0, .ref v0), (1, .ref v1), (2, .ref v2), (4, .int v4)] := hl
          obtain ⟨n63, h⟩ := h
          exact hB63 n63 _ _ _ _ _ _ _ _ _ _ h hw hS (lv_sub hl [2, 3, 4, 1, 5, 0] rfl)
  unfold wp_X2_timesTo at h
  refine lv_aload_n hx hb dX2_timesTo_0 rfl (lv_at hl 0 rfl) ?_
  obtain ⟨hk1, h⟩ := h
  obtain ⟨b2, hb3, h⟩ := h
  refine r_get (ci := 3) (v := .ref b2) (C := RX2) (T := TX2) (N := 6) hx hb hts hiX2 hown hK hw (ce_4 (S := S) hk1) rfl 2 (by decide) (hts (.fieldLink RX2 23 "TubePost$Net" "timesToAims" "[[I") (by decide +kernel)) (fun _ h9 => h9) (congrArg (fun q => some (va_rf q)) hb3) dX2_timesTo_1 ?_
  refine lv_aload_n hx hb dX2_timesTo_4 rfl (lv_at hl 1 rfl) ?_
  obtain ⟨hk4, h⟩ := h
  refine r_getN (ci := 4) (v := .int (gV S 5 p1 0)) (C := RX3) (T := TX3) (N := 7) hx hb hts hiX3 hown hK hw (ce_5 (S := S) hk4) rfl 0 (by decide) (hNw _ (bNw_37)) (fun _ h9 => h9) rfl dX2_timesTo_5 ?_
  obtain ⟨hk5, h⟩ := h
  obtain ⟨hin6, h⟩ := h
  obtain ⟨b7, hb8, h⟩ := h
  refine r_rald hx hb hK hw hk5 hin6 dX2_timesTo_8 ?_
  rw [hb8]
  refine W.eq (g2 := F0 m 9 ls [.ref b7]) rfl ?_
  refine lv_astore_n hx hb dX2_timesTo_9 rfl hl (by decide) rfl (fun ls hl => ?_)
  have hl : lv_has ls 8 [(2, .ref b7), (0, .ref this), (1, .ref p1)] := hl
  refine lv_aload_n hx hb dX2_timesTo_10 rfl (lv_at hl 1 rfl) ?_
  obtain ⟨b9, hb10, h⟩ := h
  refine r_get (ci := 3) (v := .ref b9) (C := RX2) (T := TX2) (N := 6) hx hb hts hiX2 hown hK hw (ce_4 (S := S) hk1) rfl 3 (by decide) (hts (.fieldLink RX2 26 "TubePost$Net" "isReckoned" "[Z") (by decide +kernel)) (fun _ h9 => h9) (congrArg (fun q => some (va_rf q)) hb10) dX2_timesTo_11 ?_
  refine lv_aload_n hx hb dX2_timesTo_14 rfl (lv_at hl 2 rfl) ?_
  refine r_getN (ci := 4) (v := .int (gV S 5 p1 0)) (C := RX3) (T := TX3) (N := 7) hx hb hts hiX3 hown hK hw (ce_5 (S := S) hk4) rfl 0 (by decide) (hNw _ (bNw_37)) (fun _ h9 => h9) rfl dX2_timesTo_15 ?_
  obtain ⟨hk11, h⟩ := h
  obtain ⟨hin12, h⟩ := h
  refine r_zald hx hb hK hw hk11 hin12 dX2_timesTo_18 ?_
  refine lv_if_eq (tgt := 24) hx hb dX2_timesTo_19 (by decide) (fun hc => ?_) (fun hc => ?_)
  · have h := h.1 hc
    refine lv_aload_n hx hb dX2_timesTo_24 rfl (lv_at hl 0 rfl) ?_
    refine lv_ldc (v := (1000000 : Int32)) hx hb hown (hts (.constant RX2 81 (1000000 : Int32)) (by decide +kernel)) dX2_timesTo_25 ?_
    have h1 := h
    refine va_callv (va_runS (As := [.ref b7, .int (1000000 : Int32)]) (rest := []) ⟨hx, hb, hml, hown, hts⟩ (m_J7_fill_53178 (l := l) h1) (va_cwS 2 hts gX2_timesTo_J7_fill_53178 rfl rfl rfl (by decide +kernel) ⟨Nat.le_trans (Nat.le_of_ble_eq_true rfl) hRf, Nat.le_trans (Nat.le_of_ble_eq_true rfl) hRl⟩) (r_pS hB hw hS) rfl rfl hl.1 rfl (lv_room (Nat.le_of_ble_eq_true rfl)) dX2_timesTo_27 ⟨Nat.zero_le _, Nat.zero_le _⟩) hS (fun _ _ h => h) (fun _ h => h) (fun S14 t H1 locs ht _ h hw1 _ _ hS => ?_)
    subst ht
    have hw : wd D y z S14 A t.heap := hw1
    clear hw1 h1
    refine lv_aload_n hx hb dX2_timesTo_30 rfl (lv_at hl 0 rfl) ?_
    refine lv_aload_n hx hb dX2_timesTo_31 rfl (lv_at hl 2 rfl) ?_
    obtain ⟨hk15, h⟩ := h
    refine r_getN (ci := 4) (v := .int (gV S14 5 p1 0)) (C := RX3) (T := TX3) (N := 7) hx hb hts hiX3 hown hK hw (ce_5 (S := S14) hk15) rfl 0 (by decide) (hNw _ (bNw_37)) (fun _ h9 => h9) rfl dX2_timesTo_32 ?_
    refine lv_iconst (v := (0 : Int32)) hx hb dX2_timesTo_35 (by decide) ?_
    obtain ⟨hk16, h⟩ := h
    obtain ⟨hin17, h⟩ := h
    refine r_iast hx hb hK hw hS hk16 hin17 dX2_timesTo_36 (fun H locs hw hS => ?_)
    refine lv_iconst (v := (1 : Int32)) hx hb dX2_timesTo_37 (by decide) ?_
    refine lv_istore_n hx hb dX2_timesTo_38 rfl hl (by decide) rfl (fun ls hl => ?_)
    have hl : lv_has ls 8 [(3, .int (1 : Int32)), (2, .ref b7), (0, .ref this), (1, .ref p1)] := hl
    refine lv_iconst (v := (0 : Int32)) hx hb dX2_timesTo_39 (by decide) ?_
    refine lv_istore hx hb dX2_timesTo_40 hl (by decide) rfl (fun ls hl => ?_)
    have hl : lv_has ls 8 [(4, .int (0 : Int32)), (3, .int (1 : Int32)), (2, .ref b7), (0, .ref this), (1, .ref p1)] := hl
    obtain ⟨n42, h⟩ := h
    exact hB42 n42 _ _ _ _ _ _ _ _ _ h hw hS (lv_sub hl [3, 4, 2, 1, 0] rfl)
  · have h := h.2 hc
    refine lv_aload_n hx hb dX2_timesTo_22 rfl (lv_at hl 0 rfl) ?_
    exact hret (some b7) _ _ _ _ _ h hw hS dX2_timesTo_23
def wp_X2_leastTime (post : Int32 → bS → Prop) (this : Nat) (p1 : Nat) (p2 : Nat) (S : bS) : Prop := gK S this = 4 ∧ (wp_X2_timesTo (fun r2 S3 => ∃ b4, r2 = some b4 ∧ (gK S3 p1 = 5 ∧ (gK S3 b4 = 9 ∧ (vp_in (gV S3 5 p1 0) (gN S3 b4) ∧ (post (gV S3 9 b4 (Int32.toNatClampNeg (gV S3 5 p1 0))) S3))))) this p2 S)
set_option maxHeartbeats 4000000 in
set_option maxRecDepth 100000 in
theorem m_X2_leastTime {l : Launch} {D : va_G} {y : Nat → ClassId} {z : Nat} {A : Nat → Prop} {S : bS} {post : Int32 → bS → Prop} {this : Nat} {p1 : Nat} {p2 : Nat} (h : wp_X2_leastTime post this p1 p2 S) : Met l yX2_leastTime wsX2_leastTime ({ frames := 4, cells := 0, slots := 0, locals := 91 } : Room) (va_Pc ([Value.ref this, Value.ref p1, Value.ref p2] : List Value) (bP D y z S A)) (va_Qi post (fun S' t => wd D y z S' A t.heap) A) 0 0 A := by
  refine Met.ofW (cc := cX2_leastTime) (maxL := 3) (ret := (some .int)) (by decide) rfl ?_
  intro p e s m args below meth c s₁ B hml hv
  obtain ⟨rfl, hB⟩ := hv
  have hx := B.exec
  have hb := B.bytes
  have hr := B.returns
  have hts := atoms_spec (ws := wsX2_leastTime) B.pre
  have hown : s.vm.findClass RX2 = some m.cls := findClass_of_methodNamed B.named
  have hlocks := B.notSynchronized
  have hw : wd D y z S A s.heap := hB.1
  have hK : va_K D bCl (bT y) s := hB.2.1
  have hNw := hB.2.2.1
  have hAn : ∀ q : Nat, s.heap.size ≤ q → A q := hB.2.2.2.1
  have hAz : ¬ A z := hB.2.2.2.2.1
  have hO := hB.2.2.2.2.2.1
  have hS : va_S A s.heap s.heap [] := va_S.rf
  have hiX3 : ∀ w ∈ u_ws RX3 TX3 7, w ∈ wsX2_leastTime := by decide +kernel
  have hl := lv_entry ([Value.ref this, Value.ref p1, Value.ref p2] : List Value) (n := 3) (Nat.le_of_ble_eq_true rfl)
  rw [lg_entry_eq]
  generalize (lg_sl ([Value.ref this, Value.ref p1, Value.ref p2] : List Value) ++ List.replicate (3 - (lg_sl ([Value.ref this, Value.ref p1, Value.ref p2] : List Value)).length) Slot.unset).toArray = ls at hl ⊢
  have hl : lv_has ls 3 [(0, .ref this), (1, .ref p1), (2, .ref p2)] := hl
  obtain ⟨Q, hQ⟩ : ∃ Q, Q = MQ below (va_Qi post (fun S' t => wd D y z S' A t.heap) A) (([Value.ref this, Value.ref p1, Value.ref p2] : List Value).toArray) s 0 0 A := ⟨_, rfl⟩
  rw [← hQ]
  generalize hR : (headSpec wsX2_leastTime ({ frames := 4, cells := 0, slots := 0, locals := 91 } : Room)).room = R
  have hRf : 4 ≤ R.frames := by rw [← hR]; exact Nat.le_refl _
  have hRl : 91 ≤ R.locals := by rw [← hR]; exact Nat.le_refl _
  have hret : ∀ (v : Int32) (S : bS) (H : Heap) (locs : List Loc) (pc : Nat) (ls : Array Slot) , post v S → wd D y z S A H → va_S A s.heap H locs → decode cX2_leastTime pc = .ok (.ireturn, 1) → W p l e R s m (([Value.ref this, Value.ref p1, Value.ref p2] : List Value).toArray) below meth c H locs 0 0 Q (F0 m pc ls [.int v]) := by
    intro v S H locs pc ls h hw hS d0
    rw [hQ]; exact W.iret hx hb hr (fun t ht hW => ⟨⟨v, S, rfl, h, by show wd D y z S A t.heap; rw [ht]; exact hw⟩, hS.F ht⟩) hS.2.2 d0 hlocks
  unfold wp_X2_leastTime at h
  refine lv_aload_n hx hb dX2_leastTime_0 rfl (lv_at hl 0 rfl) ?_
  refine lv_aload_n hx hb dX2_leastTime_1 rfl (lv_at hl 2 rfl) ?_
  obtain ⟨hk1, h⟩ := h
  have h1 := h
  refine va_callq (va_runV (As := [.ref p2]) (rest := []) ⟨hx, hb, hml, hown, hts⟩ (m_X2_timesTo (l := l) h1) (cwV 1 hts gX2_leastTime_X2_timesTo rfl rfl rfl (by decide +kernel) ⟨Nat.le_trans (Nat.le_of_ble_eq_true rfl) hRf, Nat.le_trans (Nat.le_of_ble_eq_true rfl) hRl⟩) (r_pV hB hw hS (ce_4 (S := S) hk1) rfl) rfl rfl hl.1 rfl (lv_room (Nat.le_of_ble_eq_true rfl)) dX2_leastTime_2 ⟨Nat.zero_le _, Nat.zero_le _⟩) hS (fun _ _ h => h) (fun _ h => h) (fun r2 S3 t H1 locs ht _ h hw1 _ _ hS => ?_)
  subst ht
  have hw : wd D y z S3 A t.heap := hw1
  clear hw1 h1
  obtain ⟨b4, rfl, h⟩ := h
  refine W.eq (g2 := F0 m 5 ls [.ref b4]) rfl ?_
  refine lv_aload_n hx hb dX2_leastTime_5 rfl (lv_at hl 1 rfl) ?_
  obtain ⟨hk6, h⟩ := h
  refine r_getN (ci := 4) (v := .int (gV S3 5 p1 0)) (C := RX3) (T := TX3) (N := 7) hx hb hts hiX3 hown hK hw (ce_5 (S := S3) hk6) rfl 0 (by decide) (hNw _ (bNw_37)) (fun _ h9 => h9) rfl dX2_leastTime_6 ?_
  obtain ⟨hk7, h⟩ := h
  obtain ⟨hin8, h⟩ := h
  refine r_iald hx hb hK hw hk7 hin8 dX2_leastTime_9 ?_
  exact hret (gV S3 9 b4 (Int32.toNatClampNeg (gV S3 5 p1 0))) _ _ _ _ _ h hw hS dX2_leastTime_10
def wb_X2_wayFor_83 (post : Int32 → bS → Prop) (rec36 : Nat → Nat → Nat → Nat → Int32 → Int32 → Int32 → bS → Prop) (v0 : Nat) (v1 : Nat) (v2 : Nat) (v3 : Nat) (v4 : Int32) (v5 : Int32) (v6 : Int32) (S : bS) : Prop := rec36 v0 v1 v2 v3 v4 v5 (v6 + (1 : Int32)) S
def wb_X2_wayFor_36 (post : Int32 → bS → Prop) : Nat → Nat → Nat → Nat → Nat → Int32 → Int32 → Int32 → bS → Prop
  | 0, _, _, _, _, _, _, _, _ => False
  | n + 1, v0, v1, v2, v3, v4, v5, v6, S => gK S v1 = 5 ∧ (∃ b8, gQ S 5 v1 3 = some b8 ∧ (gK S b8 = 1 ∧ (wp_Jx4a65c_size_8abf5 (fun r11 S12 => (r11 ≤ v6 → post v4 S12) ∧ (¬ (r11 ≤ v6) → gK S12 v1 = 5 ∧ (∃ b14, gQ S12 5 v1 3 = some b14 ∧ (gK S12 b14 = 1 ∧ (wp_Jx4a65c_get_915e3 (fun r17 S18 => ∃ b19, r17 = some b19 ∧ (gK S18 b19 = 6 ∧ (gK S18 v0 = 4 ∧ (wp_X2_timeBy (fun r23 S24 => (v5 ≤ r23 → wb_X2_wayFor_83 post (wb_X2_wayFor_36 post n) v0 v1 v2 v3 v4 v5 v6 S24) ∧ (¬ (v5 ≤ r23) → wb_X2_wayFor_83 post (wb_X2_wayFor_36 post n) v0 v1 v2 v3 v6 r23 v6 S24)) v0 b19 v2 v3 S18)))) b14 v6 S12))))) b8 S)))
def wp_X2_wayFor (post : Int32 → bS → Prop) (this : Nat) (p1 : Nat) (p2 : Nat) (S : bS) : Prop := ((some p1) ≠ (some p2) → gK S p1 = 5 ∧ (((gV S 5 p1 5) = (-1 : Int32) → gK S this = 4 ∧ (wp_X2_timesTo (fun r3 S4 => ∃ b5, r3 = some b5 ∧ (∃ n36, wb_X2_wayFor_36 post n36 this p1 p2 b5 (-1 : Int32) (1000000 : Int32) (0 : Int32) S4)) this p2 S)) ∧ (¬ ((gV S 5 p1 5) = (-1 : Int32)) → post (gV S 5 p1 5) S))) ∧ ((some p1) = (some p2) → post (-1 : Int32) S)
set_option maxHeartbeats 4000000 in
set_option maxRecDepth 100000 in
theorem m_X2_wayFor {l : Launch} {D : va_G} {y : Nat → ClassId} {z : Nat} {A : Nat → Prop} {S : bS} {post : Int32 → bS → Prop} {this : Nat} {p1 : Nat} {p2 : Nat} (h : wp_X2_wayFor post this p1 p2 S) : Met l yX2_wayFor wsX2_wayFor ({ frames := 4, cells := 0, slots := 0, locals := 91 } : Room) (va_Pc ([Value.ref this, Value.ref p1, Value.ref p2] : List Value) (bP D y z S A)) (va_Qi post (fun S' t => wd D y z S' A t.heap) A) 0 0 A := by
  refine Met.ofW (cc := cX2_wayFor) (maxL := 8) (ret := (some .int)) (by decide) rfl ?_
  intro p e s m args below meth c s₁ B hml hv
  obtain ⟨rfl, hB⟩ := hv
  have hx := B.exec
  have hb := B.bytes
  have hr := B.returns
  have hts := atoms_spec (ws := wsX2_wayFor) B.pre
  have hown : s.vm.findClass RX2 = some m.cls := findClass_of_methodNamed B.named
  have hlocks := B.notSynchronized
  have hw : wd D y z S A s.heap := hB.1
  have hK : va_K D bCl (bT y) s := hB.2.1
  have hNw := hB.2.2.1
  have hAn : ∀ q : Nat, s.heap.size ≤ q → A q := hB.2.2.2.1
  have hAz : ¬ A z := hB.2.2.2.2.1
  have hO := hB.2.2.2.2.2.1
  have hS : va_S A s.heap s.heap [] := va_S.rf
  have hiX3 : ∀ w ∈ u_ws RX3 TX3 7, w ∈ wsX2_wayFor := by decide +kernel
  have hl := lv_entry ([Value.ref this, Value.ref p1, Value.ref p2] : List Value) (n := 8) (Nat.le_of_ble_eq_true rfl)
  rw [lg_entry_eq]
  generalize (lg_sl ([Value.ref this, Value.ref p1, Value.ref p2] : List Value) ++ List.replicate (8 - (lg_sl ([Value.ref this, Value.ref p1, Value.ref p2] : List Value)).length) Slot.unset).toArray = ls at hl ⊢
  have hl : lv_has ls 8 [(0, .ref this), (1, .ref p1), (2, .ref p2)] := hl
  obtain ⟨Q, hQ⟩ : ∃ Q, Q = MQ below (va_Qi post (fun S' t => wd D y z S' A t.heap) A) (([Value.ref this, Value.ref p1, Value.ref p2] : List Value).toArray) s 0 0 A := ⟨_, rfl⟩
  rw [← hQ]
  generalize hR : (headSpec wsX2_wayFor ({ frames := 4, cells := 0, slots := 0, locals := 91 } : Room)).room = R
  have hRf : 4 ≤ R.frames := by rw [← hR]; exact Nat.le_refl _
  have hRl : 91 ≤ R.locals := by rw [← hR]; exact Nat.le_refl _
  have hret : ∀ (v : Int32) (S : bS) (H : Heap) (locs : List Loc) (pc : Nat) (ls : Array Slot) , post v S → wd D y z S A H → va_S A s.heap H locs → decode cX2_wayFor pc = .ok (.ireturn, 1) → W p l e R s m (([Value.ref this, Value.ref p1, Value.ref p2] : List Value).toArray) below meth c H locs 0 0 Q (F0 m pc ls [.int v]) := by
    intro v S H locs pc ls h hw hS d0
    rw [hQ]; exact W.iret hx hb hr (fun t ht hW => ⟨⟨v, S, rfl, h, by show wd D y z S A t.heap; rw [ht]; exact hw⟩, hS.F ht⟩) hS.2.2 d0 hlocks
  have hB36 : ∀ (n36 : Nat) (S : bS) (H : Heap) (locs : List Loc) (ls : Array Slot) (v0 : Nat) (v1 : Nat) (v2 : Nat) (v3 : Nat) (v4 : Int32) (v5 : Int32) (v6 : Int32), wb_X2_wayFor_36 post n36 v0 v1 v2 v3 v4 v5 v6 S → wd D y z S A H → va_S A s.heap H locs → lv_has ls 8 [(0, .ref v0), (1, .ref v1), (2, .ref v2), (3, .ref v3), (4, .int v4), (5, .int v5), (6, .int v6)] → W p l e R s m (([Value.ref this, Value.ref p1, Value.ref p2] : List Value).toArray) below meth c H locs 0 0 Q (F0 m 36 ls []) := by
    intro n36
    induction n36 with
    | zero =>
      intro S H locs ls v0 v1 v2 v3 v4 v5 v6 h hw hS hl
      exact absurd h (by unfold wb_X2_wayFor_36; exact id)
    | succ n36 ih36 =>
      have hB83 : ∀ (S : bS) (H : Heap) (locs : List Loc) (ls : Array Slot) (v0 : Nat) (v1 : Nat) (v2 : Nat) (v3 : Nat) (v4 : Int32) (v5 : Int32) (v6 : Int32), wb_X2_wayFor_83 post (wb_X2_wayFor_36 post n36) v0 v1 v2 v3 v4 v5 v6 S → wd D y z S A H → va_S A s.heap H locs → lv_has ls 8 [(0, .ref v0), (1, .ref v1), (2, .ref v2), (3, .ref v3), (4, .int v4), (5, .int v5), (6, .int v6)] → W p l e R s m (([Value.ref this, Value.ref p1, Value.ref p2] : List Value).toArray) below meth c H locs 0 0 Q (F0 m 83 ls []) := by
        intro S H locs ls v0 v1 v2 v3 v4 v5 v6 h hw hS hl
        unfold wb_X2_wayFor_83 at h
        refine lv_iinc (v := (v6 + (1 : Int32))) hx hb dX2_wayFor_83 hl (k := 6) rfl rfl (by decide) rfl (fun ls hl => ?_)
        have hl : lv_has ls 8 [(6, .int (v6 + (1 : Int32))), (0, .ref v0), (1, .ref v1), (2, .ref v2), (3, .ref v3), (4, .int v4), (5, .int v5)] := hl
        refine lv_goto (tgt := 36) hx hb dX2_wayFor_86 (by decide) ?_
        exact ih36 _ _ _ _ _ _ _ _ _ _ _ h hw hS (lv_sub hl [1, 2, 3, 4, 5, 6, 0] rfl)
      intro S H locs ls v0 v1 v2 v3 v4 v5 v6 h hw hS hl
      unfold wb_X2_wayFor_36 at h
      refine lv_iload hx hb dX2_wayFor_36 (lv_at hl 6 rfl) ?_
      refine lv_aload_n hx hb dX2_wayFor_38 rfl (lv_at hl 1 rfl) ?_
      obtain ⟨hk7, h⟩ := h
      obtain ⟨b8, hb9, h⟩ := h
      refine r_getN (ci := 4) (v := .ref b8) (C := RX3) (T := TX3) (N := 7) hx hb hts hiX3 hown hK hw (ce_5 (S := S) hk7) rfl 3 (by decide) (hNw _ (bNw_34)) (fun _ h9 => h9) (congrArg (fun q => some (va_rf q)) hb9) dX2_wayFor_39 ?_
      obtain ⟨hk10, h⟩ := h
      have h1 := h
      refine va_calli (va_runV (As := []) (rest := [.int v6]) ⟨hx, hb, hml, hown, hts⟩ (m_Jx4a65c_size_8abf5 (l := l) h1) (cwV 0 hts gX2_wayFor_Jx4a65c_size_8abf5 rfl rfl rfl (by decide +kernel) ⟨Nat.le_trans (Nat.le_of_ble_eq_true rfl) hRf, Nat.le_trans (Nat.le_of_ble_eq_true rfl) hRl⟩) (r_pV hB hw hS (ce_1 (S := S) hk10) rfl) rfl rfl hl.1 rfl (lv_room (Nat.le_of_ble_eq_true rfl)) dX2_wayFor_42 ⟨Nat.zero_le _, Nat.zero_le _⟩) hS (fun _ _ h => h) (fun _ h => h) (fun r11 S12 t H1 locs ht _ h hw1 _ _ hS => ?_)
      subst ht
      have hw : wd D y z S12 A t.heap := hw1
      clear hw1 h1
      refine lv_icmp_ge (tgt := 89) hx hb dX2_wayFor_45 (by decide) (fun hc => ?_) (fun hc => ?_)
      · have h := h.1 hc
        refine lv_iload hx hb dX2_wayFor_89 (lv_at hl 4 rfl) ?_
        exact hret v4 _ _ _ _ _ h hw hS dX2_wayFor_91
      · have h := h.2 hc
        refine lv_aload_n hx hb dX2_wayFor_48 rfl (lv_at hl 0 rfl) ?_
        refine lv_aload_n hx hb dX2_wayFor_49 rfl (lv_at hl 1 rfl) ?_
        obtain ⟨hk13, h⟩ := h
        obtain ⟨b14, hb15, h⟩ := h
        refine r_getN (ci := 4) (v := .ref b14) (C := RX3) (T := TX3) (N := 7) hx hb hts hiX3 hown hK hw (ce_5 (S := S12) hk13) rfl 3 (by decide) (hNw _ (bNw_34)) (fun _ h9 => h9) (congrArg (fun q => some (va_rf q)) hb15) dX2_wayFor_50 ?_
        refine lv_iload hx hb dX2_wayFor_53 (lv_at hl 6 rfl) ?_
        obtain ⟨hk16, h⟩ := h
        have h1 := h
        refine va_callq (va_runV (As := [.int v6]) (rest := [.ref v0]) ⟨hx, hb, hml, hown, hts⟩ (m_Jx4a65c_get_915e3 (l := l) h1) (cwV 1 hts gX2_wayFor_Jx4a65c_get_915e3 rfl rfl rfl (by decide +kernel) ⟨Nat.le_trans (Nat.le_of_ble_eq_true rfl) hRf, Nat.le_trans (Nat.le_of_ble_eq_true rfl) hRl⟩) (r_pV hB hw hS (ce_1 (S := S12) hk16) rfl) rfl rfl hl.1 rfl (lv_room (Nat.le_of_ble_eq_true rfl)) dX2_wayFor_55 ⟨Nat.zero_le _, Nat.zero_le _⟩) hS (fun _ _ h => h) (fun _ h => h) (fun r17 S18 t H1 locs ht _ h hw1 _ _ hS => ?_)
        subst ht
        have hw : wd D y z S18 A t.heap := hw1
        clear hw1 h1
        obtain ⟨b19, rfl, h⟩ := h
        refine W.eq (g2 := F0 m 58 ls [.ref b19, .ref v0]) rfl ?_
        obtain ⟨hk21, h⟩ := h
        refine r_cast hx hb hown (hts (.classLink RX2 53 "TubePost$Tube") (by decide +kernel)) hK hw (ce_6 hk21) rfl dX2_wayFor_58 ?_
        refine lv_aload_n hx hb dX2_wayFor_61 rfl (lv_at hl 2 rfl) ?_
        refine lv_aload_n hx hb dX2_wayFor_62 rfl (lv_at hl 3 rfl) ?_
        obtain ⟨hk22, h⟩ := h
        have h1 := h
        refine va_calli (va_runV (As := [.ref b19, .ref v2, .ref v3]) (rest := []) ⟨hx, hb, hml, hown, hts⟩ (m_X2_timeBy (l := l) h1) (cwV 3 hts gX2_wayFor_X2_timeBy rfl rfl rfl (by decide +kernel) ⟨Nat.le_trans (Nat.le_of_ble_eq_true rfl) hRf, Nat.le_trans (Nat.le_of_ble_eq_true rfl) hRl⟩) (r_pV hB hw hS (ce_4 (S := S18) hk22) rfl) rfl rfl hl.1 rfl (lv_room (Nat.le_of_ble_eq_true rfl)) dX2_wayFor_63 ⟨Nat.zero_le _, Nat.zero_le _⟩) hS (fun _ _ h => h) (fun _ h => h) (fun r23 S24 t H1 locs ht _ h hw1 _ _ hS => ?_)
        subst ht
        have hw : wd D y z S24 A t.heap := hw1
        clear hw1 h1
        refine lv_istore hx hb dX2_wayFor_66 hl (by decide) rfl (fun ls hl => ?_)
        have hl : lv_has ls 8 [(7, .int r23), (0, .ref v0), (1, .ref v1), (2, .ref v2), (3, .ref v3), (4, .int v4), (5, .int v5), (6, .int v6)] := hl
        refine lv_iload hx hb dX2_wayFor_68 (lv_at hl 0 rfl) ?_
        refine lv_iload hx hb dX2_wayFor_70 (lv_at hl 6 rfl) ?_
        refine lv_icmp_ge (tgt := 83) hx hb dX2_wayFor_72 (by decide) (fun hc => ?_) (fun hc => ?_)
        · have h := h.1 hc
          exact hB83 _ _ _ _ _ _ _ _ _ _ _ h hw hS (lv_sub hl [1, 2, 3, 4, 5, 6, 7] rfl)
        · have h := h.2 hc
          refine lv_iload hx hb dX2_wayFor_75 (lv_at hl 0 rfl) ?_
          refine lv_istore hx hb dX2_wayFor_77 hl (by decide) rfl (fun ls hl => ?_)
          have hl : lv_has ls 8 [(5, .int r23), (7, .int r23), (0, .ref v0), (1, .ref v1), (2, .ref v2), (3, .ref v3), (4, .int v4), (6, .int v6)] := hl
          refine lv_iload hx hb dX2_wayFor_79 (lv_at hl 7 rfl) ?_
          refine lv_istore hx hb dX2_wayFor_81 hl (by decide) rfl (fun ls hl => ?_)
          have hl : lv_has ls 8 [(4, .int v6), (5, .int r23), (7, .int r23), (0, .ref v0), (1, .ref v1), (2, .ref v2), (3, .ref v3), (6, .int v6)] := hl
          exact hB83 _ _ _ _ _ _ _ _ _ _ _ h hw hS (lv_sub hl [3, 4, 5, 6, 0, 1, 7] rfl)
  unfold wp_X2_wayFor at h
  refine lv_aload_n hx hb dX2_wayFor_0 rfl (lv_at hl 1 rfl) ?_
  refine lv_aload_n hx hb dX2_wayFor_1 rfl (lv_at hl 2 rfl) ?_
  refine lv_acmp_ne (rx := (some p1)) (ry := (some p2)) (tgt := 7) hx hb dX2_wayFor_2 (by decide) (fun hc => ?_) (fun hc => ?_)
  · have h := h.1 hc
    refine lv_aload_n hx hb dX2_wayFor_7 rfl (lv_at hl 1 rfl) ?_
    obtain ⟨hk1, h⟩ := h
    refine r_getN (ci := 4) (v := .int (gV S 5 p1 5)) (C := RX3) (T := TX3) (N := 7) hx hb hts hiX3 hown hK hw (ce_5 (S := S) hk1) rfl 5 (by decide) (hNw _ (bNw_38)) (fun _ h9 => h9) rfl dX2_wayFor_8 ?_
    refine lv_iconst (v := (-1 : Int32)) hx hb dX2_wayFor_11 (by decide) ?_
    refine lv_icmp_eq (tgt := 20) hx hb dX2_wayFor_12 (by decide) (fun hc => ?_) (fun hc => ?_)
    · have h := h.1 hc
      refine lv_aload_n hx hb dX2_wayFor_20 rfl (lv_at hl 0 rfl) ?_
      refine lv_aload_n hx hb dX2_wayFor_21 rfl (lv_at hl 2 rfl) ?_
      obtain ⟨hk2, h⟩ := h
      have h1 := h
      refine va_callq (va_runV (As := [.ref p2]) (rest := []) ⟨hx, hb, hml, hown, hts⟩ (m_X2_timesTo (l := l) h1) (cwV 1 hts gX2_wayFor_X2_timesTo rfl rfl rfl (by decide +kernel) ⟨Nat.le_trans (Nat.le_of_ble_eq_true rfl) hRf, Nat.le_trans (Nat.le_of_ble_eq_true rfl) hRl⟩) (r_pV hB hw hS (ce_4 (S := S) hk2) rfl) rfl rfl hl.1 rfl (lv_room (Nat.le_of_ble_eq_true rfl)) dX2_wayFor_22 ⟨Nat.zero_le _, Nat.zero_le _⟩) hS (fun _ _ h => h) (fun _ h => h) (fun r3 S4 t H1 locs ht _ h hw1 _ _ hS => ?_)
      subst ht
      have hw : wd D y z S4 A t.heap := hw1
      clear hw1 h1
      obtain ⟨b5, rfl, h⟩ := h
      refine W.eq (g2 := F0 m 25 ls [.ref b5]) rfl ?_
      refine lv_astore_n hx hb dX2_wayFor_25 rfl hl (by decide) rfl (fun ls hl => ?_)
      have hl : lv_has ls 8 [(3, .ref b5), (0, .ref this), (1, .ref p1), (2, .ref p2)] := hl
      refine lv_iconst (v := (-1 : Int32)) hx hb dX2_wayFor_26 (by decide) ?_
      refine lv_istore hx hb dX2_wayFor_27 hl (by decide) rfl (fun ls hl => ?_)
      have hl : lv_has ls 8 [(4, .int (-1 : Int32)), (3, .ref b5), (0, .ref this), (1, .ref p1), (2, .ref p2)] := hl
      refine lv_ldc (v := (1000000 : Int32)) hx hb hown (hts (.constant RX2 81 (1000000 : Int32)) (by decide +kernel)) dX2_wayFor_29 ?_
      refine lv_istore hx hb dX2_wayFor_31 hl (by decide) rfl (fun ls hl => ?_)
      have hl : lv_has ls 8 [(5, .int (1000000 : Int32)), (4, .int (-1 : Int32)), (3, .ref b5), (0, .ref this), (1, .ref p1), (2, .ref p2)] := hl
      refine lv_iconst (v := (0 : Int32)) hx hb dX2_wayFor_33 (by decide) ?_
      refine lv_istore hx hb dX2_wayFor_34 hl (by decide) rfl (fun ls hl => ?_)
      have hl : lv_has ls 8 [(6, .int (0 : Int32)), (5, .int (1000000 : Int32)), (4, .int (-1 : Int32)), (3, .ref b5), (0, .ref this), (1, .ref p1), (2, .ref p2)] := hl
      obtain ⟨n36, h⟩ := h
      exact hB36 n36 _ _ _ _ _ _ _ _ _ _ _ h hw hS (lv_sub hl [4, 5, 6, 3, 2, 1, 0] rfl)
    · have h := h.2 hc
      refine lv_aload_n hx hb dX2_wayFor_15 rfl (lv_at hl 1 rfl) ?_
      refine r_getN (ci := 4) (v := .int (gV S 5 p1 5)) (C := RX3) (T := TX3) (N := 7) hx hb hts hiX3 hown hK hw (ce_5 (S := S) hk1) rfl 5 (by decide) (hNw _ (bNw_38)) (fun _ h9 => h9) rfl dX2_wayFor_16 ?_
      exact hret (gV S 5 p1 5) _ _ _ _ _ h hw hS dX2_wayFor_19
  · have h := h.2 hc
    refine lv_iconst (v := (-1 : Int32)) hx hb dX2_wayFor_5 (by decide) ?_
    exact hret (-1 : Int32) _ _ _ _ _ h hw hS dX2_wayFor_6
def wb_X2_reckonReach_142 (post : bS → Prop) (rec95 : Nat → Nat → Int32 → bS → Prop) (rec109 : Nat → Nat → Int32 → Int32 → bS → Prop) (v0 : Nat) (v1 : Nat) (v3 : Int32) (v4 : Int32) (S : bS) : Prop := rec109 v0 v1 v3 (v4 + (1 : Int32)) S
def wb_X2_reckonReach_109 (post : bS → Prop) (rec95 : Nat → Nat → Int32 → bS → Prop) : Nat → Nat → Nat → Int32 → Int32 → bS → Prop
  | 0, _, _, _, _, _ => False
  | n + 1, v0, v1, v3, v4, S => gK S v0 = 4 ∧ (∃ b40, gQ S 4 v0 0 = some b40 ∧ (gK S b40 = 1 ∧ (wp_Jx4a65c_size_8abf5 (fun r43 S44 => (r43 ≤ v4 → rec95 v0 v1 (v3 + (1 : Int32)) S44) ∧ (¬ (r43 ≤ v4) → gK S44 v1 = 9 ∧ (vp_in v4 (gN S44 v1) ∧ ((((gV S44 9 v1 (Int32.toNatClampNeg v4)) &&& ((1 : Int32) <<< (v3 &&& 31))) = (0 : Int32) → wb_X2_reckonReach_142 post rec95 (wb_X2_reckonReach_109 post rec95 n) v0 v1 v3 v4 S44) ∧ (¬ (((gV S44 9 v1 (Int32.toNatClampNeg v4)) &&& ((1 : Int32) <<< (v3 &&& 31))) = (0 : Int32)) → vp_in v4 (gN S44 v1) ∧ (vp_in v3 (gN S44 v1) ∧ (vp_in v4 (gN S44 v1) ∧ (wb_X2_reckonReach_142 post rec95 (wb_X2_reckonReach_109 post rec95 n) v0 v1 v3 v4 (sV S44 9 v1 (Int32.toNatClampNeg v4) ((gV S44 9 v1 (Int32.toNatClampNeg v4)) ||| (gV S44 9 v1 (Int32.toNatClampNeg v3)))))))))))) b40 S)))
def wb_X2_reckonReach_95 (post : bS → Prop) : Nat → Nat → Nat → Int32 → bS → Prop
  | 0, _, _, _, _ => False
  | n + 1, v0, v1, v3, S => gK S v0 = 4 ∧ (∃ b34, gQ S 4 v0 0 = some b34 ∧ (gK S b34 = 1 ∧ (wp_Jx4a65c_size_8abf5 (fun r37 S38 => (r37 ≤ v3 → post S38) ∧ (¬ (r37 ≤ v3) → ∃ n109, wb_X2_reckonReach_109 post (wb_X2_reckonReach_95 post n) n109 v0 v1 v3 (0 : Int32) S38)) b34 S)))
def wb_X2_reckonReach_87 (post : bS → Prop) (rec27 : Nat → Nat → Int32 → Int32 → bS → Prop) (v0 : Nat) (v1 : Nat) (v2 : Int32) (v3 : Int32) (S : bS) : Prop := rec27 v0 v1 v2 (v3 + (1 : Int32)) S
def wb_X2_reckonReach_27 (post : bS → Prop) : Nat → Nat → Nat → Int32 → Int32 → bS → Prop
  | 0, _, _, _, _, _ => False
  | n + 1, v0, v1, v2, v3, S => gK S v0 = 4 ∧ (∃ b10, gQ S 4 v0 1 = some b10 ∧ (gK S b10 = 1 ∧ (wp_Jx4a65c_size_8abf5 (fun r13 S14 => (r13 ≤ v3 → ∃ n95, wb_X2_reckonReach_95 post n95 v0 v1 (0 : Int32) S14) ∧ (¬ (r13 ≤ v3) → gK S14 v0 = 4 ∧ (∃ b16, gQ S14 4 v0 1 = some b16 ∧ (gK S14 b16 = 1 ∧ (wp_Jx4a65c_get_915e3 (fun r19 S20 => ∃ b21, r19 = some b21 ∧ (gK S20 b21 = 6 ∧ (((gV S20 6 b21 8) = (0 : Int32) → wb_X2_reckonReach_87 post (wb_X2_reckonReach_27 post n) v0 v1 v2 v3 S20) ∧ (¬ ((gV S20 6 b21 8) = (0 : Int32)) → (v3 = v2 → wb_X2_reckonReach_87 post (wb_X2_reckonReach_27 post n) v0 v1 v2 v3 S20) ∧ (¬ (v3 = v2) → ∃ b24, gQ S20 6 b21 1 = some b24 ∧ (gK S20 b24 = 5 ∧ (gK S20 v1 = 9 ∧ (vp_in (gV S20 5 b24 0) (gN S20 v1) ∧ (∃ b29, gQ S20 6 b21 2 = some b29 ∧ (gK S20 b29 = 5 ∧ (vp_in (gV S20 5 b24 0) (gN S20 v1) ∧ (wb_X2_reckonReach_87 post (wb_X2_reckonReach_27 post n) v0 v1 v2 v3 (sV S20 9 v1 (Int32.toNatClampNeg (gV S20 5 b24 0)) ((gV S20 9 v1 (Int32.toNatClampNeg (gV S20 5 b24 0))) ||| ((1 : Int32) <<< ((gV S20 5 b29 0) &&& 31)))))))))))))))) b16 v3 S14))))) b10 S)))
def wb_X2_reckonReach_2 (post : bS → Prop) : Nat → Nat → Nat → Int32 → Int32 → bS → Prop
  | 0, _, _, _, _, _ => False
  | n + 1, v0, v1, v2, v3, S => gK S v0 = 4 ∧ (∃ b2, gQ S 4 v0 0 = some b2 ∧ (gK S b2 = 1 ∧ (wp_Jx4a65c_size_8abf5 (fun r5 S6 => (r5 ≤ v3 → ∃ n27, wb_X2_reckonReach_27 post n27 v0 v1 v2 (0 : Int32) S6) ∧ (¬ (r5 ≤ v3) → gK S6 v1 = 9 ∧ (vp_in v3 (gN S6 v1) ∧ ((wb_X2_reckonReach_2 post n) v0 v1 v2 (v3 + (1 : Int32)) (sV S6 9 v1 (Int32.toNatClampNeg v3) ((1 : Int32) <<< (v3 &&& 31))))))) b2 S)))
def wp_X2_reckonReach (post : bS → Prop) (this : Nat) (p1 : Nat) (p2 : Int32) (S : bS) : Prop := ∃ n2, wb_X2_reckonReach_2 post n2 this p1 p2 (0 : Int32) S
set_option maxHeartbeats 4000000 in
set_option maxRecDepth 100000 in
theorem m_X2_reckonReach {l : Launch} {D : va_G} {y : Nat → ClassId} {z : Nat} {A : Nat → Prop} {S : bS} {post : bS → Prop} {this : Nat} {p1 : Nat} {p2 : Int32} (h : wp_X2_reckonReach post this p1 p2 S) : Met l yX2_reckonReach wsX2_reckonReach ({ frames := 3, cells := 0, slots := 0, locals := 64 } : Room) (va_Pc ([Value.ref this, Value.ref p1, Value.int p2] : List Value) (bP D y z S A)) (va_Qv post (fun S' t => wd D y z S' A t.heap) A) 0 0 A := by
  refine Met.ofW (cc := cX2_reckonReach) (maxL := 5) (ret := none) (by decide) rfl ?_
  intro p e s m args below meth c s₁ B hml hv
  obtain ⟨rfl, hB⟩ := hv
  have hx := B.exec
  have hb := B.bytes
  have hr := B.returns
  have hts := atoms_spec (ws := wsX2_reckonReach) B.pre
  have hown : s.vm.findClass RX2 = some m.cls := findClass_of_methodNamed B.named
  have hlocks := B.notSynchronized
  have hw : wd D y z S A s.heap := hB.1
  have hK : va_K D bCl (bT y) s := hB.2.1
  have hNw := hB.2.2.1
  have hAn : ∀ q : Nat, s.heap.size ≤ q → A q := hB.2.2.2.1
  have hAz : ¬ A z := hB.2.2.2.2.1
  have hO := hB.2.2.2.2.2.1
  have hS : va_S A s.heap s.heap [] := va_S.rf
  have hiX2 : ∀ w ∈ u_ws RX2 TX2 6, w ∈ wsX2_reckonReach := by decide +kernel
  have hiX3 : ∀ w ∈ u_ws RX3 TX3 7, w ∈ wsX2_reckonReach := by decide +kernel
  have hiX4 : ∀ w ∈ u_ws RX4 TX4 11, w ∈ wsX2_reckonReach := by decide +kernel
  have hl := lv_entry ([Value.ref this, Value.ref p1, Value.int p2] : List Value) (n := 5) (Nat.le_of_ble_eq_true rfl)
  rw [lg_entry_eq]
  generalize (lg_sl ([Value.ref this, Value.ref p1, Value.int p2] : List Value) ++ List.replicate (5 - (lg_sl ([Value.ref this, Value.ref p1, Value.int p2] : List Value)).length) Slot.unset).toArray = ls at hl ⊢
  have hl : lv_has ls 5 [(0, .ref this), (1, .ref p1), (2, .int p2)] := hl
  obtain ⟨Q, hQ⟩ : ∃ Q, Q = MQ below (va_Qv post (fun S' t => wd D y z S' A t.heap) A) (([Value.ref this, Value.ref p1, Value.int p2] : List Value).toArray) s 0 0 A := ⟨_, rfl⟩
  rw [← hQ]
  generalize hR : (headSpec wsX2_reckonReach ({ frames := 3, cells := 0, slots := 0, locals := 64 } : Room)).room = R
  have hRf : 3 ≤ R.frames := by rw [← hR]; exact Nat.le_refl _
  have hRl : 64 ≤ R.locals := by rw [← hR]; exact Nat.le_refl _
  have hret : ∀ (S : bS) (H : Heap) (locs : List Loc) (pc : Nat) (ls : Array Slot) , post S → wd D y z S A H → va_S A s.heap H locs → decode cX2_reckonReach pc = .ok (.return_, 1) → W p l e R s m (([Value.ref this, Value.ref p1, Value.int p2] : List Value).toArray) below meth c H locs 0 0 Q (F0 m pc ls []) := by
    intro S H locs pc ls h hw hS d0
    rw [hQ]; exact W.vret hx hb hr (fun t ht hW => ⟨⟨S, rfl, h, by show wd D y z S A t.heap; rw [ht]; exact hw⟩, hS.F ht⟩) hS.2.2 d0 hlocks
  have hB95 : ∀ (n95 : Nat) (S : bS) (H : Heap) (locs : List Loc) (ls : Array Slot) (v0 : Nat) (v1 : Nat) (v3 : Int32), wb_X2_reckonReach_95 post n95 v0 v1 v3 S → wd D y z S A H → va_S A s.heap H locs → lv_has ls 5 [(0, .ref v0), (1, .ref v1), (3, .int v3)] → W p l e R s m (([Value.ref this, Value.ref p1, Value.int p2] : List Value).toArray) below meth c H locs 0 0 Q (F0 m 95 ls []) := by
    intro n95
    induction n95 with
    | zero =>
      intro S H locs ls v0 v1 v3 h hw hS hl
      exact absurd h (by unfold wb_X2_reckonReach_95; exact id)
    | succ n95 ih95 =>
      have hB109 : ∀ (n109 : Nat) (S : bS) (H : Heap) (locs : List Loc) (ls : Array Slot) (v0 : Nat) (v1 : Nat) (v3 : Int32) (v4 : Int32), wb_X2_reckonReach_109 post (wb_X2_reckonReach_95 post n95) n109 v0 v1 v3 v4 S → wd D y z S A H → va_S A s.heap H locs → lv_has ls 5 [(0, .ref v0), (1, .ref v1), (3, .int v3), (4, .int v4)] → W p l e R s m (([Value.ref this, Value.ref p1, Value.int p2] : List Value).toArray) below meth c H locs 0 0 Q (F0 m 109 ls []) := by
        intro n109
        induction n109 with
        | zero =>
          intro S H locs ls v0 v1 v3 v4 h hw hS hl
          exact absurd h (by unfold wb_X2_reckonReach_109; exact id)
        | succ n109 ih109 =>
          have hB142 : ∀ (S : bS) (H : Heap) (locs : List Loc) (ls : Array Slot) (v0 : Nat) (v1 : Nat) (v3 : Int32) (v4 : Int32), wb_X2_reckonReach_142 post (wb_X2_reckonReach_95 post n95) (wb_X2_reckonReach_109 post (wb_X2_reckonReach_95 post n95) n109) v0 v1 v3 v4 S → wd D y z S A H → va_S A s.heap H locs → lv_has ls 5 [(0, .ref v0), (1, .ref v1), (3, .int v3), (4, .int v4)] → W p l e R s m (([Value.ref this, Value.ref p1, Value.int p2] : List Value).toArray) below meth c H locs 0 0 Q (F0 m 142 ls []) := by
            intro S H locs ls v0 v1 v3 v4 h hw hS hl
            unfold wb_X2_reckonReach_142 at h
            refine lv_iinc (v := (v4 + (1 : Int32))) hx hb dX2_reckonReach_142 hl (k := 3) rfl rfl (by decide) rfl (fun ls hl => ?_)
            have hl : lv_has ls 5 [(4, .int (v4 + (1 : Int32))), (0, .ref v0), (1, .ref v1), (3, .int v3)] := hl
            refine lv_goto (tgt := 109) hx hb dX2_reckonReach_145 (by decide) ?_
            exact ih109 _ _ _ _ _ _ _ _ h hw hS (lv_sub hl [1, 2, 3, 0] rfl)
          intro S H locs ls v0 v1 v3 v4 h hw hS hl
          unfold wb_X2_reckonReach_109 at h
          refine lv_iload hx hb dX2_reckonReach_109 (lv_at hl 3 rfl) ?_
          refine lv_aload_n hx hb dX2_reckonReach_111 rfl (lv_at hl 0 rfl) ?_
          obtain ⟨hk39, h⟩ := h
          obtain ⟨b40, hb41, h⟩ := h
          refine r_get (ci := 3) (v := .ref b40) (C := RX2) (T := TX2) (N := 6) hx hb hts hiX2 hown hK hw (ce_4 (S := S) hk39) rfl 0 (by decide) (hts (.fieldLink RX2 12 "TubePost$Net" "stations" "Ljava/util/ArrayList;") (by decide +kernel)) (fun _ h9 => h9) (congrArg (fun q => some (va_rf q)) hb41) dX2_reckonReach_112 ?_
          obtain ⟨hk42, h⟩ := h
          have h1 := h
          refine va_calli (va_runV (As := []) (rest := [.int v4]) ⟨hx, hb, hml, hown, hts⟩ (m_Jx4a65c_size_8abf5 (l := l) h1) (cwV 0 hts gX2_reckonReach_Jx4a65c_size_8abf5 rfl rfl rfl (by decide +kernel) ⟨Nat.le_trans (Nat.le_of_ble_eq_true rfl) hRf, Nat.le_trans (Nat.le_of_ble_eq_true rfl) hRl⟩) (r_pV hB hw hS (ce_1 (S := S) hk42) rfl) rfl rfl hl.1 rfl (lv_room (Nat.le_of_ble_eq_true rfl)) dX2_reckonReach_115 ⟨Nat.zero_le _, Nat.zero_le _⟩) hS (fun _ _ h => h) (fun _ h => h) (fun r43 S44 t H1 locs ht _ h hw1 _ _ hS => ?_)
          subst ht
          have hw : wd D y z S44 A t.heap := hw1
          clear hw1 h1
          refine lv_icmp_ge (tgt := 148) hx hb dX2_reckonReach_118 (by decide) (fun hc => ?_) (fun hc => ?_)
          · have h := h.1 hc
            refine lv_iinc (v := (v3 + (1 : Int32))) hx hb dX2_reckonReach_148 hl (k := 2) rfl rfl (by decide) rfl (fun ls hl => ?_)
            have hl : lv_has ls 5 [(3, .int (v3 + (1 : Int32))), (0, .ref v0), (1, .ref v1), (4, .int v4)] := hl
            refine lv_goto (tgt := 95) hx hb dX2_reckonReach_151 (by decide) ?_
            exact ih95 _ _ _ _ _ _ _ h hw hS (lv_sub hl [1, 2, 0] rfl)
          · have h := h.2 hc
            refine lv_aload_n hx hb dX2_reckonReach_121 rfl (lv_at hl 1 rfl) ?_
            refine lv_iload hx hb dX2_reckonReach_122 (lv_at hl 3 rfl) ?_
            obtain ⟨hk45, h⟩ := h
            obtain ⟨hin46, h⟩ := h
            refine r_iald hx hb hK hw hk45 hin46 dX2_reckonReach_124 ?_
            refine lv_iconst (v := (1 : Int32)) hx hb dX2_reckonReach_125 (by decide) ?_
            refine lv_iload_n hx hb dX2_reckonReach_126 rfl (lv_at hl 2 rfl) ?_
            refine lv_ishl hx hb dX2_reckonReach_127 ?_
            refine lv_iand hx hb dX2_reckonReach_128 ?_
            refine lv_if_eq (tgt := 142) hx hb dX2_reckonReach_129 (by decide) (fun hc => ?_) (fun hc => ?_)
            · have h := h.1 hc
              exact hB142 _ _ _ _ _ _ _ _ h hw hS (lv_sub hl [0, 1, 2, 3] rfl)
            · have h := h.2 hc
              refine lv_aload_n hx hb dX2_reckonReach_132 rfl (lv_at hl 1 rfl) ?_
              refine lv_iload hx hb dX2_reckonReach_133 (lv_at hl 3 rfl) ?_
              refine lv_dup2_11 hx hb dX2_reckonReach_135 rfl rfl ?_
              obtain ⟨hin47, h⟩ := h
              refine r_iald hx hb hK hw hk45 hin47 dX2_reckonReach_136 ?_
              refine lv_aload_n hx hb dX2_reckonReach_137 rfl (lv_at hl 1 rfl) ?_
              refine lv_iload_n hx hb dX2_reckonReach_138 rfl (lv_at hl 2 rfl) ?_
              obtain ⟨hin48, h⟩ := h
              refine r_iald hx hb hK hw hk45 hin48 dX2_reckonReach_139 ?_
              refine lv_ior hx hb dX2_reckonReach_140 ?_
              obtain ⟨hin49, h⟩ := h
              refine r_iast hx hb hK hw hS hk45 hin49 dX2_reckonReach_141 (fun H locs hw hS => ?_)
              exact hB142 _ _ _ _ _ _ _ _ h hw hS (lv_sub hl [0, 1, 2, 3] rfl)
      intro S H locs ls v0 v1 v3 h hw hS hl
      unfold wb_X2_reckonReach_95 at h
      refine lv_iload_n hx hb dX2_reckonReach_95 rfl (lv_at hl 2 rfl) ?_
      refine lv_aload_n hx hb dX2_reckonReach_96 rfl (lv_at hl 0 rfl) ?_
      obtain ⟨hk33, h⟩ := h
      obtain ⟨b34, hb35, h⟩ := h
      refine r_get (ci := 3) (v := .ref b34) (C := RX2) (T := TX2) (N := 6) hx hb hts hiX2 hown hK hw (ce_4 (S := S) hk33) rfl 0 (by decide) (hts (.fieldLink RX2 12 "TubePost$Net" "stations" "Ljava/util/ArrayList;") (by decide +kernel)) (fun _ h9 => h9) (congrArg (fun q => some (va_rf q)) hb35) dX2_reckonReach_97 ?_
      obtain ⟨hk36, h⟩ := h
      have h1 := h
      refine va_calli (va_runV (As := []) (rest := [.int v3]) ⟨hx, hb, hml, hown, hts⟩ (m_Jx4a65c_size_8abf5 (l := l) h1) (cwV 0 hts gX2_reckonReach_Jx4a65c_size_8abf5 rfl rfl rfl (by decide +kernel) ⟨Nat.le_trans (Nat.le_of_ble_eq_true rfl) hRf, Nat.le_trans (Nat.le_of_ble_eq_true rfl) hRl⟩) (r_pV hB hw hS (ce_1 (S := S) hk36) rfl) rfl rfl hl.1 rfl (lv_room (Nat.le_of_ble_eq_true rfl)) dX2_reckonReach_100 ⟨Nat.zero_le _, Nat.zero_le _⟩) hS (fun _ _ h => h) (fun _ h => h) (fun r37 S38 t H1 locs ht _ h hw1 _ _ hS => ?_)
      subst ht
      have hw : wd D y z S38 A t.heap := hw1
      clear hw1 h1
      refine lv_icmp_ge (tgt := 154) hx hb dX2_reckonReach_103 (by decide) (fun hc => ?_) (fun hc => ?_)
      · have h := h.1 hc
        exact hret _ _ _ _ _ h hw hS dX2_reckonReach_154
      · have h := h.2 hc
        refine lv_iconst (v := (0 : Int32)) hx hb dX2_reckonReach_106 (by decide) ?_
        refine lv_istore hx hb dX2_reckonReach_107 hl (by decide) rfl (fun ls hl => ?_)
        have hl : lv_has ls 5 [(4, .int (0 : Int32)), (0, .ref v0), (1, .ref v1), (3, .int v3)] := hl
        obtain ⟨n109, h⟩ := h
        exact hB109 n109 _ _ _ _ _ _ _ _ h hw hS (lv_sub hl [1, 2, 3, 0] rfl)
  have hB27 : ∀ (n27 : Nat) (S : bS) (H : Heap) (locs : List Loc) (ls : Array Slot) (v0 : Nat) (v1 : Nat) (v2 : Int32) (v3 : Int32), wb_X2_reckonReach_27 post n27 v0 v1 v2 v3 S → wd D y z S A H → va_S A s.heap H locs → lv_has ls 5 [(0, .ref v0), (1, .ref v1), (2, .int v2), (3, .int v3)] → W p l e R s m (([Value.ref this, Value.ref p1, Value.int p2] : List Value).toArray) below meth c H locs 0 0 Q (F0 m 27 ls []) := by
    intro n27
    induction n27 with
    | zero =>
      intro S H locs ls v0 v1 v2 v3 h hw hS hl
      exact absurd h (by unfold wb_X2_reckonReach_27; exact id)
    | succ n27 ih27 =>
      have hB87 : ∀ (S : bS) (H : Heap) (locs : List Loc) (ls : Array Slot) (v0 : Nat) (v1 : Nat) (v2 : Int32) (v3 : Int32), wb_X2_reckonReach_87 post (wb_X2_reckonReach_27 post n27) v0 v1 v2 v3 S → wd D y z S A H → va_S A s.heap H locs → lv_has ls 5 [(0, .ref v0), (1, .ref v1), (2, .int v2), (3, .int v3)] → W p l e R s m (([Value.ref this, Value.ref p1, Value.int p2] : List Value).toArray) below meth c H locs 0 0 Q (F0 m 87 ls []) := by
        intro S H locs ls v0 v1 v2 v3 h hw hS hl
        unfold wb_X2_reckonReach_87 at h
        refine lv_iinc (v := (v3 + (1 : Int32))) hx hb dX2_reckonReach_87 hl (k := 3) rfl rfl (by decide) rfl (fun ls hl => ?_)
        have hl : lv_has ls 5 [(3, .int (v3 + (1 : Int32))), (0, .ref v0), (1, .ref v1), (2, .int v2)] := hl
        refine lv_goto (tgt := 27) hx hb dX2_reckonReach_90 (by decide) ?_
        exact ih27 _ _ _ _ _ _ _ _ h hw hS (lv_sub hl [1, 2, 3, 0] rfl)
      intro S H locs ls v0 v1 v2 v3 h hw hS hl
      unfold wb_X2_reckonReach_27 at h
      refine lv_iload_n hx hb dX2_reckonReach_27 rfl (lv_at hl 3 rfl) ?_
      refine lv_aload_n hx hb dX2_reckonReach_28 rfl (lv_at hl 0 rfl) ?_
      obtain ⟨hk9, h⟩ := h
      obtain ⟨b10, hb11, h⟩ := h
      refine r_get (ci := 3) (v := .ref b10) (C := RX2) (T := TX2) (N := 6) hx hb hts hiX2 hown hK hw (ce_4 (S := S) hk9) rfl 1 (by decide) (hts (.fieldLink RX2 18 "TubePost$Net" "tubes" "Ljava/util/ArrayList;") (by decide +kernel)) (fun _ h9 => h9) (congrArg (fun q => some (va_rf q)) hb11) dX2_reckonReach_29 ?_
      obtain ⟨hk12, h⟩ := h
      have h1 := h
      refine va_calli (va_runV (As := []) (rest := [.int v3]) ⟨hx, hb, hml, hown, hts⟩ (m_Jx4a65c_size_8abf5 (l := l) h1) (cwV 0 hts gX2_reckonReach_Jx4a65c_size_8abf5 rfl rfl rfl (by decide +kernel) ⟨Nat.le_trans (Nat.le_of_ble_eq_true rfl) hRf, Nat.le_trans (Nat.le_of_ble_eq_true rfl) hRl⟩) (r_pV hB hw hS (ce_1 (S := S) hk12) rfl) rfl rfl hl.1 rfl (lv_room (Nat.le_of_ble_eq_true rfl)) dX2_reckonReach_32 ⟨Nat.zero_le _, Nat.zero_le _⟩) hS (fun _ _ h => h) (fun _ h => h) (fun r13 S14 t H1 locs ht _ h hw1 _ _ hS => ?_)
      subst ht
      have hw : wd D y z S14 A t.heap := hw1
      clear hw1 h1
      refine lv_icmp_ge (tgt := 93) hx hb dX2_reckonReach_35 (by decide) (fun hc => ?_) (fun hc => ?_)
      · have h := h.1 hc
        refine lv_iconst (v := (0 : Int32)) hx hb dX2_reckonReach_93 (by decide) ?_
        refine lv_istore_n hx hb dX2_reckonReach_94 rfl hl (by decide) rfl (fun ls hl => ?_)
        have hl : lv_has ls 5 [(3, .int (0 : Int32)), (0, .ref v0), (1, .ref v1), (2, .int v2)] := hl
        obtain ⟨n95, h⟩ := h
        exact hB95 n95 _ _ _ _ _ _ _ h hw hS (lv_sub hl [1, 2, 0] rfl)
      · have h := h.2 hc
        refine lv_aload_n hx hb dX2_reckonReach_38 rfl (lv_at hl 0 rfl) ?_
        obtain ⟨hk15, h⟩ := h
        obtain ⟨b16, hb17, h⟩ := h
        refine r_get (ci := 3) (v := .ref b16) (C := RX2) (T := TX2) (N := 6) hx hb hts hiX2 hown hK hw (ce_4 (S := S14) hk15) rfl 1 (by decide) (hts (.fieldLink RX2 18 "TubePost$Net" "tubes" "Ljava/util/ArrayList;") (by decide +kernel)) (fun _ h9 => h9) (congrArg (fun q => some (va_rf q)) hb17) dX2_reckonReach_39 ?_
        refine lv_iload_n hx hb dX2_reckonReach_42 rfl (lv_at hl 3 rfl) ?_
        obtain ⟨hk18, h⟩ := h
        have h1 := h
        refine va_callq (va_runV (As := [.int v3]) (rest := []) ⟨hx, hb, hml, hown, hts⟩ (m_Jx4a65c_get_915e3 (l := l) h1) (cwV 1 hts gX2_reckonReach_Jx4a65c_get_915e3 rfl rfl rfl (by decide +kernel) ⟨Nat.le_trans (Nat.le_of_ble_eq_true rfl) hRf, Nat.le_trans (Nat.le_of_ble_eq_true rfl) hRl⟩) (r_pV hB hw hS (ce_1 (S := S14) hk18) rfl) rfl rfl hl.1 rfl (lv_room (Nat.le_of_ble_eq_true rfl)) dX2_reckonReach_43 ⟨Nat.zero_le _, Nat.zero_le _⟩) hS (fun _ _ h => h) (fun _ h => h) (fun r19 S20 t H1 locs ht _ h hw1 _ _ hS => ?_)
        subst ht
        have hw : wd D y z S20 A t.heap := hw1
        clear hw1 h1
        obtain ⟨b21, rfl, h⟩ := h
        refine W.eq (g2 := F0 m 46 ls [.ref b21]) rfl ?_
        obtain ⟨hk23, h⟩ := h
        refine r_cast hx hb hown (hts (.classLink RX2 53 "TubePost$Tube") (by decide +kernel)) hK hw (ce_6 hk23) rfl dX2_reckonReach_46 ?_
        refine lv_astore hx hb dX2_reckonReach_49 hl (by decide) rfl (fun ls hl => ?_)
        have hl : lv_has ls 5 [(4, .ref b21), (0, .ref v0), (1, .ref v1), (2, .int v2), (3, .int v3)] := hl
        refine lv_aload hx hb dX2_reckonReach_51 (lv_at hl 0 rfl) ?_
        refine r_getN (ci := 5) (v := .int (gV S20 6 b21 8)) (C := RX4) (T := TX4) (N := 11) hx hb hts hiX4 hown hK hw (ce_6 (S := S20) hk23) rfl 8 (by decide) (hNw _ (bNw_36)) (fun _ h9 => h9) rfl dX2_reckonReach_53 ?_
        refine lv_if_eq (tgt := 87) hx hb dX2_reckonReach_56 (by decide) (fun hc => ?_) (fun hc => ?_)
        · have h := h.1 hc
          exact hB87 _ _ _ _ _ _ _ _ h hw hS (lv_sub hl [1, 2, 3, 4] rfl)
        · have h := h.2 hc
          refine lv_iload_n hx hb dX2_reckonReach_59 rfl (lv_at hl 4 rfl) ?_
          refine lv_iload_n hx hb dX2_reckonReach_60 rfl (lv_at hl 3 rfl) ?_
          refine lv_icmp_eq (tgt := 87) hx hb dX2_reckonReach_61 (by decide) (fun hc => ?_) (fun hc => ?_)
          · have h := h.1 hc
            exact hB87 _ _ _ _ _ _ _ _ h hw hS (lv_sub hl [1, 2, 3, 4] rfl)
          · have h := h.2 hc
            refine lv_aload_n hx hb dX2_reckonReach_64 rfl (lv_at hl 2 rfl) ?_
            refine lv_aload hx hb dX2_reckonReach_65 (lv_at hl 0 rfl) ?_
            obtain ⟨b24, hb25, h⟩ := h
            refine r_getN (ci := 5) (v := .ref b24) (C := RX4) (T := TX4) (N := 11) hx hb hts hiX4 hown hK hw (ce_6 (S := S20) hk23) rfl 1 (by decide) (hNw _ (bNw_39)) (fun _ h9 => h9) (congrArg (fun q => some (va_rf q)) hb25) dX2_reckonReach_67 ?_
            obtain ⟨hk26, h⟩ := h
            refine r_getN (ci := 4) (v := .int (gV S20 5 b24 0)) (C := RX3) (T := TX3) (N := 7) hx hb hts hiX3 hown hK hw (ce_5 (S := S20) hk26) rfl 0 (by decide) (hNw _ (bNw_37)) (fun _ h9 => h9) rfl dX2_reckonReach_70 ?_
            refine lv_dup2_11 hx hb dX2_reckonReach_73 rfl rfl ?_
            obtain ⟨hk27, h⟩ := h
            obtain ⟨hin28, h⟩ := h
            refine r_iald hx hb hK hw hk27 hin28 dX2_reckonReach_74 ?_
            refine lv_iconst (v := (1 : Int32)) hx hb dX2_reckonReach_75 (by decide) ?_
            refine lv_aload hx hb dX2_reckonReach_76 (lv_at hl 0 rfl) ?_
            obtain ⟨b29, hb30, h⟩ := h
            refine r_getN (ci := 5) (v := .ref b29) (C := RX4) (T := TX4) (N := 11) hx hb hts hiX4 hown hK hw (ce_6 (S := S20) hk23) rfl 2 (by decide) (hNw _ (bNw_40)) (fun _ h9 => h9) (congrArg (fun q => some (va_rf q)) hb30) dX2_reckonReach_78 ?_
            obtain ⟨hk31, h⟩ := h
            refine r_getN (ci := 4) (v := .int (gV S20 5 b29 0)) (C := RX3) (T := TX3) (N := 7) hx hb hts hiX3 hown hK hw (ce_5 (S := S20) hk31) rfl 0 (by decide) (hNw _ (bNw_37)) (fun _ h9 => h9) rfl dX2_reckonReach_81 ?_
            refine lv_ishl hx hb dX2_reckonReach_84 ?_
            refine lv_ior hx hb dX2_reckonReach_85 ?_
            obtain ⟨hin32, h⟩ := h
            refine r_iast hx hb hK hw hS hk27 hin32 dX2_reckonReach_86 (fun H locs hw hS => ?_)
            exact hB87 _ _ _ _ _ _ _ _ h hw hS (lv_sub hl [1, 2, 3, 4] rfl)
  have hB2 : ∀ (n2 : Nat) (S : bS) (H : Heap) (locs : List Loc) (ls : Array Slot) (v0 : Nat) (v1 : Nat) (v2 : Int32) (v3 : Int32), wb_X2_reckonReach_2 post n2 v0 v1 v2 v3 S → wd D y z S A H → va_S A s.heap H locs → lv_has ls 5 [(0, .ref v0), (1, .ref v1), (2, .int v2), (3, .int v3)] → W p l e R s m (([Value.ref this, Value.ref p1, Value.int p2] : List Value).toArray) below meth c H locs 0 0 Q (F0 m 2 ls []) := by
    intro n2
    induction n2 with
    | zero =>
      intro S H locs ls v0 v1 v2 v3 h hw hS hl
      exact absurd h (by unfold wb_X2_reckonReach_2; exact id)
    | succ n2 ih2 =>
      intro S H locs ls v0 v1 v2 v3 h hw hS hl
      unfold wb_X2_reckonReach_2 at h
      refine lv_iload_n hx hb dX2_reckonReach_2 rfl (lv_at hl 3 rfl) ?_
      refine lv_aload_n hx hb dX2_reckonReach_3 rfl (lv_at hl 0 rfl) ?_
      obtain ⟨hk1, h⟩ := h
      obtain ⟨b2, hb3, h⟩ := h
      refine r_get (ci := 3) (v := .ref b2) (C := RX2) (T := TX2) (N := 6) hx hb hts hiX2 hown hK hw (ce_4 (S := S) hk1) rfl 0 (by decide) (hts (.fieldLink RX2 12 "TubePost$Net" "stations" "Ljava/util/ArrayList;") (by decide +kernel)) (fun _ h9 => h9) (congrArg (fun q => some (va_rf q)) hb3) dX2_reckonReach_4 ?_
      obtain ⟨hk4, h⟩ := h
      have h1 := h
      refine va_calli (va_runV (As := []) (rest := [.int v3]) ⟨hx, hb, hml, hown, hts⟩ (m_Jx4a65c_size_8abf5 (l := l) h1) (cwV 0 hts gX2_reckonReach_Jx4a65c_size_8abf5 rfl rfl rfl (by decide +kernel) ⟨Nat.le_trans (Nat.le_of_ble_eq_true rfl) hRf, Nat.le_trans (Nat.le_of_ble_eq_true rfl) hRl⟩) (r_pV hB hw hS (ce_1 (S := S) hk4) rfl) rfl rfl hl.1 rfl (lv_room (Nat.le_of_ble_eq_true rfl)) dX2_reckonReach_7 ⟨Nat.zero_le _, Nat.zero_le _⟩) hS (fun _ _ h => h) (fun _ h => h) (fun r5 S6 t H1 locs ht _ h hw1 _ _ hS => ?_)
      subst ht
      have hw : wd D y z S6 A t.heap := hw1
      clear hw1 h1
      refine lv_icmp_ge (tgt := 25) hx hb dX2_reckonReach_10 (by decide) (fun hc => ?_) (fun hc => ?_)
      · have h := h.1 hc
        refine lv_iconst (v := (0 : Int32)) hx hb dX2_reckonReach_25 (by decide) ?_
        refine lv_istore_n hx hb dX2_reckonReach_26 rfl hl (by decide) rfl (fun ls hl => ?_)
        have hl : lv_has ls 5 [(3, .int (0 : Int32)), (0, .ref v0), (1, .ref v1), (2, .int v2)] := hl
        obtain ⟨n27, h⟩ := h
        exact hB27 n27 _ _ _ _ _ _ _ _ h hw hS (lv_sub hl [1, 2, 3, 0] rfl)
      · have h := h.2 hc
        refine lv_aload_n hx hb dX2_reckonReach_13 rfl (lv_at hl 1 rfl) ?_
        refine lv_iload_n hx hb dX2_reckonReach_14 rfl (lv_at hl 3 rfl) ?_
        refine lv_iconst (v := (1 : Int32)) hx hb dX2_reckonReach_15 (by decide) ?_
        refine lv_iload_n hx hb dX2_reckonReach_16 rfl (lv_at hl 3 rfl) ?_
        refine lv_ishl hx hb dX2_reckonReach_17 ?_
        obtain ⟨hk7, h⟩ := h
        obtain ⟨hin8, h⟩ := h
        refine r_iast hx hb hK hw hS hk7 hin8 dX2_reckonReach_18 (fun H locs hw hS => ?_)
        refine lv_iinc (v := (v3 + (1 : Int32))) hx hb dX2_reckonReach_19 hl (k := 3) rfl rfl (by decide) rfl (fun ls hl => ?_)
        have hl : lv_has ls 5 [(3, .int (v3 + (1 : Int32))), (0, .ref v0), (1, .ref v1), (2, .int v2)] := hl
        refine lv_goto (tgt := 2) hx hb dX2_reckonReach_22 (by decide) ?_
        exact ih2 _ _ _ _ _ _ _ _ h hw hS (lv_sub hl [1, 2, 3, 0] rfl)
  unfold wp_X2_reckonReach at h
  refine lv_iconst (v := (0 : Int32)) hx hb dX2_reckonReach_0 (by decide) ?_
  refine lv_istore_n hx hb dX2_reckonReach_1 rfl hl (by decide) rfl (fun ls hl => ?_)
  have hl : lv_has ls 5 [(3, .int (0 : Int32)), (0, .ref this), (1, .ref p1), (2, .int p2)] := hl
  obtain ⟨n2, h⟩ := h
  exact hB2 n2 _ _ _ _ _ _ _ _ h hw hS (lv_sub hl [1, 2, 3, 0] rfl)
