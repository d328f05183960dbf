def wp_X0_init (post : bS → Prop) (this : Nat) (p1 : Int32) (p2 : Nat) (p3 : Int32) (p4 : Int32) (S : bS) : Prop := gK S this = 2 ∧ (post (sV (sV (sV (sV (sV (sV (sV (sQ (sV S 2 this 0 p1) 2 this 1 (some p2)) 2 this 2 p3) 2 this 3 p4) 2 this 4 (1 : Int32)) 2 this 5 (0 : Int32)) 2 this 6 p4) 2 this 7 (0 : Int32)) 2 this 8 (0 : Int32)))
set_option maxHeartbeats 4000000 in
set_option maxRecDepth 100000 in
theorem m_X0_init {l : Launch} {D : va_G} {y : Nat → ClassId} {z : Nat} {A : Nat → Prop} {S : bS} {post : bS → Prop} {this : Nat} {p1 : Int32} {p2 : Nat} {p3 : Int32} {p4 : Int32} (h : wp_X0_init post this p1 p2 p3 p4 S) : Met l yX0_init wsX0_init ({ frames := 1, cells := 0, slots := 0, locals := 20 } : Room) (va_Pc ([Value.ref this, Value.int p1, Value.ref p2, Value.int p3, Value.int p4] : List Value) (bP D y z S A)) (va_Qv post (fun S' t => wd D y z S' A t.heap) A) 0 0 A := by
  refine Met.ofW (cc := cX0_init) (maxL := 5) (ret := none) (by decide) rfl ?_
  intro p e s m args below meth c s₁ B hml hv
  obtain ⟨rfl, hB⟩ := hv
  have hx := B.exec
  have hb := B.bytes
  have hr := B.returns
  have hts := atoms_spec (ws := wsX0_init) B.pre
  have hown : s.vm.findClass RX0 = some m.cls := findClass_of_methodNamed B.named
  have hlocks := B.notSynchronized
  have hin : meth.name = "<init>" := (name_of_methodNamed B.named B.method).1
  have hw : wd D y z S A s.heap := hB.1
  have hK : va_K D bCl (bT y) s := hB.2.1
  have hNw := hB.2.2.1
  have hAn : ∀ q : Nat, s.heap.size ≤ q → A q := hB.2.2.2.1
  have hAz : ¬ A z := hB.2.2.2.2.1
  have hO := hB.2.2.2.2.2.1
  have hS : va_S A s.heap s.heap [] := va_S.rf
  have hiX0 : ∀ w ∈ u_ws RX0 TX0 9, w ∈ wsX0_init := by decide +kernel
  have hl := lv_entry ([Value.ref this, Value.int p1, Value.ref p2, Value.int p3, Value.int p4] : List Value) (n := 5) (Nat.le_of_ble_eq_true rfl)
  rw [lg_entry_eq]
  generalize (lg_sl ([Value.ref this, Value.int p1, Value.ref p2, Value.int p3, Value.int p4] : List Value) ++ List.replicate (5 - (lg_sl ([Value.ref this, Value.int p1, Value.ref p2, Value.int p3, Value.int p4] : List Value)).length) Slot.unset).toArray = ls at hl ⊢
  have hl : lv_has ls 5 [(0, .ref this), (1, .int p1), (2, .ref p2), (3, .int p3), (4, .int p4)] := hl
  obtain ⟨Q, hQ⟩ : ∃ Q, Q = MQ below (va_Qv post (fun S' t => wd D y z S' A t.heap) A) (([Value.ref this, Value.int p1, Value.ref p2, Value.int p3, Value.int p4] : List Value).toArray) s 0 0 A := ⟨_, rfl⟩
  rw [← hQ]
  generalize hR : (headSpec wsX0_init ({ frames := 1, cells := 0, slots := 0, locals := 20 } : Room)).room = R
  have hRf : 1 ≤ R.frames := by rw [← hR]; exact Nat.le_refl _
  have hRl : 20 ≤ R.locals := by rw [← hR]; exact Nat.le_refl _
  have hret : ∀ (S : bS) (H : Heap) (locs : List Loc) (pc : Nat) (ls : Array Slot) , post S → wd D y z S A H → va_S A s.heap H locs → decode cX0_init pc = .ok (.return_, 1) → W p l e R s m (([Value.ref this, Value.int p1, Value.ref p2, Value.int p3, Value.int p4] : List Value).toArray) below meth c H locs 0 0 Q (F0 m pc ls []) := by
    intro S H locs pc ls h hw hS d0
    rw [hQ]; exact W.vret hx hb hr (fun t ht hW => ⟨⟨S, rfl, h, by show wd D y z S A t.heap; rw [ht]; exact hw⟩, hS.F ht⟩) hS.2.2 d0 hlocks
  unfold wp_X0_init at h
  refine lv_aload_n hx hb dX0_init_0 rfl (lv_at hl 0 rfl) ?_
  refine W.objInit hx hb hown (hts (.methodLink RX0 3 objectInit) (by decide +kernel)) (hts (.instanceMethod objectInit) (by decide +kernel)) (hts (.code objectInit ⟨#[0xb1]⟩ 1 none) (by decide +kernel)) rfl (by rw [hml]; exact hl.1) rfl dX0_init_1 (Nat.le_trans (Nat.le_of_ble_eq_true rfl) hRf) (Nat.le_trans (Nat.le_of_ble_eq_true rfl) hRl) ?_
  refine W.eq (g2 := F0 m 4 ls []) rfl ?_
  refine lv_aload_n hx hb dX0_init_4 rfl (lv_at hl 0 rfl) ?_
  refine lv_iload_n hx hb dX0_init_5 rfl (lv_at hl 1 rfl) ?_
  obtain ⟨hk1, h⟩ := h
  refine r_putIF (κ := 2) (ci := 1) (C := RX0) (T := TX0) (N := 9) (ty := .int) (x := p1) hx hb hts hiX0 tyX0 tyX0_ok nmX0 hown hK hw hS (ce_2 (S := S) hk1) rfl 0 (by decide) (hts (.fieldLink RX0 9 "TubePost$Carrier" "number" "I") (by decide +kernel)) (fun _ h9 => h9) rfl hin rfl (by decide +kernel) rfl rfl (Nat.le_of_ble_eq_true rfl) (pu_2_0 (S := S) hk1) dX0_init_6 (fun H locs hw hS => ?_)
  refine lv_aload_n hx hb dX0_init_9 rfl (lv_at hl 0 rfl) ?_
  refine lv_aload_n hx hb dX0_init_10 rfl (lv_at hl 2 rfl) ?_
  refine r_putQF (κ := 2) (ci := 1) (C := RX0) (T := TX0) (N := 9) (ty := (tyX0 1)) (x := (some p2)) hx hb hts hiX0 tyX0 tyX0_ok nmX0 hown hK hw hS (ce_2 (S := (sV S 2 this 0 p1)) hk1) rfl 1 (by decide) (hts (.fieldLink RX0 15 "TubePost$Carrier" "aim" "LTubePost$Station;") (by decide +kernel)) (fun _ h9 => h9) rfl hin rfl (by decide +kernel) rfl rfl (Nat.le_of_ble_eq_true rfl) (pu_2_1 (S := (sV S 2 this 0 p1)) hk1) dX0_init_11 (fun H locs hw hS => ?_)
  refine lv_aload_n hx hb dX0_init_14 rfl (lv_at hl 0 rfl) ?_
  refine lv_iload_n hx hb dX0_init_15 rfl (lv_at hl 3 rfl) ?_
  refine r_putIF (κ := 2) (ci := 1) (C := RX0) (T := TX0) (N := 9) (ty := .int) (x := p3) hx hb hts hiX0 tyX0 tyX0_ok nmX0 hown hK hw hS (ce_2 (S := (sQ (sV S 2 this 0 p1) 2 this 1 (some p2))) hk1) rfl 2 (by decide) (hts (.fieldLink RX0 19 "TubePost$Carrier" "rank" "I") (by decide +kernel)) (fun _ h9 => h9) rfl hin rfl (by decide +kernel) rfl rfl (Nat.le_of_ble_eq_true rfl) (pu_2_2 (S := (sQ (sV S 2 this 0 p1) 2 this 1 (some p2))) hk1) dX0_init_16 (fun H locs hw hS => ?_)
  refine lv_aload_n hx hb dX0_init_19 rfl (lv_at hl 0 rfl) ?_
  refine lv_iload hx hb dX0_init_20 (lv_at hl 4 rfl) ?_
  refine r_putIF (κ := 2) (ci := 1) (C := RX0) (T := TX0) (N := 9) (ty := .int) (x := p4) hx hb hts hiX0 tyX0 tyX0_ok nmX0 hown hK hw hS (ce_2 (S := (sV (sQ (sV S 2 this 0 p1) 2 this 1 (some p2)) 2 this 2 p3)) hk1) rfl 3 (by decide) (hts (.fieldLink RX0 22 "TubePost$Carrier" "sentAt" "I") (by decide +kernel)) (fun _ h9 => h9) rfl hin rfl (by decide +kernel) rfl rfl (Nat.le_of_ble_eq_true rfl) (pu_2_3 (S := (sV (sQ (sV S 2 this 0 p1) 2 this 1 (some p2)) 2 this 2 p3)) hk1) dX0_init_22 (fun H locs hw hS => ?_)
  refine lv_aload_n hx hb dX0_init_25 rfl (lv_at hl 0 rfl) ?_
  refine lv_iconst (v := (1 : Int32)) hx hb dX0_init_26 (by decide) ?_
  refine r_putI (κ := 2) (ci := 1) (C := RX0) (T := TX0) (N := 9) (ty := .int) (x := (1 : Int32)) hx hb hts hiX0 tyX0 tyX0_ok nmX0 hown hK hw hS (ce_2 (S := (sV (sV (sQ (sV S 2 this 0 p1) 2 this 1 (some p2)) 2 this 2 p3) 2 this 3 p4)) hk1) rfl 4 (by decide) (hts (.fieldLink RX0 25 "TubePost$Carrier" "state" "I") (by decide +kernel)) (fun _ h9 => h9) rfl (by decide +kernel) rfl rfl (Nat.le_of_ble_eq_true rfl) (pu_2_4 (S := (sV (sV (sQ (sV S 2 this 0 p1) 2 this 1 (some p2)) 2 this 2 p3) 2 this 3 p4)) hk1) dX0_init_27 (fun H locs hw hS => ?_)
  refine lv_aload_n hx hb dX0_init_30 rfl (lv_at hl 0 rfl) ?_
  refine lv_iconst (v := (0 : Int32)) hx hb dX0_init_31 (by decide) ?_
  refine r_putI (κ := 2) (ci := 1) (C := RX0) (T := TX0) (N := 9) (ty := .int) (x := (0 : Int32)) hx hb hts hiX0 tyX0 tyX0_ok nmX0 hown hK hw hS (ce_2 (S := (sV (sV (sV (sQ (sV S 2 this 0 p1) 2 this 1 (some p2)) 2 this 2 p3) 2 this 3 p4) 2 this 4 (1 : Int32))) hk1) rfl 5 (by decide) (hts (.fieldLink RX0 28 "TubePost$Carrier" "place" "I") (by decide +kernel)) (fun _ h9 => h9) rfl (by decide +kernel) rfl rfl (Nat.le_of_ble_eq_true rfl) (pu_2_5 (S := (sV (sV (sV (sQ (sV S 2 this 0 p1) 2 this 1 (some p2)) 2 this 2 p3) 2 this 3 p4) 2 this 4 (1 : Int32))) hk1) dX0_init_32 (fun H locs hw hS => ?_)
  refine lv_aload_n hx hb dX0_init_35 rfl (lv_at hl 0 rfl) ?_
  refine lv_iload hx hb dX0_init_36 (lv_at hl 4 rfl) ?_
  refine r_putI (κ := 2) (ci := 1) (C := RX0) (T := TX0) (N := 9) (ty := .int) (x := p4) hx hb hts hiX0 tyX0 tyX0_ok nmX0 hown hK hw hS (ce_2 (S := (sV (sV (sV (sV (sQ (sV S 2 this 0 p1) 2 this 1 (some p2)) 2 this 2 p3) 2 this 3 p4) 2 this 4 (1 : Int32)) 2 this 5 (0 : Int32))) hk1) rfl 6 (by decide) (hts (.fieldLink RX0 31 "TubePost$Carrier" "since" "I") (by decide +kernel)) (fun _ h9 => h9) rfl (by decide +kernel) rfl rfl (Nat.le_of_ble_eq_true rfl) (pu_2_6 (S := (sV (sV (sV (sV (sQ (sV S 2 this 0 p1) 2 this 1 (some p2)) 2 this 2 p3) 2 this 3 p4) 2 this 4 (1 : Int32)) 2 this 5 (0 : Int32))) hk1) dX0_init_38 (fun H locs hw hS => ?_)
  refine lv_aload_n hx hb dX0_init_41 rfl (lv_at hl 0 rfl) ?_
  refine lv_iconst (v := (0 : Int32)) hx hb dX0_init_42 (by decide) ?_
  refine r_putI (κ := 2) (ci := 1) (C := RX0) (T := TX0) (N := 9) (ty := .int) (x := (0 : Int32)) hx hb hts hiX0 tyX0 tyX0_ok nmX0 hown hK hw hS (ce_2 (S := (sV (sV (sV (sV (sV (sQ (sV S 2 this 0 p1) 2 this 1 (some p2)) 2 this 2 p3) 2 this 3 p4) 2 this 4 (1 : Int32)) 2 this 5 (0 : Int32)) 2 this 6 p4)) hk1) rfl 7 (by decide) (hts (.fieldLink RX0 34 "TubePost$Carrier" "timeInTube" "I") (by decide +kernel)) (fun _ h9 => h9) rfl (by decide +kernel) rfl rfl (Nat.le_of_ble_eq_true rfl) (pu_2_7 (S := (sV (sV (sV (sV (sV (sQ (sV S 2 this 0 p1) 2 this 1 (some p2)) 2 this 2 p3) 2 this 3 p4) 2 this 4 (1 : Int32)) 2 this 5 (0 : Int32)) 2 this 6 p4)) hk1) dX0_init_43 (fun H locs hw hS => ?_)
  refine lv_aload_n hx hb dX0_init_46 rfl (lv_at hl 0 rfl) ?_
  refine lv_iconst (v := (0 : Int32)) hx hb dX0_init_47 (by decide) ?_
  refine r_putI (κ := 2) (ci := 1) (C := RX0) (T := TX0) (N := 9) (ty := .int) (x := (0 : Int32)) hx hb hts hiX0 tyX0 tyX0_ok nmX0 hown hK hw hS (ce_2 (S := (sV (sV (sV (sV (sV (sV (sQ (sV S 2 this 0 p1) 2 this 1 (some p2)) 2 this 2 p3) 2 this 3 p4) 2 this 4 (1 : Int32)) 2 this 5 (0 : Int32)) 2 this 6 p4) 2 this 7 (0 : Int32))) hk1) rfl 8 (by decide) (hts (.fieldLink RX0 37 "TubePost$Carrier" "tubesEntered" "I") (by decide +kernel)) (fun _ h9 => h9) rfl (by decide +kernel) rfl rfl (Nat.le_of_ble_eq_true rfl) (pu_2_8 (S := (sV (sV (sV (sV (sV (sV (sQ (sV S 2 this 0 p1) 2 this 1 (some p2)) 2 this 2 p3) 2 this 3 p4) 2 this 4 (1 : Int32)) 2 this 5 (0 : Int32)) 2 this 6 p4) 2 this 7 (0 : Int32))) hk1) dX0_init_48 (fun H locs hw hS => ?_)
  exact hret _ _ _ _ _ h hw hS dX0_init_51
def wb_X3_lineUp_41 (post : bS → Prop) (mc ms : Nat) (v0 : Nat) (v1 : Nat) (v2 : Int32) (S : bS) : Prop := gK S v0 = 5 ∧ (∃ b18, gQ S 5 v0 4 = some b18 ∧ (gK S b18 = 1 ∧ (∃ k23 n24, k23 ≤ mc ∧ n24 ≤ ms ∧ (wp_Jx4a65c_add_7a177 (fun S22 => post S22) k23 n24 b18 v2 v1 S))))
def wb_X3_lineUp_8 (post : bS → Prop) : Nat → Nat → Nat → Nat → Nat → Int32 → bS → Prop
  | 0, _, _, _, _, _, _ => False
  | n + 1, mc, ms, v0, v1, v2, S => (v2 ≤ (0 : Int32) → wb_X3_lineUp_41 post mc ms v0 v1 v2 S) ∧ (¬ (v2 ≤ (0 : Int32)) → gK S v0 = 5 ∧ (∃ b8, gQ S 5 v0 4 = some b8 ∧ (gK S b8 = 1 ∧ (wp_Jx4a65c_get_915e3 (fun r11 S12 => ∃ b13, r11 = some b13 ∧ (gK S12 b13 = 2 ∧ (gK S12 v1 = 2 ∧ (((gV S12 2 v1 2) ≤ (gV S12 2 b13 2) → wb_X3_lineUp_41 post mc ms v0 v1 v2 S12) ∧ (¬ ((gV S12 2 v1 2) ≤ (gV S12 2 b13 2)) → (wb_X3_lineUp_8 post n) mc ms v0 v1 (v2 + (-1 : Int32)) S12))))) b8 (v2 - (1 : Int32)) S))))
def wp_X3_lineUp (post : bS → Prop) (MC MS : Nat) (this : Nat) (p1 : Nat) (S : bS) : Prop := gK S this = 5 ∧ (∃ b2, gQ S 5 this 4 = some b2 ∧ (gK S b2 = 1 ∧ (wp_Jx4a65c_size_8abf5 (fun r5 S6 => ∃ n8, wb_X3_lineUp_8 post n8 MC MS this p1 r5 S6) b2 S)))
set_option maxHeartbeats 4000000 in
set_option maxRecDepth 100000 in
theorem m_X3_lineUp {l : Launch} {D : va_G} {y : Nat → ClassId} {z : Nat} {A : Nat → Prop} {S : bS} {post : bS → Prop} {MC MS : Nat} {this : Nat} {p1 : Nat} (h : wp_X3_lineUp post MC MS this p1 S) : Met l yX3_lineUp wsX3_lineUp ({ frames := 6, cells := MC, slots := MS, locals := 171 } : Room) (va_Pc ([Value.ref this, Value.ref p1] : List Value) (bP D y z S A)) (va_Qv post (fun S' t => wd D y z S' A t.heap) A) MC MS A := by
  refine Met.ofW (cc := cX3_lineUp) (maxL := 3) (ret := none) (by decide) rfl ?_
  intro p e s m args below meth c s₁ B hml hv
  obtain ⟨rfl, hB⟩ := hv
  have hx := B.exec
  have hb := B.bytes
  have hr := B.returns
  have hts := atoms_spec (ws := wsX3_lineUp) B.pre
  have hown : s.vm.findClass RX3 = some m.cls := findClass_of_methodNamed B.named
  have hlocks := B.notSynchronized
  have hw : wd D y z S A s.heap := hB.1
  have hK : va_K D bCl (bT y) s := hB.2.1
  have hNw := hB.2.2.1
  have hAn : ∀ q : Nat, s.heap.size ≤ q → A q := hB.2.2.2.1
  have hAz : ¬ A z := hB.2.2.2.2.1
  have hO := hB.2.2.2.2.2.1
  have hS : va_S A s.heap s.heap [] := va_S.rf
  have hiX0 : ∀ w ∈ u_ws RX0 TX0 9, w ∈ wsX3_lineUp := by decide +kernel
  have hiX3 : ∀ w ∈ u_ws RX3 TX3 10, w ∈ wsX3_lineUp := by decide +kernel
  have hl := lv_entry ([Value.ref this, Value.ref p1] : List Value) (n := 3) (Nat.le_of_ble_eq_true rfl)
  rw [lg_entry_eq]
  generalize (lg_sl ([Value.ref this, Value.ref p1] : List Value) ++ List.replicate (3 - (lg_sl ([Value.ref this, Value.ref p1] : List Value)).length) Slot.unset).toArray = ls at hl ⊢
  have hl : lv_has ls 3 [(0, .ref this), (1, .ref p1)] := hl
  obtain ⟨Q, hQ⟩ : ∃ Q, Q = MQ below (va_Qv post (fun S' t => wd D y z S' A t.heap) A) (([Value.ref this, Value.ref p1] : List Value).toArray) s MC MS A := ⟨_, rfl⟩
  rw [← hQ]
  generalize hR : (headSpec wsX3_lineUp ({ frames := 6, cells := MC, slots := MS, locals := 171 } : Room)).room = R
  have hRf : 6 ≤ R.frames := by rw [← hR]; exact Nat.le_refl _
  have hRl : 171 ≤ R.locals := by rw [← hR]; exact Nat.le_refl _
  have hRc : R.cells = MC := by rw [← hR]; rfl
  have hRs : R.slots = MS := by rw [← hR]; rfl
  have hret : ∀ (S : bS) (H : Heap) (locs : List Loc) (pc : Nat) (ls : Array Slot) (cu su : Nat) , post S → wd D y z S A H → va_S A s.heap H locs → cu ≤ MC → su ≤ MS → decode cX3_lineUp pc = .ok (.return_, 1) → W p l e R s m (([Value.ref this, Value.ref p1] : List Value).toArray) below meth c H locs cu su Q (F0 m pc ls []) := by
    intro S H locs pc ls cu su h hw hS hcu hsu d0
    rw [hQ]; refine W.widen hcu hsu ?_; exact W.vret hx hb hr (fun t ht hW => ⟨⟨S, rfl, h, by show wd D y z S A t.heap; rw [ht]; exact hw⟩, hS.F ht⟩) hS.2.2 d0 hlocks
  have hB41 : ∀ (S : bS) (H : Heap) (locs : List Loc) (ls : Array Slot) (mc ms cu su : Nat) (v0 : Nat) (v1 : Nat) (v2 : Int32), wb_X3_lineUp_41 post mc ms v0 v1 v2 S → wd D y z S A H → va_S A s.heap H locs → lv_has ls 3 [(0, .ref v0), (1, .ref v1), (2, .int v2)] → cu + mc ≤ MC → su + ms ≤ MS → W p l e R s m (([Value.ref this, Value.ref p1] : List Value).toArray) below meth c H locs cu su Q (F0 m 41 ls []) := by
    intro S H locs ls mc ms cu su v0 v1 v2 h hw hS hl hcu hsu
    unfold wb_X3_lineUp_41 at h
    refine lv_aload_n hx hb dX3_lineUp_41 rfl (lv_at hl 0 rfl) ?_
    obtain ⟨hk17, h⟩ := h
    obtain ⟨b18, hb19, h⟩ := h
    refine r_get (ci := 4) (v := .ref b18) (C := RX3) (T := TX3) (N := 10) hx hb hts hiX3 hown hK hw (ce_5 (S := S) hk17) rfl 4 (by decide) (hts (.fieldLink RX3 28 "TubePost$Station" "line" "Ljava/util/ArrayList;") (by decide +kernel)) (fun _ h9 => h9) (congrArg (fun q => some (va_rf q)) hb19) dX3_lineUp_42 ?_
    refine lv_iload_n hx hb dX3_lineUp_45 rfl (lv_at hl 2 rfl) ?_
    refine lv_aload_n hx hb dX3_lineUp_46 rfl (lv_at hl 1 rfl) ?_
    obtain ⟨hk20, h⟩ := h
    obtain ⟨k23, n24, hbg1, hbg2, h⟩ := h
    have h1 := h
    refine va_callv (va_runV (As := [.int v2, .ref v1]) (rest := []) ⟨hx, hb, hml, hown, hts⟩ (m_Jx4a65c_add_7a177 (l := l) h1) (cwV 2 hts gX3_lineUp_Jx4a65c_add_7a177 rfl rfl rfl (by decide +kernel) ⟨Nat.le_trans (Nat.le_of_ble_eq_true rfl) hRf, Nat.le_trans (Nat.le_of_ble_eq_true rfl) hRl⟩) (r_pV hB hw hS (ce_1 (S := S) hk20) rfl) rfl rfl hl.1 rfl (lv_room (Nat.le_of_ble_eq_true rfl)) dX3_lineUp_47 ⟨by omega, by omega⟩) hS (fun _ _ h => h) (fun _ h => h) (fun S22 t H1 locs ht _ h hw1 _ _ hS => ?_)
    subst ht
    have hw : wd D y z S22 A t.heap := hw1
    clear hw1 h1
    have hcu : (cu + k23) + (mc - k23) ≤ MC := by omega
    have hsu : (su + n24) + (ms - n24) ≤ MS := by omega
    exact hret _ _ _ _ _ _ _ h hw hS (by omega) (by omega) dX3_lineUp_50
  have hB8 : ∀ (n8 : Nat) (S : bS) (H : Heap) (locs : List Loc) (ls : Array Slot) (mc ms cu su : Nat) (v0 : Nat) (v1 : Nat) (v2 : Int32), wb_X3_lineUp_8 post n8 mc ms v0 v1 v2 S → wd D y z S A H → va_S A s.heap H locs → lv_has ls 3 [(0, .ref v0), (1, .ref v1), (2, .int v2)] → cu + mc ≤ MC → su + ms ≤ MS → W p l e R s m (([Value.ref this, Value.ref p1] : List Value).toArray) below meth c H locs cu su Q (F0 m 8 ls []) := by
    intro n8
    induction n8 with
    | zero =>
      intro S H locs ls mc ms cu su v0 v1 v2 h hw hS hl hcu hsu
      exact absurd h (by unfold wb_X3_lineUp_8; exact id)
    | succ n8 ih8 =>
      intro S H locs ls mc ms cu su v0 v1 v2 h hw hS hl hcu hsu
      unfold wb_X3_lineUp_8 at h
      refine lv_iload_n hx hb dX3_lineUp_8 rfl (lv_at hl 2 rfl) ?_
      refine lv_if_le (tgt := 41) hx hb dX3_lineUp_9 (by decide) (fun hc => ?_) (fun hc => ?_)
      · have h := h.1 hc
        exact hB41 _ _ _ _ _ _ _ _ _ _ _ h hw hS (lv_sub hl [0, 1, 2] rfl) hcu hsu
      · have h := h.2 hc
        refine lv_aload_n hx hb dX3_lineUp_12 rfl (lv_at hl 0 rfl) ?_
        obtain ⟨hk7, h⟩ := h
        obtain ⟨b8, hb9, h⟩ := h
        refine r_get (ci := 4) (v := .ref b8) (C := RX3) (T := TX3) (N := 10) hx hb hts hiX3 hown hK hw (ce_5 (S := S) hk7) rfl 4 (by decide) (hts (.fieldLink RX3 28 "TubePost$Station" "line" "Ljava/util/ArrayList;") (by decide +kernel)) (fun _ h9 => h9) (congrArg (fun q => some (va_rf q)) hb9) dX3_lineUp_13 ?_
        refine lv_iload_n hx hb dX3_lineUp_16 rfl (lv_at hl 2 rfl) ?_
        refine lv_iconst (v := (1 : Int32)) hx hb dX3_lineUp_17 (by decide) ?_
        refine lv_isub hx hb dX3_lineUp_18 ?_
        obtain ⟨hk10, h⟩ := h
        have h1 := h
        refine va_callq (va_runV (As := [.int (v2 - (1 : Int32))]) (rest := []) ⟨hx, hb, hml, hown, hts⟩ (m_Jx4a65c_get_915e3 (l := l) h1) (cwV 1 hts gX3_lineUp_Jx4a65c_get_915e3 rfl rfl rfl (by decide +kernel) ⟨Nat.le_trans (Nat.le_of_ble_eq_true rfl) hRf, Nat.le_trans (Nat.le_of_ble_eq_true rfl) hRl⟩) (r_pV hB hw hS (ce_1 (S := S) hk10) rfl) rfl rfl hl.1 rfl (lv_room (Nat.le_of_ble_eq_true rfl)) dX3_lineUp_19 ⟨by omega, by omega⟩) hS (fun _ _ h => h) (fun _ h => h) (fun r11 S12 t H1 locs ht _ h hw1 _ _ hS => ?_)
        subst ht
        have hw : wd D y z S12 A t.heap := hw1
        clear hw1 h1
        obtain ⟨b13, rfl, h⟩ := h
        refine W.eq (g2 := F0 m 22 ls [.ref b13]) rfl ?_
        obtain ⟨hk15, h⟩ := h
        refine r_cast hx hb hown (hts (.classLink RX3 56 "TubePost$Carrier") (by decide +kernel)) hK hw (ce_2 hk15) rfl dX3_lineUp_22 ?_
        refine r_getN (ci := 1) (v := .int (gV S12 2 b13 2)) (C := RX0) (T := TX0) (N := 9) hx hb hts hiX0 hown hK hw (ce_2 (S := S12) hk15) rfl 2 (by decide) (hNw _ (bNw_44)) (fun _ h9 => h9) rfl dX3_lineUp_25 ?_
        refine lv_aload_n hx hb dX3_lineUp_28 rfl (lv_at hl 1 rfl) ?_
        obtain ⟨hk16, h⟩ := h
        refine r_getN (ci := 1) (v := .int (gV S12 2 v1 2)) (C := RX0) (T := TX0) (N := 9) hx hb hts hiX0 hown hK hw (ce_2 (S := S12) hk16) rfl 2 (by decide) (hNw _ (bNw_44)) (fun _ h9 => h9) rfl dX3_lineUp_29 ?_
        refine lv_icmp_ge (tgt := 41) hx hb dX3_lineUp_32 (by decide) (fun hc => ?_) (fun hc => ?_)
        · have h := h.1 hc
          exact hB41 _ _ _ _ _ _ _ _ _ _ _ h hw hS (lv_sub hl [0, 1, 2] rfl) hcu hsu
        · have h := h.2 hc
          refine lv_iinc (v := (v2 + (-1 : Int32))) hx hb dX3_lineUp_35 hl (k := 2) rfl rfl (by decide) rfl (fun ls hl => ?_)
          have hl : lv_has ls 3 [(2, .int (v2 + (-1 : Int32))), (0, .ref v0), (1, .ref v1)] := hl
          refine lv_goto (tgt := 8) hx hb dX3_lineUp_38 (by decide) ?_
          exact ih8 _ _ _ _ _ _ _ _ _ _ _ h hw hS (lv_sub hl [1, 2, 0] rfl) hcu hsu
  unfold wp_X3_lineUp at h
  have hcu : 0 + MC ≤ MC := by omega
  have hsu : 0 + MS ≤ MS := by omega
  refine lv_aload_n hx hb dX3_lineUp_0 rfl (lv_at hl 0 rfl) ?_
  obtain ⟨hk1, h⟩ := h
  obtain ⟨b2, hb3, h⟩ := h
  refine r_get (ci := 4) (v := .ref b2) (C := RX3) (T := TX3) (N := 10) hx hb hts hiX3 hown hK hw (ce_5 (S := S) hk1) rfl 4 (by decide) (hts (.fieldLink RX3 28 "TubePost$Station" "line" "Ljava/util/ArrayList;") (by decide +kernel)) (fun _ h9 => h9) (congrArg (fun q => some (va_rf q)) hb3) dX3_lineUp_1 ?_
  obtain ⟨hk4, h⟩ := h
  have h1 := h
  refine va_calli (va_runV (As := []) (rest := []) ⟨hx, hb, hml, hown, hts⟩ (m_Jx4a65c_size_8abf5 (l := l) h1) (cwV 0 hts gX3_lineUp_Jx4a65c_size_8abf5 rfl rfl rfl (by decide +kernel) ⟨Nat.le_trans (Nat.le_of_ble_eq_true rfl) hRf, Nat.le_trans (Nat.le_of_ble_eq_true rfl) hRl⟩) (r_pV hB hw hS (ce_1 (S := S) hk4) rfl) rfl rfl hl.1 rfl (lv_room (Nat.le_of_ble_eq_true rfl)) dX3_lineUp_4 ⟨by omega, by omega⟩) hS (fun _ _ h => h) (fun _ h => h) (fun r5 S6 t H1 locs ht _ h hw1 _ _ hS => ?_)
  subst ht
  have hw : wd D y z S6 A t.heap := hw1
  clear hw1 h1
  refine lv_istore_n hx hb dX3_lineUp_7 rfl hl (by decide) rfl (fun ls hl => ?_)
  have hl : lv_has ls 3 [(2, .int r5), (0, .ref this), (1, .ref p1)] := hl
  obtain ⟨n8, h⟩ := h
  exact hB8 n8 _ _ _ _ _ _ _ _ _ _ _ h hw hS (lv_sub hl [1, 2, 0] rfl) hcu hsu
def wp_X0_comeTo (post : bS → Prop) (MC MS : Nat) (this : Nat) (p1 : Nat) (p2 : Int32) (S : bS) : Prop := gK S this = 2 ∧ (gK (sV S 2 this 4 (1 : Int32)) p1 = 5 ∧ (∃ k5 n6, k5 ≤ MC ∧ n6 ≤ MS ∧ (wp_X3_lineUp (fun S4 => post S4) k5 n6 p1 this (sV (sV (sV S 2 this 4 (1 : Int32)) 2 this 5 (gV (sV S 2 this 4 (1 : Int32)) 5 p1 0)) 2 this 6 p2))))
set_option maxHeartbeats 4000000 in
set_option maxRecDepth 100000 in
theorem m_X0_comeTo {l : Launch} {D : va_G} {y : Nat → ClassId} {z : Nat} {A : Nat → Prop} {S : bS} {post : bS → Prop} {MC MS : Nat} {this : Nat} {p1 : Nat} {p2 : Int32} (h : wp_X0_comeTo post MC MS this p1 p2 S) : Met l yX0_comeTo wsX0_comeTo ({ frames := 7, cells := MC, slots := MS, locals := 193 } : Room) (va_Pc ([Value.ref this, Value.ref p1, Value.int p2] : List Value) (bP D y z S A)) (va_Qv post (fun S' t => wd D y z S' A t.heap) A) MC MS A := by
  refine Met.ofW (cc := cX0_comeTo) (maxL := 3) (ret := none) (by decide) rfl ?_
  intro p e s m args below meth c s₁ B hml hv
  obtain ⟨rfl, hB⟩ := hv
  have hx := B.exec
  have hb := B.bytes
  have hr := B.returns
  have hts := atoms_spec (ws := wsX0_comeTo) B.pre
  have hown : s.vm.findClass RX0 = some m.cls := findClass_of_methodNamed B.named
  have hlocks := B.notSynchronized
  have hw : wd D y z S A s.heap := hB.1
  have hK : va_K D bCl (bT y) s := hB.2.1
  have hNw := hB.2.2.1
  have hAn : ∀ q : Nat, s.heap.size ≤ q → A q := hB.2.2.2.1
  have hAz : ¬ A z := hB.2.2.2.2.1
  have hO := hB.2.2.2.2.2.1
  have hS : va_S A s.heap s.heap [] := va_S.rf
  have hiX0 : ∀ w ∈ u_ws RX0 TX0 9, w ∈ wsX0_comeTo := by decide +kernel
  have hiX3 : ∀ w ∈ u_ws RX3 TX3 10, w ∈ wsX0_comeTo := by decide +kernel
  have hl := lv_entry ([Value.ref this, Value.ref p1, Value.int p2] : List Value) (n := 3) (Nat.le_of_ble_eq_true rfl)
  rw [lg_entry_eq]
  generalize (lg_sl ([Value.ref this, Value.ref p1, Value.int p2] : List Value) ++ List.replicate (3 - (lg_sl ([Value.ref this, Value.ref p1, Value.int p2] : List Value)).length) Slot.unset).toArray = ls at hl ⊢
  have hl : lv_has ls 3 [(0, .ref this), (1, .ref p1), (2, .int p2)] := hl
  obtain ⟨Q, hQ⟩ : ∃ Q, Q = MQ below (va_Qv post (fun S' t => wd D y z S' A t.heap) A) (([Value.ref this, Value.ref p1, Value.int p2] : List Value).toArray) s MC MS A := ⟨_, rfl⟩
  rw [← hQ]
  generalize hR : (headSpec wsX0_comeTo ({ frames := 7, cells := MC, slots := MS, locals := 193 } : Room)).room = R
  have hRf : 7 ≤ R.frames := by rw [← hR]; exact Nat.le_refl _
  have hRl : 193 ≤ R.locals := by rw [← hR]; exact Nat.le_refl _
  have hRc : R.cells = MC := by rw [← hR]; rfl
  have hRs : R.slots = MS := by rw [← hR]; rfl
  have hret : ∀ (S : bS) (H : Heap) (locs : List Loc) (pc : Nat) (ls : Array Slot) (cu su : Nat) , post S → wd D y z S A H → va_S A s.heap H locs → cu ≤ MC → su ≤ MS → decode cX0_comeTo pc = .ok (.return_, 1) → W p l e R s m (([Value.ref this, Value.ref p1, Value.int p2] : List Value).toArray) below meth c H locs cu su Q (F0 m pc ls []) := by
    intro S H locs pc ls cu su h hw hS hcu hsu d0
    rw [hQ]; refine W.widen hcu hsu ?_; exact W.vret hx hb hr (fun t ht hW => ⟨⟨S, rfl, h, by show wd D y z S A t.heap; rw [ht]; exact hw⟩, hS.F ht⟩) hS.2.2 d0 hlocks
  unfold wp_X0_comeTo at h
  have hcu : 0 + MC ≤ MC := by omega
  have hsu : 0 + MS ≤ MS := by omega
  refine lv_aload_n hx hb dX0_comeTo_0 rfl (lv_at hl 0 rfl) ?_
  refine lv_iconst (v := (1 : Int32)) hx hb dX0_comeTo_1 (by decide) ?_
  obtain ⟨hk1, h⟩ := h
  refine r_putI (κ := 2) (ci := 1) (C := RX0) (T := TX0) (N := 9) (ty := .int) (x := (1 : Int32)) hx hb hts hiX0 tyX0 tyX0_ok nmX0 hown hK hw hS (ce_2 (S := S) hk1) rfl 4 (by decide) (hts (.fieldLink RX0 25 "TubePost$Carrier" "state" "I") (by decide +kernel)) (fun _ h9 => h9) rfl (by decide +kernel) rfl rfl (Nat.le_of_ble_eq_true rfl) (pu_2_4 (S := S) hk1) dX0_comeTo_2 (fun H locs hw hS => ?_)
  refine lv_aload_n hx hb dX0_comeTo_5 rfl (lv_at hl 0 rfl) ?_
  refine lv_aload_n hx hb dX0_comeTo_6 rfl (lv_at hl 1 rfl) ?_
  obtain ⟨hk2, h⟩ := h
  refine r_getN (ci := 4) (v := .int (gV (sV S 2 this 4 (1 : Int32)) 5 p1 0)) (C := RX3) (T := TX3) (N := 10) hx hb hts hiX3 hown hK hw (ce_5 (S := (sV S 2 this 4 (1 : Int32))) hk2) rfl 0 (by decide) (hNw _ (bNw_28)) (fun _ h9 => h9) rfl dX0_comeTo_7 ?_
  refine r_putI (κ := 2) (ci := 1) (C := RX0) (T := TX0) (N := 9) (ty := .int) (x := (gV (sV S 2 this 4 (1 : Int32)) 5 p1 0)) hx hb hts hiX0 tyX0 tyX0_ok nmX0 hown hK hw hS (ce_2 (S := (sV S 2 this 4 (1 : Int32))) hk1) rfl 5 (by decide) (hts (.fieldLink RX0 28 "TubePost$Carrier" "place" "I") (by decide +kernel)) (fun _ h9 => h9) rfl (by decide +kernel) rfl rfl (Nat.le_of_ble_eq_true rfl) (pu_2_5 (S := (sV S 2 this 4 (1 : Int32))) hk1) dX0_comeTo_10 (fun H locs hw hS => ?_)
  refine lv_aload_n hx hb dX0_comeTo_13 rfl (lv_at hl 0 rfl) ?_
  refine lv_iload_n hx hb dX0_comeTo_14 rfl (lv_at hl 2 rfl) ?_
  refine r_putI (κ := 2) (ci := 1) (C := RX0) (T := TX0) (N := 9) (ty := .int) (x := p2) hx hb hts hiX0 tyX0 tyX0_ok nmX0 hown hK hw hS (ce_2 (S := (sV (sV S 2 this 4 (1 : Int32)) 2 this 5 (gV (sV S 2 this 4 (1 : Int32)) 5 p1 0))) hk1) rfl 6 (by decide) (hts (.fieldLink RX0 31 "TubePost$Carrier" "since" "I") (by decide +kernel)) (fun _ h9 => h9) rfl (by decide +kernel) rfl rfl (Nat.le_of_ble_eq_true rfl) (pu_2_6 (S := (sV (sV S 2 this 4 (1 : Int32)) 2 this 5 (gV (sV S 2 this 4 (1 : Int32)) 5 p1 0))) hk1) dX0_comeTo_15 (fun H locs hw hS => ?_)
  refine lv_aload_n hx hb dX0_comeTo_18 rfl (lv_at hl 1 rfl) ?_
  refine lv_aload_n hx hb dX0_comeTo_19 rfl (lv_at hl 0 rfl) ?_
  obtain ⟨k5, n6, hbg1, hbg2, h⟩ := h
  have h1 := h
  refine va_callv (va_runVN (As := [.ref this]) (rest := []) ⟨hx, hb, hml, hown, hts⟩ (m_X3_lineUp (l := l) h1) ⟨va_cnB 1 hts gX0_comeTo_X3_lineUp_n43 rfl rfl rfl (hNw _ bNw_62) (hts (.initialized RX3) (by decide +kernel)) ⟨by decide +kernel, by decide +kernel, by decide +kernel⟩ ⟨Nat.le_trans (Nat.le_of_ble_eq_true rfl) hRf, Nat.le_trans (Nat.le_of_ble_eq_true rfl) hRl⟩, (hts (.instanceMethod yX3_lineUp) (by decide +kernel)), hts (.selects RX3 yX3_lineUp yX3_lineUp) (by decide +kernel)⟩ (r_pV hB hw hS (ce_5 (S := (sV (sV (sV S 2 this 4 (1 : Int32)) 2 this 5 (gV (sV S 2 this 4 (1 : Int32)) 5 p1 0)) 2 this 6 p2)) hk2) rfl) rfl rfl hl.1 rfl (lv_room (Nat.le_of_ble_eq_true rfl)) dX0_comeTo_20 ⟨by omega, by omega⟩) hS (fun _ _ h => h) (fun _ h => h) (fun S4 t H1 locs ht _ h hw1 _ _ hS => ?_)
  subst ht
  have hw : wd D y z S4 A t.heap := hw1
  clear hw1 h1
  have hcu : (0 + k5) + (MC - k5) ≤ MC := by omega
  have hsu : (0 + n6) + (MS - n6) ≤ MS := by omega
  exact hret _ _ _ _ _ _ _ h hw hS (by omega) (by omega) dX0_comeTo_23
def wp_X0_enter (post : bS → Prop) (MC MS : Nat) (this : Nat) (p1 : Nat) (p2 : Int32) (S : bS) : Prop := gK S this = 2 ∧ (gK (sV S 2 this 4 (2 : Int32)) p1 = 6 ∧ (∃ b3, gQ (sV (sV (sV (sV (sV S 2 this 4 (2 : Int32)) 2 this 5 (gV (sV S 2 this 4 (2 : Int32)) 6 p1 0)) 2 this 6 p2) 2 this 7 (gV (sV (sV (sV S 2 this 4 (2 : Int32)) 2 this 5 (gV (sV S 2 this 4 (2 : Int32)) 6 p1 0)) 2 this 6 p2) 6 p1 7)) 2 this 8 ((gV (sV (sV (sV (sV S 2 this 4 (2 : Int32)) 2 this 5 (gV (sV S 2 this 4 (2 : Int32)) 6 p1 0)) 2 this 6 p2) 2 this 7 (gV (sV (sV (sV S 2 this 4 (2 : Int32)) 2 this 5 (gV (sV S 2 this 4 (2 : Int32)) 6 p1 0)) 2 this 6 p2) 6 p1 7)) 2 this 8) + (1 : Int32))) 6 p1 5 = some b3 ∧ (gK (sV (sV (sV (sV (sV S 2 this 4 (2 : Int32)) 2 this 5 (gV (sV S 2 this 4 (2 : Int32)) 6 p1 0)) 2 this 6 p2) 2 this 7 (gV (sV (sV (sV S 2 this 4 (2 : Int32)) 2 this 5 (gV (sV S 2 this 4 (2 : Int32)) 6 p1 0)) 2 this 6 p2) 6 p1 7)) 2 this 8 ((gV (sV (sV (sV (sV S 2 this 4 (2 : Int32)) 2 this 5 (gV (sV S 2 this 4 (2 : Int32)) 6 p1 0)) 2 this 6 p2) 2 this 7 (gV (sV (sV (sV S 2 this 4 (2 : Int32)) 2 this 5 (gV (sV S 2 this 4 (2 : Int32)) 6 p1 0)) 2 this 6 p2) 6 p1 7)) 2 this 8) + (1 : Int32))) b3 = 1 ∧ (∃ k8 n9, k8 ≤ MC ∧ n9 ≤ MS ∧ (wp_Jx4a65c_add_9ea2d (fun r6 S7 => gK S7 p1 = 6 ∧ (post (sV (sV S7 6 p1 9 ((gV S7 6 p1 9) + (1 : Int32))) 6 p1 10 p2))) k8 n9 b3 this (sV (sV (sV (sV (sV S 2 this 4 (2 : Int32)) 2 this 5 (gV (sV S 2 this 4 (2 : Int32)) 6 p1 0)) 2 this 6 p2) 2 this 7 (gV (sV (sV (sV S 2 this 4 (2 : Int32)) 2 this 5 (gV (sV S 2 this 4 (2 : Int32)) 6 p1 0)) 2 this 6 p2) 6 p1 7)) 2 this 8 ((gV (sV (sV (sV (sV S 2 this 4 (2 : Int32)) 2 this 5 (gV (sV S 2 this 4 (2 : Int32)) 6 p1 0)) 2 this 6 p2) 2 this 7 (gV (sV (sV (sV S 2 this 4 (2 : Int32)) 2 this 5 (gV (sV S 2 this 4 (2 : Int32)) 6 p1 0)) 2 this 6 p2) 6 p1 7)) 2 this 8) + (1 : Int32))))))))
set_option maxHeartbeats 4000000 in
set_option maxRecDepth 100000 in
theorem m_X0_enter {l : Launch} {D : va_G} {y : Nat → ClassId} {z : Nat} {A : Nat → Prop} {S : bS} {post : bS → Prop} {MC MS : Nat} {this : Nat} {p1 : Nat} {p2 : Int32} (h : wp_X0_enter post MC MS this p1 p2 S) : Met l yX0_enter wsX0_enter ({ frames := 7, cells := MC, slots := MS, locals := 191 } : Room) (va_Pc ([Value.ref this, Value.ref p1, Value.int p2] : List Value) (bP D y z S A)) (va_Qv post (fun S' t => wd D y z S' A t.heap) A) MC MS A := by
  refine Met.ofW (cc := cX0_enter) (maxL := 3) (ret := none) (by decide) rfl ?_
  intro p e s m args below meth c s₁ B hml hv
  obtain ⟨rfl, hB⟩ := hv
  have hx := B.exec
  have hb := B.bytes
  have hr := B.returns
  have hts := atoms_spec (ws := wsX0_enter) B.pre
  have hown : s.vm.findClass RX0 = some m.cls := findClass_of_methodNamed B.named
  have hlocks := B.notSynchronized
  have hw : wd D y z S A s.heap := hB.1
  have hK : va_K D bCl (bT y) s := hB.2.1
  have hNw := hB.2.2.1
  have hAn : ∀ q : Nat, s.heap.size ≤ q → A q := hB.2.2.2.1
  have hAz : ¬ A z := hB.2.2.2.2.1
  have hO := hB.2.2.2.2.2.1
  have hS : va_S A s.heap s.heap [] := va_S.rf
  have hiX0 : ∀ w ∈ u_ws RX0 TX0 9, w ∈ wsX0_enter := by decide +kernel
  have hiX4 : ∀ w ∈ u_ws RX4 TX4 11, w ∈ wsX0_enter := by decide +kernel
  have hl := lv_entry ([Value.ref this, Value.ref p1, Value.int p2] : List Value) (n := 3) (Nat.le_of_ble_eq_true rfl)
  rw [lg_entry_eq]
  generalize (lg_sl ([Value.ref this, Value.ref p1, Value.int p2] : List Value) ++ List.replicate (3 - (lg_sl ([Value.ref this, Value.ref p1, Value.int p2] : List Value)).length) Slot.unset).toArray = ls at hl ⊢
  have hl : lv_has ls 3 [(0, .ref this), (1, .ref p1), (2, .int p2)] := hl
  obtain ⟨Q, hQ⟩ : ∃ Q, Q = MQ below (va_Qv post (fun S' t => wd D y z S' A t.heap) A) (([Value.ref this, Value.ref p1, Value.int p2] : List Value).toArray) s MC MS A := ⟨_, rfl⟩
  rw [← hQ]
  generalize hR : (headSpec wsX0_enter ({ frames := 7, cells := MC, slots := MS, locals := 191 } : Room)).room = R
  have hRf : 7 ≤ R.frames := by rw [← hR]; exact Nat.le_refl _
  have hRl : 191 ≤ R.locals := by rw [← hR]; exact Nat.le_refl _
  have hRc : R.cells = MC := by rw [← hR]; rfl
  have hRs : R.slots = MS := by rw [← hR]; rfl
  have hret : ∀ (S : bS) (H : Heap) (locs : List Loc) (pc : Nat) (ls : Array Slot) (cu su : Nat) , post S → wd D y z S A H → va_S A s.heap H locs → cu ≤ MC → su ≤ MS → decode cX0_enter pc = .ok (.return_, 1) → W p l e R s m (([Value.ref this, Value.ref p1, Value.int p2] : List Value).toArray) below meth c H locs cu su Q (F0 m pc ls []) := by
    intro S H locs pc ls cu su h hw hS hcu hsu d0
    rw [hQ]; refine W.widen hcu hsu ?_; exact W.vret hx hb hr (fun t ht hW => ⟨⟨S, rfl, h, by show wd D y z S A t.heap; rw [ht]; exact hw⟩, hS.F ht⟩) hS.2.2 d0 hlocks
  unfold wp_X0_enter at h
  have hcu : 0 + MC ≤ MC := by omega
  have hsu : 0 + MS ≤ MS := by omega
  refine lv_aload_n hx hb dX0_enter_0 rfl (lv_at hl 0 rfl) ?_
  refine lv_iconst (v := (2 : Int32)) hx hb dX0_enter_1 (by decide) ?_
  obtain ⟨hk1, h⟩ := h
  refine r_putI (κ := 2) (ci := 1) (C := RX0) (T := TX0) (N := 9) (ty := .int) (x := (2 : Int32)) hx hb hts hiX0 tyX0 tyX0_ok nmX0 hown hK hw hS (ce_2 (S := S) hk1) rfl 4 (by decide) (hts (.fieldLink RX0 25 "TubePost$Carrier" "state" "I") (by decide +kernel)) (fun _ h9 => h9) rfl (by decide +kernel) rfl rfl (Nat.le_of_ble_eq_true rfl) (pu_2_4 (S := S) hk1) dX0_enter_2 (fun H locs hw hS => ?_)
  refine lv_aload_n hx hb dX0_enter_5 rfl (lv_at hl 0 rfl) ?_
  refine lv_aload_n hx hb dX0_enter_6 rfl (lv_at hl 1 rfl) ?_
  obtain ⟨hk2, h⟩ := h
  refine r_getN (ci := 5) (v := .int (gV (sV S 2 this 4 (2 : Int32)) 6 p1 0)) (C := RX4) (T := TX4) (N := 11) hx hb hts hiX4 hown hK hw (ce_6 (S := (sV S 2 this 4 (2 : Int32))) hk2) rfl 0 (by decide) (hNw _ (bNw_29)) (fun _ h9 => h9) rfl dX0_enter_7 ?_
  refine r_putI (κ := 2) (ci := 1) (C := RX0) (T := TX0) (N := 9) (ty := .int) (x := (gV (sV S 2 this 4 (2 : Int32)) 6 p1 0)) hx hb hts hiX0 tyX0 tyX0_ok nmX0 hown hK hw hS (ce_2 (S := (sV S 2 this 4 (2 : Int32))) hk1) rfl 5 (by decide) (hts (.fieldLink RX0 28 "TubePost$Carrier" "place" "I") (by decide +kernel)) (fun _ h9 => h9) rfl (by decide +kernel) rfl rfl (Nat.le_of_ble_eq_true rfl) (pu_2_5 (S := (sV S 2 this 4 (2 : Int32))) hk1) dX0_enter_10 (fun H locs hw hS => ?_)
  refine lv_aload_n hx hb dX0_enter_13 rfl (lv_at hl 0 rfl) ?_
  refine lv_iload_n hx hb dX0_enter_14 rfl (lv_at hl 2 rfl) ?_
  refine r_putI (κ := 2) (ci := 1) (C := RX0) (T := TX0) (N := 9) (ty := .int) (x := p2) hx hb hts hiX0 tyX0 tyX0_ok nmX0 hown hK hw hS (ce_2 (S := (sV (sV S 2 this 4 (2 : Int32)) 2 this 5 (gV (sV S 2 this 4 (2 : Int32)) 6 p1 0))) hk1) rfl 6 (by decide) (hts (.fieldLink RX0 31 "TubePost$Carrier" "since" "I") (by decide +kernel)) (fun _ h9 => h9) rfl (by decide +kernel) rfl rfl (Nat.le_of_ble_eq_true rfl) (pu_2_6 (S := (sV (sV S 2 this 4 (2 : Int32)) 2 this 5 (gV (sV S 2 this 4 (2 : Int32)) 6 p1 0))) hk1) dX0_enter_15 (fun H locs hw hS => ?_)
  refine lv_aload_n hx hb dX0_enter_18 rfl (lv_at hl 0 rfl) ?_
  refine lv_aload_n hx hb dX0_enter_19 rfl (lv_at hl 1 rfl) ?_
  refine r_getN (ci := 5) (v := .int (gV (sV (sV (sV S 2 this 4 (2 : Int32)) 2 this 5 (gV (sV S 2 this 4 (2 : Int32)) 6 p1 0)) 2 this 6 p2) 6 p1 7)) (C := RX4) (T := TX4) (N := 11) hx hb hts hiX4 hown hK hw (ce_6 (S := (sV (sV (sV S 2 this 4 (2 : Int32)) 2 this 5 (gV (sV S 2 this 4 (2 : Int32)) 6 p1 0)) 2 this 6 p2)) hk2) rfl 7 (by decide) (hNw _ (bNw_30)) (fun _ h9 => h9) rfl dX0_enter_20 ?_
  refine r_putI (κ := 2) (ci := 1) (C := RX0) (T := TX0) (N := 9) (ty := .int) (x := (gV (sV (sV (sV S 2 this 4 (2 : Int32)) 2 this 5 (gV (sV S 2 this 4 (2 : Int32)) 6 p1 0)) 2 this 6 p2) 6 p1 7)) hx hb hts hiX0 tyX0 tyX0_ok nmX0 hown hK hw hS (ce_2 (S := (sV (sV (sV S 2 this 4 (2 : Int32)) 2 this 5 (gV (sV S 2 this 4 (2 : Int32)) 6 p1 0)) 2 this 6 p2)) hk1) rfl 7 (by decide) (hts (.fieldLink RX0 34 "TubePost$Carrier" "timeInTube" "I") (by decide +kernel)) (fun _ h9 => h9) rfl (by decide +kernel) rfl rfl (Nat.le_of_ble_eq_true rfl) (pu_2_7 (S := (sV (sV (sV S 2 this 4 (2 : Int32)) 2 this 5 (gV (sV S 2 this 4 (2 : Int32)) 6 p1 0)) 2 this 6 p2)) hk1) dX0_enter_23 (fun H locs hw hS => ?_)
  refine lv_aload_n hx hb dX0_enter_26 rfl (lv_at hl 0 rfl) ?_
  refine lv_dup hx hb dX0_enter_27 rfl ?_
  refine r_get (ci := 1) (v := .int (gV (sV (sV (sV (sV S 2 this 4 (2 : Int32)) 2 this 5 (gV (sV S 2 this 4 (2 : Int32)) 6 p1 0)) 2 this 6 p2) 2 this 7 (gV (sV (sV (sV S 2 this 4 (2 : Int32)) 2 this 5 (gV (sV S 2 this 4 (2 : Int32)) 6 p1 0)) 2 this 6 p2) 6 p1 7)) 2 this 8)) (C := RX0) (T := TX0) (N := 9) hx hb hts hiX0 hown hK hw (ce_2 (S := (sV (sV (sV (sV S 2 this 4 (2 : Int32)) 2 this 5 (gV (sV S 2 this 4 (2 : Int32)) 6 p1 0)) 2 this 6 p2) 2 this 7 (gV (sV (sV (sV S 2 this 4 (2 : Int32)) 2 this 5 (gV (sV S 2 this 4 (2 : Int32)) 6 p1 0)) 2 this 6 p2) 6 p1 7))) hk1) rfl 8 (by decide) (hts (.fieldLink RX0 37 "TubePost$Carrier" "tubesEntered" "I") (by decide +kernel)) (fun _ h9 => h9) rfl dX0_enter_28 ?_
  refine lv_iconst (v := (1 : Int32)) hx hb dX0_enter_31 (by decide) ?_
  refine lv_iadd hx hb dX0_enter_32 ?_
  refine r_putI (κ := 2) (ci := 1) (C := RX0) (T := TX0) (N := 9) (ty := .int) (x := ((gV (sV (sV (sV (sV S 2 this 4 (2 : Int32)) 2 this 5 (gV (sV S 2 this 4 (2 : Int32)) 6 p1 0)) 2 this 6 p2) 2 this 7 (gV (sV (sV (sV S 2 this 4 (2 : Int32)) 2 this 5 (gV (sV S 2 this 4 (2 : Int32)) 6 p1 0)) 2 this 6 p2) 6 p1 7)) 2 this 8) + (1 : Int32))) hx hb hts hiX0 tyX0 tyX0_ok nmX0 hown hK hw hS (ce_2 (S := (sV (sV (sV (sV S 2 this 4 (2 : Int32)) 2 this 5 (gV (sV S 2 this 4 (2 : Int32)) 6 p1 0)) 2 this 6 p2) 2 this 7 (gV (sV (sV (sV S 2 this 4 (2 : Int32)) 2 this 5 (gV (sV S 2 this 4 (2 : Int32)) 6 p1 0)) 2 this 6 p2) 6 p1 7))) hk1) rfl 8 (by decide) (hts (.fieldLink RX0 37 "TubePost$Carrier" "tubesEntered" "I") (by decide +kernel)) (fun _ h9 => h9) rfl (by decide +kernel) rfl rfl (Nat.le_of_ble_eq_true rfl) (pu_2_8 (S := (sV (sV (sV (sV S 2 this 4 (2 : Int32)) 2 this 5 (gV (sV S 2 this 4 (2 : Int32)) 6 p1 0)) 2 this 6 p2) 2 this 7 (gV (sV (sV (sV S 2 this 4 (2 : Int32)) 2 this 5 (gV (sV S 2 this 4 (2 : Int32)) 6 p1 0)) 2 this 6 p2) 6 p1 7))) hk1) dX0_enter_33 (fun H locs hw hS => ?_)
  refine lv_aload_n hx hb dX0_enter_36 rfl (lv_at hl 1 rfl) ?_
  obtain ⟨b3, hb4, h⟩ := h
  refine r_getN (ci := 5) (v := .ref b3) (C := RX4) (T := TX4) (N := 11) hx hb hts hiX4 hown hK hw (ce_6 (S := (sV (sV (sV (sV (sV S 2 this 4 (2 : Int32)) 2 this 5 (gV (sV S 2 this 4 (2 : Int32)) 6 p1 0)) 2 this 6 p2) 2 this 7 (gV (sV (sV (sV S 2 this 4 (2 : Int32)) 2 this 5 (gV (sV S 2 this 4 (2 : Int32)) 6 p1 0)) 2 this 6 p2) 6 p1 7)) 2 this 8 ((gV (sV (sV (sV (sV S 2 this 4 (2 : Int32)) 2 this 5 (gV (sV S 2 this 4 (2 : Int32)) 6 p1 0)) 2 this 6 p2) 2 this 7 (gV (sV (sV (sV S 2 this 4 (2 : Int32)) 2 this 5 (gV (sV S 2 this 4 (2 : Int32)) 6 p1 0)) 2 this 6 p2) 6 p1 7)) 2 this 8) + (1 : Int32)))) hk2) rfl 5 (by decide) (hNw _ (bNw_31)) (fun _ h9 => h9) (congrArg (fun q => some (va_rf q)) hb4) dX0_enter_37 ?_
  refine lv_aload_n hx hb dX0_enter_40 rfl (lv_at hl 0 rfl) ?_
  obtain ⟨hk5, h⟩ := h
  obtain ⟨k8, n9, hbg1, hbg2, h⟩ := h
  have h1 := h
  refine va_calli (va_runV (As := [.ref this]) (rest := []) ⟨hx, hb, hml, hown, hts⟩ (m_Jx4a65c_add_9ea2d (l := l) h1) (cwV 1 hts gX0_enter_Jx4a65c_add_9ea2d rfl rfl rfl (by decide +kernel) ⟨Nat.le_trans (Nat.le_of_ble_eq_true rfl) hRf, Nat.le_trans (Nat.le_of_ble_eq_true rfl) hRl⟩) (r_pV hB hw hS (ce_1 (S := (sV (sV (sV (sV (sV S 2 this 4 (2 : Int32)) 2 this 5 (gV (sV S 2 this 4 (2 : Int32)) 6 p1 0)) 2 this 6 p2) 2 this 7 (gV (sV (sV (sV S 2 this 4 (2 : Int32)) 2 this 5 (gV (sV S 2 this 4 (2 : Int32)) 6 p1 0)) 2 this 6 p2) 6 p1 7)) 2 this 8 ((gV (sV (sV (sV (sV S 2 this 4 (2 : Int32)) 2 this 5 (gV (sV S 2 this 4 (2 : Int32)) 6 p1 0)) 2 this 6 p2) 2 this 7 (gV (sV (sV (sV S 2 this 4 (2 : Int32)) 2 this 5 (gV (sV S 2 this 4 (2 : Int32)) 6 p1 0)) 2 this 6 p2) 6 p1 7)) 2 this 8) + (1 : Int32)))) hk5) rfl) rfl rfl hl.1 rfl (lv_room (Nat.le_of_ble_eq_true rfl)) dX0_enter_41 ⟨by omega, by omega⟩) hS (fun _ _ h => h) (fun _ h => h) (fun r6 S7 t H1 locs ht _ h hw1 _ _ hS => ?_)
  subst ht
  have hw : wd D y z S7 A t.heap := hw1
  clear hw1 h1
  have hcu : (0 + k8) + (MC - k8) ≤ MC := by omega
  have hsu : (0 + n9) + (MS - n9) ≤ MS := by omega
  refine lv_pop hx hb dX0_enter_44 rfl ?_
  refine lv_aload_n hx hb dX0_enter_45 rfl (lv_at hl 1 rfl) ?_
  refine lv_dup hx hb dX0_enter_46 rfl ?_
  obtain ⟨hk10, h⟩ := h
  refine r_getN (ci := 5) (v := .int (gV S7 6 p1 9)) (C := RX4) (T := TX4) (N := 11) hx hb hts hiX4 hown hK hw (ce_6 (S := S7) hk10) rfl 9 (by decide) (hNw _ (bNw_32)) (fun _ h9 => h9) rfl dX0_enter_47 ?_
  refine lv_iconst (v := (1 : Int32)) hx hb dX0_enter_50 (by decide) ?_
  refine lv_iadd hx hb dX0_enter_51 ?_
  refine r_putIN (κ := 6) (ci := 5) (C := RX4) (T := TX4) (N := 11) (ty := .int) (x := ((gV S7 6 p1 9) + (1 : Int32))) hx hb hts hiX4 tyX4 tyX4_ok nmX4 hown hK hw hS (ce_6 (S := S7) hk10) rfl 9 (by decide) (hNw _ (bNw_32)) (fun _ h9 => h9) rfl (by decide +kernel) rfl rfl (Nat.le_of_ble_eq_true rfl) (pu_6_9 (S := S7) hk10) dX0_enter_52 (fun H locs hw hS => ?_)
  refine lv_aload_n hx hb dX0_enter_55 rfl (lv_at hl 1 rfl) ?_
  refine lv_iload_n hx hb dX0_enter_56 rfl (lv_at hl 2 rfl) ?_
  refine r_putIN (κ := 6) (ci := 5) (C := RX4) (T := TX4) (N := 11) (ty := .int) (x := p2) hx hb hts hiX4 tyX4 tyX4_ok nmX4 hown hK hw hS (ce_6 (S := (sV S7 6 p1 9 ((gV S7 6 p1 9) + (1 : Int32)))) hk10) rfl 10 (by decide) (hNw _ (bNw_33)) (fun _ h9 => h9) rfl (by decide +kernel) rfl rfl (Nat.le_of_ble_eq_true rfl) (pu_6_10 (S := (sV S7 6 p1 9 ((gV S7 6 p1 9) + (1 : Int32)))) hk10) dX0_enter_57 (fun H locs hw hS => ?_)
  exact hret _ _ _ _ _ _ _ h hw hS (by omega) (by omega) dX0_enter_60
def wp_X2_init (post : bS → Prop) (MC MS : Nat) (this : Nat) (S : bS) : Prop := 1 ≤ MC ∧ 3 ≤ MS ∧ (∀ q1, gK S q1 = 0 → (wp_Jx4a65c_init_da8c8 (fun S5 => gK S5 this = 4 ∧ (1 ≤ (MC - 1) ∧ 3 ≤ (MS - 3) ∧ (∀ q7, gK (sQ S5 4 this 0 (some q1)) q7 = 0 → (wp_Jx4a65c_init_da8c8 (fun S12 => gK S12 this = 4 ∧ (post (sQ S12 4 this 1 (some q7)))) q7 (sNew (sQ S5 4 this 0 (some q1)) q7 1 0))))) q1 (sNew S q1 1 0)))
set_option maxHeartbeats 4000000 in
set_option maxRecDepth 100000 in
theorem m_X2_init {l : Launch} {D : va_G} {y : Nat → ClassId} {z : Nat} {A : Nat → Prop} {S : bS} {post : bS → Prop} {MC MS : Nat} {this : Nat} (h : wp_X2_init post MC MS this S) : Met l yX2_init wsX2_init ({ frames := 4, cells := MC, slots := MS, locals := 80 } : Room) (va_Pc ([Value.ref this] : List Value) (bP D y z S A)) (va_Qv post (fun S' t => wd D y z S' A t.heap) A) MC MS A := by
  refine Met.ofW (cc := cX2_init) (maxL := 1) (ret := none) (by decide) rfl ?_
  intro p e s m args below meth c s₁ B hml hv
  obtain ⟨rfl, hB⟩ := hv
  have hx := B.exec
  have hb := B.bytes
  have hr := B.returns
  have hts := atoms_spec (ws := wsX2_init) B.pre
  have hown : s.vm.findClass RX2 = some m.cls := findClass_of_methodNamed B.named
  have hlocks := B.notSynchronized
  have hin : meth.name = "<init>" := (name_of_methodNamed B.named B.method).1
  have hw : wd D y z S A s.heap := hB.1
  have hK : va_K D bCl (bT y) s := hB.2.1
  have hNw := hB.2.2.1
  have hAn : ∀ q : Nat, s.heap.size ≤ q → A q := hB.2.2.2.1
  have hAz : ¬ A z := hB.2.2.2.2.1
  have hO := hB.2.2.2.2.2.1
  have hS : va_S A s.heap s.heap [] := va_S.rf
  have hiJx4a65c : ∀ w ∈ u_ws RJx4a65c TJx4a65c 3, w ∈ wsX2_init := by decide +kernel
  have hiX2 : ∀ w ∈ u_ws RX2 TX2 2, w ∈ wsX2_init := by decide +kernel
  have hl := lv_entry ([Value.ref this] : List Value) (n := 1) (Nat.le_of_ble_eq_true rfl)
  rw [lg_entry_eq]
  generalize (lg_sl ([Value.ref this] : List Value) ++ List.replicate (1 - (lg_sl ([Value.ref this] : List Value)).length) Slot.unset).toArray = ls at hl ⊢
  have hl : lv_has ls 1 [(0, .ref this)] := hl
  obtain ⟨Q, hQ⟩ : ∃ Q, Q = MQ below (va_Qv post (fun S' t => wd D y z S' A t.heap) A) (([Value.ref this] : List Value).toArray) s MC MS A := ⟨_, rfl⟩
  rw [← hQ]
  generalize hR : (headSpec wsX2_init ({ frames := 4, cells := MC, slots := MS, locals := 80 } : Room)).room = R
  have hRf : 4 ≤ R.frames := by rw [← hR]; exact Nat.le_refl _
  have hRl : 80 ≤ R.locals := by rw [← hR]; exact Nat.le_refl _
  have hRc : R.cells = MC := by rw [← hR]; rfl
  have hRs : R.slots = MS := by rw [← hR]; rfl
  have hret : ∀ (S : bS) (H : Heap) (locs : List Loc) (pc : Nat) (ls : Array Slot) (cu su : Nat) , post S → wd D y z S A H → va_S A s.heap H locs → cu ≤ MC → su ≤ MS → decode cX2_init pc = .ok (.return_, 1) → W p l e R s m (([Value.ref this] : List Value).toArray) below meth c H locs cu su Q (F0 m pc ls []) := by
    intro S H locs pc ls cu su h hw hS hcu hsu d0
    rw [hQ]; refine W.widen hcu hsu ?_; exact W.vret hx hb hr (fun t ht hW => ⟨⟨S, rfl, h, by show wd D y z S A t.heap; rw [ht]; exact hw⟩, hS.F ht⟩) hS.2.2 d0 hlocks
  unfold wp_X2_init at h
  have hcu : 0 + MC ≤ MC := by omega
  have hsu : 0 + MS ≤ MS := by omega
  refine lv_aload_n hx hb dX2_init_0 rfl (lv_at hl 0 rfl) ?_
  refine W.objInit hx hb hown (hts (.methodLink RX2 3 objectInit) (by decide +kernel)) (hts (.instanceMethod objectInit) (by decide +kernel)) (hts (.code objectInit ⟨#[0xb1]⟩ 1 none) (by decide +kernel)) rfl (by rw [hml]; exact hl.1) rfl dX2_init_1 (Nat.le_trans (Nat.le_of_ble_eq_true rfl) hRf) (Nat.le_trans (Nat.le_of_ble_eq_true rfl) hRl) ?_
  refine W.eq (g2 := F0 m 4 ls []) rfl ?_
  refine lv_aload_n hx hb dX2_init_4 rfl (lv_at hl 0 rfl) ?_
  obtain ⟨hbg1, hbg2, h⟩ := h
  refine r_new (ci := 0) (C := RJx4a65c) (T := TJx4a65c) (N := 3) (κ := 1) (nn := 0) hx hb hts hiJx4a65c tyJx4a65c tyJx4a65c_ok hown (hts (.classLink RX2 9 RJx4a65c) (by decide +kernel)) (hts (.instantiable RJx4a65c 3) (by decide +kernel)) (hts (.initialized RJx4a65c) (by decide +kernel)) hK hw hS hAn hAz rfl pn_1 (by decide) b_fs1 (by omega) (by omega) dX2_init_5 (fun q1 H hq2 hw hS => ?_)
  have h := h q1 hq2
  have hk3 : gK (sNew S q1 1 0) q1 = 1 := if_pos rfl
  have hcu : (0 + 1) + (MC - 1) ≤ MC := by omega
  have hsu : (0 + 3) + (MS - 3) ≤ MS := by omega
  refine lv_dup hx hb dX2_init_8 rfl ?_
  have h1 := h
  refine va_callv (va_runI (As := []) (rest := [.ref q1, .ref this]) ⟨hx, hb, hml, hown, hts⟩ (m_Jx4a65c_init_da8c8 (l := l) h1) (cwI 0 hts gX2_init_Jx4a65c_init_da8c8 rfl rfl rfl (hts (.initialized RJx4a65c) (by decide +kernel)) (hts (.methodLink RX2 11 yJx4a65c_init_da8c8) (by decide +kernel)) (hts (.instanceMethod yJx4a65c_init_da8c8) (by decide +kernel)) rfl (by decide +kernel) ⟨Nat.le_trans (Nat.le_of_ble_eq_true rfl) hRf, Nat.le_trans (Nat.le_of_ble_eq_true rfl) hRl⟩) (r_pS hB hw hS) rfl rfl hl.1 rfl (lv_room (Nat.le_of_ble_eq_true rfl)) dX2_init_9 ⟨by omega, by omega⟩) hS (fun _ _ h => h) (fun _ h => h) (fun S5 t H1 locs ht _ h hw1 _ _ hS => ?_)
  subst ht
  have hw : wd D y z S5 A t.heap := hw1
  clear hw1 h1
  obtain ⟨hk6, h⟩ := h
  refine r_putQF (κ := 4) (ci := 3) (C := RX2) (T := TX2) (N := 2) (ty := (tyX2 0)) (x := (some q1)) hx hb hts hiX2 tyX2 tyX2_ok nmX2 hown hK hw hS (ce_4 (S := S5) hk6) rfl 0 (by decide) (hts (.fieldLink RX2 12 "TubePost$Net" "stations" "Ljava/util/ArrayList;") (by decide +kernel)) (fun _ h9 => h9) rfl hin rfl (by decide +kernel) rfl rfl (Nat.le_of_ble_eq_true rfl) (pu_4_0 (S := S5) hk6) dX2_init_12 (fun H locs hw hS => ?_)
  refine lv_aload_n hx hb dX2_init_15 rfl (lv_at hl 0 rfl) ?_
  obtain ⟨hbg1, hbg2, h⟩ := h
  refine r_new (ci := 0) (C := RJx4a65c) (T := TJx4a65c) (N := 3) (κ := 1) (nn := 0) hx hb hts hiJx4a65c tyJx4a65c tyJx4a65c_ok hown (hts (.classLink RX2 9 RJx4a65c) (by decide +kernel)) (hts (.instantiable RJx4a65c 3) (by decide +kernel)) (hts (.initialized RJx4a65c) (by decide +kernel)) hK hw hS hAn hAz rfl pn_1 (by decide) b_fs1 (by omega) (by omega) dX2_init_16 (fun q7 H hq8 hw hS => ?_)
  have h := h q7 hq8
  have hk9 : gK (sNew (sQ S5 4 this 0 (some q1)) q7 1 0) this = 4 := b_old hk6 hq8 (by decide)
  have hk10 : gK (sNew (sQ S5 4 this 0 (some q1)) q7 1 0) q7 = 1 := if_pos rfl
  have hcu : ((0 + 1) + 1) + ((MC - 1) - 1) ≤ MC := by omega
  have hsu : ((0 + 3) + 3) + ((MS - 3) - 3) ≤ MS := by omega
  refine lv_dup hx hb dX2_init_19 rfl ?_
  have h1 := h
  refine va_callv (va_runI (As := []) (rest := [.ref q7, .ref this]) ⟨hx, hb, hml, hown, hts⟩ (m_Jx4a65c_init_da8c8 (l := l) h1) (cwI 0 hts gX2_init_Jx4a65c_init_da8c8 rfl rfl rfl (hts (.initialized RJx4a65c) (by decide +kernel)) (hts (.methodLink RX2 11 yJx4a65c_init_da8c8) (by decide +kernel)) (hts (.instanceMethod yJx4a65c_init_da8c8) (by decide +kernel)) rfl (by decide +kernel) ⟨Nat.le_trans (Nat.le_of_ble_eq_true rfl) hRf, Nat.le_trans (Nat.le_of_ble_eq_true rfl) hRl⟩) (r_pS hB hw hS) rfl rfl hl.1 rfl (lv_room (Nat.le_of_ble_eq_true rfl)) dX2_init_20 ⟨by omega, by omega⟩) hS (fun _ _ h => h) (fun _ h => h) (fun S12 t H1 locs ht _ h hw1 _ _ hS => ?_)
  subst ht
  have hw : wd D y z S12 A t.heap := hw1
  clear hw1 h1
  obtain ⟨hk13, h⟩ := h
  refine r_putQF (κ := 4) (ci := 3) (C := RX2) (T := TX2) (N := 2) (ty := (tyX2 1)) (x := (some q7)) hx hb hts hiX2 tyX2 tyX2_ok nmX2 hown hK hw hS (ce_4 (S := S12) hk13) rfl 1 (by decide) (hts (.fieldLink RX2 18 "TubePost$Net" "tubes" "Ljava/util/ArrayList;") (by decide +kernel)) (fun _ h9 => h9) rfl hin rfl (by decide +kernel) rfl rfl (Nat.le_of_ble_eq_true rfl) (pu_4_1 (S := S12) hk13) dX2_init_23 (fun H locs hw hS => ?_)
  exact hret _ _ _ _ _ _ _ h hw hS (by omega) (by omega) dX2_init_26
def wp_X3_init (post : bS → Prop) (MC MS : Nat) (this : Nat) (p1 : Int32) (p2 : Int32) (p3 : Int32) (S : bS) : Prop := gK S this = 5 ∧ (1 ≤ MC ∧ 3 ≤ MS ∧ (∀ q2, gK (sV (sV (sV S 5 this 0 p1) 5 this 1 p2) 5 this 2 p3) q2 = 0 → (wp_Jx4a65c_init_da8c8 (fun S7 => gK S7 this = 5 ∧ (1 ≤ (MC - 1) ∧ 3 ≤ (MS - 3) ∧ (∀ q9, gK (sQ S7 5 this 3 (some q2)) q9 = 0 → (wp_Jx4a65c_init_da8c8 (fun S14 => gK S14 this = 5 ∧ (¬ (14 : Int32) < 0 ∧ (Int32.toNatClampNeg (14 : Int32)) * 4 ≤ 536870912 ∧ 1 ≤ ((MC - 1) - 1) ∧ (Int32.toNatClampNeg (14 : Int32)) ≤ ((MS - 3) - 3) ∧ (∀ q16, gK (sQ S14 5 this 4 (some q9)) q16 = 0 → (post (sV (sV (sV (sV (sQ (sNew (sQ S14 5 this 4 (some q9)) q16 9 (Int32.toNatClampNeg (14 : Int32))) 5 this 5 (some q16)) 5 this 6 (0 : Int32)) 5 this 7 (0 : Int32)) 5 this 8 (-1 : Int32)) 5 this 9 (0 : Int32)))))) q9 (sNew (sQ S7 5 this 3 (some q2)) q9 1 0))))) q2 (sNew (sV (sV (sV S 5 this 0 p1) 5 this 1 p2) 5 this 2 p3) q2 1 0))))
set_option maxHeartbeats 4000000 in
set_option maxRecDepth 100000 in
theorem m_X3_init {l : Launch} {D : va_G} {y : Nat → ClassId} {z : Nat} {A : Nat → Prop} {S : bS} {post : bS → Prop} {MC MS : Nat} {this : Nat} {p1 : Int32} {p2 : Int32} {p3 : Int32} (h : wp_X3_init post MC MS this p1 p2 p3 S) : Met l yX3_init wsX3_init ({ frames := 4, cells := MC, slots := MS, locals := 80 } : Room) (va_Pc ([Value.ref this, Value.int p1, Value.int p2, Value.int p3] : List Value) (bP D y z S A)) (va_Qv post (fun S' t => wd D y z S' A t.heap) A) MC MS A := by
  refine Met.ofW (cc := cX3_init) (maxL := 4) (ret := none) (by decide) rfl ?_
  intro p e s m args below meth c s₁ B hml hv
  obtain ⟨rfl, hB⟩ := hv
  have hx := B.exec
  have hb := B.bytes
  have hr := B.returns
  have hts := atoms_spec (ws := wsX3_init) B.pre
  have hown : s.vm.findClass RX3 = some m.cls := findClass_of_methodNamed B.named
  have hlocks := B.notSynchronized
  have hin : meth.name = "<init>" := (name_of_methodNamed B.named B.method).1
  have hw : wd D y z S A s.heap := hB.1
  have hK : va_K D bCl (bT y) s := hB.2.1
  have hNw := hB.2.2.1
  have hAn : ∀ q : Nat, s.heap.size ≤ q → A q := hB.2.2.2.1
  have hAz : ¬ A z := hB.2.2.2.2.1
  have hO := hB.2.2.2.2.2.1
  have hS : va_S A s.heap s.heap [] := va_S.rf
  have hiJx4a65c : ∀ w ∈ u_ws RJx4a65c TJx4a65c 3, w ∈ wsX3_init := by decide +kernel
  have hiX3 : ∀ w ∈ u_ws RX3 TX3 10, w ∈ wsX3_init := by decide +kernel
  have hl := lv_entry ([Value.ref this, Value.int p1, Value.int p2, Value.int p3] : List Value) (n := 4) (Nat.le_of_ble_eq_true rfl)
  rw [lg_entry_eq]
  generalize (lg_sl ([Value.ref this, Value.int p1, Value.int p2, Value.int p3] : List Value) ++ List.replicate (4 - (lg_sl ([Value.ref this, Value.int p1, Value.int p2, Value.int p3] : List Value)).length) Slot.unset).toArray = ls at hl ⊢
  have hl : lv_has ls 4 [(0, .ref this), (1, .int p1), (2, .int p2), (3, .int p3)] := hl
  obtain ⟨Q, hQ⟩ : ∃ Q, Q = MQ below (va_Qv post (fun S' t => wd D y z S' A t.heap) A) (([Value.ref this, Value.int p1, Value.int p2, Value.int p3] : List Value).toArray) s MC MS A := ⟨_, rfl⟩
  rw [← hQ]
  generalize hR : (headSpec wsX3_init ({ frames := 4, cells := MC, slots := MS, locals := 80 } : Room)).room = R
  have hRf : 4 ≤ R.frames := by rw [← hR]; exact Nat.le_refl _
  have hRl : 80 ≤ R.locals := by rw [← hR]; exact Nat.le_refl _
  have hRc : R.cells = MC := by rw [← hR]; rfl
  have hRs : R.slots = MS := by rw [← hR]; rfl
  have hret : ∀ (S : bS) (H : Heap) (locs : List Loc) (pc : Nat) (ls : Array Slot) (cu su : Nat) , post S → wd D y z S A H → va_S A s.heap H locs → cu ≤ MC → su ≤ MS → decode cX3_init pc = .ok (.return_, 1) → W p l e R s m (([Value.ref this, Value.int p1, Value.int p2, Value.int p3] : List Value).toArray) below meth c H locs cu su Q (F0 m pc ls []) := by
    intro S H locs pc ls cu su h hw hS hcu hsu d0
    rw [hQ]; refine W.widen hcu hsu ?_; exact W.vret hx hb hr (fun t ht hW => ⟨⟨S, rfl, h, by show wd D y z S A t.heap; rw [ht]; exact hw⟩, hS.F ht⟩) hS.2.2 d0 hlocks
  unfold wp_X3_init at h
  have hcu : 0 + MC ≤ MC := by omega
  have hsu : 0 + MS ≤ MS := by omega
  refine lv_aload_n hx hb dX3_init_0 rfl (lv_at hl 0 rfl) ?_
  refine W.objInit hx hb hown (hts (.methodLink RX3 3 objectInit) (by decide +kernel)) (hts (.instanceMethod objectInit) (by decide +kernel)) (hts (.code objectInit ⟨#[0xb1]⟩ 1 none) (by decide +kernel)) rfl (by rw [hml]; exact hl.1) rfl dX3_init_1 (Nat.le_trans (Nat.le_of_ble_eq_true rfl) hRf) (Nat.le_trans (Nat.le_of_ble_eq_true rfl) hRl) ?_
  refine W.eq (g2 := F0 m 4 ls []) rfl ?_
  refine lv_aload_n hx hb dX3_init_4 rfl (lv_at hl 0 rfl) ?_
  refine lv_iload_n hx hb dX3_init_5 rfl (lv_at hl 1 rfl) ?_
  obtain ⟨hk1, h⟩ := h
  refine r_putIF (κ := 5) (ci := 4) (C := RX3) (T := TX3) (N := 10) (ty := .int) (x := p1) hx hb hts hiX3 tyX3 tyX3_ok nmX3 hown hK hw hS (ce_5 (S := S) hk1) rfl 0 (by decide) (hts (.fieldLink RX3 9 "TubePost$Station" "number" "I") (by decide +kernel)) (fun _ h9 => h9) rfl hin rfl (by decide +kernel) rfl rfl (Nat.le_of_ble_eq_true rfl) (pu_5_0 (S := S) hk1) dX3_init_6 (fun H locs hw hS => ?_)
  refine lv_aload_n hx hb dX3_init_9 rfl (lv_at hl 0 rfl) ?_
  refine lv_iload_n hx hb dX3_init_10 rfl (lv_at hl 2 rfl) ?_
  refine r_putIF (κ := 5) (ci := 4) (C := RX3) (T := TX3) (N := 10) (ty := .int) (x := p2) hx hb hts hiX3 tyX3 tyX3_ok nmX3 hown hK hw hS (ce_5 (S := (sV S 5 this 0 p1)) hk1) rfl 1 (by decide) (hts (.fieldLink RX3 15 "TubePost$Station" "room" "I") (by decide +kernel)) (fun _ h9 => h9) rfl hin rfl (by decide +kernel) rfl rfl (Nat.le_of_ble_eq_true rfl) (pu_5_1 (S := (sV S 5 this 0 p1)) hk1) dX3_init_11 (fun H locs hw hS => ?_)
  refine lv_aload_n hx hb dX3_init_14 rfl (lv_at hl 0 rfl) ?_
  refine lv_iload_n hx hb dX3_init_15 rfl (lv_at hl 3 rfl) ?_
  refine r_putIF (κ := 5) (ci := 4) (C := RX3) (T := TX3) (N := 10) (ty := .int) (x := p3) hx hb hts hiX3 tyX3 tyX3_ok nmX3 hown hK hw hS (ce_5 (S := (sV (sV S 5 this 0 p1) 5 this 1 p2)) hk1) rfl 2 (by decide) (hts (.fieldLink RX3 18 "TubePost$Station" "handling" "I") (by decide +kernel)) (fun _ h9 => h9) rfl hin rfl (by decide +kernel) rfl rfl (Nat.le_of_ble_eq_true rfl) (pu_5_2 (S := (sV (sV S 5 this 0 p1) 5 this 1 p2)) hk1) dX3_init_16 (fun H locs hw hS => ?_)
  refine lv_aload_n hx hb dX3_init_19 rfl (lv_at hl 0 rfl) ?_
  obtain ⟨hbg1, hbg2, h⟩ := h
  refine r_new (ci := 0) (C := RJx4a65c) (T := TJx4a65c) (N := 3) (κ := 1) (nn := 0) hx hb hts hiJx4a65c tyJx4a65c tyJx4a65c_ok hown (hts (.classLink RX3 21 RJx4a65c) (by decide +kernel)) (hts (.instantiable RJx4a65c 3) (by decide +kernel)) (hts (.initialized RJx4a65c) (by decide +kernel)) hK hw hS hAn hAz rfl pn_1 (by decide) b_fs1 (by omega) (by omega) dX3_init_20 (fun q2 H hq3 hw hS => ?_)
  have h := h q2 hq3
  have hk4 : gK (sNew (sV (sV (sV S 5 this 0 p1) 5 this 1 p2) 5 this 2 p3) q2 1 0) this = 5 := b_old hk1 hq3 (by decide)
  have hk5 : gK (sNew (sV (sV (sV S 5 this 0 p1) 5 this 1 p2) 5 this 2 p3) q2 1 0) q2 = 1 := if_pos rfl
  have hcu : (0 + 1) + (MC - 1) ≤ MC := by omega
  have hsu : (0 + 3) + (MS - 3) ≤ MS := by omega
  refine lv_dup hx hb dX3_init_23 rfl ?_
  have h1 := h
  refine va_callv (va_runI (As := []) (rest := [.ref q2, .ref this]) ⟨hx, hb, hml, hown, hts⟩ (m_Jx4a65c_init_da8c8 (l := l) h1) (cwI 0 hts gX3_init_Jx4a65c_init_da8c8 rfl rfl rfl (hts (.initialized RJx4a65c) (by decide +kernel)) (hts (.methodLink RX3 23 yJx4a65c_init_da8c8) (by decide +kernel)) (hts (.instanceMethod yJx4a65c_init_da8c8) (by decide +kernel)) rfl (by decide +kernel) ⟨Nat.le_trans (Nat.le_of_ble_eq_true rfl) hRf, Nat.le_trans (Nat.le_of_ble_eq_true rfl) hRl⟩) (r_pS hB hw hS) rfl rfl hl.1 rfl (lv_room (Nat.le_of_ble_eq_true rfl)) dX3_init_24 ⟨by omega, by omega⟩) hS (fun _ _ h => h) (fun _ h => h) (fun S7 t H1 locs ht _ h hw1 _ _ hS => ?_)
  subst ht
  have hw : wd D y z S7 A t.heap := hw1
  clear hw1 h1
  obtain ⟨hk8, h⟩ := h
  refine r_putQF (κ := 5) (ci := 4) (C := RX3) (T := TX3) (N := 10) (ty := (tyX3 3)) (x := (some q2)) hx hb hts hiX3 tyX3 tyX3_ok nmX3 hown hK hw hS (ce_5 (S := S7) hk8) rfl 3 (by decide) (hts (.fieldLink RX3 24 "TubePost$Station" "ways" "Ljava/util/ArrayList;") (by decide +kernel)) (fun _ h9 => h9) rfl hin rfl (by decide +kernel) rfl rfl (Nat.le_of_ble_eq_true rfl) (pu_5_3 (S := S7) hk8) dX3_init_27 (fun H locs hw hS => ?_)
  refine lv_aload_n hx hb dX3_init_30 rfl (lv_at hl 0 rfl) ?_
  obtain ⟨hbg1, hbg2, h⟩ := h
  refine r_new (ci := 0) (C := RJx4a65c) (T := TJx4a65c) (N := 3) (κ := 1) (nn := 0) hx hb hts hiJx4a65c tyJx4a65c tyJx4a65c_ok hown (hts (.classLink RX3 21 RJx4a65c) (by decide +kernel)) (hts (.instantiable RJx4a65c 3) (by decide +kernel)) (hts (.initialized RJx4a65c) (by decide +kernel)) hK hw hS hAn hAz rfl pn_1 (by decide) b_fs1 (by omega) (by omega) dX3_init_31 (fun q9 H hq10 hw hS => ?_)
  have h := h q9 hq10
  have hk11 : gK (sNew (sQ S7 5 this 3 (some q2)) q9 1 0) this = 5 := b_old hk8 hq10 (by decide)
  have hk12 : gK (sNew (sQ S7 5 this 3 (some q2)) q9 1 0) q9 = 1 := if_pos rfl
  have hcu : ((0 + 1) + 1) + ((MC - 1) - 1) ≤ MC := by omega
  have hsu : ((0 + 3) + 3) + ((MS - 3) - 3) ≤ MS := by omega
  refine lv_dup hx hb dX3_init_34 rfl ?_
  have h1 := h
  refine va_callv (va_runI (As := []) (rest := [.ref q9, .ref this]) ⟨hx, hb, hml, hown, hts⟩ (m_Jx4a65c_init_da8c8 (l := l) h1) (cwI 0 hts gX3_init_Jx4a65c_init_da8c8 rfl rfl rfl (hts (.initialized RJx4a65c) (by decide +kernel)) (hts (.methodLink RX3 23 yJx4a65c_init_da8c8) (by decide +kernel)) (hts (.instanceMethod yJx4a65c_init_da8c8) (by decide +kernel)) rfl (by decide +kernel) ⟨Nat.le_trans (Nat.le_of_ble_eq_true rfl) hRf, Nat.le_trans (Nat.le_of_ble_eq_true rfl) hRl⟩) (r_pS hB hw hS) rfl rfl hl.1 rfl (lv_room (Nat.le_of_ble_eq_true rfl)) dX3_init_35 ⟨by omega, by omega⟩) hS (fun _ _ h => h) (fun _ h => h) (fun S14 t H1 locs ht _ h hw1 _ _ hS => ?_)
  subst ht
  have hw : wd D y z S14 A t.heap := hw1
  clear hw1 h1
  obtain ⟨hk15, h⟩ := h
  refine r_putQF (κ := 5) (ci := 4) (C := RX3) (T := TX3) (N := 10) (ty := (tyX3 4)) (x := (some q9)) hx hb hts hiX3 tyX3 tyX3_ok nmX3 hown hK hw hS (ce_5 (S := S14) hk15) rfl 4 (by decide) (hts (.fieldLink RX3 28 "TubePost$Station" "line" "Ljava/util/ArrayList;") (by decide +kernel)) (fun _ h9 => h9) rfl hin rfl (by decide +kernel) rfl rfl (Nat.le_of_ble_eq_true rfl) (pu_5_4 (S := S14) hk15) dX3_init_38 (fun H locs hw hS => ?_)
  refine lv_aload_n hx hb dX3_init_41 rfl (lv_at hl 0 rfl) ?_
  refine lv_bipush (v := (14 : Int32)) hx hb dX3_init_42 (by decide) ?_
  obtain ⟨hn0, hn1, hbg1, hbg2, h⟩ := h
  refine r_newa9 hx hb (hts (.arrayClass .int) (by decide +kernel)) hK hw hS hAn hAz hn0 rfl hn1 (by omega) (by omega) dX3_init_44 (fun q16 H hq17 hw hS => ?_)
  have h := h q16 hq17
  have hk18 : gK (sNew (sQ S14 5 this 4 (some q9)) q16 9 (Int32.toNatClampNeg (14 : Int32))) this = 5 := b_old hk15 hq17 (by decide)
  have hk19 : gK (sNew (sQ S14 5 this 4 (some q9)) q16 9 (Int32.toNatClampNeg (14 : Int32))) q16 = 9 := if_pos rfl
  have hcu : (((0 + 1) + 1) + 1) + (((MC - 1) - 1) - 1) ≤ MC := by omega
  have hsu : (((0 + 3) + 3) + (Int32.toNatClampNeg (14 : Int32))) + (((MS - 3) - 3) - (Int32.toNatClampNeg (14 : Int32))) ≤ MS := by omega
  refine r_putQF (κ := 5) (ci := 4) (C := RX3) (T := TX3) (N := 10) (ty := (tyX3 5)) (x := (some q16)) hx hb hts hiX3 tyX3 tyX3_ok nmX3 hown hK hw hS (ce_5 (S := (sNew (sQ S14 5 this 4 (some q9)) q16 9 (Int32.toNatClampNeg (14 : Int32)))) hk18) rfl 5 (by decide) (hts (.fieldLink RX3 31 "TubePost$Station" "timesToHere" "[I") (by decide +kernel)) (fun _ h9 => h9) rfl hin rfl (by decide +kernel) rfl rfl (Nat.le_of_ble_eq_true rfl) (pu_5_5 (S := (sNew (sQ S14 5 this 4 (some q9)) q16 9 (Int32.toNatClampNeg (14 : Int32)))) hk18) dX3_init_46 (fun H locs hw hS => ?_)
  refine lv_aload_n hx hb dX3_init_49 rfl (lv_at hl 0 rfl) ?_
  refine lv_iconst (v := (0 : Int32)) hx hb dX3_init_50 (by decide) ?_
  refine r_putI (κ := 5) (ci := 4) (C := RX3) (T := TX3) (N := 10) (ty := .boolean) (x := (0 : Int32)) hx hb hts hiX3 tyX3 tyX3_ok nmX3 hown hK hw hS (ce_5 (S := (sQ (sNew (sQ S14 5 this 4 (some q9)) q16 9 (Int32.toNatClampNeg (14 : Int32))) 5 this 5 (some q16))) hk18) rfl 6 (by decide) (hts (.fieldLink RX3 35 "TubePost$Station" "isReckoned" "Z") (by decide +kernel)) (fun _ h9 => h9) rfl (by decide +kernel) rfl rfl (Nat.le_of_ble_eq_true rfl) (pu_5_6 (S := (sQ (sNew (sQ S14 5 this 4 (some q9)) q16 9 (Int32.toNatClampNeg (14 : Int32))) 5 this 5 (some q16))) hk18) dX3_init_51 (fun H locs hw hS => ?_)
  refine lv_aload_n hx hb dX3_init_54 rfl (lv_at hl 0 rfl) ?_
  refine lv_iconst (v := (0 : Int32)) hx hb dX3_init_55 (by decide) ?_
  refine r_putI (κ := 5) (ci := 4) (C := RX3) (T := TX3) (N := 10) (ty := .int) (x := (0 : Int32)) hx hb hts hiX3 tyX3 tyX3_ok nmX3 hown hK hw hS (ce_5 (S := (sV (sQ (sNew (sQ S14 5 this 4 (some q9)) q16 9 (Int32.toNatClampNeg (14 : Int32))) 5 this 5 (some q16)) 5 this 6 (0 : Int32))) hk18) rfl 7 (by decide) (hts (.fieldLink RX3 39 "TubePost$Station" "reach" "I") (by decide +kernel)) (fun _ h9 => h9) rfl (by decide +kernel) rfl rfl (Nat.le_of_ble_eq_true rfl) (pu_5_7 (S := (sV (sQ (sNew (sQ S14 5 this 4 (some q9)) q16 9 (Int32.toNatClampNeg (14 : Int32))) 5 this 5 (some q16)) 5 this 6 (0 : Int32))) hk18) dX3_init_56 (fun H locs hw hS => ?_)
  refine lv_aload_n hx hb dX3_init_59 rfl (lv_at hl 0 rfl) ?_
  refine lv_iconst (v := (-1 : Int32)) hx hb dX3_init_60 (by decide) ?_
  refine r_putI (κ := 5) (ci := 4) (C := RX3) (T := TX3) (N := 10) (ty := .int) (x := (-1 : Int32)) hx hb hts hiX3 tyX3 tyX3_ok nmX3 hown hK hw hS (ce_5 (S := (sV (sV (sQ (sNew (sQ S14 5 this 4 (some q9)) q16 9 (Int32.toNatClampNeg (14 : Int32))) 5 this 5 (some q16)) 5 this 6 (0 : Int32)) 5 this 7 (0 : Int32))) hk18) rfl 8 (by decide) (hts (.fieldLink RX3 42 "TubePost$Station" "switchedTo" "I") (by decide +kernel)) (fun _ h9 => h9) rfl (by decide +kernel) rfl rfl (Nat.le_of_ble_eq_true rfl) (pu_5_8 (S := (sV (sV (sQ (sNew (sQ S14 5 this 4 (some q9)) q16 9 (Int32.toNatClampNeg (14 : Int32))) 5 this 5 (some q16)) 5 this 6 (0 : Int32)) 5 this 7 (0 : Int32))) hk18) dX3_init_61 (fun H locs hw hS => ?_)
  refine lv_aload_n hx hb dX3_init_64 rfl (lv_at hl 0 rfl) ?_
  refine lv_iconst (v := (0 : Int32)) hx hb dX3_init_65 (by decide) ?_
  refine r_putI (κ := 5) (ci := 4) (C := RX3) (T := TX3) (N := 10) (ty := .int) (x := (0 : Int32)) hx hb hts hiX3 tyX3 tyX3_ok nmX3 hown hK hw hS (ce_5 (S := (sV (sV (sV (sQ (sNew (sQ S14 5 this 4 (some q9)) q16 9 (Int32.toNatClampNeg (14 : Int32))) 5 this 5 (some q16)) 5 this 6 (0 : Int32)) 5 this 7 (0 : Int32)) 5 this 8 (-1 : Int32))) hk18) rfl 9 (by decide) (hts (.fieldLink RX3 45 "TubePost$Station" "received" "I") (by decide +kernel)) (fun _ h9 => h9) rfl (by decide +kernel) rfl rfl (Nat.le_of_ble_eq_true rfl) (pu_5_9 (S := (sV (sV (sV (sQ (sNew (sQ S14 5 this 4 (some q9)) q16 9 (Int32.toNatClampNeg (14 : Int32))) 5 this 5 (some q16)) 5 this 6 (0 : Int32)) 5 this 7 (0 : Int32)) 5 this 8 (-1 : Int32))) hk18) dX3_init_66 (fun H locs hw hS => ?_)
  exact hret _ _ _ _ _ _ _ h hw hS (by omega) (by omega) dX3_init_69
def wb_X2_forgetTimes_2 (post : bS → Prop) : Nat → Nat → Int32 → bS → Prop
  | 0, _, _, _ => False
  | n + 1, v0, v1, S => gK S v0 = 4 ∧ (∃ b2, gQ S 4 v0 0 = some b2 ∧ (gK S b2 = 1 ∧ (wp_Jx4a65c_size_8abf5 (fun r5 S6 => (r5 ≤ v1 → post S6) ∧ (¬ (r5 ≤ v1) → gK S6 v0 = 4 ∧ (∃ b8, gQ S6 4 v0 0 = some b8 ∧ (gK S6 b8 = 1 ∧ (wp_Jx4a65c_get_915e3 (fun r11 S12 => ∃ b13, r11 = some b13 ∧ (gK S12 b13 = 5 ∧ ((wb_X2_forgetTimes_2 post n) v0 (v1 + (1 : Int32)) (sV S12 5 b13 6 (0 : Int32))))) b8 v1 S6))))) b2 S)))
def wp_X2_forgetTimes (post : bS → Prop) (this : Nat) (S : bS) : Prop := ∃ n2, wb_X2_forgetTimes_2 post n2 this (0 : Int32) S
set_option maxHeartbeats 4000000 in
set_option maxRecDepth 100000 in
theorem m_X2_forgetTimes {l : Launch} {D : va_G} {y : Nat → ClassId} {z : Nat} {A : Nat → Prop} {S : bS} {post : bS → Prop} {this : Nat} (h : wp_X2_forgetTimes post this S) : Met l yX2_forgetTimes wsX2_forgetTimes ({ frames := 3, cells := 0, slots := 0, locals := 64 } : Room) (va_Pc ([Value.ref this] : List Value) (bP D y z S A)) (va_Qv post (fun S' t => wd D y z S' A t.heap) A) 0 0 A := by
  refine Met.ofW (cc := cX2_forgetTimes) (maxL := 2) (ret := none) (by decide) rfl ?_
  intro p e s m args below meth c s₁ B hml hv
  obtain ⟨rfl, hB⟩ := hv
  have hx := B.exec
  have hb := B.bytes
  have hr := B.returns
  have hts := atoms_spec (ws := wsX2_forgetTimes) B.pre
  have hown : s.vm.findClass RX2 = some m.cls := findClass_of_methodNamed B.named
  have hlocks := B.notSynchronized
  have hw : wd D y z S A s.heap := hB.1
  have hK : va_K D bCl (bT y) s := hB.2.1
  have hNw := hB.2.2.1
  have hAn : ∀ q : Nat, s.heap.size ≤ q → A q := hB.2.2.2.1
  have hAz : ¬ A z := hB.2.2.2.2.1
  have hO := hB.2.2.2.2.2.1
  have hS : va_S A s.heap s.heap [] := va_S.rf
  have hiX2 : ∀ w ∈ u_ws RX2 TX2 2, w ∈ wsX2_forgetTimes := by decide +kernel
  have hiX3 : ∀ w ∈ u_ws RX3 TX3 10, w ∈ wsX2_forgetTimes := by decide +kernel
  have hl := lv_entry ([Value.ref this] : List Value) (n := 2) (Nat.le_of_ble_eq_true rfl)
  rw [lg_entry_eq]
  generalize (lg_sl ([Value.ref this] : List Value) ++ List.replicate (2 - (lg_sl ([Value.ref this] : List Value)).length) Slot.unset).toArray = ls at hl ⊢
  have hl : lv_has ls 2 [(0, .ref this)] := hl
  obtain ⟨Q, hQ⟩ : ∃ Q, Q = MQ below (va_Qv post (fun S' t => wd D y z S' A t.heap) A) (([Value.ref this] : List Value).toArray) s 0 0 A := ⟨_, rfl⟩
  rw [← hQ]
  generalize hR : (headSpec wsX2_forgetTimes ({ frames := 3, cells := 0, slots := 0, locals := 64 } : Room)).room = R
  have hRf : 3 ≤ R.frames := by rw [← hR]; exact Nat.le_refl _
  have hRl : 64 ≤ R.locals := by rw [← hR]; exact Nat.le_refl _
  have hret : ∀ (S : bS) (H : Heap) (locs : List Loc) (pc : Nat) (ls : Array Slot) , post S → wd D y z S A H → va_S A s.heap H locs → decode cX2_forgetTimes pc = .ok (.return_, 1) → W p l e R s m (([Value.ref this] : List Value).toArray) below meth c H locs 0 0 Q (F0 m pc ls []) := by
    intro S H locs pc ls h hw hS d0
    rw [hQ]; exact W.vret hx hb hr (fun t ht hW => ⟨⟨S, rfl, h, by show wd D y z S A t.heap; rw [ht]; exact hw⟩, hS.F ht⟩) hS.2.2 d0 hlocks
  have hB2 : ∀ (n2 : Nat) (S : bS) (H : Heap) (locs : List Loc) (ls : Array Slot) (v0 : Nat) (v1 : Int32), wb_X2_forgetTimes_2 post n2 v0 v1 S → wd D y z S A H → va_S A s.heap H locs → lv_has ls 2 [(0, .ref v0), (1, .int v1)] → W p l e R s m (([Value.ref this] : List Value).toArray) below meth c H locs 0 0 Q (F0 m 2 ls []) := by
    intro n2
    induction n2 with
    | zero =>
      intro S H locs ls v0 v1 h hw hS hl
      exact absurd h (by unfold wb_X2_forgetTimes_2; exact id)
    | succ n2 ih2 =>
      intro S H locs ls v0 v1 h hw hS hl
      unfold wb_X2_forgetTimes_2 at h
      refine lv_iload_n hx hb dX2_forgetTimes_2 rfl (lv_at hl 1 rfl) ?_
      refine lv_aload_n hx hb dX2_forgetTimes_3 rfl (lv_at hl 0 rfl) ?_
      obtain ⟨hk1, h⟩ := h
      obtain ⟨b2, hb3, h⟩ := h
      refine r_get (ci := 3) (v := .ref b2) (C := RX2) (T := TX2) (N := 2) hx hb hts hiX2 hown hK hw (ce_4 (S := S) hk1) rfl 0 (by decide) (hts (.fieldLink RX2 12 "TubePost$Net" "stations" "Ljava/util/ArrayList;") (by decide +kernel)) (fun _ h9 => h9) (congrArg (fun q => some (va_rf q)) hb3) dX2_forgetTimes_4 ?_
      obtain ⟨hk4, h⟩ := h
      have h1 := h
      refine va_calli (va_runV (As := []) (rest := [.int v1]) ⟨hx, hb, hml, hown, hts⟩ (m_Jx4a65c_size_8abf5 (l := l) h1) (cwV 0 hts gX2_forgetTimes_Jx4a65c_size_8abf5 rfl rfl rfl (by decide +kernel) ⟨Nat.le_trans (Nat.le_of_ble_eq_true rfl) hRf, Nat.le_trans (Nat.le_of_ble_eq_true rfl) hRl⟩) (r_pV hB hw hS (ce_1 (S := S) hk4) rfl) rfl rfl hl.1 rfl (lv_room (Nat.le_of_ble_eq_true rfl)) dX2_forgetTimes_7 ⟨Nat.zero_le _, Nat.zero_le _⟩) hS (fun _ _ h => h) (fun _ h => h) (fun r5 S6 t H1 locs ht _ h hw1 _ _ hS => ?_)
      subst ht
      have hw : wd D y z S6 A t.heap := hw1
      clear hw1 h1
      refine lv_icmp_ge (tgt := 34) hx hb dX2_forgetTimes_10 (by decide) (fun hc => ?_) (fun hc => ?_)
      · have h := h.1 hc
        exact hret _ _ _ _ _ h hw hS dX2_forgetTimes_34
      · have h := h.2 hc
        refine lv_aload_n hx hb dX2_forgetTimes_13 rfl (lv_at hl 0 rfl) ?_
        obtain ⟨hk7, h⟩ := h
        obtain ⟨b8, hb9, h⟩ := h
        refine r_get (ci := 3) (v := .ref b8) (C := RX2) (T := TX2) (N := 2) hx hb hts hiX2 hown hK hw (ce_4 (S := S6) hk7) rfl 0 (by decide) (hts (.fieldLink RX2 12 "TubePost$Net" "stations" "Ljava/util/ArrayList;") (by decide +kernel)) (fun _ h9 => h9) (congrArg (fun q => some (va_rf q)) hb9) dX2_forgetTimes_14 ?_
        refine lv_iload_n hx hb dX2_forgetTimes_17 rfl (lv_at hl 1 rfl) ?_
        obtain ⟨hk10, h⟩ := h
        have h1 := h
        refine va_callq (va_runV (As := [.int v1]) (rest := []) ⟨hx, hb, hml, hown, hts⟩ (m_Jx4a65c_get_915e3 (l := l) h1) (cwV 1 hts gX2_forgetTimes_Jx4a65c_get_915e3 rfl rfl rfl (by decide +kernel) ⟨Nat.le_trans (Nat.le_of_ble_eq_true rfl) hRf, Nat.le_trans (Nat.le_of_ble_eq_true rfl) hRl⟩) (r_pV hB hw hS (ce_1 (S := S6) hk10) rfl) rfl rfl hl.1 rfl (lv_room (Nat.le_of_ble_eq_true rfl)) dX2_forgetTimes_18 ⟨Nat.zero_le _, Nat.zero_le _⟩) hS (fun _ _ h => h) (fun _ h => h) (fun r11 S12 t H1 locs ht _ h hw1 _ _ hS => ?_)
        subst ht
        have hw : wd D y z S12 A t.heap := hw1
        clear hw1 h1
        obtain ⟨b13, rfl, h⟩ := h
        refine W.eq (g2 := F0 m 21 ls [.ref b13]) rfl ?_
        obtain ⟨hk15, h⟩ := h
        refine r_cast hx hb hown (hts (.classLink RX2 21 "TubePost$Station") (by decide +kernel)) hK hw (ce_5 hk15) rfl dX2_forgetTimes_21 ?_
        refine lv_iconst (v := (0 : Int32)) hx hb dX2_forgetTimes_24 (by decide) ?_
        refine r_putIN (κ := 5) (ci := 4) (C := RX3) (T := TX3) (N := 10) (ty := .boolean) (x := (0 : Int32)) hx hb hts hiX3 tyX3 tyX3_ok nmX3 hown hK hw hS (ce_5 (S := S12) hk15) rfl 6 (by decide) (hNw _ (bNw_37)) (fun _ h9 => h9) rfl (by decide +kernel) rfl rfl (Nat.le_of_ble_eq_true rfl) (pu_5_6 (S := S12) hk15) dX2_forgetTimes_25 (fun H locs hw hS => ?_)
        refine lv_iinc (v := (v1 + (1 : Int32))) hx hb dX2_forgetTimes_28 hl (k := 1) rfl rfl (by decide) rfl (fun ls hl => ?_)
        have hl : lv_has ls 2 [(1, .int (v1 + (1 : Int32))), (0, .ref v0)] := hl
        refine lv_goto (tgt := 2) hx hb dX2_forgetTimes_31 (by decide) ?_
        exact ih2 _ _ _ _ _ _ h hw hS (lv_sub hl [1, 0] rfl)
  unfold wp_X2_forgetTimes at h
  refine lv_iconst (v := (0 : Int32)) hx hb dX2_forgetTimes_0 (by decide) ?_
  refine lv_istore_n hx hb dX2_forgetTimes_1 rfl hl (by decide) rfl (fun ls hl => ?_)
  have hl : lv_has ls 2 [(1, .int (0 : Int32)), (0, .ref this)] := hl
  obtain ⟨n2, h⟩ := h
  exact hB2 n2 _ _ _ _ _ _ h hw hS (lv_sub hl [1, 0] rfl)
def wp_X2_build (post : Int32 → bS → Prop) (MC MS : Nat) (this : Nat) (p1 : Int32) (p2 : Int32) (S : bS) : Prop := gK S this = 4 ∧ (∃ b2, gQ S 4 this 0 = some b2 ∧ (1 ≤ MC ∧ 10 ≤ MS ∧ (∀ q4, gK S q4 = 0 → (∃ b8, gQ (sNew S q4 5 0) 4 this 0 = some b8 ∧ (gK (sNew S q4 5 0) b8 = 1 ∧ (wp_Jx4a65c_size_8abf5 (fun r11 S12 => ∃ k15 n16, k15 ≤ (MC - 1) ∧ n16 ≤ (MS - 10) ∧ (wp_X3_init (fun S14 => gK S14 b2 = 1 ∧ (∃ k20 n21, k20 ≤ ((MC - 1) - k15) ∧ n21 ≤ ((MS - 10) - n16) ∧ (wp_Jx4a65c_add_9ea2d (fun r18 S19 => gK S19 this = 4 ∧ (wp_X2_forgetTimes (fun S24 => gK S24 this = 4 ∧ (∃ b26, gQ S24 4 this 0 = some b26 ∧ (gK S24 b26 = 1 ∧ (wp_Jx4a65c_size_8abf5 (fun r29 S30 => post (r29 - (1 : Int32)) S30) b26 S24)))) this S19)) k20 n21 b2 q4 S14))) k15 n16 q4 r11 p1 p2 S12)) b8 (sNew S q4 5 0)))))))
set_option maxHeartbeats 4000000 in
set_option maxRecDepth 100000 in
theorem m_X2_build {l : Launch} {D : va_G} {y : Nat → ClassId} {z : Nat} {A : Nat → Prop} {S : bS} {post : Int32 → bS → Prop} {MC MS : Nat} {this : Nat} {p1 : Int32} {p2 : Int32} (h : wp_X2_build post MC MS this p1 p2 S) : Met l yX2_build wsX2_build ({ frames := 7, cells := MC, slots := MS, locals := 191 } : Room) (va_Pc ([Value.ref this, Value.int p1, Value.int p2] : List Value) (bP D y z S A)) (va_Qi post (fun S' t => wd D y z S' A t.heap) A) MC MS A := by
  refine Met.ofW (cc := cX2_build) (maxL := 3) (ret := (some .int)) (by decide) rfl ?_
  intro p e s m args below meth c s₁ B hml hv
  obtain ⟨rfl, hB⟩ := hv
  have hx := B.exec
  have hb := B.bytes
  have hr := B.returns
  have hts := atoms_spec (ws := wsX2_build) B.pre
  have hown : s.vm.findClass RX2 = some m.cls := findClass_of_methodNamed B.named
  have hlocks := B.notSynchronized
  have hw : wd D y z S A s.heap := hB.1
  have hK : va_K D bCl (bT y) s := hB.2.1
  have hNw := hB.2.2.1
  have hAn : ∀ q : Nat, s.heap.size ≤ q → A q := hB.2.2.2.1
  have hAz : ¬ A z := hB.2.2.2.2.1
  have hO := hB.2.2.2.2.2.1
  have hS : va_S A s.heap s.heap [] := va_S.rf
  have hiX2 : ∀ w ∈ u_ws RX2 TX2 2, w ∈ wsX2_build := by decide +kernel
  have hiX3 : ∀ w ∈ u_ws RX3 TX3 10, w ∈ wsX2_build := by decide +kernel
  have hl := lv_entry ([Value.ref this, Value.int p1, Value.int p2] : List Value) (n := 3) (Nat.le_of_ble_eq_true rfl)
  rw [lg_entry_eq]
  generalize (lg_sl ([Value.ref this, Value.int p1, Value.int p2] : List Value) ++ List.replicate (3 - (lg_sl ([Value.ref this, Value.int p1, Value.int p2] : List Value)).length) Slot.unset).toArray = ls at hl ⊢
  have hl : lv_has ls 3 [(0, .ref this), (1, .int p1), (2, .int p2)] := hl
  obtain ⟨Q, hQ⟩ : ∃ Q, Q = MQ below (va_Qi post (fun S' t => wd D y z S' A t.heap) A) (([Value.ref this, Value.int p1, Value.int p2] : List Value).toArray) s MC MS A := ⟨_, rfl⟩
  rw [← hQ]
  generalize hR : (headSpec wsX2_build ({ frames := 7, cells := MC, slots := MS, locals := 191 } : Room)).room = R
  have hRf : 7 ≤ R.frames := by rw [← hR]; exact Nat.le_refl _
  have hRl : 191 ≤ R.locals := by rw [← hR]; exact Nat.le_refl _
  have hRc : R.cells = MC := by rw [← hR]; rfl
  have hRs : R.slots = MS := by rw [← hR]; rfl
  have hret : ∀ (v : Int32) (S : bS) (H : Heap) (locs : List Loc) (pc : Nat) (ls : Array Slot) (cu su : Nat) , post v S → wd D y z S A H → va_S A s.heap H locs → cu ≤ MC → su ≤ MS → decode cX2_build pc = .ok (.ireturn, 1) → W p l e R s m (([Value.ref this, Value.int p1, Value.int p2] : List Value).toArray) below meth c H locs cu su Q (F0 m pc ls [.int v]) := by
    intro v S H locs pc ls cu su h hw hS hcu hsu d0
    rw [hQ]; refine W.widen hcu hsu ?_; exact W.iret hx hb hr (fun t ht hW => ⟨⟨v, S, rfl, h, by show wd D y z S A t.heap; rw [ht]; exact hw⟩, hS.F ht⟩) hS.2.2 d0 hlocks
  unfold wp_X2_build at h
  have hcu : 0 + MC ≤ MC := by omega
  have hsu : 0 + MS ≤ MS := by omega
  refine lv_aload_n hx hb dX2_build_0 rfl (lv_at hl 0 rfl) ?_
  obtain ⟨hk1, h⟩ := h
  obtain ⟨b2, hb3, h⟩ := h
  refine r_get (ci := 3) (v := .ref b2) (C := RX2) (T := TX2) (N := 2) hx hb hts hiX2 hown hK hw (ce_4 (S := S) hk1) rfl 0 (by decide) (hts (.fieldLink RX2 12 "TubePost$Net" "stations" "Ljava/util/ArrayList;") (by decide +kernel)) (fun _ h9 => h9) (congrArg (fun q => some (va_rf q)) hb3) dX2_build_1 ?_
  obtain ⟨hbg1, hbg2, h⟩ := h
  refine r_new (ci := 4) (C := RX3) (T := TX3) (N := 10) (κ := 5) (nn := 0) hx hb hts hiX3 tyX3 tyX3_ok hown (hts (.classLink RX2 21 RX3) (by decide +kernel)) (hts (.instantiable RX3 10) (by decide +kernel)) (hts (.initialized RX3) (by decide +kernel)) hK hw hS hAn hAz rfl pn_5 (by decide) b_fs5 (by omega) (by omega) dX2_build_4 (fun q4 H hq5 hw hS => ?_)
  have h := h q4 hq5
  have hk6 : gK (sNew S q4 5 0) this = 4 := b_old hk1 hq5 (by decide)
  have hk7 : gK (sNew S q4 5 0) q4 = 5 := if_pos rfl
  have hcu : (0 + 1) + (MC - 1) ≤ MC := by omega
  have hsu : (0 + 10) + (MS - 10) ≤ MS := by omega
  refine lv_dup hx hb dX2_build_7 rfl ?_
  refine lv_aload_n hx hb dX2_build_8 rfl (lv_at hl 0 rfl) ?_
  obtain ⟨b8, hb9, h⟩ := h
  refine r_get (ci := 3) (v := .ref b8) (C := RX2) (T := TX2) (N := 2) hx hb hts hiX2 hown hK hw (ce_4 (S := (sNew S q4 5 0)) hk6) rfl 0 (by decide) (hts (.fieldLink RX2 12 "TubePost$Net" "stations" "Ljava/util/ArrayList;") (by decide +kernel)) (fun _ h9 => h9) (congrArg (fun q => some (va_rf q)) hb9) dX2_build_9 ?_
  obtain ⟨hk10, h⟩ := h
  have h1 := h
  refine va_calli (va_runV (As := []) (rest := [.ref q4, .ref q4, .ref b2]) ⟨hx, hb, hml, hown, hts⟩ (m_Jx4a65c_size_8abf5 (l := l) h1) (cwV 0 hts gX2_build_Jx4a65c_size_8abf5 rfl rfl rfl (by decide +kernel) ⟨Nat.le_trans (Nat.le_of_ble_eq_true rfl) hRf, Nat.le_trans (Nat.le_of_ble_eq_true rfl) hRl⟩) (r_pV hB hw hS (ce_1 (S := (sNew S q4 5 0)) hk10) rfl) rfl rfl hl.1 rfl (lv_room (Nat.le_of_ble_eq_true rfl)) dX2_build_12 ⟨by omega, by omega⟩) hS (fun _ _ h => h) (fun _ h => h) (fun r11 S12 t H1 locs ht _ h hw1 _ _ hS => ?_)
  subst ht
  have hw : wd D y z S12 A t.heap := hw1
  clear hw1 h1
  refine lv_iload_n hx hb dX2_build_15 rfl (lv_at hl 1 rfl) ?_
  refine lv_iload_n hx hb dX2_build_16 rfl (lv_at hl 2 rfl) ?_
  obtain ⟨k15, n16, hbg1, hbg2, h⟩ := h
  have h1 := h
  refine va_callv (va_runIN (As := [.int r11, .int p1, .int p2]) (rest := [.ref q4, .ref b2]) ⟨hx, hb, hml, hown, hts⟩ (m_X3_init (l := l) h1) ⟨va_cnB 3 hts gX2_build_X3_init_n27 rfl rfl rfl (hNw _ bNw_63) (hts (.initialized RX3) (by decide +kernel)) ⟨by decide +kernel, by decide +kernel, by decide +kernel⟩ ⟨Nat.le_trans (Nat.le_of_ble_eq_true rfl) hRf, Nat.le_trans (Nat.le_of_ble_eq_true rfl) hRl⟩, rfl, (hts (.instanceMethod yX3_init) (by decide +kernel))⟩ (r_pS hB hw hS) rfl rfl hl.1 rfl (lv_room (Nat.le_of_ble_eq_true rfl)) dX2_build_17 ⟨by omega, by omega⟩) hS (fun _ _ h => h) (fun _ h => h) (fun S14 t H1 locs ht _ h hw1 _ _ hS => ?_)
  subst ht
  have hw : wd D y z S14 A t.heap := hw1
  clear hw1 h1
  have hcu : ((0 + 1) + k15) + ((MC - 1) - k15) ≤ MC := by omega
  have hsu : ((0 + 10) + n16) + ((MS - 10) - n16) ≤ MS := by omega
  obtain ⟨hk17, h⟩ := h
  obtain ⟨k20, n21, hbg1, hbg2, h⟩ := h
  have h1 := h
  refine va_calli (va_runV (As := [.ref q4]) (rest := []) ⟨hx, hb, hml, hown, hts⟩ (m_Jx4a65c_add_9ea2d (l := l) h1) (cwV 1 hts gX2_build_Jx4a65c_add_9ea2d rfl rfl rfl (by decide +kernel) ⟨Nat.le_trans (Nat.le_of_ble_eq_true rfl) hRf, Nat.le_trans (Nat.le_of_ble_eq_true rfl) hRl⟩) (r_pV hB hw hS (ce_1 (S := S14) hk17) rfl) rfl rfl hl.1 rfl (lv_room (Nat.le_of_ble_eq_true rfl)) dX2_build_20 ⟨by omega, by omega⟩) hS (fun _ _ h => h) (fun _ h => h) (fun r18 S19 t H1 locs ht _ h hw1 _ _ hS => ?_)
  subst ht
  have hw : wd D y z S19 A t.heap := hw1
  clear hw1 h1
  have hcu : (((0 + 1) + k15) + k20) + (((MC - 1) - k15) - k20) ≤ MC := by omega
  have hsu : (((0 + 10) + n16) + n21) + (((MS - 10) - n16) - n21) ≤ MS := by omega
  refine lv_pop hx hb dX2_build_23 rfl ?_
  refine lv_aload_n hx hb dX2_build_24 rfl (lv_at hl 0 rfl) ?_
  obtain ⟨hk22, h⟩ := h
  have h1 := h
  refine va_callv (va_runV (As := []) (rest := []) ⟨hx, hb, hml, hown, hts⟩ (m_X2_forgetTimes (l := l) h1) (cwV 0 hts gX2_build_X2_forgetTimes rfl rfl rfl (by decide +kernel) ⟨Nat.le_trans (Nat.le_of_ble_eq_true rfl) hRf, Nat.le_trans (Nat.le_of_ble_eq_true rfl) hRl⟩) (r_pV hB hw hS (ce_4 (S := S19) hk22) rfl) rfl rfl hl.1 rfl (lv_room (Nat.le_of_ble_eq_true rfl)) dX2_build_25 ⟨by omega, by omega⟩) hS (fun _ _ h => h) (fun _ h => h) (fun S24 t H1 locs ht _ h hw1 _ _ hS => ?_)
  subst ht
  have hw : wd D y z S24 A t.heap := hw1
  clear hw1 h1
  refine lv_aload_n hx hb dX2_build_28 rfl (lv_at hl 0 rfl) ?_
  obtain ⟨hk25, h⟩ := h
  obtain ⟨b26, hb27, h⟩ := h
  refine r_get (ci := 3) (v := .ref b26) (C := RX2) (T := TX2) (N := 2) hx hb hts hiX2 hown hK hw (ce_4 (S := S24) hk25) rfl 0 (by decide) (hts (.fieldLink RX2 12 "TubePost$Net" "stations" "Ljava/util/ArrayList;") (by decide +kernel)) (fun _ h9 => h9) (congrArg (fun q => some (va_rf q)) hb27) dX2_build_29 ?_
  obtain ⟨hk28, h⟩ := h
  have h1 := h
  refine va_calli (va_runV (As := []) (rest := []) ⟨hx, hb, hml, hown, hts⟩ (m_Jx4a65c_size_8abf5 (l := l) h1) (cwV 0 hts gX2_build_Jx4a65c_size_8abf5 rfl rfl rfl (by decide +kernel) ⟨Nat.le_trans (Nat.le_of_ble_eq_true rfl) hRf, Nat.le_trans (Nat.le_of_ble_eq_true rfl) hRl⟩) (r_pV hB hw hS (ce_1 (S := S24) hk28) rfl) rfl rfl hl.1 rfl (lv_room (Nat.le_of_ble_eq_true rfl)) dX2_build_32 ⟨by omega, by omega⟩) hS (fun _ _ h => h) (fun _ h => h) (fun r29 S30 t H1 locs ht _ h hw1 _ _ hS => ?_)
  subst ht
  have hw : wd D y z S30 A t.heap := hw1
  clear hw1 h1
  refine lv_iconst (v := (1 : Int32)) hx hb dX2_build_35 (by decide) ?_
  refine lv_isub hx hb dX2_build_36 ?_
  exact hret (r29 - (1 : Int32)) _ _ _ _ _ _ _ h hw hS (by omega) (by omega) dX2_build_37
def wb_X4_dividedUp_17 (post : Int32 → bS → Prop) (s0 : Int32) (S : bS) : Prop := post s0 S
def wp_X4_dividedUp (post : Int32 → bS → Prop) (p1 : Int32) (p2 : Int32) (S : bS) : Prop := ((1 : Int32) ≤ p2 → ¬ p2 = 0 ∧ (wb_X4_dividedUp_17 post (((p1 + p2) - (1 : Int32)) / p2) S)) ∧ (¬ ((1 : Int32) ≤ p2) → wb_X4_dividedUp_17 post (1000000 : Int32) S)
set_option maxHeartbeats 4000000 in
set_option maxRecDepth 100000 in
theorem m_X4_dividedUp {l : Launch} {D : va_G} {y : Nat → ClassId} {z : Nat} {A : Nat → Prop} {S : bS} {post : Int32 → bS → Prop} {p1 : Int32} {p2 : Int32} (h : wp_X4_dividedUp post p1 p2 S) : Met l yX4_dividedUp wsX4_dividedUp ({ frames := 0, cells := 0, slots := 0, locals := 0 } : Room) (va_Pc ([Value.int p1, Value.int p2] : List Value) (bP D y z S A)) (va_Qi post (fun S' t => wd D y z S' A t.heap) A) 0 0 A := by
  refine Met.ofW (cc := cX4_dividedUp) (maxL := 2) (ret := (some .int)) (by decide) rfl ?_
  intro p e s m args below meth c s₁ B hml hv
  obtain ⟨rfl, hB⟩ := hv
  have hx := B.exec
  have hb := B.bytes
  have hr := B.returns
  have hts := atoms_spec (ws := wsX4_dividedUp) B.pre
  have hown : s.vm.findClass RX4 = some m.cls := findClass_of_methodNamed B.named
  have hlocks := B.notSynchronized
  have hw : wd D y z S A s.heap := hB.1
  have hK : va_K D bCl (bT y) s := hB.2.1
  have hNw := hB.2.2.1
  have hAn : ∀ q : Nat, s.heap.size ≤ q → A q := hB.2.2.2.1
  have hAz : ¬ A z := hB.2.2.2.2.1
  have hO := hB.2.2.2.2.2.1
  have hS : va_S A s.heap s.heap [] := va_S.rf
  have hl := lv_entry ([Value.int p1, Value.int p2] : List Value) (n := 2) (Nat.le_of_ble_eq_true rfl)
  rw [lg_entry_eq]
  generalize (lg_sl ([Value.int p1, Value.int p2] : List Value) ++ List.replicate (2 - (lg_sl ([Value.int p1, Value.int p2] : List Value)).length) Slot.unset).toArray = ls at hl ⊢
  have hl : lv_has ls 2 [(0, .int p1), (1, .int p2)] := hl
  obtain ⟨Q, hQ⟩ : ∃ Q, Q = MQ below (va_Qi post (fun S' t => wd D y z S' A t.heap) A) (([Value.int p1, Value.int p2] : List Value).toArray) s 0 0 A := ⟨_, rfl⟩
  rw [← hQ]
  generalize hR : (headSpec wsX4_dividedUp ({ frames := 0, cells := 0, slots := 0, locals := 0 } : Room)).room = R
  have hRf : 0 ≤ R.frames := by rw [← hR]; exact Nat.le_refl _
  have hRl : 0 ≤ R.locals := by rw [← hR]; exact Nat.le_refl _
  have hret : ∀ (v : Int32) (S : bS) (H : Heap) (locs : List Loc) (pc : Nat) (ls : Array Slot) , post v S → wd D y z S A H → va_S A s.heap H locs → decode cX4_dividedUp pc = .ok (.ireturn, 1) → W p l e R s m (([Value.int p1, Value.int p2] : List Value).toArray) below meth c H locs 0 0 Q (F0 m pc ls [.int v]) := by
    intro v S H locs pc ls h hw hS d0
    rw [hQ]; exact W.iret hx hb hr (fun t ht hW => ⟨⟨v, S, rfl, h, by show wd D y z S A t.heap; rw [ht]; exact hw⟩, hS.F ht⟩) hS.2.2 d0 hlocks
  have hB17 : ∀ (S : bS) (H : Heap) (locs : List Loc) (ls : Array Slot) (s0 : Int32), wb_X4_dividedUp_17 post s0 S → wd D y z S A H → va_S A s.heap H locs → lv_has ls 2 [] → W p l e R s m (([Value.int p1, Value.int p2] : List Value).toArray) below meth c H locs 0 0 Q (F0 m 17 ls [.int s0]) := by
    intro S H locs ls s0 h hw hS hl
    unfold wb_X4_dividedUp_17 at h
    exact hret s0 _ _ _ _ _ h hw hS dX4_dividedUp_17
  unfold wp_X4_dividedUp at h
  refine lv_iload_n hx hb dX4_dividedUp_0 rfl (lv_at hl 1 rfl) ?_
  refine lv_iconst (v := (1 : Int32)) hx hb dX4_dividedUp_1 (by decide) ?_
  refine lv_icmp_ge (tgt := 10) hx hb dX4_dividedUp_2 (by decide) (fun hc => ?_) (fun hc => ?_)
  · have h := h.1 hc
    refine lv_iload_n hx hb dX4_dividedUp_10 rfl (lv_at hl 0 rfl) ?_
    refine lv_iload_n hx hb dX4_dividedUp_11 rfl (lv_at hl 1 rfl) ?_
    refine lv_iadd hx hb dX4_dividedUp_12 ?_
    refine lv_iconst (v := (1 : Int32)) hx hb dX4_dividedUp_13 (by decide) ?_
    refine lv_isub hx hb dX4_dividedUp_14 ?_
    refine lv_iload_n hx hb dX4_dividedUp_15 rfl (lv_at hl 1 rfl) ?_
    obtain ⟨hne, h⟩ := h
    refine lv_idiv hx hb dX4_dividedUp_16 hne ?_
    exact hB17 _ _ _ _ _ h hw hS (lv_sub hl [] rfl)
  · have h := h.2 hc
    refine lv_ldc (v := (1000000 : Int32)) hx hb hown (hts (.constant RX4 55 (1000000 : Int32)) (by decide +kernel)) dX4_dividedUp_5 ?_
    refine lv_goto (tgt := 17) hx hb dX4_dividedUp_7 (by decide) ?_
    exact hB17 _ _ _ _ _ h hw hS (lv_sub hl [] rfl)
def wp_X4_init (post : bS → Prop) (MC MS : Nat) (this : Nat) (p1 : Int32) (p2 : Nat) (p3 : Nat) (p4 : Int32) (p5 : Int32) (p6 : Int32) (S : bS) : Prop := gK S this = 6 ∧ (wp_X4_dividedUp (fun r2 S3 => gK S3 this = 6 ∧ (1 ≤ MC ∧ 3 ≤ MS ∧ (∀ q5, gK (sV S3 6 this 7 r2) q5 = 0 → (wp_Jx4a65c_init_da8c8 (fun S10 => gK S10 this = 6 ∧ (post (sV (sV (sV (sQ S10 6 this 5 (some q5)) 6 this 8 (1 : Int32)) 6 this 9 (0 : Int32)) 6 this 10 (0 : Int32)))) q5 (sNew (sV S3 6 this 7 r2) q5 1 0))))) p4 p5 (sV (sV (sV (sQ (sQ (sV S 6 this 0 p1) 6 this 1 (some p2)) 6 this 2 (some p3)) 6 this 3 p4) 6 this 4 p6) 6 this 6 p5))
set_option maxHeartbeats 4000000 in
set_option maxRecDepth 100000 in
theorem m_X4_init {l : Launch} {D : va_G} {y : Nat → ClassId} {z : Nat} {A : Nat → Prop} {S : bS} {post : bS → Prop} {MC MS : Nat} {this : Nat} {p1 : Int32} {p2 : Nat} {p3 : Nat} {p4 : Int32} {p5 : Int32} {p6 : Int32} (h : wp_X4_init post MC MS this p1 p2 p3 p4 p5 p6 S) : Met l yX4_init wsX4_init ({ frames := 4, cells := MC, slots := MS, locals := 80 } : Room) (va_Pc ([Value.ref this, Value.int p1, Value.ref p2, Value.ref p3, Value.int p4, Value.int p5, Value.int p6] : List Value) (bP D y z S A)) (va_Qv post (fun S' t => wd D y z S' A t.heap) A) MC MS A := by
  refine Met.ofW (cc := cX4_init) (maxL := 7) (ret := none) (by decide) rfl ?_
  intro p e s m args below meth c s₁ B hml hv
  obtain ⟨rfl, hB⟩ := hv
  have hx := B.exec
  have hb := B.bytes
  have hr := B.returns
  have hts := atoms_spec (ws := wsX4_init) B.pre
  have hown : s.vm.findClass RX4 = some m.cls := findClass_of_methodNamed B.named
  have hlocks := B.notSynchronized
  have hin : meth.name = "<init>" := (name_of_methodNamed B.named B.method).1
  have hw : wd D y z S A s.heap := hB.1
  have hK : va_K D bCl (bT y) s := hB.2.1
  have hNw := hB.2.2.1
  have hAn : ∀ q : Nat, s.heap.size ≤ q → A q := hB.2.2.2.1
  have hAz : ¬ A z := hB.2.2.2.2.1
  have hO := hB.2.2.2.2.2.1
  have hS : va_S A s.heap s.heap [] := va_S.rf
  have hiJx4a65c : ∀ w ∈ u_ws RJx4a65c TJx4a65c 3, w ∈ wsX4_init := by decide +kernel
  have hiX4 : ∀ w ∈ u_ws RX4 TX4 11, w ∈ wsX4_init := by decide +kernel
  have hl := lv_entry ([Value.ref this, Value.int p1, Value.ref p2, Value.ref p3, Value.int p4, Value.int p5, Value.int p6] : List Value) (n := 7) (Nat.le_of_ble_eq_true rfl)
  rw [lg_entry_eq]
  generalize (lg_sl ([Value.ref this, Value.int p1, Value.ref p2, Value.ref p3, Value.int p4, Value.int p5, Value.int p6] : List Value) ++ List.replicate (7 - (lg_sl ([Value.ref this, Value.int p1, Value.ref p2, Value.ref p3, Value.int p4, Value.int p5, Value.int p6] : List Value)).length) Slot.unset).toArray = ls at hl ⊢
  have hl : lv_has ls 7 [(0, .ref this), (1, .int p1), (2, .ref p2), (3, .ref p3), (4, .int p4), (5, .int p5), (6, .int p6)] := hl
  obtain ⟨Q, hQ⟩ : ∃ Q, Q = MQ below (va_Qv post (fun S' t => wd D y z S' A t.heap) A) (([Value.ref this, Value.int p1, Value.ref p2, Value.ref p3, Value.int p4, Value.int p5, Value.int p6] : List Value).toArray) s MC MS A := ⟨_, rfl⟩
  rw [← hQ]
  generalize hR : (headSpec wsX4_init ({ frames := 4, cells := MC, slots := MS, locals := 80 } : Room)).room = R
  have hRf : 4 ≤ R.frames := by rw [← hR]; exact Nat.le_refl _
  have hRl : 80 ≤ R.locals := by rw [← hR]; exact Nat.le_refl _
  have hRc : R.cells = MC := by rw [← hR]; rfl
  have hRs : R.slots = MS := by rw [← hR]; rfl
  have hret : ∀ (S : bS) (H : Heap) (locs : List Loc) (pc : Nat) (ls : Array Slot) (cu su : Nat) , post S → wd D y z S A H → va_S A s.heap H locs → cu ≤ MC → su ≤ MS → decode cX4_init pc = .ok (.return_, 1) → W p l e R s m (([Value.ref this, Value.int p1, Value.ref p2, Value.ref p3, Value.int p4, Value.int p5, Value.int p6] : List Value).toArray) below meth c H locs cu su Q (F0 m pc ls []) := by
    intro S H locs pc ls cu su h hw hS hcu hsu d0
    rw [hQ]; refine W.widen hcu hsu ?_; exact W.vret hx hb hr (fun t ht hW => ⟨⟨S, rfl, h, by show wd D y z S A t.heap; rw [ht]; exact hw⟩, hS.F ht⟩) hS.2.2 d0 hlocks
  unfold wp_X4_init at h
  have hcu : 0 + MC ≤ MC := by omega
  have hsu : 0 + MS ≤ MS := by omega
  refine lv_aload_n hx hb dX4_init_0 rfl (lv_at hl 0 rfl) ?_
  refine W.objInit hx hb hown (hts (.methodLink RX4 3 objectInit) (by decide +kernel)) (hts (.instanceMethod objectInit) (by decide +kernel)) (hts (.code objectInit ⟨#[0xb1]⟩ 1 none) (by decide +kernel)) rfl (by rw [hml]; exact hl.1) rfl dX4_init_1 (Nat.le_trans (Nat.le_of_ble_eq_true rfl) hRf) (Nat.le_trans (Nat.le_of_ble_eq_true rfl) hRl) ?_
  refine W.eq (g2 := F0 m 4 ls []) rfl ?_
  refine lv_aload_n hx hb dX4_init_4 rfl (lv_at hl 0 rfl) ?_
  refine lv_iload_n hx hb dX4_init_5 rfl (lv_at hl 1 rfl) ?_
  obtain ⟨hk1, h⟩ := h
  refine r_putIF (κ := 6) (ci := 5) (C := RX4) (T := TX4) (N := 11) (ty := .int) (x := p1) hx hb hts hiX4 tyX4 tyX4_ok nmX4 hown hK hw hS (ce_6 (S := S) hk1) rfl 0 (by decide) (hts (.fieldLink RX4 9 "TubePost$Tube" "number" "I") (by decide +kernel)) (fun _ h9 => h9) rfl hin rfl (by decide +kernel) rfl rfl (Nat.le_of_ble_eq_true rfl) (pu_6_0 (S := S) hk1) dX4_init_6 (fun H locs hw hS => ?_)
  refine lv_aload_n hx hb dX4_init_9 rfl (lv_at hl 0 rfl) ?_
  refine lv_aload_n hx hb dX4_init_10 rfl (lv_at hl 2 rfl) ?_
  refine r_putQF (κ := 6) (ci := 5) (C := RX4) (T := TX4) (N := 11) (ty := (tyX4 1)) (x := (some p2)) hx hb hts hiX4 tyX4 tyX4_ok nmX4 hown hK hw hS (ce_6 (S := (sV S 6 this 0 p1)) hk1) rfl 1 (by decide) (hts (.fieldLink RX4 15 "TubePost$Tube" "from" "LTubePost$Station;") (by decide +kernel)) (fun _ h9 => h9) rfl hin rfl (by decide +kernel) rfl rfl (Nat.le_of_ble_eq_true rfl) (pu_6_1 (S := (sV S 6 this 0 p1)) hk1) dX4_init_11 (fun H locs hw hS => ?_)
  refine lv_aload_n hx hb dX4_init_14 rfl (lv_at hl 0 rfl) ?_
  refine lv_aload_n hx hb dX4_init_15 rfl (lv_at hl 3 rfl) ?_
  refine r_putQF (κ := 6) (ci := 5) (C := RX4) (T := TX4) (N := 11) (ty := (tyX4 2)) (x := (some p3)) hx hb hts hiX4 tyX4 tyX4_ok nmX4 hown hK hw hS (ce_6 (S := (sQ (sV S 6 this 0 p1) 6 this 1 (some p2))) hk1) rfl 2 (by decide) (hts (.fieldLink RX4 19 "TubePost$Tube" "to" "LTubePost$Station;") (by decide +kernel)) (fun _ h9 => h9) rfl hin rfl (by decide +kernel) rfl rfl (Nat.le_of_ble_eq_true rfl) (pu_6_2 (S := (sQ (sV S 6 this 0 p1) 6 this 1 (some p2))) hk1) dX4_init_16 (fun H locs hw hS => ?_)
  refine lv_aload_n hx hb dX4_init_19 rfl (lv_at hl 0 rfl) ?_
  refine lv_iload hx hb dX4_init_20 (lv_at hl 4 rfl) ?_
  refine r_putIF (κ := 6) (ci := 5) (C := RX4) (T := TX4) (N := 11) (ty := .int) (x := p4) hx hb hts hiX4 tyX4 tyX4_ok nmX4 hown hK hw hS (ce_6 (S := (sQ (sQ (sV S 6 this 0 p1) 6 this 1 (some p2)) 6 this 2 (some p3))) hk1) rfl 3 (by decide) (hts (.fieldLink RX4 22 "TubePost$Tube" "length" "I") (by decide +kernel)) (fun _ h9 => h9) rfl hin rfl (by decide +kernel) rfl rfl (Nat.le_of_ble_eq_true rfl) (pu_6_3 (S := (sQ (sQ (sV S 6 this 0 p1) 6 this 1 (some p2)) 6 this 2 (some p3))) hk1) dX4_init_22 (fun H locs hw hS => ?_)
  refine lv_aload_n hx hb dX4_init_25 rfl (lv_at hl 0 rfl) ?_
  refine lv_iload hx hb dX4_init_26 (lv_at hl 6 rfl) ?_
  refine r_putIF (κ := 6) (ci := 5) (C := RX4) (T := TX4) (N := 11) (ty := .int) (x := p6) hx hb hts hiX4 tyX4 tyX4_ok nmX4 hown hK hw hS (ce_6 (S := (sV (sQ (sQ (sV S 6 this 0 p1) 6 this 1 (some p2)) 6 this 2 (some p3)) 6 this 3 p4)) hk1) rfl 4 (by decide) (hts (.fieldLink RX4 25 "TubePost$Tube" "bore" "I") (by decide +kernel)) (fun _ h9 => h9) rfl hin rfl (by decide +kernel) rfl rfl (Nat.le_of_ble_eq_true rfl) (pu_6_4 (S := (sV (sQ (sQ (sV S 6 this 0 p1) 6 this 1 (some p2)) 6 this 2 (some p3)) 6 this 3 p4)) hk1) dX4_init_28 (fun H locs hw hS => ?_)
  refine lv_aload_n hx hb dX4_init_31 rfl (lv_at hl 0 rfl) ?_
  refine lv_iload hx hb dX4_init_32 (lv_at hl 5 rfl) ?_
  refine r_putI (κ := 6) (ci := 5) (C := RX4) (T := TX4) (N := 11) (ty := .int) (x := p5) hx hb hts hiX4 tyX4 tyX4_ok nmX4 hown hK hw hS (ce_6 (S := (sV (sV (sQ (sQ (sV S 6 this 0 p1) 6 this 1 (some p2)) 6 this 2 (some p3)) 6 this 3 p4) 6 this 4 p6)) hk1) rfl 6 (by decide) (hts (.fieldLink RX4 28 "TubePost$Tube" "speed" "I") (by decide +kernel)) (fun _ h9 => h9) rfl (by decide +kernel) rfl rfl (Nat.le_of_ble_eq_true rfl) (pu_6_6 (S := (sV (sV (sQ (sQ (sV S 6 this 0 p1) 6 this 1 (some p2)) 6 this 2 (some p3)) 6 this 3 p4) 6 this 4 p6)) hk1) dX4_init_34 (fun H locs hw hS => ?_)
  refine lv_aload_n hx hb dX4_init_37 rfl (lv_at hl 0 rfl) ?_
  refine lv_iload hx hb dX4_init_38 (lv_at hl 4 rfl) ?_
  refine lv_iload hx hb dX4_init_40 (lv_at hl 5 rfl) ?_
  have h1 := h
  refine va_calli (va_runS (As := [.int p4, .int p5]) (rest := [.ref this]) ⟨hx, hb, hml, hown, hts⟩ (m_X4_dividedUp (l := l) h1) (cwS 2 hts gX4_init_X4_dividedUp rfl rfl rfl (by decide +kernel) ⟨Nat.le_trans (Nat.le_of_ble_eq_true rfl) hRf, Nat.le_trans (Nat.le_of_ble_eq_true rfl) hRl⟩) (r_pS hB hw hS) rfl rfl hl.1 rfl (lv_room (Nat.le_of_ble_eq_true rfl)) dX4_init_42 ⟨by omega, by omega⟩) hS (fun _ _ h => h) (fun _ h => h) (fun r2 S3 t H1 locs ht _ h hw1 _ _ hS => ?_)
  subst ht
  have hw : wd D y z S3 A t.heap := hw1
  clear hw1 h1
  obtain ⟨hk4, h⟩ := h
  refine r_putI (κ := 6) (ci := 5) (C := RX4) (T := TX4) (N := 11) (ty := .int) (x := r2) hx hb hts hiX4 tyX4 tyX4_ok nmX4 hown hK hw hS (ce_6 (S := S3) hk4) rfl 7 (by decide) (hts (.fieldLink RX4 35 "TubePost$Tube" "timeThrough" "I") (by decide +kernel)) (fun _ h9 => h9) rfl (by decide +kernel) rfl rfl (Nat.le_of_ble_eq_true rfl) (pu_6_7 (S := S3) hk4) dX4_init_45 (fun H locs hw hS => ?_)
  refine lv_aload_n hx hb dX4_init_48 rfl (lv_at hl 0 rfl) ?_
  obtain ⟨hbg1, hbg2, h⟩ := h
  refine r_new (ci := 0) (C := RJx4a65c) (T := TJx4a65c) (N := 3) (κ := 1) (nn := 0) hx hb hts hiJx4a65c tyJx4a65c tyJx4a65c_ok hown (hts (.classLink RX4 38 RJx4a65c) (by decide +kernel)) (hts (.instantiable RJx4a65c 3) (by decide +kernel)) (hts (.initialized RJx4a65c) (by decide +kernel)) hK hw hS hAn hAz rfl pn_1 (by decide) b_fs1 (by omega) (by omega) dX4_init_49 (fun q5 H hq6 hw hS => ?_)
  have h := h q5 hq6
  have hk7 : gK (sNew (sV S3 6 this 7 r2) q5 1 0) this = 6 := b_old hk4 hq6 (by decide)
  have hk8 : gK (sNew (sV S3 6 this 7 r2) q5 1 0) q5 = 1 := if_pos rfl
  have hcu : (0 + 1) + (MC - 1) ≤ MC := by omega
  have hsu : (0 + 3) + (MS - 3) ≤ MS := by omega
  refine lv_dup hx hb dX4_init_52 rfl ?_
  have h1 := h
  refine va_callv (va_runI (As := []) (rest := [.ref q5, .ref this]) ⟨hx, hb, hml, hown, hts⟩ (m_Jx4a65c_init_da8c8 (l := l) h1) (cwI 0 hts gX4_init_Jx4a65c_init_da8c8 rfl rfl rfl (hts (.initialized RJx4a65c) (by decide +kernel)) (hts (.methodLink RX4 40 yJx4a65c_init_da8c8) (by decide +kernel)) (hts (.instanceMethod yJx4a65c_init_da8c8) (by decide +kernel)) rfl (by decide +kernel) ⟨Nat.le_trans (Nat.le_of_ble_eq_true rfl) hRf, Nat.le_trans (Nat.le_of_ble_eq_true rfl) hRl⟩) (r_pS hB hw hS) rfl rfl hl.1 rfl (lv_room (Nat.le_of_ble_eq_true rfl)) dX4_init_53 ⟨by omega, by omega⟩) hS (fun _ _ h => h) (fun _ h => h) (fun S10 t H1 locs ht _ h hw1 _ _ hS => ?_)
  subst ht
  have hw : wd D y z S10 A t.heap := hw1
  clear hw1 h1
  obtain ⟨hk11, h⟩ := h
  refine r_putQF (κ := 6) (ci := 5) (C := RX4) (T := TX4) (N := 11) (ty := (tyX4 5)) (x := (some q5)) hx hb hts hiX4 tyX4 tyX4_ok nmX4 hown hK hw hS (ce_6 (S := S10) hk11) rfl 5 (by decide) (hts (.fieldLink RX4 41 "TubePost$Tube" "inside" "Ljava/util/ArrayList;") (by decide +kernel)) (fun _ h9 => h9) rfl hin rfl (by decide +kernel) rfl rfl (Nat.le_of_ble_eq_true rfl) (pu_6_5 (S := S10) hk11) dX4_init_56 (fun H locs hw hS => ?_)
  refine lv_aload_n hx hb dX4_init_59 rfl (lv_at hl 0 rfl) ?_
  refine lv_iconst (v := (1 : Int32)) hx hb dX4_init_60 (by decide) ?_
  refine r_putI (κ := 6) (ci := 5) (C := RX4) (T := TX4) (N := 11) (ty := .boolean) (x := (1 : Int32)) hx hb hts hiX4 tyX4 tyX4_ok nmX4 hown hK hw hS (ce_6 (S := (sQ S10 6 this 5 (some q5))) hk11) rfl 8 (by decide) (hts (.fieldLink RX4 45 "TubePost$Tube" "isOpen" "Z") (by decide +kernel)) (fun _ h9 => h9) rfl (by decide +kernel) rfl rfl (Nat.le_of_ble_eq_true rfl) (pu_6_8 (S := (sQ S10 6 this 5 (some q5))) hk11) dX4_init_61 (fun H locs hw hS => ?_)
  refine lv_aload_n hx hb dX4_init_64 rfl (lv_at hl 0 rfl) ?_
  refine lv_iconst (v := (0 : Int32)) hx hb dX4_init_65 (by decide) ?_
  refine r_putI (κ := 6) (ci := 5) (C := RX4) (T := TX4) (N := 11) (ty := .int) (x := (0 : Int32)) hx hb hts hiX4 tyX4 tyX4_ok nmX4 hown hK hw hS (ce_6 (S := (sV (sQ S10 6 this 5 (some q5)) 6 this 8 (1 : Int32))) hk11) rfl 9 (by decide) (hts (.fieldLink RX4 49 "TubePost$Tube" "entered" "I") (by decide +kernel)) (fun _ h9 => h9) rfl (by decide +kernel) rfl rfl (Nat.le_of_ble_eq_true rfl) (pu_6_9 (S := (sV (sQ S10 6 this 5 (some q5)) 6 this 8 (1 : Int32))) hk11) dX4_init_66 (fun H locs hw hS => ?_)
  refine lv_aload_n hx hb dX4_init_69 rfl (lv_at hl 0 rfl) ?_
  refine lv_iconst (v := (0 : Int32)) hx hb dX4_init_70 (by decide) ?_
  refine r_putI (κ := 6) (ci := 5) (C := RX4) (T := TX4) (N := 11) (ty := .int) (x := (0 : Int32)) hx hb hts hiX4 tyX4 tyX4_ok nmX4 hown hK hw hS (ce_6 (S := (sV (sV (sQ S10 6 this 5 (some q5)) 6 this 8 (1 : Int32)) 6 this 9 (0 : Int32))) hk11) rfl 10 (by decide) (hts (.fieldLink RX4 52 "TubePost$Tube" "lastEntryAt" "I") (by decide +kernel)) (fun _ h9 => h9) rfl (by decide +kernel) rfl rfl (Nat.le_of_ble_eq_true rfl) (pu_6_10 (S := (sV (sV (sQ S10 6 this 5 (some q5)) 6 this 8 (1 : Int32)) 6 this 9 (0 : Int32))) hk11) dX4_init_71 (fun H locs hw hS => ?_)
  exact hret _ _ _ _ _ _ _ h hw hS (by omega) (by omega) dX4_init_74
def wp_X2_lay (post : Int32 → bS → Prop) (MC MS : Nat) (this : Nat) (p1 : Nat) (p2 : Nat) (p3 : Int32) (p4 : Int32) (p5 : Int32) (S : bS) : Prop := 1 ≤ MC ∧ 11 ≤ MS ∧ (∀ q1, gK S q1 = 0 → (gK (sNew S q1 6 0) this = 4 ∧ (∃ b5, gQ (sNew S q1 6 0) 4 this 1 = some b5 ∧ (gK (sNew S q1 6 0) b5 = 1 ∧ (wp_Jx4a65c_size_8abf5 (fun r8 S9 => ∃ k12 n13, k12 ≤ (MC - 1) ∧ n13 ≤ (MS - 11) ∧ (wp_X4_init (fun S11 => gK S11 this = 4 ∧ (∃ b15, gQ S11 4 this 1 = some b15 ∧ (gK S11 b15 = 1 ∧ (∃ k20 n21, k20 ≤ ((MC - 1) - k12) ∧ n21 ≤ ((MS - 11) - n13) ∧ (wp_Jx4a65c_add_9ea2d (fun r18 S19 => gK S19 p1 = 5 ∧ (∃ b23, gQ S19 5 p1 3 = some b23 ∧ (gK S19 b23 = 1 ∧ (∃ k28 n29, k28 ≤ (((MC - 1) - k12) - k20) ∧ n29 ≤ (((MS - 11) - n13) - n21) ∧ (wp_Jx4a65c_add_9ea2d (fun r26 S27 => gK S27 this = 4 ∧ (wp_X2_forgetTimes (fun S32 => gK S32 q1 = 6 ∧ (post (gV S32 6 q1 0) S32)) this S27)) k28 n29 b23 q1 S19))))) k20 n21 b15 q1 S11))))) k12 n13 q1 r8 p1 p2 p3 p4 p5 S9)) b5 (sNew S q1 6 0))))))
set_option maxHeartbeats 4000000 in
set_option maxRecDepth 100000 in
theorem m_X2_lay {l : Launch} {D : va_G} {y : Nat → ClassId} {z : Nat} {A : Nat → Prop} {S : bS} {post : Int32 → bS → Prop} {MC MS : Nat} {this : Nat} {p1 : Nat} {p2 : Nat} {p3 : Int32} {p4 : Int32} {p5 : Int32} (h : wp_X2_lay post MC MS this p1 p2 p3 p4 p5 S) : Met l yX2_lay wsX2_lay ({ frames := 7, cells := MC, slots := MS, locals := 191 } : Room) (va_Pc ([Value.ref this, Value.ref p1, Value.ref p2, Value.int p3, Value.int p4, Value.int p5] : List Value) (bP D y z S A)) (va_Qi post (fun S' t => wd D y z S' A t.heap) A) MC MS A := by
  refine Met.ofW (cc := cX2_lay) (maxL := 7) (ret := (some .int)) (by decide) rfl ?_
  intro p e s m args below meth c s₁ B hml hv
  obtain ⟨rfl, hB⟩ := hv
  have hx := B.exec
  have hb := B.bytes
  have hr := B.returns
  have hts := atoms_spec (ws := wsX2_lay) B.pre
  have hown : s.vm.findClass RX2 = some m.cls := findClass_of_methodNamed B.named
  have hlocks := B.notSynchronized
  have hw : wd D y z S A s.heap := hB.1
  have hK : va_K D bCl (bT y) s := hB.2.1
  have hNw := hB.2.2.1
  have hAn : ∀ q : Nat, s.heap.size ≤ q → A q := hB.2.2.2.1
  have hAz : ¬ A z := hB.2.2.2.2.1
  have hO := hB.2.2.2.2.2.1
  have hS : va_S A s.heap s.heap [] := va_S.rf
  have hiX2 : ∀ w ∈ u_ws RX2 TX2 2, w ∈ wsX2_lay := by decide +kernel
  have hiX3 : ∀ w ∈ u_ws RX3 TX3 10, w ∈ wsX2_lay := by decide +kernel
  have hiX4 : ∀ w ∈ u_ws RX4 TX4 11, w ∈ wsX2_lay := by decide +kernel
  have hl := lv_entry ([Value.ref this, Value.ref p1, Value.ref p2, Value.int p3, Value.int p4, Value.int p5] : List Value) (n := 7) (Nat.le_of_ble_eq_true rfl)
  rw [lg_entry_eq]
  generalize (lg_sl ([Value.ref this, Value.ref p1, Value.ref p2, Value.int p3, Value.int p4, Value.int p5] : List Value) ++ List.replicate (7 - (lg_sl ([Value.ref this, Value.ref p1, Value.ref p2, Value.int p3, Value.int p4, Value.int p5] : List Value)).length) Slot.unset).toArray = ls at hl ⊢
  have hl : lv_has ls 7 [(0, .ref this), (1, .ref p1), (2, .ref p2), (3, .int p3), (4, .int p4), (5, .int p5)] := hl
  obtain ⟨Q, hQ⟩ : ∃ Q, Q = MQ below (va_Qi post (fun S' t => wd D y z S' A t.heap) A) (([Value.ref this, Value.ref p1, Value.ref p2, Value.int p3, Value.int p4, Value.int p5] : List Value).toArray) s MC MS A := ⟨_, rfl⟩
  rw [← hQ]
  generalize hR : (headSpec wsX2_lay ({ frames := 7, cells := MC, slots := MS, locals := 191 } : Room)).room = R
  have hRf : 7 ≤ R.frames := by rw [← hR]; exact Nat.le_refl _
  have hRl : 191 ≤ R.locals := by rw [← hR]; exact Nat.le_refl _
  have hRc : R.cells = MC := by rw [← hR]; rfl
  have hRs : R.slots = MS := by rw [← hR]; rfl
  have hret : ∀ (v : Int32) (S : bS) (H : Heap) (locs : List Loc) (pc : Nat) (ls : Array Slot) (cu su : Nat) , post v S → wd D y z S A H → va_S A s.heap H locs → cu ≤ MC → su ≤ MS → decode cX2_lay pc = .ok (.ireturn, 1) → W p l e R s m (([Value.ref this, Value.ref p1, Value.ref p2, Value.int p3, Value.int p4, Value.int p5] : List Value).toArray) below meth c H locs cu su Q (F0 m pc ls [.int v]) := by
    intro v S H locs pc ls cu su h hw hS hcu hsu d0
    rw [hQ]; refine W.widen hcu hsu ?_; exact W.iret hx hb hr (fun t ht hW => ⟨⟨v, S, rfl, h, by show wd D y z S A t.heap; rw [ht]; exact hw⟩, hS.F ht⟩) hS.2.2 d0 hlocks
  unfold wp_X2_lay at h
  have hcu : 0 + MC ≤ MC := by omega
  have hsu : 0 + MS ≤ MS := by omega
  obtain ⟨hbg1, hbg2, h⟩ := h
  refine r_new (ci := 5) (C := RX4) (T := TX4) (N := 11) (κ := 6) (nn := 0) hx hb hts hiX4 tyX4 tyX4_ok hown (hts (.classLink RX2 37 RX4) (by decide +kernel)) (hts (.instantiable RX4 11) (by decide +kernel)) (hts (.initialized RX4) (by decide +kernel)) hK hw hS hAn hAz rfl pn_6 (by decide) b_fs6 (by omega) (by omega) dX2_lay_0 (fun q1 H hq2 hw hS => ?_)
  have h := h q1 hq2
  have hk3 : gK (sNew S q1 6 0) q1 = 6 := if_pos rfl
  have hcu : (0 + 1) + (MC - 1) ≤ MC := by omega
  have hsu : (0 + 11) + (MS - 11) ≤ MS := by omega
  refine lv_dup hx hb dX2_lay_3 rfl ?_
  refine lv_aload_n hx hb dX2_lay_4 rfl (lv_at hl 0 rfl) ?_
  obtain ⟨hk4, h⟩ := h
  obtain ⟨b5, hb6, h⟩ := h
  refine r_get (ci := 3) (v := .ref b5) (C := RX2) (T := TX2) (N := 2) hx hb hts hiX2 hown hK hw (ce_4 (S := (sNew S q1 6 0)) hk4) rfl 1 (by decide) (hts (.fieldLink RX2 18 "TubePost$Net" "tubes" "Ljava/util/ArrayList;") (by decide +kernel)) (fun _ h9 => h9) (congrArg (fun q => some (va_rf q)) hb6) dX2_lay_5 ?_
  obtain ⟨hk7, h⟩ := h
  have h1 := h
  refine va_calli (va_runV (As := []) (rest := [.ref q1, .ref q1]) ⟨hx, hb, hml, hown, hts⟩ (m_Jx4a65c_size_8abf5 (l := l) h1) (cwV 0 hts gX2_lay_Jx4a65c_size_8abf5 rfl rfl rfl (by decide +kernel) ⟨Nat.le_trans (Nat.le_of_ble_eq_true rfl) hRf, Nat.le_trans (Nat.le_of_ble_eq_true rfl) hRl⟩) (r_pV hB hw hS (ce_1 (S := (sNew S q1 6 0)) hk7) rfl) rfl rfl hl.1 rfl (lv_room (Nat.le_of_ble_eq_true rfl)) dX2_lay_8 ⟨by omega, by omega⟩) hS (fun _ _ h => h) (fun _ h => h) (fun r8 S9 t H1 locs ht _ h hw1 _ _ hS => ?_)
  subst ht
  have hw : wd D y z S9 A t.heap := hw1
  clear hw1 h1
  refine lv_aload_n hx hb dX2_lay_11 rfl (lv_at hl 1 rfl) ?_
  refine lv_aload_n hx hb dX2_lay_12 rfl (lv_at hl 2 rfl) ?_
  refine lv_iload_n hx hb dX2_lay_13 rfl (lv_at hl 3 rfl) ?_
  refine lv_iload hx hb dX2_lay_14 (lv_at hl 4 rfl) ?_
  refine lv_iload hx hb dX2_lay_16 (lv_at hl 5 rfl) ?_
  obtain ⟨k12, n13, hbg1, hbg2, h⟩ := h
  have h1 := h
  refine va_callv (va_runIN (As := [.int r8, .ref p1, .ref p2, .int p3, .int p4, .int p5]) (rest := [.ref q1]) ⟨hx, hb, hml, hown, hts⟩ (m_X4_init (l := l) h1) ⟨va_cnB 6 hts gX2_lay_X4_init_n39 rfl rfl rfl (hNw _ bNw_64) (hts (.initialized RX4) (by decide +kernel)) ⟨by decide +kernel, by decide +kernel, by decide +kernel⟩ ⟨Nat.le_trans (Nat.le_of_ble_eq_true rfl) hRf, Nat.le_trans (Nat.le_of_ble_eq_true rfl) hRl⟩, rfl, (hts (.instanceMethod yX4_init) (by decide +kernel))⟩ (r_pS hB hw hS) rfl rfl hl.1 rfl (lv_room (Nat.le_of_ble_eq_true rfl)) dX2_lay_18 ⟨by omega, by omega⟩) hS (fun _ _ h => h) (fun _ h => h) (fun S11 t H1 locs ht _ h hw1 _ _ hS => ?_)
  subst ht
  have hw : wd D y z S11 A t.heap := hw1
  clear hw1 h1
  have hcu : ((0 + 1) + k12) + ((MC - 1) - k12) ≤ MC := by omega
  have hsu : ((0 + 11) + n13) + ((MS - 11) - n13) ≤ MS := by omega
  refine lv_astore hx hb dX2_lay_21 hl (by decide) rfl (fun ls hl => ?_)
  have hl : lv_has ls 7 [(6, .ref q1), (0, .ref this), (1, .ref p1), (2, .ref p2), (3, .int p3), (4, .int p4), (5, .int p5)] := hl
  refine lv_aload_n hx hb dX2_lay_23 rfl (lv_at hl 1 rfl) ?_
  obtain ⟨hk14, h⟩ := h
  obtain ⟨b15, hb16, h⟩ := h
  refine r_get (ci := 3) (v := .ref b15) (C := RX2) (T := TX2) (N := 2) hx hb hts hiX2 hown hK hw (ce_4 (S := S11) hk14) rfl 1 (by decide) (hts (.fieldLink RX2 18 "TubePost$Net" "tubes" "Ljava/util/ArrayList;") (by decide +kernel)) (fun _ h9 => h9) (congrArg (fun q => some (va_rf q)) hb16) dX2_lay_24 ?_
  refine lv_aload hx hb dX2_lay_27 (lv_at hl 0 rfl) ?_
  obtain ⟨hk17, h⟩ := h
  obtain ⟨k20, n21, hbg1, hbg2, h⟩ := h
  have h1 := h
  refine va_calli (va_runV (As := [.ref q1]) (rest := []) ⟨hx, hb, hml, hown, hts⟩ (m_Jx4a65c_add_9ea2d (l := l) h1) (cwV 1 hts gX2_lay_Jx4a65c_add_9ea2d rfl rfl rfl (by decide +kernel) ⟨Nat.le_trans (Nat.le_of_ble_eq_true rfl) hRf, Nat.le_trans (Nat.le_of_ble_eq_true rfl) hRl⟩) (r_pV hB hw hS (ce_1 (S := S11) hk17) rfl) rfl rfl hl.1 rfl (lv_room (Nat.le_of_ble_eq_true rfl)) dX2_lay_29 ⟨by omega, by omega⟩) hS (fun _ _ h => h) (fun _ h => h) (fun r18 S19 t H1 locs ht _ h hw1 _ _ hS => ?_)
  subst ht
  have hw : wd D y z S19 A t.heap := hw1
  clear hw1 h1
  have hcu : (((0 + 1) + k12) + k20) + (((MC - 1) - k12) - k20) ≤ MC := by omega
  have hsu : (((0 + 11) + n13) + n21) + (((MS - 11) - n13) - n21) ≤ MS := by omega
  refine lv_pop hx hb dX2_lay_32 rfl ?_
  refine lv_aload_n hx hb dX2_lay_33 rfl (lv_at hl 2 rfl) ?_
  obtain ⟨hk22, h⟩ := h
  obtain ⟨b23, hb24, h⟩ := h
  refine r_getN (ci := 4) (v := .ref b23) (C := RX3) (T := TX3) (N := 10) hx hb hts hiX3 hown hK hw (ce_5 (S := S19) hk22) rfl 3 (by decide) (hNw _ (bNw_34)) (fun _ h9 => h9) (congrArg (fun q => some (va_rf q)) hb24) dX2_lay_34 ?_
  refine lv_aload hx hb dX2_lay_37 (lv_at hl 0 rfl) ?_
  obtain ⟨hk25, h⟩ := h
  obtain ⟨k28, n29, hbg1, hbg2, h⟩ := h
  have h1 := h
  refine va_calli (va_runV (As := [.ref q1]) (rest := []) ⟨hx, hb, hml, hown, hts⟩ (m_Jx4a65c_add_9ea2d (l := l) h1) (cwV 1 hts gX2_lay_Jx4a65c_add_9ea2d rfl rfl rfl (by decide +kernel) ⟨Nat.le_trans (Nat.le_of_ble_eq_true rfl) hRf, Nat.le_trans (Nat.le_of_ble_eq_true rfl) hRl⟩) (r_pV hB hw hS (ce_1 (S := S19) hk25) rfl) rfl rfl hl.1 rfl (lv_room (Nat.le_of_ble_eq_true rfl)) dX2_lay_39 ⟨by omega, by omega⟩) hS (fun _ _ h => h) (fun _ h => h) (fun r26 S27 t H1 locs ht _ h hw1 _ _ hS => ?_)
  subst ht
  have hw : wd D y z S27 A t.heap := hw1
  clear hw1 h1
  have hcu : ((((0 + 1) + k12) + k20) + k28) + ((((MC - 1) - k12) - k20) - k28) ≤ MC := by omega
  have hsu : ((((0 + 11) + n13) + n21) + n29) + ((((MS - 11) - n13) - n21) - n29) ≤ MS := by omega
  refine lv_pop hx hb dX2_lay_42 rfl ?_
  refine lv_aload_n hx hb dX2_lay_43 rfl (lv_at hl 1 rfl) ?_
  obtain ⟨hk30, h⟩ := h
  have h1 := h
  refine va_callv (va_runV (As := []) (rest := []) ⟨hx, hb, hml, hown, hts⟩ (m_X2_forgetTimes (l := l) h1) (cwV 0 hts gX2_lay_X2_forgetTimes rfl rfl rfl (by decide +kernel) ⟨Nat.le_trans (Nat.le_of_ble_eq_true rfl) hRf, Nat.le_trans (Nat.le_of_ble_eq_true rfl) hRl⟩) (r_pV hB hw hS (ce_4 (S := S27) hk30) rfl) rfl rfl hl.1 rfl (lv_room (Nat.le_of_ble_eq_true rfl)) dX2_lay_44 ⟨by omega, by omega⟩) hS (fun _ _ h => h) (fun _ h => h) (fun S32 t H1 locs ht _ h hw1 _ _ hS => ?_)
  subst ht
  have hw : wd D y z S32 A t.heap := hw1
  clear hw1 h1
  refine lv_aload hx hb dX2_lay_47 (lv_at hl 0 rfl) ?_
  obtain ⟨hk33, h⟩ := h
  refine r_getN (ci := 5) (v := .int (gV S32 6 q1 0)) (C := RX4) (T := TX4) (N := 11) hx hb hts hiX4 hown hK hw (ce_6 (S := S32) hk33) rfl 0 (by decide) (hNw _ (bNw_35)) (fun _ h9 => h9) rfl dX2_lay_49 ?_
  exact hret (gV S32 6 q1 0) _ _ _ _ _ _ _ h hw hS (by omega) (by omega) dX2_lay_52
def wb_X2_hasStation_20 (post : Int32 → bS → Prop) (s0 : Int32) (S : bS) : Prop := (s0 = 0 ∨ s0 = 1) ∧ post s0 S
def wb_X2_hasStation_19 (post : Int32 → bS → Prop) (S : bS) : Prop := wb_X2_hasStation_20 post (0 : Int32) S
def wp_X2_hasStation (post : Int32 → bS → Prop) (this : Nat) (p1 : Int32) (S : bS) : Prop := (p1 < (0 : Int32) → wb_X2_hasStation_19 post S) ∧ (¬ (p1 < (0 : Int32)) → gK S this = 4 ∧ (∃ b2, gQ S 4 this 0 = some b2 ∧ (gK S b2 = 1 ∧ (wp_Jx4a65c_size_8abf5 (fun r5 S6 => (r5 ≤ p1 → wb_X2_hasStation_19 post S6) ∧ (¬ (r5 ≤ p1) → wb_X2_hasStation_20 post (1 : Int32) S6)) b2 S))))
set_option maxHeartbeats 4000000 in
set_option maxRecDepth 100000 in
theorem m_X2_hasStation {l : Launch} {D : va_G} {y : Nat → ClassId} {z : Nat} {A : Nat → Prop} {S : bS} {post : Int32 → bS → Prop} {this : Nat} {p1 : Int32} (h : wp_X2_hasStation post this p1 S) : Met l yX2_hasStation wsX2_hasStation ({ frames := 1, cells := 0, slots := 0, locals := 20 } : Room) (va_Pc ([Value.ref this, Value.int p1] : List Value) (bP D y z S A)) (va_Qi post (fun S' t => wd D y z S' A t.heap) A) 0 0 A := by
  refine Met.ofW (cc := cX2_hasStation) (maxL := 2) (ret := (some .boolean)) (by decide) rfl ?_
  intro p e s m args below meth c s₁ B hml hv
  obtain ⟨rfl, hB⟩ := hv
  have hx := B.exec
  have hb := B.bytes
  have hr := B.returns
  have hts := atoms_spec (ws := wsX2_hasStation) B.pre
  have hown : s.vm.findClass RX2 = some m.cls := findClass_of_methodNamed B.named
  have hlocks := B.notSynchronized
  have hw : wd D y z S A s.heap := hB.1
  have hK : va_K D bCl (bT y) s := hB.2.1
  have hNw := hB.2.2.1
  have hAn : ∀ q : Nat, s.heap.size ≤ q → A q := hB.2.2.2.1
  have hAz : ¬ A z := hB.2.2.2.2.1
  have hO := hB.2.2.2.2.2.1
  have hS : va_S A s.heap s.heap [] := va_S.rf
  have hiX2 : ∀ w ∈ u_ws RX2 TX2 2, w ∈ wsX2_hasStation := by decide +kernel
  have hl := lv_entry ([Value.ref this, Value.int p1] : List Value) (n := 2) (Nat.le_of_ble_eq_true rfl)
  rw [lg_entry_eq]
  generalize (lg_sl ([Value.ref this, Value.int p1] : List Value) ++ List.replicate (2 - (lg_sl ([Value.ref this, Value.int p1] : List Value)).length) Slot.unset).toArray = ls at hl ⊢
  have hl : lv_has ls 2 [(0, .ref this), (1, .int p1)] := hl
  obtain ⟨Q, hQ⟩ : ∃ Q, Q = MQ below (va_Qi post (fun S' t => wd D y z S' A t.heap) A) (([Value.ref this, Value.int p1] : List Value).toArray) s 0 0 A := ⟨_, rfl⟩
  rw [← hQ]
  generalize hR : (headSpec wsX2_hasStation ({ frames := 1, cells := 0, slots := 0, locals := 20 } : Room)).room = R
  have hRf : 1 ≤ R.frames := by rw [← hR]; exact Nat.le_refl _
  have hRl : 20 ≤ R.locals := by rw [← hR]; exact Nat.le_refl _
  have hret : ∀ (v : Int32) (S : bS) (H : Heap) (locs : List Loc) (pc : Nat) (ls : Array Slot) , (v = 0 ∨ v = 1) → post v S → wd D y z S A H → va_S A s.heap H locs → decode cX2_hasStation pc = .ok (.ireturn, 1) → W p l e R s m (([Value.ref this, Value.int p1] : List Value).toArray) below meth c H locs 0 0 Q (F0 m pc ls [.int v]) := by
    intro v S H locs pc ls hz h hw hS d0
    rw [hQ]; exact W.zret hx hb hr (b_nz hz) (fun t ht hW => ⟨⟨v, S, rfl, h, by show wd D y z S A t.heap; rw [ht]; exact hw⟩, hS.F ht⟩) hS.2.2 d0 hlocks
  have hB20 : ∀ (S : bS) (H : Heap) (locs : List Loc) (ls : Array Slot) (s0 : Int32), wb_X2_hasStation_20 post s0 S → wd D y z S A H → va_S A s.heap H locs → lv_has ls 2 [] → W p l e R s m (([Value.ref this, Value.int p1] : List Value).toArray) below meth c H locs 0 0 Q (F0 m 20 ls [.int s0]) := by
    intro S H locs ls s0 h hw hS hl
    unfold wb_X2_hasStation_20 at h
    obtain ⟨hz, h⟩ := h
    exact hret _ _ _ _ _ _ hz h hw hS dX2_hasStation_20
  have hB19 : ∀ (S : bS) (H : Heap) (locs : List Loc) (ls : Array Slot) , wb_X2_hasStation_19 post S → wd D y z S A H → va_S A s.heap H locs → lv_has ls 2 [] → W p l e R s m (([Value.ref this, Value.int p1] : List Value).toArray) below meth c H locs 0 0 Q (F0 m 19 ls []) := by
    intro S H locs ls  h hw hS hl
    unfold wb_X2_hasStation_19 at h
    refine lv_iconst (v := (0 : Int32)) hx hb dX2_hasStation_19 (by decide) ?_
    exact hB20 _ _ _ _ _ h hw hS (lv_sub hl [] rfl)
  unfold wp_X2_hasStation at h
  refine lv_iload_n hx hb dX2_hasStation_0 rfl (lv_at hl 1 rfl) ?_
  refine lv_if_lt (tgt := 19) hx hb dX2_hasStation_1 (by decide) (fun hc => ?_) (fun hc => ?_)
  · have h := h.1 hc
    exact hB19 _ _ _ _ h hw hS (lv_sub hl [] rfl)
  · have h := h.2 hc
    refine lv_iload_n hx hb dX2_hasStation_4 rfl (lv_at hl 1 rfl) ?_
    refine lv_aload_n hx hb dX2_hasStation_5 rfl (lv_at hl 0 rfl) ?_
    obtain ⟨hk1, h⟩ := h
    obtain ⟨b2, hb3, h⟩ := h
    refine r_get (ci := 3) (v := .ref b2) (C := RX2) (T := TX2) (N := 2) hx hb hts hiX2 hown hK hw (ce_4 (S := S) hk1) rfl 0 (by decide) (hts (.fieldLink RX2 12 "TubePost$Net" "stations" "Ljava/util/ArrayList;") (by decide +kernel)) (fun _ h9 => h9) (congrArg (fun q => some (va_rf q)) hb3) dX2_hasStation_6 ?_
    obtain ⟨hk4, h⟩ := h
    have h1 := h
    refine va_calli (va_runV (As := []) (rest := [.int p1]) ⟨hx, hb, hml, hown, hts⟩ (m_Jx4a65c_size_8abf5 (l := l) h1) (cwV 0 hts gX2_hasStation_Jx4a65c_size_8abf5 rfl rfl rfl (by decide +kernel) ⟨Nat.le_trans (Nat.le_of_ble_eq_true rfl) hRf, Nat.le_trans (Nat.le_of_ble_eq_true rfl) hRl⟩) (r_pV hB hw hS (ce_1 (S := S) hk4) rfl) rfl rfl hl.1 rfl (lv_room (Nat.le_of_ble_eq_true rfl)) dX2_hasStation_9 ⟨Nat.zero_le _, Nat.zero_le _⟩) hS (fun _ _ h => h) (fun _ h => h) (fun r5 S6 t H1 locs ht _ h hw1 _ _ hS => ?_)
    subst ht
    have hw : wd D y z S6 A t.heap := hw1
    clear hw1 h1
    refine lv_icmp_ge (tgt := 19) hx hb dX2_hasStation_12 (by decide) (fun hc => ?_) (fun hc => ?_)
    · have h := h.1 hc
      exact hB19 _ _ _ _ h hw hS (lv_sub hl [] rfl)
    · have h := h.2 hc
      refine lv_iconst (v := (1 : Int32)) hx hb dX2_hasStation_15 (by decide) ?_
      refine lv_goto (tgt := 20) hx hb dX2_hasStation_16 (by decide) ?_
      exact hB20 _ _ _ _ _ h hw hS (lv_sub hl [] rfl)
def wb_X2_hasTube_20 (post : Int32 → bS → Prop) (s0 : Int32) (S : bS) : Prop := (s0 = 0 ∨ s0 = 1) ∧ post s0 S
def wb_X2_hasTube_19 (post : Int32 → bS → Prop) (S : bS) : Prop := wb_X2_hasTube_20 post (0 : Int32) S
def wp_X2_hasTube (post : Int32 → bS → Prop) (this : Nat) (p1 : Int32) (S : bS) : Prop := (p1 < (0 : Int32) → wb_X2_hasTube_19 post S) ∧ (¬ (p1 < (0 : Int32)) → gK S this = 4 ∧ (∃ b2, gQ S 4 this 1 = some b2 ∧ (gK S b2 = 1 ∧ (wp_Jx4a65c_size_8abf5 (fun r5 S6 => (r5 ≤ p1 → wb_X2_hasTube_19 post S6) ∧ (¬ (r5 ≤ p1) → wb_X2_hasTube_20 post (1 : Int32) S6)) b2 S))))
set_option maxHeartbeats 4000000 in
set_option maxRecDepth 100000 in
theorem m_X2_hasTube {l : Launch} {D : va_G} {y : Nat → ClassId} {z : Nat} {A : Nat → Prop} {S : bS} {post : Int32 → bS → Prop} {this : Nat} {p1 : Int32} (h : wp_X2_hasTube post this p1 S) : Met l yX2_hasTube wsX2_hasTube ({ frames := 1, cells := 0, slots := 0, locals := 20 } : Room) (va_Pc ([Value.ref this, Value.int p1] : List Value) (bP D y z S A)) (va_Qi post (fun S' t => wd D y z S' A t.heap) A) 0 0 A := by
  refine Met.ofW (cc := cX2_hasTube) (maxL := 2) (ret := (some .boolean)) (by decide) rfl ?_
  intro p e s m args below meth c s₁ B hml hv
  obtain ⟨rfl, hB⟩ := hv
  have hx := B.exec
  have hb := B.bytes
  have hr := B.returns
  have hts := atoms_spec (ws := wsX2_hasTube) B.pre
  have hown : s.vm.findClass RX2 = some m.cls := findClass_of_methodNamed B.named
  have hlocks := B.notSynchronized
  have hw : wd D y z S A s.heap := hB.1
  have hK : va_K D bCl (bT y) s := hB.2.1
  have hNw := hB.2.2.1
  have hAn : ∀ q : Nat, s.heap.size ≤ q → A q := hB.2.2.2.1
  have hAz : ¬ A z := hB.2.2.2.2.1
  have hO := hB.2.2.2.2.2.1
  have hS : va_S A s.heap s.heap [] := va_S.rf
  have hiX2 : ∀ w ∈ u_ws RX2 TX2 2, w ∈ wsX2_hasTube := by decide +kernel
  have hl := lv_entry ([Value.ref this, Value.int p1] : List Value) (n := 2) (Nat.le_of_ble_eq_true rfl)
  rw [lg_entry_eq]
  generalize (lg_sl ([Value.ref this, Value.int p1] : List Value) ++ List.replicate (2 - (lg_sl ([Value.ref this, Value.int p1] : List Value)).length) Slot.unset).toArray = ls at hl ⊢
  have hl : lv_has ls 2 [(0, .ref this), (1, .int p1)] := hl
  obtain ⟨Q, hQ⟩ : ∃ Q, Q = MQ below (va_Qi post (fun S' t => wd D y z S' A t.heap) A) (([Value.ref this, Value.int p1] : List Value).toArray) s 0 0 A := ⟨_, rfl⟩
  rw [← hQ]
  generalize hR : (headSpec wsX2_hasTube ({ frames := 1, cells := 0, slots := 0, locals := 20 } : Room)).room = R
  have hRf : 1 ≤ R.frames := by rw [← hR]; exact Nat.le_refl _
  have hRl : 20 ≤ R.locals := by rw [← hR]; exact Nat.le_refl _
  have hret : ∀ (v : Int32) (S : bS) (H : Heap) (locs : List Loc) (pc : Nat) (ls : Array Slot) , (v = 0 ∨ v = 1) → post v S → wd D y z S A H → va_S A s.heap H locs → decode cX2_hasTube pc = .ok (.ireturn, 1) → W p l e R s m (([Value.ref this, Value.int p1] : List Value).toArray) below meth c H locs 0 0 Q (F0 m pc ls [.int v]) := by
    intro v S H locs pc ls hz h hw hS d0
    rw [hQ]; exact W.zret hx hb hr (b_nz hz) (fun t ht hW => ⟨⟨v, S, rfl, h, by show wd D y z S A t.heap; rw [ht]; exact hw⟩, hS.F ht⟩) hS.2.2 d0 hlocks
  have hB20 : ∀ (S : bS) (H : Heap) (locs : List Loc) (ls : Array Slot) (s0 : Int32), wb_X2_hasTube_20 post s0 S → wd D y z S A H → va_S A s.heap H locs → lv_has ls 2 [] → W p l e R s m (([Value.ref this, Value.int p1] : List Value).toArray) below meth c H locs 0 0 Q (F0 m 20 ls [.int s0]) := by
    intro S H locs ls s0 h hw hS hl
    unfold wb_X2_hasTube_20 at h
    obtain ⟨hz, h⟩ := h
    exact hret _ _ _ _ _ _ hz h hw hS dX2_hasTube_20
  have hB19 : ∀ (S : bS) (H : Heap) (locs : List Loc) (ls : Array Slot) , wb_X2_hasTube_19 post S → wd D y z S A H → va_S A s.heap H locs → lv_has ls 2 [] → W p l e R s m (([Value.ref this, Value.int p1] : List Value).toArray) below meth c H locs 0 0 Q (F0 m 19 ls []) := by
    intro S H locs ls  h hw hS hl
    unfold wb_X2_hasTube_19 at h
    refine lv_iconst (v := (0 : Int32)) hx hb dX2_hasTube_19 (by decide) ?_
    exact hB20 _ _ _ _ _ h hw hS (lv_sub hl [] rfl)
  unfold wp_X2_hasTube at h
  refine lv_iload_n hx hb dX2_hasTube_0 rfl (lv_at hl 1 rfl) ?_
  refine lv_if_lt (tgt := 19) hx hb dX2_hasTube_1 (by decide) (fun hc => ?_) (fun hc => ?_)
  · have h := h.1 hc
    exact hB19 _ _ _ _ h hw hS (lv_sub hl [] rfl)
  · have h := h.2 hc
    refine lv_iload_n hx hb dX2_hasTube_4 rfl (lv_at hl 1 rfl) ?_
    refine lv_aload_n hx hb dX2_hasTube_5 rfl (lv_at hl 0 rfl) ?_
    obtain ⟨hk1, h⟩ := h
    obtain ⟨b2, hb3, h⟩ := h
    refine r_get (ci := 3) (v := .ref b2) (C := RX2) (T := TX2) (N := 2) hx hb hts hiX2 hown hK hw (ce_4 (S := S) hk1) rfl 1 (by decide) (hts (.fieldLink RX2 18 "TubePost$Net" "tubes" "Ljava/util/ArrayList;") (by decide +kernel)) (fun _ h9 => h9) (congrArg (fun q => some (va_rf q)) hb3) dX2_hasTube_6 ?_
    obtain ⟨hk4, h⟩ := h
    have h1 := h
    refine va_calli (va_runV (As := []) (rest := [.int p1]) ⟨hx, hb, hml, hown, hts⟩ (m_Jx4a65c_size_8abf5 (l := l) h1) (cwV 0 hts gX2_hasTube_Jx4a65c_size_8abf5 rfl rfl rfl (by decide +kernel) ⟨Nat.le_trans (Nat.le_of_ble_eq_true rfl) hRf, Nat.le_trans (Nat.le_of_ble_eq_true rfl) hRl⟩) (r_pV hB hw hS (ce_1 (S := S) hk4) rfl) rfl rfl hl.1 rfl (lv_room (Nat.le_of_ble_eq_true rfl)) dX2_hasTube_9 ⟨Nat.zero_le _, Nat.zero_le _⟩) hS (fun _ _ h => h) (fun _ h => h) (fun r5 S6 t H1 locs ht _ h hw1 _ _ hS => ?_)
    subst ht
    have hw : wd D y z S6 A t.heap := hw1
    clear hw1 h1
    refine lv_icmp_ge (tgt := 19) hx hb dX2_hasTube_12 (by decide) (fun hc => ?_) (fun hc => ?_)
    · have h := h.1 hc
      exact hB19 _ _ _ _ h hw hS (lv_sub hl [] rfl)
    · have h := h.2 hc
      refine lv_iconst (v := (1 : Int32)) hx hb dX2_hasTube_15 (by decide) ?_
      refine lv_goto (tgt := 20) hx hb dX2_hasTube_16 (by decide) ?_
      exact hB20 _ _ _ _ _ h hw hS (lv_sub hl [] rfl)
def wb_X3_keepTimeFrom_25 (post : bS → Prop) (S : bS) : Prop := post S
def wp_X3_keepTimeFrom (post : bS → Prop) (this : Nat) (p1 : Nat) (p2 : Int32) (S : bS) : Prop := gK S p1 = 5 ∧ (((gV S 5 p1 0) < (0 : Int32) → wb_X3_keepTimeFrom_25 post S) ∧ (¬ ((gV S 5 p1 0) < (0 : Int32)) → gK S this = 5 ∧ (∃ b3, gQ S 5 this 5 = some b3 ∧ (gK S b3 = 9 ∧ (((Int32.ofNat (gN S b3)) ≤ (gV S 5 p1 0) → wb_X3_keepTimeFrom_25 post S) ∧ (¬ ((Int32.ofNat (gN S b3)) ≤ (gV S 5 p1 0)) → ∃ b6, gQ S 5 this 5 = some b6 ∧ (gK S b6 = 9 ∧ (vp_in (gV S 5 p1 0) (gN S b6) ∧ (wb_X3_keepTimeFrom_25 post (sV S 9 b6 (Int32.toNatClampNeg (gV S 5 p1 0)) p2))))))))))
set_option maxHeartbeats 4000000 in
set_option maxRecDepth 100000 in
theorem m_X3_keepTimeFrom {l : Launch} {D : va_G} {y : Nat → ClassId} {z : Nat} {A : Nat → Prop} {S : bS} {post : bS → Prop} {this : Nat} {p1 : Nat} {p2 : Int32} (h : wp_X3_keepTimeFrom post this p1 p2 S) : Met l yX3_keepTimeFrom wsX3_keepTimeFrom ({ frames := 0, cells := 0, slots := 0, locals := 0 } : Room) (va_Pc ([Value.ref this, Value.ref p1, Value.int p2] : List Value) (bP D y z S A)) (va_Qv post (fun S' t => wd D y z S' A t.heap) A) 0 0 A := by
  refine Met.ofW (cc := cX3_keepTimeFrom) (maxL := 4) (ret := none) (by decide) rfl ?_
  intro p e s m args below meth c s₁ B hml hv
  obtain ⟨rfl, hB⟩ := hv
  have hx := B.exec
  have hb := B.bytes
  have hr := B.returns
  have hts := atoms_spec (ws := wsX3_keepTimeFrom) B.pre
  have hown : s.vm.findClass RX3 = some m.cls := findClass_of_methodNamed B.named
  have hlocks := B.notSynchronized
  have hw : wd D y z S A s.heap := hB.1
  have hK : va_K D bCl (bT y) s := hB.2.1
  have hNw := hB.2.2.1
  have hAn : ∀ q : Nat, s.heap.size ≤ q → A q := hB.2.2.2.1
  have hAz : ¬ A z := hB.2.2.2.2.1
  have hO := hB.2.2.2.2.2.1
  have hS : va_S A s.heap s.heap [] := va_S.rf
  have hiX3 : ∀ w ∈ u_ws RX3 TX3 10, w ∈ wsX3_keepTimeFrom := by decide +kernel
  have hl := lv_entry ([Value.ref this, Value.ref p1, Value.int p2] : List Value) (n := 4) (Nat.le_of_ble_eq_true rfl)
  rw [lg_entry_eq]
  generalize (lg_sl ([Value.ref this, Value.ref p1, Value.int p2] : List Value) ++ List.replicate (4 - (lg_sl ([Value.ref this, Value.ref p1, Value.int p2] : List Value)).length) Slot.unset).toArray = ls at hl ⊢
  have hl : lv_has ls 4 [(0, .ref this), (1, .ref p1), (2, .int p2)] := hl
  obtain ⟨Q, hQ⟩ : ∃ Q, Q = MQ below (va_Qv post (fun S' t => wd D y z S' A t.heap) A) (([Value.ref this, Value.ref p1, Value.int p2] : List Value).toArray) s 0 0 A := ⟨_, rfl⟩
  rw [← hQ]
  generalize hR : (headSpec wsX3_keepTimeFrom ({ frames := 0, cells := 0, slots := 0, locals := 0 } : Room)).room = R
  have hRf : 0 ≤ R.frames := by rw [← hR]; exact Nat.le_refl _
  have hRl : 0 ≤ R.locals := by rw [← hR]; exact Nat.le_refl _
  have hret : ∀ (S : bS) (H : Heap) (locs : List Loc) (pc : Nat) (ls : Array Slot) , post S → wd D y z S A H → va_S A s.heap H locs → decode cX3_keepTimeFrom pc = .ok (.return_, 1) → W p l e R s m (([Value.ref this, Value.ref p1, Value.int p2] : List Value).toArray) below meth c H locs 0 0 Q (F0 m pc ls []) := by
    intro S H locs pc ls h hw hS d0
    rw [hQ]; exact W.vret hx hb hr (fun t ht hW => ⟨⟨S, rfl, h, by show wd D y z S A t.heap; rw [ht]; exact hw⟩, hS.F ht⟩) hS.2.2 d0 hlocks
  have hB25 : ∀ (S : bS) (H : Heap) (locs : List Loc) (ls : Array Slot) , wb_X3_keepTimeFrom_25 post S → wd D y z S A H → va_S A s.heap H locs → lv_has ls 4 [] → W p l e R s m (([Value.ref this, Value.ref p1, Value.int p2] : List Value).toArray) below meth c H locs 0 0 Q (F0 m 25 ls []) := by
    intro S H locs ls  h hw hS hl
    unfold wb_X3_keepTimeFrom_25 at h
    exact hret _ _ _ _ _ h hw hS dX3_keepTimeFrom_25
  unfold wp_X3_keepTimeFrom at h
  refine lv_aload_n hx hb dX3_keepTimeFrom_0 rfl (lv_at hl 1 rfl) ?_
  obtain ⟨hk1, h⟩ := h
  refine r_get (ci := 4) (v := .int (gV S 5 p1 0)) (C := RX3) (T := TX3) (N := 10) hx hb hts hiX3 hown hK hw (ce_5 (S := S) hk1) rfl 0 (by decide) (hts (.fieldLink RX3 9 "TubePost$Station" "number" "I") (by decide +kernel)) (fun _ h9 => h9) rfl dX3_keepTimeFrom_1 ?_
  refine lv_istore_n hx hb dX3_keepTimeFrom_4 rfl hl (by decide) rfl (fun ls hl => ?_)
  have hl : lv_has ls 4 [(3, .int (gV S 5 p1 0)), (0, .ref this), (1, .ref p1), (2, .int p2)] := hl
  refine lv_iload_n hx hb dX3_keepTimeFrom_5 rfl (lv_at hl 0 rfl) ?_
  refine lv_if_lt (tgt := 25) hx hb dX3_keepTimeFrom_6 (by decide) (fun hc => ?_) (fun hc => ?_)
  · have h := h.1 hc
    exact hB25 _ _ _ _ h hw hS (lv_sub hl [] rfl)
  · have h := h.2 hc
    refine lv_iload_n hx hb dX3_keepTimeFrom_9 rfl (lv_at hl 0 rfl) ?_
    refine lv_aload_n hx hb dX3_keepTimeFrom_10 rfl (lv_at hl 1 rfl) ?_
    obtain ⟨hk2, h⟩ := h
    obtain ⟨b3, hb4, h⟩ := h
    refine r_get (ci := 4) (v := .ref b3) (C := RX3) (T := TX3) (N := 10) hx hb hts hiX3 hown hK hw (ce_5 (S := S) hk2) rfl 5 (by decide) (hts (.fieldLink RX3 31 "TubePost$Station" "timesToHere" "[I") (by decide +kernel)) (fun _ h9 => h9) (congrArg (fun q => some (va_rf q)) hb4) dX3_keepTimeFrom_11 ?_
    obtain ⟨hk5, h⟩ := h
    refine r_alen hx hb hK hw (S := S) (by rw [show gK S b3 = 9 from hk5]; decide) rfl dX3_keepTimeFrom_14 ?_
    refine lv_icmp_ge (tgt := 25) hx hb dX3_keepTimeFrom_15 (by decide) (fun hc => ?_) (fun hc => ?_)
    · have h := h.1 hc
      exact hB25 _ _ _ _ h hw hS (lv_sub hl [] rfl)
    · have h := h.2 hc
      refine lv_aload_n hx hb dX3_keepTimeFrom_18 rfl (lv_at hl 1 rfl) ?_
      obtain ⟨b6, hb7, h⟩ := h
      refine r_get (ci := 4) (v := .ref b6) (C := RX3) (T := TX3) (N := 10) hx hb hts hiX3 hown hK hw (ce_5 (S := S) hk2) rfl 5 (by decide) (hts (.fieldLink RX3 31 "TubePost$Station" "timesToHere" "[I") (by decide +kernel)) (fun _ h9 => h9) (congrArg (fun q => some (va_rf q)) hb7) dX3_keepTimeFrom_19 ?_
      refine lv_iload_n hx hb dX3_keepTimeFrom_22 rfl (lv_at hl 0 rfl) ?_
      refine lv_iload_n hx hb dX3_keepTimeFrom_23 rfl (lv_at hl 3 rfl) ?_
      obtain ⟨hk8, h⟩ := h
      obtain ⟨hin9, h⟩ := h
      refine r_iast hx hb hK hw hS hk8 hin9 dX3_keepTimeFrom_24 (fun H locs hw hS => ?_)
      exact hB25 _ _ _ _ h hw hS (lv_sub hl [] rfl)
def wb_X3_timeFrom_29 (post : Int32 → bS → Prop) (s0 : Int32) (S : bS) : Prop := post s0 S
def wb_X3_timeFrom_27 (post : Int32 → bS → Prop) (S : bS) : Prop := wb_X3_timeFrom_29 post (1000000 : Int32) S
def wp_X3_timeFrom (post : Int32 → bS → Prop) (this : Nat) (p1 : Nat) (S : bS) : Prop := gK S p1 = 5 ∧ (((gV S 5 p1 0) < (0 : Int32) → wb_X3_timeFrom_27 post S) ∧ (¬ ((gV S 5 p1 0) < (0 : Int32)) → gK S this = 5 ∧ (∃ b3, gQ S 5 this 5 = some b3 ∧ (gK S b3 = 9 ∧ (((Int32.ofNat (gN S b3)) ≤ (gV S 5 p1 0) → wb_X3_timeFrom_27 post S) ∧ (¬ ((Int32.ofNat (gN S b3)) ≤ (gV S 5 p1 0)) → ∃ b6, gQ S 5 this 5 = some b6 ∧ (gK S b6 = 9 ∧ (vp_in (gV S 5 p1 0) (gN S b6) ∧ (wb_X3_timeFrom_29 post (gV S 9 b6 (Int32.toNatClampNeg (gV S 5 p1 0))) S)))))))))
set_option maxHeartbeats 4000000 in
set_option maxRecDepth 100000 in
theorem m_X3_timeFrom {l : Launch} {D : va_G} {y : Nat → ClassId} {z : Nat} {A : Nat → Prop} {S : bS} {post : Int32 → bS → Prop} {this : Nat} {p1 : Nat} (h : wp_X3_timeFrom post this p1 S) : Met l yX3_timeFrom wsX3_timeFrom ({ frames := 0, cells := 0, slots := 0, locals := 0 } : Room) (va_Pc ([Value.ref this, Value.ref p1] : List Value) (bP D y z S A)) (va_Qi post (fun S' t => wd D y z S' A t.heap) A) 0 0 A := by
  refine Met.ofW (cc := cX3_timeFrom) (maxL := 3) (ret := (some .int)) (by decide) rfl ?_
  intro p e s m args below meth c s₁ B hml hv
  obtain ⟨rfl, hB⟩ := hv
  have hx := B.exec
  have hb := B.bytes
  have hr := B.returns
  have hts := atoms_spec (ws := wsX3_timeFrom) B.pre
  have hown : s.vm.findClass RX3 = some m.cls := findClass_of_methodNamed B.named
  have hlocks := B.notSynchronized
  have hw : wd D y z S A s.heap := hB.1
  have hK : va_K D bCl (bT y) s := hB.2.1
  have hNw := hB.2.2.1
  have hAn : ∀ q : Nat, s.heap.size ≤ q → A q := hB.2.2.2.1
  have hAz : ¬ A z := hB.2.2.2.2.1
  have hO := hB.2.2.2.2.2.1
  have hS : va_S A s.heap s.heap [] := va_S.rf
  have hiX3 : ∀ w ∈ u_ws RX3 TX3 10, w ∈ wsX3_timeFrom := by decide +kernel
  have hl := lv_entry ([Value.ref this, Value.ref p1] : List Value) (n := 3) (Nat.le_of_ble_eq_true rfl)
  rw [lg_entry_eq]
  generalize (lg_sl ([Value.ref this, Value.ref p1] : List Value) ++ List.replicate (3 - (lg_sl ([Value.ref this, Value.ref p1] : List Value)).length) Slot.unset).toArray = ls at hl ⊢
  have hl : lv_has ls 3 [(0, .ref this), (1, .ref p1)] := hl
  obtain ⟨Q, hQ⟩ : ∃ Q, Q = MQ below (va_Qi post (fun S' t => wd D y z S' A t.heap) A) (([Value.ref this, Value.ref p1] : List Value).toArray) s 0 0 A := ⟨_, rfl⟩
  rw [← hQ]
  generalize hR : (headSpec wsX3_timeFrom ({ frames := 0, cells := 0, slots := 0, locals := 0 } : Room)).room = R
  have hRf : 0 ≤ R.frames := by rw [← hR]; exact Nat.le_refl _
  have hRl : 0 ≤ R.locals := by rw [← hR]; exact Nat.le_refl _
  have hret : ∀ (v : Int32) (S : bS) (H : Heap) (locs : List Loc) (pc : Nat) (ls : Array Slot) , post v S → wd D y z S A H → va_S A s.heap H locs → decode cX3_timeFrom pc = .ok (.ireturn, 1) → W p l e R s m (([Value.ref this, Value.ref p1] : List Value).toArray) below meth c H locs 0 0 Q (F0 m pc ls [.int v]) := by
    intro v S H locs pc ls h hw hS d0
    rw [hQ]; exact W.iret hx hb hr (fun t ht hW => ⟨⟨v, S, rfl, h, by show wd D y z S A t.heap; rw [ht]; exact hw⟩, hS.F ht⟩) hS.2.2 d0 hlocks
  have hB29 : ∀ (S : bS) (H : Heap) (locs : List Loc) (ls : Array Slot) (s0 : Int32), wb_X3_timeFrom_29 post s0 S → wd D y z S A H → va_S A s.heap H locs → lv_has ls 3 [] → W p l e R s m (([Value.ref this, Value.ref p1] : List Value).toArray) below meth c H locs 0 0 Q (F0 m 29 ls [.int s0]) := by
    intro S H locs ls s0 h hw hS hl
    unfold wb_X3_timeFrom_29 at h
    exact hret s0 _ _ _ _ _ h hw hS dX3_timeFrom_29
  have hB27 : ∀ (S : bS) (H : Heap) (locs : List Loc) (ls : Array Slot) , wb_X3_timeFrom_27 post S → wd D y z S A H → va_S A s.heap H locs → lv_has ls 3 [] → W p l e R s m (([Value.ref this, Value.ref p1] : List Value).toArray) below meth c H locs 0 0 Q (F0 m 27 ls []) := by
    intro S H locs ls  h hw hS hl
    unfold wb_X3_timeFrom_27 at h
    refine lv_ldc (v := (1000000 : Int32)) hx hb hown (hts (.constant RX3 65 (1000000 : Int32)) (by decide +kernel)) dX3_timeFrom_27 ?_
    exact hB29 _ _ _ _ _ h hw hS (lv_sub hl [] rfl)
  unfold wp_X3_timeFrom at h
  refine lv_aload_n hx hb dX3_timeFrom_0 rfl (lv_at hl 1 rfl) ?_
  obtain ⟨hk1, h⟩ := h
  refine r_get (ci := 4) (v := .int (gV S 5 p1 0)) (C := RX3) (T := TX3) (N := 10) hx hb hts hiX3 hown hK hw (ce_5 (S := S) hk1) rfl 0 (by decide) (hts (.fieldLink RX3 9 "TubePost$Station" "number" "I") (by decide +kernel)) (fun _ h9 => h9) rfl dX3_timeFrom_1 ?_
  refine lv_istore_n hx hb dX3_timeFrom_4 rfl hl (by decide) rfl (fun ls hl => ?_)
  have hl : lv_has ls 3 [(2, .int (gV S 5 p1 0)), (0, .ref this), (1, .ref p1)] := hl
  refine lv_iload_n hx hb dX3_timeFrom_5 rfl (lv_at hl 0 rfl) ?_
  refine lv_if_lt (tgt := 27) hx hb dX3_timeFrom_6 (by decide) (fun hc => ?_) (fun hc => ?_)
  · have h := h.1 hc
    exact hB27 _ _ _ _ h hw hS (lv_sub hl [] rfl)
  · have h := h.2 hc
    refine lv_iload_n hx hb dX3_timeFrom_9 rfl (lv_at hl 0 rfl) ?_
    refine lv_aload_n hx hb dX3_timeFrom_10 rfl (lv_at hl 1 rfl) ?_
    obtain ⟨hk2, h⟩ := h
    obtain ⟨b3, hb4, h⟩ := h
    refine r_get (ci := 4) (v := .ref b3) (C := RX3) (T := TX3) (N := 10) hx hb hts hiX3 hown hK hw (ce_5 (S := S) hk2) rfl 5 (by decide) (hts (.fieldLink RX3 31 "TubePost$Station" "timesToHere" "[I") (by decide +kernel)) (fun _ h9 => h9) (congrArg (fun q => some (va_rf q)) hb4) dX3_timeFrom_11 ?_
    obtain ⟨hk5, h⟩ := h
    refine r_alen hx hb hK hw (S := S) (by rw [show gK S b3 = 9 from hk5]; decide) rfl dX3_timeFrom_14 ?_
    refine lv_icmp_ge (tgt := 27) hx hb dX3_timeFrom_15 (by decide) (fun hc => ?_) (fun hc => ?_)
    · have h := h.1 hc
      exact hB27 _ _ _ _ h hw hS (lv_sub hl [] rfl)
    · have h := h.2 hc
      refine lv_aload_n hx hb dX3_timeFrom_18 rfl (lv_at hl 1 rfl) ?_
      obtain ⟨b6, hb7, h⟩ := h
      refine r_get (ci := 4) (v := .ref b6) (C := RX3) (T := TX3) (N := 10) hx hb hts hiX3 hown hK hw (ce_5 (S := S) hk2) rfl 5 (by decide) (hts (.fieldLink RX3 31 "TubePost$Station" "timesToHere" "[I") (by decide +kernel)) (fun _ h9 => h9) (congrArg (fun q => some (va_rf q)) hb7) dX3_timeFrom_19 ?_
      refine lv_iload_n hx hb dX3_timeFrom_22 rfl (lv_at hl 0 rfl) ?_
      obtain ⟨hk8, h⟩ := h
      obtain ⟨hin9, h⟩ := h
      refine r_iald hx hb hK hw hk8 hin9 dX3_timeFrom_23 ?_
      refine lv_goto (tgt := 29) hx hb dX3_timeFrom_24 (by decide) ?_
      exact hB29 _ _ _ _ _ h hw hS (lv_sub hl [] rfl)
def wb_X2_timeBy_13 (post : Int32 → bS → Prop) (S : bS) : Prop := post (1000000 : Int32) S
def wb_X2_timeBy_35 (post : Int32 → bS → Prop) (v0 : Nat) (v2 : Int32) (s0 : Int32) (S : bS) : Prop := gK S v0 = 6 ∧ (post (((gV S 6 v0 7) + s0) + v2) S)
def wp_X2_timeBy (post : Int32 → bS → Prop) (p1 : Nat) (p2 : Nat) (p3 : Int32) (S : bS) : Prop := gK S p1 = 6 ∧ (((gV S 6 p1 8) = (0 : Int32) → wb_X2_timeBy_13 post S) ∧ (¬ ((gV S 6 p1 8) = (0 : Int32)) → (p3 ≠ (1000000 : Int32) → ∃ b2, gQ S 6 p1 2 = some b2 ∧ (((some b2) ≠ (some p2) → ∃ b4, gQ S 6 p1 2 = some b4 ∧ (gK S b4 = 5 ∧ (wb_X2_timeBy_35 post p1 p3 (gV S 5 b4 2) S))) ∧ ((some b2) = (some p2) → wb_X2_timeBy_35 post p1 p3 (0 : Int32) S))) ∧ (p3 = (1000000 : Int32) → wb_X2_timeBy_13 post S)))
set_option maxHeartbeats 4000000 in
set_option maxRecDepth 100000 in
theorem m_X2_timeBy {l : Launch} {D : va_G} {y : Nat → ClassId} {z : Nat} {A : Nat → Prop} {S : bS} {post : Int32 → bS → Prop} {p1 : Nat} {p2 : Nat} {p3 : Int32} (h : wp_X2_timeBy post p1 p2 p3 S) : Met l yX2_timeBy wsX2_timeBy ({ frames := 0, cells := 0, slots := 0, locals := 0 } : Room) (va_Pc ([Value.ref p1, Value.ref p2, Value.int p3] : List Value) (bP D y z S A)) (va_Qi post (fun S' t => wd D y z S' A t.heap) A) 0 0 A := by
  refine Met.ofW (cc := cX2_timeBy) (maxL := 4) (ret := (some .int)) (by decide) rfl ?_
  intro p e s m args below meth c s₁ B hml hv
  obtain ⟨rfl, hB⟩ := hv
  have hx := B.exec
  have hb := B.bytes
  have hr := B.returns
  have hts := atoms_spec (ws := wsX2_timeBy) B.pre
  have hown : s.vm.findClass RX2 = some m.cls := findClass_of_methodNamed B.named
  have hlocks := B.notSynchronized
  have hw : wd D y z S A s.heap := hB.1
  have hK : va_K D bCl (bT y) s := hB.2.1
  have hNw := hB.2.2.1
  have hAn : ∀ q : Nat, s.heap.size ≤ q → A q := hB.2.2.2.1
  have hAz : ¬ A z := hB.2.2.2.2.1
  have hO := hB.2.2.2.2.2.1
  have hS : va_S A s.heap s.heap [] := va_S.rf
  have hiX3 : ∀ w ∈ u_ws RX3 TX3 10, w ∈ wsX2_timeBy := by decide +kernel
  have hiX4 : ∀ w ∈ u_ws RX4 TX4 11, w ∈ wsX2_timeBy := by decide +kernel
  have hl := lv_entry ([Value.ref p1, Value.ref p2, Value.int p3] : List Value) (n := 4) (Nat.le_of_ble_eq_true rfl)
  rw [lg_entry_eq]
  generalize (lg_sl ([Value.ref p1, Value.ref p2, Value.int p3] : List Value) ++ List.replicate (4 - (lg_sl ([Value.ref p1, Value.ref p2, Value.int p3] : List Value)).length) Slot.unset).toArray = ls at hl ⊢
  have hl : lv_has ls 4 [(0, .ref p1), (1, .ref p2), (2, .int p3)] := hl
  obtain ⟨Q, hQ⟩ : ∃ Q, Q = MQ below (va_Qi post (fun S' t => wd D y z S' A t.heap) A) (([Value.ref p1, Value.ref p2, Value.int p3] : List Value).toArray) s 0 0 A := ⟨_, rfl⟩
  rw [← hQ]
  generalize hR : (headSpec wsX2_timeBy ({ frames := 0, cells := 0, slots := 0, locals := 0 } : Room)).room = R
  have hRf : 0 ≤ R.frames := by rw [← hR]; exact Nat.le_refl _
  have hRl : 0 ≤ R.locals := by rw [← hR]; exact Nat.le_refl _
  have hret : ∀ (v : Int32) (S : bS) (H : Heap) (locs : List Loc) (pc : Nat) (ls : Array Slot) , post v S → wd D y z S A H → va_S A s.heap H locs → decode cX2_timeBy pc = .ok (.ireturn, 1) → W p l e R s m (([Value.ref p1, Value.ref p2, Value.int p3] : List Value).toArray) below meth c H locs 0 0 Q (F0 m pc ls [.int v]) := by
    intro v S H locs pc ls h hw hS d0
    rw [hQ]; exact W.iret hx hb hr (fun t ht hW => ⟨⟨v, S, rfl, h, by show wd D y z S A t.heap; rw [ht]; exact hw⟩, hS.F ht⟩) hS.2.2 d0 hlocks
  have hB13 : ∀ (S : bS) (H : Heap) (locs : List Loc) (ls : Array Slot) , wb_X2_timeBy_13 post S → wd D y z S A H → va_S A s.heap H locs → lv_has ls 4 [] → W p l e R s m (([Value.ref p1, Value.ref p2, Value.int p3] : List Value).toArray) below meth c H locs 0 0 Q (F0 m 13 ls []) := by
    intro S H locs ls  h hw hS hl
    unfold wb_X2_timeBy_13 at h
    refine lv_ldc (v := (1000000 : Int32)) hx hb hown (hts (.constant RX2 75 (1000000 : Int32)) (by decide +kernel)) dX2_timeBy_13 ?_
    exact hret (1000000 : Int32) _ _ _ _ _ h hw hS dX2_timeBy_15
  have hB35 : ∀ (S : bS) (H : Heap) (locs : List Loc) (ls : Array Slot) (v0 : Nat) (v2 : Int32) (s0 : Int32), wb_X2_timeBy_35 post v0 v2 s0 S → wd D y z S A H → va_S A s.heap H locs → lv_has ls 4 [(0, .ref v0), (2, .int v2)] → W p l e R s m (([Value.ref p1, Value.ref p2, Value.int p3] : List Value).toArray) below meth c H locs 0 0 Q (F0 m 35 ls [.int s0]) := by
    intro S H locs ls v0 v2 s0 h hw hS hl
    unfold wb_X2_timeBy_35 at h
    refine lv_istore_n hx hb dX2_timeBy_35 rfl hl (by decide) rfl (fun ls hl => ?_)
    have hl : lv_has ls 4 [(3, .int s0), (0, .ref v0), (2, .int v2)] := hl
    refine lv_aload_n hx hb dX2_timeBy_36 rfl (lv_at hl 1 rfl) ?_
    obtain ⟨hk7, h⟩ := h
    refine r_getN (ci := 5) (v := .int (gV S 6 v0 7)) (C := RX4) (T := TX4) (N := 11) hx hb hts hiX4 hown hK hw (ce_6 (S := S) hk7) rfl 7 (by decide) (hNw _ (bNw_43)) (fun _ h9 => h9) rfl dX2_timeBy_37 ?_
    refine lv_iload_n hx hb dX2_timeBy_40 rfl (lv_at hl 0 rfl) ?_
    refine lv_iadd hx hb dX2_timeBy_41 ?_
    refine lv_iload_n hx hb dX2_timeBy_42 rfl (lv_at hl 2 rfl) ?_
    refine lv_iadd hx hb dX2_timeBy_43 ?_
    exact hret (((gV S 6 v0 7) + s0) + v2) _ _ _ _ _ h hw hS dX2_timeBy_44
  unfold wp_X2_timeBy at h
  refine lv_aload_n hx hb dX2_timeBy_0 rfl (lv_at hl 0 rfl) ?_
  obtain ⟨hk1, h⟩ := h
  refine r_getN (ci := 5) (v := .int (gV S 6 p1 8)) (C := RX4) (T := TX4) (N := 11) hx hb hts hiX4 hown hK hw (ce_6 (S := S) hk1) rfl 8 (by decide) (hNw _ (bNw_36)) (fun _ h9 => h9) rfl dX2_timeBy_1 ?_
  refine lv_if_eq (tgt := 13) hx hb dX2_timeBy_4 (by decide) (fun hc => ?_) (fun hc => ?_)
  · have h := h.1 hc
    exact hB13 _ _ _ _ h hw hS (lv_sub hl [] rfl)
  · have h := h.2 hc
    refine lv_iload_n hx hb dX2_timeBy_7 rfl (lv_at hl 2 rfl) ?_
    refine lv_ldc (v := (1000000 : Int32)) hx hb hown (hts (.constant RX2 75 (1000000 : Int32)) (by decide +kernel)) dX2_timeBy_8 ?_
    refine lv_icmp_ne (tgt := 16) hx hb dX2_timeBy_10 (by decide) (fun hc => ?_) (fun hc => ?_)
    · have h := h.1 hc
      refine lv_aload_n hx hb dX2_timeBy_16 rfl (lv_at hl 0 rfl) ?_
      obtain ⟨b2, hb3, h⟩ := h
      refine r_getN (ci := 5) (v := .ref b2) (C := RX4) (T := TX4) (N := 11) hx hb hts hiX4 hown hK hw (ce_6 (S := S) hk1) rfl 2 (by decide) (hNw _ (bNw_39)) (fun _ h9 => h9) (congrArg (fun q => some (va_rf q)) hb3) dX2_timeBy_17 ?_
      refine lv_aload_n hx hb dX2_timeBy_20 rfl (lv_at hl 1 rfl) ?_
      refine lv_acmp_ne (rx := (some b2)) (ry := (some p2)) (tgt := 28) hx hb dX2_timeBy_21 (by decide) (fun hc => ?_) (fun hc => ?_)
      · have h := h.1 hc
        refine lv_aload_n hx hb dX2_timeBy_28 rfl (lv_at hl 0 rfl) ?_
        obtain ⟨b4, hb5, h⟩ := h
        refine r_getN (ci := 5) (v := .ref b4) (C := RX4) (T := TX4) (N := 11) hx hb hts hiX4 hown hK hw (ce_6 (S := S) hk1) rfl 2 (by decide) (hNw _ (bNw_39)) (fun _ h9 => h9) (congrArg (fun q => some (va_rf q)) hb5) dX2_timeBy_29 ?_
        obtain ⟨hk6, h⟩ := h
        refine r_getN (ci := 4) (v := .int (gV S 5 b4 2)) (C := RX3) (T := TX3) (N := 10) hx hb hts hiX3 hown hK hw (ce_5 (S := S) hk6) rfl 2 (by decide) (hNw _ (bNw_42)) (fun _ h9 => h9) rfl dX2_timeBy_32 ?_
        exact hB35 _ _ _ _ _ _ _ h hw hS (lv_sub hl [0, 2] rfl)
      · have h := h.2 hc
        refine lv_iconst (v := (0 : Int32)) hx hb dX2_timeBy_24 (by decide) ?_
        refine lv_goto (tgt := 35) hx hb dX2_timeBy_25 (by decide) ?_
        exact hB35 _ _ _ _ _ _ _ h hw hS (lv_sub hl [0, 2] rfl)
    · have h := h.2 hc
      exact hB13 _ _ _ _ h hw hS (lv_sub hl [] rfl)
def wb_X2_reckonTimesTo_129 (post : bS → Prop) (v1 : Nat) (S : bS) : Prop := gK S v1 = 5 ∧ (post (sV S 5 v1 6 (1 : Int32)))
def wb_X2_reckonTimesTo_117 (post : bS → Prop) (rec27 : Nat → Nat → Int32 → Int32 → bS → Prop) (rec47 : Nat → Nat → Int32 → Int32 → Int32 → bS → Prop) (v0 : Nat) (v1 : Nat) (v2 : Int32) (v3 : Int32) (v4 : Int32) (S : bS) : Prop := rec47 v0 v1 v2 v3 (v4 + (1 : Int32)) S
def wb_X2_reckonTimesTo_47 (post : bS → Prop) (rec27 : Nat → Nat → Int32 → Int32 → bS → Prop) : Nat → Nat → Nat → Int32 → Int32 → Int32 → bS → Prop
  | 0, _, _, _, _, _, _ => False
  | n + 1, v0, v1, v2, v3, v4, S => gK S v0 = 4 ∧ (∃ b16, gQ S 4 v0 1 = some b16 ∧ (gK S b16 = 1 ∧ (wp_Jx4a65c_size_8abf5 (fun r19 S20 => (r19 ≤ v4 → rec27 v0 v1 v2 (v3 + (1 : Int32)) S20) ∧ (¬ (r19 ≤ v4) → gK S20 v0 = 4 ∧ (∃ b22, gQ S20 4 v0 1 = some b22 ∧ (gK S20 b22 = 1 ∧ (wp_Jx4a65c_get_915e3 (fun r25 S26 => ∃ b27, r25 = some b27 ∧ (gK S26 b27 = 6 ∧ (∃ b30, gQ S26 6 b27 2 = some b30 ∧ (gK S26 v1 = 5 ∧ (wp_X3_timeFrom (fun r33 S34 => wp_X2_timeBy (fun r35 S36 => gK S36 b27 = 6 ∧ (∃ b38, gQ S36 6 b27 1 = some b38 ∧ (gK S36 v1 = 5 ∧ (wp_X3_timeFrom (fun r41 S42 => (r41 ≤ r35 → wb_X2_reckonTimesTo_117 post rec27 (wb_X2_reckonTimesTo_47 post rec27 n) v0 v1 v2 v3 v4 S42) ∧ (¬ (r41 ≤ r35) → gK S42 b27 = 6 ∧ (∃ b44, gQ S42 6 b27 1 = some b44 ∧ (gK S42 v1 = 5 ∧ (wp_X3_keepTimeFrom (fun S48 => wb_X2_reckonTimesTo_117 post rec27 (wb_X2_reckonTimesTo_47 post rec27 n) v0 v1 (1 : Int32) v3 v4 S48) v1 b44 r35 S42))))) v1 b38 S36)))) b27 v1 r33 S34) v1 b30 S26))))) b22 v4 S20))))) b16 S)))
def wb_X2_reckonTimesTo_27 (post : bS → Prop) : Nat → Nat → Nat → Int32 → Int32 → bS → Prop
  | 0, _, _, _, _, _ => False
  | n + 1, v0, v1, v2, v3, S => (v2 = (0 : Int32) → wb_X2_reckonTimesTo_129 post v1 S) ∧ (¬ (v2 = (0 : Int32)) → gK S v0 = 4 ∧ (∃ b10, gQ S 4 v0 0 = some b10 ∧ (gK S b10 = 1 ∧ (wp_Jx4a65c_size_8abf5 (fun r13 S14 => (r13 ≤ v3 → wb_X2_reckonTimesTo_129 post v1 S14) ∧ (¬ (r13 ≤ v3) → ∃ n47, wb_X2_reckonTimesTo_47 post (wb_X2_reckonTimesTo_27 post n) n47 v0 v1 (0 : Int32) v3 (0 : Int32) S14)) b10 S))))
def wp_X2_reckonTimesTo (post : bS → Prop) (this : Nat) (p1 : Nat) (S : bS) : Prop := gK S p1 = 5 ∧ (((gV S 5 p1 6) = (0 : Int32) → ∃ b2, gQ S 5 p1 5 = some b2 ∧ (wp_J7_fill_53178 (fun S5 => gK S5 p1 = 5 ∧ (wp_X3_keepTimeFrom (fun S8 => ∃ n27, wb_X2_reckonTimesTo_27 post n27 this p1 (1 : Int32) (0 : Int32) S8) p1 p1 (0 : Int32) S5)) b2 (1000000 : Int32) S)) ∧ (¬ ((gV S 5 p1 6) = (0 : Int32)) → post S))
set_option maxHeartbeats 4000000 in
set_option maxRecDepth 100000 in
theorem m_X2_reckonTimesTo {l : Launch} {D : va_G} {y : Nat → ClassId} {z : Nat} {A : Nat → Prop} {S : bS} {post : bS → Prop} {this : Nat} {p1 : Nat} (h : wp_X2_reckonTimesTo post this p1 S) : Met l yX2_reckonTimesTo wsX2_reckonTimesTo ({ frames := 3, cells := 0, slots := 0, locals := 64 } : Room) (va_Pc ([Value.ref this, Value.ref p1] : List Value) (bP D y z S A)) (va_Qv post (fun S' t => wd D y z S' A t.heap) A) 0 0 A := by
  refine Met.ofW (cc := cX2_reckonTimesTo) (maxL := 7) (ret := none) (by decide) rfl ?_
  intro p e s m args below meth c s₁ B hml hv
  obtain ⟨rfl, hB⟩ := hv
  have hx := B.exec
  have hb := B.bytes
  have hr := B.returns
  have hts := atoms_spec (ws := wsX2_reckonTimesTo) B.pre
  have hown : s.vm.findClass RX2 = some m.cls := findClass_of_methodNamed B.named
  have hlocks := B.notSynchronized
  have hw : wd D y z S A s.heap := hB.1
  have hK : va_K D bCl (bT y) s := hB.2.1
  have hNw := hB.2.2.1
  have hAn : ∀ q : Nat, s.heap.size ≤ q → A q := hB.2.2.2.1
  have hAz : ¬ A z := hB.2.2.2.2.1
  have hO := hB.2.2.2.2.2.1
  have hS : va_S A s.heap s.heap [] := va_S.rf
  have hiX2 : ∀ w ∈ u_ws RX2 TX2 2, w ∈ wsX2_reckonTimesTo := by decide +kernel
  have hiX3 : ∀ w ∈ u_ws RX3 TX3 10, w ∈ wsX2_reckonTimesTo := by decide +kernel
  have hiX4 : ∀ w ∈ u_ws RX4 TX4 11, w ∈ wsX2_reckonTimesTo := by decide +kernel
  have hl := lv_entry ([Value.ref this, Value.ref p1] : List Value) (n := 7) (Nat.le_of_ble_eq_true rfl)
  rw [lg_entry_eq]
  generalize (lg_sl ([Value.ref this, Value.ref p1] : List Value) ++ List.replicate (7 - (lg_sl ([Value.ref this, Value.ref p1] : List Value)).length) Slot.unset).toArray = ls at hl ⊢
  have hl : lv_has ls 7 [(0, .ref this), (1, .ref p1)] := hl
  obtain ⟨Q, hQ⟩ : ∃ Q, Q = MQ below (va_Qv post (fun S' t => wd D y z S' A t.heap) A) (([Value.ref this, Value.ref p1] : List Value).toArray) s 0 0 A := ⟨_, rfl⟩
  rw [← hQ]
  generalize hR : (headSpec wsX2_reckonTimesTo ({ frames := 3, cells := 0, slots := 0, locals := 64 } : Room)).room = R
  have hRf : 3 ≤ R.frames := by rw [← hR]; exact Nat.le_refl _
  have hRl : 64 ≤ R.locals := by rw [← hR]; exact Nat.le_refl _
  have hret : ∀ (S : bS) (H : Heap) (locs : List Loc) (pc : Nat) (ls : Array Slot) , post S → wd D y z S A H → va_S A s.heap H locs → decode cX2_reckonTimesTo pc = .ok (.return_, 1) → W p l e R s m (([Value.ref this, Value.ref p1] : List Value).toArray) below meth c H locs 0 0 Q (F0 m pc ls []) := by
    intro S H locs pc ls h hw hS d0
    rw [hQ]; exact W.vret hx hb hr (fun t ht hW => ⟨⟨S, rfl, h, by show wd D y z S A t.heap; rw [ht]; exact hw⟩, hS.F ht⟩) hS.2.2 d0 hlocks
  have hB129 : ∀ (S : bS) (H : Heap) (locs : List Loc) (ls : Array Slot) (v1 : Nat), wb_X2_reckonTimesTo_129 post v1 S → wd D y z S A H → va_S A s.heap H locs → lv_has ls 7 [(1, .ref v1)] → W p l e R s m (([Value.ref this, Value.ref p1] : List Value).toArray) below meth c H locs 0 0 Q (F0 m 129 ls []) := by
    intro S H locs ls v1 h hw hS hl
    unfold wb_X2_reckonTimesTo_129 at h
    refine lv_aload_n hx hb dX2_reckonTimesTo_129 rfl (lv_at hl 0 rfl) ?_
    refine lv_iconst (v := (1 : Int32)) hx hb dX2_reckonTimesTo_130 (by decide) ?_
    obtain ⟨hk49, h⟩ := h
    refine r_putIN (κ := 5) (ci := 4) (C := RX3) (T := TX3) (N := 10) (ty := .boolean) (x := (1 : Int32)) hx hb hts hiX3 tyX3 tyX3_ok nmX3 hown hK hw hS (ce_5 (S := S) hk49) rfl 6 (by decide) (hNw _ (bNw_37)) (fun _ h9 => h9) rfl (by decide +kernel) rfl rfl (Nat.le_of_ble_eq_true rfl) (pu_5_6 (S := S) hk49) dX2_reckonTimesTo_131 (fun H locs hw hS => ?_)
    exact hret _ _ _ _ _ h hw hS dX2_reckonTimesTo_134
  have hB27 : ∀ (n27 : Nat) (S : bS) (H : Heap) (locs : List Loc) (ls : Array Slot) (v0 : Nat) (v1 : Nat) (v2 : Int32) (v3 : Int32), wb_X2_reckonTimesTo_27 post n27 v0 v1 v2 v3 S → wd D y z S A H → va_S A s.heap H locs → lv_has ls 7 [(0, .ref v0), (1, .ref v1), (2, .int v2), (3, .int v3)] → W p l e R s m (([Value.ref this, Value.ref p1] : List Value).toArray) below meth c H locs 0 0 Q (F0 m 27 ls []) := by
    intro n27
    induction n27 with
    | zero =>
      intro S H locs ls v0 v1 v2 v3 h hw hS hl
      exact absurd h (by unfold wb_X2_reckonTimesTo_27; exact id)
    | succ n27 ih27 =>
      have hB47 : ∀ (n47 : Nat) (S : bS) (H : Heap) (locs : List Loc) (ls : Array Slot) (v0 : Nat) (v1 : Nat) (v2 : Int32) (v3 : Int32) (v4 : Int32), wb_X2_reckonTimesTo_47 post (wb_X2_reckonTimesTo_27 post n27) n47 v0 v1 v2 v3 v4 S → wd D y z S A H → va_S A s.heap H locs → lv_has ls 7 [(0, .ref v0), (1, .ref v1), (2, .int v2), (3, .int v3), (4, .int v4)] → W p l e R s m (([Value.ref this, Value.ref p1] : List Value).toArray) below meth c H locs 0 0 Q (F0 m 47 ls []) := by
        intro n47
        induction n47 with
        | zero =>
          intro S H locs ls v0 v1 v2 v3 v4 h hw hS hl
          exact absurd h (by unfold wb_X2_reckonTimesTo_47; exact id)
        | succ n47 ih47 =>
          have hB117 : ∀ (S : bS) (H : Heap) (locs : List Loc) (ls : Array Slot) (v0 : Nat) (v1 : Nat) (v2 : Int32) (v3 : Int32) (v4 : Int32), wb_X2_reckonTimesTo_117 post (wb_X2_reckonTimesTo_27 post n27) (wb_X2_reckonTimesTo_47 post (wb_X2_reckonTimesTo_27 post n27) n47) v0 v1 v2 v3 v4 S → wd D y z S A H → va_S A s.heap H locs → lv_has ls 7 [(0, .ref v0), (1, .ref v1), (2, .int v2), (3, .int v3), (4, .int v4)] → W p l e R s m (([Value.ref this, Value.ref p1] : List Value).toArray) below meth c H locs 0 0 Q (F0 m 117 ls []) := by
            intro S H locs ls v0 v1 v2 v3 v4 h hw hS hl
            unfold wb_X2_reckonTimesTo_117 at h
            refine lv_iinc (v := (v4 + (1 : Int32))) hx hb dX2_reckonTimesTo_117 hl (k := 4) rfl rfl (by decide) rfl (fun ls hl => ?_)
            have hl : lv_has ls 7 [(4, .int (v4 + (1 : Int32))), (0, .ref v0), (1, .ref v1), (2, .int v2), (3, .int v3)] := hl
            refine lv_goto (tgt := 47) hx hb dX2_reckonTimesTo_120 (by decide) ?_
            exact ih47 _ _ _ _ _ _ _ _ _ h hw hS (lv_sub hl [1, 2, 3, 4, 0] rfl)
          intro S H locs ls v0 v1 v2 v3 v4 h hw hS hl
          unfold wb_X2_reckonTimesTo_47 at h
          refine lv_iload hx hb dX2_reckonTimesTo_47 (lv_at hl 4 rfl) ?_
          refine lv_aload_n hx hb dX2_reckonTimesTo_49 rfl (lv_at hl 0 rfl) ?_
          obtain ⟨hk15, h⟩ := h
          obtain ⟨b16, hb17, h⟩ := h
          refine r_get (ci := 3) (v := .ref b16) (C := RX2) (T := TX2) (N := 2) hx hb hts hiX2 hown hK hw (ce_4 (S := S) hk15) rfl 1 (by decide) (hts (.fieldLink RX2 18 "TubePost$Net" "tubes" "Ljava/util/ArrayList;") (by decide +kernel)) (fun _ h9 => h9) (congrArg (fun q => some (va_rf q)) hb17) dX2_reckonTimesTo_50 ?_
          obtain ⟨hk18, h⟩ := h
          have h1 := h
          refine va_calli (va_runV (As := []) (rest := [.int v4]) ⟨hx, hb, hml, hown, hts⟩ (m_Jx4a65c_size_8abf5 (l := l) h1) (cwV 0 hts gX2_reckonTimesTo_Jx4a65c_size_8abf5 rfl rfl rfl (by decide +kernel) ⟨Nat.le_trans (Nat.le_of_ble_eq_true rfl) hRf, Nat.le_trans (Nat.le_of_ble_eq_true rfl) hRl⟩) (r_pV hB hw hS (ce_1 (S := S) hk18) rfl) rfl rfl hl.1 rfl (lv_room (Nat.le_of_ble_eq_true rfl)) dX2_reckonTimesTo_53 ⟨Nat.zero_le _, Nat.zero_le _⟩) hS (fun _ _ h => h) (fun _ h => h) (fun r19 S20 t H1 locs ht _ h hw1 _ _ hS => ?_)
          subst ht
          have hw : wd D y z S20 A t.heap := hw1
          clear hw1 h1
          refine lv_icmp_ge (tgt := 123) hx hb dX2_reckonTimesTo_56 (by decide) (fun hc => ?_) (fun hc => ?_)
          · have h := h.1 hc
            refine lv_iinc (v := (v3 + (1 : Int32))) hx hb dX2_reckonTimesTo_123 hl (k := 3) rfl rfl (by decide) rfl (fun ls hl => ?_)
            have hl : lv_has ls 7 [(3, .int (v3 + (1 : Int32))), (0, .ref v0), (1, .ref v1), (2, .int v2), (4, .int v4)] := hl
            refine lv_goto (tgt := 27) hx hb dX2_reckonTimesTo_126 (by decide) ?_
            exact ih27 _ _ _ _ _ _ _ _ h hw hS (lv_sub hl [1, 2, 3, 0] rfl)
          · have h := h.2 hc
            refine lv_aload_n hx hb dX2_reckonTimesTo_59 rfl (lv_at hl 0 rfl) ?_
            obtain ⟨hk21, h⟩ := h
            obtain ⟨b22, hb23, h⟩ := h
            refine r_get (ci := 3) (v := .ref b22) (C := RX2) (T := TX2) (N := 2) hx hb hts hiX2 hown hK hw (ce_4 (S := S20) hk21) rfl 1 (by decide) (hts (.fieldLink RX2 18 "TubePost$Net" "tubes" "Ljava/util/ArrayList;") (by decide +kernel)) (fun _ h9 => h9) (congrArg (fun q => some (va_rf q)) hb23) dX2_reckonTimesTo_60 ?_
            refine lv_iload hx hb dX2_reckonTimesTo_63 (lv_at hl 4 rfl) ?_
            obtain ⟨hk24, h⟩ := h
            have h1 := h
            refine va_callq (va_runV (As := [.int v4]) (rest := []) ⟨hx, hb, hml, hown, hts⟩ (m_Jx4a65c_get_915e3 (l := l) h1) (cwV 1 hts gX2_reckonTimesTo_Jx4a65c_get_915e3 rfl rfl rfl (by decide +kernel) ⟨Nat.le_trans (Nat.le_of_ble_eq_true rfl) hRf, Nat.le_trans (Nat.le_of_ble_eq_true rfl) hRl⟩) (r_pV hB hw hS (ce_1 (S := S20) hk24) rfl) rfl rfl hl.1 rfl (lv_room (Nat.le_of_ble_eq_true rfl)) dX2_reckonTimesTo_65 ⟨Nat.zero_le _, Nat.zero_le _⟩) hS (fun _ _ h => h) (fun _ h => h) (fun r25 S26 t H1 locs ht _ h hw1 _ _ hS => ?_)
            subst ht
            have hw : wd D y z S26 A t.heap := hw1
            clear hw1 h1
            obtain ⟨b27, rfl, h⟩ := h
            refine W.eq (g2 := F0 m 68 ls [.ref b27]) rfl ?_
            obtain ⟨hk29, h⟩ := h
            refine r_cast hx hb hown (hts (.classLink RX2 37 "TubePost$Tube") (by decide +kernel)) hK hw (ce_6 hk29) rfl dX2_reckonTimesTo_68 ?_
            refine lv_astore hx hb dX2_reckonTimesTo_71 hl (by decide) rfl (fun ls hl => ?_)
            have hl : lv_has ls 7 [(5, .ref b27), (0, .ref v0), (1, .ref v1), (2, .int v2), (3, .int v3), (4, .int v4)] := hl
            refine lv_aload hx hb dX2_reckonTimesTo_73 (lv_at hl 0 rfl) ?_
            refine lv_aload_n hx hb dX2_reckonTimesTo_75 rfl (lv_at hl 2 rfl) ?_
            refine lv_aload_n hx hb dX2_reckonTimesTo_76 rfl (lv_at hl 2 rfl) ?_
            refine lv_aload hx hb dX2_reckonTimesTo_77 (lv_at hl 0 rfl) ?_
            obtain ⟨b30, hb31, h⟩ := h
            refine r_getN (ci := 5) (v := .ref b30) (C := RX4) (T := TX4) (N := 11) hx hb hts hiX4 hown hK hw (ce_6 (S := S26) hk29) rfl 2 (by decide) (hNw _ (bNw_39)) (fun _ h9 => h9) (congrArg (fun q => some (va_rf q)) hb31) dX2_reckonTimesTo_79 ?_
            obtain ⟨hk32, h⟩ := h
            have h1 := h
            refine va_calli (va_runVN (As := [.ref b30]) (rest := [.ref v1, .ref b27]) ⟨hx, hb, hml, hown, hts⟩ (m_X3_timeFrom (l := l) h1) ⟨va_cnB 1 hts gX2_reckonTimesTo_X3_timeFrom_n68 rfl rfl rfl (hNw _ bNw_66) (hts (.initialized RX3) (by decide +kernel)) ⟨by decide +kernel, by decide +kernel, by decide +kernel⟩ ⟨Nat.le_trans (Nat.le_of_ble_eq_true rfl) hRf, Nat.le_trans (Nat.le_of_ble_eq_true rfl) hRl⟩, (hts (.instanceMethod yX3_timeFrom) (by decide +kernel)), hts (.selects RX3 yX3_timeFrom yX3_timeFrom) (by decide +kernel)⟩ (r_pV hB hw hS (ce_5 (S := S26) hk32) rfl) rfl rfl hl.1 rfl (lv_room (Nat.le_of_ble_eq_true rfl)) dX2_reckonTimesTo_82 ⟨Nat.zero_le _, Nat.zero_le _⟩) hS (fun _ _ h => h) (fun _ h => h) (fun r33 S34 t H1 locs ht _ h hw1 _ _ hS => ?_)
            subst ht
            have hw : wd D y z S34 A t.heap := hw1
            clear hw1 h1
            have h1 := h
            refine va_calli (va_runS (As := [.ref b27, .ref v1, .int r33]) (rest := []) ⟨hx, hb, hml, hown, hts⟩ (m_X2_timeBy (l := l) h1) (cwS 3 hts gX2_reckonTimesTo_X2_timeBy rfl rfl rfl (by decide +kernel) ⟨Nat.le_trans (Nat.le_of_ble_eq_true rfl) hRf, Nat.le_trans (Nat.le_of_ble_eq_true rfl) hRl⟩) (r_pS hB hw hS) rfl rfl hl.1 rfl (lv_room (Nat.le_of_ble_eq_true rfl)) dX2_reckonTimesTo_85 ⟨Nat.zero_le _, Nat.zero_le _⟩) hS (fun _ _ h => h) (fun _ h => h) (fun r35 S36 t H1 locs ht _ h hw1 _ _ hS => ?_)
            subst ht
            have hw : wd D y z S36 A t.heap := hw1
            clear hw1 h1
            refine lv_istore hx hb dX2_reckonTimesTo_88 hl (by decide) rfl (fun ls hl => ?_)
            have hl : lv_has ls 7 [(6, .int r35), (5, .ref b27), (0, .ref v0), (1, .ref v1), (2, .int v2), (3, .int v3), (4, .int v4)] := hl
            refine lv_iload hx hb dX2_reckonTimesTo_90 (lv_at hl 0 rfl) ?_
            refine lv_aload_n hx hb dX2_reckonTimesTo_92 rfl (lv_at hl 3 rfl) ?_
            refine lv_aload hx hb dX2_reckonTimesTo_93 (lv_at hl 1 rfl) ?_
            obtain ⟨hk37, h⟩ := h
            obtain ⟨b38, hb39, h⟩ := h
            refine r_getN (ci := 5) (v := .ref b38) (C := RX4) (T := TX4) (N := 11) hx hb hts hiX4 hown hK hw (ce_6 (S := S36) hk37) rfl 1 (by decide) (hNw _ (bNw_41)) (fun _ h9 => h9) (congrArg (fun q => some (va_rf q)) hb39) dX2_reckonTimesTo_95 ?_
            obtain ⟨hk40, h⟩ := h
            have h1 := h
            refine va_calli (va_runVN (As := [.ref b38]) (rest := [.int r35]) ⟨hx, hb, hml, hown, hts⟩ (m_X3_timeFrom (l := l) h1) ⟨va_cnB 1 hts gX2_reckonTimesTo_X3_timeFrom_n68 rfl rfl rfl (hNw _ bNw_66) (hts (.initialized RX3) (by decide +kernel)) ⟨by decide +kernel, by decide +kernel, by decide +kernel⟩ ⟨Nat.le_trans (Nat.le_of_ble_eq_true rfl) hRf, Nat.le_trans (Nat.le_of_ble_eq_true rfl) hRl⟩, (hts (.instanceMethod yX3_timeFrom) (by decide +kernel)), hts (.selects RX3 yX3_timeFrom yX3_timeFrom) (by decide +kernel)⟩ (r_pV hB hw hS (ce_5 (S := S36) hk40) rfl) rfl rfl hl.1 rfl (lv_room (Nat.le_of_ble_eq_true rfl)) dX2_reckonTimesTo_98 ⟨Nat.zero_le _, Nat.zero_le _⟩) hS (fun _ _ h => h) (fun _ h => h) (fun r41 S42 t H1 locs ht _ h hw1 _ _ hS => ?_)
            subst ht
            have hw : wd D y z S42 A t.heap := hw1
            clear hw1 h1
            refine lv_icmp_ge (tgt := 117) hx hb dX2_reckonTimesTo_101 (by decide) (fun hc => ?_) (fun hc => ?_)
            · have h := h.1 hc
              exact hB117 _ _ _ _ _ _ _ _ _ h hw hS (lv_sub hl [2, 3, 4, 5, 6] rfl)
            · have h := h.2 hc
              refine lv_aload_n hx hb dX2_reckonTimesTo_104 rfl (lv_at hl 3 rfl) ?_
              refine lv_aload hx hb dX2_reckonTimesTo_105 (lv_at hl 1 rfl) ?_
              obtain ⟨hk43, h⟩ := h
              obtain ⟨b44, hb45, h⟩ := h
              refine r_getN (ci := 5) (v := .ref b44) (C := RX4) (T := TX4) (N := 11) hx hb hts hiX4 hown hK hw (ce_6 (S := S42) hk43) rfl 1 (by decide) (hNw _ (bNw_41)) (fun _ h9 => h9) (congrArg (fun q => some (va_rf q)) hb45) dX2_reckonTimesTo_107 ?_
              refine lv_iload hx hb dX2_reckonTimesTo_110 (lv_at hl 0 rfl) ?_
              obtain ⟨hk46, h⟩ := h
              have h1 := h
              refine va_callv (va_runVN (As := [.ref b44, .int r35]) (rest := []) ⟨hx, hb, hml, hown, hts⟩ (m_X3_keepTimeFrom (l := l) h1) ⟨va_cnB 2 hts gX2_reckonTimesTo_X3_keepTimeFrom_n94 rfl rfl rfl (hNw _ bNw_67) (hts (.initialized RX3) (by decide +kernel)) ⟨by decide +kernel, by decide +kernel, by decide +kernel⟩ ⟨Nat.le_trans (Nat.le_of_ble_eq_true rfl) hRf, Nat.le_trans (Nat.le_of_ble_eq_true rfl) hRl⟩, (hts (.instanceMethod yX3_keepTimeFrom) (by decide +kernel)), hts (.selects RX3 yX3_keepTimeFrom yX3_keepTimeFrom) (by decide +kernel)⟩ (r_pV hB hw hS (ce_5 (S := S42) hk46) rfl) rfl rfl hl.1 rfl (lv_room (Nat.le_of_ble_eq_true rfl)) dX2_reckonTimesTo_112 ⟨Nat.zero_le _, Nat.zero_le _⟩) hS (fun _ _ h => h) (fun _ h => h) (fun S48 t H1 locs ht _ h hw1 _ _ hS => ?_)
              subst ht
              have hw : wd D y z S48 A t.heap := hw1
              clear hw1 h1
              refine lv_iconst (v := (1 : Int32)) hx hb dX2_reckonTimesTo_115 (by decide) ?_
              refine lv_istore_n hx hb dX2_reckonTimesTo_116 rfl hl (by decide) rfl (fun ls hl => ?_)
              have hl : lv_has ls 7 [(2, .int (1 : Int32)), (6, .int r35), (5, .ref b27), (0, .ref v0), (1, .ref v1), (3, .int v3), (4, .int v4)] := hl
              exact hB117 _ _ _ _ _ _ _ _ _ h hw hS (lv_sub hl [3, 4, 0, 5, 6] rfl)
      intro S H locs ls v0 v1 v2 v3 h hw hS hl
      unfold wb_X2_reckonTimesTo_27 at h
      refine lv_iload_n hx hb dX2_reckonTimesTo_27 rfl (lv_at hl 2 rfl) ?_
      refine lv_if_eq (tgt := 129) hx hb dX2_reckonTimesTo_28 (by decide) (fun hc => ?_) (fun hc => ?_)
      · have h := h.1 hc
        exact hB129 _ _ _ _ _ h hw hS (lv_sub hl [1] rfl)
      · have h := h.2 hc
        refine lv_iload_n hx hb dX2_reckonTimesTo_31 rfl (lv_at hl 3 rfl) ?_
        refine lv_aload_n hx hb dX2_reckonTimesTo_32 rfl (lv_at hl 0 rfl) ?_
        obtain ⟨hk9, h⟩ := h
        obtain ⟨b10, hb11, h⟩ := h
        refine r_get (ci := 3) (v := .ref b10) (C := RX2) (T := TX2) (N := 2) hx hb hts hiX2 hown hK hw (ce_4 (S := S) hk9) rfl 0 (by decide) (hts (.fieldLink RX2 12 "TubePost$Net" "stations" "Ljava/util/ArrayList;") (by decide +kernel)) (fun _ h9 => h9) (congrArg (fun q => some (va_rf q)) hb11) dX2_reckonTimesTo_33 ?_
        obtain ⟨hk12, h⟩ := h
        have h1 := h
        refine va_calli (va_runV (As := []) (rest := [.int v3]) ⟨hx, hb, hml, hown, hts⟩ (m_Jx4a65c_size_8abf5 (l := l) h1) (cwV 0 hts gX2_reckonTimesTo_Jx4a65c_size_8abf5 rfl rfl rfl (by decide +kernel) ⟨Nat.le_trans (Nat.le_of_ble_eq_true rfl) hRf, Nat.le_trans (Nat.le_of_ble_eq_true rfl) hRl⟩) (r_pV hB hw hS (ce_1 (S := S) hk12) rfl) rfl rfl hl.1 rfl (lv_room (Nat.le_of_ble_eq_true rfl)) dX2_reckonTimesTo_36 ⟨Nat.zero_le _, Nat.zero_le _⟩) hS (fun _ _ h => h) (fun _ h => h) (fun r13 S14 t H1 locs ht _ h hw1 _ _ hS => ?_)
        subst ht
        have hw : wd D y z S14 A t.heap := hw1
        clear hw1 h1
        refine lv_icmp_ge (tgt := 129) hx hb dX2_reckonTimesTo_39 (by decide) (fun hc => ?_) (fun hc => ?_)
        · have h := h.1 hc
          exact hB129 _ _ _ _ _ h hw hS (lv_sub hl [1] rfl)
        · have h := h.2 hc
          refine lv_iconst (v := (0 : Int32)) hx hb dX2_reckonTimesTo_42 (by decide) ?_
          refine lv_istore_n hx hb dX2_reckonTimesTo_43 rfl hl (by decide) rfl (fun ls hl => ?_)
          have hl : lv_has ls 7 [(2, .int (0 : Int32)), (0, .ref v0), (1, .ref v1), (3, .int v3)] := hl
          refine lv_iconst (v := (0 : Int32)) hx hb dX2_reckonTimesTo_44 (by decide) ?_
          refine lv_istore hx hb dX2_reckonTimesTo_45 hl (by decide) rfl (fun ls hl => ?_)
          have hl : lv_has ls 7 [(4, .int (0 : Int32)), (2, .int (0 : Int32)), (0, .ref v0), (1, .ref v1), (3, .int v3)] := hl
          obtain ⟨n47, h⟩ := h
          exact hB47 n47 _ _ _ _ _ _ _ _ _ h hw hS (lv_sub hl [2, 3, 1, 4, 0] rfl)
  unfold wp_X2_reckonTimesTo at h
  refine lv_aload_n hx hb dX2_reckonTimesTo_0 rfl (lv_at hl 1 rfl) ?_
  obtain ⟨hk1, h⟩ := h
  refine r_getN (ci := 4) (v := .int (gV S 5 p1 6)) (C := RX3) (T := TX3) (N := 10) hx hb hts hiX3 hown hK hw (ce_5 (S := S) hk1) rfl 6 (by decide) (hNw _ (bNw_37)) (fun _ h9 => h9) rfl dX2_reckonTimesTo_1 ?_
  refine lv_if_eq (tgt := 8) hx hb dX2_reckonTimesTo_4 (by decide) (fun hc => ?_) (fun hc => ?_)
  · have h := h.1 hc
    refine lv_aload_n hx hb dX2_reckonTimesTo_8 rfl (lv_at hl 1 rfl) ?_
    obtain ⟨b2, hb3, h⟩ := h
    refine r_getN (ci := 4) (v := .ref b2) (C := RX3) (T := TX3) (N := 10) hx hb hts hiX3 hown hK hw (ce_5 (S := S) hk1) rfl 5 (by decide) (hNw _ (bNw_40)) (fun _ h9 => h9) (congrArg (fun q => some (va_rf q)) hb3) dX2_reckonTimesTo_9 ?_
    refine lv_ldc (v := (1000000 : Int32)) hx hb hown (hts (.constant RX2 75 (1000000 : Int32)) (by decide +kernel)) dX2_reckonTimesTo_12 ?_
    have h1 := h
    refine va_callv (va_runS (As := [.ref b2, .int (1000000 : Int32)]) (rest := []) ⟨hx, hb, hml, hown, hts⟩ (m_J7_fill_53178 (l := l) h1) (va_cwS 2 hts gX2_reckonTimesTo_J7_fill_53178 rfl rfl rfl (by decide +kernel) ⟨Nat.le_trans (Nat.le_of_ble_eq_true rfl) hRf, Nat.le_trans (Nat.le_of_ble_eq_true rfl) hRl⟩) (r_pS hB hw hS) rfl rfl hl.1 rfl (lv_room (Nat.le_of_ble_eq_true rfl)) dX2_reckonTimesTo_14 ⟨Nat.zero_le _, Nat.zero_le _⟩) hS (fun _ _ h => h) (fun _ h => h) (fun S5 t H1 locs ht _ h hw1 _ _ hS => ?_)
    subst ht
    have hw : wd D y z S5 A t.heap := hw1
    clear hw1 h1
    refine lv_aload_n hx hb dX2_reckonTimesTo_17 rfl (lv_at hl 1 rfl) ?_
    refine lv_aload_n hx hb dX2_reckonTimesTo_18 rfl (lv_at hl 1 rfl) ?_
    refine lv_iconst (v := (0 : Int32)) hx hb dX2_reckonTimesTo_19 (by decide) ?_
    obtain ⟨hk6, h⟩ := h
    have h1 := h
    refine va_callv (va_runVN (As := [.ref p1, .int (0 : Int32)]) (rest := []) ⟨hx, hb, hml, hown, hts⟩ (m_X3_keepTimeFrom (l := l) h1) ⟨va_cnB 2 hts gX2_reckonTimesTo_X3_keepTimeFrom_n94 rfl rfl rfl (hNw _ bNw_67) (hts (.initialized RX3) (by decide +kernel)) ⟨by decide +kernel, by decide +kernel, by decide +kernel⟩ ⟨Nat.le_trans (Nat.le_of_ble_eq_true rfl) hRf, Nat.le_trans (Nat.le_of_ble_eq_true rfl) hRl⟩, (hts (.instanceMethod yX3_keepTimeFrom) (by decide +kernel)), hts (.selects RX3 yX3_keepTimeFrom yX3_keepTimeFrom) (by decide +kernel)⟩ (r_pV hB hw hS (ce_5 (S := S5) hk6) rfl) rfl rfl hl.1 rfl (lv_room (Nat.le_of_ble_eq_true rfl)) dX2_reckonTimesTo_20 ⟨Nat.zero_le _, Nat.zero_le _⟩) hS (fun _ _ h => h) (fun _ h => h) (fun S8 t H1 locs ht _ h hw1 _ _ hS => ?_)
    subst ht
    have hw : wd D y z S8 A t.heap := hw1
    clear hw1 h1
    refine lv_iconst (v := (1 : Int32)) hx hb dX2_reckonTimesTo_23 (by decide) ?_
    refine lv_istore_n hx hb dX2_reckonTimesTo_24 rfl hl (by decide) rfl (fun ls hl => ?_)
    have hl : lv_has ls 7 [(2, .int (1 : Int32)), (0, .ref this), (1, .ref p1)] := hl
    refine lv_iconst (v := (0 : Int32)) hx hb dX2_reckonTimesTo_25 (by decide) ?_
    refine lv_istore_n hx hb dX2_reckonTimesTo_26 rfl hl (by decide) rfl (fun ls hl => ?_)
    have hl : lv_has ls 7 [(3, .int (0 : Int32)), (2, .int (1 : Int32)), (0, .ref this), (1, .ref p1)] := hl
    obtain ⟨n27, h⟩ := h
    exact hB27 n27 _ _ _ _ _ _ _ _ h hw hS (lv_sub hl [2, 3, 1, 0] rfl)
  · have h := h.2 hc
    exact hret _ _ _ _ _ h hw hS dX2_reckonTimesTo_7
def wp_X2_leastTime (post : Int32 → bS → Prop) (this : Nat) (p1 : Nat) (p2 : Nat) (S : bS) : Prop := gK S this = 4 ∧ (wp_X2_reckonTimesTo (fun S3 => gK S3 p2 = 5 ∧ (wp_X3_timeFrom (fun r5 S6 => post r5 S6) p2 p1 S3)) this p2 S)
set_option maxHeartbeats 4000000 in
set_option maxRecDepth 100000 in
theorem m_X2_leastTime {l : Launch} {D : va_G} {y : Nat → ClassId} {z : Nat} {A : Nat → Prop} {S : bS} {post : Int32 → bS → Prop} {this : Nat} {p1 : Nat} {p2 : Nat} (h : wp_X2_leastTime post this p1 p2 S) : Met l yX2_leastTime wsX2_leastTime ({ frames := 4, cells := 0, slots := 0, locals := 90 } : Room) (va_Pc ([Value.ref this, Value.ref p1, Value.ref p2] : List Value) (bP D y z S A)) (va_Qi post (fun S' t => wd D y z S' A t.heap) A) 0 0 A := by
  refine Met.ofW (cc := cX2_leastTime) (maxL := 3) (ret := (some .int)) (by decide) rfl ?_
  intro p e s m args below meth c s₁ B hml hv
  obtain ⟨rfl, hB⟩ := hv
  have hx := B.exec
  have hb := B.bytes
  have hr := B.returns
  have hts := atoms_spec (ws := wsX2_leastTime) B.pre
  have hown : s.vm.findClass RX2 = some m.cls := findClass_of_methodNamed B.named
  have hlocks := B.notSynchronized
  have hw : wd D y z S A s.heap := hB.1
  have hK : va_K D bCl (bT y) s := hB.2.1
  have hNw := hB.2.2.1
  have hAn : ∀ q : Nat, s.heap.size ≤ q → A q := hB.2.2.2.1
  have hAz : ¬ A z := hB.2.2.2.2.1
  have hO := hB.2.2.2.2.2.1
  have hS : va_S A s.heap s.heap [] := va_S.rf
  have hl := lv_entry ([Value.ref this, Value.ref p1, Value.ref p2] : List Value) (n := 3) (Nat.le_of_ble_eq_true rfl)
  rw [lg_entry_eq]
  generalize (lg_sl ([Value.ref this, Value.ref p1, Value.ref p2] : List Value) ++ List.replicate (3 - (lg_sl ([Value.ref this, Value.ref p1, Value.ref p2] : List Value)).length) Slot.unset).toArray = ls at hl ⊢
  have hl : lv_has ls 3 [(0, .ref this), (1, .ref p1), (2, .ref p2)] := hl
  obtain ⟨Q, hQ⟩ : ∃ Q, Q = MQ below (va_Qi post (fun S' t => wd D y z S' A t.heap) A) (([Value.ref this, Value.ref p1, Value.ref p2] : List Value).toArray) s 0 0 A := ⟨_, rfl⟩
  rw [← hQ]
  generalize hR : (headSpec wsX2_leastTime ({ frames := 4, cells := 0, slots := 0, locals := 90 } : Room)).room = R
  have hRf : 4 ≤ R.frames := by rw [← hR]; exact Nat.le_refl _
  have hRl : 90 ≤ R.locals := by rw [← hR]; exact Nat.le_refl _
  have hret : ∀ (v : Int32) (S : bS) (H : Heap) (locs : List Loc) (pc : Nat) (ls : Array Slot) , post v S → wd D y z S A H → va_S A s.heap H locs → decode cX2_leastTime pc = .ok (.ireturn, 1) → W p l e R s m (([Value.ref this, Value.ref p1, Value.ref p2] : List Value).toArray) below meth c H locs 0 0 Q (F0 m pc ls [.int v]) := by
    intro v S H locs pc ls h hw hS d0
    rw [hQ]; exact W.iret hx hb hr (fun t ht hW => ⟨⟨v, S, rfl, h, by show wd D y z S A t.heap; rw [ht]; exact hw⟩, hS.F ht⟩) hS.2.2 d0 hlocks
  unfold wp_X2_leastTime at h
  refine lv_aload_n hx hb dX2_leastTime_0 rfl (lv_at hl 0 rfl) ?_
  refine lv_aload_n hx hb dX2_leastTime_1 rfl (lv_at hl 2 rfl) ?_
  obtain ⟨hk1, h⟩ := h
  have h1 := h
  refine va_callv (va_runV (As := [.ref p2]) (rest := []) ⟨hx, hb, hml, hown, hts⟩ (m_X2_reckonTimesTo (l := l) h1) (cwV 1 hts gX2_leastTime_X2_reckonTimesTo rfl rfl rfl (by decide +kernel) ⟨Nat.le_trans (Nat.le_of_ble_eq_true rfl) hRf, Nat.le_trans (Nat.le_of_ble_eq_true rfl) hRl⟩) (r_pV hB hw hS (ce_4 (S := S) hk1) rfl) rfl rfl hl.1 rfl (lv_room (Nat.le_of_ble_eq_true rfl)) dX2_leastTime_2 ⟨Nat.zero_le _, Nat.zero_le _⟩) hS (fun _ _ h => h) (fun _ h => h) (fun S3 t H1 locs ht _ h hw1 _ _ hS => ?_)
  subst ht
  have hw : wd D y z S3 A t.heap := hw1
  clear hw1 h1
  refine lv_aload_n hx hb dX2_leastTime_5 rfl (lv_at hl 2 rfl) ?_
  refine lv_aload_n hx hb dX2_leastTime_6 rfl (lv_at hl 1 rfl) ?_
  obtain ⟨hk4, h⟩ := h
  have h1 := h
  refine va_calli (va_runVN (As := [.ref p1]) (rest := []) ⟨hx, hb, hml, hown, hts⟩ (m_X3_timeFrom (l := l) h1) ⟨va_cnB 1 hts gX2_leastTime_X3_timeFrom_n68 rfl rfl rfl (hNw _ bNw_66) (hts (.initialized RX3) (by decide +kernel)) ⟨by decide +kernel, by decide +kernel, by decide +kernel⟩ ⟨Nat.le_trans (Nat.le_of_ble_eq_true rfl) hRf, Nat.le_trans (Nat.le_of_ble_eq_true rfl) hRl⟩, (hts (.instanceMethod yX3_timeFrom) (by decide +kernel)), hts (.selects RX3 yX3_timeFrom yX3_timeFrom) (by decide +kernel)⟩ (r_pV hB hw hS (ce_5 (S := S3) hk4) rfl) rfl rfl hl.1 rfl (lv_room (Nat.le_of_ble_eq_true rfl)) dX2_leastTime_7 ⟨Nat.zero_le _, Nat.zero_le _⟩) hS (fun _ _ h => h) (fun _ h => h) (fun r5 S6 t H1 locs ht _ h hw1 _ _ hS => ?_)
  subst ht
  have hw : wd D y z S6 A t.heap := hw1
  clear hw1 h1
  exact hret r5 _ _ _ _ _ h hw hS dX2_leastTime_10
def wb_X2_wayFor_91 (post : Int32 → bS → Prop) (rec34 : Nat → Nat → Int32 → Int32 → Int32 → bS → Prop) (v1 : Nat) (v2 : Nat) (v3 : Int32) (v4 : Int32) (v5 : Int32) (S : bS) : Prop := rec34 v1 v2 v3 v4 (v5 + (1 : Int32)) S
def wb_X2_wayFor_34 (post : Int32 → bS → Prop) : Nat → Nat → Nat → Int32 → Int32 → Int32 → bS → Prop
  | 0, _, _, _, _, _, _ => False
  | n + 1, v1, v2, v3, v4, v5, S => gK S v1 = 5 ∧ (∃ b6, gQ S 5 v1 3 = some b6 ∧ (gK S b6 = 1 ∧ (wp_Jx4a65c_size_8abf5 (fun r9 S10 => (r9 ≤ v5 → post v3 S10) ∧ (¬ (r9 ≤ v5) → gK S10 v1 = 5 ∧ (∃ b12, gQ S10 5 v1 3 = some b12 ∧ (gK S10 b12 = 1 ∧ (wp_Jx4a65c_get_915e3 (fun r15 S16 => ∃ b17, r15 = some b17 ∧ (gK S16 b17 = 6 ∧ (∃ b20, gQ S16 6 b17 2 = some b20 ∧ (gK S16 v2 = 5 ∧ (wp_X3_timeFrom (fun r23 S24 => wp_X2_timeBy (fun r25 S26 => (v4 ≤ r25 → wb_X2_wayFor_91 post (wb_X2_wayFor_34 post n) v1 v2 v3 v4 v5 S26) ∧ (¬ (v4 ≤ r25) → wb_X2_wayFor_91 post (wb_X2_wayFor_34 post n) v1 v2 v5 r25 v5 S26)) b17 v2 r23 S24) v2 b20 S16))))) b12 v5 S10))))) b6 S)))
def wp_X2_wayFor (post : Int32 → bS → Prop) (this : Nat) (p1 : Nat) (p2 : Nat) (S : bS) : Prop := ((some p1) ≠ (some p2) → gK S p1 = 5 ∧ (((gV S 5 p1 8) = (-1 : Int32) → gK S this = 4 ∧ (wp_X2_reckonTimesTo (fun S4 => ∃ n34, wb_X2_wayFor_34 post n34 p1 p2 (-1 : Int32) (1000000 : Int32) (0 : Int32) S4) this p2 S)) ∧ (¬ ((gV S 5 p1 8) = (-1 : Int32)) → post (gV S 5 p1 8) S))) ∧ ((some p1) = (some p2) → post (-1 : Int32) S)
set_option maxHeartbeats 4000000 in
set_option maxRecDepth 100000 in
theorem m_X2_wayFor {l : Launch} {D : va_G} {y : Nat → ClassId} {z : Nat} {A : Nat → Prop} {S : bS} {post : Int32 → bS → Prop} {this : Nat} {p1 : Nat} {p2 : Nat} (h : wp_X2_wayFor post this p1 p2 S) : Met l yX2_wayFor wsX2_wayFor ({ frames := 4, cells := 0, slots := 0, locals := 90 } : Room) (va_Pc ([Value.ref this, Value.ref p1, Value.ref p2] : List Value) (bP D y z S A)) (va_Qi post (fun S' t => wd D y z S' A t.heap) A) 0 0 A := by
  refine Met.ofW (cc := cX2_wayFor) (maxL := 8) (ret := (some .int)) (by decide) rfl ?_
  intro p e s m args below meth c s₁ B hml hv
  obtain ⟨rfl, hB⟩ := hv
  have hx := B.exec
  have hb := B.bytes
  have hr := B.returns
  have hts := atoms_spec (ws := wsX2_wayFor) B.pre
  have hown : s.vm.findClass RX2 = some m.cls := findClass_of_methodNamed B.named
  have hlocks := B.notSynchronized
  have hw : wd D y z S A s.heap := hB.1
  have hK : va_K D bCl (bT y) s := hB.2.1
  have hNw := hB.2.2.1
  have hAn : ∀ q : Nat, s.heap.size ≤ q → A q := hB.2.2.2.1
  have hAz : ¬ A z := hB.2.2.2.2.1
  have hO := hB.2.2.2.2.2.1
  have hS : va_S A s.heap s.heap [] := va_S.rf
  have hiX3 : ∀ w ∈ u_ws RX3 TX3 10, w ∈ wsX2_wayFor := by decide +kernel
  have hiX4 : ∀ w ∈ u_ws RX4 TX4 11, w ∈ wsX2_wayFor := by decide +kernel
  have hl := lv_entry ([Value.ref this, Value.ref p1, Value.ref p2] : List Value) (n := 8) (Nat.le_of_ble_eq_true rfl)
  rw [lg_entry_eq]
  generalize (lg_sl ([Value.ref this, Value.ref p1, Value.ref p2] : List Value) ++ List.replicate (8 - (lg_sl ([Value.ref this, Value.ref p1, Value.ref p2] : List Value)).length) Slot.unset).toArray = ls at hl ⊢
  have hl : lv_has ls 8 [(0, .ref this), (1, .ref p1), (2, .ref p2)] := hl
  obtain ⟨Q, hQ⟩ : ∃ Q, Q = MQ below (va_Qi post (fun S' t => wd D y z S' A t.heap) A) (([Value.ref this, Value.ref p1, Value.ref p2] : List Value).toArray) s 0 0 A := ⟨_, rfl⟩
  rw [← hQ]
  generalize hR : (headSpec wsX2_wayFor ({ frames := 4, cells := 0, slots := 0, locals := 90 } : Room)).room = R
  have hRf : 4 ≤ R.frames := by rw [← hR]; exact Nat.le_refl _
  have hRl : 90 ≤ R.locals := by rw [← hR]; exact Nat.le_refl _
  have hret : ∀ (v : Int32) (S : bS) (H : Heap) (locs : List Loc) (pc : Nat) (ls : Array Slot) , post v S → wd D y z S A H → va_S A s.heap H locs → decode cX2_wayFor pc = .ok (.ireturn, 1) → W p l e R s m (([Value.ref this, Value.ref p1, Value.ref p2] : List Value).toArray) below meth c H locs 0 0 Q (F0 m pc ls [.int v]) := by
    intro v S H locs pc ls h hw hS d0
    rw [hQ]; exact W.iret hx hb hr (fun t ht hW => ⟨⟨v, S, rfl, h, by show wd D y z S A t.heap; rw [ht]; exact hw⟩, hS.F ht⟩) hS.2.2 d0 hlocks
  have hB34 : ∀ (n34 : Nat) (S : bS) (H : Heap) (locs : List Loc) (ls : Array Slot) (v1 : Nat) (v2 : Nat) (v3 : Int32) (v4 : Int32) (v5 : Int32), wb_X2_wayFor_34 post n34 v1 v2 v3 v4 v5 S → wd D y z S A H → va_S A s.heap H locs → lv_has ls 8 [(1, .ref v1), (2, .ref v2), (3, .int v3), (4, .int v4), (5, .int v5)] → W p l e R s m (([Value.ref this, Value.ref p1, Value.ref p2] : List Value).toArray) below meth c H locs 0 0 Q (F0 m 34 ls []) := by
    intro n34
    induction n34 with
    | zero =>
      intro S H locs ls v1 v2 v3 v4 v5 h hw hS hl
      exact absurd h (by unfold wb_X2_wayFor_34; exact id)
    | succ n34 ih34 =>
      have hB91 : ∀ (S : bS) (H : Heap) (locs : List Loc) (ls : Array Slot) (v1 : Nat) (v2 : Nat) (v3 : Int32) (v4 : Int32) (v5 : Int32), wb_X2_wayFor_91 post (wb_X2_wayFor_34 post n34) v1 v2 v3 v4 v5 S → wd D y z S A H → va_S A s.heap H locs → lv_has ls 8 [(1, .ref v1), (2, .ref v2), (3, .int v3), (4, .int v4), (5, .int v5)] → W p l e R s m (([Value.ref this, Value.ref p1, Value.ref p2] : List Value).toArray) below meth c H locs 0 0 Q (F0 m 91 ls []) := by
        intro S H locs ls v1 v2 v3 v4 v5 h hw hS hl
        unfold wb_X2_wayFor_91 at h
        refine lv_iinc (v := (v5 + (1 : Int32))) hx hb dX2_wayFor_91 hl (k := 4) rfl rfl (by decide) rfl (fun ls hl => ?_)
        have hl : lv_has ls 8 [(5, .int (v5 + (1 : Int32))), (1, .ref v1), (2, .ref v2), (3, .int v3), (4, .int v4)] := hl
        refine lv_goto (tgt := 34) hx hb dX2_wayFor_94 (by decide) ?_
        exact ih34 _ _ _ _ _ _ _ _ _ h hw hS (lv_sub hl [1, 2, 3, 4, 0] rfl)
      intro S H locs ls v1 v2 v3 v4 v5 h hw hS hl
      unfold wb_X2_wayFor_34 at h
      refine lv_iload hx hb dX2_wayFor_34 (lv_at hl 4 rfl) ?_
      refine lv_aload_n hx hb dX2_wayFor_36 rfl (lv_at hl 0 rfl) ?_
      obtain ⟨hk5, h⟩ := h
      obtain ⟨b6, hb7, h⟩ := h
      refine r_getN (ci := 4) (v := .ref b6) (C := RX3) (T := TX3) (N := 10) hx hb hts hiX3 hown hK hw (ce_5 (S := S) hk5) rfl 3 (by decide) (hNw _ (bNw_34)) (fun _ h9 => h9) (congrArg (fun q => some (va_rf q)) hb7) dX2_wayFor_37 ?_
      obtain ⟨hk8, h⟩ := h
      have h1 := h
      refine va_calli (va_runV (As := []) (rest := [.int v5]) ⟨hx, hb, hml, hown, hts⟩ (m_Jx4a65c_size_8abf5 (l := l) h1) (cwV 0 hts gX2_wayFor_Jx4a65c_size_8abf5 rfl rfl rfl (by decide +kernel) ⟨Nat.le_trans (Nat.le_of_ble_eq_true rfl) hRf, Nat.le_trans (Nat.le_of_ble_eq_true rfl) hRl⟩) (r_pV hB hw hS (ce_1 (S := S) hk8) rfl) rfl rfl hl.1 rfl (lv_room (Nat.le_of_ble_eq_true rfl)) dX2_wayFor_40 ⟨Nat.zero_le _, Nat.zero_le _⟩) hS (fun _ _ h => h) (fun _ h => h) (fun r9 S10 t H1 locs ht _ h hw1 _ _ hS => ?_)
      subst ht
      have hw : wd D y z S10 A t.heap := hw1
      clear hw1 h1
      refine lv_icmp_ge (tgt := 97) hx hb dX2_wayFor_43 (by decide) (fun hc => ?_) (fun hc => ?_)
      · have h := h.1 hc
        refine lv_iload_n hx hb dX2_wayFor_97 rfl (lv_at hl 2 rfl) ?_
        exact hret v3 _ _ _ _ _ h hw hS dX2_wayFor_98
      · have h := h.2 hc
        refine lv_aload_n hx hb dX2_wayFor_46 rfl (lv_at hl 0 rfl) ?_
        obtain ⟨hk11, h⟩ := h
        obtain ⟨b12, hb13, h⟩ := h
        refine r_getN (ci := 4) (v := .ref b12) (C := RX3) (T := TX3) (N := 10) hx hb hts hiX3 hown hK hw (ce_5 (S := S10) hk11) rfl 3 (by decide) (hNw _ (bNw_34)) (fun _ h9 => h9) (congrArg (fun q => some (va_rf q)) hb13) dX2_wayFor_47 ?_
        refine lv_iload hx hb dX2_wayFor_50 (lv_at hl 4 rfl) ?_
        obtain ⟨hk14, h⟩ := h
        have h1 := h
        refine va_callq (va_runV (As := [.int v5]) (rest := []) ⟨hx, hb, hml, hown, hts⟩ (m_Jx4a65c_get_915e3 (l := l) h1) (cwV 1 hts gX2_wayFor_Jx4a65c_get_915e3 rfl rfl rfl (by decide +kernel) ⟨Nat.le_trans (Nat.le_of_ble_eq_true rfl) hRf, Nat.le_trans (Nat.le_of_ble_eq_true rfl) hRl⟩) (r_pV hB hw hS (ce_1 (S := S10) hk14) rfl) rfl rfl hl.1 rfl (lv_room (Nat.le_of_ble_eq_true rfl)) dX2_wayFor_52 ⟨Nat.zero_le _, Nat.zero_le _⟩) hS (fun _ _ h => h) (fun _ h => h) (fun r15 S16 t H1 locs ht _ h hw1 _ _ hS => ?_)
        subst ht
        have hw : wd D y z S16 A t.heap := hw1
        clear hw1 h1
        obtain ⟨b17, rfl, h⟩ := h
        refine W.eq (g2 := F0 m 55 ls [.ref b17]) rfl ?_
        obtain ⟨hk19, h⟩ := h
        refine r_cast hx hb hown (hts (.classLink RX2 37 "TubePost$Tube") (by decide +kernel)) hK hw (ce_6 hk19) rfl dX2_wayFor_55 ?_
        refine lv_astore hx hb dX2_wayFor_58 hl (by decide) rfl (fun ls hl => ?_)
        have hl : lv_has ls 8 [(6, .ref b17), (1, .ref v1), (2, .ref v2), (3, .int v3), (4, .int v4), (5, .int v5)] := hl
        refine lv_aload hx hb dX2_wayFor_60 (lv_at hl 0 rfl) ?_
        refine lv_aload_n hx hb dX2_wayFor_62 rfl (lv_at hl 2 rfl) ?_
        refine lv_aload_n hx hb dX2_wayFor_63 rfl (lv_at hl 2 rfl) ?_
        refine lv_aload hx hb dX2_wayFor_64 (lv_at hl 0 rfl) ?_
        obtain ⟨b20, hb21, h⟩ := h
        refine r_getN (ci := 5) (v := .ref b20) (C := RX4) (T := TX4) (N := 11) hx hb hts hiX4 hown hK hw (ce_6 (S := S16) hk19) rfl 2 (by decide) (hNw _ (bNw_39)) (fun _ h9 => h9) (congrArg (fun q => some (va_rf q)) hb21) dX2_wayFor_66 ?_
        obtain ⟨hk22, h⟩ := h
        have h1 := h
        refine va_calli (va_runVN (As := [.ref b20]) (rest := [.ref v2, .ref b17]) ⟨hx, hb, hml, hown, hts⟩ (m_X3_timeFrom (l := l) h1) ⟨va_cnB 1 hts gX2_wayFor_X3_timeFrom_n68 rfl rfl rfl (hNw _ bNw_66) (hts (.initialized RX3) (by decide +kernel)) ⟨by decide +kernel, by decide +kernel, by decide +kernel⟩ ⟨Nat.le_trans (Nat.le_of_ble_eq_true rfl) hRf, Nat.le_trans (Nat.le_of_ble_eq_true rfl) hRl⟩, (hts (.instanceMethod yX3_timeFrom) (by decide +kernel)), hts (.selects RX3 yX3_timeFrom yX3_timeFrom) (by decide +kernel)⟩ (r_pV hB hw hS (ce_5 (S := S16) hk22) rfl) rfl rfl hl.1 rfl (lv_room (Nat.le_of_ble_eq_true rfl)) dX2_wayFor_69 ⟨Nat.zero_le _, Nat.zero_le _⟩) hS (fun _ _ h => h) (fun _ h => h) (fun r23 S24 t H1 locs ht _ h hw1 _ _ hS => ?_)
        subst ht
        have hw : wd D y z S24 A t.heap := hw1
        clear hw1 h1
        have h1 := h
        refine va_calli (va_runS (As := [.ref b17, .ref v2, .int r23]) (rest := []) ⟨hx, hb, hml, hown, hts⟩ (m_X2_timeBy (l := l) h1) (cwS 3 hts gX2_wayFor_X2_timeBy rfl rfl rfl (by decide +kernel) ⟨Nat.le_trans (Nat.le_of_ble_eq_true rfl) hRf, Nat.le_trans (Nat.le_of_ble_eq_true rfl) hRl⟩) (r_pS hB hw hS) rfl rfl hl.1 rfl (lv_room (Nat.le_of_ble_eq_true rfl)) dX2_wayFor_72 ⟨Nat.zero_le _, Nat.zero_le _⟩) hS (fun _ _ h => h) (fun _ h => h) (fun r25 S26 t H1 locs ht _ h hw1 _ _ hS => ?_)
        subst ht
        have hw : wd D y z S26 A t.heap := hw1
        clear hw1 h1
        refine lv_istore hx hb dX2_wayFor_75 hl (by decide) rfl (fun ls hl => ?_)
        have hl : lv_has ls 8 [(7, .int r25), (6, .ref b17), (1, .ref v1), (2, .ref v2), (3, .int v3), (4, .int v4), (5, .int v5)] := hl
        refine lv_iload hx hb dX2_wayFor_77 (lv_at hl 0 rfl) ?_
        refine lv_iload hx hb dX2_wayFor_79 (lv_at hl 5 rfl) ?_
        refine lv_icmp_ge (tgt := 91) hx hb dX2_wayFor_81 (by decide) (fun hc => ?_) (fun hc => ?_)
        · have h := h.1 hc
          exact hB91 _ _ _ _ _ _ _ _ _ h hw hS (lv_sub hl [2, 3, 4, 5, 6] rfl)
        · have h := h.2 hc
          refine lv_iload hx hb dX2_wayFor_84 (lv_at hl 0 rfl) ?_
          refine lv_istore hx hb dX2_wayFor_86 hl (by decide) rfl (fun ls hl => ?_)
          have hl : lv_has ls 8 [(4, .int r25), (7, .int r25), (6, .ref b17), (1, .ref v1), (2, .ref v2), (3, .int v3), (5, .int v5)] := hl
          refine lv_iload hx hb dX2_wayFor_88 (lv_at hl 6 rfl) ?_
          refine lv_istore_n hx hb dX2_wayFor_90 rfl hl (by decide) rfl (fun ls hl => ?_)
          have hl : lv_has ls 8 [(3, .int v5), (4, .int r25), (7, .int r25), (6, .ref b17), (1, .ref v1), (2, .ref v2), (5, .int v5)] := hl
          exact hB91 _ _ _ _ _ _ _ _ _ h hw hS (lv_sub hl [4, 5, 0, 1, 6] rfl)
  unfold wp_X2_wayFor at h
  refine lv_aload_n hx hb dX2_wayFor_0 rfl (lv_at hl 1 rfl) ?_
  refine lv_aload_n hx hb dX2_wayFor_1 rfl (lv_at hl 2 rfl) ?_
  refine lv_acmp_ne (rx := (some p1)) (ry := (some p2)) (tgt := 7) hx hb dX2_wayFor_2 (by decide) (fun hc => ?_) (fun hc => ?_)
  · have h := h.1 hc
    refine lv_aload_n hx hb dX2_wayFor_7 rfl (lv_at hl 1 rfl) ?_
    obtain ⟨hk1, h⟩ := h
    refine r_getN (ci := 4) (v := .int (gV S 5 p1 8)) (C := RX3) (T := TX3) (N := 10) hx hb hts hiX3 hown hK hw (ce_5 (S := S) hk1) rfl 8 (by decide) (hNw _ (bNw_38)) (fun _ h9 => h9) rfl dX2_wayFor_8 ?_
    refine lv_iconst (v := (-1 : Int32)) hx hb dX2_wayFor_11 (by decide) ?_
    refine lv_icmp_eq (tgt := 20) hx hb dX2_wayFor_12 (by decide) (fun hc => ?_) (fun hc => ?_)
    · have h := h.1 hc
      refine lv_aload_n hx hb dX2_wayFor_20 rfl (lv_at hl 0 rfl) ?_
      refine lv_aload_n hx hb dX2_wayFor_21 rfl (lv_at hl 2 rfl) ?_
      obtain ⟨hk2, h⟩ := h
      have h1 := h
      refine va_callv (va_runV (As := [.ref p2]) (rest := []) ⟨hx, hb, hml, hown, hts⟩ (m_X2_reckonTimesTo (l := l) h1) (cwV 1 hts gX2_wayFor_X2_reckonTimesTo rfl rfl rfl (by decide +kernel) ⟨Nat.le_trans (Nat.le_of_ble_eq_true rfl) hRf, Nat.le_trans (Nat.le_of_ble_eq_true rfl) hRl⟩) (r_pV hB hw hS (ce_4 (S := S) hk2) rfl) rfl rfl hl.1 rfl (lv_room (Nat.le_of_ble_eq_true rfl)) dX2_wayFor_22 ⟨Nat.zero_le _, Nat.zero_le _⟩) hS (fun _ _ h => h) (fun _ h => h) (fun S4 t H1 locs ht _ h hw1 _ _ hS => ?_)
      subst ht
      have hw : wd D y z S4 A t.heap := hw1
      clear hw1 h1
      refine lv_iconst (v := (-1 : Int32)) hx hb dX2_wayFor_25 (by decide) ?_
      refine lv_istore_n hx hb dX2_wayFor_26 rfl hl (by decide) rfl (fun ls hl => ?_)
      have hl : lv_has ls 8 [(3, .int (-1 : Int32)), (0, .ref this), (1, .ref p1), (2, .ref p2)] := hl
      refine lv_ldc (v := (1000000 : Int32)) hx hb hown (hts (.constant RX2 75 (1000000 : Int32)) (by decide +kernel)) dX2_wayFor_27 ?_
      refine lv_istore hx hb dX2_wayFor_29 hl (by decide) rfl (fun ls hl => ?_)
      have hl : lv_has ls 8 [(4, .int (1000000 : Int32)), (3, .int (-1 : Int32)), (0, .ref this), (1, .ref p1), (2, .ref p2)] := hl
      refine lv_iconst (v := (0 : Int32)) hx hb dX2_wayFor_31 (by decide) ?_
      refine lv_istore hx hb dX2_wayFor_32 hl (by decide) rfl (fun ls hl => ?_)
      have hl : lv_has ls 8 [(5, .int (0 : Int32)), (4, .int (1000000 : Int32)), (3, .int (-1 : Int32)), (0, .ref this), (1, .ref p1), (2, .ref p2)] := hl
      obtain ⟨n34, h⟩ := h
      exact hB34 n34 _ _ _ _ _ _ _ _ _ h hw hS (lv_sub hl [4, 5, 2, 1, 0] rfl)
    · have h := h.2 hc
      refine lv_aload_n hx hb dX2_wayFor_15 rfl (lv_at hl 1 rfl) ?_
      refine r_getN (ci := 4) (v := .int (gV S 5 p1 8)) (C := RX3) (T := TX3) (N := 10) hx hb hts hiX3 hown hK hw (ce_5 (S := S) hk1) rfl 8 (by decide) (hNw _ (bNw_38)) (fun _ h9 => h9) rfl dX2_wayFor_16 ?_
      exact hret (gV S 5 p1 8) _ _ _ _ _ h hw hS dX2_wayFor_19
  · have h := h.2 hc
    refine lv_iconst (v := (-1 : Int32)) hx hb dX2_wayFor_5 (by decide) ?_
    exact hret (-1 : Int32) _ _ _ _ _ h hw hS dX2_wayFor_6
def wb_X3_hasRoom_19 (post : Int32 → bS → Prop) (s0 : Int32) (S : bS) : Prop := (s0 = 0 ∨ s0 = 1) ∧ post s0 S
def wp_X3_hasRoom (post : Int32 → bS → Prop) (this : Nat) (S : bS) : Prop := gK S this = 5 ∧ (∃ b2, gQ S 5 this 4 = some b2 ∧ (gK S b2 = 1 ∧ (wp_Jx4a65c_size_8abf5 (fun r5 S6 => gK S6 this = 5 ∧ (((gV S6 5 this 1) ≤ r5 → wb_X3_hasRoom_19 post (0 : Int32) S6) ∧ (¬ ((gV S6 5 this 1) ≤ r5) → wb_X3_hasRoom_19 post (1 : Int32) S6))) b2 S)))
set_option maxHeartbeats 4000000 in
set_option maxRecDepth 100000 in
theorem m_X3_hasRoom {l : Launch} {D : va_G} {y : Nat → ClassId} {z : Nat} {A : Nat → Prop} {S : bS} {post : Int32 → bS → Prop} {this : Nat} (h : wp_X3_hasRoom post this S) : Met l yX3_hasRoom wsX3_hasRoom ({ frames := 1, cells := 0, slots := 0, locals := 20 } : Room) (va_Pc ([Value.ref this] : List Value) (bP D y z S A)) (va_Qi post (fun S' t => wd D y z S' A t.heap) A) 0 0 A := by
  refine Met.ofW (cc := cX3_hasRoom) (maxL := 1) (ret := (some .boolean)) (by decide) rfl ?_
  intro p e s m args below meth c s₁ B hml hv
  obtain ⟨rfl, hB⟩ := hv
  have hx := B.exec
  have hb := B.bytes
  have hr := B.returns
  have hts := atoms_spec (ws := wsX3_hasRoom) B.pre
  have hown : s.vm.findClass RX3 = some m.cls := findClass_of_methodNamed B.named
  have hlocks := B.notSynchronized
  have hw : wd D y z S A s.heap := hB.1
  have hK : va_K D bCl (bT y) s := hB.2.1
  have hNw := hB.2.2.1
  have hAn : ∀ q : Nat, s.heap.size ≤ q → A q := hB.2.2.2.1
  have hAz : ¬ A z := hB.2.2.2.2.1
  have hO := hB.2.2.2.2.2.1
  have hS : va_S A s.heap s.heap [] := va_S.rf
  have hiX3 : ∀ w ∈ u_ws RX3 TX3 10, w ∈ wsX3_hasRoom := by decide +kernel
  have hl := lv_entry ([Value.ref this] : List Value) (n := 1) (Nat.le_of_ble_eq_true rfl)
  rw [lg_entry_eq]
  generalize (lg_sl ([Value.ref this] : List Value) ++ List.replicate (1 - (lg_sl ([Value.ref this] : List Value)).length) Slot.unset).toArray = ls at hl ⊢
  have hl : lv_has ls 1 [(0, .ref this)] := hl
  obtain ⟨Q, hQ⟩ : ∃ Q, Q = MQ below (va_Qi post (fun S' t => wd D y z S' A t.heap) A) (([Value.ref this] : List Value).toArray) s 0 0 A := ⟨_, rfl⟩
  rw [← hQ]
  generalize hR : (headSpec wsX3_hasRoom ({ frames := 1, cells := 0, slots := 0, locals := 20 } : Room)).room = R
  have hRf : 1 ≤ R.frames := by rw [← hR]; exact Nat.le_refl _
  have hRl : 20 ≤ R.locals := by rw [← hR]; exact Nat.le_refl _
  have hret : ∀ (v : Int32) (S : bS) (H : Heap) (locs : List Loc) (pc : Nat) (ls : Array Slot) , (v = 0 ∨ v = 1) → post v S → wd D y z S A H → va_S A s.heap H locs → decode cX3_hasRoom pc = .ok (.ireturn, 1) → W p l e R s m (([Value.ref this] : List Value).toArray) below meth c H locs 0 0 Q (F0 m pc ls [.int v]) := by
    intro v S H locs pc ls hz h hw hS d0
    rw [hQ]; exact W.zret hx hb hr (b_nz hz) (fun t ht hW => ⟨⟨v, S, rfl, h, by show wd D y z S A t.heap; rw [ht]; exact hw⟩, hS.F ht⟩) hS.2.2 d0 hlocks
  have hB19 : ∀ (S : bS) (H : Heap) (locs : List Loc) (ls : Array Slot) (s0 : Int32), wb_X3_hasRoom_19 post s0 S → wd D y z S A H → va_S A s.heap H locs → lv_has ls 1 [] → W p l e R s m (([Value.ref this] : List Value).toArray) below meth c H locs 0 0 Q (F0 m 19 ls [.int s0]) := by
    intro S H locs ls s0 h hw hS hl
    unfold wb_X3_hasRoom_19 at h
    obtain ⟨hz, h⟩ := h
    exact hret _ _ _ _ _ _ hz h hw hS dX3_hasRoom_19
  unfold wp_X3_hasRoom at h
  refine lv_aload_n hx hb dX3_hasRoom_0 rfl (lv_at hl 0 rfl) ?_
  obtain ⟨hk1, h⟩ := h
  obtain ⟨b2, hb3, h⟩ := h
  refine r_get (ci := 4) (v := .ref b2) (C := RX3) (T := TX3) (N := 10) hx hb hts hiX3 hown hK hw (ce_5 (S := S) hk1) rfl 4 (by decide) (hts (.fieldLink RX3 28 "TubePost$Station" "line" "Ljava/util/ArrayList;") (by decide +kernel)) (fun _ h9 => h9) (congrArg (fun q => some (va_rf q)) hb3) dX3_hasRoom_1 ?_
  obtain ⟨hk4, h⟩ := h
  have h1 := h
  refine va_calli (va_runV (As := []) (rest := []) ⟨hx, hb, hml, hown, hts⟩ (m_Jx4a65c_size_8abf5 (l := l) h1) (cwV 0 hts gX3_hasRoom_Jx4a65c_size_8abf5 rfl rfl rfl (by decide +kernel) ⟨Nat.le_trans (Nat.le_of_ble_eq_true rfl) hRf, Nat.le_trans (Nat.le_of_ble_eq_true rfl) hRl⟩) (r_pV hB hw hS (ce_1 (S := S) hk4) rfl) rfl rfl hl.1 rfl (lv_room (Nat.le_of_ble_eq_true rfl)) dX3_hasRoom_4 ⟨Nat.zero_le _, Nat.zero_le _⟩) hS (fun _ _ h => h) (fun _ h => h) (fun r5 S6 t H1 locs ht _ h hw1 _ _ hS => ?_)
  subst ht
  have hw : wd D y z S6 A t.heap := hw1
  clear hw1 h1
  refine lv_aload_n hx hb dX3_hasRoom_7 rfl (lv_at hl 0 rfl) ?_
  obtain ⟨hk7, h⟩ := h
  refine r_get (ci := 4) (v := .int (gV S6 5 this 1)) (C := RX3) (T := TX3) (N := 10) hx hb hts hiX3 hown hK hw (ce_5 (S := S6) hk7) rfl 1 (by decide) (hts (.fieldLink RX3 15 "TubePost$Station" "room" "I") (by decide +kernel)) (fun _ h9 => h9) rfl dX3_hasRoom_8 ?_
  refine lv_icmp_ge (tgt := 18) hx hb dX3_hasRoom_11 (by decide) (fun hc => ?_) (fun hc => ?_)
  · have h := h.1 hc
    refine lv_iconst (v := (0 : Int32)) hx hb dX3_hasRoom_18 (by decide) ?_
    exact hB19 _ _ _ _ _ h hw hS (lv_sub hl [] rfl)
  · have h := h.2 hc
    refine lv_iconst (v := (1 : Int32)) hx hb dX3_hasRoom_14 (by decide) ?_
    refine lv_goto (tgt := 19) hx hb dX3_hasRoom_15 (by decide) ?_
    exact hB19 _ _ _ _ _ h hw hS (lv_sub hl [] rfl)
def wb_X4_canBeEnteredAt_34 (post : Int32 → bS → Prop) (s0 : Int32) (S : bS) : Prop := (s0 = 0 ∨ s0 = 1) ∧ post s0 S
def wb_X4_canBeEnteredAt_33 (post : Int32 → bS → Prop) (S : bS) : Prop := wb_X4_canBeEnteredAt_34 post (0 : Int32) S
def wp_X4_canBeEnteredAt (post : Int32 → bS → Prop) (this : Nat) (p1 : Int32) (S : bS) : Prop := gK S this = 6 ∧ (((gV S 6 this 8) = (0 : Int32) → wb_X4_canBeEnteredAt_33 post S) ∧ (¬ ((gV S 6 this 8) = (0 : Int32)) → ∃ b2, gQ S 6 this 5 = some b2 ∧ (gK S b2 = 1 ∧ (wp_Jx4a65c_size_8abf5 (fun r5 S6 => gK S6 this = 6 ∧ (((gV S6 6 this 4) ≤ r5 → wb_X4_canBeEnteredAt_33 post S6) ∧ (¬ ((gV S6 6 this 4) ≤ r5) → ((gV S6 6 this 10) = p1 → wb_X4_canBeEnteredAt_33 post S6) ∧ (¬ ((gV S6 6 this 10) = p1) → wb_X4_canBeEnteredAt_34 post (1 : Int32) S6)))) b2 S))))
set_option maxHeartbeats 4000000 in
set_option maxRecDepth 100000 in
theorem m_X4_canBeEnteredAt {l : Launch} {D : va_G} {y : Nat → ClassId} {z : Nat} {A : Nat → Prop} {S : bS} {post : Int32 → bS → Prop} {this : Nat} {p1 : Int32} (h : wp_X4_canBeEnteredAt post this p1 S) : Met l yX4_canBeEnteredAt wsX4_canBeEnteredAt ({ frames := 1, cells := 0, slots := 0, locals := 20 } : Room) (va_Pc ([Value.ref this, Value.int p1] : List Value) (bP D y z S A)) (va_Qi post (fun S' t => wd D y z S' A t.heap) A) 0 0 A := by
  refine Met.ofW (cc := cX4_canBeEnteredAt) (maxL := 2) (ret := (some .boolean)) (by decide) rfl ?_
  intro p e s m args below meth c s₁ B hml hv
  obtain ⟨rfl, hB⟩ := hv
  have hx := B.exec
  have hb := B.bytes
  have hr := B.returns
  have hts := atoms_spec (ws := wsX4_canBeEnteredAt) B.pre
  have hown : s.vm.findClass RX4 = some m.cls := findClass_of_methodNamed B.named
  have hlocks := B.notSynchronized
  have hw : wd D y z S A s.heap := hB.1
  have hK : va_K D bCl (bT y) s := hB.2.1
  have hNw := hB.2.2.1
  have hAn : ∀ q : Nat, s.heap.size ≤ q → A q := hB.2.2.2.1
  have hAz : ¬ A z := hB.2.2.2.2.1
  have hO := hB.2.2.2.2.2.1
  have hS : va_S A s.heap s.heap [] := va_S.rf
  have hiX4 : ∀ w ∈ u_ws RX4 TX4 11, w ∈ wsX4_canBeEnteredAt := by decide +kernel
  have hl := lv_entry ([Value.ref this, Value.int p1] : List Value) (n := 2) (Nat.le_of_ble_eq_true rfl)
  rw [lg_entry_eq]
  generalize (lg_sl ([Value.ref this, Value.int p1] : List Value) ++ List.replicate (2 - (lg_sl ([Value.ref this, Value.int p1] : List Value)).length) Slot.unset).toArray = ls at hl ⊢
  have hl : lv_has ls 2 [(0, .ref this), (1, .int p1)] := hl
  obtain ⟨Q, hQ⟩ : ∃ Q, Q = MQ below (va_Qi post (fun S' t => wd D y z S' A t.heap) A) (([Value.ref this, Value.int p1] : List Value).toArray) s 0 0 A := ⟨_, rfl⟩
  rw [← hQ]
  generalize hR : (headSpec wsX4_canBeEnteredAt ({ frames := 1, cells := 0, slots := 0, locals := 20 } : Room)).room = R
  have hRf : 1 ≤ R.frames := by rw [← hR]; exact Nat.le_refl _
  have hRl : 20 ≤ R.locals := by rw [← hR]; exact Nat.le_refl _
  have hret : ∀ (v : Int32) (S : bS) (H : Heap) (locs : List Loc) (pc : Nat) (ls : Array Slot) , (v = 0 ∨ v = 1) → post v S → wd D y z S A H → va_S A s.heap H locs → decode cX4_canBeEnteredAt pc = .ok (.ireturn, 1) → W p l e R s m (([Value.ref this, Value.int p1] : List Value).toArray) below meth c H locs 0 0 Q (F0 m pc ls [.int v]) := by
    intro v S H locs pc ls hz h hw hS d0
    rw [hQ]; exact W.zret hx hb hr (b_nz hz) (fun t ht hW => ⟨⟨v, S, rfl, h, by show wd D y z S A t.heap; rw [ht]; exact hw⟩, hS.F ht⟩) hS.2.2 d0 hlocks
  have hB34 : ∀ (S : bS) (H : Heap) (locs : List Loc) (ls : Array Slot) (s0 : Int32), wb_X4_canBeEnteredAt_34 post s0 S → wd D y z S A H → va_S A s.heap H locs → lv_has ls 2 [] → W p l e R s m (([Value.ref this, Value.int p1] : List Value).toArray) below meth c H locs 0 0 Q (F0 m 34 ls [.int s0]) := by
    intro S H locs ls s0 h hw hS hl
    unfold wb_X4_canBeEnteredAt_34 at h
    obtain ⟨hz, h⟩ := h
    exact hret _ _ _ _ _ _ hz h hw hS dX4_canBeEnteredAt_34
  have hB33 : ∀ (S : bS) (H : Heap) (locs : List Loc) (ls : Array Slot) , wb_X4_canBeEnteredAt_33 post S → wd D y z S A H → va_S A s.heap H locs → lv_has ls 2 [] → W p l e R s m (([Value.ref this, Value.int p1] : List Value).toArray) below meth c H locs 0 0 Q (F0 m 33 ls []) := by
    intro S H locs ls  h hw hS hl
    unfold wb_X4_canBeEnteredAt_33 at h
    refine lv_iconst (v := (0 : Int32)) hx hb dX4_canBeEnteredAt_33 (by decide) ?_
    exact hB34 _ _ _ _ _ h hw hS (lv_sub hl [] rfl)
  unfold wp_X4_canBeEnteredAt at h
  refine lv_aload_n hx hb dX4_canBeEnteredAt_0 rfl (lv_at hl 0 rfl) ?_
  obtain ⟨hk1, h⟩ := h
  refine r_get (ci := 5) (v := .int (gV S 6 this 8)) (C := RX4) (T := TX4) (N := 11) hx hb hts hiX4 hown hK hw (ce_6 (S := S) hk1) rfl 8 (by decide) (hts (.fieldLink RX4 45 "TubePost$Tube" "isOpen" "Z") (by decide +kernel)) (fun _ h9 => h9) rfl dX4_canBeEnteredAt_1 ?_
  refine lv_if_eq (tgt := 33) hx hb dX4_canBeEnteredAt_4 (by decide) (fun hc => ?_) (fun hc => ?_)
  · have h := h.1 hc
    exact hB33 _ _ _ _ h hw hS (lv_sub hl [] rfl)
  · have h := h.2 hc
    refine lv_aload_n hx hb dX4_canBeEnteredAt_7 rfl (lv_at hl 0 rfl) ?_
    obtain ⟨b2, hb3, h⟩ := h
    refine r_get (ci := 5) (v := .ref b2) (C := RX4) (T := TX4) (N := 11) hx hb hts hiX4 hown hK hw (ce_6 (S := S) hk1) rfl 5 (by decide) (hts (.fieldLink RX4 41 "TubePost$Tube" "inside" "Ljava/util/ArrayList;") (by decide +kernel)) (fun _ h9 => h9) (congrArg (fun q => some (va_rf q)) hb3) dX4_canBeEnteredAt_8 ?_
    obtain ⟨hk4, h⟩ := h
    have h1 := h
    refine va_calli (va_runV (As := []) (rest := []) ⟨hx, hb, hml, hown, hts⟩ (m_Jx4a65c_size_8abf5 (l := l) h1) (cwV 0 hts gX4_canBeEnteredAt_Jx4a65c_size_8abf5 rfl rfl rfl (by decide +kernel) ⟨Nat.le_trans (Nat.le_of_ble_eq_true rfl) hRf, Nat.le_trans (Nat.le_of_ble_eq_true rfl) hRl⟩) (r_pV hB hw hS (ce_1 (S := S) hk4) rfl) rfl rfl hl.1 rfl (lv_room (Nat.le_of_ble_eq_true rfl)) dX4_canBeEnteredAt_11 ⟨Nat.zero_le _, Nat.zero_le _⟩) hS (fun _ _ h => h) (fun _ h => h) (fun r5 S6 t H1 locs ht _ h hw1 _ _ hS => ?_)
    subst ht
    have hw : wd D y z S6 A t.heap := hw1
    clear hw1 h1
    refine lv_aload_n hx hb dX4_canBeEnteredAt_14 rfl (lv_at hl 0 rfl) ?_
    obtain ⟨hk7, h⟩ := h
    refine r_get (ci := 5) (v := .int (gV S6 6 this 4)) (C := RX4) (T := TX4) (N := 11) hx hb hts hiX4 hown hK hw (ce_6 (S := S6) hk7) rfl 4 (by decide) (hts (.fieldLink RX4 25 "TubePost$Tube" "bore" "I") (by decide +kernel)) (fun _ h9 => h9) rfl dX4_canBeEnteredAt_15 ?_
    refine lv_icmp_ge (tgt := 33) hx hb dX4_canBeEnteredAt_18 (by decide) (fun hc => ?_) (fun hc => ?_)
    · have h := h.1 hc
      exact hB33 _ _ _ _ h hw hS (lv_sub hl [] rfl)
    · have h := h.2 hc
      refine lv_aload_n hx hb dX4_canBeEnteredAt_21 rfl (lv_at hl 0 rfl) ?_
      refine r_get (ci := 5) (v := .int (gV S6 6 this 10)) (C := RX4) (T := TX4) (N := 11) hx hb hts hiX4 hown hK hw (ce_6 (S := S6) hk7) rfl 10 (by decide) (hts (.fieldLink RX4 52 "TubePost$Tube" "lastEntryAt" "I") (by decide +kernel)) (fun _ h9 => h9) rfl dX4_canBeEnteredAt_22 ?_
      refine lv_iload_n hx hb dX4_canBeEnteredAt_25 rfl (lv_at hl 1 rfl) ?_
      refine lv_icmp_eq (tgt := 33) hx hb dX4_canBeEnteredAt_26 (by decide) (fun hc => ?_) (fun hc => ?_)
      · have h := h.1 hc
        exact hB33 _ _ _ _ h hw hS (lv_sub hl [] rfl)
      · have h := h.2 hc
        refine lv_iconst (v := (1 : Int32)) hx hb dX4_canBeEnteredAt_29 (by decide) ?_
        refine lv_goto (tgt := 34) hx hb dX4_canBeEnteredAt_30 (by decide) ?_
        exact hB34 _ _ _ _ _ h hw hS (lv_sub hl [] rfl)
def wb_X4_isFirstAtEnd_42 (post : Int32 → bS → Prop) (s0 : Int32) (S : bS) : Prop := (s0 = 0 ∨ s0 = 1) ∧ post s0 S
def wp_X4_isFirstAtEnd (post : Int32 → bS → Prop) (this : Nat) (p1 : Int32) (S : bS) : Prop := gK S this = 6 ∧ (∃ b2, gQ S 6 this 5 = some b2 ∧ (gK S b2 = 1 ∧ (wp_Jx4a65c_isEmpty_aae02 (fun r5 S6 => (r5 = (0 : Int32) → gK S6 this = 6 ∧ (∃ b8, gQ S6 6 this 5 = some b8 ∧ (gK S6 b8 = 1 ∧ (wp_Jx4a65c_get_915e3 (fun r11 S12 => ∃ b13, r11 = some b13 ∧ (gK S12 b13 = 2 ∧ (((p1 - (gV S12 2 b13 6)) < (gV S12 2 b13 7) → wb_X4_isFirstAtEnd_42 post (0 : Int32) S12) ∧ (¬ ((p1 - (gV S12 2 b13 6)) < (gV S12 2 b13 7)) → wb_X4_isFirstAtEnd_42 post (1 : Int32) S12)))) b8 (0 : Int32) S6)))) ∧ (¬ (r5 = (0 : Int32)) → post (0 : Int32) S6)) b2 S)))
set_option maxHeartbeats 4000000 in
set_option maxRecDepth 100000 in
theorem m_X4_isFirstAtEnd {l : Launch} {D : va_G} {y : Nat → ClassId} {z : Nat} {A : Nat → Prop} {S : bS} {post : Int32 → bS → Prop} {this : Nat} {p1 : Int32} (h : wp_X4_isFirstAtEnd post this p1 S) : Met l yX4_isFirstAtEnd wsX4_isFirstAtEnd ({ frames := 3, cells := 0, slots := 0, locals := 64 } : Room) (va_Pc ([Value.ref this, Value.int p1] : List Value) (bP D y z S A)) (va_Qi post (fun S' t => wd D y z S' A t.heap) A) 0 0 A := by
  refine Met.ofW (cc := cX4_isFirstAtEnd) (maxL := 3) (ret := (some .boolean)) (by decide) rfl ?_
  intro p e s m args below meth c s₁ B hml hv
  obtain ⟨rfl, hB⟩ := hv
  have hx := B.exec
  have hb := B.bytes
  have hr := B.returns
  have hts := atoms_spec (ws := wsX4_isFirstAtEnd) B.pre
  have hown : s.vm.findClass RX4 = some m.cls := findClass_of_methodNamed B.named
  have hlocks := B.notSynchronized
  have hw : wd D y z S A s.heap := hB.1
  have hK : va_K D bCl (bT y) s := hB.2.1
  have hNw := hB.2.2.1
  have hAn : ∀ q : Nat, s.heap.size ≤ q → A q := hB.2.2.2.1
  have hAz : ¬ A z := hB.2.2.2.2.1
  have hO := hB.2.2.2.2.2.1
  have hS : va_S A s.heap s.heap [] := va_S.rf
  have hiX0 : ∀ w ∈ u_ws RX0 TX0 9, w ∈ wsX4_isFirstAtEnd := by decide +kernel
  have hiX4 : ∀ w ∈ u_ws RX4 TX4 11, w ∈ wsX4_isFirstAtEnd := by decide +kernel
  have hl := lv_entry ([Value.ref this, Value.int p1] : List Value) (n := 3) (Nat.le_of_ble_eq_true rfl)
  rw [lg_entry_eq]
  generalize (lg_sl ([Value.ref this, Value.int p1] : List Value) ++ List.replicate (3 - (lg_sl ([Value.ref this, Value.int p1] : List Value)).length) Slot.unset).toArray = ls at hl ⊢
  have hl : lv_has ls 3 [(0, .ref this), (1, .int p1)] := hl
  obtain ⟨Q, hQ⟩ : ∃ Q, Q = MQ below (va_Qi post (fun S' t => wd D y z S' A t.heap) A) (([Value.ref this, Value.int p1] : List Value).toArray) s 0 0 A := ⟨_, rfl⟩
  rw [← hQ]
  generalize hR : (headSpec wsX4_isFirstAtEnd ({ frames := 3, cells := 0, slots := 0, locals := 64 } : Room)).room = R
  have hRf : 3 ≤ R.frames := by rw [← hR]; exact Nat.le_refl _
  have hRl : 64 ≤ R.locals := by rw [← hR]; exact Nat.le_refl _
  have hret : ∀ (v : Int32) (S : bS) (H : Heap) (locs : List Loc) (pc : Nat) (ls : Array Slot) , (v = 0 ∨ v = 1) → post v S → wd D y z S A H → va_S A s.heap H locs → decode cX4_isFirstAtEnd pc = .ok (.ireturn, 1) → W p l e R s m (([Value.ref this, Value.int p1] : List Value).toArray) below meth c H locs 0 0 Q (F0 m pc ls [.int v]) := by
    intro v S H locs pc ls hz h hw hS d0
    rw [hQ]; exact W.zret hx hb hr (b_nz hz) (fun t ht hW => ⟨⟨v, S, rfl, h, by show wd D y z S A t.heap; rw [ht]; exact hw⟩, hS.F ht⟩) hS.2.2 d0 hlocks
  have hB42 : ∀ (S : bS) (H : Heap) (locs : List Loc) (ls : Array Slot) (s0 : Int32), wb_X4_isFirstAtEnd_42 post s0 S → wd D y z S A H → va_S A s.heap H locs → lv_has ls 3 [] → W p l e R s m (([Value.ref this, Value.int p1] : List Value).toArray) below meth c H locs 0 0 Q (F0 m 42 ls [.int s0]) := by
    intro S H locs ls s0 h hw hS hl
    unfold wb_X4_isFirstAtEnd_42 at h
    obtain ⟨hz, h⟩ := h
    exact hret _ _ _ _ _ _ hz h hw hS dX4_isFirstAtEnd_42
  unfold wp_X4_isFirstAtEnd at h
  refine lv_aload_n hx hb dX4_isFirstAtEnd_0 rfl (lv_at hl 0 rfl) ?_
  obtain ⟨hk1, h⟩ := h
  obtain ⟨b2, hb3, h⟩ := h
  refine r_get (ci := 5) (v := .ref b2) (C := RX4) (T := TX4) (N := 11) hx hb hts hiX4 hown hK hw (ce_6 (S := S) hk1) rfl 5 (by decide) (hts (.fieldLink RX4 41 "TubePost$Tube" "inside" "Ljava/util/ArrayList;") (by decide +kernel)) (fun _ h9 => h9) (congrArg (fun q => some (va_rf q)) hb3) dX4_isFirstAtEnd_1 ?_
  obtain ⟨hk4, h⟩ := h
  have h1 := h
  refine va_calli (va_runV (As := []) (rest := []) ⟨hx, hb, hml, hown, hts⟩ (m_Jx4a65c_isEmpty_aae02 (l := l) h1) (cwV 0 hts gX4_isFirstAtEnd_Jx4a65c_isEmpty_aae02 rfl rfl rfl (by decide +kernel) ⟨Nat.le_trans (Nat.le_of_ble_eq_true rfl) hRf, Nat.le_trans (Nat.le_of_ble_eq_true rfl) hRl⟩) (r_pV hB hw hS (ce_1 (S := S) hk4) rfl) rfl rfl hl.1 rfl (lv_room (Nat.le_of_ble_eq_true rfl)) dX4_isFirstAtEnd_4 ⟨Nat.zero_le _, Nat.zero_le _⟩) hS (fun _ _ h => h) (fun _ h => h) (fun r5 S6 t H1 locs ht _ h hw1 _ _ hS => ?_)
  subst ht
  have hw : wd D y z S6 A t.heap := hw1
  clear hw1 h1
  refine lv_if_eq (tgt := 12) hx hb dX4_isFirstAtEnd_7 (by decide) (fun hc => ?_) (fun hc => ?_)
  · have h := h.1 hc
    refine lv_aload_n hx hb dX4_isFirstAtEnd_12 rfl (lv_at hl 0 rfl) ?_
    obtain ⟨hk7, h⟩ := h
    obtain ⟨b8, hb9, h⟩ := h
    refine r_get (ci := 5) (v := .ref b8) (C := RX4) (T := TX4) (N := 11) hx hb hts hiX4 hown hK hw (ce_6 (S := S6) hk7) rfl 5 (by decide) (hts (.fieldLink RX4 41 "TubePost$Tube" "inside" "Ljava/util/ArrayList;") (by decide +kernel)) (fun _ h9 => h9) (congrArg (fun q => some (va_rf q)) hb9) dX4_isFirstAtEnd_13 ?_
    refine lv_iconst (v := (0 : Int32)) hx hb dX4_isFirstAtEnd_16 (by decide) ?_
    obtain ⟨hk10, h⟩ := h
    have h1 := h
    refine va_callq (va_runV (As := [.int (0 : Int32)]) (rest := []) ⟨hx, hb, hml, hown, hts⟩ (m_Jx4a65c_get_915e3 (l := l) h1) (cwV 1 hts gX4_isFirstAtEnd_Jx4a65c_get_915e3 rfl rfl rfl (by decide +kernel) ⟨Nat.le_trans (Nat.le_of_ble_eq_true rfl) hRf, Nat.le_trans (Nat.le_of_ble_eq_true rfl) hRl⟩) (r_pV hB hw hS (ce_1 (S := S6) hk10) rfl) rfl rfl hl.1 rfl (lv_room (Nat.le_of_ble_eq_true rfl)) dX4_isFirstAtEnd_17 ⟨Nat.zero_le _, Nat.zero_le _⟩) hS (fun _ _ h => h) (fun _ h => h) (fun r11 S12 t H1 locs ht _ h hw1 _ _ hS => ?_)
    subst ht
    have hw : wd D y z S12 A t.heap := hw1
    clear hw1 h1
    obtain ⟨b13, rfl, h⟩ := h
    refine W.eq (g2 := F0 m 20 ls [.ref b13]) rfl ?_
    obtain ⟨hk15, h⟩ := h
    refine r_cast hx hb hown (hts (.classLink RX4 68 "TubePost$Carrier") (by decide +kernel)) hK hw (ce_2 hk15) rfl dX4_isFirstAtEnd_20 ?_
    refine lv_astore_n hx hb dX4_isFirstAtEnd_23 rfl hl (by decide) rfl (fun ls hl => ?_)
    have hl : lv_has ls 3 [(2, .ref b13), (0, .ref this), (1, .int p1)] := hl
    refine lv_iload_n hx hb dX4_isFirstAtEnd_24 rfl (lv_at hl 2 rfl) ?_
    refine lv_aload_n hx hb dX4_isFirstAtEnd_25 rfl (lv_at hl 0 rfl) ?_
    refine r_getN (ci := 1) (v := .int (gV S12 2 b13 6)) (C := RX0) (T := TX0) (N := 9) hx hb hts hiX0 hown hK hw (ce_2 (S := S12) hk15) rfl 6 (by decide) (hNw _ (bNw_45)) (fun _ h9 => h9) rfl dX4_isFirstAtEnd_26 ?_
    refine lv_isub hx hb dX4_isFirstAtEnd_29 ?_
    refine lv_aload_n hx hb dX4_isFirstAtEnd_30 rfl (lv_at hl 0 rfl) ?_
    refine r_getN (ci := 1) (v := .int (gV S12 2 b13 7)) (C := RX0) (T := TX0) (N := 9) hx hb hts hiX0 hown hK hw (ce_2 (S := S12) hk15) rfl 7 (by decide) (hNw _ (bNw_46)) (fun _ h9 => h9) rfl dX4_isFirstAtEnd_31 ?_
    refine lv_icmp_lt (tgt := 41) hx hb dX4_isFirstAtEnd_34 (by decide) (fun hc => ?_) (fun hc => ?_)
    · have h := h.1 hc
      refine lv_iconst (v := (0 : Int32)) hx hb dX4_isFirstAtEnd_41 (by decide) ?_
      exact hB42 _ _ _ _ _ h hw hS (lv_sub hl [] rfl)
    · have h := h.2 hc
      refine lv_iconst (v := (1 : Int32)) hx hb dX4_isFirstAtEnd_37 (by decide) ?_
      refine lv_goto (tgt := 42) hx hb dX4_isFirstAtEnd_38 (by decide) ?_
      exact hB42 _ _ _ _ _ h hw hS (lv_sub hl [] rfl)
  · have h := h.2 hc
    refine lv_iconst (v := (0 : Int32)) hx hb dX4_isFirstAtEnd_10 (by decide) ?_
    exact hret _ _ _ _ _ _ (Or.inl rfl) h hw hS dX4_isFirstAtEnd_11
