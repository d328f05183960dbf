def wp_X5_init (post : bS → Prop) (MC MS : Nat) (this : Nat) (S : bS) : Prop := 1 ≤ MC ∧ 2 ≤ MS ∧ (∀ q1, gK S q1 = 0 → (∃ k6 n7, k6 ≤ (MC - 1) ∧ n7 ≤ (MS - 2) ∧ (wp_X2_init (fun S5 => gK S5 this = 7 ∧ (1 ≤ ((MC - 1) - k6) ∧ 3 ≤ ((MS - 2) - n7) ∧ (∀ q9, gK (sQ S5 7 this 0 (some q1)) q9 = 0 → (wp_Jx4a65c_init_da8c8 (fun S14 => gK S14 this = 7 ∧ (1 ≤ (((MC - 1) - k6) - 1) ∧ 3 ≤ (((MS - 2) - n7) - 3) ∧ (∀ q16, gK (sQ S14 7 this 1 (some q9)) q16 = 0 → (wp_Jx4a65c_init_da8c8 (fun S21 => gK S21 this = 7 ∧ (post (sV (sV (sV (sQ S21 7 this 2 (some q16)) 7 this 3 (0 : Int32)) 7 this 4 (0 : Int32)) 7 this 5 (0 : Int32)))) q16 (sNew (sQ S14 7 this 1 (some q9)) q16 1 0))))) q9 (sNew (sQ S5 7 this 0 (some q1)) q9 1 0))))) k6 n7 q1 (sNew S q1 4 0))))
set_option maxHeartbeats 4000000 in
set_option maxRecDepth 100000 in
theorem m_X5_init {l : Launch} {D : va_G} {y : Nat → ClassId} {z : Nat} {A : Nat → Prop} {S : bS} {post : bS → Prop} {MC MS : Nat} {this : Nat} (h : wp_X5_init post MC MS this S) : Met l yX5_init wsX5_init ({ frames := 5, cells := MC, slots := MS, locals := 100 } : Room) (va_Pc ([Value.ref this] : List Value) (bP D y z S A)) (va_Qv post (fun S' t => wd D y z S' A t.heap) A) MC MS A := by
  refine Met.ofW (cc := cX5_init) (maxL := 1) (ret := none) (by decide) rfl ?_
  intro p e s m args below meth c s₁ B hml hv
  obtain ⟨rfl, hB⟩ := hv
  have hx := B.exec
  have hb := B.bytes
  have hr := B.returns
  have hts := atoms_spec (ws := wsX5_init) B.pre
  have hown : s.vm.findClass RX5 = some m.cls := findClass_of_methodNamed B.named
  have hlocks := B.notSynchronized
  have hin : meth.name = "<init>" := (name_of_methodNamed B.named B.method).1
  have hw : wd D y z S A s.heap := hB.1
  have hK : va_K D bCl (bT y) s := hB.2.1
  have hNw := hB.2.2.1
  have hAn : ∀ q : Nat, s.heap.size ≤ q → A q := hB.2.2.2.1
  have hAz : ¬ A z := hB.2.2.2.2.1
  have hO := hB.2.2.2.2.2.1
  have hS : va_S A s.heap s.heap [] := va_S.rf
  have hiJx4a65c : ∀ w ∈ u_ws RJx4a65c TJx4a65c 3, w ∈ wsX5_init := by decide +kernel
  have hiX2 : ∀ w ∈ u_ws RX2 TX2 2, w ∈ wsX5_init := by decide +kernel
  have hiX5 : ∀ w ∈ u_ws RX5 TX5 6, w ∈ wsX5_init := by decide +kernel
  have hl := lv_entry ([Value.ref this] : List Value) (n := 1) (Nat.le_of_ble_eq_true rfl)
  rw [lg_entry_eq]
  generalize (lg_sl ([Value.ref this] : List Value) ++ List.replicate (1 - (lg_sl ([Value.ref this] : List Value)).length) Slot.unset).toArray = ls at hl ⊢
  have hl : lv_has ls 1 [(0, .ref this)] := hl
  obtain ⟨Q, hQ⟩ : ∃ Q, Q = MQ below (va_Qv post (fun S' t => wd D y z S' A t.heap) A) (([Value.ref this] : List Value).toArray) s MC MS A := ⟨_, rfl⟩
  rw [← hQ]
  generalize hR : (headSpec wsX5_init ({ frames := 5, cells := MC, slots := MS, locals := 100 } : Room)).room = R
  have hRf : 5 ≤ R.frames := by rw [← hR]; exact Nat.le_refl _
  have hRl : 100 ≤ R.locals := by rw [← hR]; exact Nat.le_refl _
  have hRc : R.cells = MC := by rw [← hR]; rfl
  have hRs : R.slots = MS := by rw [← hR]; rfl
  have hret : ∀ (S : bS) (H : Heap) (locs : List Loc) (pc : Nat) (ls : Array Slot) (cu su : Nat) , post S → wd D y z S A H → va_S A s.heap H locs → cu ≤ MC → su ≤ MS → decode cX5_init pc = .ok (.return_, 1) → W p l e R s m (([Value.ref this] : List Value).toArray) below meth c H locs cu su Q (F0 m pc ls []) := by
    intro S H locs pc ls cu su h hw hS hcu hsu d0
    rw [hQ]; refine W.widen hcu hsu ?_; exact W.vret hx hb hr (fun t ht hW => ⟨⟨S, rfl, h, by show wd D y z S A t.heap; rw [ht]; exact hw⟩, hS.F ht⟩) hS.2.2 d0 hlocks
  unfold wp_X5_init at h
  have hcu : 0 + MC ≤ MC := by omega
  have hsu : 0 + MS ≤ MS := by omega
  refine lv_aload_n hx hb dX5_init_0 rfl (lv_at hl 0 rfl) ?_
  refine W.objInit hx hb hown (hts (.methodLink RX5 1 objectInit) (by decide +kernel)) (hts (.instanceMethod objectInit) (by decide +kernel)) (hts (.code objectInit ⟨#[0xb1]⟩ 1 none) (by decide +kernel)) rfl (by rw [hml]; exact hl.1) rfl dX5_init_1 (Nat.le_trans (Nat.le_of_ble_eq_true rfl) hRf) (Nat.le_trans (Nat.le_of_ble_eq_true rfl) hRl) ?_
  refine W.eq (g2 := F0 m 4 ls []) rfl ?_
  refine lv_aload_n hx hb dX5_init_4 rfl (lv_at hl 0 rfl) ?_
  obtain ⟨hbg1, hbg2, h⟩ := h
  refine r_new (ci := 3) (C := RX2) (T := TX2) (N := 2) (κ := 4) (nn := 0) hx hb hts hiX2 tyX2 tyX2_ok hown (hts (.classLink RX5 7 RX2) (by decide +kernel)) (hts (.instantiable RX2 2) (by decide +kernel)) (hts (.initialized RX2) (by decide +kernel)) hK hw hS hAn hAz rfl pn_4 (by decide) b_fs4 (by omega) (by omega) dX5_init_5 (fun q1 H hq2 hw hS => ?_)
  have h := h q1 hq2
  have hk3 : gK (sNew S q1 4 0) q1 = 4 := if_pos rfl
  have hcu : (0 + 1) + (MC - 1) ≤ MC := by omega
  have hsu : (0 + 2) + (MS - 2) ≤ MS := by omega
  refine lv_dup hx hb dX5_init_8 rfl ?_
  obtain ⟨k6, n7, hbg1, hbg2, h⟩ := h
  have h1 := h
  refine va_callv (va_runIN (As := []) (rest := [.ref q1, .ref this]) ⟨hx, hb, hml, hown, hts⟩ (m_X2_init (l := l) h1) ⟨va_cnB 0 hts gX5_init_X2_init_n9 rfl rfl rfl (hNw _ bNw_47) (hts (.initialized RX2) (by decide +kernel)) ⟨by decide +kernel, by decide +kernel, by decide +kernel⟩ ⟨Nat.le_trans (Nat.le_of_ble_eq_true rfl) hRf, Nat.le_trans (Nat.le_of_ble_eq_true rfl) hRl⟩, rfl, (hts (.instanceMethod yX2_init) (by decide +kernel))⟩ (r_pS hB hw hS) rfl rfl hl.1 rfl (lv_room (Nat.le_of_ble_eq_true rfl)) dX5_init_9 ⟨by omega, by omega⟩) hS (fun _ _ h => h) (fun _ h => h) (fun S5 t H1 locs ht _ h hw1 _ _ hS => ?_)
  subst ht
  have hw : wd D y z S5 A t.heap := hw1
  clear hw1 h1
  have hcu : ((0 + 1) + k6) + ((MC - 1) - k6) ≤ MC := by omega
  have hsu : ((0 + 2) + n7) + ((MS - 2) - n7) ≤ MS := by omega
  obtain ⟨hk8, h⟩ := h
  refine r_putQF (κ := 7) (ci := 6) (C := RX5) (T := TX5) (N := 6) (ty := (tyX5 0)) (x := (some q1)) hx hb hts hiX5 tyX5 tyX5_ok nmX5 hown hK hw hS (ce_7 (S := S5) hk8) rfl 0 (by decide) (hts (.fieldLink RX5 10 "TubePost" "net" "LTubePost$Net;") (by decide +kernel)) (fun _ h9 => h9) rfl hin rfl (by decide +kernel) rfl rfl (Nat.le_of_ble_eq_true rfl) (pu_7_0 (S := S5) hk8) dX5_init_12 (fun H locs hw hS => ?_)
  refine lv_aload_n hx hb dX5_init_15 rfl (lv_at hl 0 rfl) ?_
  obtain ⟨hbg1, hbg2, h⟩ := h
  refine r_new (ci := 0) (C := RJx4a65c) (T := TJx4a65c) (N := 3) (κ := 1) (nn := 0) hx hb hts hiJx4a65c tyJx4a65c tyJx4a65c_ok hown (hts (.classLink RX5 16 RJx4a65c) (by decide +kernel)) (hts (.instantiable RJx4a65c 3) (by decide +kernel)) (hts (.initialized RJx4a65c) (by decide +kernel)) hK hw hS hAn hAz rfl pn_1 (by decide) b_fs1 (by omega) (by omega) dX5_init_16 (fun q9 H hq10 hw hS => ?_)
  have h := h q9 hq10
  have hk11 : gK (sNew (sQ S5 7 this 0 (some q1)) q9 1 0) this = 7 := b_old hk8 hq10 (by decide)
  have hk12 : gK (sNew (sQ S5 7 this 0 (some q1)) q9 1 0) q9 = 1 := if_pos rfl
  have hcu : (((0 + 1) + k6) + 1) + (((MC - 1) - k6) - 1) ≤ MC := by omega
  have hsu : (((0 + 2) + n7) + 3) + (((MS - 2) - n7) - 3) ≤ MS := by omega
  refine lv_dup hx hb dX5_init_19 rfl ?_
  have h1 := h
  refine va_callv (va_runI (As := []) (rest := [.ref q9, .ref this]) ⟨hx, hb, hml, hown, hts⟩ (m_Jx4a65c_init_da8c8 (l := l) h1) (cwI 0 hts gX5_init_Jx4a65c_init_da8c8 rfl rfl rfl (hts (.initialized RJx4a65c) (by decide +kernel)) (hts (.methodLink RX5 18 yJx4a65c_init_da8c8) (by decide +kernel)) (hts (.instanceMethod yJx4a65c_init_da8c8) (by decide +kernel)) rfl (by decide +kernel) ⟨Nat.le_trans (Nat.le_of_ble_eq_true rfl) hRf, Nat.le_trans (Nat.le_of_ble_eq_true rfl) hRl⟩) (r_pS hB hw hS) rfl rfl hl.1 rfl (lv_room (Nat.le_of_ble_eq_true rfl)) dX5_init_20 ⟨by omega, by omega⟩) hS (fun _ _ h => h) (fun _ h => h) (fun S14 t H1 locs ht _ h hw1 _ _ hS => ?_)
  subst ht
  have hw : wd D y z S14 A t.heap := hw1
  clear hw1 h1
  obtain ⟨hk15, h⟩ := h
  refine r_putQF (κ := 7) (ci := 6) (C := RX5) (T := TX5) (N := 6) (ty := (tyX5 1)) (x := (some q9)) hx hb hts hiX5 tyX5 tyX5_ok nmX5 hown hK hw hS (ce_7 (S := S14) hk15) rfl 1 (by decide) (hts (.fieldLink RX5 19 "TubePost" "entries" "Ljava/util/ArrayList;") (by decide +kernel)) (fun _ h9 => h9) rfl hin rfl (by decide +kernel) rfl rfl (Nat.le_of_ble_eq_true rfl) (pu_7_1 (S := S14) hk15) dX5_init_23 (fun H locs hw hS => ?_)
  refine lv_aload_n hx hb dX5_init_26 rfl (lv_at hl 0 rfl) ?_
  obtain ⟨hbg1, hbg2, h⟩ := h
  refine r_new (ci := 0) (C := RJx4a65c) (T := TJx4a65c) (N := 3) (κ := 1) (nn := 0) hx hb hts hiJx4a65c tyJx4a65c tyJx4a65c_ok hown (hts (.classLink RX5 16 RJx4a65c) (by decide +kernel)) (hts (.instantiable RJx4a65c 3) (by decide +kernel)) (hts (.initialized RJx4a65c) (by decide +kernel)) hK hw hS hAn hAz rfl pn_1 (by decide) b_fs1 (by omega) (by omega) dX5_init_27 (fun q16 H hq17 hw hS => ?_)
  have h := h q16 hq17
  have hk18 : gK (sNew (sQ S14 7 this 1 (some q9)) q16 1 0) this = 7 := b_old hk15 hq17 (by decide)
  have hk19 : gK (sNew (sQ S14 7 this 1 (some q9)) q16 1 0) q16 = 1 := if_pos rfl
  have hcu : ((((0 + 1) + k6) + 1) + 1) + ((((MC - 1) - k6) - 1) - 1) ≤ MC := by omega
  have hsu : ((((0 + 2) + n7) + 3) + 3) + ((((MS - 2) - n7) - 3) - 3) ≤ MS := by omega
  refine lv_dup hx hb dX5_init_30 rfl ?_
  have h1 := h
  refine va_callv (va_runI (As := []) (rest := [.ref q16, .ref this]) ⟨hx, hb, hml, hown, hts⟩ (m_Jx4a65c_init_da8c8 (l := l) h1) (cwI 0 hts gX5_init_Jx4a65c_init_da8c8 rfl rfl rfl (hts (.initialized RJx4a65c) (by decide +kernel)) (hts (.methodLink RX5 18 yJx4a65c_init_da8c8) (by decide +kernel)) (hts (.instanceMethod yJx4a65c_init_da8c8) (by decide +kernel)) rfl (by decide +kernel) ⟨Nat.le_trans (Nat.le_of_ble_eq_true rfl) hRf, Nat.le_trans (Nat.le_of_ble_eq_true rfl) hRl⟩) (r_pS hB hw hS) rfl rfl hl.1 rfl (lv_room (Nat.le_of_ble_eq_true rfl)) dX5_init_31 ⟨by omega, by omega⟩) hS (fun _ _ h => h) (fun _ h => h) (fun S21 t H1 locs ht _ h hw1 _ _ hS => ?_)
  subst ht
  have hw : wd D y z S21 A t.heap := hw1
  clear hw1 h1
  obtain ⟨hk22, h⟩ := h
  refine r_putQF (κ := 7) (ci := 6) (C := RX5) (T := TX5) (N := 6) (ty := (tyX5 2)) (x := (some q16)) hx hb hts hiX5 tyX5 tyX5_ok nmX5 hown hK hw hS (ce_7 (S := S21) hk22) rfl 2 (by decide) (hts (.fieldLink RX5 23 "TubePost" "carriers" "Ljava/util/ArrayList;") (by decide +kernel)) (fun _ h9 => h9) rfl hin rfl (by decide +kernel) rfl rfl (Nat.le_of_ble_eq_true rfl) (pu_7_2 (S := S21) hk22) dX5_init_34 (fun H locs hw hS => ?_)
  refine lv_aload_n hx hb dX5_init_37 rfl (lv_at hl 0 rfl) ?_
  refine lv_iconst (v := (0 : Int32)) hx hb dX5_init_38 (by decide) ?_
  refine r_putI (κ := 7) (ci := 6) (C := RX5) (T := TX5) (N := 6) (ty := .int) (x := (0 : Int32)) hx hb hts hiX5 tyX5 tyX5_ok nmX5 hown hK hw hS (ce_7 (S := (sQ S21 7 this 2 (some q16))) hk22) rfl 3 (by decide) (hts (.fieldLink RX5 26 "TubePost" "tick" "I") (by decide +kernel)) (fun _ h9 => h9) rfl (by decide +kernel) rfl rfl (Nat.le_of_ble_eq_true rfl) (pu_7_3 (S := (sQ S21 7 this 2 (some q16))) hk22) dX5_init_39 (fun H locs hw hS => ?_)
  refine lv_aload_n hx hb dX5_init_42 rfl (lv_at hl 0 rfl) ?_
  refine lv_iconst (v := (0 : Int32)) hx hb dX5_init_43 (by decide) ?_
  refine r_putI (κ := 7) (ci := 6) (C := RX5) (T := TX5) (N := 6) (ty := .int) (x := (0 : Int32)) hx hb hts hiX5 tyX5 tyX5_ok nmX5 hown hK hw hS (ce_7 (S := (sV (sQ S21 7 this 2 (some q16)) 7 this 3 (0 : Int32))) hk22) rfl 4 (by decide) (hts (.fieldLink RX5 30 "TubePost" "delivered" "I") (by decide +kernel)) (fun _ h9 => h9) rfl (by decide +kernel) rfl rfl (Nat.le_of_ble_eq_true rfl) (pu_7_4 (S := (sV (sQ S21 7 this 2 (some q16)) 7 this 3 (0 : Int32))) hk22) dX5_init_44 (fun H locs hw hS => ?_)
  refine lv_aload_n hx hb dX5_init_47 rfl (lv_at hl 0 rfl) ?_
  refine lv_iconst (v := (0 : Int32)) hx hb dX5_init_48 (by decide) ?_
  refine r_putI (κ := 7) (ci := 6) (C := RX5) (T := TX5) (N := 6) (ty := .int) (x := (0 : Int32)) hx hb hts hiX5 tyX5 tyX5_ok nmX5 hown hK hw hS (ce_7 (S := (sV (sV (sQ S21 7 this 2 (some q16)) 7 this 3 (0 : Int32)) 7 this 4 (0 : Int32))) hk22) rfl 5 (by decide) (hts (.fieldLink RX5 33 "TubePost" "ticksUnderWay" "I") (by decide +kernel)) (fun _ h9 => h9) rfl (by decide +kernel) rfl rfl (Nat.le_of_ble_eq_true rfl) (pu_7_5 (S := (sV (sV (sQ S21 7 this 2 (some q16)) 7 this 3 (0 : Int32)) 7 this 4 (0 : Int32))) hk22) dX5_init_49 (fun H locs hw hS => ?_)
  exact hret _ _ _ _ _ _ _ h hw hS (by omega) (by omega) dX5_init_52
def wb_X5_isOutside_15 (post : Int32 → bS → Prop) (s0 : Int32) (S : bS) : Prop := (s0 = 0 ∨ s0 = 1) ∧ post s0 S
def wb_X5_isOutside_10 (post : Int32 → bS → Prop) (S : bS) : Prop := wb_X5_isOutside_15 post (1 : Int32) S
def wp_X5_isOutside (post : Int32 → bS → Prop) (p1 : Int32) (p2 : Int32) (p3 : Int32) (S : bS) : Prop := (p1 < p2 → wb_X5_isOutside_10 post S) ∧ (¬ (p1 < p2) → (p1 ≤ p3 → wb_X5_isOutside_15 post (0 : Int32) S) ∧ (¬ (p1 ≤ p3) → wb_X5_isOutside_10 post S))
set_option maxHeartbeats 4000000 in
set_option maxRecDepth 100000 in
theorem m_X5_isOutside {l : Launch} {D : va_G} {y : Nat → ClassId} {z : Nat} {A : Nat → Prop} {S : bS} {post : Int32 → bS → Prop} {p1 : Int32} {p2 : Int32} {p3 : Int32} (h : wp_X5_isOutside post p1 p2 p3 S) : Met l yX5_isOutside wsX5_isOutside ({ frames := 0, cells := 0, slots := 0, locals := 0 } : Room) (va_Pc ([Value.int p1, Value.int p2, Value.int p3] : List Value) (bP D y z S A)) (va_Qi post (fun S' t => wd D y z S' A t.heap) A) 0 0 A := by
  refine Met.ofW (cc := cX5_isOutside) (maxL := 3) (ret := (some .boolean)) (by decide) rfl ?_
  intro p e s m args below meth c s₁ B hml hv
  obtain ⟨rfl, hB⟩ := hv
  have hx := B.exec
  have hb := B.bytes
  have hr := B.returns
  have hts := atoms_spec (ws := wsX5_isOutside) B.pre
  have hown : s.vm.findClass RX5 = some m.cls := findClass_of_methodNamed B.named
  have hlocks := B.notSynchronized
  have hw : wd D y z S A s.heap := hB.1
  have hK : va_K D bCl (bT y) s := hB.2.1
  have hNw := hB.2.2.1
  have hAn : ∀ q : Nat, s.heap.size ≤ q → A q := hB.2.2.2.1
  have hAz : ¬ A z := hB.2.2.2.2.1
  have hO := hB.2.2.2.2.2.1
  have hS : va_S A s.heap s.heap [] := va_S.rf
  have hl := lv_entry ([Value.int p1, Value.int p2, Value.int p3] : List Value) (n := 3) (Nat.le_of_ble_eq_true rfl)
  rw [lg_entry_eq]
  generalize (lg_sl ([Value.int p1, Value.int p2, Value.int p3] : List Value) ++ List.replicate (3 - (lg_sl ([Value.int p1, Value.int p2, Value.int p3] : List Value)).length) Slot.unset).toArray = ls at hl ⊢
  have hl : lv_has ls 3 [(0, .int p1), (1, .int p2), (2, .int p3)] := hl
  obtain ⟨Q, hQ⟩ : ∃ Q, Q = MQ below (va_Qi post (fun S' t => wd D y z S' A t.heap) A) (([Value.int p1, Value.int p2, Value.int p3] : List Value).toArray) s 0 0 A := ⟨_, rfl⟩
  rw [← hQ]
  generalize hR : (headSpec wsX5_isOutside ({ frames := 0, cells := 0, slots := 0, locals := 0 } : Room)).room = R
  have hRf : 0 ≤ R.frames := by rw [← hR]; exact Nat.le_refl _
  have hRl : 0 ≤ R.locals := by rw [← hR]; exact Nat.le_refl _
  have hret : ∀ (v : Int32) (S : bS) (H : Heap) (locs : List Loc) (pc : Nat) (ls : Array Slot) , (v = 0 ∨ v = 1) → post v S → wd D y z S A H → va_S A s.heap H locs → decode cX5_isOutside pc = .ok (.ireturn, 1) → W p l e R s m (([Value.int p1, Value.int p2, Value.int p3] : List Value).toArray) below meth c H locs 0 0 Q (F0 m pc ls [.int v]) := by
    intro v S H locs pc ls hz h hw hS d0
    rw [hQ]; exact W.zret hx hb hr (b_nz hz) (fun t ht hW => ⟨⟨v, S, rfl, h, by show wd D y z S A t.heap; rw [ht]; exact hw⟩, hS.F ht⟩) hS.2.2 d0 hlocks
  have hB15 : ∀ (S : bS) (H : Heap) (locs : List Loc) (ls : Array Slot) (s0 : Int32), wb_X5_isOutside_15 post s0 S → wd D y z S A H → va_S A s.heap H locs → lv_has ls 3 [] → W p l e R s m (([Value.int p1, Value.int p2, Value.int p3] : List Value).toArray) below meth c H locs 0 0 Q (F0 m 15 ls [.int s0]) := by
    intro S H locs ls s0 h hw hS hl
    unfold wb_X5_isOutside_15 at h
    obtain ⟨hz, h⟩ := h
    exact hret _ _ _ _ _ _ hz h hw hS dX5_isOutside_15
  have hB10 : ∀ (S : bS) (H : Heap) (locs : List Loc) (ls : Array Slot) , wb_X5_isOutside_10 post S → wd D y z S A H → va_S A s.heap H locs → lv_has ls 3 [] → W p l e R s m (([Value.int p1, Value.int p2, Value.int p3] : List Value).toArray) below meth c H locs 0 0 Q (F0 m 10 ls []) := by
    intro S H locs ls  h hw hS hl
    unfold wb_X5_isOutside_10 at h
    refine lv_iconst (v := (1 : Int32)) hx hb dX5_isOutside_10 (by decide) ?_
    refine lv_goto (tgt := 15) hx hb dX5_isOutside_11 (by decide) ?_
    exact hB15 _ _ _ _ _ h hw hS (lv_sub hl [] rfl)
  unfold wp_X5_isOutside at h
  refine lv_iload_n hx hb dX5_isOutside_0 rfl (lv_at hl 0 rfl) ?_
  refine lv_iload_n hx hb dX5_isOutside_1 rfl (lv_at hl 1 rfl) ?_
  refine lv_icmp_lt (tgt := 10) hx hb dX5_isOutside_2 (by decide) (fun hc => ?_) (fun hc => ?_)
  · have h := h.1 hc
    exact hB10 _ _ _ _ h hw hS (lv_sub hl [] rfl)
  · have h := h.2 hc
    refine lv_iload_n hx hb dX5_isOutside_5 rfl (lv_at hl 0 rfl) ?_
    refine lv_iload_n hx hb dX5_isOutside_6 rfl (lv_at hl 2 rfl) ?_
    refine lv_icmp_le (tgt := 14) hx hb dX5_isOutside_7 (by decide) (fun hc => ?_) (fun hc => ?_)
    · have h := h.1 hc
      refine lv_iconst (v := (0 : Int32)) hx hb dX5_isOutside_14 (by decide) ?_
      exact hB15 _ _ _ _ _ h hw hS (lv_sub hl [] rfl)
    · have h := h.2 hc
      exact hB10 _ _ _ _ h hw hS (lv_sub hl [] rfl)
def wb_X5_addStation_20 (post : Int32 → bS → Prop) (xp : String → bS → Prop) (mc ms : Nat) (S : bS) : Prop := False
def wp_X5_addStation (post : Int32 → bS → Prop) (xp : String → bS → Prop) (MC MS : Nat) (this : Nat) (p1 : Int32) (p2 : Int32) (S : bS) : Prop := wp_X5_isOutside (fun r1 S2 => (r1 ≠ (0 : Int32) → wb_X5_addStation_20 post xp MC MS S2) ∧ (r1 = (0 : Int32) → wp_X5_isOutside (fun r3 S4 => (r3 = (0 : Int32) → gK S4 this = 7 ∧ (∃ b6, gQ S4 7 this 0 = some b6 ∧ (gK S4 b6 = 4 ∧ (∃ b9, gQ S4 4 b6 0 = some b9 ∧ (gK S4 b9 = 1 ∧ (wp_Jx4a65c_size_8abf5 (fun r12 S13 => (r12 < (14 : Int32) → gK S13 this = 7 ∧ (∃ b15, gQ S13 7 this 0 = some b15 ∧ (gK S13 b15 = 4 ∧ (∃ k20 n21, k20 ≤ MC ∧ n21 ≤ MS ∧ (wp_X2_build (fun r18 S19 => post r18 S19) k20 n21 b15 p1 p2 S13))))) ∧ (¬ (r12 < (14 : Int32)) → False)) b9 S4)))))) ∧ (¬ (r3 = (0 : Int32)) → wb_X5_addStation_20 post xp MC MS S4)) p2 (0 : Int32) (20 : Int32) S2)) p1 (1 : Int32) (9 : Int32) S
set_option maxHeartbeats 4000000 in
set_option maxRecDepth 100000 in
theorem m_X5_addStation {l : Launch} {D : va_G} {y : Nat → ClassId} {z : Nat} {A : Nat → Prop} {S : bS} {post : Int32 → bS → Prop} {xp : String → bS → Prop} (hl0 : l.stackTraces = false) {MC MS : Nat} {this : Nat} {p1 : Int32} {p2 : Int32} (h : wp_X5_addStation post xp MC MS this p1 p2 S) : vx_Met l yX5_addStation wsX5_addStation ({ frames := 8, cells := MC, slots := MS, locals := 400 } : Room) (va_Pc ([Value.ref this, Value.int p1, Value.int p2] : List Value) (bP D y z S A)) (va_Qi post (fun S' t => wd D y z S' A t.heap) A) (bX D y z A xp) MC MS A := by
  refine vx_ofW (cc := cX5_addStation) (maxL := 3) (ret := (some .int)) (by decide) rfl ?_
  intro p e s m args below meth c s₁ B hml hex hv
  obtain ⟨rfl, hB⟩ := hv
  have hx := B.exec
  have hb := B.bytes
  have hr := B.returns
  have hts := atoms_spec (ws := wsX5_addStation) B.pre
  have hown : s.vm.findClass RX5 = some m.cls := findClass_of_methodNamed B.named
  have hlocks := B.notSynchronized
  have hw : wd D y z S A s.heap := hB.1
  have hK : va_K D bCl (bT y) s := hB.2.1
  have hNw := hB.2.2.1
  have hAn : ∀ q : Nat, s.heap.size ≤ q → A q := hB.2.2.2.1
  have hAz : ¬ A z := hB.2.2.2.2.1
  have hO := hB.2.2.2.2.2.1
  have hS : va_S A s.heap s.heap [] := va_S.rf
  have hiX2 : ∀ w ∈ u_ws RX2 TX2 2, w ∈ wsX5_addStation := by decide +kernel
  have hiX5 : ∀ w ∈ u_ws RX5 TX5 6, w ∈ wsX5_addStation := by decide +kernel
  have hl := lv_entry ([Value.ref this, Value.int p1, Value.int p2] : List Value) (n := 3) (Nat.le_of_ble_eq_true rfl)
  rw [lg_entry_eq]
  generalize (lg_sl ([Value.ref this, Value.int p1, Value.int p2] : List Value) ++ List.replicate (3 - (lg_sl ([Value.ref this, Value.int p1, Value.int p2] : List Value)).length) Slot.unset).toArray = ls at hl ⊢
  have hl : lv_has ls 3 [(0, .ref this), (1, .int p1), (2, .int p2)] := hl
  obtain ⟨Q, hQ⟩ : ∃ Q, Q = vx_MQ below (va_Qi post (fun S' t => wd D y z S' A t.heap) A) (bX D y z A xp) (([Value.ref this, Value.int p1, Value.int p2] : List Value).toArray) s MC MS A := ⟨_, rfl⟩
  rw [← hQ]
  generalize hR : (headSpec wsX5_addStation ({ frames := 8, cells := MC, slots := MS, locals := 400 } : Room)).room = R
  have hRf : 8 ≤ R.frames := by rw [← hR]; exact Nat.le_refl _
  have hRl : 400 ≤ R.locals := by rw [← hR]; exact Nat.le_refl _
  have hRc : R.cells = MC := by rw [← hR]; rfl
  have hRs : R.slots = MS := by rw [← hR]; rfl
  have hret : ∀ (v : Int32) (S : bS) (H : Heap) (locs : List Loc) (pc : Nat) (ls : Array Slot) (cu su : Nat) , post v S → wd D y z S A H → va_S A s.heap H locs → cu ≤ MC → su ≤ MS → decode cX5_addStation pc = .ok (.ireturn, 1) → W p l e R s m (([Value.ref this, Value.int p1, Value.int p2] : List Value).toArray) below meth c H locs cu su Q (F0 m pc ls [.int v]) := by
    intro v S H locs pc ls cu su h hw hS hcu hsu d0
    rw [hQ]; refine vx_ret ?_; refine W.widen hcu hsu ?_; exact W.iret hx hb hr (fun t ht hW => ⟨⟨v, S, rfl, h, by show wd D y z S A t.heap; rw [ht]; exact hw⟩, hS.F ht⟩) hS.2.2 d0 hlocks
  have hB20 : ∀ (S : bS) (H : Heap) (locs : List Loc) (ls : Array Slot) (mc ms cu su : Nat) , wb_X5_addStation_20 post xp mc ms S → wd D y z S A H → va_S A s.heap H locs → lv_has ls 3 [] → cu + mc ≤ MC → su + ms ≤ MS → W p l e R s m (([Value.ref this, Value.int p1, Value.int p2] : List Value).toArray) below meth c H locs cu su Q (F0 m 20 ls []) := by
    intro S H locs ls mc ms cu su  h hw hS hl hcu hsu
    unfold wb_X5_addStation_20 at h
    exact h.elim
  unfold wp_X5_addStation at h
  have hcu : 0 + MC ≤ MC := by omega
  have hsu : 0 + MS ≤ MS := by omega
  refine lv_iload_n hx hb dX5_addStation_0 rfl (lv_at hl 1 rfl) ?_
  refine lv_iconst (v := (1 : Int32)) hx hb dX5_addStation_1 (by decide) ?_
  refine lv_bipush (v := (9 : Int32)) hx hb dX5_addStation_2 (by decide) ?_
  have h1 := h
  refine va_calli (va_runS (As := [.int p1, .int (1 : Int32), .int (9 : Int32)]) (rest := []) ⟨hx, hb, hml, hown, hts⟩ (m_X5_isOutside (l := l) h1) (cwS 3 hts gX5_addStation_X5_isOutside rfl rfl rfl (by decide +kernel) ⟨Nat.le_trans (Nat.le_of_ble_eq_true rfl) hRf, Nat.le_trans (Nat.le_of_ble_eq_true rfl) hRl⟩) (r_pS hB hw hS) rfl rfl hl.1 rfl (lv_room (Nat.le_of_ble_eq_true rfl)) dX5_addStation_4 ⟨by omega, by omega⟩) hS (fun _ _ h => h) (fun _ h => h) (fun r1 S2 t H1 locs ht _ h hw1 _ _ hS => ?_)
  subst ht
  have hw : wd D y z S2 A t.heap := hw1
  clear hw1 h1
  refine lv_if_ne (tgt := 20) hx hb dX5_addStation_7 (by decide) (fun hc => ?_) (fun hc => ?_)
  · have h := h.1 hc
    exact hB20 _ _ _ _ _ _ _ _ h hw hS (lv_sub hl [] rfl) hcu hsu
  · have h := h.2 hc
    refine lv_iload_n hx hb dX5_addStation_10 rfl (lv_at hl 2 rfl) ?_
    refine lv_iconst (v := (0 : Int32)) hx hb dX5_addStation_11 (by decide) ?_
    refine lv_bipush (v := (20 : Int32)) hx hb dX5_addStation_12 (by decide) ?_
    have h1 := h
    refine va_calli (va_runS (As := [.int p2, .int (0 : Int32), .int (20 : Int32)]) (rest := []) ⟨hx, hb, hml, hown, hts⟩ (m_X5_isOutside (l := l) h1) (cwS 3 hts gX5_addStation_X5_isOutside rfl rfl rfl (by decide +kernel) ⟨Nat.le_trans (Nat.le_of_ble_eq_true rfl) hRf, Nat.le_trans (Nat.le_of_ble_eq_true rfl) hRl⟩) (r_pS hB hw hS) rfl rfl hl.1 rfl (lv_room (Nat.le_of_ble_eq_true rfl)) dX5_addStation_14 ⟨by omega, by omega⟩) hS (fun _ _ h => h) (fun _ h => h) (fun r3 S4 t H1 locs ht _ h hw1 _ _ hS => ?_)
    subst ht
    have hw : wd D y z S4 A t.heap := hw1
    clear hw1 h1
    refine lv_if_eq (tgt := 30) hx hb dX5_addStation_17 (by decide) (fun hc => ?_) (fun hc => ?_)
    · have h := h.1 hc
      refine lv_aload_n hx hb dX5_addStation_30 rfl (lv_at hl 0 rfl) ?_
      obtain ⟨hk5, h⟩ := h
      obtain ⟨b6, hb7, h⟩ := h
      refine r_get (ci := 6) (v := .ref b6) (C := RX5) (T := TX5) (N := 6) hx hb hts hiX5 hown hK hw (ce_7 (S := S4) hk5) rfl 0 (by decide) (hts (.fieldLink RX5 10 "TubePost" "net" "LTubePost$Net;") (by decide +kernel)) (fun _ h9 => h9) (congrArg (fun q => some (va_rf q)) hb7) dX5_addStation_31 ?_
      obtain ⟨hk8, h⟩ := h
      obtain ⟨b9, hb10, h⟩ := h
      refine r_getN (ci := 3) (v := .ref b9) (C := RX2) (T := TX2) (N := 2) hx hb hts hiX2 hown hK hw (ce_4 (S := S4) hk8) rfl 0 (by decide) (hNw _ (bNw_0)) (fun _ h9 => h9) (congrArg (fun q => some (va_rf q)) hb10) dX5_addStation_34 ?_
      obtain ⟨hk11, h⟩ := h
      have h1 := h
      refine va_calli (va_runV (As := []) (rest := []) ⟨hx, hb, hml, hown, hts⟩ (m_Jx4a65c_size_8abf5 (l := l) h1) (cwV 0 hts gX5_addStation_Jx4a65c_size_8abf5 rfl rfl rfl (by decide +kernel) ⟨Nat.le_trans (Nat.le_of_ble_eq_true rfl) hRf, Nat.le_trans (Nat.le_of_ble_eq_true rfl) hRl⟩) (r_pV hB hw hS (ce_1 (S := S4) hk11) rfl) rfl rfl hl.1 rfl (lv_room (Nat.le_of_ble_eq_true rfl)) dX5_addStation_37 ⟨by omega, by omega⟩) hS (fun _ _ h => h) (fun _ h => h) (fun r12 S13 t H1 locs ht _ h hw1 _ _ hS => ?_)
      subst ht
      have hw : wd D y z S13 A t.heap := hw1
      clear hw1 h1
      refine lv_bipush (v := (14 : Int32)) hx hb dX5_addStation_40 (by decide) ?_
      refine lv_icmp_lt (tgt := 55) hx hb dX5_addStation_42 (by decide) (fun hc => ?_) (fun hc => ?_)
      · have h := h.1 hc
        refine lv_aload_n hx hb dX5_addStation_55 rfl (lv_at hl 0 rfl) ?_
        obtain ⟨hk14, h⟩ := h
        obtain ⟨b15, hb16, h⟩ := h
        refine r_get (ci := 6) (v := .ref b15) (C := RX5) (T := TX5) (N := 6) hx hb hts hiX5 hown hK hw (ce_7 (S := S13) hk14) rfl 0 (by decide) (hts (.fieldLink RX5 10 "TubePost" "net" "LTubePost$Net;") (by decide +kernel)) (fun _ h9 => h9) (congrArg (fun q => some (va_rf q)) hb16) dX5_addStation_56 ?_
        refine lv_iload_n hx hb dX5_addStation_59 rfl (lv_at hl 1 rfl) ?_
        refine lv_iload_n hx hb dX5_addStation_60 rfl (lv_at hl 2 rfl) ?_
        obtain ⟨hk17, h⟩ := h
        obtain ⟨k20, n21, hbg1, hbg2, h⟩ := h
        have h1 := h
        refine va_calli (va_runVN (As := [.int p1, .int p2]) (rest := []) ⟨hx, hb, hml, hown, hts⟩ (m_X2_build (l := l) h1) ⟨va_cnB 2 hts gX5_addStation_X2_build_n59 rfl rfl rfl (hNw _ bNw_48) (hts (.initialized RX2) (by decide +kernel)) ⟨by decide +kernel, by decide +kernel, by decide +kernel⟩ ⟨Nat.le_trans (Nat.le_of_ble_eq_true rfl) hRf, Nat.le_trans (Nat.le_of_ble_eq_true rfl) hRl⟩, (hts (.instanceMethod yX2_build) (by decide +kernel)), hts (.selects RX2 yX2_build yX2_build) (by decide +kernel)⟩ (r_pV hB hw hS (ce_4 (S := S13) hk17) rfl) rfl rfl hl.1 rfl (lv_room (Nat.le_of_ble_eq_true rfl)) dX5_addStation_61 ⟨by omega, by omega⟩) hS (fun _ _ h => h) (fun _ h => h) (fun r18 S19 t H1 locs ht _ h hw1 _ _ hS => ?_)
        subst ht
        have hw : wd D y z S19 A t.heap := hw1
        clear hw1 h1
        have hcu : (0 + k20) + (MC - k20) ≤ MC := by omega
        have hsu : (0 + n21) + (MS - n21) ≤ MS := by omega
        exact hret r18 _ _ _ _ _ _ _ h hw hS (by omega) (by omega) dX5_addStation_64
      · have h := h.2 hc
        exact h.elim
    · have h := h.2 hc
      exact hB20 _ _ _ _ _ _ _ _ h hw hS (lv_sub hl [] rfl) hcu hsu
def wp_X5_knownStation (post : Option Nat → bS → Prop) (xp : String → bS → Prop) (MC MS : Nat) (this : Nat) (p1 : Int32) (S : bS) : Prop := gK S this = 7 ∧ (∃ b2, gQ S 7 this 0 = some b2 ∧ (gK S b2 = 4 ∧ (wp_X2_hasStation (fun r5 S6 => (r5 ≠ (0 : Int32) → gK S6 this = 7 ∧ (∃ b8, gQ S6 7 this 0 = some b8 ∧ (gK S6 b8 = 4 ∧ (∃ b11, gQ S6 4 b8 0 = some b11 ∧ (gK S6 b11 = 1 ∧ (wp_Jx4a65c_get_915e3 (fun r14 S15 => ∃ b16, r14 = some b16 ∧ (gK S15 b16 = 5 ∧ (post (some b16) S15))) b11 p1 S6)))))) ∧ (r5 = (0 : Int32) → False)) b2 p1 S)))
set_option maxHeartbeats 4000000 in
set_option maxRecDepth 100000 in
theorem m_X5_knownStation {l : Launch} {D : va_G} {y : Nat → ClassId} {z : Nat} {A : Nat → Prop} {S : bS} {post : Option Nat → bS → Prop} {xp : String → bS → Prop} (hl0 : l.stackTraces = false) {MC MS : Nat} {this : Nat} {p1 : Int32} (h : wp_X5_knownStation post xp MC MS this p1 S) : vx_Met l yX5_knownStation wsX5_knownStation ({ frames := 8, cells := MC, slots := MS, locals := 400 } : Room) (va_Pc ([Value.ref this, Value.int p1] : List Value) (bP D y z S A)) (va_Qq post (fun S' t => wd D y z S' A t.heap) A) (bX D y z A xp) MC MS A := by
  refine vx_ofW (cc := cX5_knownStation) (maxL := 2) (ret := (some (.object "TubePost$Station"))) (by decide) rfl ?_
  intro p e s m args below meth c s₁ B hml hex hv
  obtain ⟨rfl, hB⟩ := hv
  have hx := B.exec
  have hb := B.bytes
  have hr := B.returns
  have hts := atoms_spec (ws := wsX5_knownStation) B.pre
  have hown : s.vm.findClass RX5 = some m.cls := findClass_of_methodNamed B.named
  have hlocks := B.notSynchronized
  have hw : wd D y z S A s.heap := hB.1
  have hK : va_K D bCl (bT y) s := hB.2.1
  have hNw := hB.2.2.1
  have hAn : ∀ q : Nat, s.heap.size ≤ q → A q := hB.2.2.2.1
  have hAz : ¬ A z := hB.2.2.2.2.1
  have hO := hB.2.2.2.2.2.1
  have hS : va_S A s.heap s.heap [] := va_S.rf
  have hiX2 : ∀ w ∈ u_ws RX2 TX2 2, w ∈ wsX5_knownStation := by decide +kernel
  have hiX5 : ∀ w ∈ u_ws RX5 TX5 6, w ∈ wsX5_knownStation := by decide +kernel
  have hl := lv_entry ([Value.ref this, Value.int p1] : List Value) (n := 2) (Nat.le_of_ble_eq_true rfl)
  rw [lg_entry_eq]
  generalize (lg_sl ([Value.ref this, Value.int p1] : List Value) ++ List.replicate (2 - (lg_sl ([Value.ref this, Value.int p1] : List Value)).length) Slot.unset).toArray = ls at hl ⊢
  have hl : lv_has ls 2 [(0, .ref this), (1, .int p1)] := hl
  obtain ⟨Q, hQ⟩ : ∃ Q, Q = vx_MQ below (va_Qq post (fun S' t => wd D y z S' A t.heap) A) (bX D y z A xp) (([Value.ref this, Value.int p1] : List Value).toArray) s MC MS A := ⟨_, rfl⟩
  rw [← hQ]
  generalize hR : (headSpec wsX5_knownStation ({ frames := 8, cells := MC, slots := MS, locals := 400 } : Room)).room = R
  have hRf : 8 ≤ R.frames := by rw [← hR]; exact Nat.le_refl _
  have hRl : 400 ≤ R.locals := by rw [← hR]; exact Nat.le_refl _
  have hRc : R.cells = MC := by rw [← hR]; rfl
  have hRs : R.slots = MS := by rw [← hR]; rfl
  have hret : ∀ (v : Option Nat) (S : bS) (H : Heap) (locs : List Loc) (pc : Nat) (ls : Array Slot) (cu su : Nat) , post v S → wd D y z S A H → va_S A s.heap H locs → cu ≤ MC → su ≤ MS → decode cX5_knownStation pc = .ok (.areturn, 1) → W p l e R s m (([Value.ref this, Value.int p1] : List Value).toArray) below meth c H locs cu su Q (F0 m pc ls [va_rf v]) := by
    intro v S H locs pc ls cu su h hw hS hcu hsu d0
    rw [hQ]; refine vx_ret ?_; refine W.widen hcu hsu ?_; exact W.aret hx hb hr (by first | exact Or.inl ⟨_, rfl⟩ | exact Or.inr ⟨_, rfl⟩) (by cases v with | none => exact Or.inl rfl | some a => exact Or.inr ⟨a, rfl⟩) (fun t ht hW => ⟨⟨v, S, rfl, h, by show wd D y z S A t.heap; rw [ht]; exact hw⟩, hS.F ht⟩) hS.2.2 d0 hlocks
  unfold wp_X5_knownStation at h
  have hcu : 0 + MC ≤ MC := by omega
  have hsu : 0 + MS ≤ MS := by omega
  refine lv_aload_n hx hb dX5_knownStation_0 rfl (lv_at hl 0 rfl) ?_
  obtain ⟨hk1, h⟩ := h
  obtain ⟨b2, hb3, h⟩ := h
  refine r_get (ci := 6) (v := .ref b2) (C := RX5) (T := TX5) (N := 6) hx hb hts hiX5 hown hK hw (ce_7 (S := S) hk1) rfl 0 (by decide) (hts (.fieldLink RX5 10 "TubePost" "net" "LTubePost$Net;") (by decide +kernel)) (fun _ h9 => h9) (congrArg (fun q => some (va_rf q)) hb3) dX5_knownStation_1 ?_
  refine lv_iload_n hx hb dX5_knownStation_4 rfl (lv_at hl 1 rfl) ?_
  obtain ⟨hk4, h⟩ := h
  have h1 := h
  refine va_calli (va_runVN (As := [.int p1]) (rest := []) ⟨hx, hb, hml, hown, hts⟩ (m_X2_hasStation (l := l) h1) ⟨va_cnB 1 hts gX5_knownStation_X2_hasStation_n278 rfl rfl rfl (hNw _ bNw_54) (hts (.initialized RX2) (by decide +kernel)) ⟨by decide +kernel, by decide +kernel, by decide +kernel⟩ ⟨Nat.le_trans (Nat.le_of_ble_eq_true rfl) hRf, Nat.le_trans (Nat.le_of_ble_eq_true rfl) hRl⟩, (hts (.instanceMethod yX2_hasStation) (by decide +kernel)), hts (.selects RX2 yX2_hasStation yX2_hasStation) (by decide +kernel)⟩ (r_pV hB hw hS (ce_4 (S := S) hk4) rfl) rfl rfl hl.1 rfl (lv_room (Nat.le_of_ble_eq_true rfl)) dX5_knownStation_5 ⟨by omega, by omega⟩) hS (fun _ _ h => h) (fun _ h => h) (fun r5 S6 t H1 locs ht _ h hw1 _ _ hS => ?_)
  subst ht
  have hw : wd D y z S6 A t.heap := hw1
  clear hw1 h1
  refine lv_if_ne (tgt := 22) hx hb dX5_knownStation_8 (by decide) (fun hc => ?_) (fun hc => ?_)
  · have h := h.1 hc
    refine lv_aload_n hx hb dX5_knownStation_22 rfl (lv_at hl 0 rfl) ?_
    obtain ⟨hk7, h⟩ := h
    obtain ⟨b8, hb9, h⟩ := h
    refine r_get (ci := 6) (v := .ref b8) (C := RX5) (T := TX5) (N := 6) hx hb hts hiX5 hown hK hw (ce_7 (S := S6) hk7) rfl 0 (by decide) (hts (.fieldLink RX5 10 "TubePost" "net" "LTubePost$Net;") (by decide +kernel)) (fun _ h9 => h9) (congrArg (fun q => some (va_rf q)) hb9) dX5_knownStation_23 ?_
    obtain ⟨hk10, h⟩ := h
    obtain ⟨b11, hb12, h⟩ := h
    refine r_getN (ci := 3) (v := .ref b11) (C := RX2) (T := TX2) (N := 2) hx hb hts hiX2 hown hK hw (ce_4 (S := S6) hk10) rfl 0 (by decide) (hNw _ (bNw_0)) (fun _ h9 => h9) (congrArg (fun q => some (va_rf q)) hb12) dX5_knownStation_26 ?_
    refine lv_iload_n hx hb dX5_knownStation_29 rfl (lv_at hl 1 rfl) ?_
    obtain ⟨hk13, h⟩ := h
    have h1 := h
    refine va_callq (va_runV (As := [.int p1]) (rest := []) ⟨hx, hb, hml, hown, hts⟩ (m_Jx4a65c_get_915e3 (l := l) h1) (cwV 1 hts gX5_knownStation_Jx4a65c_get_915e3 rfl rfl rfl (by decide +kernel) ⟨Nat.le_trans (Nat.le_of_ble_eq_true rfl) hRf, Nat.le_trans (Nat.le_of_ble_eq_true rfl) hRl⟩) (r_pV hB hw hS (ce_1 (S := S6) hk13) rfl) rfl rfl hl.1 rfl (lv_room (Nat.le_of_ble_eq_true rfl)) dX5_knownStation_30 ⟨by omega, by omega⟩) hS (fun _ _ h => h) (fun _ h => h) (fun r14 S15 t H1 locs ht _ h hw1 _ _ hS => ?_)
    subst ht
    have hw : wd D y z S15 A t.heap := hw1
    clear hw1 h1
    obtain ⟨b16, rfl, h⟩ := h
    refine W.eq (g2 := F0 m 33 ls [.ref b16]) rfl ?_
    obtain ⟨hk18, h⟩ := h
    refine r_cast hx hb hown (hts (.classLink RX5 77 "TubePost$Station") (by decide +kernel)) hK hw (ce_5 hk18) rfl dX5_knownStation_33 ?_
    exact hret (some b16) _ _ _ _ _ _ _ h hw hS (by omega) (by omega) dX5_knownStation_36
  · have h := h.2 hc
    exact h.elim
def wp_X5_refuseWrongSpeed (post : bS → Prop) (xp : String → bS → Prop) (MC MS : Nat) (p1 : Int32) (S : bS) : Prop := wp_X5_isOutside (fun r1 S2 => (r1 = (0 : Int32) → post S2) ∧ (¬ (r1 = (0 : Int32)) → False)) p1 (1 : Int32) (6 : Int32) S
set_option maxHeartbeats 4000000 in
set_option maxRecDepth 100000 in
theorem m_X5_refuseWrongSpeed {l : Launch} {D : va_G} {y : Nat → ClassId} {z : Nat} {A : Nat → Prop} {S : bS} {post : bS → Prop} {xp : String → bS → Prop} (hl0 : l.stackTraces = false) {MC MS : Nat} {p1 : Int32} (h : wp_X5_refuseWrongSpeed post xp MC MS p1 S) : vx_Met l yX5_refuseWrongSpeed wsX5_refuseWrongSpeed ({ frames := 8, cells := MC, slots := MS, locals := 400 } : Room) (va_Pc ([Value.int p1] : List Value) (bP D y z S A)) (va_Qv post (fun S' t => wd D y z S' A t.heap) A) (bX D y z A xp) MC MS A := by
  refine vx_ofW (cc := cX5_refuseWrongSpeed) (maxL := 1) (ret := none) (by decide) rfl ?_
  intro p e s m args below meth c s₁ B hml hex hv
  obtain ⟨rfl, hB⟩ := hv
  have hx := B.exec
  have hb := B.bytes
  have hr := B.returns
  have hts := atoms_spec (ws := wsX5_refuseWrongSpeed) B.pre
  have hown : s.vm.findClass RX5 = some m.cls := findClass_of_methodNamed B.named
  have hlocks := B.notSynchronized
  have hw : wd D y z S A s.heap := hB.1
  have hK : va_K D bCl (bT y) s := hB.2.1
  have hNw := hB.2.2.1
  have hAn : ∀ q : Nat, s.heap.size ≤ q → A q := hB.2.2.2.1
  have hAz : ¬ A z := hB.2.2.2.2.1
  have hO := hB.2.2.2.2.2.1
  have hS : va_S A s.heap s.heap [] := va_S.rf
  have hl := lv_entry ([Value.int p1] : List Value) (n := 1) (Nat.le_of_ble_eq_true rfl)
  rw [lg_entry_eq]
  generalize (lg_sl ([Value.int p1] : List Value) ++ List.replicate (1 - (lg_sl ([Value.int p1] : List Value)).length) Slot.unset).toArray = ls at hl ⊢
  have hl : lv_has ls 1 [(0, .int p1)] := hl
  obtain ⟨Q, hQ⟩ : ∃ Q, Q = vx_MQ below (va_Qv post (fun S' t => wd D y z S' A t.heap) A) (bX D y z A xp) (([Value.int p1] : List Value).toArray) s MC MS A := ⟨_, rfl⟩
  rw [← hQ]
  generalize hR : (headSpec wsX5_refuseWrongSpeed ({ frames := 8, cells := MC, slots := MS, locals := 400 } : Room)).room = R
  have hRf : 8 ≤ R.frames := by rw [← hR]; exact Nat.le_refl _
  have hRl : 400 ≤ R.locals := by rw [← hR]; exact Nat.le_refl _
  have hRc : R.cells = MC := by rw [← hR]; rfl
  have hRs : R.slots = MS := by rw [← hR]; rfl
  have hret : ∀ (S : bS) (H : Heap) (locs : List Loc) (pc : Nat) (ls : Array Slot) (cu su : Nat) , post S → wd D y z S A H → va_S A s.heap H locs → cu ≤ MC → su ≤ MS → decode cX5_refuseWrongSpeed pc = .ok (.return_, 1) → W p l e R s m (([Value.int p1] : List Value).toArray) below meth c H locs cu su Q (F0 m pc ls []) := by
    intro S H locs pc ls cu su h hw hS hcu hsu d0
    rw [hQ]; refine vx_ret ?_; refine W.widen hcu hsu ?_; exact W.vret hx hb hr (fun t ht hW => ⟨⟨S, rfl, h, by show wd D y z S A t.heap; rw [ht]; exact hw⟩, hS.F ht⟩) hS.2.2 d0 hlocks
  unfold wp_X5_refuseWrongSpeed at h
  have hcu : 0 + MC ≤ MC := by omega
  have hsu : 0 + MS ≤ MS := by omega
  refine lv_iload_n hx hb dX5_refuseWrongSpeed_0 rfl (lv_at hl 0 rfl) ?_
  refine lv_iconst (v := (1 : Int32)) hx hb dX5_refuseWrongSpeed_1 (by decide) ?_
  refine lv_bipush (v := (6 : Int32)) hx hb dX5_refuseWrongSpeed_2 (by decide) ?_
  have h1 := h
  refine va_calli (va_runS (As := [.int p1, .int (1 : Int32), .int (6 : Int32)]) (rest := []) ⟨hx, hb, hml, hown, hts⟩ (m_X5_isOutside (l := l) h1) (cwS 3 hts gX5_refuseWrongSpeed_X5_isOutside rfl rfl rfl (by decide +kernel) ⟨Nat.le_trans (Nat.le_of_ble_eq_true rfl) hRf, Nat.le_trans (Nat.le_of_ble_eq_true rfl) hRl⟩) (r_pS hB hw hS) rfl rfl hl.1 rfl (lv_room (Nat.le_of_ble_eq_true rfl)) dX5_refuseWrongSpeed_4 ⟨by omega, by omega⟩) hS (fun _ _ h => h) (fun _ h => h) (fun r1 S2 t H1 locs ht _ h hw1 _ _ hS => ?_)
  subst ht
  have hw : wd D y z S2 A t.heap := hw1
  clear hw1 h1
  refine lv_if_eq (tgt := 21) hx hb dX5_refuseWrongSpeed_7 (by decide) (fun hc => ?_) (fun hc => ?_)
  · have h := h.1 hc
    exact hret _ _ _ _ _ _ _ h hw hS (by omega) (by omega) dX5_refuseWrongSpeed_21
  · have h := h.2 hc
    exact h.elim
def wb_X5_addTube_42 (post : Int32 → bS → Prop) (xp : String → bS → Prop) (mc ms : Nat) (S : bS) : Prop := False
def wb_X5_addTube_84 (post : Int32 → bS → Prop) (xp : String → bS → Prop) (mc ms : Nat) (S : bS) : Prop := False
def wp_X5_addTube (post : Int32 → bS → Prop) (xp : String → bS → Prop) (MC MS : Nat) (this : Nat) (p1 : Int32) (p2 : Int32) (p3 : Int32) (p4 : Int32) (p5 : Int32) (S : bS) : Prop := gK S this = 7 ∧ (∃ k6 n7, k6 ≤ MC ∧ n7 ≤ MS ∧ (wp_X5_knownStation (fun r2 S3 => ∃ b4, r2 = some b4 ∧ (gK S3 this = 7 ∧ (∃ k13 n14, k13 ≤ (MC - k6) ∧ n14 ≤ (MS - n7) ∧ (wp_X5_knownStation (fun r9 S10 => ∃ b11, r9 = some b11 ∧ (((some b4) = (some b11) → wb_X5_addTube_42 post xp ((MC - k6) - k13) ((MS - n7) - n14) S10) ∧ (¬ ((some b4) = (some b11)) → wp_X5_isOutside (fun r15 S16 => (r15 ≠ (0 : Int32) → wb_X5_addTube_42 post xp ((MC - k6) - k13) ((MS - n7) - n14) S16) ∧ (r15 = (0 : Int32) → wp_X5_isOutside (fun r17 S18 => (r17 = (0 : Int32) → ∃ k21 n22, k21 ≤ ((MC - k6) - k13) ∧ n22 ≤ ((MS - n7) - n14) ∧ (wp_X5_refuseWrongSpeed (fun S20 => gK S20 this = 7 ∧ (∃ b24, gQ S20 7 this 0 = some b24 ∧ (gK S20 b24 = 4 ∧ (∃ b27, gQ S20 4 b24 1 = some b27 ∧ (gK S20 b27 = 1 ∧ (wp_Jx4a65c_size_8abf5 (fun r30 S31 => ((30 : Int32) ≤ r30 → wb_X5_addTube_84 post xp (((MC - k6) - k13) - k21) (((MS - n7) - n14) - n22) S31) ∧ (¬ ((30 : Int32) ≤ r30) → gK S31 b4 = 5 ∧ (∃ b33, gQ S31 5 b4 3 = some b33 ∧ (gK S31 b33 = 1 ∧ (wp_Jx4a65c_size_8abf5 (fun r36 S37 => (r36 < (4 : Int32) → gK S37 this = 7 ∧ (∃ b39, gQ S37 7 this 0 = some b39 ∧ (gK S37 b39 = 4 ∧ (∃ k44 n45, k44 ≤ (((MC - k6) - k13) - k21) ∧ n45 ≤ (((MS - n7) - n14) - n22) ∧ (wp_X2_lay (fun r42 S43 => post r42 S43) k44 n45 b39 b4 b11 p3 p4 p5 S37))))) ∧ (¬ (r36 < (4 : Int32)) → wb_X5_addTube_84 post xp (((MC - k6) - k13) - k21) (((MS - n7) - n14) - n22) S37)) b33 S31))))) b27 S20)))))) xp k21 n22 p4 S18)) ∧ (¬ (r17 = (0 : Int32)) → wb_X5_addTube_42 post xp ((MC - k6) - k13) ((MS - n7) - n14) S18)) p5 (1 : Int32) (8 : Int32) S16)) p3 (1 : Int32) (60 : Int32) S10))) xp k13 n14 this p2 S3)))) xp k6 n7 this p1 S))
set_option maxHeartbeats 4000000 in
set_option maxRecDepth 100000 in
theorem m_X5_addTube {l : Launch} {D : va_G} {y : Nat → ClassId} {z : Nat} {A : Nat → Prop} {S : bS} {post : Int32 → bS → Prop} {xp : String → bS → Prop} (hl0 : l.stackTraces = false) {MC MS : Nat} {this : Nat} {p1 : Int32} {p2 : Int32} {p3 : Int32} {p4 : Int32} {p5 : Int32} (h : wp_X5_addTube post xp MC MS this p1 p2 p3 p4 p5 S) : vx_Met l yX5_addTube wsX5_addTube ({ frames := 9, cells := MC, slots := MS, locals := 421 } : Room) (va_Pc ([Value.ref this, Value.int p1, Value.int p2, Value.int p3, Value.int p4, Value.int p5] : List Value) (bP D y z S A)) (va_Qi post (fun S' t => wd D y z S' A t.heap) A) (bX D y z A xp) MC MS A := by
  refine vx_ofW (cc := cX5_addTube) (maxL := 8) (ret := (some .int)) (by decide) rfl ?_
  intro p e s m args below meth c s₁ B hml hex hv
  obtain ⟨rfl, hB⟩ := hv
  have hx := B.exec
  have hb := B.bytes
  have hr := B.returns
  have hts := atoms_spec (ws := wsX5_addTube) B.pre
  have hown : s.vm.findClass RX5 = some m.cls := findClass_of_methodNamed B.named
  have hlocks := B.notSynchronized
  have hw : wd D y z S A s.heap := hB.1
  have hK : va_K D bCl (bT y) s := hB.2.1
  have hNw := hB.2.2.1
  have hAn : ∀ q : Nat, s.heap.size ≤ q → A q := hB.2.2.2.1
  have hAz : ¬ A z := hB.2.2.2.2.1
  have hO := hB.2.2.2.2.2.1
  have hS : va_S A s.heap s.heap [] := va_S.rf
  have hiX2 : ∀ w ∈ u_ws RX2 TX2 2, w ∈ wsX5_addTube := by decide +kernel
  have hiX3 : ∀ w ∈ u_ws RX3 TX3 10, w ∈ wsX5_addTube := by decide +kernel
  have hiX5 : ∀ w ∈ u_ws RX5 TX5 6, w ∈ wsX5_addTube := by decide +kernel
  have hl := lv_entry ([Value.ref this, Value.int p1, Value.int p2, Value.int p3, Value.int p4, Value.int p5] : List Value) (n := 8) (Nat.le_of_ble_eq_true rfl)
  rw [lg_entry_eq]
  generalize (lg_sl ([Value.ref this, Value.int p1, Value.int p2, Value.int p3, Value.int p4, Value.int p5] : List Value) ++ List.replicate (8 - (lg_sl ([Value.ref this, Value.int p1, Value.int p2, Value.int p3, Value.int p4, Value.int p5] : List Value)).length) Slot.unset).toArray = ls at hl ⊢
  have hl : lv_has ls 8 [(0, .ref this), (1, .int p1), (2, .int p2), (3, .int p3), (4, .int p4), (5, .int p5)] := hl
  obtain ⟨Q, hQ⟩ : ∃ Q, Q = vx_MQ below (va_Qi post (fun S' t => wd D y z S' A t.heap) A) (bX D y z A xp) (([Value.ref this, Value.int p1, Value.int p2, Value.int p3, Value.int p4, Value.int p5] : List Value).toArray) s MC MS A := ⟨_, rfl⟩
  rw [← hQ]
  generalize hR : (headSpec wsX5_addTube ({ frames := 9, cells := MC, slots := MS, locals := 421 } : Room)).room = R
  have hRf : 9 ≤ R.frames := by rw [← hR]; exact Nat.le_refl _
  have hRl : 421 ≤ R.locals := by rw [← hR]; exact Nat.le_refl _
  have hRc : R.cells = MC := by rw [← hR]; rfl
  have hRs : R.slots = MS := by rw [← hR]; rfl
  have hret : ∀ (v : Int32) (S : bS) (H : Heap) (locs : List Loc) (pc : Nat) (ls : Array Slot) (cu su : Nat) , post v S → wd D y z S A H → va_S A s.heap H locs → cu ≤ MC → su ≤ MS → decode cX5_addTube pc = .ok (.ireturn, 1) → W p l e R s m (([Value.ref this, Value.int p1, Value.int p2, Value.int p3, Value.int p4, Value.int p5] : List Value).toArray) below meth c H locs cu su Q (F0 m pc ls [.int v]) := by
    intro v S H locs pc ls cu su h hw hS hcu hsu d0
    rw [hQ]; refine vx_ret ?_; refine W.widen hcu hsu ?_; exact W.iret hx hb hr (fun t ht hW => ⟨⟨v, S, rfl, h, by show wd D y z S A t.heap; rw [ht]; exact hw⟩, hS.F ht⟩) hS.2.2 d0 hlocks
  have hB42 : ∀ (S : bS) (H : Heap) (locs : List Loc) (ls : Array Slot) (mc ms cu su : Nat) , wb_X5_addTube_42 post xp mc ms S → wd D y z S A H → va_S A s.heap H locs → lv_has ls 8 [] → cu + mc ≤ MC → su + ms ≤ MS → W p l e R s m (([Value.ref this, Value.int p1, Value.int p2, Value.int p3, Value.int p4, Value.int p5] : List Value).toArray) below meth c H locs cu su Q (F0 m 42 ls []) := by
    intro S H locs ls mc ms cu su  h hw hS hl hcu hsu
    unfold wb_X5_addTube_42 at h
    exact h.elim
  have hB84 : ∀ (S : bS) (H : Heap) (locs : List Loc) (ls : Array Slot) (mc ms cu su : Nat) , wb_X5_addTube_84 post xp mc ms S → wd D y z S A H → va_S A s.heap H locs → lv_has ls 8 [] → cu + mc ≤ MC → su + ms ≤ MS → W p l e R s m (([Value.ref this, Value.int p1, Value.int p2, Value.int p3, Value.int p4, Value.int p5] : List Value).toArray) below meth c H locs cu su Q (F0 m 84 ls []) := by
    intro S H locs ls mc ms cu su  h hw hS hl hcu hsu
    unfold wb_X5_addTube_84 at h
    exact h.elim
  unfold wp_X5_addTube at h
  have hcu : 0 + MC ≤ MC := by omega
  have hsu : 0 + MS ≤ MS := by omega
  refine lv_aload_n hx hb dX5_addTube_0 rfl (lv_at hl 0 rfl) ?_
  refine lv_iload_n hx hb dX5_addTube_1 rfl (lv_at hl 1 rfl) ?_
  obtain ⟨hk1, h⟩ := h
  obtain ⟨k6, n7, hbg1, hbg2, h⟩ := h
  have h1 := h
  refine vx_callq (vx_runV (As := [.int p1]) (rest := []) ⟨hx, hb, hml, hown, hts⟩ (m_X5_knownStation (l := l) hl0 h1) (cwV 1 hts gX5_addTube_X5_knownStation rfl rfl rfl (by decide +kernel) ⟨Nat.le_trans (Nat.le_of_ble_eq_true rfl) hRf, Nat.le_trans (Nat.le_of_ble_eq_true rfl) hRl⟩) (r_pV hB hw hS (ce_7 (S := S) hk1) rfl) rfl rfl hl.1 rfl (lv_room (Nat.le_of_ble_eq_true rfl)) dX5_addTube_2 ⟨by omega, by omega⟩) hS (fun _ _ h => h) (fun _ h => h) (fun _ _ h => h) (fun E ce q9 S3 t H1 locs ht hal _ hq hz9 hk9 hS hq9 hvm9 hfc9 => by rw [hQ]; exact vx_out (fun x hx => (hex x hx).elim) hlocks hq9 hvm9 hfc9 (fun t9 ht9 _ => ⟨S3, trivial, ⟨hq.1, by rw [ht9, ← ht]; exact hq.2⟩, hS.F ht9⟩) hS.2.2 (by omega) (by omega)) (fun r2 S3 t H1 locs ht _ h hw1 _ _ hS => ?_)
  subst ht
  have hw : wd D y z S3 A t.heap := hw1
  clear hw1 h1
  have hcu : (0 + k6) + (MC - k6) ≤ MC := by omega
  have hsu : (0 + n7) + (MS - n7) ≤ MS := by omega
  obtain ⟨b4, rfl, h⟩ := h
  refine W.eq (g2 := F0 m 5 ls [.ref b4]) rfl ?_
  refine lv_astore hx hb dX5_addTube_5 hl (by decide) rfl (fun ls hl => ?_)
  have hl : lv_has ls 8 [(6, .ref b4), (0, .ref this), (1, .int p1), (2, .int p2), (3, .int p3), (4, .int p4), (5, .int p5)] := hl
  refine lv_aload_n hx hb dX5_addTube_7 rfl (lv_at hl 1 rfl) ?_
  refine lv_iload_n hx hb dX5_addTube_8 rfl (lv_at hl 3 rfl) ?_
  obtain ⟨hk8, h⟩ := h
  obtain ⟨k13, n14, hbg1, hbg2, h⟩ := h
  have h1 := h
  refine vx_callq (vx_runV (As := [.int p2]) (rest := []) ⟨hx, hb, hml, hown, hts⟩ (m_X5_knownStation (l := l) hl0 h1) (cwV 1 hts gX5_addTube_X5_knownStation rfl rfl rfl (by decide +kernel) ⟨Nat.le_trans (Nat.le_of_ble_eq_true rfl) hRf, Nat.le_trans (Nat.le_of_ble_eq_true rfl) hRl⟩) (r_pV hB hw hS (ce_7 (S := S3) hk8) rfl) rfl rfl hl.1 rfl (lv_room (Nat.le_of_ble_eq_true rfl)) dX5_addTube_9 ⟨by omega, by omega⟩) hS (fun _ _ h => h) (fun _ h => h) (fun _ _ h => h) (fun E ce q9 S10 t H1 locs ht hal _ hq hz9 hk9 hS hq9 hvm9 hfc9 => by rw [hQ]; exact vx_out (fun x hx => (hex x hx).elim) hlocks hq9 hvm9 hfc9 (fun t9 ht9 _ => ⟨S10, trivial, ⟨hq.1, by rw [ht9, ← ht]; exact hq.2⟩, hS.F ht9⟩) hS.2.2 (by omega) (by omega)) (fun r9 S10 t H1 locs ht _ h hw1 _ _ hS => ?_)
  subst ht
  have hw : wd D y z S10 A t.heap := hw1
  clear hw1 h1
  have hcu : ((0 + k6) + k13) + ((MC - k6) - k13) ≤ MC := by omega
  have hsu : ((0 + n7) + n14) + ((MS - n7) - n14) ≤ MS := by omega
  obtain ⟨b11, rfl, h⟩ := h
  refine W.eq (g2 := F0 m 12 ls [.ref b11]) rfl ?_
  refine lv_astore hx hb dX5_addTube_12 hl (by decide) rfl (fun ls hl => ?_)
  have hl : lv_has ls 8 [(7, .ref b11), (6, .ref b4), (0, .ref this), (1, .int p1), (2, .int p2), (3, .int p3), (4, .int p4), (5, .int p5)] := hl
  refine lv_aload hx hb dX5_addTube_14 (lv_at hl 1 rfl) ?_
  refine lv_aload hx hb dX5_addTube_16 (lv_at hl 0 rfl) ?_
  refine lv_acmp_eq (rx := (some b4)) (ry := (some b11)) (tgt := 42) hx hb dX5_addTube_18 (by decide) (fun hc => ?_) (fun hc => ?_)
  · have h := h.1 hc
    exact hB42 _ _ _ _ _ _ _ _ h hw hS (lv_sub hl [] rfl) hcu hsu
  · have h := h.2 hc
    refine lv_iload_n hx hb dX5_addTube_21 rfl (lv_at hl 5 rfl) ?_
    refine lv_iconst (v := (1 : Int32)) hx hb dX5_addTube_22 (by decide) ?_
    refine lv_bipush (v := (60 : Int32)) hx hb dX5_addTube_23 (by decide) ?_
    have h1 := h
    refine va_calli (va_runS (As := [.int p3, .int (1 : Int32), .int (60 : Int32)]) (rest := []) ⟨hx, hb, hml, hown, hts⟩ (m_X5_isOutside (l := l) h1) (cwS 3 hts gX5_addTube_X5_isOutside rfl rfl rfl (by decide +kernel) ⟨Nat.le_trans (Nat.le_of_ble_eq_true rfl) hRf, Nat.le_trans (Nat.le_of_ble_eq_true rfl) hRl⟩) (r_pS hB hw hS) rfl rfl hl.1 rfl (lv_room (Nat.le_of_ble_eq_true rfl)) dX5_addTube_25 ⟨by omega, by omega⟩) hS (fun _ _ h => h) (fun _ h => h) (fun r15 S16 t H1 locs ht _ h hw1 _ _ hS => ?_)
    subst ht
    have hw : wd D y z S16 A t.heap := hw1
    clear hw1 h1
    refine lv_if_ne (tgt := 42) hx hb dX5_addTube_28 (by decide) (fun hc => ?_) (fun hc => ?_)
    · have h := h.1 hc
      exact hB42 _ _ _ _ _ _ _ _ h hw hS (lv_sub hl [] rfl) hcu hsu
    · have h := h.2 hc
      refine lv_iload hx hb dX5_addTube_31 (lv_at hl 7 rfl) ?_
      refine lv_iconst (v := (1 : Int32)) hx hb dX5_addTube_33 (by decide) ?_
      refine lv_bipush (v := (8 : Int32)) hx hb dX5_addTube_34 (by decide) ?_
      have h1 := h
      refine va_calli (va_runS (As := [.int p5, .int (1 : Int32), .int (8 : Int32)]) (rest := []) ⟨hx, hb, hml, hown, hts⟩ (m_X5_isOutside (l := l) h1) (cwS 3 hts gX5_addTube_X5_isOutside rfl rfl rfl (by decide +kernel) ⟨Nat.le_trans (Nat.le_of_ble_eq_true rfl) hRf, Nat.le_trans (Nat.le_of_ble_eq_true rfl) hRl⟩) (r_pS hB hw hS) rfl rfl hl.1 rfl (lv_room (Nat.le_of_ble_eq_true rfl)) dX5_addTube_36 ⟨by omega, by omega⟩) hS (fun _ _ h => h) (fun _ h => h) (fun r17 S18 t H1 locs ht _ h hw1 _ _ hS => ?_)
      subst ht
      have hw : wd D y z S18 A t.heap := hw1
      clear hw1 h1
      refine lv_if_eq (tgt := 52) hx hb dX5_addTube_39 (by decide) (fun hc => ?_) (fun hc => ?_)
      · have h := h.1 hc
        refine lv_iload hx hb dX5_addTube_52 (lv_at hl 6 rfl) ?_
        obtain ⟨k21, n22, hbg1, hbg2, h⟩ := h
        have h1 := h
        refine vx_callv (vx_runS (As := [.int p4]) (rest := []) ⟨hx, hb, hml, hown, hts⟩ (m_X5_refuseWrongSpeed (l := l) hl0 h1) (cwS 1 hts gX5_addTube_X5_refuseWrongSpeed rfl rfl rfl (by decide +kernel) ⟨Nat.le_trans (Nat.le_of_ble_eq_true rfl) hRf, Nat.le_trans (Nat.le_of_ble_eq_true rfl) hRl⟩) (r_pS hB hw hS) rfl rfl hl.1 rfl (lv_room (Nat.le_of_ble_eq_true rfl)) dX5_addTube_54 ⟨by omega, by omega⟩) hS (fun _ _ h => h) (fun _ h => h) (fun _ _ h => h) (fun E ce q9 S20 t H1 locs ht hal _ hq hz9 hk9 hS hq9 hvm9 hfc9 => by rw [hQ]; exact vx_out (fun x hx => (hex x hx).elim) hlocks hq9 hvm9 hfc9 (fun t9 ht9 _ => ⟨S20, trivial, ⟨hq.1, by rw [ht9, ← ht]; exact hq.2⟩, hS.F ht9⟩) hS.2.2 (by omega) (by omega)) (fun S20 t H1 locs ht _ h hw1 _ _ hS => ?_)
        subst ht
        have hw : wd D y z S20 A t.heap := hw1
        clear hw1 h1
        have hcu : (((0 + k6) + k13) + k21) + (((MC - k6) - k13) - k21) ≤ MC := by omega
        have hsu : (((0 + n7) + n14) + n22) + (((MS - n7) - n14) - n22) ≤ MS := by omega
        refine lv_aload_n hx hb dX5_addTube_57 rfl (lv_at hl 2 rfl) ?_
        obtain ⟨hk23, h⟩ := h
        obtain ⟨b24, hb25, h⟩ := h
        refine r_get (ci := 6) (v := .ref b24) (C := RX5) (T := TX5) (N := 6) hx hb hts hiX5 hown hK hw (ce_7 (S := S20) hk23) rfl 0 (by decide) (hts (.fieldLink RX5 10 "TubePost" "net" "LTubePost$Net;") (by decide +kernel)) (fun _ h9 => h9) (congrArg (fun q => some (va_rf q)) hb25) dX5_addTube_58 ?_
        obtain ⟨hk26, h⟩ := h
        obtain ⟨b27, hb28, h⟩ := h
        refine r_getN (ci := 3) (v := .ref b27) (C := RX2) (T := TX2) (N := 2) hx hb hts hiX2 hown hK hw (ce_4 (S := S20) hk26) rfl 1 (by decide) (hNw _ (bNw_1)) (fun _ h9 => h9) (congrArg (fun q => some (va_rf q)) hb28) dX5_addTube_61 ?_
        obtain ⟨hk29, h⟩ := h
        have h1 := h
        refine va_calli (va_runV (As := []) (rest := []) ⟨hx, hb, hml, hown, hts⟩ (m_Jx4a65c_size_8abf5 (l := l) h1) (cwV 0 hts gX5_addTube_Jx4a65c_size_8abf5 rfl rfl rfl (by decide +kernel) ⟨Nat.le_trans (Nat.le_of_ble_eq_true rfl) hRf, Nat.le_trans (Nat.le_of_ble_eq_true rfl) hRl⟩) (r_pV hB hw hS (ce_1 (S := S20) hk29) rfl) rfl rfl hl.1 rfl (lv_room (Nat.le_of_ble_eq_true rfl)) dX5_addTube_64 ⟨by omega, by omega⟩) hS (fun _ _ h => h) (fun _ h => h) (fun r30 S31 t H1 locs ht _ h hw1 _ _ hS => ?_)
        subst ht
        have hw : wd D y z S31 A t.heap := hw1
        clear hw1 h1
        refine lv_bipush (v := (30 : Int32)) hx hb dX5_addTube_67 (by decide) ?_
        refine lv_icmp_ge (tgt := 84) hx hb dX5_addTube_69 (by decide) (fun hc => ?_) (fun hc => ?_)
        · have h := h.1 hc
          exact hB84 _ _ _ _ _ _ _ _ h hw hS (lv_sub hl [] rfl) hcu hsu
        · have h := h.2 hc
          refine lv_aload hx hb dX5_addTube_72 (lv_at hl 1 rfl) ?_
          obtain ⟨hk32, h⟩ := h
          obtain ⟨b33, hb34, h⟩ := h
          refine r_getN (ci := 4) (v := .ref b33) (C := RX3) (T := TX3) (N := 10) hx hb hts hiX3 hown hK hw (ce_5 (S := S31) hk32) rfl 3 (by decide) (hNw _ (bNw_2)) (fun _ h9 => h9) (congrArg (fun q => some (va_rf q)) hb34) dX5_addTube_74 ?_
          obtain ⟨hk35, h⟩ := h
          have h1 := h
          refine va_calli (va_runV (As := []) (rest := []) ⟨hx, hb, hml, hown, hts⟩ (m_Jx4a65c_size_8abf5 (l := l) h1) (cwV 0 hts gX5_addTube_Jx4a65c_size_8abf5 rfl rfl rfl (by decide +kernel) ⟨Nat.le_trans (Nat.le_of_ble_eq_true rfl) hRf, Nat.le_trans (Nat.le_of_ble_eq_true rfl) hRl⟩) (r_pV hB hw hS (ce_1 (S := S31) hk35) rfl) rfl rfl hl.1 rfl (lv_room (Nat.le_of_ble_eq_true rfl)) dX5_addTube_77 ⟨by omega, by omega⟩) hS (fun _ _ h => h) (fun _ h => h) (fun r36 S37 t H1 locs ht _ h hw1 _ _ hS => ?_)
          subst ht
          have hw : wd D y z S37 A t.heap := hw1
          clear hw1 h1
          refine lv_iconst (v := (4 : Int32)) hx hb dX5_addTube_80 (by decide) ?_
          refine lv_icmp_lt (tgt := 94) hx hb dX5_addTube_81 (by decide) (fun hc => ?_) (fun hc => ?_)
          · have h := h.1 hc
            refine lv_aload_n hx hb dX5_addTube_94 rfl (lv_at hl 2 rfl) ?_
            obtain ⟨hk38, h⟩ := h
            obtain ⟨b39, hb40, h⟩ := h
            refine r_get (ci := 6) (v := .ref b39) (C := RX5) (T := TX5) (N := 6) hx hb hts hiX5 hown hK hw (ce_7 (S := S37) hk38) rfl 0 (by decide) (hts (.fieldLink RX5 10 "TubePost" "net" "LTubePost$Net;") (by decide +kernel)) (fun _ h9 => h9) (congrArg (fun q => some (va_rf q)) hb40) dX5_addTube_95 ?_
            refine lv_aload hx hb dX5_addTube_98 (lv_at hl 1 rfl) ?_
            refine lv_aload hx hb dX5_addTube_100 (lv_at hl 0 rfl) ?_
            refine lv_iload_n hx hb dX5_addTube_102 rfl (lv_at hl 5 rfl) ?_
            refine lv_iload hx hb dX5_addTube_103 (lv_at hl 6 rfl) ?_
            refine lv_iload hx hb dX5_addTube_105 (lv_at hl 7 rfl) ?_
            obtain ⟨hk41, h⟩ := h
            obtain ⟨k44, n45, hbg1, hbg2, h⟩ := h
            have h1 := h
            refine va_calli (va_runVN (As := [.ref b4, .ref b11, .int p3, .int p4, .int p5]) (rest := []) ⟨hx, hb, hml, hown, hts⟩ (m_X2_lay (l := l) h1) ⟨va_cnB 5 hts gX5_addTube_X2_lay_n83 rfl rfl rfl (hNw _ bNw_49) (hts (.initialized RX2) (by decide +kernel)) ⟨by decide +kernel, by decide +kernel, by decide +kernel⟩ ⟨Nat.le_trans (Nat.le_of_ble_eq_true rfl) hRf, Nat.le_trans (Nat.le_of_ble_eq_true rfl) hRl⟩, (hts (.instanceMethod yX2_lay) (by decide +kernel)), hts (.selects RX2 yX2_lay yX2_lay) (by decide +kernel)⟩ (r_pV hB hw hS (ce_4 (S := S37) hk41) rfl) rfl rfl hl.1 rfl (lv_room (Nat.le_of_ble_eq_true rfl)) dX5_addTube_107 ⟨by omega, by omega⟩) hS (fun _ _ h => h) (fun _ h => h) (fun r42 S43 t H1 locs ht _ h hw1 _ _ hS => ?_)
            subst ht
            have hw : wd D y z S43 A t.heap := hw1
            clear hw1 h1
            have hcu : ((((0 + k6) + k13) + k21) + k44) + ((((MC - k6) - k13) - k21) - k44) ≤ MC := by omega
            have hsu : ((((0 + n7) + n14) + n22) + n45) + ((((MS - n7) - n14) - n22) - n45) ≤ MS := by omega
            exact hret r42 _ _ _ _ _ _ _ h hw hS (by omega) (by omega) dX5_addTube_110
          · have h := h.2 hc
            exact hB84 _ _ _ _ _ _ _ _ h hw hS (lv_sub hl [] rfl) hcu hsu
      · have h := h.2 hc
        exact hB42 _ _ _ _ _ _ _ _ h hw hS (lv_sub hl [] rfl) hcu hsu
def wp_X5_underWay (post : Int32 → bS → Prop) (this : Nat) (S : bS) : Prop := gK S this = 7 ∧ (∃ b2, gQ S 7 this 2 = some b2 ∧ (gK S b2 = 1 ∧ (wp_Jx4a65c_size_8abf5 (fun r5 S6 => gK S6 this = 7 ∧ (post (r5 - (gV S6 7 this 4)) S6)) b2 S)))
set_option maxHeartbeats 4000000 in
set_option maxRecDepth 100000 in
theorem m_X5_underWay {l : Launch} {D : va_G} {y : Nat → ClassId} {z : Nat} {A : Nat → Prop} {S : bS} {post : Int32 → bS → Prop} {this : Nat} (h : wp_X5_underWay post this S) : Met l yX5_underWay wsX5_underWay ({ frames := 1, cells := 0, slots := 0, locals := 20 } : Room) (va_Pc ([Value.ref this] : List Value) (bP D y z S A)) (va_Qi post (fun S' t => wd D y z S' A t.heap) A) 0 0 A := by
  refine Met.ofW (cc := cX5_underWay) (maxL := 1) (ret := (some .int)) (by decide) rfl ?_
  intro p e s m args below meth c s₁ B hml hv
  obtain ⟨rfl, hB⟩ := hv
  have hx := B.exec
  have hb := B.bytes
  have hr := B.returns
  have hts := atoms_spec (ws := wsX5_underWay) B.pre
  have hown : s.vm.findClass RX5 = some m.cls := findClass_of_methodNamed B.named
  have hlocks := B.notSynchronized
  have hw : wd D y z S A s.heap := hB.1
  have hK : va_K D bCl (bT y) s := hB.2.1
  have hNw := hB.2.2.1
  have hAn : ∀ q : Nat, s.heap.size ≤ q → A q := hB.2.2.2.1
  have hAz : ¬ A z := hB.2.2.2.2.1
  have hO := hB.2.2.2.2.2.1
  have hS : va_S A s.heap s.heap [] := va_S.rf
  have hiX5 : ∀ w ∈ u_ws RX5 TX5 6, w ∈ wsX5_underWay := by decide +kernel
  have hl := lv_entry ([Value.ref this] : List Value) (n := 1) (Nat.le_of_ble_eq_true rfl)
  rw [lg_entry_eq]
  generalize (lg_sl ([Value.ref this] : List Value) ++ List.replicate (1 - (lg_sl ([Value.ref this] : List Value)).length) Slot.unset).toArray = ls at hl ⊢
  have hl : lv_has ls 1 [(0, .ref this)] := hl
  obtain ⟨Q, hQ⟩ : ∃ Q, Q = MQ below (va_Qi post (fun S' t => wd D y z S' A t.heap) A) (([Value.ref this] : List Value).toArray) s 0 0 A := ⟨_, rfl⟩
  rw [← hQ]
  generalize hR : (headSpec wsX5_underWay ({ frames := 1, cells := 0, slots := 0, locals := 20 } : Room)).room = R
  have hRf : 1 ≤ R.frames := by rw [← hR]; exact Nat.le_refl _
  have hRl : 20 ≤ R.locals := by rw [← hR]; exact Nat.le_refl _
  have hret : ∀ (v : Int32) (S : bS) (H : Heap) (locs : List Loc) (pc : Nat) (ls : Array Slot) , post v S → wd D y z S A H → va_S A s.heap H locs → decode cX5_underWay pc = .ok (.ireturn, 1) → W p l e R s m (([Value.ref this] : List Value).toArray) below meth c H locs 0 0 Q (F0 m pc ls [.int v]) := by
    intro v S H locs pc ls h hw hS d0
    rw [hQ]; exact W.iret hx hb hr (fun t ht hW => ⟨⟨v, S, rfl, h, by show wd D y z S A t.heap; rw [ht]; exact hw⟩, hS.F ht⟩) hS.2.2 d0 hlocks
  unfold wp_X5_underWay at h
  refine lv_aload_n hx hb dX5_underWay_0 rfl (lv_at hl 0 rfl) ?_
  obtain ⟨hk1, h⟩ := h
  obtain ⟨b2, hb3, h⟩ := h
  refine r_get (ci := 6) (v := .ref b2) (C := RX5) (T := TX5) (N := 6) hx hb hts hiX5 hown hK hw (ce_7 (S := S) hk1) rfl 2 (by decide) (hts (.fieldLink RX5 23 "TubePost" "carriers" "Ljava/util/ArrayList;") (by decide +kernel)) (fun _ h9 => h9) (congrArg (fun q => some (va_rf q)) hb3) dX5_underWay_1 ?_
  obtain ⟨hk4, h⟩ := h
  have h1 := h
  refine va_calli (va_runV (As := []) (rest := []) ⟨hx, hb, hml, hown, hts⟩ (m_Jx4a65c_size_8abf5 (l := l) h1) (cwV 0 hts gX5_underWay_Jx4a65c_size_8abf5 rfl rfl rfl (by decide +kernel) ⟨Nat.le_trans (Nat.le_of_ble_eq_true rfl) hRf, Nat.le_trans (Nat.le_of_ble_eq_true rfl) hRl⟩) (r_pV hB hw hS (ce_1 (S := S) hk4) rfl) rfl rfl hl.1 rfl (lv_room (Nat.le_of_ble_eq_true rfl)) dX5_underWay_4 ⟨Nat.zero_le _, Nat.zero_le _⟩) hS (fun _ _ h => h) (fun _ h => h) (fun r5 S6 t H1 locs ht _ h hw1 _ _ hS => ?_)
  subst ht
  have hw : wd D y z S6 A t.heap := hw1
  clear hw1 h1
  refine lv_aload_n hx hb dX5_underWay_7 rfl (lv_at hl 0 rfl) ?_
  obtain ⟨hk7, h⟩ := h
  refine r_get (ci := 6) (v := .int (gV S6 7 this 4)) (C := RX5) (T := TX5) (N := 6) hx hb hts hiX5 hown hK hw (ce_7 (S := S6) hk7) rfl 4 (by decide) (hts (.fieldLink RX5 30 "TubePost" "delivered" "I") (by decide +kernel)) (fun _ h9 => h9) rfl dX5_underWay_8 ?_
  refine lv_isub hx hb dX5_underWay_11 ?_
  exact hret (r5 - (gV S6 7 this 4)) _ _ _ _ _ h hw hS dX5_underWay_12
def wb_X5_canTakeLetterAt_34 (post : Int32 → bS → Prop) (s0 : Int32) (S : bS) : Prop := (s0 = 0 ∨ s0 = 1) ∧ post s0 S
def wb_X5_canTakeLetterAt_33 (post : Int32 → bS → Prop) (S : bS) : Prop := wb_X5_canTakeLetterAt_34 post (0 : Int32) S
def wp_X5_canTakeLetterAt (post : Int32 → bS → Prop) (this : Nat) (p1 : Nat) (S : bS) : Prop := gK S p1 = 5 ∧ (wp_X3_hasRoom (fun r2 S3 => (r2 = (0 : Int32) → wb_X5_canTakeLetterAt_33 post S3) ∧ (¬ (r2 = (0 : Int32)) → gK S3 this = 7 ∧ (wp_X5_underWay (fun r5 S6 => ((40 : Int32) ≤ r5 → wb_X5_canTakeLetterAt_33 post S6) ∧ (¬ ((40 : Int32) ≤ r5) → gK S6 this = 7 ∧ (∃ b8, gQ S6 7 this 2 = some b8 ∧ (gK S6 b8 = 1 ∧ (wp_Jx4a65c_size_8abf5 (fun r11 S12 => ((500 : Int32) ≤ r11 → wb_X5_canTakeLetterAt_33 post S12) ∧ (¬ ((500 : Int32) ≤ r11) → wb_X5_canTakeLetterAt_34 post (1 : Int32) S12)) b8 S6))))) this S3))) p1 S)
set_option maxHeartbeats 4000000 in
set_option maxRecDepth 100000 in
theorem m_X5_canTakeLetterAt {l : Launch} {D : va_G} {y : Nat → ClassId} {z : Nat} {A : Nat → Prop} {S : bS} {post : Int32 → bS → Prop} {this : Nat} {p1 : Nat} (h : wp_X5_canTakeLetterAt post this p1 S) : Met l yX5_canTakeLetterAt wsX5_canTakeLetterAt ({ frames := 2, cells := 0, slots := 0, locals := 40 } : Room) (va_Pc ([Value.ref this, Value.ref p1] : List Value) (bP D y z S A)) (va_Qi post (fun S' t => wd D y z S' A t.heap) A) 0 0 A := by
  refine Met.ofW (cc := cX5_canTakeLetterAt) (maxL := 2) (ret := (some .boolean)) (by decide) rfl ?_
  intro p e s m args below meth c s₁ B hml hv
  obtain ⟨rfl, hB⟩ := hv
  have hx := B.exec
  have hb := B.bytes
  have hr := B.returns
  have hts := atoms_spec (ws := wsX5_canTakeLetterAt) B.pre
  have hown : s.vm.findClass RX5 = some m.cls := findClass_of_methodNamed B.named
  have hlocks := B.notSynchronized
  have hw : wd D y z S A s.heap := hB.1
  have hK : va_K D bCl (bT y) s := hB.2.1
  have hNw := hB.2.2.1
  have hAn : ∀ q : Nat, s.heap.size ≤ q → A q := hB.2.2.2.1
  have hAz : ¬ A z := hB.2.2.2.2.1
  have hO := hB.2.2.2.2.2.1
  have hS : va_S A s.heap s.heap [] := va_S.rf
  have hiX5 : ∀ w ∈ u_ws RX5 TX5 6, w ∈ wsX5_canTakeLetterAt := by decide +kernel
  have hl := lv_entry ([Value.ref this, Value.ref p1] : List Value) (n := 2) (Nat.le_of_ble_eq_true rfl)
  rw [lg_entry_eq]
  generalize (lg_sl ([Value.ref this, Value.ref p1] : List Value) ++ List.replicate (2 - (lg_sl ([Value.ref this, Value.ref p1] : List Value)).length) Slot.unset).toArray = ls at hl ⊢
  have hl : lv_has ls 2 [(0, .ref this), (1, .ref p1)] := hl
  obtain ⟨Q, hQ⟩ : ∃ Q, Q = MQ below (va_Qi post (fun S' t => wd D y z S' A t.heap) A) (([Value.ref this, Value.ref p1] : List Value).toArray) s 0 0 A := ⟨_, rfl⟩
  rw [← hQ]
  generalize hR : (headSpec wsX5_canTakeLetterAt ({ frames := 2, cells := 0, slots := 0, locals := 40 } : Room)).room = R
  have hRf : 2 ≤ R.frames := by rw [← hR]; exact Nat.le_refl _
  have hRl : 40 ≤ R.locals := by rw [← hR]; exact Nat.le_refl _
  have hret : ∀ (v : Int32) (S : bS) (H : Heap) (locs : List Loc) (pc : Nat) (ls : Array Slot) , (v = 0 ∨ v = 1) → post v S → wd D y z S A H → va_S A s.heap H locs → decode cX5_canTakeLetterAt pc = .ok (.ireturn, 1) → W p l e R s m (([Value.ref this, Value.ref p1] : List Value).toArray) below meth c H locs 0 0 Q (F0 m pc ls [.int v]) := by
    intro v S H locs pc ls hz h hw hS d0
    rw [hQ]; exact W.zret hx hb hr (b_nz hz) (fun t ht hW => ⟨⟨v, S, rfl, h, by show wd D y z S A t.heap; rw [ht]; exact hw⟩, hS.F ht⟩) hS.2.2 d0 hlocks
  have hB34 : ∀ (S : bS) (H : Heap) (locs : List Loc) (ls : Array Slot) (s0 : Int32), wb_X5_canTakeLetterAt_34 post s0 S → wd D y z S A H → va_S A s.heap H locs → lv_has ls 2 [] → W p l e R s m (([Value.ref this, Value.ref p1] : List Value).toArray) below meth c H locs 0 0 Q (F0 m 34 ls [.int s0]) := by
    intro S H locs ls s0 h hw hS hl
    unfold wb_X5_canTakeLetterAt_34 at h
    obtain ⟨hz, h⟩ := h
    exact hret _ _ _ _ _ _ hz h hw hS dX5_canTakeLetterAt_34
  have hB33 : ∀ (S : bS) (H : Heap) (locs : List Loc) (ls : Array Slot) , wb_X5_canTakeLetterAt_33 post S → wd D y z S A H → va_S A s.heap H locs → lv_has ls 2 [] → W p l e R s m (([Value.ref this, Value.ref p1] : List Value).toArray) below meth c H locs 0 0 Q (F0 m 33 ls []) := by
    intro S H locs ls  h hw hS hl
    unfold wb_X5_canTakeLetterAt_33 at h
    refine lv_iconst (v := (0 : Int32)) hx hb dX5_canTakeLetterAt_33 (by decide) ?_
    exact hB34 _ _ _ _ _ h hw hS (lv_sub hl [] rfl)
  unfold wp_X5_canTakeLetterAt at h
  refine lv_aload_n hx hb dX5_canTakeLetterAt_0 rfl (lv_at hl 1 rfl) ?_
  obtain ⟨hk1, h⟩ := h
  have h1 := h
  refine va_calli (va_runVN (As := []) (rest := []) ⟨hx, hb, hml, hown, hts⟩ (m_X3_hasRoom (l := l) h1) ⟨va_cnB 0 hts gX5_canTakeLetterAt_X3_hasRoom_n318 rfl rfl rfl (hNw _ bNw_57) (hts (.initialized RX3) (by decide +kernel)) ⟨by decide +kernel, by decide +kernel, by decide +kernel⟩ ⟨Nat.le_trans (Nat.le_of_ble_eq_true rfl) hRf, Nat.le_trans (Nat.le_of_ble_eq_true rfl) hRl⟩, (hts (.instanceMethod yX3_hasRoom) (by decide +kernel)), hts (.selects RX3 yX3_hasRoom yX3_hasRoom) (by decide +kernel)⟩ (r_pV hB hw hS (ce_5 (S := S) hk1) rfl) rfl rfl hl.1 rfl (lv_room (Nat.le_of_ble_eq_true rfl)) dX5_canTakeLetterAt_1 ⟨Nat.zero_le _, Nat.zero_le _⟩) hS (fun _ _ h => h) (fun _ h => h) (fun r2 S3 t H1 locs ht _ h hw1 _ _ hS => ?_)
  subst ht
  have hw : wd D y z S3 A t.heap := hw1
  clear hw1 h1
  refine lv_if_eq (tgt := 33) hx hb dX5_canTakeLetterAt_4 (by decide) (fun hc => ?_) (fun hc => ?_)
  · have h := h.1 hc
    exact hB33 _ _ _ _ h hw hS (lv_sub hl [] rfl)
  · have h := h.2 hc
    refine lv_aload_n hx hb dX5_canTakeLetterAt_7 rfl (lv_at hl 0 rfl) ?_
    obtain ⟨hk4, h⟩ := h
    have h1 := h
    refine va_calli (va_runV (As := []) (rest := []) ⟨hx, hb, hml, hown, hts⟩ (m_X5_underWay (l := l) h1) (cwV 0 hts gX5_canTakeLetterAt_X5_underWay rfl rfl rfl (by decide +kernel) ⟨Nat.le_trans (Nat.le_of_ble_eq_true rfl) hRf, Nat.le_trans (Nat.le_of_ble_eq_true rfl) hRl⟩) (r_pV hB hw hS (ce_7 (S := S3) hk4) rfl) rfl rfl hl.1 rfl (lv_room (Nat.le_of_ble_eq_true rfl)) dX5_canTakeLetterAt_8 ⟨Nat.zero_le _, Nat.zero_le _⟩) hS (fun _ _ h => h) (fun _ h => h) (fun r5 S6 t H1 locs ht _ h hw1 _ _ hS => ?_)
    subst ht
    have hw : wd D y z S6 A t.heap := hw1
    clear hw1 h1
    refine lv_bipush (v := (40 : Int32)) hx hb dX5_canTakeLetterAt_11 (by decide) ?_
    refine lv_icmp_ge (tgt := 33) hx hb dX5_canTakeLetterAt_13 (by decide) (fun hc => ?_) (fun hc => ?_)
    · have h := h.1 hc
      exact hB33 _ _ _ _ h hw hS (lv_sub hl [] rfl)
    · have h := h.2 hc
      refine lv_aload_n hx hb dX5_canTakeLetterAt_16 rfl (lv_at hl 0 rfl) ?_
      obtain ⟨hk7, h⟩ := h
      obtain ⟨b8, hb9, h⟩ := h
      refine r_get (ci := 6) (v := .ref b8) (C := RX5) (T := TX5) (N := 6) hx hb hts hiX5 hown hK hw (ce_7 (S := S6) hk7) rfl 2 (by decide) (hts (.fieldLink RX5 23 "TubePost" "carriers" "Ljava/util/ArrayList;") (by decide +kernel)) (fun _ h9 => h9) (congrArg (fun q => some (va_rf q)) hb9) dX5_canTakeLetterAt_17 ?_
      obtain ⟨hk10, h⟩ := h
      have h1 := h
      refine va_calli (va_runV (As := []) (rest := []) ⟨hx, hb, hml, hown, hts⟩ (m_Jx4a65c_size_8abf5 (l := l) h1) (cwV 0 hts gX5_canTakeLetterAt_Jx4a65c_size_8abf5 rfl rfl rfl (by decide +kernel) ⟨Nat.le_trans (Nat.le_of_ble_eq_true rfl) hRf, Nat.le_trans (Nat.le_of_ble_eq_true rfl) hRl⟩) (r_pV hB hw hS (ce_1 (S := S6) hk10) rfl) rfl rfl hl.1 rfl (lv_room (Nat.le_of_ble_eq_true rfl)) dX5_canTakeLetterAt_20 ⟨Nat.zero_le _, Nat.zero_le _⟩) hS (fun _ _ h => h) (fun _ h => h) (fun r11 S12 t H1 locs ht _ h hw1 _ _ hS => ?_)
      subst ht
      have hw : wd D y z S12 A t.heap := hw1
      clear hw1 h1
      refine lv_sipush (v := (500 : Int32)) hx hb dX5_canTakeLetterAt_23 (by decide) ?_
      refine lv_icmp_ge (tgt := 33) hx hb dX5_canTakeLetterAt_26 (by decide) (fun hc => ?_) (fun hc => ?_)
      · have h := h.1 hc
        exact hB33 _ _ _ _ h hw hS (lv_sub hl [] rfl)
      · have h := h.2 hc
        refine lv_iconst (v := (1 : Int32)) hx hb dX5_canTakeLetterAt_29 (by decide) ?_
        refine lv_goto (tgt := 34) hx hb dX5_canTakeLetterAt_30 (by decide) ?_
        exact hB34 _ _ _ _ _ h hw hS (lv_sub hl [] rfl)
def wp_X5_dispatch (post : bS → Prop) (MC MS : Nat) (this : Nat) (p1 : Nat) (p2 : Nat) (p3 : Int32) (S : bS) : Prop := 1 ≤ MC ∧ 9 ≤ MS ∧ (∀ q1, gK S q1 = 0 → (gK (sNew S q1 2 0) this = 7 ∧ (∃ b5, gQ (sNew S q1 2 0) 7 this 2 = some b5 ∧ (gK (sNew S q1 2 0) b5 = 1 ∧ (wp_Jx4a65c_size_8abf5 (fun r8 S9 => gK S9 this = 7 ∧ (wp_X0_init (fun S12 => gK S12 this = 7 ∧ (∃ b14, gQ S12 7 this 2 = some b14 ∧ (gK S12 b14 = 1 ∧ (∃ k19 n20, k19 ≤ (MC - 1) ∧ n20 ≤ (MS - 9) ∧ (wp_Jx4a65c_add_9ea2d (fun r17 S18 => gK S18 this = 7 ∧ (gK S18 q1 = 2 ∧ (∃ k25 n26, k25 ≤ ((MC - 1) - k19) ∧ n26 ≤ ((MS - 9) - n20) ∧ (wp_X0_comeTo (fun S24 => post S24) k25 n26 q1 p1 (gV S18 7 this 3) S18)))) k19 n20 b14 q1 S12))))) q1 r8 p2 p3 (gV S9 7 this 3) S9)) b5 (sNew S q1 2 0))))))
set_option maxHeartbeats 4000000 in
set_option maxRecDepth 100000 in
theorem m_X5_dispatch {l : Launch} {D : va_G} {y : Nat → ClassId} {z : Nat} {A : Nat → Prop} {S : bS} {post : bS → Prop} {MC MS : Nat} {this : Nat} {p1 : Nat} {p2 : Nat} {p3 : Int32} (h : wp_X5_dispatch post MC MS this p1 p2 p3 S) : Met l yX5_dispatch wsX5_dispatch ({ frames := 8, cells := MC, slots := MS, locals := 215 } : Room) (va_Pc ([Value.ref this, Value.ref p1, Value.ref p2, Value.int p3] : List Value) (bP D y z S A)) (va_Qv post (fun S' t => wd D y z S' A t.heap) A) MC MS A := by
  refine Met.ofW (cc := cX5_dispatch) (maxL := 5) (ret := none) (by decide) rfl ?_
  intro p e s m args below meth c s₁ B hml hv
  obtain ⟨rfl, hB⟩ := hv
  have hx := B.exec
  have hb := B.bytes
  have hr := B.returns
  have hts := atoms_spec (ws := wsX5_dispatch) B.pre
  have hown : s.vm.findClass RX5 = some m.cls := findClass_of_methodNamed B.named
  have hlocks := B.notSynchronized
  have hw : wd D y z S A s.heap := hB.1
  have hK : va_K D bCl (bT y) s := hB.2.1
  have hNw := hB.2.2.1
  have hAn : ∀ q : Nat, s.heap.size ≤ q → A q := hB.2.2.2.1
  have hAz : ¬ A z := hB.2.2.2.2.1
  have hO := hB.2.2.2.2.2.1
  have hS : va_S A s.heap s.heap [] := va_S.rf
  have hiX0 : ∀ w ∈ u_ws RX0 TX0 9, w ∈ wsX5_dispatch := by decide +kernel
  have hiX5 : ∀ w ∈ u_ws RX5 TX5 6, w ∈ wsX5_dispatch := by decide +kernel
  have hl := lv_entry ([Value.ref this, Value.ref p1, Value.ref p2, Value.int p3] : List Value) (n := 5) (Nat.le_of_ble_eq_true rfl)
  rw [lg_entry_eq]
  generalize (lg_sl ([Value.ref this, Value.ref p1, Value.ref p2, Value.int p3] : List Value) ++ List.replicate (5 - (lg_sl ([Value.ref this, Value.ref p1, Value.ref p2, Value.int p3] : List Value)).length) Slot.unset).toArray = ls at hl ⊢
  have hl : lv_has ls 5 [(0, .ref this), (1, .ref p1), (2, .ref p2), (3, .int p3)] := hl
  obtain ⟨Q, hQ⟩ : ∃ Q, Q = MQ below (va_Qv post (fun S' t => wd D y z S' A t.heap) A) (([Value.ref this, Value.ref p1, Value.ref p2, Value.int p3] : List Value).toArray) s MC MS A := ⟨_, rfl⟩
  rw [← hQ]
  generalize hR : (headSpec wsX5_dispatch ({ frames := 8, cells := MC, slots := MS, locals := 215 } : Room)).room = R
  have hRf : 8 ≤ R.frames := by rw [← hR]; exact Nat.le_refl _
  have hRl : 215 ≤ R.locals := by rw [← hR]; exact Nat.le_refl _
  have hRc : R.cells = MC := by rw [← hR]; rfl
  have hRs : R.slots = MS := by rw [← hR]; rfl
  have hret : ∀ (S : bS) (H : Heap) (locs : List Loc) (pc : Nat) (ls : Array Slot) (cu su : Nat) , post S → wd D y z S A H → va_S A s.heap H locs → cu ≤ MC → su ≤ MS → decode cX5_dispatch pc = .ok (.return_, 1) → W p l e R s m (([Value.ref this, Value.ref p1, Value.ref p2, Value.int p3] : List Value).toArray) below meth c H locs cu su Q (F0 m pc ls []) := by
    intro S H locs pc ls cu su h hw hS hcu hsu d0
    rw [hQ]; refine W.widen hcu hsu ?_; exact W.vret hx hb hr (fun t ht hW => ⟨⟨S, rfl, h, by show wd D y z S A t.heap; rw [ht]; exact hw⟩, hS.F ht⟩) hS.2.2 d0 hlocks
  unfold wp_X5_dispatch at h
  have hcu : 0 + MC ≤ MC := by omega
  have hsu : 0 + MS ≤ MS := by omega
  obtain ⟨hbg1, hbg2, h⟩ := h
  refine r_new (ci := 1) (C := RX0) (T := TX0) (N := 9) (κ := 2) (nn := 0) hx hb hts hiX0 tyX0 tyX0_ok hown (hts (.classLink RX5 163 RX0) (by decide +kernel)) (hts (.instantiable RX0 9) (by decide +kernel)) (hts (.initialized RX0) (by decide +kernel)) hK hw hS hAn hAz rfl pn_2 (by decide) b_fs2 (by omega) (by omega) dX5_dispatch_0 (fun q1 H hq2 hw hS => ?_)
  have h := h q1 hq2
  have hk3 : gK (sNew S q1 2 0) q1 = 2 := if_pos rfl
  have hcu : (0 + 1) + (MC - 1) ≤ MC := by omega
  have hsu : (0 + 9) + (MS - 9) ≤ MS := by omega
  refine lv_dup hx hb dX5_dispatch_3 rfl ?_
  refine lv_aload_n hx hb dX5_dispatch_4 rfl (lv_at hl 0 rfl) ?_
  obtain ⟨hk4, h⟩ := h
  obtain ⟨b5, hb6, h⟩ := h
  refine r_get (ci := 6) (v := .ref b5) (C := RX5) (T := TX5) (N := 6) hx hb hts hiX5 hown hK hw (ce_7 (S := (sNew S q1 2 0)) hk4) rfl 2 (by decide) (hts (.fieldLink RX5 23 "TubePost" "carriers" "Ljava/util/ArrayList;") (by decide +kernel)) (fun _ h9 => h9) (congrArg (fun q => some (va_rf q)) hb6) dX5_dispatch_5 ?_
  obtain ⟨hk7, h⟩ := h
  have h1 := h
  refine va_calli (va_runV (As := []) (rest := [.ref q1, .ref q1]) ⟨hx, hb, hml, hown, hts⟩ (m_Jx4a65c_size_8abf5 (l := l) h1) (cwV 0 hts gX5_dispatch_Jx4a65c_size_8abf5 rfl rfl rfl (by decide +kernel) ⟨Nat.le_trans (Nat.le_of_ble_eq_true rfl) hRf, Nat.le_trans (Nat.le_of_ble_eq_true rfl) hRl⟩) (r_pV hB hw hS (ce_1 (S := (sNew S q1 2 0)) hk7) rfl) rfl rfl hl.1 rfl (lv_room (Nat.le_of_ble_eq_true rfl)) dX5_dispatch_8 ⟨by omega, by omega⟩) hS (fun _ _ h => h) (fun _ h => h) (fun r8 S9 t H1 locs ht _ h hw1 _ _ hS => ?_)
  subst ht
  have hw : wd D y z S9 A t.heap := hw1
  clear hw1 h1
  refine lv_aload_n hx hb dX5_dispatch_11 rfl (lv_at hl 2 rfl) ?_
  refine lv_iload_n hx hb dX5_dispatch_12 rfl (lv_at hl 3 rfl) ?_
  refine lv_aload_n hx hb dX5_dispatch_13 rfl (lv_at hl 0 rfl) ?_
  obtain ⟨hk10, h⟩ := h
  refine r_get (ci := 6) (v := .int (gV S9 7 this 3)) (C := RX5) (T := TX5) (N := 6) hx hb hts hiX5 hown hK hw (ce_7 (S := S9) hk10) rfl 3 (by decide) (hts (.fieldLink RX5 26 "TubePost" "tick" "I") (by decide +kernel)) (fun _ h9 => h9) rfl dX5_dispatch_14 ?_
  have h1 := h
  refine va_callv (va_runIN (As := [.int r8, .ref p2, .int p3, .int (gV S9 7 this 3)]) (rest := [.ref q1]) ⟨hx, hb, hml, hown, hts⟩ (m_X0_init (l := l) h1) ⟨va_cnB 4 hts gX5_dispatch_X0_init_n344 rfl rfl rfl (hNw _ bNw_61) (hts (.initialized RX0) (by decide +kernel)) ⟨by decide +kernel, by decide +kernel, by decide +kernel⟩ ⟨Nat.le_trans (Nat.le_of_ble_eq_true rfl) hRf, Nat.le_trans (Nat.le_of_ble_eq_true rfl) hRl⟩, rfl, (hts (.instanceMethod yX0_init) (by decide +kernel))⟩ (r_pS hB hw hS) rfl rfl hl.1 rfl (lv_room (Nat.le_of_ble_eq_true rfl)) dX5_dispatch_17 ⟨by omega, by omega⟩) hS (fun _ _ h => h) (fun _ h => h) (fun S12 t H1 locs ht _ h hw1 _ _ hS => ?_)
  subst ht
  have hw : wd D y z S12 A t.heap := hw1
  clear hw1 h1
  refine lv_astore hx hb dX5_dispatch_20 hl (by decide) rfl (fun ls hl => ?_)
  have hl : lv_has ls 5 [(4, .ref q1), (0, .ref this), (1, .ref p1), (2, .ref p2), (3, .int p3)] := hl
  refine lv_aload_n hx hb dX5_dispatch_22 rfl (lv_at hl 1 rfl) ?_
  obtain ⟨hk13, h⟩ := h
  obtain ⟨b14, hb15, h⟩ := h
  refine r_get (ci := 6) (v := .ref b14) (C := RX5) (T := TX5) (N := 6) hx hb hts hiX5 hown hK hw (ce_7 (S := S12) hk13) rfl 2 (by decide) (hts (.fieldLink RX5 23 "TubePost" "carriers" "Ljava/util/ArrayList;") (by decide +kernel)) (fun _ h9 => h9) (congrArg (fun q => some (va_rf q)) hb15) dX5_dispatch_23 ?_
  refine lv_aload hx hb dX5_dispatch_26 (lv_at hl 0 rfl) ?_
  obtain ⟨hk16, h⟩ := h
  obtain ⟨k19, n20, hbg1, hbg2, h⟩ := h
  have h1 := h
  refine va_calli (va_runV (As := [.ref q1]) (rest := []) ⟨hx, hb, hml, hown, hts⟩ (m_Jx4a65c_add_9ea2d (l := l) h1) (cwV 1 hts gX5_dispatch_Jx4a65c_add_9ea2d rfl rfl rfl (by decide +kernel) ⟨Nat.le_trans (Nat.le_of_ble_eq_true rfl) hRf, Nat.le_trans (Nat.le_of_ble_eq_true rfl) hRl⟩) (r_pV hB hw hS (ce_1 (S := S12) hk16) rfl) rfl rfl hl.1 rfl (lv_room (Nat.le_of_ble_eq_true rfl)) dX5_dispatch_28 ⟨by omega, by omega⟩) hS (fun _ _ h => h) (fun _ h => h) (fun r17 S18 t H1 locs ht _ h hw1 _ _ hS => ?_)
  subst ht
  have hw : wd D y z S18 A t.heap := hw1
  clear hw1 h1
  have hcu : ((0 + 1) + k19) + ((MC - 1) - k19) ≤ MC := by omega
  have hsu : ((0 + 9) + n20) + ((MS - 9) - n20) ≤ MS := by omega
  refine lv_pop hx hb dX5_dispatch_31 rfl ?_
  refine lv_aload hx hb dX5_dispatch_32 (lv_at hl 0 rfl) ?_
  refine lv_aload_n hx hb dX5_dispatch_34 rfl (lv_at hl 2 rfl) ?_
  refine lv_aload_n hx hb dX5_dispatch_35 rfl (lv_at hl 1 rfl) ?_
  obtain ⟨hk21, h⟩ := h
  refine r_get (ci := 6) (v := .int (gV S18 7 this 3)) (C := RX5) (T := TX5) (N := 6) hx hb hts hiX5 hown hK hw (ce_7 (S := S18) hk21) rfl 3 (by decide) (hts (.fieldLink RX5 26 "TubePost" "tick" "I") (by decide +kernel)) (fun _ h9 => h9) rfl dX5_dispatch_36 ?_
  obtain ⟨hk22, h⟩ := h
  obtain ⟨k25, n26, hbg1, hbg2, h⟩ := h
  have h1 := h
  refine va_callv (va_runVN (As := [.ref p1, .int (gV S18 7 this 3)]) (rest := []) ⟨hx, hb, hml, hown, hts⟩ (m_X0_comeTo (l := l) h1) ⟨va_cnB 2 hts gX5_dispatch_X0_comeTo_n322 rfl rfl rfl (hNw _ bNw_58) (hts (.initialized RX0) (by decide +kernel)) ⟨by decide +kernel, by decide +kernel, by decide +kernel⟩ ⟨Nat.le_trans (Nat.le_of_ble_eq_true rfl) hRf, Nat.le_trans (Nat.le_of_ble_eq_true rfl) hRl⟩, (hts (.instanceMethod yX0_comeTo) (by decide +kernel)), hts (.selects RX0 yX0_comeTo yX0_comeTo) (by decide +kernel)⟩ (r_pV hB hw hS (ce_2 (S := S18) hk22) rfl) rfl rfl hl.1 rfl (lv_room (Nat.le_of_ble_eq_true rfl)) dX5_dispatch_39 ⟨by omega, by omega⟩) hS (fun _ _ h => h) (fun _ h => h) (fun S24 t H1 locs ht _ h hw1 _ _ hS => ?_)
  subst ht
  have hw : wd D y z S24 A t.heap := hw1
  clear hw1 h1
  have hcu : (((0 + 1) + k19) + k25) + (((MC - 1) - k19) - k25) ≤ MC := by omega
  have hsu : (((0 + 9) + n20) + n26) + (((MS - 9) - n20) - n26) ≤ MS := by omega
  exact hret _ _ _ _ _ _ _ h hw hS (by omega) (by omega) dX5_dispatch_42
def wb_X5_send_30 (post : Int32 → bS → Prop) (xp : String → bS → Prop) (mc ms : Nat) (S : bS) : Prop := False
def wp_X5_send (post : Int32 → bS → Prop) (xp : String → bS → Prop) (MC MS : Nat) (this : Nat) (p1 : Int32) (p2 : Int32) (p3 : Int32) (S : bS) : Prop := gK S this = 7 ∧ (∃ k6 n7, k6 ≤ MC ∧ n7 ≤ MS ∧ (wp_X5_knownStation (fun r2 S3 => ∃ b4, r2 = some b4 ∧ (gK S3 this = 7 ∧ (∃ k13 n14, k13 ≤ (MC - k6) ∧ n14 ≤ (MS - n7) ∧ (wp_X5_knownStation (fun r9 S10 => ∃ b11, r9 = some b11 ∧ (((some b4) = (some b11) → wb_X5_send_30 post xp ((MC - k6) - k13) ((MS - n7) - n14) S10) ∧ (¬ ((some b4) = (some b11)) → wp_X5_isOutside (fun r15 S16 => (r15 = (0 : Int32) → gK S16 this = 7 ∧ (wp_X5_canTakeLetterAt (fun r18 S19 => (r18 ≠ (0 : Int32) → gK S19 this = 7 ∧ (∃ k23 n24, k23 ≤ ((MC - k6) - k13) ∧ n24 ≤ ((MS - n7) - n14) ∧ (wp_X5_dispatch (fun S22 => gK S22 this = 7 ∧ (∃ b26, gQ S22 7 this 2 = some b26 ∧ (gK S22 b26 = 1 ∧ (wp_Jx4a65c_size_8abf5 (fun r29 S30 => post (r29 - (1 : Int32)) S30) b26 S22)))) k23 n24 this b4 b11 p3 S19))) ∧ (r18 = (0 : Int32) → False)) this b4 S16)) ∧ (¬ (r15 = (0 : Int32)) → wb_X5_send_30 post xp ((MC - k6) - k13) ((MS - n7) - n14) S16)) p3 (0 : Int32) (3 : Int32) S10))) xp k13 n14 this p2 S3)))) xp k6 n7 this p1 S))
set_option maxHeartbeats 4000000 in
set_option maxRecDepth 100000 in
theorem m_X5_send {l : Launch} {D : va_G} {y : Nat → ClassId} {z : Nat} {A : Nat → Prop} {S : bS} {post : Int32 → bS → Prop} {xp : String → bS → Prop} (hl0 : l.stackTraces = false) {MC MS : Nat} {this : Nat} {p1 : Int32} {p2 : Int32} {p3 : Int32} (h : wp_X5_send post xp MC MS this p1 p2 p3 S) : vx_Met l yX5_send wsX5_send ({ frames := 9, cells := MC, slots := MS, locals := 421 } : Room) (va_Pc ([Value.ref this, Value.int p1, Value.int p2, Value.int p3] : List Value) (bP D y z S A)) (va_Qi post (fun S' t => wd D y z S' A t.heap) A) (bX D y z A xp) MC MS A := by
  refine vx_ofW (cc := cX5_send) (maxL := 6) (ret := (some .int)) (by decide) rfl ?_
  intro p e s m args below meth c s₁ B hml hex hv
  obtain ⟨rfl, hB⟩ := hv
  have hx := B.exec
  have hb := B.bytes
  have hr := B.returns
  have hts := atoms_spec (ws := wsX5_send) B.pre
  have hown : s.vm.findClass RX5 = some m.cls := findClass_of_methodNamed B.named
  have hlocks := B.notSynchronized
  have hw : wd D y z S A s.heap := hB.1
  have hK : va_K D bCl (bT y) s := hB.2.1
  have hNw := hB.2.2.1
  have hAn : ∀ q : Nat, s.heap.size ≤ q → A q := hB.2.2.2.1
  have hAz : ¬ A z := hB.2.2.2.2.1
  have hO := hB.2.2.2.2.2.1
  have hS : va_S A s.heap s.heap [] := va_S.rf
  have hiX5 : ∀ w ∈ u_ws RX5 TX5 6, w ∈ wsX5_send := by decide +kernel
  have hl := lv_entry ([Value.ref this, Value.int p1, Value.int p2, Value.int p3] : List Value) (n := 6) (Nat.le_of_ble_eq_true rfl)
  rw [lg_entry_eq]
  generalize (lg_sl ([Value.ref this, Value.int p1, Value.int p2, Value.int p3] : List Value) ++ List.replicate (6 - (lg_sl ([Value.ref this, Value.int p1, Value.int p2, Value.int p3] : List Value)).length) Slot.unset).toArray = ls at hl ⊢
  have hl : lv_has ls 6 [(0, .ref this), (1, .int p1), (2, .int p2), (3, .int p3)] := hl
  obtain ⟨Q, hQ⟩ : ∃ Q, Q = vx_MQ below (va_Qi post (fun S' t => wd D y z S' A t.heap) A) (bX D y z A xp) (([Value.ref this, Value.int p1, Value.int p2, Value.int p3] : List Value).toArray) s MC MS A := ⟨_, rfl⟩
  rw [← hQ]
  generalize hR : (headSpec wsX5_send ({ frames := 9, cells := MC, slots := MS, locals := 421 } : Room)).room = R
  have hRf : 9 ≤ R.frames := by rw [← hR]; exact Nat.le_refl _
  have hRl : 421 ≤ R.locals := by rw [← hR]; exact Nat.le_refl _
  have hRc : R.cells = MC := by rw [← hR]; rfl
  have hRs : R.slots = MS := by rw [← hR]; rfl
  have hret : ∀ (v : Int32) (S : bS) (H : Heap) (locs : List Loc) (pc : Nat) (ls : Array Slot) (cu su : Nat) , post v S → wd D y z S A H → va_S A s.heap H locs → cu ≤ MC → su ≤ MS → decode cX5_send pc = .ok (.ireturn, 1) → W p l e R s m (([Value.ref this, Value.int p1, Value.int p2, Value.int p3] : List Value).toArray) below meth c H locs cu su Q (F0 m pc ls [.int v]) := by
    intro v S H locs pc ls cu su h hw hS hcu hsu d0
    rw [hQ]; refine vx_ret ?_; refine W.widen hcu hsu ?_; exact W.iret hx hb hr (fun t ht hW => ⟨⟨v, S, rfl, h, by show wd D y z S A t.heap; rw [ht]; exact hw⟩, hS.F ht⟩) hS.2.2 d0 hlocks
  have hB30 : ∀ (S : bS) (H : Heap) (locs : List Loc) (ls : Array Slot) (mc ms cu su : Nat) , wb_X5_send_30 post xp mc ms S → wd D y z S A H → va_S A s.heap H locs → lv_has ls 6 [] → cu + mc ≤ MC → su + ms ≤ MS → W p l e R s m (([Value.ref this, Value.int p1, Value.int p2, Value.int p3] : List Value).toArray) below meth c H locs cu su Q (F0 m 30 ls []) := by
    intro S H locs ls mc ms cu su  h hw hS hl hcu hsu
    unfold wb_X5_send_30 at h
    exact h.elim
  unfold wp_X5_send at h
  have hcu : 0 + MC ≤ MC := by omega
  have hsu : 0 + MS ≤ MS := by omega
  refine lv_aload_n hx hb dX5_send_0 rfl (lv_at hl 0 rfl) ?_
  refine lv_iload_n hx hb dX5_send_1 rfl (lv_at hl 1 rfl) ?_
  obtain ⟨hk1, h⟩ := h
  obtain ⟨k6, n7, hbg1, hbg2, h⟩ := h
  have h1 := h
  refine vx_callq (vx_runV (As := [.int p1]) (rest := []) ⟨hx, hb, hml, hown, hts⟩ (m_X5_knownStation (l := l) hl0 h1) (cwV 1 hts gX5_send_X5_knownStation rfl rfl rfl (by decide +kernel) ⟨Nat.le_trans (Nat.le_of_ble_eq_true rfl) hRf, Nat.le_trans (Nat.le_of_ble_eq_true rfl) hRl⟩) (r_pV hB hw hS (ce_7 (S := S) hk1) rfl) rfl rfl hl.1 rfl (lv_room (Nat.le_of_ble_eq_true rfl)) dX5_send_2 ⟨by omega, by omega⟩) hS (fun _ _ h => h) (fun _ h => h) (fun _ _ h => h) (fun E ce q9 S3 t H1 locs ht hal _ hq hz9 hk9 hS hq9 hvm9 hfc9 => by rw [hQ]; exact vx_out (fun x hx => (hex x hx).elim) hlocks hq9 hvm9 hfc9 (fun t9 ht9 _ => ⟨S3, trivial, ⟨hq.1, by rw [ht9, ← ht]; exact hq.2⟩, hS.F ht9⟩) hS.2.2 (by omega) (by omega)) (fun r2 S3 t H1 locs ht _ h hw1 _ _ hS => ?_)
  subst ht
  have hw : wd D y z S3 A t.heap := hw1
  clear hw1 h1
  have hcu : (0 + k6) + (MC - k6) ≤ MC := by omega
  have hsu : (0 + n7) + (MS - n7) ≤ MS := by omega
  obtain ⟨b4, rfl, h⟩ := h
  refine W.eq (g2 := F0 m 5 ls [.ref b4]) rfl ?_
  refine lv_astore hx hb dX5_send_5 hl (by decide) rfl (fun ls hl => ?_)
  have hl : lv_has ls 6 [(4, .ref b4), (0, .ref this), (1, .int p1), (2, .int p2), (3, .int p3)] := hl
  refine lv_aload_n hx hb dX5_send_7 rfl (lv_at hl 1 rfl) ?_
  refine lv_iload_n hx hb dX5_send_8 rfl (lv_at hl 3 rfl) ?_
  obtain ⟨hk8, h⟩ := h
  obtain ⟨k13, n14, hbg1, hbg2, h⟩ := h
  have h1 := h
  refine vx_callq (vx_runV (As := [.int p2]) (rest := []) ⟨hx, hb, hml, hown, hts⟩ (m_X5_knownStation (l := l) hl0 h1) (cwV 1 hts gX5_send_X5_knownStation rfl rfl rfl (by decide +kernel) ⟨Nat.le_trans (Nat.le_of_ble_eq_true rfl) hRf, Nat.le_trans (Nat.le_of_ble_eq_true rfl) hRl⟩) (r_pV hB hw hS (ce_7 (S := S3) hk8) rfl) rfl rfl hl.1 rfl (lv_room (Nat.le_of_ble_eq_true rfl)) dX5_send_9 ⟨by omega, by omega⟩) hS (fun _ _ h => h) (fun _ h => h) (fun _ _ h => h) (fun E ce q9 S10 t H1 locs ht hal _ hq hz9 hk9 hS hq9 hvm9 hfc9 => by rw [hQ]; exact vx_out (fun x hx => (hex x hx).elim) hlocks hq9 hvm9 hfc9 (fun t9 ht9 _ => ⟨S10, trivial, ⟨hq.1, by rw [ht9, ← ht]; exact hq.2⟩, hS.F ht9⟩) hS.2.2 (by omega) (by omega)) (fun r9 S10 t H1 locs ht _ h hw1 _ _ hS => ?_)
  subst ht
  have hw : wd D y z S10 A t.heap := hw1
  clear hw1 h1
  have hcu : ((0 + k6) + k13) + ((MC - k6) - k13) ≤ MC := by omega
  have hsu : ((0 + n7) + n14) + ((MS - n7) - n14) ≤ MS := by omega
  obtain ⟨b11, rfl, h⟩ := h
  refine W.eq (g2 := F0 m 12 ls [.ref b11]) rfl ?_
  refine lv_astore hx hb dX5_send_12 hl (by decide) rfl (fun ls hl => ?_)
  have hl : lv_has ls 6 [(5, .ref b11), (4, .ref b4), (0, .ref this), (1, .int p1), (2, .int p2), (3, .int p3)] := hl
  refine lv_aload hx hb dX5_send_14 (lv_at hl 1 rfl) ?_
  refine lv_aload hx hb dX5_send_16 (lv_at hl 0 rfl) ?_
  refine lv_acmp_eq (rx := (some b4)) (ry := (some b11)) (tgt := 30) hx hb dX5_send_18 (by decide) (fun hc => ?_) (fun hc => ?_)
  · have h := h.1 hc
    exact hB30 _ _ _ _ _ _ _ _ h hw hS (lv_sub hl [] rfl) hcu hsu
  · have h := h.2 hc
    refine lv_iload_n hx hb dX5_send_21 rfl (lv_at hl 5 rfl) ?_
    refine lv_iconst (v := (0 : Int32)) hx hb dX5_send_22 (by decide) ?_
    refine lv_iconst (v := (3 : Int32)) hx hb dX5_send_23 (by decide) ?_
    have h1 := h
    refine va_calli (va_runS (As := [.int p3, .int (0 : Int32), .int (3 : Int32)]) (rest := []) ⟨hx, hb, hml, hown, hts⟩ (m_X5_isOutside (l := l) h1) (cwS 3 hts gX5_send_X5_isOutside rfl rfl rfl (by decide +kernel) ⟨Nat.le_trans (Nat.le_of_ble_eq_true rfl) hRf, Nat.le_trans (Nat.le_of_ble_eq_true rfl) hRl⟩) (r_pS hB hw hS) rfl rfl hl.1 rfl (lv_room (Nat.le_of_ble_eq_true rfl)) dX5_send_24 ⟨by omega, by omega⟩) hS (fun _ _ h => h) (fun _ h => h) (fun r15 S16 t H1 locs ht _ h hw1 _ _ hS => ?_)
    subst ht
    have hw : wd D y z S16 A t.heap := hw1
    clear hw1 h1
    refine lv_if_eq (tgt := 40) hx hb dX5_send_27 (by decide) (fun hc => ?_) (fun hc => ?_)
    · have h := h.1 hc
      refine lv_aload_n hx hb dX5_send_40 rfl (lv_at hl 2 rfl) ?_
      refine lv_aload hx hb dX5_send_41 (lv_at hl 1 rfl) ?_
      obtain ⟨hk17, h⟩ := h
      have h1 := h
      refine va_calli (va_runV (As := [.ref b4]) (rest := []) ⟨hx, hb, hml, hown, hts⟩ (m_X5_canTakeLetterAt (l := l) h1) (cwV 1 hts gX5_send_X5_canTakeLetterAt rfl rfl rfl (by decide +kernel) ⟨Nat.le_trans (Nat.le_of_ble_eq_true rfl) hRf, Nat.le_trans (Nat.le_of_ble_eq_true rfl) hRl⟩) (r_pV hB hw hS (ce_7 (S := S16) hk17) rfl) rfl rfl hl.1 rfl (lv_room (Nat.le_of_ble_eq_true rfl)) dX5_send_43 ⟨by omega, by omega⟩) hS (fun _ _ h => h) (fun _ h => h) (fun r18 S19 t H1 locs ht _ h hw1 _ _ hS => ?_)
      subst ht
      have hw : wd D y z S19 A t.heap := hw1
      clear hw1 h1
      refine lv_if_ne (tgt := 59) hx hb dX5_send_46 (by decide) (fun hc => ?_) (fun hc => ?_)
      · have h := h.1 hc
        refine lv_aload_n hx hb dX5_send_59 rfl (lv_at hl 2 rfl) ?_
        refine lv_aload hx hb dX5_send_60 (lv_at hl 1 rfl) ?_
        refine lv_aload hx hb dX5_send_62 (lv_at hl 0 rfl) ?_
        refine lv_iload_n hx hb dX5_send_64 rfl (lv_at hl 5 rfl) ?_
        obtain ⟨hk20, h⟩ := h
        obtain ⟨k23, n24, hbg1, hbg2, h⟩ := h
        have h1 := h
        refine va_callv (va_runV (As := [.ref b4, .ref b11, .int p3]) (rest := []) ⟨hx, hb, hml, hown, hts⟩ (m_X5_dispatch (l := l) h1) (cwV 3 hts gX5_send_X5_dispatch rfl rfl rfl (by decide +kernel) ⟨Nat.le_trans (Nat.le_of_ble_eq_true rfl) hRf, Nat.le_trans (Nat.le_of_ble_eq_true rfl) hRl⟩) (r_pV hB hw hS (ce_7 (S := S19) hk20) rfl) rfl rfl hl.1 rfl (lv_room (Nat.le_of_ble_eq_true rfl)) dX5_send_65 ⟨by omega, by omega⟩) hS (fun _ _ h => h) (fun _ h => h) (fun S22 t H1 locs ht _ h hw1 _ _ hS => ?_)
        subst ht
        have hw : wd D y z S22 A t.heap := hw1
        clear hw1 h1
        have hcu : (((0 + k6) + k13) + k23) + (((MC - k6) - k13) - k23) ≤ MC := by omega
        have hsu : (((0 + n7) + n14) + n24) + (((MS - n7) - n14) - n24) ≤ MS := by omega
        refine lv_aload_n hx hb dX5_send_68 rfl (lv_at hl 2 rfl) ?_
        obtain ⟨hk25, h⟩ := h
        obtain ⟨b26, hb27, h⟩ := h
        refine r_get (ci := 6) (v := .ref b26) (C := RX5) (T := TX5) (N := 6) hx hb hts hiX5 hown hK hw (ce_7 (S := S22) hk25) rfl 2 (by decide) (hts (.fieldLink RX5 23 "TubePost" "carriers" "Ljava/util/ArrayList;") (by decide +kernel)) (fun _ h9 => h9) (congrArg (fun q => some (va_rf q)) hb27) dX5_send_69 ?_
        obtain ⟨hk28, h⟩ := h
        have h1 := h
        refine va_calli (va_runV (As := []) (rest := []) ⟨hx, hb, hml, hown, hts⟩ (m_Jx4a65c_size_8abf5 (l := l) h1) (cwV 0 hts gX5_send_Jx4a65c_size_8abf5 rfl rfl rfl (by decide +kernel) ⟨Nat.le_trans (Nat.le_of_ble_eq_true rfl) hRf, Nat.le_trans (Nat.le_of_ble_eq_true rfl) hRl⟩) (r_pV hB hw hS (ce_1 (S := S22) hk28) rfl) rfl rfl hl.1 rfl (lv_room (Nat.le_of_ble_eq_true rfl)) dX5_send_72 ⟨by omega, by omega⟩) hS (fun _ _ h => h) (fun _ h => h) (fun r29 S30 t H1 locs ht _ h hw1 _ _ hS => ?_)
        subst ht
        have hw : wd D y z S30 A t.heap := hw1
        clear hw1 h1
        refine lv_iconst (v := (1 : Int32)) hx hb dX5_send_75 (by decide) ?_
        refine lv_isub hx hb dX5_send_76 ?_
        exact hret (r29 - (1 : Int32)) _ _ _ _ _ _ _ h hw hS (by omega) (by omega) dX5_send_77
      · have h := h.2 hc
        exact h.elim
    · have h := h.2 hc
      exact hB30 _ _ _ _ _ _ _ _ h hw hS (lv_sub hl [] rfl) hcu hsu
def wp_X5_strikeClock (post : bS → Prop) (MC MS : Nat) (this : Nat) (S : bS) : Prop := gK S this = 7 ∧ (∃ b2, gQ S 7 this 1 = some b2 ∧ (gK S b2 = 1 ∧ (wp_Jx4a65c_size_8abf5 (fun r5 S6 => (r5 ≤ (0 : Int32) → post S6) ∧ (¬ (r5 ≤ (0 : Int32)) → False)) b2 S)))
set_option maxHeartbeats 4000000 in
set_option maxRecDepth 100000 in
theorem m_X5_strikeClock {l : Launch} {D : va_G} {y : Nat → ClassId} {z : Nat} {A : Nat → Prop} {S : bS} {post : bS → Prop} {MC MS : Nat} {this : Nat} (h : wp_X5_strikeClock post MC MS this S) : Met l yX5_strikeClock wsX5_strikeClock ({ frames := 1, cells := MC, slots := MS, locals := 20 } : Room) (va_Pc ([Value.ref this] : List Value) (bP D y z S A)) (va_Qv post (fun S' t => wd D y z S' A t.heap) A) MC MS A := by
  refine Met.ofW (cc := cX5_strikeClock) (maxL := 3) (ret := none) (by decide) rfl ?_
  intro p e s m args below meth c s₁ B hml hv
  obtain ⟨rfl, hB⟩ := hv
  have hx := B.exec
  have hb := B.bytes
  have hr := B.returns
  have hts := atoms_spec (ws := wsX5_strikeClock) B.pre
  have hown : s.vm.findClass RX5 = some m.cls := findClass_of_methodNamed B.named
  have hlocks := B.notSynchronized
  have hw : wd D y z S A s.heap := hB.1
  have hK : va_K D bCl (bT y) s := hB.2.1
  have hNw := hB.2.2.1
  have hAn : ∀ q : Nat, s.heap.size ≤ q → A q := hB.2.2.2.1
  have hAz : ¬ A z := hB.2.2.2.2.1
  have hO := hB.2.2.2.2.2.1
  have hS : va_S A s.heap s.heap [] := va_S.rf
  have hiX5 : ∀ w ∈ u_ws RX5 TX5 6, w ∈ wsX5_strikeClock := by decide +kernel
  have hl := lv_entry ([Value.ref this] : List Value) (n := 3) (Nat.le_of_ble_eq_true rfl)
  rw [lg_entry_eq]
  generalize (lg_sl ([Value.ref this] : List Value) ++ List.replicate (3 - (lg_sl ([Value.ref this] : List Value)).length) Slot.unset).toArray = ls at hl ⊢
  have hl : lv_has ls 3 [(0, .ref this)] := hl
  obtain ⟨Q, hQ⟩ : ∃ Q, Q = MQ below (va_Qv post (fun S' t => wd D y z S' A t.heap) A) (([Value.ref this] : List Value).toArray) s MC MS A := ⟨_, rfl⟩
  rw [← hQ]
  generalize hR : (headSpec wsX5_strikeClock ({ frames := 1, cells := MC, slots := MS, locals := 20 } : Room)).room = R
  have hRf : 1 ≤ R.frames := by rw [← hR]; exact Nat.le_refl _
  have hRl : 20 ≤ R.locals := by rw [← hR]; exact Nat.le_refl _
  have hRc : R.cells = MC := by rw [← hR]; rfl
  have hRs : R.slots = MS := by rw [← hR]; rfl
  have hret : ∀ (S : bS) (H : Heap) (locs : List Loc) (pc : Nat) (ls : Array Slot) (cu su : Nat) , post S → wd D y z S A H → va_S A s.heap H locs → cu ≤ MC → su ≤ MS → decode cX5_strikeClock pc = .ok (.return_, 1) → W p l e R s m (([Value.ref this] : List Value).toArray) below meth c H locs cu su Q (F0 m pc ls []) := by
    intro S H locs pc ls cu su h hw hS hcu hsu d0
    rw [hQ]; refine W.widen hcu hsu ?_; exact W.vret hx hb hr (fun t ht hW => ⟨⟨S, rfl, h, by show wd D y z S A t.heap; rw [ht]; exact hw⟩, hS.F ht⟩) hS.2.2 d0 hlocks
  unfold wp_X5_strikeClock at h
  have hcu : 0 + MC ≤ MC := by omega
  have hsu : 0 + MS ≤ MS := by omega
  refine lv_iconst (v := (0 : Int32)) hx hb dX5_strikeClock_0 (by decide) ?_
  refine lv_istore_n hx hb dX5_strikeClock_1 rfl hl (by decide) rfl (fun ls hl => ?_)
  have hl : lv_has ls 3 [(1, .int (0 : Int32)), (0, .ref this)] := hl
  refine lv_iload_n hx hb dX5_strikeClock_2 rfl (lv_at hl 0 rfl) ?_
  refine lv_aload_n hx hb dX5_strikeClock_3 rfl (lv_at hl 1 rfl) ?_
  obtain ⟨hk1, h⟩ := h
  obtain ⟨b2, hb3, h⟩ := h
  refine r_get (ci := 6) (v := .ref b2) (C := RX5) (T := TX5) (N := 6) hx hb hts hiX5 hown hK hw (ce_7 (S := S) hk1) rfl 1 (by decide) (hts (.fieldLink RX5 19 "TubePost" "entries" "Ljava/util/ArrayList;") (by decide +kernel)) (fun _ h9 => h9) (congrArg (fun q => some (va_rf q)) hb3) dX5_strikeClock_4 ?_
  obtain ⟨hk4, h⟩ := h
  have h1 := h
  refine va_calli (va_runV (As := []) (rest := [.int (0 : Int32)]) ⟨hx, hb, hml, hown, hts⟩ (m_Jx4a65c_size_8abf5 (l := l) h1) (cwV 0 hts gX5_strikeClock_Jx4a65c_size_8abf5 rfl rfl rfl (by decide +kernel) ⟨Nat.le_trans (Nat.le_of_ble_eq_true rfl) hRf, Nat.le_trans (Nat.le_of_ble_eq_true rfl) hRl⟩) (r_pV hB hw hS (ce_1 (S := S) hk4) rfl) rfl rfl hl.1 rfl (lv_room (Nat.le_of_ble_eq_true rfl)) dX5_strikeClock_7 ⟨by omega, by omega⟩) hS (fun _ _ h => h) (fun _ h => h) (fun r5 S6 t H1 locs ht _ h hw1 _ _ hS => ?_)
  subst ht
  have hw : wd D y z S6 A t.heap := hw1
  clear hw1 h1
  refine lv_icmp_ge (tgt := 47) hx hb dX5_strikeClock_10 (by decide) (fun hc => ?_) (fun hc => ?_)
  · have h := h.1 hc
    exact hret _ _ _ _ _ _ _ h hw hS (by omega) (by omega) dX5_strikeClock_47
  · have h := h.2 hc
    exact h.elim
def wp_X5_deliver (post : bS → Prop) (this : Nat) (p1 : Nat) (S : bS) : Prop := gK S p1 = 2 ∧ (∃ b2, gQ (sV S 2 p1 4 (3 : Int32)) 2 p1 1 = some b2 ∧ (gK (sV S 2 p1 4 (3 : Int32)) b2 = 5 ∧ (gK (sV (sV S 2 p1 4 (3 : Int32)) 2 p1 5 (gV (sV S 2 p1 4 (3 : Int32)) 5 b2 0)) this = 7 ∧ (∃ b6, gQ (sV (sV (sV S 2 p1 4 (3 : Int32)) 2 p1 5 (gV (sV S 2 p1 4 (3 : Int32)) 5 b2 0)) 2 p1 6 (gV (sV (sV S 2 p1 4 (3 : Int32)) 2 p1 5 (gV (sV S 2 p1 4 (3 : Int32)) 5 b2 0)) 7 this 3)) 2 p1 1 = some b6 ∧ (gK (sV (sV (sV S 2 p1 4 (3 : Int32)) 2 p1 5 (gV (sV S 2 p1 4 (3 : Int32)) 5 b2 0)) 2 p1 6 (gV (sV (sV S 2 p1 4 (3 : Int32)) 2 p1 5 (gV (sV S 2 p1 4 (3 : Int32)) 5 b2 0)) 7 this 3)) b6 = 5 ∧ (post (sV (sV (sV (sV (sV (sV S 2 p1 4 (3 : Int32)) 2 p1 5 (gV (sV S 2 p1 4 (3 : Int32)) 5 b2 0)) 2 p1 6 (gV (sV (sV S 2 p1 4 (3 : Int32)) 2 p1 5 (gV (sV S 2 p1 4 (3 : Int32)) 5 b2 0)) 7 this 3)) 5 b6 9 ((gV (sV (sV (sV S 2 p1 4 (3 : Int32)) 2 p1 5 (gV (sV S 2 p1 4 (3 : Int32)) 5 b2 0)) 2 p1 6 (gV (sV (sV S 2 p1 4 (3 : Int32)) 2 p1 5 (gV (sV S 2 p1 4 (3 : Int32)) 5 b2 0)) 7 this 3)) 5 b6 9) + (1 : Int32))) 7 this 4 ((gV (sV (sV (sV (sV S 2 p1 4 (3 : Int32)) 2 p1 5 (gV (sV S 2 p1 4 (3 : Int32)) 5 b2 0)) 2 p1 6 (gV (sV (sV S 2 p1 4 (3 : Int32)) 2 p1 5 (gV (sV S 2 p1 4 (3 : Int32)) 5 b2 0)) 7 this 3)) 5 b6 9 ((gV (sV (sV (sV S 2 p1 4 (3 : Int32)) 2 p1 5 (gV (sV S 2 p1 4 (3 : Int32)) 5 b2 0)) 2 p1 6 (gV (sV (sV S 2 p1 4 (3 : Int32)) 2 p1 5 (gV (sV S 2 p1 4 (3 : Int32)) 5 b2 0)) 7 this 3)) 5 b6 9) + (1 : Int32))) 7 this 4) + (1 : Int32))) 7 this 5 ((gV (sV (sV (sV (sV (sV S 2 p1 4 (3 : Int32)) 2 p1 5 (gV (sV S 2 p1 4 (3 : Int32)) 5 b2 0)) 2 p1 6 (gV (sV (sV S 2 p1 4 (3 : Int32)) 2 p1 5 (gV (sV S 2 p1 4 (3 : Int32)) 5 b2 0)) 7 this 3)) 5 b6 9 ((gV (sV (sV (sV S 2 p1 4 (3 : Int32)) 2 p1 5 (gV (sV S 2 p1 4 (3 : Int32)) 5 b2 0)) 2 p1 6 (gV (sV (sV S 2 p1 4 (3 : Int32)) 2 p1 5 (gV (sV S 2 p1 4 (3 : Int32)) 5 b2 0)) 7 this 3)) 5 b6 9) + (1 : Int32))) 7 this 4 ((gV (sV (sV (sV (sV S 2 p1 4 (3 : Int32)) 2 p1 5 (gV (sV S 2 p1 4 (3 : Int32)) 5 b2 0)) 2 p1 6 (gV (sV (sV S 2 p1 4 (3 : Int32)) 2 p1 5 (gV (sV S 2 p1 4 (3 : Int32)) 5 b2 0)) 7 this 3)) 5 b6 9 ((gV (sV (sV (sV S 2 p1 4 (3 : Int32)) 2 p1 5 (gV (sV S 2 p1 4 (3 : Int32)) 5 b2 0)) 2 p1 6 (gV (sV (sV S 2 p1 4 (3 : Int32)) 2 p1 5 (gV (sV S 2 p1 4 (3 : Int32)) 5 b2 0)) 7 this 3)) 5 b6 9) + (1 : Int32))) 7 this 4) + (1 : Int32))) 7 this 5) + ((gV (sV (sV (sV (sV (sV S 2 p1 4 (3 : Int32)) 2 p1 5 (gV (sV S 2 p1 4 (3 : Int32)) 5 b2 0)) 2 p1 6 (gV (sV (sV S 2 p1 4 (3 : Int32)) 2 p1 5 (gV (sV S 2 p1 4 (3 : Int32)) 5 b2 0)) 7 this 3)) 5 b6 9 ((gV (sV (sV (sV S 2 p1 4 (3 : Int32)) 2 p1 5 (gV (sV S 2 p1 4 (3 : Int32)) 5 b2 0)) 2 p1 6 (gV (sV (sV S 2 p1 4 (3 : Int32)) 2 p1 5 (gV (sV S 2 p1 4 (3 : Int32)) 5 b2 0)) 7 this 3)) 5 b6 9) + (1 : Int32))) 7 this 4 ((gV (sV (sV (sV (sV S 2 p1 4 (3 : Int32)) 2 p1 5 (gV (sV S 2 p1 4 (3 : Int32)) 5 b2 0)) 2 p1 6 (gV (sV (sV S 2 p1 4 (3 : Int32)) 2 p1 5 (gV (sV S 2 p1 4 (3 : Int32)) 5 b2 0)) 7 this 3)) 5 b6 9 ((gV (sV (sV (sV S 2 p1 4 (3 : Int32)) 2 p1 5 (gV (sV S 2 p1 4 (3 : Int32)) 5 b2 0)) 2 p1 6 (gV (sV (sV S 2 p1 4 (3 : Int32)) 2 p1 5 (gV (sV S 2 p1 4 (3 : Int32)) 5 b2 0)) 7 this 3)) 5 b6 9) + (1 : Int32))) 7 this 4) + (1 : Int32))) 7 this 3) - (gV (sV (sV (sV (sV (sV S 2 p1 4 (3 : Int32)) 2 p1 5 (gV (sV S 2 p1 4 (3 : Int32)) 5 b2 0)) 2 p1 6 (gV (sV (sV S 2 p1 4 (3 : Int32)) 2 p1 5 (gV (sV S 2 p1 4 (3 : Int32)) 5 b2 0)) 7 this 3)) 5 b6 9 ((gV (sV (sV (sV S 2 p1 4 (3 : Int32)) 2 p1 5 (gV (sV S 2 p1 4 (3 : Int32)) 5 b2 0)) 2 p1 6 (gV (sV (sV S 2 p1 4 (3 : Int32)) 2 p1 5 (gV (sV S 2 p1 4 (3 : Int32)) 5 b2 0)) 7 this 3)) 5 b6 9) + (1 : Int32))) 7 this 4 ((gV (sV (sV (sV (sV S 2 p1 4 (3 : Int32)) 2 p1 5 (gV (sV S 2 p1 4 (3 : Int32)) 5 b2 0)) 2 p1 6 (gV (sV (sV S 2 p1 4 (3 : Int32)) 2 p1 5 (gV (sV S 2 p1 4 (3 : Int32)) 5 b2 0)) 7 this 3)) 5 b6 9 ((gV (sV (sV (sV S 2 p1 4 (3 : Int32)) 2 p1 5 (gV (sV S 2 p1 4 (3 : Int32)) 5 b2 0)) 2 p1 6 (gV (sV (sV S 2 p1 4 (3 : Int32)) 2 p1 5 (gV (sV S 2 p1 4 (3 : Int32)) 5 b2 0)) 7 this 3)) 5 b6 9) + (1 : Int32))) 7 this 4) + (1 : Int32))) 2 p1 3))))))))))
set_option maxHeartbeats 4000000 in
set_option maxRecDepth 100000 in
theorem m_X5_deliver {l : Launch} {D : va_G} {y : Nat → ClassId} {z : Nat} {A : Nat → Prop} {S : bS} {post : bS → Prop} {this : Nat} {p1 : Nat} (h : wp_X5_deliver post this p1 S) : Met l yX5_deliver wsX5_deliver ({ frames := 0, cells := 0, slots := 0, locals := 0 } : Room) (va_Pc ([Value.ref this, Value.ref p1] : List Value) (bP D y z S A)) (va_Qv post (fun S' t => wd D y z S' A t.heap) A) 0 0 A := by
  refine Met.ofW (cc := cX5_deliver) (maxL := 2) (ret := none) (by decide) rfl ?_
  intro p e s m args below meth c s₁ B hml hv
  obtain ⟨rfl, hB⟩ := hv
  have hx := B.exec
  have hb := B.bytes
  have hr := B.returns
  have hts := atoms_spec (ws := wsX5_deliver) B.pre
  have hown : s.vm.findClass RX5 = some m.cls := findClass_of_methodNamed B.named
  have hlocks := B.notSynchronized
  have hw : wd D y z S A s.heap := hB.1
  have hK : va_K D bCl (bT y) s := hB.2.1
  have hNw := hB.2.2.1
  have hAn : ∀ q : Nat, s.heap.size ≤ q → A q := hB.2.2.2.1
  have hAz : ¬ A z := hB.2.2.2.2.1
  have hO := hB.2.2.2.2.2.1
  have hS : va_S A s.heap s.heap [] := va_S.rf
  have hiX0 : ∀ w ∈ u_ws RX0 TX0 9, w ∈ wsX5_deliver := by decide +kernel
  have hiX3 : ∀ w ∈ u_ws RX3 TX3 10, w ∈ wsX5_deliver := by decide +kernel
  have hiX5 : ∀ w ∈ u_ws RX5 TX5 6, w ∈ wsX5_deliver := by decide +kernel
  have hl := lv_entry ([Value.ref this, Value.ref p1] : List Value) (n := 2) (Nat.le_of_ble_eq_true rfl)
  rw [lg_entry_eq]
  generalize (lg_sl ([Value.ref this, Value.ref p1] : List Value) ++ List.replicate (2 - (lg_sl ([Value.ref this, Value.ref p1] : List Value)).length) Slot.unset).toArray = ls at hl ⊢
  have hl : lv_has ls 2 [(0, .ref this), (1, .ref p1)] := hl
  obtain ⟨Q, hQ⟩ : ∃ Q, Q = MQ below (va_Qv post (fun S' t => wd D y z S' A t.heap) A) (([Value.ref this, Value.ref p1] : List Value).toArray) s 0 0 A := ⟨_, rfl⟩
  rw [← hQ]
  generalize hR : (headSpec wsX5_deliver ({ frames := 0, cells := 0, slots := 0, locals := 0 } : Room)).room = R
  have hRf : 0 ≤ R.frames := by rw [← hR]; exact Nat.le_refl _
  have hRl : 0 ≤ R.locals := by rw [← hR]; exact Nat.le_refl _
  have hret : ∀ (S : bS) (H : Heap) (locs : List Loc) (pc : Nat) (ls : Array Slot) , post S → wd D y z S A H → va_S A s.heap H locs → decode cX5_deliver pc = .ok (.return_, 1) → W p l e R s m (([Value.ref this, Value.ref p1] : List Value).toArray) below meth c H locs 0 0 Q (F0 m pc ls []) := by
    intro S H locs pc ls h hw hS d0
    rw [hQ]; exact W.vret hx hb hr (fun t ht hW => ⟨⟨S, rfl, h, by show wd D y z S A t.heap; rw [ht]; exact hw⟩, hS.F ht⟩) hS.2.2 d0 hlocks
  unfold wp_X5_deliver at h
  refine lv_aload_n hx hb dX5_deliver_0 rfl (lv_at hl 1 rfl) ?_
  refine lv_iconst (v := (3 : Int32)) hx hb dX5_deliver_1 (by decide) ?_
  obtain ⟨hk1, h⟩ := h
  refine r_putIN (κ := 2) (ci := 1) (C := RX0) (T := TX0) (N := 9) (ty := .int) (x := (3 : Int32)) hx hb hts hiX0 tyX0 tyX0_ok nmX0 hown hK hw hS (ce_2 (S := S) hk1) rfl 4 (by decide) (hNw _ (bNw_5)) (fun _ h9 => h9) rfl (by decide +kernel) rfl rfl (Nat.le_of_ble_eq_true rfl) (pu_2_4 (S := S) hk1) dX5_deliver_2 (fun H locs hw hS => ?_)
  refine lv_aload_n hx hb dX5_deliver_5 rfl (lv_at hl 1 rfl) ?_
  refine lv_aload_n hx hb dX5_deliver_6 rfl (lv_at hl 1 rfl) ?_
  obtain ⟨b2, hb3, h⟩ := h
  refine r_getN (ci := 1) (v := .ref b2) (C := RX0) (T := TX0) (N := 9) hx hb hts hiX0 hown hK hw (ce_2 (S := (sV S 2 p1 4 (3 : Int32))) hk1) rfl 1 (by decide) (hNw _ (bNw_7)) (fun _ h9 => h9) (congrArg (fun q => some (va_rf q)) hb3) dX5_deliver_7 ?_
  obtain ⟨hk4, h⟩ := h
  refine r_getN (ci := 4) (v := .int (gV (sV S 2 p1 4 (3 : Int32)) 5 b2 0)) (C := RX3) (T := TX3) (N := 10) hx hb hts hiX3 hown hK hw (ce_5 (S := (sV S 2 p1 4 (3 : Int32))) hk4) rfl 0 (by decide) (hNw _ (bNw_8)) (fun _ h9 => h9) rfl dX5_deliver_10 ?_
  refine r_putIN (κ := 2) (ci := 1) (C := RX0) (T := TX0) (N := 9) (ty := .int) (x := (gV (sV S 2 p1 4 (3 : Int32)) 5 b2 0)) hx hb hts hiX0 tyX0 tyX0_ok nmX0 hown hK hw hS (ce_2 (S := (sV S 2 p1 4 (3 : Int32))) hk1) rfl 5 (by decide) (hNw _ (bNw_6)) (fun _ h9 => h9) rfl (by decide +kernel) rfl rfl (Nat.le_of_ble_eq_true rfl) (pu_2_5 (S := (sV S 2 p1 4 (3 : Int32))) hk1) dX5_deliver_13 (fun H locs hw hS => ?_)
  refine lv_aload_n hx hb dX5_deliver_16 rfl (lv_at hl 1 rfl) ?_
  refine lv_aload_n hx hb dX5_deliver_17 rfl (lv_at hl 0 rfl) ?_
  obtain ⟨hk5, h⟩ := h
  refine r_get (ci := 6) (v := .int (gV (sV (sV S 2 p1 4 (3 : Int32)) 2 p1 5 (gV (sV S 2 p1 4 (3 : Int32)) 5 b2 0)) 7 this 3)) (C := RX5) (T := TX5) (N := 6) hx hb hts hiX5 hown hK hw (ce_7 (S := (sV (sV S 2 p1 4 (3 : Int32)) 2 p1 5 (gV (sV S 2 p1 4 (3 : Int32)) 5 b2 0))) hk5) rfl 3 (by decide) (hts (.fieldLink RX5 26 "TubePost" "tick" "I") (by decide +kernel)) (fun _ h9 => h9) rfl dX5_deliver_18 ?_
  refine r_putIN (κ := 2) (ci := 1) (C := RX0) (T := TX0) (N := 9) (ty := .int) (x := (gV (sV (sV S 2 p1 4 (3 : Int32)) 2 p1 5 (gV (sV S 2 p1 4 (3 : Int32)) 5 b2 0)) 7 this 3)) hx hb hts hiX0 tyX0 tyX0_ok nmX0 hown hK hw hS (ce_2 (S := (sV (sV S 2 p1 4 (3 : Int32)) 2 p1 5 (gV (sV S 2 p1 4 (3 : Int32)) 5 b2 0))) hk1) rfl 6 (by decide) (hNw _ (bNw_11)) (fun _ h9 => h9) rfl (by decide +kernel) rfl rfl (Nat.le_of_ble_eq_true rfl) (pu_2_6 (S := (sV (sV S 2 p1 4 (3 : Int32)) 2 p1 5 (gV (sV S 2 p1 4 (3 : Int32)) 5 b2 0))) hk1) dX5_deliver_21 (fun H locs hw hS => ?_)
  refine lv_aload_n hx hb dX5_deliver_24 rfl (lv_at hl 1 rfl) ?_
  obtain ⟨b6, hb7, h⟩ := h
  refine r_getN (ci := 1) (v := .ref b6) (C := RX0) (T := TX0) (N := 9) hx hb hts hiX0 hown hK hw (ce_2 (S := (sV (sV (sV S 2 p1 4 (3 : Int32)) 2 p1 5 (gV (sV S 2 p1 4 (3 : Int32)) 5 b2 0)) 2 p1 6 (gV (sV (sV S 2 p1 4 (3 : Int32)) 2 p1 5 (gV (sV S 2 p1 4 (3 : Int32)) 5 b2 0)) 7 this 3))) hk1) rfl 1 (by decide) (hNw _ (bNw_7)) (fun _ h9 => h9) (congrArg (fun q => some (va_rf q)) hb7) dX5_deliver_25 ?_
  refine lv_dup hx hb dX5_deliver_28 rfl ?_
  obtain ⟨hk8, h⟩ := h
  refine r_getN (ci := 4) (v := .int (gV (sV (sV (sV S 2 p1 4 (3 : Int32)) 2 p1 5 (gV (sV S 2 p1 4 (3 : Int32)) 5 b2 0)) 2 p1 6 (gV (sV (sV S 2 p1 4 (3 : Int32)) 2 p1 5 (gV (sV S 2 p1 4 (3 : Int32)) 5 b2 0)) 7 this 3)) 5 b6 9)) (C := RX3) (T := TX3) (N := 10) hx hb hts hiX3 hown hK hw (ce_5 (S := (sV (sV (sV S 2 p1 4 (3 : Int32)) 2 p1 5 (gV (sV S 2 p1 4 (3 : Int32)) 5 b2 0)) 2 p1 6 (gV (sV (sV S 2 p1 4 (3 : Int32)) 2 p1 5 (gV (sV S 2 p1 4 (3 : Int32)) 5 b2 0)) 7 this 3))) hk8) rfl 9 (by decide) (hNw _ (bNw_16)) (fun _ h9 => h9) rfl dX5_deliver_29 ?_
  refine lv_iconst (v := (1 : Int32)) hx hb dX5_deliver_32 (by decide) ?_
  refine lv_iadd hx hb dX5_deliver_33 ?_
  refine r_putIN (κ := 5) (ci := 4) (C := RX3) (T := TX3) (N := 10) (ty := .int) (x := ((gV (sV (sV (sV S 2 p1 4 (3 : Int32)) 2 p1 5 (gV (sV S 2 p1 4 (3 : Int32)) 5 b2 0)) 2 p1 6 (gV (sV (sV S 2 p1 4 (3 : Int32)) 2 p1 5 (gV (sV S 2 p1 4 (3 : Int32)) 5 b2 0)) 7 this 3)) 5 b6 9) + (1 : Int32))) hx hb hts hiX3 tyX3 tyX3_ok nmX3 hown hK hw hS (ce_5 (S := (sV (sV (sV S 2 p1 4 (3 : Int32)) 2 p1 5 (gV (sV S 2 p1 4 (3 : Int32)) 5 b2 0)) 2 p1 6 (gV (sV (sV S 2 p1 4 (3 : Int32)) 2 p1 5 (gV (sV S 2 p1 4 (3 : Int32)) 5 b2 0)) 7 this 3))) hk8) rfl 9 (by decide) (hNw _ (bNw_16)) (fun _ h9 => h9) rfl (by decide +kernel) rfl rfl (Nat.le_of_ble_eq_true rfl) (pu_5_9 (S := (sV (sV (sV S 2 p1 4 (3 : Int32)) 2 p1 5 (gV (sV S 2 p1 4 (3 : Int32)) 5 b2 0)) 2 p1 6 (gV (sV (sV S 2 p1 4 (3 : Int32)) 2 p1 5 (gV (sV S 2 p1 4 (3 : Int32)) 5 b2 0)) 7 this 3))) hk8) dX5_deliver_34 (fun H locs hw hS => ?_)
  refine lv_aload_n hx hb dX5_deliver_37 rfl (lv_at hl 0 rfl) ?_
  refine lv_dup hx hb dX5_deliver_38 rfl ?_
  refine r_get (ci := 6) (v := .int (gV (sV (sV (sV (sV S 2 p1 4 (3 : Int32)) 2 p1 5 (gV (sV S 2 p1 4 (3 : Int32)) 5 b2 0)) 2 p1 6 (gV (sV (sV S 2 p1 4 (3 : Int32)) 2 p1 5 (gV (sV S 2 p1 4 (3 : Int32)) 5 b2 0)) 7 this 3)) 5 b6 9 ((gV (sV (sV (sV S 2 p1 4 (3 : Int32)) 2 p1 5 (gV (sV S 2 p1 4 (3 : Int32)) 5 b2 0)) 2 p1 6 (gV (sV (sV S 2 p1 4 (3 : Int32)) 2 p1 5 (gV (sV S 2 p1 4 (3 : Int32)) 5 b2 0)) 7 this 3)) 5 b6 9) + (1 : Int32))) 7 this 4)) (C := RX5) (T := TX5) (N := 6) hx hb hts hiX5 hown hK hw (ce_7 (S := (sV (sV (sV (sV S 2 p1 4 (3 : Int32)) 2 p1 5 (gV (sV S 2 p1 4 (3 : Int32)) 5 b2 0)) 2 p1 6 (gV (sV (sV S 2 p1 4 (3 : Int32)) 2 p1 5 (gV (sV S 2 p1 4 (3 : Int32)) 5 b2 0)) 7 this 3)) 5 b6 9 ((gV (sV (sV (sV S 2 p1 4 (3 : Int32)) 2 p1 5 (gV (sV S 2 p1 4 (3 : Int32)) 5 b2 0)) 2 p1 6 (gV (sV (sV S 2 p1 4 (3 : Int32)) 2 p1 5 (gV (sV S 2 p1 4 (3 : Int32)) 5 b2 0)) 7 this 3)) 5 b6 9) + (1 : Int32)))) hk5) rfl 4 (by decide) (hts (.fieldLink RX5 30 "TubePost" "delivered" "I") (by decide +kernel)) (fun _ h9 => h9) rfl dX5_deliver_39 ?_
  refine lv_iconst (v := (1 : Int32)) hx hb dX5_deliver_42 (by decide) ?_
  refine lv_iadd hx hb dX5_deliver_43 ?_
  refine r_putI (κ := 7) (ci := 6) (C := RX5) (T := TX5) (N := 6) (ty := .int) (x := ((gV (sV (sV (sV (sV S 2 p1 4 (3 : Int32)) 2 p1 5 (gV (sV S 2 p1 4 (3 : Int32)) 5 b2 0)) 2 p1 6 (gV (sV (sV S 2 p1 4 (3 : Int32)) 2 p1 5 (gV (sV S 2 p1 4 (3 : Int32)) 5 b2 0)) 7 this 3)) 5 b6 9 ((gV (sV (sV (sV S 2 p1 4 (3 : Int32)) 2 p1 5 (gV (sV S 2 p1 4 (3 : Int32)) 5 b2 0)) 2 p1 6 (gV (sV (sV S 2 p1 4 (3 : Int32)) 2 p1 5 (gV (sV S 2 p1 4 (3 : Int32)) 5 b2 0)) 7 this 3)) 5 b6 9) + (1 : Int32))) 7 this 4) + (1 : Int32))) hx hb hts hiX5 tyX5 tyX5_ok nmX5 hown hK hw hS (ce_7 (S := (sV (sV (sV (sV S 2 p1 4 (3 : Int32)) 2 p1 5 (gV (sV S 2 p1 4 (3 : Int32)) 5 b2 0)) 2 p1 6 (gV (sV (sV S 2 p1 4 (3 : Int32)) 2 p1 5 (gV (sV S 2 p1 4 (3 : Int32)) 5 b2 0)) 7 this 3)) 5 b6 9 ((gV (sV (sV (sV S 2 p1 4 (3 : Int32)) 2 p1 5 (gV (sV S 2 p1 4 (3 : Int32)) 5 b2 0)) 2 p1 6 (gV (sV (sV S 2 p1 4 (3 : Int32)) 2 p1 5 (gV (sV S 2 p1 4 (3 : Int32)) 5 b2 0)) 7 this 3)) 5 b6 9) + (1 : Int32)))) hk5) rfl 4 (by decide) (hts (.fieldLink RX5 30 "TubePost" "delivered" "I") (by decide +kernel)) (fun _ h9 => h9) rfl (by decide +kernel) rfl rfl (Nat.le_of_ble_eq_true rfl) (pu_7_4 (S := (sV (sV (sV (sV S 2 p1 4 (3 : Int32)) 2 p1 5 (gV (sV S 2 p1 4 (3 : Int32)) 5 b2 0)) 2 p1 6 (gV (sV (sV S 2 p1 4 (3 : Int32)) 2 p1 5 (gV (sV S 2 p1 4 (3 : Int32)) 5 b2 0)) 7 this 3)) 5 b6 9 ((gV (sV (sV (sV S 2 p1 4 (3 : Int32)) 2 p1 5 (gV (sV S 2 p1 4 (3 : Int32)) 5 b2 0)) 2 p1 6 (gV (sV (sV S 2 p1 4 (3 : Int32)) 2 p1 5 (gV (sV S 2 p1 4 (3 : Int32)) 5 b2 0)) 7 this 3)) 5 b6 9) + (1 : Int32)))) hk5) dX5_deliver_44 (fun H locs hw hS => ?_)
  refine lv_aload_n hx hb dX5_deliver_47 rfl (lv_at hl 0 rfl) ?_
  refine lv_dup hx hb dX5_deliver_48 rfl ?_
  refine r_get (ci := 6) (v := .int (gV (sV (sV (sV (sV (sV S 2 p1 4 (3 : Int32)) 2 p1 5 (gV (sV S 2 p1 4 (3 : Int32)) 5 b2 0)) 2 p1 6 (gV (sV (sV S 2 p1 4 (3 : Int32)) 2 p1 5 (gV (sV S 2 p1 4 (3 : Int32)) 5 b2 0)) 7 this 3)) 5 b6 9 ((gV (sV (sV (sV S 2 p1 4 (3 : Int32)) 2 p1 5 (gV (sV S 2 p1 4 (3 : Int32)) 5 b2 0)) 2 p1 6 (gV (sV (sV S 2 p1 4 (3 : Int32)) 2 p1 5 (gV (sV S 2 p1 4 (3 : Int32)) 5 b2 0)) 7 this 3)) 5 b6 9) + (1 : Int32))) 7 this 4 ((gV (sV (sV (sV (sV S 2 p1 4 (3 : Int32)) 2 p1 5 (gV (sV S 2 p1 4 (3 : Int32)) 5 b2 0)) 2 p1 6 (gV (sV (sV S 2 p1 4 (3 : Int32)) 2 p1 5 (gV (sV S 2 p1 4 (3 : Int32)) 5 b2 0)) 7 this 3)) 5 b6 9 ((gV (sV (sV (sV S 2 p1 4 (3 : Int32)) 2 p1 5 (gV (sV S 2 p1 4 (3 : Int32)) 5 b2 0)) 2 p1 6 (gV (sV (sV S 2 p1 4 (3 : Int32)) 2 p1 5 (gV (sV S 2 p1 4 (3 : Int32)) 5 b2 0)) 7 this 3)) 5 b6 9) + (1 : Int32))) 7 this 4) + (1 : Int32))) 7 this 5)) (C := RX5) (T := TX5) (N := 6) hx hb hts hiX5 hown hK hw (ce_7 (S := (sV (sV (sV (sV (sV S 2 p1 4 (3 : Int32)) 2 p1 5 (gV (sV S 2 p1 4 (3 : Int32)) 5 b2 0)) 2 p1 6 (gV (sV (sV S 2 p1 4 (3 : Int32)) 2 p1 5 (gV (sV S 2 p1 4 (3 : Int32)) 5 b2 0)) 7 this 3)) 5 b6 9 ((gV (sV (sV (sV S 2 p1 4 (3 : Int32)) 2 p1 5 (gV (sV S 2 p1 4 (3 : Int32)) 5 b2 0)) 2 p1 6 (gV (sV (sV S 2 p1 4 (3 : Int32)) 2 p1 5 (gV (sV S 2 p1 4 (3 : Int32)) 5 b2 0)) 7 this 3)) 5 b6 9) + (1 : Int32))) 7 this 4 ((gV (sV (sV (sV (sV S 2 p1 4 (3 : Int32)) 2 p1 5 (gV (sV S 2 p1 4 (3 : Int32)) 5 b2 0)) 2 p1 6 (gV (sV (sV S 2 p1 4 (3 : Int32)) 2 p1 5 (gV (sV S 2 p1 4 (3 : Int32)) 5 b2 0)) 7 this 3)) 5 b6 9 ((gV (sV (sV (sV S 2 p1 4 (3 : Int32)) 2 p1 5 (gV (sV S 2 p1 4 (3 : Int32)) 5 b2 0)) 2 p1 6 (gV (sV (sV S 2 p1 4 (3 : Int32)) 2 p1 5 (gV (sV S 2 p1 4 (3 : Int32)) 5 b2 0)) 7 this 3)) 5 b6 9) + (1 : Int32))) 7 this 4) + (1 : Int32)))) hk5) rfl 5 (by decide) (hts (.fieldLink RX5 33 "TubePost" "ticksUnderWay" "I") (by decide +kernel)) (fun _ h9 => h9) rfl dX5_deliver_49 ?_
  refine lv_aload_n hx hb dX5_deliver_52 rfl (lv_at hl 0 rfl) ?_
  refine r_get (ci := 6) (v := .int (gV (sV (sV (sV (sV (sV S 2 p1 4 (3 : Int32)) 2 p1 5 (gV (sV S 2 p1 4 (3 : Int32)) 5 b2 0)) 2 p1 6 (gV (sV (sV S 2 p1 4 (3 : Int32)) 2 p1 5 (gV (sV S 2 p1 4 (3 : Int32)) 5 b2 0)) 7 this 3)) 5 b6 9 ((gV (sV (sV (sV S 2 p1 4 (3 : Int32)) 2 p1 5 (gV (sV S 2 p1 4 (3 : Int32)) 5 b2 0)) 2 p1 6 (gV (sV (sV S 2 p1 4 (3 : Int32)) 2 p1 5 (gV (sV S 2 p1 4 (3 : Int32)) 5 b2 0)) 7 this 3)) 5 b6 9) + (1 : Int32))) 7 this 4 ((gV (sV (sV (sV (sV S 2 p1 4 (3 : Int32)) 2 p1 5 (gV (sV S 2 p1 4 (3 : Int32)) 5 b2 0)) 2 p1 6 (gV (sV (sV S 2 p1 4 (3 : Int32)) 2 p1 5 (gV (sV S 2 p1 4 (3 : Int32)) 5 b2 0)) 7 this 3)) 5 b6 9 ((gV (sV (sV (sV S 2 p1 4 (3 : Int32)) 2 p1 5 (gV (sV S 2 p1 4 (3 : Int32)) 5 b2 0)) 2 p1 6 (gV (sV (sV S 2 p1 4 (3 : Int32)) 2 p1 5 (gV (sV S 2 p1 4 (3 : Int32)) 5 b2 0)) 7 this 3)) 5 b6 9) + (1 : Int32))) 7 this 4) + (1 : Int32))) 7 this 3)) (C := RX5) (T := TX5) (N := 6) hx hb hts hiX5 hown hK hw (ce_7 (S := (sV (sV (sV (sV (sV S 2 p1 4 (3 : Int32)) 2 p1 5 (gV (sV S 2 p1 4 (3 : Int32)) 5 b2 0)) 2 p1 6 (gV (sV (sV S 2 p1 4 (3 : Int32)) 2 p1 5 (gV (sV S 2 p1 4 (3 : Int32)) 5 b2 0)) 7 this 3)) 5 b6 9 ((gV (sV (sV (sV S 2 p1 4 (3 : Int32)) 2 p1 5 (gV (sV S 2 p1 4 (3 : Int32)) 5 b2 0)) 2 p1 6 (gV (sV (sV S 2 p1 4 (3 : Int32)) 2 p1 5 (gV (sV S 2 p1 4 (3 : Int32)) 5 b2 0)) 7 this 3)) 5 b6 9) + (1 : Int32))) 7 this 4 ((gV (sV (sV (sV (sV S 2 p1 4 (3 : Int32)) 2 p1 5 (gV (sV S 2 p1 4 (3 : Int32)) 5 b2 0)) 2 p1 6 (gV (sV (sV S 2 p1 4 (3 : Int32)) 2 p1 5 (gV (sV S 2 p1 4 (3 : Int32)) 5 b2 0)) 7 this 3)) 5 b6 9 ((gV (sV (sV (sV S 2 p1 4 (3 : Int32)) 2 p1 5 (gV (sV S 2 p1 4 (3 : Int32)) 5 b2 0)) 2 p1 6 (gV (sV (sV S 2 p1 4 (3 : Int32)) 2 p1 5 (gV (sV S 2 p1 4 (3 : Int32)) 5 b2 0)) 7 this 3)) 5 b6 9) + (1 : Int32))) 7 this 4) + (1 : Int32)))) hk5) rfl 3 (by decide) (hts (.fieldLink RX5 26 "TubePost" "tick" "I") (by decide +kernel)) (fun _ h9 => h9) rfl dX5_deliver_53 ?_
  refine lv_aload_n hx hb dX5_deliver_56 rfl (lv_at hl 1 rfl) ?_
  refine r_getN (ci := 1) (v := .int (gV (sV (sV (sV (sV (sV S 2 p1 4 (3 : Int32)) 2 p1 5 (gV (sV S 2 p1 4 (3 : Int32)) 5 b2 0)) 2 p1 6 (gV (sV (sV S 2 p1 4 (3 : Int32)) 2 p1 5 (gV (sV S 2 p1 4 (3 : Int32)) 5 b2 0)) 7 this 3)) 5 b6 9 ((gV (sV (sV (sV S 2 p1 4 (3 : Int32)) 2 p1 5 (gV (sV S 2 p1 4 (3 : Int32)) 5 b2 0)) 2 p1 6 (gV (sV (sV S 2 p1 4 (3 : Int32)) 2 p1 5 (gV (sV S 2 p1 4 (3 : Int32)) 5 b2 0)) 7 this 3)) 5 b6 9) + (1 : Int32))) 7 this 4 ((gV (sV (sV (sV (sV S 2 p1 4 (3 : Int32)) 2 p1 5 (gV (sV S 2 p1 4 (3 : Int32)) 5 b2 0)) 2 p1 6 (gV (sV (sV S 2 p1 4 (3 : Int32)) 2 p1 5 (gV (sV S 2 p1 4 (3 : Int32)) 5 b2 0)) 7 this 3)) 5 b6 9 ((gV (sV (sV (sV S 2 p1 4 (3 : Int32)) 2 p1 5 (gV (sV S 2 p1 4 (3 : Int32)) 5 b2 0)) 2 p1 6 (gV (sV (sV S 2 p1 4 (3 : Int32)) 2 p1 5 (gV (sV S 2 p1 4 (3 : Int32)) 5 b2 0)) 7 this 3)) 5 b6 9) + (1 : Int32))) 7 this 4) + (1 : Int32))) 2 p1 3)) (C := RX0) (T := TX0) (N := 9) hx hb hts hiX0 hown hK hw (ce_2 (S := (sV (sV (sV (sV (sV S 2 p1 4 (3 : Int32)) 2 p1 5 (gV (sV S 2 p1 4 (3 : Int32)) 5 b2 0)) 2 p1 6 (gV (sV (sV S 2 p1 4 (3 : Int32)) 2 p1 5 (gV (sV S 2 p1 4 (3 : Int32)) 5 b2 0)) 7 this 3)) 5 b6 9 ((gV (sV (sV (sV S 2 p1 4 (3 : Int32)) 2 p1 5 (gV (sV S 2 p1 4 (3 : Int32)) 5 b2 0)) 2 p1 6 (gV (sV (sV S 2 p1 4 (3 : Int32)) 2 p1 5 (gV (sV S 2 p1 4 (3 : Int32)) 5 b2 0)) 7 this 3)) 5 b6 9) + (1 : Int32))) 7 this 4 ((gV (sV (sV (sV (sV S 2 p1 4 (3 : Int32)) 2 p1 5 (gV (sV S 2 p1 4 (3 : Int32)) 5 b2 0)) 2 p1 6 (gV (sV (sV S 2 p1 4 (3 : Int32)) 2 p1 5 (gV (sV S 2 p1 4 (3 : Int32)) 5 b2 0)) 7 this 3)) 5 b6 9 ((gV (sV (sV (sV S 2 p1 4 (3 : Int32)) 2 p1 5 (gV (sV S 2 p1 4 (3 : Int32)) 5 b2 0)) 2 p1 6 (gV (sV (sV S 2 p1 4 (3 : Int32)) 2 p1 5 (gV (sV S 2 p1 4 (3 : Int32)) 5 b2 0)) 7 this 3)) 5 b6 9) + (1 : Int32))) 7 this 4) + (1 : Int32)))) hk1) rfl 3 (by decide) (hNw _ (bNw_10)) (fun _ h9 => h9) rfl dX5_deliver_57 ?_
  refine lv_isub hx hb dX5_deliver_60 ?_
  refine lv_iadd hx hb dX5_deliver_61 ?_
  refine r_putI (κ := 7) (ci := 6) (C := RX5) (T := TX5) (N := 6) (ty := .int) (x := ((gV (sV (sV (sV (sV (sV S 2 p1 4 (3 : Int32)) 2 p1 5 (gV (sV S 2 p1 4 (3 : Int32)) 5 b2 0)) 2 p1 6 (gV (sV (sV S 2 p1 4 (3 : Int32)) 2 p1 5 (gV (sV S 2 p1 4 (3 : Int32)) 5 b2 0)) 7 this 3)) 5 b6 9 ((gV (sV (sV (sV S 2 p1 4 (3 : Int32)) 2 p1 5 (gV (sV S 2 p1 4 (3 : Int32)) 5 b2 0)) 2 p1 6 (gV (sV (sV S 2 p1 4 (3 : Int32)) 2 p1 5 (gV (sV S 2 p1 4 (3 : Int32)) 5 b2 0)) 7 this 3)) 5 b6 9) + (1 : Int32))) 7 this 4 ((gV (sV (sV (sV (sV S 2 p1 4 (3 : Int32)) 2 p1 5 (gV (sV S 2 p1 4 (3 : Int32)) 5 b2 0)) 2 p1 6 (gV (sV (sV S 2 p1 4 (3 : Int32)) 2 p1 5 (gV (sV S 2 p1 4 (3 : Int32)) 5 b2 0)) 7 this 3)) 5 b6 9 ((gV (sV (sV (sV S 2 p1 4 (3 : Int32)) 2 p1 5 (gV (sV S 2 p1 4 (3 : Int32)) 5 b2 0)) 2 p1 6 (gV (sV (sV S 2 p1 4 (3 : Int32)) 2 p1 5 (gV (sV S 2 p1 4 (3 : Int32)) 5 b2 0)) 7 this 3)) 5 b6 9) + (1 : Int32))) 7 this 4) + (1 : Int32))) 7 this 5) + ((gV (sV (sV (sV (sV (sV S 2 p1 4 (3 : Int32)) 2 p1 5 (gV (sV S 2 p1 4 (3 : Int32)) 5 b2 0)) 2 p1 6 (gV (sV (sV S 2 p1 4 (3 : Int32)) 2 p1 5 (gV (sV S 2 p1 4 (3 : Int32)) 5 b2 0)) 7 this 3)) 5 b6 9 ((gV (sV (sV (sV S 2 p1 4 (3 : Int32)) 2 p1 5 (gV (sV S 2 p1 4 (3 : Int32)) 5 b2 0)) 2 p1 6 (gV (sV (sV S 2 p1 4 (3 : Int32)) 2 p1 5 (gV (sV S 2 p1 4 (3 : Int32)) 5 b2 0)) 7 this 3)) 5 b6 9) + (1 : Int32))) 7 this 4 ((gV (sV (sV (sV (sV S 2 p1 4 (3 : Int32)) 2 p1 5 (gV (sV S 2 p1 4 (3 : Int32)) 5 b2 0)) 2 p1 6 (gV (sV (sV S 2 p1 4 (3 : Int32)) 2 p1 5 (gV (sV S 2 p1 4 (3 : Int32)) 5 b2 0)) 7 this 3)) 5 b6 9 ((gV (sV (sV (sV S 2 p1 4 (3 : Int32)) 2 p1 5 (gV (sV S 2 p1 4 (3 : Int32)) 5 b2 0)) 2 p1 6 (gV (sV (sV S 2 p1 4 (3 : Int32)) 2 p1 5 (gV (sV S 2 p1 4 (3 : Int32)) 5 b2 0)) 7 this 3)) 5 b6 9) + (1 : Int32))) 7 this 4) + (1 : Int32))) 7 this 3) - (gV (sV (sV (sV (sV (sV S 2 p1 4 (3 : Int32)) 2 p1 5 (gV (sV S 2 p1 4 (3 : Int32)) 5 b2 0)) 2 p1 6 (gV (sV (sV S 2 p1 4 (3 : Int32)) 2 p1 5 (gV (sV S 2 p1 4 (3 : Int32)) 5 b2 0)) 7 this 3)) 5 b6 9 ((gV (sV (sV (sV S 2 p1 4 (3 : Int32)) 2 p1 5 (gV (sV S 2 p1 4 (3 : Int32)) 5 b2 0)) 2 p1 6 (gV (sV (sV S 2 p1 4 (3 : Int32)) 2 p1 5 (gV (sV S 2 p1 4 (3 : Int32)) 5 b2 0)) 7 this 3)) 5 b6 9) + (1 : Int32))) 7 this 4 ((gV (sV (sV (sV (sV S 2 p1 4 (3 : Int32)) 2 p1 5 (gV (sV S 2 p1 4 (3 : Int32)) 5 b2 0)) 2 p1 6 (gV (sV (sV S 2 p1 4 (3 : Int32)) 2 p1 5 (gV (sV S 2 p1 4 (3 : Int32)) 5 b2 0)) 7 this 3)) 5 b6 9 ((gV (sV (sV (sV S 2 p1 4 (3 : Int32)) 2 p1 5 (gV (sV S 2 p1 4 (3 : Int32)) 5 b2 0)) 2 p1 6 (gV (sV (sV S 2 p1 4 (3 : Int32)) 2 p1 5 (gV (sV S 2 p1 4 (3 : Int32)) 5 b2 0)) 7 this 3)) 5 b6 9) + (1 : Int32))) 7 this 4) + (1 : Int32))) 2 p1 3)))) hx hb hts hiX5 tyX5 tyX5_ok nmX5 hown hK hw hS (ce_7 (S := (sV (sV (sV (sV (sV S 2 p1 4 (3 : Int32)) 2 p1 5 (gV (sV S 2 p1 4 (3 : Int32)) 5 b2 0)) 2 p1 6 (gV (sV (sV S 2 p1 4 (3 : Int32)) 2 p1 5 (gV (sV S 2 p1 4 (3 : Int32)) 5 b2 0)) 7 this 3)) 5 b6 9 ((gV (sV (sV (sV S 2 p1 4 (3 : Int32)) 2 p1 5 (gV (sV S 2 p1 4 (3 : Int32)) 5 b2 0)) 2 p1 6 (gV (sV (sV S 2 p1 4 (3 : Int32)) 2 p1 5 (gV (sV S 2 p1 4 (3 : Int32)) 5 b2 0)) 7 this 3)) 5 b6 9) + (1 : Int32))) 7 this 4 ((gV (sV (sV (sV (sV S 2 p1 4 (3 : Int32)) 2 p1 5 (gV (sV S 2 p1 4 (3 : Int32)) 5 b2 0)) 2 p1 6 (gV (sV (sV S 2 p1 4 (3 : Int32)) 2 p1 5 (gV (sV S 2 p1 4 (3 : Int32)) 5 b2 0)) 7 this 3)) 5 b6 9 ((gV (sV (sV (sV S 2 p1 4 (3 : Int32)) 2 p1 5 (gV (sV S 2 p1 4 (3 : Int32)) 5 b2 0)) 2 p1 6 (gV (sV (sV S 2 p1 4 (3 : Int32)) 2 p1 5 (gV (sV S 2 p1 4 (3 : Int32)) 5 b2 0)) 7 this 3)) 5 b6 9) + (1 : Int32))) 7 this 4) + (1 : Int32)))) hk5) rfl 5 (by decide) (hts (.fieldLink RX5 33 "TubePost" "ticksUnderWay" "I") (by decide +kernel)) (fun _ h9 => h9) rfl (by decide +kernel) rfl rfl (Nat.le_of_ble_eq_true rfl) (pu_7_5 (S := (sV (sV (sV (sV (sV S 2 p1 4 (3 : Int32)) 2 p1 5 (gV (sV S 2 p1 4 (3 : Int32)) 5 b2 0)) 2 p1 6 (gV (sV (sV S 2 p1 4 (3 : Int32)) 2 p1 5 (gV (sV S 2 p1 4 (3 : Int32)) 5 b2 0)) 7 this 3)) 5 b6 9 ((gV (sV (sV (sV S 2 p1 4 (3 : Int32)) 2 p1 5 (gV (sV S 2 p1 4 (3 : Int32)) 5 b2 0)) 2 p1 6 (gV (sV (sV S 2 p1 4 (3 : Int32)) 2 p1 5 (gV (sV S 2 p1 4 (3 : Int32)) 5 b2 0)) 7 this 3)) 5 b6 9) + (1 : Int32))) 7 this 4 ((gV (sV (sV (sV (sV S 2 p1 4 (3 : Int32)) 2 p1 5 (gV (sV S 2 p1 4 (3 : Int32)) 5 b2 0)) 2 p1 6 (gV (sV (sV S 2 p1 4 (3 : Int32)) 2 p1 5 (gV (sV S 2 p1 4 (3 : Int32)) 5 b2 0)) 7 this 3)) 5 b6 9 ((gV (sV (sV (sV S 2 p1 4 (3 : Int32)) 2 p1 5 (gV (sV S 2 p1 4 (3 : Int32)) 5 b2 0)) 2 p1 6 (gV (sV (sV S 2 p1 4 (3 : Int32)) 2 p1 5 (gV (sV S 2 p1 4 (3 : Int32)) 5 b2 0)) 7 this 3)) 5 b6 9) + (1 : Int32))) 7 this 4) + (1 : Int32)))) hk5) dX5_deliver_62 (fun H locs hw hS => ?_)
  exact hret _ _ _ _ _ h hw hS dX5_deliver_65
def wb_X5_arriveFrom_95 (post : bS → Prop) (mc ms : Nat) (S : bS) : Prop := post S
def wb_X5_arriveFrom_80 (post : bS → Prop) (rec8 : Nat → Nat → Nat → Nat → Int32 → bS → Prop) (mc ms : Nat) (v0 : Nat) (v1 : Nat) (v2 : Int32) (S : bS) : Prop := gK S v1 = 6 ∧ (∃ b43, gQ S 6 v1 5 = some b43 ∧ (gK S b43 = 1 ∧ (wp_Jx4a65c_remove_915e3 (fun r46 S47 => ∃ b48, r46 = some b48 ∧ (rec8 mc ms v0 v1 (v2 + (-1 : Int32)) S47)) b43 (0 : Int32) S)))
def wb_X5_arriveFrom_8 (post : bS → Prop) : Nat → Nat → Nat → Nat → Nat → Int32 → bS → Prop
  | 0, _, _, _, _, _, _ => False
  | n + 1, mc, ms, v0, v1, v2, S => (v2 ≤ (0 : Int32) → wb_X5_arriveFrom_95 post mc ms S) ∧ (¬ (v2 ≤ (0 : Int32)) → gK S v0 = 7 ∧ (gK S v1 = 6 ∧ (wp_X4_isFirstAtEnd (fun r9 S10 => (r9 = (0 : Int32) → wb_X5_arriveFrom_95 post mc ms S10) ∧ (¬ (r9 = (0 : Int32)) → gK S10 v1 = 6 ∧ (∃ b12, gQ S10 6 v1 5 = some b12 ∧ (gK S10 b12 = 1 ∧ (wp_Jx4a65c_get_915e3 (fun r15 S16 => ∃ b17, r15 = some b17 ∧ (gK S16 b17 = 2 ∧ (∃ b20, gQ S16 2 b17 1 = some b20 ∧ (gK S16 v1 = 6 ∧ (∃ b23, gQ S16 6 v1 2 = some b23 ∧ (((some b20) ≠ (some b23) → ∃ b25, gQ S16 6 v1 2 = some b25 ∧ (gK S16 b25 = 5 ∧ (wp_X3_hasRoom (fun r28 S29 => (r28 = (0 : Int32) → post S29) ∧ (¬ (r28 = (0 : Int32)) → gK S29 v1 = 6 ∧ (∃ b31, gQ S29 6 v1 2 = some b31 ∧ (gK S29 v0 = 7 ∧ (gK S29 b17 = 2 ∧ (∃ k37 n38, k37 ≤ mc ∧ n38 ≤ ms ∧ (wp_X0_comeTo (fun S36 => wb_X5_arriveFrom_80 post (wb_X5_arriveFrom_8 post n) (mc - k37) (ms - n38) v0 v1 v2 S36) k37 n38 b17 b31 (gV S29 7 v0 3) S29))))))) b25 S16))) ∧ ((some b20) = (some b23) → gK S16 v0 = 7 ∧ (wp_X5_deliver (fun S41 => wb_X5_arriveFrom_80 post (wb_X5_arriveFrom_8 post n) mc ms v0 v1 v2 S41) v0 b17 S16)))))))) b12 (0 : Int32) S10))))) v1 (gV S 7 v0 3) S)))
def wp_X5_arriveFrom (post : bS → Prop) (MC MS : Nat) (this : Nat) (p1 : Nat) (S : bS) : Prop := gK S p1 = 6 ∧ (∃ b2, gQ S 6 p1 5 = some b2 ∧ (gK S b2 = 1 ∧ (wp_Jx4a65c_size_8abf5 (fun r5 S6 => ∃ n8, wb_X5_arriveFrom_8 post n8 MC MS this p1 r5 S6) b2 S)))
set_option maxHeartbeats 4000000 in
set_option maxRecDepth 100000 in
theorem m_X5_arriveFrom {l : Launch} {D : va_G} {y : Nat → ClassId} {z : Nat} {A : Nat → Prop} {S : bS} {post : bS → Prop} {MC MS : Nat} {this : Nat} {p1 : Nat} (h : wp_X5_arriveFrom post MC MS this p1 S) : Met l yX5_arriveFrom wsX5_arriveFrom ({ frames := 8, cells := MC, slots := MS, locals := 215 } : Room) (va_Pc ([Value.ref this, Value.ref p1] : List Value) (bP D y z S A)) (va_Qv post (fun S' t => wd D y z S' A t.heap) A) MC MS A := by
  refine Met.ofW (cc := cX5_arriveFrom) (maxL := 4) (ret := none) (by decide) rfl ?_
  intro p e s m args below meth c s₁ B hml hv
  obtain ⟨rfl, hB⟩ := hv
  have hx := B.exec
  have hb := B.bytes
  have hr := B.returns
  have hts := atoms_spec (ws := wsX5_arriveFrom) B.pre
  have hown : s.vm.findClass RX5 = some m.cls := findClass_of_methodNamed B.named
  have hlocks := B.notSynchronized
  have hw : wd D y z S A s.heap := hB.1
  have hK : va_K D bCl (bT y) s := hB.2.1
  have hNw := hB.2.2.1
  have hAn : ∀ q : Nat, s.heap.size ≤ q → A q := hB.2.2.2.1
  have hAz : ¬ A z := hB.2.2.2.2.1
  have hO := hB.2.2.2.2.2.1
  have hS : va_S A s.heap s.heap [] := va_S.rf
  have hiX0 : ∀ w ∈ u_ws RX0 TX0 9, w ∈ wsX5_arriveFrom := by decide +kernel
  have hiX4 : ∀ w ∈ u_ws RX4 TX4 11, w ∈ wsX5_arriveFrom := by decide +kernel
  have hiX5 : ∀ w ∈ u_ws RX5 TX5 6, w ∈ wsX5_arriveFrom := by decide +kernel
  have hl := lv_entry ([Value.ref this, Value.ref p1] : List Value) (n := 4) (Nat.le_of_ble_eq_true rfl)
  rw [lg_entry_eq]
  generalize (lg_sl ([Value.ref this, Value.ref p1] : List Value) ++ List.replicate (4 - (lg_sl ([Value.ref this, Value.ref p1] : List Value)).length) Slot.unset).toArray = ls at hl ⊢
  have hl : lv_has ls 4 [(0, .ref this), (1, .ref p1)] := hl
  obtain ⟨Q, hQ⟩ : ∃ Q, Q = MQ below (va_Qv post (fun S' t => wd D y z S' A t.heap) A) (([Value.ref this, Value.ref p1] : List Value).toArray) s MC MS A := ⟨_, rfl⟩
  rw [← hQ]
  generalize hR : (headSpec wsX5_arriveFrom ({ frames := 8, cells := MC, slots := MS, locals := 215 } : Room)).room = R
  have hRf : 8 ≤ R.frames := by rw [← hR]; exact Nat.le_refl _
  have hRl : 215 ≤ R.locals := by rw [← hR]; exact Nat.le_refl _
  have hRc : R.cells = MC := by rw [← hR]; rfl
  have hRs : R.slots = MS := by rw [← hR]; rfl
  have hret : ∀ (S : bS) (H : Heap) (locs : List Loc) (pc : Nat) (ls : Array Slot) (cu su : Nat) , post S → wd D y z S A H → va_S A s.heap H locs → cu ≤ MC → su ≤ MS → decode cX5_arriveFrom pc = .ok (.return_, 1) → W p l e R s m (([Value.ref this, Value.ref p1] : List Value).toArray) below meth c H locs cu su Q (F0 m pc ls []) := by
    intro S H locs pc ls cu su h hw hS hcu hsu d0
    rw [hQ]; refine W.widen hcu hsu ?_; exact W.vret hx hb hr (fun t ht hW => ⟨⟨S, rfl, h, by show wd D y z S A t.heap; rw [ht]; exact hw⟩, hS.F ht⟩) hS.2.2 d0 hlocks
  have hB95 : ∀ (S : bS) (H : Heap) (locs : List Loc) (ls : Array Slot) (mc ms cu su : Nat) , wb_X5_arriveFrom_95 post mc ms S → wd D y z S A H → va_S A s.heap H locs → lv_has ls 4 [] → cu + mc ≤ MC → su + ms ≤ MS → W p l e R s m (([Value.ref this, Value.ref p1] : List Value).toArray) below meth c H locs cu su Q (F0 m 95 ls []) := by
    intro S H locs ls mc ms cu su  h hw hS hl hcu hsu
    unfold wb_X5_arriveFrom_95 at h
    exact hret _ _ _ _ _ _ _ h hw hS (by omega) (by omega) dX5_arriveFrom_95
  have hB8 : ∀ (n8 : Nat) (S : bS) (H : Heap) (locs : List Loc) (ls : Array Slot) (mc ms cu su : Nat) (v0 : Nat) (v1 : Nat) (v2 : Int32), wb_X5_arriveFrom_8 post n8 mc ms v0 v1 v2 S → wd D y z S A H → va_S A s.heap H locs → lv_has ls 4 [(0, .ref v0), (1, .ref v1), (2, .int v2)] → cu + mc ≤ MC → su + ms ≤ MS → W p l e R s m (([Value.ref this, Value.ref p1] : List Value).toArray) below meth c H locs cu su Q (F0 m 8 ls []) := by
    intro n8
    induction n8 with
    | zero =>
      intro S H locs ls mc ms cu su v0 v1 v2 h hw hS hl hcu hsu
      exact absurd h (by unfold wb_X5_arriveFrom_8; exact id)
    | succ n8 ih8 =>
      have hB80 : ∀ (S : bS) (H : Heap) (locs : List Loc) (ls : Array Slot) (mc ms cu su : Nat) (v0 : Nat) (v1 : Nat) (v2 : Int32), wb_X5_arriveFrom_80 post (wb_X5_arriveFrom_8 post n8) mc ms v0 v1 v2 S → wd D y z S A H → va_S A s.heap H locs → lv_has ls 4 [(0, .ref v0), (1, .ref v1), (2, .int v2)] → cu + mc ≤ MC → su + ms ≤ MS → W p l e R s m (([Value.ref this, Value.ref p1] : List Value).toArray) below meth c H locs cu su Q (F0 m 80 ls []) := by
        intro S H locs ls mc ms cu su v0 v1 v2 h hw hS hl hcu hsu
        unfold wb_X5_arriveFrom_80 at h
        refine lv_aload_n hx hb dX5_arriveFrom_80 rfl (lv_at hl 1 rfl) ?_
        obtain ⟨hk42, h⟩ := h
        obtain ⟨b43, hb44, h⟩ := h
        refine r_getN (ci := 5) (v := .ref b43) (C := RX4) (T := TX4) (N := 11) hx hb hts hiX4 hown hK hw (ce_6 (S := S) hk42) rfl 5 (by decide) (hNw _ (bNw_22)) (fun _ h9 => h9) (congrArg (fun q => some (va_rf q)) hb44) dX5_arriveFrom_81 ?_
        refine lv_iconst (v := (0 : Int32)) hx hb dX5_arriveFrom_84 (by decide) ?_
        obtain ⟨hk45, h⟩ := h
        have h1 := h
        refine va_callq (va_runV (As := [.int (0 : Int32)]) (rest := []) ⟨hx, hb, hml, hown, hts⟩ (m_Jx4a65c_remove_915e3 (l := l) h1) (cwV 1 hts gX5_arriveFrom_Jx4a65c_remove_915e3 rfl rfl rfl (by decide +kernel) ⟨Nat.le_trans (Nat.le_of_ble_eq_true rfl) hRf, Nat.le_trans (Nat.le_of_ble_eq_true rfl) hRl⟩) (r_pV hB hw hS (ce_1 (S := S) hk45) rfl) rfl rfl hl.1 rfl (lv_room (Nat.le_of_ble_eq_true rfl)) dX5_arriveFrom_85 ⟨by omega, by omega⟩) hS (fun _ _ h => h) (fun _ h => h) (fun r46 S47 t H1 locs ht _ h hw1 _ _ hS => ?_)
        subst ht
        have hw : wd D y z S47 A t.heap := hw1
        clear hw1 h1
        obtain ⟨b48, rfl, h⟩ := h
        refine W.eq (g2 := F0 m 88 ls [.ref b48]) rfl ?_
        refine lv_pop hx hb dX5_arriveFrom_88 rfl ?_
        refine lv_iinc (v := (v2 + (-1 : Int32))) hx hb dX5_arriveFrom_89 hl (k := 2) rfl rfl (by decide) rfl (fun ls hl => ?_)
        have hl : lv_has ls 4 [(2, .int (v2 + (-1 : Int32))), (0, .ref v0), (1, .ref v1)] := hl
        refine lv_goto (tgt := 8) hx hb dX5_arriveFrom_92 (by decide) ?_
        exact ih8 _ _ _ _ _ _ _ _ _ _ _ h hw hS (lv_sub hl [1, 2, 0] rfl) hcu hsu
      intro S H locs ls mc ms cu su v0 v1 v2 h hw hS hl hcu hsu
      unfold wb_X5_arriveFrom_8 at h
      refine lv_iload_n hx hb dX5_arriveFrom_8 rfl (lv_at hl 2 rfl) ?_
      refine lv_if_le (tgt := 95) hx hb dX5_arriveFrom_9 (by decide) (fun hc => ?_) (fun hc => ?_)
      · have h := h.1 hc
        exact hB95 _ _ _ _ _ _ _ _ h hw hS (lv_sub hl [] rfl) hcu hsu
      · have h := h.2 hc
        refine lv_aload_n hx hb dX5_arriveFrom_12 rfl (lv_at hl 1 rfl) ?_
        refine lv_aload_n hx hb dX5_arriveFrom_13 rfl (lv_at hl 0 rfl) ?_
        obtain ⟨hk7, h⟩ := h
        refine r_get (ci := 6) (v := .int (gV S 7 v0 3)) (C := RX5) (T := TX5) (N := 6) hx hb hts hiX5 hown hK hw (ce_7 (S := S) hk7) rfl 3 (by decide) (hts (.fieldLink RX5 26 "TubePost" "tick" "I") (by decide +kernel)) (fun _ h9 => h9) rfl dX5_arriveFrom_14 ?_
        obtain ⟨hk8, h⟩ := h
        have h1 := h
        refine va_calli (va_runVN (As := [.int (gV S 7 v0 3)]) (rest := []) ⟨hx, hb, hml, hown, hts⟩ (m_X4_isFirstAtEnd (l := l) h1) ⟨va_cnB 1 hts gX5_arriveFrom_X4_isFirstAtEnd_n233 rfl rfl rfl (hNw _ bNw_51) (hts (.initialized RX4) (by decide +kernel)) ⟨by decide +kernel, by decide +kernel, by decide +kernel⟩ ⟨Nat.le_trans (Nat.le_of_ble_eq_true rfl) hRf, Nat.le_trans (Nat.le_of_ble_eq_true rfl) hRl⟩, (hts (.instanceMethod yX4_isFirstAtEnd) (by decide +kernel)), hts (.selects RX4 yX4_isFirstAtEnd yX4_isFirstAtEnd) (by decide +kernel)⟩ (r_pV hB hw hS (ce_6 (S := S) hk8) rfl) rfl rfl hl.1 rfl (lv_room (Nat.le_of_ble_eq_true rfl)) dX5_arriveFrom_17 ⟨by omega, by omega⟩) hS (fun _ _ h => h) (fun _ h => h) (fun r9 S10 t H1 locs ht _ h hw1 _ _ hS => ?_)
        subst ht
        have hw : wd D y z S10 A t.heap := hw1
        clear hw1 h1
        refine lv_if_eq (tgt := 95) hx hb dX5_arriveFrom_20 (by decide) (fun hc => ?_) (fun hc => ?_)
        · have h := h.1 hc
          exact hB95 _ _ _ _ _ _ _ _ h hw hS (lv_sub hl [] rfl) hcu hsu
        · have h := h.2 hc
          refine lv_aload_n hx hb dX5_arriveFrom_23 rfl (lv_at hl 1 rfl) ?_
          obtain ⟨hk11, h⟩ := h
          obtain ⟨b12, hb13, h⟩ := h
          refine r_getN (ci := 5) (v := .ref b12) (C := RX4) (T := TX4) (N := 11) hx hb hts hiX4 hown hK hw (ce_6 (S := S10) hk11) rfl 5 (by decide) (hNw _ (bNw_22)) (fun _ h9 => h9) (congrArg (fun q => some (va_rf q)) hb13) dX5_arriveFrom_24 ?_
          refine lv_iconst (v := (0 : Int32)) hx hb dX5_arriveFrom_27 (by decide) ?_
          obtain ⟨hk14, h⟩ := h
          have h1 := h
          refine va_callq (va_runV (As := [.int (0 : Int32)]) (rest := []) ⟨hx, hb, hml, hown, hts⟩ (m_Jx4a65c_get_915e3 (l := l) h1) (cwV 1 hts gX5_arriveFrom_Jx4a65c_get_915e3 rfl rfl rfl (by decide +kernel) ⟨Nat.le_trans (Nat.le_of_ble_eq_true rfl) hRf, Nat.le_trans (Nat.le_of_ble_eq_true rfl) hRl⟩) (r_pV hB hw hS (ce_1 (S := S10) hk14) rfl) rfl rfl hl.1 rfl (lv_room (Nat.le_of_ble_eq_true rfl)) dX5_arriveFrom_28 ⟨by omega, by omega⟩) hS (fun _ _ h => h) (fun _ h => h) (fun r15 S16 t H1 locs ht _ h hw1 _ _ hS => ?_)
          subst ht
          have hw : wd D y z S16 A t.heap := hw1
          clear hw1 h1
          obtain ⟨b17, rfl, h⟩ := h
          refine W.eq (g2 := F0 m 31 ls [.ref b17]) rfl ?_
          obtain ⟨hk19, h⟩ := h
          refine r_cast hx hb hown (hts (.classLink RX5 163 "TubePost$Carrier") (by decide +kernel)) hK hw (ce_2 hk19) rfl dX5_arriveFrom_31 ?_
          refine lv_astore_n hx hb dX5_arriveFrom_34 rfl hl (by decide) rfl (fun ls hl => ?_)
          have hl : lv_has ls 4 [(3, .ref b17), (0, .ref v0), (1, .ref v1), (2, .int v2)] := hl
          refine lv_aload_n hx hb dX5_arriveFrom_35 rfl (lv_at hl 0 rfl) ?_
          obtain ⟨b20, hb21, h⟩ := h
          refine r_getN (ci := 1) (v := .ref b20) (C := RX0) (T := TX0) (N := 9) hx hb hts hiX0 hown hK hw (ce_2 (S := S16) hk19) rfl 1 (by decide) (hNw _ (bNw_7)) (fun _ h9 => h9) (congrArg (fun q => some (va_rf q)) hb21) dX5_arriveFrom_36 ?_
          refine lv_aload_n hx hb dX5_arriveFrom_39 rfl (lv_at hl 2 rfl) ?_
          obtain ⟨hk22, h⟩ := h
          obtain ⟨b23, hb24, h⟩ := h
          refine r_getN (ci := 5) (v := .ref b23) (C := RX4) (T := TX4) (N := 11) hx hb hts hiX4 hown hK hw (ce_6 (S := S16) hk22) rfl 2 (by decide) (hNw _ (bNw_18)) (fun _ h9 => h9) (congrArg (fun q => some (va_rf q)) hb24) dX5_arriveFrom_40 ?_
          refine lv_acmp_ne (rx := (some b20)) (ry := (some b23)) (tgt := 54) hx hb dX5_arriveFrom_43 (by decide) (fun hc => ?_) (fun hc => ?_)
          · have h := h.1 hc
            refine lv_aload_n hx hb dX5_arriveFrom_54 rfl (lv_at hl 2 rfl) ?_
            obtain ⟨b25, hb26, h⟩ := h
            refine r_getN (ci := 5) (v := .ref b25) (C := RX4) (T := TX4) (N := 11) hx hb hts hiX4 hown hK hw (ce_6 (S := S16) hk22) rfl 2 (by decide) (hNw _ (bNw_18)) (fun _ h9 => h9) (congrArg (fun q => some (va_rf q)) hb26) dX5_arriveFrom_55 ?_
            obtain ⟨hk27, h⟩ := h
            have h1 := h
            refine va_calli (va_runVN (As := []) (rest := []) ⟨hx, hb, hml, hown, hts⟩ (m_X3_hasRoom (l := l) h1) ⟨va_cnB 0 hts gX5_arriveFrom_X3_hasRoom_n318 rfl rfl rfl (hNw _ bNw_57) (hts (.initialized RX3) (by decide +kernel)) ⟨by decide +kernel, by decide +kernel, by decide +kernel⟩ ⟨Nat.le_trans (Nat.le_of_ble_eq_true rfl) hRf, Nat.le_trans (Nat.le_of_ble_eq_true rfl) hRl⟩, (hts (.instanceMethod yX3_hasRoom) (by decide +kernel)), hts (.selects RX3 yX3_hasRoom yX3_hasRoom) (by decide +kernel)⟩ (r_pV hB hw hS (ce_5 (S := S16) hk27) rfl) rfl rfl hl.1 rfl (lv_room (Nat.le_of_ble_eq_true rfl)) dX5_arriveFrom_58 ⟨by omega, by omega⟩) hS (fun _ _ h => h) (fun _ h => h) (fun r28 S29 t H1 locs ht _ h hw1 _ _ hS => ?_)
            subst ht
            have hw : wd D y z S29 A t.heap := hw1
            clear hw1 h1
            refine lv_if_eq (tgt := 79) hx hb dX5_arriveFrom_61 (by decide) (fun hc => ?_) (fun hc => ?_)
            · have h := h.1 hc
              exact hret _ _ _ _ _ _ _ h hw hS (by omega) (by omega) dX5_arriveFrom_79
            · have h := h.2 hc
              refine lv_aload_n hx hb dX5_arriveFrom_64 rfl (lv_at hl 0 rfl) ?_
              refine lv_aload_n hx hb dX5_arriveFrom_65 rfl (lv_at hl 2 rfl) ?_
              obtain ⟨hk30, h⟩ := h
              obtain ⟨b31, hb32, h⟩ := h
              refine r_getN (ci := 5) (v := .ref b31) (C := RX4) (T := TX4) (N := 11) hx hb hts hiX4 hown hK hw (ce_6 (S := S29) hk30) rfl 2 (by decide) (hNw _ (bNw_18)) (fun _ h9 => h9) (congrArg (fun q => some (va_rf q)) hb32) dX5_arriveFrom_66 ?_
              refine lv_aload_n hx hb dX5_arriveFrom_69 rfl (lv_at hl 1 rfl) ?_
              obtain ⟨hk33, h⟩ := h
              refine r_get (ci := 6) (v := .int (gV S29 7 v0 3)) (C := RX5) (T := TX5) (N := 6) hx hb hts hiX5 hown hK hw (ce_7 (S := S29) hk33) rfl 3 (by decide) (hts (.fieldLink RX5 26 "TubePost" "tick" "I") (by decide +kernel)) (fun _ h9 => h9) rfl dX5_arriveFrom_70 ?_
              obtain ⟨hk34, h⟩ := h
              obtain ⟨k37, n38, hbg1, hbg2, h⟩ := h
              have h1 := h
              refine va_callv (va_runVN (As := [.ref b31, .int (gV S29 7 v0 3)]) (rest := []) ⟨hx, hb, hml, hown, hts⟩ (m_X0_comeTo (l := l) h1) ⟨va_cnB 2 hts gX5_arriveFrom_X0_comeTo_n322 rfl rfl rfl (hNw _ bNw_58) (hts (.initialized RX0) (by decide +kernel)) ⟨by decide +kernel, by decide +kernel, by decide +kernel⟩ ⟨Nat.le_trans (Nat.le_of_ble_eq_true rfl) hRf, Nat.le_trans (Nat.le_of_ble_eq_true rfl) hRl⟩, (hts (.instanceMethod yX0_comeTo) (by decide +kernel)), hts (.selects RX0 yX0_comeTo yX0_comeTo) (by decide +kernel)⟩ (r_pV hB hw hS (ce_2 (S := S29) hk34) rfl) rfl rfl hl.1 rfl (lv_room (Nat.le_of_ble_eq_true rfl)) dX5_arriveFrom_73 ⟨by omega, by omega⟩) hS (fun _ _ h => h) (fun _ h => h) (fun S36 t H1 locs ht _ h hw1 _ _ hS => ?_)
              subst ht
              have hw : wd D y z S36 A t.heap := hw1
              clear hw1 h1
              have hcu : (cu + k37) + (mc - k37) ≤ MC := by omega
              have hsu : (su + n38) + (ms - n38) ≤ MS := by omega
              refine lv_goto (tgt := 80) hx hb dX5_arriveFrom_76 (by decide) ?_
              exact hB80 _ _ _ _ _ _ _ _ _ _ _ h hw hS (lv_sub hl [1, 2, 3] rfl) hcu hsu
          · have h := h.2 hc
            refine lv_aload_n hx hb dX5_arriveFrom_46 rfl (lv_at hl 1 rfl) ?_
            refine lv_aload_n hx hb dX5_arriveFrom_47 rfl (lv_at hl 0 rfl) ?_
            obtain ⟨hk39, h⟩ := h
            have h1 := h
            refine va_callv (va_runV (As := [.ref b17]) (rest := []) ⟨hx, hb, hml, hown, hts⟩ (m_X5_deliver (l := l) h1) (cwV 1 hts gX5_arriveFrom_X5_deliver rfl rfl rfl (by decide +kernel) ⟨Nat.le_trans (Nat.le_of_ble_eq_true rfl) hRf, Nat.le_trans (Nat.le_of_ble_eq_true rfl) hRl⟩) (r_pV hB hw hS (ce_7 (S := S16) hk39) rfl) rfl rfl hl.1 rfl (lv_room (Nat.le_of_ble_eq_true rfl)) dX5_arriveFrom_48 ⟨by omega, by omega⟩) hS (fun _ _ h => h) (fun _ h => h) (fun S41 t H1 locs ht _ h hw1 _ _ hS => ?_)
            subst ht
            have hw : wd D y z S41 A t.heap := hw1
            clear hw1 h1
            refine lv_goto (tgt := 80) hx hb dX5_arriveFrom_51 (by decide) ?_
            exact hB80 _ _ _ _ _ _ _ _ _ _ _ h hw hS (lv_sub hl [1, 2, 3] rfl) hcu hsu
  unfold wp_X5_arriveFrom at h
  have hcu : 0 + MC ≤ MC := by omega
  have hsu : 0 + MS ≤ MS := by omega
  refine lv_aload_n hx hb dX5_arriveFrom_0 rfl (lv_at hl 1 rfl) ?_
  obtain ⟨hk1, h⟩ := h
  obtain ⟨b2, hb3, h⟩ := h
  refine r_getN (ci := 5) (v := .ref b2) (C := RX4) (T := TX4) (N := 11) hx hb hts hiX4 hown hK hw (ce_6 (S := S) hk1) rfl 5 (by decide) (hNw _ (bNw_22)) (fun _ h9 => h9) (congrArg (fun q => some (va_rf q)) hb3) dX5_arriveFrom_1 ?_
  obtain ⟨hk4, h⟩ := h
  have h1 := h
  refine va_calli (va_runV (As := []) (rest := []) ⟨hx, hb, hml, hown, hts⟩ (m_Jx4a65c_size_8abf5 (l := l) h1) (cwV 0 hts gX5_arriveFrom_Jx4a65c_size_8abf5 rfl rfl rfl (by decide +kernel) ⟨Nat.le_trans (Nat.le_of_ble_eq_true rfl) hRf, Nat.le_trans (Nat.le_of_ble_eq_true rfl) hRl⟩) (r_pV hB hw hS (ce_1 (S := S) hk4) rfl) rfl rfl hl.1 rfl (lv_room (Nat.le_of_ble_eq_true rfl)) dX5_arriveFrom_4 ⟨by omega, by omega⟩) hS (fun _ _ h => h) (fun _ h => h) (fun r5 S6 t H1 locs ht _ h hw1 _ _ hS => ?_)
  subst ht
  have hw : wd D y z S6 A t.heap := hw1
  clear hw1 h1
  refine lv_istore_n hx hb dX5_arriveFrom_7 rfl hl (by decide) rfl (fun ls hl => ?_)
  have hl : lv_has ls 4 [(2, .int r5), (0, .ref this), (1, .ref p1)] := hl
  obtain ⟨n8, h⟩ := h
  exact hB8 n8 _ _ _ _ _ _ _ _ _ _ _ h hw hS (lv_sub hl [1, 2, 0] rfl) hcu hsu
def wb_X5_arriveEverywhere_2 (post : bS → Prop) : Nat → Nat → Nat → Nat → Int32 → bS → Prop
  | 0, _, _, _, _, _ => False
  | n + 1, mc, ms, v0, v1, S => gK S v0 = 7 ∧ (∃ b2, gQ S 7 v0 0 = some b2 ∧ (gK S b2 = 4 ∧ (∃ b5, gQ S 4 b2 1 = some b5 ∧ (gK S b5 = 1 ∧ (wp_Jx4a65c_size_8abf5 (fun r8 S9 => (r8 ≤ v1 → post S9) ∧ (¬ (r8 ≤ v1) → gK S9 v0 = 7 ∧ (∃ b11, gQ S9 7 v0 0 = some b11 ∧ (gK S9 b11 = 4 ∧ (∃ b14, gQ S9 4 b11 1 = some b14 ∧ (gK S9 b14 = 1 ∧ (wp_Jx4a65c_get_915e3 (fun r17 S18 => ∃ b19, r17 = some b19 ∧ (gK S18 b19 = 6 ∧ (gK S18 v0 = 7 ∧ (∃ k25 n26, k25 ≤ mc ∧ n26 ≤ ms ∧ (wp_X5_arriveFrom (fun S24 => (wb_X5_arriveEverywhere_2 post n) (mc - k25) (ms - n26) v0 (v1 + (1 : Int32)) S24) k25 n26 v0 b19 S18))))) b14 v1 S9))))))) b5 S)))))
def wp_X5_arriveEverywhere (post : bS → Prop) (MC MS : Nat) (this : Nat) (S : bS) : Prop := ∃ n2, wb_X5_arriveEverywhere_2 post n2 MC MS this (0 : Int32) S
set_option maxHeartbeats 4000000 in
set_option maxRecDepth 100000 in
theorem m_X5_arriveEverywhere {l : Launch} {D : va_G} {y : Nat → ClassId} {z : Nat} {A : Nat → Prop} {S : bS} {post : bS → Prop} {MC MS : Nat} {this : Nat} (h : wp_X5_arriveEverywhere post MC MS this S) : Met l yX5_arriveEverywhere wsX5_arriveEverywhere ({ frames := 9, cells := MC, slots := MS, locals := 238 } : Room) (va_Pc ([Value.ref this] : List Value) (bP D y z S A)) (va_Qv post (fun S' t => wd D y z S' A t.heap) A) MC MS A := by
  refine Met.ofW (cc := cX5_arriveEverywhere) (maxL := 2) (ret := none) (by decide) rfl ?_
  intro p e s m args below meth c s₁ B hml hv
  obtain ⟨rfl, hB⟩ := hv
  have hx := B.exec
  have hb := B.bytes
  have hr := B.returns
  have hts := atoms_spec (ws := wsX5_arriveEverywhere) B.pre
  have hown : s.vm.findClass RX5 = some m.cls := findClass_of_methodNamed B.named
  have hlocks := B.notSynchronized
  have hw : wd D y z S A s.heap := hB.1
  have hK : va_K D bCl (bT y) s := hB.2.1
  have hNw := hB.2.2.1
  have hAn : ∀ q : Nat, s.heap.size ≤ q → A q := hB.2.2.2.1
  have hAz : ¬ A z := hB.2.2.2.2.1
  have hO := hB.2.2.2.2.2.1
  have hS : va_S A s.heap s.heap [] := va_S.rf
  have hiX2 : ∀ w ∈ u_ws RX2 TX2 2, w ∈ wsX5_arriveEverywhere := by decide +kernel
  have hiX5 : ∀ w ∈ u_ws RX5 TX5 6, w ∈ wsX5_arriveEverywhere := by decide +kernel
  have hl := lv_entry ([Value.ref this] : List Value) (n := 2) (Nat.le_of_ble_eq_true rfl)
  rw [lg_entry_eq]
  generalize (lg_sl ([Value.ref this] : List Value) ++ List.replicate (2 - (lg_sl ([Value.ref this] : List Value)).length) Slot.unset).toArray = ls at hl ⊢
  have hl : lv_has ls 2 [(0, .ref this)] := hl
  obtain ⟨Q, hQ⟩ : ∃ Q, Q = MQ below (va_Qv post (fun S' t => wd D y z S' A t.heap) A) (([Value.ref this] : List Value).toArray) s MC MS A := ⟨_, rfl⟩
  rw [← hQ]
  generalize hR : (headSpec wsX5_arriveEverywhere ({ frames := 9, cells := MC, slots := MS, locals := 238 } : Room)).room = R
  have hRf : 9 ≤ R.frames := by rw [← hR]; exact Nat.le_refl _
  have hRl : 238 ≤ R.locals := by rw [← hR]; exact Nat.le_refl _
  have hRc : R.cells = MC := by rw [← hR]; rfl
  have hRs : R.slots = MS := by rw [← hR]; rfl
  have hret : ∀ (S : bS) (H : Heap) (locs : List Loc) (pc : Nat) (ls : Array Slot) (cu su : Nat) , post S → wd D y z S A H → va_S A s.heap H locs → cu ≤ MC → su ≤ MS → decode cX5_arriveEverywhere pc = .ok (.return_, 1) → W p l e R s m (([Value.ref this] : List Value).toArray) below meth c H locs cu su Q (F0 m pc ls []) := by
    intro S H locs pc ls cu su h hw hS hcu hsu d0
    rw [hQ]; refine W.widen hcu hsu ?_; exact W.vret hx hb hr (fun t ht hW => ⟨⟨S, rfl, h, by show wd D y z S A t.heap; rw [ht]; exact hw⟩, hS.F ht⟩) hS.2.2 d0 hlocks
  have hB2 : ∀ (n2 : Nat) (S : bS) (H : Heap) (locs : List Loc) (ls : Array Slot) (mc ms cu su : Nat) (v0 : Nat) (v1 : Int32), wb_X5_arriveEverywhere_2 post n2 mc ms v0 v1 S → wd D y z S A H → va_S A s.heap H locs → lv_has ls 2 [(0, .ref v0), (1, .int v1)] → cu + mc ≤ MC → su + ms ≤ MS → W p l e R s m (([Value.ref this] : List Value).toArray) below meth c H locs cu su Q (F0 m 2 ls []) := by
    intro n2
    induction n2 with
    | zero =>
      intro S H locs ls mc ms cu su v0 v1 h hw hS hl hcu hsu
      exact absurd h (by unfold wb_X5_arriveEverywhere_2; exact id)
    | succ n2 ih2 =>
      intro S H locs ls mc ms cu su v0 v1 h hw hS hl hcu hsu
      unfold wb_X5_arriveEverywhere_2 at h
      refine lv_iload_n hx hb dX5_arriveEverywhere_2 rfl (lv_at hl 1 rfl) ?_
      refine lv_aload_n hx hb dX5_arriveEverywhere_3 rfl (lv_at hl 0 rfl) ?_
      obtain ⟨hk1, h⟩ := h
      obtain ⟨b2, hb3, h⟩ := h
      refine r_get (ci := 6) (v := .ref b2) (C := RX5) (T := TX5) (N := 6) hx hb hts hiX5 hown hK hw (ce_7 (S := S) hk1) rfl 0 (by decide) (hts (.fieldLink RX5 10 "TubePost" "net" "LTubePost$Net;") (by decide +kernel)) (fun _ h9 => h9) (congrArg (fun q => some (va_rf q)) hb3) dX5_arriveEverywhere_4 ?_
      obtain ⟨hk4, h⟩ := h
      obtain ⟨b5, hb6, h⟩ := h
      refine r_getN (ci := 3) (v := .ref b5) (C := RX2) (T := TX2) (N := 2) hx hb hts hiX2 hown hK hw (ce_4 (S := S) hk4) rfl 1 (by decide) (hNw _ (bNw_1)) (fun _ h9 => h9) (congrArg (fun q => some (va_rf q)) hb6) dX5_arriveEverywhere_7 ?_
      obtain ⟨hk7, h⟩ := h
      have h1 := h
      refine va_calli (va_runV (As := []) (rest := [.int v1]) ⟨hx, hb, hml, hown, hts⟩ (m_Jx4a65c_size_8abf5 (l := l) h1) (cwV 0 hts gX5_arriveEverywhere_Jx4a65c_size_8abf5 rfl rfl rfl (by decide +kernel) ⟨Nat.le_trans (Nat.le_of_ble_eq_true rfl) hRf, Nat.le_trans (Nat.le_of_ble_eq_true rfl) hRl⟩) (r_pV hB hw hS (ce_1 (S := S) hk7) rfl) rfl rfl hl.1 rfl (lv_room (Nat.le_of_ble_eq_true rfl)) dX5_arriveEverywhere_10 ⟨by omega, by omega⟩) hS (fun _ _ h => h) (fun _ h => h) (fun r8 S9 t H1 locs ht _ h hw1 _ _ hS => ?_)
      subst ht
      have hw : wd D y z S9 A t.heap := hw1
      clear hw1 h1
      refine lv_icmp_ge (tgt := 40) hx hb dX5_arriveEverywhere_13 (by decide) (fun hc => ?_) (fun hc => ?_)
      · have h := h.1 hc
        exact hret _ _ _ _ _ _ _ h hw hS (by omega) (by omega) dX5_arriveEverywhere_40
      · have h := h.2 hc
        refine lv_aload_n hx hb dX5_arriveEverywhere_16 rfl (lv_at hl 0 rfl) ?_
        refine lv_aload_n hx hb dX5_arriveEverywhere_17 rfl (lv_at hl 0 rfl) ?_
        obtain ⟨hk10, h⟩ := h
        obtain ⟨b11, hb12, h⟩ := h
        refine r_get (ci := 6) (v := .ref b11) (C := RX5) (T := TX5) (N := 6) hx hb hts hiX5 hown hK hw (ce_7 (S := S9) hk10) rfl 0 (by decide) (hts (.fieldLink RX5 10 "TubePost" "net" "LTubePost$Net;") (by decide +kernel)) (fun _ h9 => h9) (congrArg (fun q => some (va_rf q)) hb12) dX5_arriveEverywhere_18 ?_
        obtain ⟨hk13, h⟩ := h
        obtain ⟨b14, hb15, h⟩ := h
        refine r_getN (ci := 3) (v := .ref b14) (C := RX2) (T := TX2) (N := 2) hx hb hts hiX2 hown hK hw (ce_4 (S := S9) hk13) rfl 1 (by decide) (hNw _ (bNw_1)) (fun _ h9 => h9) (congrArg (fun q => some (va_rf q)) hb15) dX5_arriveEverywhere_21 ?_
        refine lv_iload_n hx hb dX5_arriveEverywhere_24 rfl (lv_at hl 1 rfl) ?_
        obtain ⟨hk16, h⟩ := h
        have h1 := h
        refine va_callq (va_runV (As := [.int v1]) (rest := [.ref v0]) ⟨hx, hb, hml, hown, hts⟩ (m_Jx4a65c_get_915e3 (l := l) h1) (cwV 1 hts gX5_arriveEverywhere_Jx4a65c_get_915e3 rfl rfl rfl (by decide +kernel) ⟨Nat.le_trans (Nat.le_of_ble_eq_true rfl) hRf, Nat.le_trans (Nat.le_of_ble_eq_true rfl) hRl⟩) (r_pV hB hw hS (ce_1 (S := S9) hk16) rfl) rfl rfl hl.1 rfl (lv_room (Nat.le_of_ble_eq_true rfl)) dX5_arriveEverywhere_25 ⟨by omega, by omega⟩) hS (fun _ _ h => h) (fun _ h => h) (fun r17 S18 t H1 locs ht _ h hw1 _ _ hS => ?_)
        subst ht
        have hw : wd D y z S18 A t.heap := hw1
        clear hw1 h1
        obtain ⟨b19, rfl, h⟩ := h
        refine W.eq (g2 := F0 m 28 ls [.ref b19, .ref v0]) rfl ?_
        obtain ⟨hk21, h⟩ := h
        refine r_cast hx hb hown (hts (.classLink RX5 101 "TubePost$Tube") (by decide +kernel)) hK hw (ce_6 hk21) rfl dX5_arriveEverywhere_28 ?_
        obtain ⟨hk22, h⟩ := h
        obtain ⟨k25, n26, hbg1, hbg2, h⟩ := h
        have h1 := h
        refine va_callv (va_runV (As := [.ref b19]) (rest := []) ⟨hx, hb, hml, hown, hts⟩ (m_X5_arriveFrom (l := l) h1) (cwV 1 hts gX5_arriveEverywhere_X5_arriveFrom rfl rfl rfl (by decide +kernel) ⟨Nat.le_trans (Nat.le_of_ble_eq_true rfl) hRf, Nat.le_trans (Nat.le_of_ble_eq_true rfl) hRl⟩) (r_pV hB hw hS (ce_7 (S := S18) hk22) rfl) rfl rfl hl.1 rfl (lv_room (Nat.le_of_ble_eq_true rfl)) dX5_arriveEverywhere_31 ⟨by omega, by omega⟩) hS (fun _ _ h => h) (fun _ h => h) (fun S24 t H1 locs ht _ h hw1 _ _ hS => ?_)
        subst ht
        have hw : wd D y z S24 A t.heap := hw1
        clear hw1 h1
        have hcu : (cu + k25) + (mc - k25) ≤ MC := by omega
        have hsu : (su + n26) + (ms - n26) ≤ MS := by omega
        refine lv_iinc (v := (v1 + (1 : Int32))) hx hb dX5_arriveEverywhere_34 hl (k := 1) rfl rfl (by decide) rfl (fun ls hl => ?_)
        have hl : lv_has ls 2 [(1, .int (v1 + (1 : Int32))), (0, .ref v0)] := hl
        refine lv_goto (tgt := 2) hx hb dX5_arriveEverywhere_37 (by decide) ?_
        exact ih2 _ _ _ _ _ _ _ _ _ _ h hw hS (lv_sub hl [1, 0] rfl) hcu hsu
  unfold wp_X5_arriveEverywhere at h
  have hcu : 0 + MC ≤ MC := by omega
  have hsu : 0 + MS ≤ MS := by omega
  refine lv_iconst (v := (0 : Int32)) hx hb dX5_arriveEverywhere_0 (by decide) ?_
  refine lv_istore_n hx hb dX5_arriveEverywhere_1 rfl hl (by decide) rfl (fun ls hl => ?_)
  have hl : lv_has ls 2 [(1, .int (0 : Int32)), (0, .ref this)] := hl
  obtain ⟨n2, h⟩ := h
  exact hB2 n2 _ _ _ _ _ _ _ _ _ _ h hw hS (lv_sub hl [1, 0] rfl) hcu hsu
def wb_X5_tubeToEnter_81 (post : Option Nat → bS → Prop) (s0 : Option Nat) (S : bS) : Prop := post s0 S
def wp_X5_tubeToEnter (post : Option Nat → bS → Prop) (this : Nat) (p1 : Nat) (p2 : Nat) (S : bS) : Prop := gK S this = 7 ∧ (gK S p2 = 2 ∧ (gK S p1 = 5 ∧ (((gV S 5 p1 2) ≤ ((gV S 7 this 3) - (gV S 2 p2 6)) → ∃ b4, gQ S 7 this 0 = some b4 ∧ (∃ b6, gQ S 2 p2 1 = some b6 ∧ (gK S b4 = 4 ∧ (wp_X2_wayFor (fun r9 S10 => gK S10 p1 = 5 ∧ (∃ b12, gQ S10 5 p1 3 = some b12 ∧ (gK S10 b12 = 1 ∧ (wp_Jx4a65c_size_8abf5 (fun r15 S16 => wp_X5_isOutside (fun r17 S18 => (r17 = (0 : Int32) → gK S18 p1 = 5 ∧ (∃ b20, gQ S18 5 p1 3 = some b20 ∧ (gK S18 b20 = 1 ∧ (wp_Jx4a65c_get_915e3 (fun r23 S24 => ∃ b25, r23 = some b25 ∧ (gK S24 b25 = 6 ∧ (gK S24 this = 7 ∧ (wp_X4_canBeEnteredAt (fun r29 S30 => (r29 = (0 : Int32) → wb_X5_tubeToEnter_81 post none S30) ∧ (¬ (r29 = (0 : Int32)) → wb_X5_tubeToEnter_81 post (some b25) S30)) b25 (gV S24 7 this 3) S24)))) b20 r9 S18)))) ∧ (¬ (r17 = (0 : Int32)) → post none S18)) r9 (0 : Int32) (r15 - (1 : Int32)) S16) b12 S10)))) b4 p1 b6 S)))) ∧ (¬ ((gV S 5 p1 2) ≤ ((gV S 7 this 3) - (gV S 2 p2 6))) → post none S))))
set_option maxHeartbeats 4000000 in
set_option maxRecDepth 100000 in
theorem m_X5_tubeToEnter {l : Launch} {D : va_G} {y : Nat → ClassId} {z : Nat} {A : Nat → Prop} {S : bS} {post : Option Nat → bS → Prop} {this : Nat} {p1 : Nat} {p2 : Nat} (h : wp_X5_tubeToEnter post this p1 p2 S) : Met l yX5_tubeToEnter wsX5_tubeToEnter ({ frames := 5, cells := 0, slots := 0, locals := 117 } : Room) (va_Pc ([Value.ref this, Value.ref p1, Value.ref p2] : List Value) (bP D y z S A)) (va_Qq post (fun S' t => wd D y z S' A t.heap) A) 0 0 A := by
  refine Met.ofW (cc := cX5_tubeToEnter) (maxL := 5) (ret := (some (.object "TubePost$Tube"))) (by decide) rfl ?_
  intro p e s m args below meth c s₁ B hml hv
  obtain ⟨rfl, hB⟩ := hv
  have hx := B.exec
  have hb := B.bytes
  have hr := B.returns
  have hts := atoms_spec (ws := wsX5_tubeToEnter) B.pre
  have hown : s.vm.findClass RX5 = some m.cls := findClass_of_methodNamed B.named
  have hlocks := B.notSynchronized
  have hw : wd D y z S A s.heap := hB.1
  have hK : va_K D bCl (bT y) s := hB.2.1
  have hNw := hB.2.2.1
  have hAn : ∀ q : Nat, s.heap.size ≤ q → A q := hB.2.2.2.1
  have hAz : ¬ A z := hB.2.2.2.2.1
  have hO := hB.2.2.2.2.2.1
  have hS : va_S A s.heap s.heap [] := va_S.rf
  have hiX0 : ∀ w ∈ u_ws RX0 TX0 9, w ∈ wsX5_tubeToEnter := by decide +kernel
  have hiX3 : ∀ w ∈ u_ws RX3 TX3 10, w ∈ wsX5_tubeToEnter := by decide +kernel
  have hiX5 : ∀ w ∈ u_ws RX5 TX5 6, w ∈ wsX5_tubeToEnter := by decide +kernel
  have hl := lv_entry ([Value.ref this, Value.ref p1, Value.ref p2] : List Value) (n := 5) (Nat.le_of_ble_eq_true rfl)
  rw [lg_entry_eq]
  generalize (lg_sl ([Value.ref this, Value.ref p1, Value.ref p2] : List Value) ++ List.replicate (5 - (lg_sl ([Value.ref this, Value.ref p1, Value.ref p2] : List Value)).length) Slot.unset).toArray = ls at hl ⊢
  have hl : lv_has ls 5 [(0, .ref this), (1, .ref p1), (2, .ref p2)] := hl
  obtain ⟨Q, hQ⟩ : ∃ Q, Q = MQ below (va_Qq post (fun S' t => wd D y z S' A t.heap) A) (([Value.ref this, Value.ref p1, Value.ref p2] : List Value).toArray) s 0 0 A := ⟨_, rfl⟩
  rw [← hQ]
  generalize hR : (headSpec wsX5_tubeToEnter ({ frames := 5, cells := 0, slots := 0, locals := 117 } : Room)).room = R
  have hRf : 5 ≤ R.frames := by rw [← hR]; exact Nat.le_refl _
  have hRl : 117 ≤ R.locals := by rw [← hR]; exact Nat.le_refl _
  have hret : ∀ (v : Option Nat) (S : bS) (H : Heap) (locs : List Loc) (pc : Nat) (ls : Array Slot) , post v S → wd D y z S A H → va_S A s.heap H locs → decode cX5_tubeToEnter pc = .ok (.areturn, 1) → W p l e R s m (([Value.ref this, Value.ref p1, Value.ref p2] : List Value).toArray) below meth c H locs 0 0 Q (F0 m pc ls [va_rf v]) := by
    intro v S H locs pc ls h hw hS d0
    rw [hQ]; exact W.aret hx hb hr (by first | exact Or.inl ⟨_, rfl⟩ | exact Or.inr ⟨_, rfl⟩) (by cases v with | none => exact Or.inl rfl | some a => exact Or.inr ⟨a, rfl⟩) (fun t ht hW => ⟨⟨v, S, rfl, h, by show wd D y z S A t.heap; rw [ht]; exact hw⟩, hS.F ht⟩) hS.2.2 d0 hlocks
  have hB81 : ∀ (S : bS) (H : Heap) (locs : List Loc) (ls : Array Slot) (s0 : Option Nat), wb_X5_tubeToEnter_81 post s0 S → wd D y z S A H → va_S A s.heap H locs → lv_has ls 5 [] → W p l e R s m (([Value.ref this, Value.ref p1, Value.ref p2] : List Value).toArray) below meth c H locs 0 0 Q (F0 m 81 ls [va_rf (s0)]) := by
    intro S H locs ls s0 h hw hS hl
    unfold wb_X5_tubeToEnter_81 at h
    exact hret s0 _ _ _ _ _ h hw hS dX5_tubeToEnter_81
  unfold wp_X5_tubeToEnter at h
  refine lv_aload_n hx hb dX5_tubeToEnter_0 rfl (lv_at hl 0 rfl) ?_
  obtain ⟨hk1, h⟩ := h
  refine r_get (ci := 6) (v := .int (gV S 7 this 3)) (C := RX5) (T := TX5) (N := 6) hx hb hts hiX5 hown hK hw (ce_7 (S := S) hk1) rfl 3 (by decide) (hts (.fieldLink RX5 26 "TubePost" "tick" "I") (by decide +kernel)) (fun _ h9 => h9) rfl dX5_tubeToEnter_1 ?_
  refine lv_aload_n hx hb dX5_tubeToEnter_4 rfl (lv_at hl 2 rfl) ?_
  obtain ⟨hk2, h⟩ := h
  refine r_getN (ci := 1) (v := .int (gV S 2 p2 6)) (C := RX0) (T := TX0) (N := 9) hx hb hts hiX0 hown hK hw (ce_2 (S := S) hk2) rfl 6 (by decide) (hNw _ (bNw_11)) (fun _ h9 => h9) rfl dX5_tubeToEnter_5 ?_
  refine lv_isub hx hb dX5_tubeToEnter_8 ?_
  refine lv_aload_n hx hb dX5_tubeToEnter_9 rfl (lv_at hl 1 rfl) ?_
  obtain ⟨hk3, h⟩ := h
  refine r_getN (ci := 4) (v := .int (gV S 5 p1 2)) (C := RX3) (T := TX3) (N := 10) hx hb hts hiX3 hown hK hw (ce_5 (S := S) hk3) rfl 2 (by decide) (hNw _ (bNw_14)) (fun _ h9 => h9) rfl dX5_tubeToEnter_10 ?_
  refine lv_icmp_ge (tgt := 18) hx hb dX5_tubeToEnter_13 (by decide) (fun hc => ?_) (fun hc => ?_)
  · have h := h.1 hc
    refine lv_aload_n hx hb dX5_tubeToEnter_18 rfl (lv_at hl 0 rfl) ?_
    obtain ⟨b4, hb5, h⟩ := h
    refine r_get (ci := 6) (v := .ref b4) (C := RX5) (T := TX5) (N := 6) hx hb hts hiX5 hown hK hw (ce_7 (S := S) hk1) rfl 0 (by decide) (hts (.fieldLink RX5 10 "TubePost" "net" "LTubePost$Net;") (by decide +kernel)) (fun _ h9 => h9) (congrArg (fun q => some (va_rf q)) hb5) dX5_tubeToEnter_19 ?_
    refine lv_aload_n hx hb dX5_tubeToEnter_22 rfl (lv_at hl 1 rfl) ?_
    refine lv_aload_n hx hb dX5_tubeToEnter_23 rfl (lv_at hl 2 rfl) ?_
    obtain ⟨b6, hb7, h⟩ := h
    refine r_getN (ci := 1) (v := .ref b6) (C := RX0) (T := TX0) (N := 9) hx hb hts hiX0 hown hK hw (ce_2 (S := S) hk2) rfl 1 (by decide) (hNw _ (bNw_7)) (fun _ h9 => h9) (congrArg (fun q => some (va_rf q)) hb7) dX5_tubeToEnter_24 ?_
    obtain ⟨hk8, h⟩ := h
    have h1 := h
    refine va_calli (va_runVN (As := [.ref p1, .ref b6]) (rest := []) ⟨hx, hb, hml, hown, hts⟩ (m_X2_wayFor (l := l) h1) ⟨va_cnB 2 hts gX5_tubeToEnter_X2_wayFor_n247 rfl rfl rfl (hNw _ bNw_53) (hts (.initialized RX2) (by decide +kernel)) ⟨by decide +kernel, by decide +kernel, by decide +kernel⟩ ⟨Nat.le_trans (Nat.le_of_ble_eq_true rfl) hRf, Nat.le_trans (Nat.le_of_ble_eq_true rfl) hRl⟩, (hts (.instanceMethod yX2_wayFor) (by decide +kernel)), hts (.selects RX2 yX2_wayFor yX2_wayFor) (by decide +kernel)⟩ (r_pV hB hw hS (ce_4 (S := S) hk8) rfl) rfl rfl hl.1 rfl (lv_room (Nat.le_of_ble_eq_true rfl)) dX5_tubeToEnter_27 ⟨Nat.zero_le _, Nat.zero_le _⟩) hS (fun _ _ h => h) (fun _ h => h) (fun r9 S10 t H1 locs ht _ h hw1 _ _ hS => ?_)
    subst ht
    have hw : wd D y z S10 A t.heap := hw1
    clear hw1 h1
    refine lv_istore_n hx hb dX5_tubeToEnter_30 rfl hl (by decide) rfl (fun ls hl => ?_)
    have hl : lv_has ls 5 [(3, .int r9), (0, .ref this), (1, .ref p1), (2, .ref p2)] := hl
    refine lv_iload_n hx hb dX5_tubeToEnter_31 rfl (lv_at hl 0 rfl) ?_
    refine lv_iconst (v := (0 : Int32)) hx hb dX5_tubeToEnter_32 (by decide) ?_
    refine lv_aload_n hx hb dX5_tubeToEnter_33 rfl (lv_at hl 2 rfl) ?_
    obtain ⟨hk11, h⟩ := h
    obtain ⟨b12, hb13, h⟩ := h
    refine r_getN (ci := 4) (v := .ref b12) (C := RX3) (T := TX3) (N := 10) hx hb hts hiX3 hown hK hw (ce_5 (S := S10) hk11) rfl 3 (by decide) (hNw _ (bNw_2)) (fun _ h9 => h9) (congrArg (fun q => some (va_rf q)) hb13) dX5_tubeToEnter_34 ?_
    obtain ⟨hk14, h⟩ := h
    have h1 := h
    refine va_calli (va_runV (As := []) (rest := [.int (0 : Int32), .int r9]) ⟨hx, hb, hml, hown, hts⟩ (m_Jx4a65c_size_8abf5 (l := l) h1) (cwV 0 hts gX5_tubeToEnter_Jx4a65c_size_8abf5 rfl rfl rfl (by decide +kernel) ⟨Nat.le_trans (Nat.le_of_ble_eq_true rfl) hRf, Nat.le_trans (Nat.le_of_ble_eq_true rfl) hRl⟩) (r_pV hB hw hS (ce_1 (S := S10) hk14) rfl) rfl rfl hl.1 rfl (lv_room (Nat.le_of_ble_eq_true rfl)) dX5_tubeToEnter_37 ⟨Nat.zero_le _, Nat.zero_le _⟩) hS (fun _ _ h => h) (fun _ h => h) (fun r15 S16 t H1 locs ht _ h hw1 _ _ hS => ?_)
    subst ht
    have hw : wd D y z S16 A t.heap := hw1
    clear hw1 h1
    refine lv_iconst (v := (1 : Int32)) hx hb dX5_tubeToEnter_40 (by decide) ?_
    refine lv_isub hx hb dX5_tubeToEnter_41 ?_
    have h1 := h
    refine va_calli (va_runS (As := [.int r9, .int (0 : Int32), .int (r15 - (1 : Int32))]) (rest := []) ⟨hx, hb, hml, hown, hts⟩ (m_X5_isOutside (l := l) h1) (cwS 3 hts gX5_tubeToEnter_X5_isOutside rfl rfl rfl (by decide +kernel) ⟨Nat.le_trans (Nat.le_of_ble_eq_true rfl) hRf, Nat.le_trans (Nat.le_of_ble_eq_true rfl) hRl⟩) (r_pS hB hw hS) rfl rfl hl.1 rfl (lv_room (Nat.le_of_ble_eq_true rfl)) dX5_tubeToEnter_42 ⟨Nat.zero_le _, Nat.zero_le _⟩) hS (fun _ _ h => h) (fun _ h => h) (fun r17 S18 t H1 locs ht _ h hw1 _ _ hS => ?_)
    subst ht
    have hw : wd D y z S18 A t.heap := hw1
    clear hw1 h1
    refine lv_if_eq (tgt := 50) hx hb dX5_tubeToEnter_45 (by decide) (fun hc => ?_) (fun hc => ?_)
    · have h := h.1 hc
      refine lv_aload_n hx hb dX5_tubeToEnter_50 rfl (lv_at hl 2 rfl) ?_
      obtain ⟨hk19, h⟩ := h
      obtain ⟨b20, hb21, h⟩ := h
      refine r_getN (ci := 4) (v := .ref b20) (C := RX3) (T := TX3) (N := 10) hx hb hts hiX3 hown hK hw (ce_5 (S := S18) hk19) rfl 3 (by decide) (hNw _ (bNw_2)) (fun _ h9 => h9) (congrArg (fun q => some (va_rf q)) hb21) dX5_tubeToEnter_51 ?_
      refine lv_iload_n hx hb dX5_tubeToEnter_54 rfl (lv_at hl 0 rfl) ?_
      obtain ⟨hk22, h⟩ := h
      have h1 := h
      refine va_callq (va_runV (As := [.int r9]) (rest := []) ⟨hx, hb, hml, hown, hts⟩ (m_Jx4a65c_get_915e3 (l := l) h1) (cwV 1 hts gX5_tubeToEnter_Jx4a65c_get_915e3 rfl rfl rfl (by decide +kernel) ⟨Nat.le_trans (Nat.le_of_ble_eq_true rfl) hRf, Nat.le_trans (Nat.le_of_ble_eq_true rfl) hRl⟩) (r_pV hB hw hS (ce_1 (S := S18) hk22) rfl) rfl rfl hl.1 rfl (lv_room (Nat.le_of_ble_eq_true rfl)) dX5_tubeToEnter_55 ⟨Nat.zero_le _, Nat.zero_le _⟩) hS (fun _ _ h => h) (fun _ h => h) (fun r23 S24 t H1 locs ht _ h hw1 _ _ hS => ?_)
      subst ht
      have hw : wd D y z S24 A t.heap := hw1
      clear hw1 h1
      obtain ⟨b25, rfl, h⟩ := h
      refine W.eq (g2 := F0 m 58 ls [.ref b25]) rfl ?_
      obtain ⟨hk27, h⟩ := h
      refine r_cast hx hb hown (hts (.classLink RX5 101 "TubePost$Tube") (by decide +kernel)) hK hw (ce_6 hk27) rfl dX5_tubeToEnter_58 ?_
      refine lv_astore hx hb dX5_tubeToEnter_61 hl (by decide) rfl (fun ls hl => ?_)
      have hl : lv_has ls 5 [(4, .ref b25), (3, .int r9), (0, .ref this), (1, .ref p1), (2, .ref p2)] := hl
      refine lv_aload hx hb dX5_tubeToEnter_63 (lv_at hl 0 rfl) ?_
      refine lv_aload_n hx hb dX5_tubeToEnter_65 rfl (lv_at hl 2 rfl) ?_
      obtain ⟨hk28, h⟩ := h
      refine r_get (ci := 6) (v := .int (gV S24 7 this 3)) (C := RX5) (T := TX5) (N := 6) hx hb hts hiX5 hown hK hw (ce_7 (S := S24) hk28) rfl 3 (by decide) (hts (.fieldLink RX5 26 "TubePost" "tick" "I") (by decide +kernel)) (fun _ h9 => h9) rfl dX5_tubeToEnter_66 ?_
      have h1 := h
      refine va_calli (va_runVN (As := [.int (gV S24 7 this 3)]) (rest := []) ⟨hx, hb, hml, hown, hts⟩ (m_X4_canBeEnteredAt (l := l) h1) ⟨va_cnB 1 hts gX5_tubeToEnter_X4_canBeEnteredAt_n341 rfl rfl rfl (hNw _ bNw_60) (hts (.initialized RX4) (by decide +kernel)) ⟨by decide +kernel, by decide +kernel, by decide +kernel⟩ ⟨Nat.le_trans (Nat.le_of_ble_eq_true rfl) hRf, Nat.le_trans (Nat.le_of_ble_eq_true rfl) hRl⟩, (hts (.instanceMethod yX4_canBeEnteredAt) (by decide +kernel)), hts (.selects RX4 yX4_canBeEnteredAt yX4_canBeEnteredAt) (by decide +kernel)⟩ (r_pV hB hw hS (ce_6 (S := S24) hk27) rfl) rfl rfl hl.1 rfl (lv_room (Nat.le_of_ble_eq_true rfl)) dX5_tubeToEnter_69 ⟨Nat.zero_le _, Nat.zero_le _⟩) hS (fun _ _ h => h) (fun _ h => h) (fun r29 S30 t H1 locs ht _ h hw1 _ _ hS => ?_)
      subst ht
      have hw : wd D y z S30 A t.heap := hw1
      clear hw1 h1
      refine lv_if_eq (tgt := 80) hx hb dX5_tubeToEnter_72 (by decide) (fun hc => ?_) (fun hc => ?_)
      · have h := h.1 hc
        refine lv_null hx hb dX5_tubeToEnter_80 ?_
        exact hB81 _ _ _ _ _ h hw hS (lv_sub hl [] rfl)
      · have h := h.2 hc
        refine lv_aload hx hb dX5_tubeToEnter_75 (lv_at hl 0 rfl) ?_
        refine lv_goto (tgt := 81) hx hb dX5_tubeToEnter_77 (by decide) ?_
        exact hB81 _ _ _ _ _ h hw hS (lv_sub hl [] rfl)
    · have h := h.2 hc
      refine lv_null hx hb dX5_tubeToEnter_48 ?_
      exact hret none _ _ _ _ _ h hw hS dX5_tubeToEnter_49
  · have h := h.2 hc
    refine lv_null hx hb dX5_tubeToEnter_16 ?_
    exact hret none _ _ _ _ _ h hw hS dX5_tubeToEnter_17
def wb_X5_departFrom_79 (post : bS → Prop) (mc ms : Nat) (S : bS) : Prop := post S
def wb_X5_departFrom_73 (post : bS → Prop) (rec13 : Nat → Nat → Nat → Nat → Nat → Int32 → Int32 → bS → Prop) (mc ms : Nat) (v0 : Nat) (v1 : Nat) (v2 : Nat) (v3 : Int32) (v4 : Int32) (S : bS) : Prop := rec13 mc ms v0 v1 v2 v3 (v4 + (-1 : Int32)) S
def wb_X5_departFrom_13 (post : bS → Prop) : Nat → Nat → Nat → Nat → Nat → Nat → Int32 → Int32 → bS → Prop
  | 0, _, _, _, _, _, _, _, _ => False
  | n + 1, mc, ms, v0, v1, v2, v3, v4, S => (v4 ≤ (0 : Int32) → wb_X5_departFrom_79 post mc ms S) ∧ (¬ (v4 ≤ (0 : Int32)) → gK S v2 = 1 ∧ (wp_Jx4a65c_size_8abf5 (fun r8 S9 => (r8 ≤ v3 → wb_X5_departFrom_79 post mc ms S9) ∧ (¬ (r8 ≤ v3) → gK S9 v2 = 1 ∧ (wp_Jx4a65c_get_915e3 (fun r11 S12 => ∃ b13, r11 = some b13 ∧ (gK S12 b13 = 2 ∧ (gK S12 v0 = 7 ∧ (wp_X5_tubeToEnter (fun r17 S18 => (r17 = none → wb_X5_departFrom_73 post (wb_X5_departFrom_13 post n) mc ms v0 v1 v2 (v3 + (1 : Int32)) v4 S18) ∧ (∀ b19, r17 = some b19 → gK S18 v2 = 1 ∧ (wp_Jx4a65c_remove_915e3 (fun r21 S22 => ∃ b23, r21 = some b23 ∧ (gK S22 v0 = 7 ∧ (gK S22 b13 = 2 ∧ (∃ k29 n30, k29 ≤ mc ∧ n30 ≤ ms ∧ (wp_X0_enter (fun S28 => wb_X5_departFrom_73 post (wb_X5_departFrom_13 post n) (mc - k29) (ms - n30) v0 v1 v2 v3 v4 S28) k29 n30 b13 b19 (gV S22 7 v0 3) S22))))) v2 v3 S18))) v0 v1 b13 S12)))) v2 v3 S9))) v2 S))
def wp_X5_departFrom (post : bS → Prop) (MC MS : Nat) (this : Nat) (p1 : Nat) (S : bS) : Prop := gK S p1 = 5 ∧ (∃ b2, gQ S 5 p1 4 = some b2 ∧ (gK S b2 = 1 ∧ (wp_Jx4a65c_size_8abf5 (fun r5 S6 => ∃ n13, wb_X5_departFrom_13 post n13 MC MS this p1 b2 (0 : Int32) r5 S6) b2 S)))
set_option maxHeartbeats 4000000 in
set_option maxRecDepth 100000 in
theorem m_X5_departFrom {l : Launch} {D : va_G} {y : Nat → ClassId} {z : Nat} {A : Nat → Prop} {S : bS} {post : bS → Prop} {MC MS : Nat} {this : Nat} {p1 : Nat} (h : wp_X5_departFrom post MC MS this p1 S) : Met l yX5_departFrom wsX5_departFrom ({ frames := 8, cells := MC, slots := MS, locals := 213 } : Room) (va_Pc ([Value.ref this, Value.ref p1] : List Value) (bP D y z S A)) (va_Qv post (fun S' t => wd D y z S' A t.heap) A) MC MS A := by
  refine Met.ofW (cc := cX5_departFrom) (maxL := 7) (ret := none) (by decide) rfl ?_
  intro p e s m args below meth c s₁ B hml hv
  obtain ⟨rfl, hB⟩ := hv
  have hx := B.exec
  have hb := B.bytes
  have hr := B.returns
  have hts := atoms_spec (ws := wsX5_departFrom) B.pre
  have hown : s.vm.findClass RX5 = some m.cls := findClass_of_methodNamed B.named
  have hlocks := B.notSynchronized
  have hw : wd D y z S A s.heap := hB.1
  have hK : va_K D bCl (bT y) s := hB.2.1
  have hNw := hB.2.2.1
  have hAn : ∀ q : Nat, s.heap.size ≤ q → A q := hB.2.2.2.1
  have hAz : ¬ A z := hB.2.2.2.2.1
  have hO := hB.2.2.2.2.2.1
  have hS : va_S A s.heap s.heap [] := va_S.rf
  have hiX3 : ∀ w ∈ u_ws RX3 TX3 10, w ∈ wsX5_departFrom := by decide +kernel
  have hiX5 : ∀ w ∈ u_ws RX5 TX5 6, w ∈ wsX5_departFrom := by decide +kernel
  have hl := lv_entry ([Value.ref this, Value.ref p1] : List Value) (n := 7) (Nat.le_of_ble_eq_true rfl)
  rw [lg_entry_eq]
  generalize (lg_sl ([Value.ref this, Value.ref p1] : List Value) ++ List.replicate (7 - (lg_sl ([Value.ref this, Value.ref p1] : List Value)).length) Slot.unset).toArray = ls at hl ⊢
  have hl : lv_has ls 7 [(0, .ref this), (1, .ref p1)] := hl
  obtain ⟨Q, hQ⟩ : ∃ Q, Q = MQ below (va_Qv post (fun S' t => wd D y z S' A t.heap) A) (([Value.ref this, Value.ref p1] : List Value).toArray) s MC MS A := ⟨_, rfl⟩
  rw [← hQ]
  generalize hR : (headSpec wsX5_departFrom ({ frames := 8, cells := MC, slots := MS, locals := 213 } : Room)).room = R
  have hRf : 8 ≤ R.frames := by rw [← hR]; exact Nat.le_refl _
  have hRl : 213 ≤ R.locals := by rw [← hR]; exact Nat.le_refl _
  have hRc : R.cells = MC := by rw [← hR]; rfl
  have hRs : R.slots = MS := by rw [← hR]; rfl
  have hret : ∀ (S : bS) (H : Heap) (locs : List Loc) (pc : Nat) (ls : Array Slot) (cu su : Nat) , post S → wd D y z S A H → va_S A s.heap H locs → cu ≤ MC → su ≤ MS → decode cX5_departFrom pc = .ok (.return_, 1) → W p l e R s m (([Value.ref this, Value.ref p1] : List Value).toArray) below meth c H locs cu su Q (F0 m pc ls []) := by
    intro S H locs pc ls cu su h hw hS hcu hsu d0
    rw [hQ]; refine W.widen hcu hsu ?_; exact W.vret hx hb hr (fun t ht hW => ⟨⟨S, rfl, h, by show wd D y z S A t.heap; rw [ht]; exact hw⟩, hS.F ht⟩) hS.2.2 d0 hlocks
  have hB79 : ∀ (S : bS) (H : Heap) (locs : List Loc) (ls : Array Slot) (mc ms cu su : Nat) , wb_X5_departFrom_79 post mc ms S → wd D y z S A H → va_S A s.heap H locs → lv_has ls 7 [] → cu + mc ≤ MC → su + ms ≤ MS → W p l e R s m (([Value.ref this, Value.ref p1] : List Value).toArray) below meth c H locs cu su Q (F0 m 79 ls []) := by
    intro S H locs ls mc ms cu su  h hw hS hl hcu hsu
    unfold wb_X5_departFrom_79 at h
    exact hret _ _ _ _ _ _ _ h hw hS (by omega) (by omega) dX5_departFrom_79
  have hB13 : ∀ (n13 : Nat) (S : bS) (H : Heap) (locs : List Loc) (ls : Array Slot) (mc ms cu su : Nat) (v0 : Nat) (v1 : Nat) (v2 : Nat) (v3 : Int32) (v4 : Int32), wb_X5_departFrom_13 post n13 mc ms v0 v1 v2 v3 v4 S → wd D y z S A H → va_S A s.heap H locs → lv_has ls 7 [(0, .ref v0), (1, .ref v1), (2, .ref v2), (3, .int v3), (4, .int v4)] → cu + mc ≤ MC → su + ms ≤ MS → W p l e R s m (([Value.ref this, Value.ref p1] : List Value).toArray) below meth c H locs cu su Q (F0 m 13 ls []) := by
    intro n13
    induction n13 with
    | zero =>
      intro S H locs ls mc ms cu su v0 v1 v2 v3 v4 h hw hS hl hcu hsu
      exact absurd h (by unfold wb_X5_departFrom_13; exact id)
    | succ n13 ih13 =>
      have hB73 : ∀ (S : bS) (H : Heap) (locs : List Loc) (ls : Array Slot) (mc ms cu su : Nat) (v0 : Nat) (v1 : Nat) (v2 : Nat) (v3 : Int32) (v4 : Int32), wb_X5_departFrom_73 post (wb_X5_departFrom_13 post n13) mc ms v0 v1 v2 v3 v4 S → wd D y z S A H → va_S A s.heap H locs → lv_has ls 7 [(0, .ref v0), (1, .ref v1), (2, .ref v2), (3, .int v3), (4, .int v4)] → cu + mc ≤ MC → su + ms ≤ MS → W p l e R s m (([Value.ref this, Value.ref p1] : List Value).toArray) below meth c H locs cu su Q (F0 m 73 ls []) := by
        intro S H locs ls mc ms cu su v0 v1 v2 v3 v4 h hw hS hl hcu hsu
        unfold wb_X5_departFrom_73 at h
        refine lv_iinc (v := (v4 + (-1 : Int32))) hx hb dX5_departFrom_73 hl (k := 4) rfl rfl (by decide) rfl (fun ls hl => ?_)
        have hl : lv_has ls 7 [(4, .int (v4 + (-1 : Int32))), (0, .ref v0), (1, .ref v1), (2, .ref v2), (3, .int v3)] := hl
        refine lv_goto (tgt := 13) hx hb dX5_departFrom_76 (by decide) ?_
        exact ih13 _ _ _ _ _ _ _ _ _ _ _ _ _ h hw hS (lv_sub hl [1, 2, 3, 4, 0] rfl) hcu hsu
      intro S H locs ls mc ms cu su v0 v1 v2 v3 v4 h hw hS hl hcu hsu
      unfold wb_X5_departFrom_13 at h
      refine lv_iload hx hb dX5_departFrom_13 (lv_at hl 4 rfl) ?_
      refine lv_if_le (tgt := 79) hx hb dX5_departFrom_15 (by decide) (fun hc => ?_) (fun hc => ?_)
      · have h := h.1 hc
        exact hB79 _ _ _ _ _ _ _ _ h hw hS (lv_sub hl [] rfl) hcu hsu
      · have h := h.2 hc
        refine lv_iload_n hx hb dX5_departFrom_18 rfl (lv_at hl 3 rfl) ?_
        refine lv_aload_n hx hb dX5_departFrom_19 rfl (lv_at hl 2 rfl) ?_
        obtain ⟨hk7, h⟩ := h
        have h1 := h
        refine va_calli (va_runV (As := []) (rest := [.int v3]) ⟨hx, hb, hml, hown, hts⟩ (m_Jx4a65c_size_8abf5 (l := l) h1) (cwV 0 hts gX5_departFrom_Jx4a65c_size_8abf5 rfl rfl rfl (by decide +kernel) ⟨Nat.le_trans (Nat.le_of_ble_eq_true rfl) hRf, Nat.le_trans (Nat.le_of_ble_eq_true rfl) hRl⟩) (r_pV hB hw hS (ce_1 (S := S) hk7) rfl) rfl rfl hl.1 rfl (lv_room (Nat.le_of_ble_eq_true rfl)) dX5_departFrom_20 ⟨by omega, by omega⟩) hS (fun _ _ h => h) (fun _ h => h) (fun r8 S9 t H1 locs ht _ h hw1 _ _ hS => ?_)
        subst ht
        have hw : wd D y z S9 A t.heap := hw1
        clear hw1 h1
        refine lv_icmp_ge (tgt := 79) hx hb dX5_departFrom_23 (by decide) (fun hc => ?_) (fun hc => ?_)
        · have h := h.1 hc
          exact hB79 _ _ _ _ _ _ _ _ h hw hS (lv_sub hl [] rfl) hcu hsu
        · have h := h.2 hc
          refine lv_aload_n hx hb dX5_departFrom_26 rfl (lv_at hl 2 rfl) ?_
          refine lv_iload_n hx hb dX5_departFrom_27 rfl (lv_at hl 3 rfl) ?_
          obtain ⟨hk10, h⟩ := h
          have h1 := h
          refine va_callq (va_runV (As := [.int v3]) (rest := []) ⟨hx, hb, hml, hown, hts⟩ (m_Jx4a65c_get_915e3 (l := l) h1) (cwV 1 hts gX5_departFrom_Jx4a65c_get_915e3 rfl rfl rfl (by decide +kernel) ⟨Nat.le_trans (Nat.le_of_ble_eq_true rfl) hRf, Nat.le_trans (Nat.le_of_ble_eq_true rfl) hRl⟩) (r_pV hB hw hS (ce_1 (S := S9) hk10) rfl) rfl rfl hl.1 rfl (lv_room (Nat.le_of_ble_eq_true rfl)) dX5_departFrom_28 ⟨by omega, by omega⟩) hS (fun _ _ h => h) (fun _ h => h) (fun r11 S12 t H1 locs ht _ h hw1 _ _ hS => ?_)
          subst ht
          have hw : wd D y z S12 A t.heap := hw1
          clear hw1 h1
          obtain ⟨b13, rfl, h⟩ := h
          refine W.eq (g2 := F0 m 31 ls [.ref b13]) rfl ?_
          obtain ⟨hk15, h⟩ := h
          refine r_cast hx hb hown (hts (.classLink RX5 163 "TubePost$Carrier") (by decide +kernel)) hK hw (ce_2 hk15) rfl dX5_departFrom_31 ?_
          refine lv_astore hx hb dX5_departFrom_34 hl (by decide) rfl (fun ls hl => ?_)
          have hl : lv_has ls 7 [(5, .ref b13), (0, .ref v0), (1, .ref v1), (2, .ref v2), (3, .int v3), (4, .int v4)] := hl
          refine lv_aload_n hx hb dX5_departFrom_36 rfl (lv_at hl 1 rfl) ?_
          refine lv_aload_n hx hb dX5_departFrom_37 rfl (lv_at hl 2 rfl) ?_
          refine lv_aload hx hb dX5_departFrom_38 (lv_at hl 0 rfl) ?_
          obtain ⟨hk16, h⟩ := h
          have h1 := h
          refine va_callq (va_runV (As := [.ref v1, .ref b13]) (rest := []) ⟨hx, hb, hml, hown, hts⟩ (m_X5_tubeToEnter (l := l) h1) (cwV 2 hts gX5_departFrom_X5_tubeToEnter rfl rfl rfl (by decide +kernel) ⟨Nat.le_trans (Nat.le_of_ble_eq_true rfl) hRf, Nat.le_trans (Nat.le_of_ble_eq_true rfl) hRl⟩) (r_pV hB hw hS (ce_7 (S := S12) hk16) rfl) rfl rfl hl.1 rfl (lv_room (Nat.le_of_ble_eq_true rfl)) dX5_departFrom_40 ⟨by omega, by omega⟩) hS (fun _ _ h => h) (fun _ h => h) (fun r17 S18 t H1 locs ht _ h hw1 _ _ hS => ?_)
          subst ht
          have hw : wd D y z S18 A t.heap := hw1
          clear hw1 h1
          rcases r17 with _ | b19
          · have h := h.1 rfl
            refine W.eq (g2 := F0 m 43 ls [.null]) rfl ?_
            refine lv_astoreN hx hb dX5_departFrom_43 hl (by decide) rfl (fun ls hl => ?_)
            have hl : lv_has ls 7 [(6, .null), (5, .ref b13), (0, .ref v0), (1, .ref v1), (2, .ref v2), (3, .int v3), (4, .int v4)] := hl
            refine lv_aloadN hx hb dX5_departFrom_45 (lv_at hl 0 rfl) ?_
            refine lv_ifnonnullN hx hb dX5_departFrom_47 ?_
            refine lv_iinc (v := (v3 + (1 : Int32))) hx hb dX5_departFrom_50 hl (k := 5) rfl rfl (by decide) rfl (fun ls hl => ?_)
            have hl : lv_has ls 7 [(3, .int (v3 + (1 : Int32))), (6, .null), (5, .ref b13), (0, .ref v0), (1, .ref v1), (2, .ref v2), (4, .int v4)] := hl
            refine lv_goto (tgt := 73) hx hb dX5_departFrom_53 (by decide) ?_
            exact hB73 _ _ _ _ _ _ _ _ _ _ _ _ _ h hw hS (lv_sub hl [3, 4, 5, 0, 6] rfl) hcu hsu
          · have h := h.2 b19 rfl
            refine W.eq (g2 := F0 m 43 ls [.ref b19]) rfl ?_
            refine lv_astore hx hb dX5_departFrom_43 hl (by decide) rfl (fun ls hl => ?_)
            have hl : lv_has ls 7 [(6, .ref b19), (5, .ref b13), (0, .ref v0), (1, .ref v1), (2, .ref v2), (3, .int v3), (4, .int v4)] := hl
            refine lv_aload hx hb dX5_departFrom_45 (lv_at hl 0 rfl) ?_
            refine lv_ifnonnull (tgt := 56) hx hb dX5_departFrom_47 (by decide) ?_
            refine lv_aload_n hx hb dX5_departFrom_56 rfl (lv_at hl 4 rfl) ?_
            refine lv_iload_n hx hb dX5_departFrom_57 rfl (lv_at hl 5 rfl) ?_
            obtain ⟨hk20, h⟩ := h
            have h1 := h
            refine va_callq (va_runV (As := [.int v3]) (rest := []) ⟨hx, hb, hml, hown, hts⟩ (m_Jx4a65c_remove_915e3 (l := l) h1) (cwV 1 hts gX5_departFrom_Jx4a65c_remove_915e3 rfl rfl rfl (by decide +kernel) ⟨Nat.le_trans (Nat.le_of_ble_eq_true rfl) hRf, Nat.le_trans (Nat.le_of_ble_eq_true rfl) hRl⟩) (r_pV hB hw hS (ce_1 (S := S18) hk20) rfl) rfl rfl hl.1 rfl (lv_room (Nat.le_of_ble_eq_true rfl)) dX5_departFrom_58 ⟨by omega, by omega⟩) hS (fun _ _ h => h) (fun _ h => h) (fun r21 S22 t H1 locs ht _ h hw1 _ _ hS => ?_)
            subst ht
            have hw : wd D y z S22 A t.heap := hw1
            clear hw1 h1
            obtain ⟨b23, rfl, h⟩ := h
            refine W.eq (g2 := F0 m 61 ls [.ref b23]) rfl ?_
            refine lv_pop hx hb dX5_departFrom_61 rfl ?_
            refine lv_aload hx hb dX5_departFrom_62 (lv_at hl 1 rfl) ?_
            refine lv_aload hx hb dX5_departFrom_64 (lv_at hl 0 rfl) ?_
            refine lv_aload_n hx hb dX5_departFrom_66 rfl (lv_at hl 2 rfl) ?_
            obtain ⟨hk25, h⟩ := h
            refine r_get (ci := 6) (v := .int (gV S22 7 v0 3)) (C := RX5) (T := TX5) (N := 6) hx hb hts hiX5 hown hK hw (ce_7 (S := S22) hk25) rfl 3 (by decide) (hts (.fieldLink RX5 26 "TubePost" "tick" "I") (by decide +kernel)) (fun _ h9 => h9) rfl dX5_departFrom_67 ?_
            obtain ⟨hk26, h⟩ := h
            obtain ⟨k29, n30, hbg1, hbg2, h⟩ := h
            have h1 := h
            refine va_callv (va_runVN (As := [.ref b19, .int (gV S22 7 v0 3)]) (rest := []) ⟨hx, hb, hml, hown, hts⟩ (m_X0_enter (l := l) h1) ⟨va_cnB 2 hts gX5_departFrom_X0_enter_n337 rfl rfl rfl (hNw _ bNw_59) (hts (.initialized RX0) (by decide +kernel)) ⟨by decide +kernel, by decide +kernel, by decide +kernel⟩ ⟨Nat.le_trans (Nat.le_of_ble_eq_true rfl) hRf, Nat.le_trans (Nat.le_of_ble_eq_true rfl) hRl⟩, (hts (.instanceMethod yX0_enter) (by decide +kernel)), hts (.selects RX0 yX0_enter yX0_enter) (by decide +kernel)⟩ (r_pV hB hw hS (ce_2 (S := S22) hk26) rfl) rfl rfl hl.1 rfl (lv_room (Nat.le_of_ble_eq_true rfl)) dX5_departFrom_70 ⟨by omega, by omega⟩) hS (fun _ _ h => h) (fun _ h => h) (fun S28 t H1 locs ht _ h hw1 _ _ hS => ?_)
            subst ht
            have hw : wd D y z S28 A t.heap := hw1
            clear hw1 h1
            have hcu : (cu + k29) + (mc - k29) ≤ MC := by omega
            have hsu : (su + n30) + (ms - n30) ≤ MS := by omega
            exact hB73 _ _ _ _ _ _ _ _ _ _ _ _ _ h hw hS (lv_sub hl [2, 3, 4, 5, 6] rfl) hcu hsu
  unfold wp_X5_departFrom at h
  have hcu : 0 + MC ≤ MC := by omega
  have hsu : 0 + MS ≤ MS := by omega
  refine lv_aload_n hx hb dX5_departFrom_0 rfl (lv_at hl 1 rfl) ?_
  obtain ⟨hk1, h⟩ := h
  obtain ⟨b2, hb3, h⟩ := h
  refine r_getN (ci := 4) (v := .ref b2) (C := RX3) (T := TX3) (N := 10) hx hb hts hiX3 hown hK hw (ce_5 (S := S) hk1) rfl 4 (by decide) (hNw _ (bNw_15)) (fun _ h9 => h9) (congrArg (fun q => some (va_rf q)) hb3) dX5_departFrom_1 ?_
  refine lv_astore_n hx hb dX5_departFrom_4 rfl hl (by decide) rfl (fun ls hl => ?_)
  have hl : lv_has ls 7 [(2, .ref b2), (0, .ref this), (1, .ref p1)] := hl
  refine lv_iconst (v := (0 : Int32)) hx hb dX5_departFrom_5 (by decide) ?_
  refine lv_istore_n hx hb dX5_departFrom_6 rfl hl (by decide) rfl (fun ls hl => ?_)
  have hl : lv_has ls 7 [(3, .int (0 : Int32)), (2, .ref b2), (0, .ref this), (1, .ref p1)] := hl
  refine lv_aload_n hx hb dX5_departFrom_7 rfl (lv_at hl 1 rfl) ?_
  obtain ⟨hk4, h⟩ := h
  have h1 := h
  refine va_calli (va_runV (As := []) (rest := []) ⟨hx, hb, hml, hown, hts⟩ (m_Jx4a65c_size_8abf5 (l := l) h1) (cwV 0 hts gX5_departFrom_Jx4a65c_size_8abf5 rfl rfl rfl (by decide +kernel) ⟨Nat.le_trans (Nat.le_of_ble_eq_true rfl) hRf, Nat.le_trans (Nat.le_of_ble_eq_true rfl) hRl⟩) (r_pV hB hw hS (ce_1 (S := S) hk4) rfl) rfl rfl hl.1 rfl (lv_room (Nat.le_of_ble_eq_true rfl)) dX5_departFrom_8 ⟨by omega, by omega⟩) hS (fun _ _ h => h) (fun _ h => h) (fun r5 S6 t H1 locs ht _ h hw1 _ _ hS => ?_)
  subst ht
  have hw : wd D y z S6 A t.heap := hw1
  clear hw1 h1
  refine lv_istore hx hb dX5_departFrom_11 hl (by decide) rfl (fun ls hl => ?_)
  have hl : lv_has ls 7 [(4, .int r5), (3, .int (0 : Int32)), (2, .ref b2), (0, .ref this), (1, .ref p1)] := hl
  obtain ⟨n13, h⟩ := h
  exact hB13 n13 _ _ _ _ _ _ _ _ _ _ _ _ _ h hw hS (lv_sub hl [3, 4, 2, 1, 0] rfl) hcu hsu
def wb_X5_departEverywhere_2 (post : bS → Prop) : Nat → Nat → Nat → Nat → Int32 → bS → Prop
  | 0, _, _, _, _, _ => False
  | n + 1, mc, ms, v0, v1, S => gK S v0 = 7 ∧ (∃ b2, gQ S 7 v0 0 = some b2 ∧ (gK S b2 = 4 ∧ (∃ b5, gQ S 4 b2 0 = some b5 ∧ (gK S b5 = 1 ∧ (wp_Jx4a65c_size_8abf5 (fun r8 S9 => (r8 ≤ v1 → post S9) ∧ (¬ (r8 ≤ v1) → gK S9 v0 = 7 ∧ (∃ b11, gQ S9 7 v0 0 = some b11 ∧ (gK S9 b11 = 4 ∧ (∃ b14, gQ S9 4 b11 0 = some b14 ∧ (gK S9 b14 = 1 ∧ (wp_Jx4a65c_get_915e3 (fun r17 S18 => ∃ b19, r17 = some b19 ∧ (gK S18 b19 = 5 ∧ (gK S18 v0 = 7 ∧ (∃ k25 n26, k25 ≤ mc ∧ n26 ≤ ms ∧ (wp_X5_departFrom (fun S24 => (wb_X5_departEverywhere_2 post n) (mc - k25) (ms - n26) v0 (v1 + (1 : Int32)) S24) k25 n26 v0 b19 S18))))) b14 v1 S9))))))) b5 S)))))
def wp_X5_departEverywhere (post : bS → Prop) (MC MS : Nat) (this : Nat) (S : bS) : Prop := ∃ n2, wb_X5_departEverywhere_2 post n2 MC MS this (0 : Int32) S
set_option maxHeartbeats 4000000 in
set_option maxRecDepth 100000 in
theorem m_X5_departEverywhere {l : Launch} {D : va_G} {y : Nat → ClassId} {z : Nat} {A : Nat → Prop} {S : bS} {post : bS → Prop} {MC MS : Nat} {this : Nat} (h : wp_X5_departEverywhere post MC MS this S) : Met l yX5_departEverywhere wsX5_departEverywhere ({ frames := 9, cells := MC, slots := MS, locals := 239 } : Room) (va_Pc ([Value.ref this] : List Value) (bP D y z S A)) (va_Qv post (fun S' t => wd D y z S' A t.heap) A) MC MS A := by
  refine Met.ofW (cc := cX5_departEverywhere) (maxL := 2) (ret := none) (by decide) rfl ?_
  intro p e s m args below meth c s₁ B hml hv
  obtain ⟨rfl, hB⟩ := hv
  have hx := B.exec
  have hb := B.bytes
  have hr := B.returns
  have hts := atoms_spec (ws := wsX5_departEverywhere) B.pre
  have hown : s.vm.findClass RX5 = some m.cls := findClass_of_methodNamed B.named
  have hlocks := B.notSynchronized
  have hw : wd D y z S A s.heap := hB.1
  have hK : va_K D bCl (bT y) s := hB.2.1
  have hNw := hB.2.2.1
  have hAn : ∀ q : Nat, s.heap.size ≤ q → A q := hB.2.2.2.1
  have hAz : ¬ A z := hB.2.2.2.2.1
  have hO := hB.2.2.2.2.2.1
  have hS : va_S A s.heap s.heap [] := va_S.rf
  have hiX2 : ∀ w ∈ u_ws RX2 TX2 2, w ∈ wsX5_departEverywhere := by decide +kernel
  have hiX5 : ∀ w ∈ u_ws RX5 TX5 6, w ∈ wsX5_departEverywhere := by decide +kernel
  have hl := lv_entry ([Value.ref this] : List Value) (n := 2) (Nat.le_of_ble_eq_true rfl)
  rw [lg_entry_eq]
  generalize (lg_sl ([Value.ref this] : List Value) ++ List.replicate (2 - (lg_sl ([Value.ref this] : List Value)).length) Slot.unset).toArray = ls at hl ⊢
  have hl : lv_has ls 2 [(0, .ref this)] := hl
  obtain ⟨Q, hQ⟩ : ∃ Q, Q = MQ below (va_Qv post (fun S' t => wd D y z S' A t.heap) A) (([Value.ref this] : List Value).toArray) s MC MS A := ⟨_, rfl⟩
  rw [← hQ]
  generalize hR : (headSpec wsX5_departEverywhere ({ frames := 9, cells := MC, slots := MS, locals := 239 } : Room)).room = R
  have hRf : 9 ≤ R.frames := by rw [← hR]; exact Nat.le_refl _
  have hRl : 239 ≤ R.locals := by rw [← hR]; exact Nat.le_refl _
  have hRc : R.cells = MC := by rw [← hR]; rfl
  have hRs : R.slots = MS := by rw [← hR]; rfl
  have hret : ∀ (S : bS) (H : Heap) (locs : List Loc) (pc : Nat) (ls : Array Slot) (cu su : Nat) , post S → wd D y z S A H → va_S A s.heap H locs → cu ≤ MC → su ≤ MS → decode cX5_departEverywhere pc = .ok (.return_, 1) → W p l e R s m (([Value.ref this] : List Value).toArray) below meth c H locs cu su Q (F0 m pc ls []) := by
    intro S H locs pc ls cu su h hw hS hcu hsu d0
    rw [hQ]; refine W.widen hcu hsu ?_; exact W.vret hx hb hr (fun t ht hW => ⟨⟨S, rfl, h, by show wd D y z S A t.heap; rw [ht]; exact hw⟩, hS.F ht⟩) hS.2.2 d0 hlocks
  have hB2 : ∀ (n2 : Nat) (S : bS) (H : Heap) (locs : List Loc) (ls : Array Slot) (mc ms cu su : Nat) (v0 : Nat) (v1 : Int32), wb_X5_departEverywhere_2 post n2 mc ms v0 v1 S → wd D y z S A H → va_S A s.heap H locs → lv_has ls 2 [(0, .ref v0), (1, .int v1)] → cu + mc ≤ MC → su + ms ≤ MS → W p l e R s m (([Value.ref this] : List Value).toArray) below meth c H locs cu su Q (F0 m 2 ls []) := by
    intro n2
    induction n2 with
    | zero =>
      intro S H locs ls mc ms cu su v0 v1 h hw hS hl hcu hsu
      exact absurd h (by unfold wb_X5_departEverywhere_2; exact id)
    | succ n2 ih2 =>
      intro S H locs ls mc ms cu su v0 v1 h hw hS hl hcu hsu
      unfold wb_X5_departEverywhere_2 at h
      refine lv_iload_n hx hb dX5_departEverywhere_2 rfl (lv_at hl 1 rfl) ?_
      refine lv_aload_n hx hb dX5_departEverywhere_3 rfl (lv_at hl 0 rfl) ?_
      obtain ⟨hk1, h⟩ := h
      obtain ⟨b2, hb3, h⟩ := h
      refine r_get (ci := 6) (v := .ref b2) (C := RX5) (T := TX5) (N := 6) hx hb hts hiX5 hown hK hw (ce_7 (S := S) hk1) rfl 0 (by decide) (hts (.fieldLink RX5 10 "TubePost" "net" "LTubePost$Net;") (by decide +kernel)) (fun _ h9 => h9) (congrArg (fun q => some (va_rf q)) hb3) dX5_departEverywhere_4 ?_
      obtain ⟨hk4, h⟩ := h
      obtain ⟨b5, hb6, h⟩ := h
      refine r_getN (ci := 3) (v := .ref b5) (C := RX2) (T := TX2) (N := 2) hx hb hts hiX2 hown hK hw (ce_4 (S := S) hk4) rfl 0 (by decide) (hNw _ (bNw_0)) (fun _ h9 => h9) (congrArg (fun q => some (va_rf q)) hb6) dX5_departEverywhere_7 ?_
      obtain ⟨hk7, h⟩ := h
      have h1 := h
      refine va_calli (va_runV (As := []) (rest := [.int v1]) ⟨hx, hb, hml, hown, hts⟩ (m_Jx4a65c_size_8abf5 (l := l) h1) (cwV 0 hts gX5_departEverywhere_Jx4a65c_size_8abf5 rfl rfl rfl (by decide +kernel) ⟨Nat.le_trans (Nat.le_of_ble_eq_true rfl) hRf, Nat.le_trans (Nat.le_of_ble_eq_true rfl) hRl⟩) (r_pV hB hw hS (ce_1 (S := S) hk7) rfl) rfl rfl hl.1 rfl (lv_room (Nat.le_of_ble_eq_true rfl)) dX5_departEverywhere_10 ⟨by omega, by omega⟩) hS (fun _ _ h => h) (fun _ h => h) (fun r8 S9 t H1 locs ht _ h hw1 _ _ hS => ?_)
      subst ht
      have hw : wd D y z S9 A t.heap := hw1
      clear hw1 h1
      refine lv_icmp_ge (tgt := 40) hx hb dX5_departEverywhere_13 (by decide) (fun hc => ?_) (fun hc => ?_)
      · have h := h.1 hc
        exact hret _ _ _ _ _ _ _ h hw hS (by omega) (by omega) dX5_departEverywhere_40
      · have h := h.2 hc
        refine lv_aload_n hx hb dX5_departEverywhere_16 rfl (lv_at hl 0 rfl) ?_
        refine lv_aload_n hx hb dX5_departEverywhere_17 rfl (lv_at hl 0 rfl) ?_
        obtain ⟨hk10, h⟩ := h
        obtain ⟨b11, hb12, h⟩ := h
        refine r_get (ci := 6) (v := .ref b11) (C := RX5) (T := TX5) (N := 6) hx hb hts hiX5 hown hK hw (ce_7 (S := S9) hk10) rfl 0 (by decide) (hts (.fieldLink RX5 10 "TubePost" "net" "LTubePost$Net;") (by decide +kernel)) (fun _ h9 => h9) (congrArg (fun q => some (va_rf q)) hb12) dX5_departEverywhere_18 ?_
        obtain ⟨hk13, h⟩ := h
        obtain ⟨b14, hb15, h⟩ := h
        refine r_getN (ci := 3) (v := .ref b14) (C := RX2) (T := TX2) (N := 2) hx hb hts hiX2 hown hK hw (ce_4 (S := S9) hk13) rfl 0 (by decide) (hNw _ (bNw_0)) (fun _ h9 => h9) (congrArg (fun q => some (va_rf q)) hb15) dX5_departEverywhere_21 ?_
        refine lv_iload_n hx hb dX5_departEverywhere_24 rfl (lv_at hl 1 rfl) ?_
        obtain ⟨hk16, h⟩ := h
        have h1 := h
        refine va_callq (va_runV (As := [.int v1]) (rest := [.ref v0]) ⟨hx, hb, hml, hown, hts⟩ (m_Jx4a65c_get_915e3 (l := l) h1) (cwV 1 hts gX5_departEverywhere_Jx4a65c_get_915e3 rfl rfl rfl (by decide +kernel) ⟨Nat.le_trans (Nat.le_of_ble_eq_true rfl) hRf, Nat.le_trans (Nat.le_of_ble_eq_true rfl) hRl⟩) (r_pV hB hw hS (ce_1 (S := S9) hk16) rfl) rfl rfl hl.1 rfl (lv_room (Nat.le_of_ble_eq_true rfl)) dX5_departEverywhere_25 ⟨by omega, by omega⟩) hS (fun _ _ h => h) (fun _ h => h) (fun r17 S18 t H1 locs ht _ h hw1 _ _ hS => ?_)
        subst ht
        have hw : wd D y z S18 A t.heap := hw1
        clear hw1 h1
        obtain ⟨b19, rfl, h⟩ := h
        refine W.eq (g2 := F0 m 28 ls [.ref b19, .ref v0]) rfl ?_
        obtain ⟨hk21, h⟩ := h
        refine r_cast hx hb hown (hts (.classLink RX5 77 "TubePost$Station") (by decide +kernel)) hK hw (ce_5 hk21) rfl dX5_departEverywhere_28 ?_
        obtain ⟨hk22, h⟩ := h
        obtain ⟨k25, n26, hbg1, hbg2, h⟩ := h
        have h1 := h
        refine va_callv (va_runV (As := [.ref b19]) (rest := []) ⟨hx, hb, hml, hown, hts⟩ (m_X5_departFrom (l := l) h1) (cwV 1 hts gX5_departEverywhere_X5_departFrom rfl rfl rfl (by decide +kernel) ⟨Nat.le_trans (Nat.le_of_ble_eq_true rfl) hRf, Nat.le_trans (Nat.le_of_ble_eq_true rfl) hRl⟩) (r_pV hB hw hS (ce_7 (S := S18) hk22) rfl) rfl rfl hl.1 rfl (lv_room (Nat.le_of_ble_eq_true rfl)) dX5_departEverywhere_31 ⟨by omega, by omega⟩) hS (fun _ _ h => h) (fun _ h => h) (fun S24 t H1 locs ht _ h hw1 _ _ hS => ?_)
        subst ht
        have hw : wd D y z S24 A t.heap := hw1
        clear hw1 h1
        have hcu : (cu + k25) + (mc - k25) ≤ MC := by omega
        have hsu : (su + n26) + (ms - n26) ≤ MS := by omega
        refine lv_iinc (v := (v1 + (1 : Int32))) hx hb dX5_departEverywhere_34 hl (k := 1) rfl rfl (by decide) rfl (fun ls hl => ?_)
        have hl : lv_has ls 2 [(1, .int (v1 + (1 : Int32))), (0, .ref v0)] := hl
        refine lv_goto (tgt := 2) hx hb dX5_departEverywhere_37 (by decide) ?_
        exact ih2 _ _ _ _ _ _ _ _ _ _ h hw hS (lv_sub hl [1, 0] rfl) hcu hsu
  unfold wp_X5_departEverywhere at h
  have hcu : 0 + MC ≤ MC := by omega
  have hsu : 0 + MS ≤ MS := by omega
  refine lv_iconst (v := (0 : Int32)) hx hb dX5_departEverywhere_0 (by decide) ?_
  refine lv_istore_n hx hb dX5_departEverywhere_1 rfl hl (by decide) rfl (fun ls hl => ?_)
  have hl : lv_has ls 2 [(1, .int (0 : Int32)), (0, .ref this)] := hl
  obtain ⟨n2, h⟩ := h
  exact hB2 n2 _ _ _ _ _ _ _ _ _ _ h hw hS (lv_sub hl [1, 0] rfl) hcu hsu
def wb_X5_run_28 (post : Int32 → bS → Prop) (xp : String → bS → Prop) : Nat → Nat → Nat → Nat → Int32 → Int32 → Int32 → bS → Prop
  | 0, _, _, _, _, _, _, _ => False
  | n + 1, mc, ms, v0, v1, v2, v3, S => (v1 ≤ v3 → gK S v0 = 7 ∧ (post ((gV S 7 v0 4) - v2) S)) ∧ (¬ (v1 ≤ v3) → gK S v0 = 7 ∧ (∃ k8 n9, k8 ≤ mc ∧ n9 ≤ ms ∧ (wp_X5_strikeClock (fun S7 => gK S7 v0 = 7 ∧ (∃ k13 n14, k13 ≤ (mc - k8) ∧ n14 ≤ (ms - n9) ∧ (wp_X5_arriveEverywhere (fun S12 => gK S12 v0 = 7 ∧ (∃ k18 n19, k18 ≤ ((mc - k8) - k13) ∧ n19 ≤ ((ms - n9) - n14) ∧ (wp_X5_departEverywhere (fun S17 => (wb_X5_run_28 post xp n) (((mc - k8) - k13) - k18) (((ms - n9) - n14) - n19) v0 v1 v2 (v3 + (1 : Int32)) S17) k18 n19 v0 S12))) k13 n14 v0 S7))) k8 n9 v0 (sV S 7 v0 3 ((gV S 7 v0 3) + (1 : Int32))))))
def wp_X5_run (post : Int32 → bS → Prop) (xp : String → bS → Prop) (MC MS : Nat) (this : Nat) (p1 : Int32) (S : bS) : Prop := wp_X5_isOutside (fun r1 S2 => (r1 = (0 : Int32) → gK S2 this = 7 ∧ (∃ n28, wb_X5_run_28 post xp n28 MC MS this p1 (gV S2 7 this 4) (0 : Int32) S2)) ∧ (¬ (r1 = (0 : Int32)) → False)) p1 (1 : Int32) (500 : Int32) S
set_option maxHeartbeats 4000000 in
set_option maxRecDepth 100000 in
theorem m_X5_run {l : Launch} {D : va_G} {y : Nat → ClassId} {z : Nat} {A : Nat → Prop} {S : bS} {post : Int32 → bS → Prop} {xp : String → bS → Prop} (hl0 : l.stackTraces = false) {MC MS : Nat} {this : Nat} {p1 : Int32} (h : wp_X5_run post xp MC MS this p1 S) : vx_Met l yX5_run wsX5_run ({ frames := 10, cells := MC, slots := MS, locals := 400 } : Room) (va_Pc ([Value.ref this, Value.int p1] : List Value) (bP D y z S A)) (va_Qi post (fun S' t => wd D y z S' A t.heap) A) (bX D y z A xp) MC MS A := by
  refine vx_ofW (cc := cX5_run) (maxL := 4) (ret := (some .int)) (by decide) rfl ?_
  intro p e s m args below meth c s₁ B hml hex hv
  obtain ⟨rfl, hB⟩ := hv
  have hx := B.exec
  have hb := B.bytes
  have hr := B.returns
  have hts := atoms_spec (ws := wsX5_run) B.pre
  have hown : s.vm.findClass RX5 = some m.cls := findClass_of_methodNamed B.named
  have hlocks := B.notSynchronized
  have hw : wd D y z S A s.heap := hB.1
  have hK : va_K D bCl (bT y) s := hB.2.1
  have hNw := hB.2.2.1
  have hAn : ∀ q : Nat, s.heap.size ≤ q → A q := hB.2.2.2.1
  have hAz : ¬ A z := hB.2.2.2.2.1
  have hO := hB.2.2.2.2.2.1
  have hS : va_S A s.heap s.heap [] := va_S.rf
  have hiX5 : ∀ w ∈ u_ws RX5 TX5 6, w ∈ wsX5_run := by decide +kernel
  have hl := lv_entry ([Value.ref this, Value.int p1] : List Value) (n := 4) (Nat.le_of_ble_eq_true rfl)
  rw [lg_entry_eq]
  generalize (lg_sl ([Value.ref this, Value.int p1] : List Value) ++ List.replicate (4 - (lg_sl ([Value.ref this, Value.int p1] : List Value)).length) Slot.unset).toArray = ls at hl ⊢
  have hl : lv_has ls 4 [(0, .ref this), (1, .int p1)] := hl
  obtain ⟨Q, hQ⟩ : ∃ Q, Q = vx_MQ below (va_Qi post (fun S' t => wd D y z S' A t.heap) A) (bX D y z A xp) (([Value.ref this, Value.int p1] : List Value).toArray) s MC MS A := ⟨_, rfl⟩
  rw [← hQ]
  generalize hR : (headSpec wsX5_run ({ frames := 10, cells := MC, slots := MS, locals := 400 } : Room)).room = R
  have hRf : 10 ≤ R.frames := by rw [← hR]; exact Nat.le_refl _
  have hRl : 400 ≤ R.locals := by rw [← hR]; exact Nat.le_refl _
  have hRc : R.cells = MC := by rw [← hR]; rfl
  have hRs : R.slots = MS := by rw [← hR]; rfl
  have hret : ∀ (v : Int32) (S : bS) (H : Heap) (locs : List Loc) (pc : Nat) (ls : Array Slot) (cu su : Nat) , post v S → wd D y z S A H → va_S A s.heap H locs → cu ≤ MC → su ≤ MS → decode cX5_run pc = .ok (.ireturn, 1) → W p l e R s m (([Value.ref this, Value.int p1] : List Value).toArray) below meth c H locs cu su Q (F0 m pc ls [.int v]) := by
    intro v S H locs pc ls cu su h hw hS hcu hsu d0
    rw [hQ]; refine vx_ret ?_; refine W.widen hcu hsu ?_; exact W.iret hx hb hr (fun t ht hW => ⟨⟨v, S, rfl, h, by show wd D y z S A t.heap; rw [ht]; exact hw⟩, hS.F ht⟩) hS.2.2 d0 hlocks
  have hB28 : ∀ (n28 : Nat) (S : bS) (H : Heap) (locs : List Loc) (ls : Array Slot) (mc ms cu su : Nat) (v0 : Nat) (v1 : Int32) (v2 : Int32) (v3 : Int32), wb_X5_run_28 post xp n28 mc ms v0 v1 v2 v3 S → wd D y z S A H → va_S A s.heap H locs → lv_has ls 4 [(0, .ref v0), (1, .int v1), (2, .int v2), (3, .int v3)] → cu + mc ≤ MC → su + ms ≤ MS → W p l e R s m (([Value.ref this, Value.int p1] : List Value).toArray) below meth c H locs cu su Q (F0 m 28 ls []) := by
    intro n28
    induction n28 with
    | zero =>
      intro S H locs ls mc ms cu su v0 v1 v2 v3 h hw hS hl hcu hsu
      exact absurd h (by unfold wb_X5_run_28; exact id)
    | succ n28 ih28 =>
      intro S H locs ls mc ms cu su v0 v1 v2 v3 h hw hS hl hcu hsu
      unfold wb_X5_run_28 at h
      refine lv_iload_n hx hb dX5_run_28 rfl (lv_at hl 3 rfl) ?_
      refine lv_iload_n hx hb dX5_run_29 rfl (lv_at hl 1 rfl) ?_
      refine lv_icmp_ge (tgt := 61) hx hb dX5_run_30 (by decide) (fun hc => ?_) (fun hc => ?_)
      · have h := h.1 hc
        refine lv_aload_n hx hb dX5_run_61 rfl (lv_at hl 0 rfl) ?_
        obtain ⟨hk4, h⟩ := h
        refine r_get (ci := 6) (v := .int (gV S 7 v0 4)) (C := RX5) (T := TX5) (N := 6) hx hb hts hiX5 hown hK hw (ce_7 (S := S) hk4) rfl 4 (by decide) (hts (.fieldLink RX5 30 "TubePost" "delivered" "I") (by decide +kernel)) (fun _ h9 => h9) rfl dX5_run_62 ?_
        refine lv_iload_n hx hb dX5_run_65 rfl (lv_at hl 2 rfl) ?_
        refine lv_isub hx hb dX5_run_66 ?_
        exact hret ((gV S 7 v0 4) - v2) _ _ _ _ _ _ _ h hw hS (by omega) (by omega) dX5_run_67
      · have h := h.2 hc
        refine lv_aload_n hx hb dX5_run_33 rfl (lv_at hl 0 rfl) ?_
        refine lv_dup hx hb dX5_run_34 rfl ?_
        obtain ⟨hk5, h⟩ := h
        refine r_get (ci := 6) (v := .int (gV S 7 v0 3)) (C := RX5) (T := TX5) (N := 6) hx hb hts hiX5 hown hK hw (ce_7 (S := S) hk5) rfl 3 (by decide) (hts (.fieldLink RX5 26 "TubePost" "tick" "I") (by decide +kernel)) (fun _ h9 => h9) rfl dX5_run_35 ?_
        refine lv_iconst (v := (1 : Int32)) hx hb dX5_run_38 (by decide) ?_
        refine lv_iadd hx hb dX5_run_39 ?_
        refine r_putI (κ := 7) (ci := 6) (C := RX5) (T := TX5) (N := 6) (ty := .int) (x := ((gV S 7 v0 3) + (1 : Int32))) hx hb hts hiX5 tyX5 tyX5_ok nmX5 hown hK hw hS (ce_7 (S := S) hk5) rfl 3 (by decide) (hts (.fieldLink RX5 26 "TubePost" "tick" "I") (by decide +kernel)) (fun _ h9 => h9) rfl (by decide +kernel) rfl rfl (Nat.le_of_ble_eq_true rfl) (pu_7_3 (S := S) hk5) dX5_run_40 (fun H locs hw hS => ?_)
        refine lv_aload_n hx hb dX5_run_43 rfl (lv_at hl 0 rfl) ?_
        obtain ⟨k8, n9, hbg1, hbg2, h⟩ := h
        have h1 := h
        refine va_callv (va_runV (As := []) (rest := []) ⟨hx, hb, hml, hown, hts⟩ (m_X5_strikeClock (l := l) h1) (cwV 0 hts gX5_run_X5_strikeClock rfl rfl rfl (by decide +kernel) ⟨Nat.le_trans (Nat.le_of_ble_eq_true rfl) hRf, Nat.le_trans (Nat.le_of_ble_eq_true rfl) hRl⟩) (r_pV hB hw hS (ce_7 (S := (sV S 7 v0 3 ((gV S 7 v0 3) + (1 : Int32)))) hk5) rfl) rfl rfl hl.1 rfl (lv_room (Nat.le_of_ble_eq_true rfl)) dX5_run_44 ⟨by omega, by omega⟩) hS (fun _ _ h => h) (fun _ h => h) (fun S7 t H1 locs ht _ h hw1 _ _ hS => ?_)
        subst ht
        have hw : wd D y z S7 A t.heap := hw1
        clear hw1 h1
        have hcu : (cu + k8) + (mc - k8) ≤ MC := by omega
        have hsu : (su + n9) + (ms - n9) ≤ MS := by omega
        refine lv_aload_n hx hb dX5_run_47 rfl (lv_at hl 0 rfl) ?_
        obtain ⟨hk10, h⟩ := h
        obtain ⟨k13, n14, hbg1, hbg2, h⟩ := h
        have h1 := h
        refine va_callv (va_runV (As := []) (rest := []) ⟨hx, hb, hml, hown, hts⟩ (m_X5_arriveEverywhere (l := l) h1) (cwV 0 hts gX5_run_X5_arriveEverywhere rfl rfl rfl (by decide +kernel) ⟨Nat.le_trans (Nat.le_of_ble_eq_true rfl) hRf, Nat.le_trans (Nat.le_of_ble_eq_true rfl) hRl⟩) (r_pV hB hw hS (ce_7 (S := S7) hk10) rfl) rfl rfl hl.1 rfl (lv_room (Nat.le_of_ble_eq_true rfl)) dX5_run_48 ⟨by omega, by omega⟩) hS (fun _ _ h => h) (fun _ h => h) (fun S12 t H1 locs ht _ h hw1 _ _ hS => ?_)
        subst ht
        have hw : wd D y z S12 A t.heap := hw1
        clear hw1 h1
        have hcu : ((cu + k8) + k13) + ((mc - k8) - k13) ≤ MC := by omega
        have hsu : ((su + n9) + n14) + ((ms - n9) - n14) ≤ MS := by omega
        refine lv_aload_n hx hb dX5_run_51 rfl (lv_at hl 0 rfl) ?_
        obtain ⟨hk15, h⟩ := h
        obtain ⟨k18, n19, hbg1, hbg2, h⟩ := h
        have h1 := h
        refine va_callv (va_runV (As := []) (rest := []) ⟨hx, hb, hml, hown, hts⟩ (m_X5_departEverywhere (l := l) h1) (cwV 0 hts gX5_run_X5_departEverywhere rfl rfl rfl (by decide +kernel) ⟨Nat.le_trans (Nat.le_of_ble_eq_true rfl) hRf, Nat.le_trans (Nat.le_of_ble_eq_true rfl) hRl⟩) (r_pV hB hw hS (ce_7 (S := S12) hk15) rfl) rfl rfl hl.1 rfl (lv_room (Nat.le_of_ble_eq_true rfl)) dX5_run_52 ⟨by omega, by omega⟩) hS (fun _ _ h => h) (fun _ h => h) (fun S17 t H1 locs ht _ h hw1 _ _ hS => ?_)
        subst ht
        have hw : wd D y z S17 A t.heap := hw1
        clear hw1 h1
        have hcu : (((cu + k8) + k13) + k18) + (((mc - k8) - k13) - k18) ≤ MC := by omega
        have hsu : (((su + n9) + n14) + n19) + (((ms - n9) - n14) - n19) ≤ MS := by omega
        refine lv_iinc (v := (v3 + (1 : Int32))) hx hb dX5_run_55 hl (k := 3) rfl rfl (by decide) rfl (fun ls hl => ?_)
        have hl : lv_has ls 4 [(3, .int (v3 + (1 : Int32))), (0, .ref v0), (1, .int v1), (2, .int v2)] := hl
        refine lv_goto (tgt := 28) hx hb dX5_run_58 (by decide) ?_
        exact ih28 _ _ _ _ _ _ _ _ _ _ _ _ h hw hS (lv_sub hl [1, 2, 3, 0] rfl) hcu hsu
  unfold wp_X5_run at h
  have hcu : 0 + MC ≤ MC := by omega
  have hsu : 0 + MS ≤ MS := by omega
  refine lv_iload_n hx hb dX5_run_0 rfl (lv_at hl 1 rfl) ?_
  refine lv_iconst (v := (1 : Int32)) hx hb dX5_run_1 (by decide) ?_
  refine lv_sipush (v := (500 : Int32)) hx hb dX5_run_2 (by decide) ?_
  have h1 := h
  refine va_calli (va_runS (As := [.int p1, .int (1 : Int32), .int (500 : Int32)]) (rest := []) ⟨hx, hb, hml, hown, hts⟩ (m_X5_isOutside (l := l) h1) (cwS 3 hts gX5_run_X5_isOutside rfl rfl rfl (by decide +kernel) ⟨Nat.le_trans (Nat.le_of_ble_eq_true rfl) hRf, Nat.le_trans (Nat.le_of_ble_eq_true rfl) hRl⟩) (r_pS hB hw hS) rfl rfl hl.1 rfl (lv_room (Nat.le_of_ble_eq_true rfl)) dX5_run_5 ⟨by omega, by omega⟩) hS (fun _ _ h => h) (fun _ h => h) (fun r1 S2 t H1 locs ht _ h hw1 _ _ hS => ?_)
  subst ht
  have hw : wd D y z S2 A t.heap := hw1
  clear hw1 h1
  refine lv_if_eq (tgt := 21) hx hb dX5_run_8 (by decide) (fun hc => ?_) (fun hc => ?_)
  · have h := h.1 hc
    refine lv_aload_n hx hb dX5_run_21 rfl (lv_at hl 0 rfl) ?_
    obtain ⟨hk3, h⟩ := h
    refine r_get (ci := 6) (v := .int (gV S2 7 this 4)) (C := RX5) (T := TX5) (N := 6) hx hb hts hiX5 hown hK hw (ce_7 (S := S2) hk3) rfl 4 (by decide) (hts (.fieldLink RX5 30 "TubePost" "delivered" "I") (by decide +kernel)) (fun _ h9 => h9) rfl dX5_run_22 ?_
    refine lv_istore_n hx hb dX5_run_25 rfl hl (by decide) rfl (fun ls hl => ?_)
    have hl : lv_has ls 4 [(2, .int (gV S2 7 this 4)), (0, .ref this), (1, .int p1)] := hl
    refine lv_iconst (v := (0 : Int32)) hx hb dX5_run_26 (by decide) ?_
    refine lv_istore_n hx hb dX5_run_27 rfl hl (by decide) rfl (fun ls hl => ?_)
    have hl : lv_has ls 4 [(3, .int (0 : Int32)), (2, .int (gV S2 7 this 4)), (0, .ref this), (1, .int p1)] := hl
    obtain ⟨n28, h⟩ := h
    exact hB28 n28 _ _ _ _ _ _ _ _ _ _ _ _ h hw hS (lv_sub hl [2, 3, 1, 0] rfl) hcu hsu
  · have h := h.2 hc
    exact h.elim
def wp_X5_carrier (post : Int32 → bS → Prop) (xp : String → bS → Prop) (MC MS : Nat) (this : Nat) (p1 : Int32) (p2 : Int32) (S : bS) : Prop := gK S this = 7 ∧ (∃ b2, gQ S 7 this 2 = some b2 ∧ (gK S b2 = 1 ∧ (wp_Jx4a65c_size_8abf5 (fun r5 S6 => wp_X5_isOutside (fun r7 S8 => (r7 = (0 : Int32) → gK S8 this = 7 ∧ (∃ b10, gQ S8 7 this 2 = some b10 ∧ (gK S8 b10 = 1 ∧ (wp_Jx4a65c_get_915e3 (fun r13 S14 => ∃ b15, r13 = some b15 ∧ (gK S14 b15 = 2 ∧ ((p2 = (0 : Int32) → post (gV S14 2 b15 4) S14) ∧ (p2 = (1 : Int32) → post (gV S14 2 b15 5) S14) ∧ (p2 = (2 : Int32) → ∃ b18, gQ S14 2 b15 1 = some b18 ∧ (gK S14 b18 = 5 ∧ (post (gV S14 5 b18 0) S14))) ∧ (p2 = (3 : Int32) → post (gV S14 2 b15 2) S14) ∧ (p2 = (4 : Int32) → post (gV S14 2 b15 3) S14) ∧ (p2 = (5 : Int32) → post (gV S14 2 b15 6) S14) ∧ (p2 = (6 : Int32) → post (gV S14 2 b15 8) S14) ∧ (¬ p2 = (0 : Int32) → ¬ p2 = (1 : Int32) → ¬ p2 = (2 : Int32) → ¬ p2 = (3 : Int32) → ¬ p2 = (4 : Int32) → ¬ p2 = (5 : Int32) → ¬ p2 = (6 : Int32) → False)))) b10 p1 S8)))) ∧ (¬ (r7 = (0 : Int32)) → False)) p1 (0 : Int32) (r5 - (1 : Int32)) S6) b2 S)))
set_option maxHeartbeats 4000000 in
set_option maxRecDepth 100000 in
theorem m_X5_carrier {l : Launch} {D : va_G} {y : Nat → ClassId} {z : Nat} {A : Nat → Prop} {S : bS} {post : Int32 → bS → Prop} {xp : String → bS → Prop} (hl0 : l.stackTraces = false) {MC MS : Nat} {this : Nat} {p1 : Int32} {p2 : Int32} (h : wp_X5_carrier post xp MC MS this p1 p2 S) : vx_Met l yX5_carrier wsX5_carrier ({ frames := 8, cells := MC, slots := MS, locals := 400 } : Room) (va_Pc ([Value.ref this, Value.int p1, Value.int p2] : List Value) (bP D y z S A)) (va_Qi post (fun S' t => wd D y z S' A t.heap) A) (bX D y z A xp) MC MS A := by
  refine vx_ofW (cc := cX5_carrier) (maxL := 4) (ret := (some .int)) (by decide) rfl ?_
  intro p e s m args below meth c s₁ B hml hex hv
  obtain ⟨rfl, hB⟩ := hv
  have hx := B.exec
  have hb := B.bytes
  have hr := B.returns
  have hts := atoms_spec (ws := wsX5_carrier) B.pre
  have hown : s.vm.findClass RX5 = some m.cls := findClass_of_methodNamed B.named
  have hlocks := B.notSynchronized
  have hw : wd D y z S A s.heap := hB.1
  have hK : va_K D bCl (bT y) s := hB.2.1
  have hNw := hB.2.2.1
  have hAn : ∀ q : Nat, s.heap.size ≤ q → A q := hB.2.2.2.1
  have hAz : ¬ A z := hB.2.2.2.2.1
  have hO := hB.2.2.2.2.2.1
  have hS : va_S A s.heap s.heap [] := va_S.rf
  have hiX0 : ∀ w ∈ u_ws RX0 TX0 9, w ∈ wsX5_carrier := by decide +kernel
  have hiX3 : ∀ w ∈ u_ws RX3 TX3 10, w ∈ wsX5_carrier := by decide +kernel
  have hiX5 : ∀ w ∈ u_ws RX5 TX5 6, w ∈ wsX5_carrier := by decide +kernel
  have hl := lv_entry ([Value.ref this, Value.int p1, Value.int p2] : List Value) (n := 4) (Nat.le_of_ble_eq_true rfl)
  rw [lg_entry_eq]
  generalize (lg_sl ([Value.ref this, Value.int p1, Value.int p2] : List Value) ++ List.replicate (4 - (lg_sl ([Value.ref this, Value.int p1, Value.int p2] : List Value)).length) Slot.unset).toArray = ls at hl ⊢
  have hl : lv_has ls 4 [(0, .ref this), (1, .int p1), (2, .int p2)] := hl
  obtain ⟨Q, hQ⟩ : ∃ Q, Q = vx_MQ below (va_Qi post (fun S' t => wd D y z S' A t.heap) A) (bX D y z A xp) (([Value.ref this, Value.int p1, Value.int p2] : List Value).toArray) s MC MS A := ⟨_, rfl⟩
  rw [← hQ]
  generalize hR : (headSpec wsX5_carrier ({ frames := 8, cells := MC, slots := MS, locals := 400 } : Room)).room = R
  have hRf : 8 ≤ R.frames := by rw [← hR]; exact Nat.le_refl _
  have hRl : 400 ≤ R.locals := by rw [← hR]; exact Nat.le_refl _
  have hRc : R.cells = MC := by rw [← hR]; rfl
  have hRs : R.slots = MS := by rw [← hR]; rfl
  have hret : ∀ (v : Int32) (S : bS) (H : Heap) (locs : List Loc) (pc : Nat) (ls : Array Slot) (cu su : Nat) , post v S → wd D y z S A H → va_S A s.heap H locs → cu ≤ MC → su ≤ MS → decode cX5_carrier pc = .ok (.ireturn, 1) → W p l e R s m (([Value.ref this, Value.int p1, Value.int p2] : List Value).toArray) below meth c H locs cu su Q (F0 m pc ls [.int v]) := by
    intro v S H locs pc ls cu su h hw hS hcu hsu d0
    rw [hQ]; refine vx_ret ?_; refine W.widen hcu hsu ?_; exact W.iret hx hb hr (fun t ht hW => ⟨⟨v, S, rfl, h, by show wd D y z S A t.heap; rw [ht]; exact hw⟩, hS.F ht⟩) hS.2.2 d0 hlocks
  unfold wp_X5_carrier at h
  have hcu : 0 + MC ≤ MC := by omega
  have hsu : 0 + MS ≤ MS := by omega
  refine lv_iload_n hx hb dX5_carrier_0 rfl (lv_at hl 1 rfl) ?_
  refine lv_iconst (v := (0 : Int32)) hx hb dX5_carrier_1 (by decide) ?_
  refine lv_aload_n hx hb dX5_carrier_2 rfl (lv_at hl 0 rfl) ?_
  obtain ⟨hk1, h⟩ := h
  obtain ⟨b2, hb3, h⟩ := h
  refine r_get (ci := 6) (v := .ref b2) (C := RX5) (T := TX5) (N := 6) hx hb hts hiX5 hown hK hw (ce_7 (S := S) hk1) rfl 2 (by decide) (hts (.fieldLink RX5 23 "TubePost" "carriers" "Ljava/util/ArrayList;") (by decide +kernel)) (fun _ h9 => h9) (congrArg (fun q => some (va_rf q)) hb3) dX5_carrier_3 ?_
  obtain ⟨hk4, h⟩ := h
  have h1 := h
  refine va_calli (va_runV (As := []) (rest := [.int (0 : Int32), .int p1]) ⟨hx, hb, hml, hown, hts⟩ (m_Jx4a65c_size_8abf5 (l := l) h1) (cwV 0 hts gX5_carrier_Jx4a65c_size_8abf5 rfl rfl rfl (by decide +kernel) ⟨Nat.le_trans (Nat.le_of_ble_eq_true rfl) hRf, Nat.le_trans (Nat.le_of_ble_eq_true rfl) hRl⟩) (r_pV hB hw hS (ce_1 (S := S) hk4) rfl) rfl rfl hl.1 rfl (lv_room (Nat.le_of_ble_eq_true rfl)) dX5_carrier_6 ⟨by omega, by omega⟩) hS (fun _ _ h => h) (fun _ h => h) (fun r5 S6 t H1 locs ht _ h hw1 _ _ hS => ?_)
  subst ht
  have hw : wd D y z S6 A t.heap := hw1
  clear hw1 h1
  refine lv_iconst (v := (1 : Int32)) hx hb dX5_carrier_9 (by decide) ?_
  refine lv_isub hx hb dX5_carrier_10 ?_
  have h1 := h
  refine va_calli (va_runS (As := [.int p1, .int (0 : Int32), .int (r5 - (1 : Int32))]) (rest := []) ⟨hx, hb, hml, hown, hts⟩ (m_X5_isOutside (l := l) h1) (cwS 3 hts gX5_carrier_X5_isOutside rfl rfl rfl (by decide +kernel) ⟨Nat.le_trans (Nat.le_of_ble_eq_true rfl) hRf, Nat.le_trans (Nat.le_of_ble_eq_true rfl) hRl⟩) (r_pS hB hw hS) rfl rfl hl.1 rfl (lv_room (Nat.le_of_ble_eq_true rfl)) dX5_carrier_11 ⟨by omega, by omega⟩) hS (fun _ _ h => h) (fun _ h => h) (fun r7 S8 t H1 locs ht _ h hw1 _ _ hS => ?_)
  subst ht
  have hw : wd D y z S8 A t.heap := hw1
  clear hw1 h1
  refine lv_if_eq (tgt := 27) hx hb dX5_carrier_14 (by decide) (fun hc => ?_) (fun hc => ?_)
  · have h := h.1 hc
    refine lv_aload_n hx hb dX5_carrier_27 rfl (lv_at hl 0 rfl) ?_
    obtain ⟨hk9, h⟩ := h
    obtain ⟨b10, hb11, h⟩ := h
    refine r_get (ci := 6) (v := .ref b10) (C := RX5) (T := TX5) (N := 6) hx hb hts hiX5 hown hK hw (ce_7 (S := S8) hk9) rfl 2 (by decide) (hts (.fieldLink RX5 23 "TubePost" "carriers" "Ljava/util/ArrayList;") (by decide +kernel)) (fun _ h9 => h9) (congrArg (fun q => some (va_rf q)) hb11) dX5_carrier_28 ?_
    refine lv_iload_n hx hb dX5_carrier_31 rfl (lv_at hl 1 rfl) ?_
    obtain ⟨hk12, h⟩ := h
    have h1 := h
    refine va_callq (va_runV (As := [.int p1]) (rest := []) ⟨hx, hb, hml, hown, hts⟩ (m_Jx4a65c_get_915e3 (l := l) h1) (cwV 1 hts gX5_carrier_Jx4a65c_get_915e3 rfl rfl rfl (by decide +kernel) ⟨Nat.le_trans (Nat.le_of_ble_eq_true rfl) hRf, Nat.le_trans (Nat.le_of_ble_eq_true rfl) hRl⟩) (r_pV hB hw hS (ce_1 (S := S8) hk12) rfl) rfl rfl hl.1 rfl (lv_room (Nat.le_of_ble_eq_true rfl)) dX5_carrier_32 ⟨by omega, by omega⟩) hS (fun _ _ h => h) (fun _ h => h) (fun r13 S14 t H1 locs ht _ h hw1 _ _ hS => ?_)
    subst ht
    have hw : wd D y z S14 A t.heap := hw1
    clear hw1 h1
    obtain ⟨b15, rfl, h⟩ := h
    refine W.eq (g2 := F0 m 35 ls [.ref b15]) rfl ?_
    obtain ⟨hk17, h⟩ := h
    refine r_cast hx hb hown (hts (.classLink RX5 163 "TubePost$Carrier") (by decide +kernel)) hK hw (ce_2 hk17) rfl dX5_carrier_35 ?_
    refine lv_astore_n hx hb dX5_carrier_38 rfl hl (by decide) rfl (fun ls hl => ?_)
    have hl : lv_has ls 4 [(3, .ref b15), (0, .ref this), (1, .int p1), (2, .int p2)] := hl
    refine lv_iload_n hx hb dX5_carrier_39 rfl (lv_at hl 3 rfl) ?_
    by_cases hq0 : p2 = (0 : Int32)
    · have h := h.1 hq0
      refine lv_tableIn (off := 44) (tgt := 84) hx hb dX5_carrier_40 (by rw [hq0]; decide) (by rw [hq0]; decide) (by rw [hq0]; decide) (by decide) ?_
      refine lv_aload_n hx hb dX5_carrier_84 rfl (lv_at hl 0 rfl) ?_
      refine r_getN (ci := 1) (v := .int (gV S14 2 b15 4)) (C := RX0) (T := TX0) (N := 9) hx hb hts hiX0 hown hK hw (ce_2 (S := S14) hk17) rfl 4 (by decide) (hNw _ (bNw_5)) (fun _ h9 => h9) rfl dX5_carrier_85 ?_
      exact hret (gV S14 2 b15 4) _ _ _ _ _ _ _ h hw hS (by omega) (by omega) dX5_carrier_88
    by_cases hq1 : p2 = (1 : Int32)
    · have h := h.2.1 hq1
      refine lv_tableIn (off := 49) (tgt := 89) hx hb dX5_carrier_40 (by rw [hq1]; decide) (by rw [hq1]; decide) (by rw [hq1]; decide) (by decide) ?_
      refine lv_aload_n hx hb dX5_carrier_89 rfl (lv_at hl 0 rfl) ?_
      refine r_getN (ci := 1) (v := .int (gV S14 2 b15 5)) (C := RX0) (T := TX0) (N := 9) hx hb hts hiX0 hown hK hw (ce_2 (S := S14) hk17) rfl 5 (by decide) (hNw _ (bNw_6)) (fun _ h9 => h9) rfl dX5_carrier_90 ?_
      exact hret (gV S14 2 b15 5) _ _ _ _ _ _ _ h hw hS (by omega) (by omega) dX5_carrier_93
    by_cases hq2 : p2 = (2 : Int32)
    · have h := h.2.2.1 hq2
      refine lv_tableIn (off := 54) (tgt := 94) hx hb dX5_carrier_40 (by rw [hq2]; decide) (by rw [hq2]; decide) (by rw [hq2]; decide) (by decide) ?_
      refine lv_aload_n hx hb dX5_carrier_94 rfl (lv_at hl 0 rfl) ?_
      obtain ⟨b18, hb19, h⟩ := h
      refine r_getN (ci := 1) (v := .ref b18) (C := RX0) (T := TX0) (N := 9) hx hb hts hiX0 hown hK hw (ce_2 (S := S14) hk17) rfl 1 (by decide) (hNw _ (bNw_7)) (fun _ h9 => h9) (congrArg (fun q => some (va_rf q)) hb19) dX5_carrier_95 ?_
      obtain ⟨hk20, h⟩ := h
      refine r_getN (ci := 4) (v := .int (gV S14 5 b18 0)) (C := RX3) (T := TX3) (N := 10) hx hb hts hiX3 hown hK hw (ce_5 (S := S14) hk20) rfl 0 (by decide) (hNw _ (bNw_8)) (fun _ h9 => h9) rfl dX5_carrier_98 ?_
      exact hret (gV S14 5 b18 0) _ _ _ _ _ _ _ h hw hS (by omega) (by omega) dX5_carrier_101
    by_cases hq3 : p2 = (3 : Int32)
    · have h := h.2.2.2.1 hq3
      refine lv_tableIn (off := 62) (tgt := 102) hx hb dX5_carrier_40 (by rw [hq3]; decide) (by rw [hq3]; decide) (by rw [hq3]; decide) (by decide) ?_
      refine lv_aload_n hx hb dX5_carrier_102 rfl (lv_at hl 0 rfl) ?_
      refine r_getN (ci := 1) (v := .int (gV S14 2 b15 2)) (C := RX0) (T := TX0) (N := 9) hx hb hts hiX0 hown hK hw (ce_2 (S := S14) hk17) rfl 2 (by decide) (hNw _ (bNw_9)) (fun _ h9 => h9) rfl dX5_carrier_103 ?_
      exact hret (gV S14 2 b15 2) _ _ _ _ _ _ _ h hw hS (by omega) (by omega) dX5_carrier_106
    by_cases hq4 : p2 = (4 : Int32)
    · have h := h.2.2.2.2.1 hq4
      refine lv_tableIn (off := 67) (tgt := 107) hx hb dX5_carrier_40 (by rw [hq4]; decide) (by rw [hq4]; decide) (by rw [hq4]; decide) (by decide) ?_
      refine lv_aload_n hx hb dX5_carrier_107 rfl (lv_at hl 0 rfl) ?_
      refine r_getN (ci := 1) (v := .int (gV S14 2 b15 3)) (C := RX0) (T := TX0) (N := 9) hx hb hts hiX0 hown hK hw (ce_2 (S := S14) hk17) rfl 3 (by decide) (hNw _ (bNw_10)) (fun _ h9 => h9) rfl dX5_carrier_108 ?_
      exact hret (gV S14 2 b15 3) _ _ _ _ _ _ _ h hw hS (by omega) (by omega) dX5_carrier_111
    by_cases hq5 : p2 = (5 : Int32)
    · have h := h.2.2.2.2.2.1 hq5
      refine lv_tableIn (off := 72) (tgt := 112) hx hb dX5_carrier_40 (by rw [hq5]; decide) (by rw [hq5]; decide) (by rw [hq5]; decide) (by decide) ?_
      refine lv_aload_n hx hb dX5_carrier_112 rfl (lv_at hl 0 rfl) ?_
      refine r_getN (ci := 1) (v := .int (gV S14 2 b15 6)) (C := RX0) (T := TX0) (N := 9) hx hb hts hiX0 hown hK hw (ce_2 (S := S14) hk17) rfl 6 (by decide) (hNw _ (bNw_11)) (fun _ h9 => h9) rfl dX5_carrier_113 ?_
      exact hret (gV S14 2 b15 6) _ _ _ _ _ _ _ h hw hS (by omega) (by omega) dX5_carrier_116
    by_cases hq6 : p2 = (6 : Int32)
    · have h := h.2.2.2.2.2.2.1 hq6
      refine lv_tableIn (off := 77) (tgt := 117) hx hb dX5_carrier_40 (by rw [hq6]; decide) (by rw [hq6]; decide) (by rw [hq6]; decide) (by decide) ?_
      refine lv_aload_n hx hb dX5_carrier_117 rfl (lv_at hl 0 rfl) ?_
      refine r_getN (ci := 1) (v := .int (gV S14 2 b15 8)) (C := RX0) (T := TX0) (N := 9) hx hb hts hiX0 hown hK hw (ce_2 (S := S14) hk17) rfl 8 (by decide) (hNw _ (bNw_12)) (fun _ h9 => h9) rfl dX5_carrier_118 ?_
      exact hret (gV S14 2 b15 8) _ _ _ _ _ _ _ h hw hS (by omega) (by omega) dX5_carrier_121
    have h := h.2.2.2.2.2.2.2 hq0 hq1 hq2 hq3 hq4 hq5 hq6
    have ht0 : Int32.toInt p2 ≠ (0 : Int) := fun q => hq0 (b_ti q rfl)
    have ht1 : Int32.toInt p2 ≠ (1 : Int) := fun q => hq1 (b_ti q rfl)
    have ht2 : Int32.toInt p2 ≠ (2 : Int) := fun q => hq2 (b_ti q rfl)
    have ht3 : Int32.toInt p2 ≠ (3 : Int) := fun q => hq3 (b_ti q rfl)
    have ht4 : Int32.toInt p2 ≠ (4 : Int) := fun q => hq4 (b_ti q rfl)
    have ht5 : Int32.toInt p2 ≠ (5 : Int) := fun q => hq5 (b_ti q rfl)
    have ht6 : Int32.toInt p2 ≠ (6 : Int) := fun q => hq6 (b_ti q rfl)
    refine lv_tableOut (tgt := 122) hx hb dX5_carrier_40 (by omega) (by decide) ?_
    exact h.elim
  · have h := h.2 hc
    exact h.elim
def wb_X5_jammedTubes_45 (post : Int32 → bS → Prop) (rec4 : Nat → Int32 → Int32 → bS → Prop) (v0 : Nat) (v1 : Int32) (v2 : Int32) (S : bS) : Prop := rec4 v0 v1 (v2 + (1 : Int32)) S
def wb_X5_jammedTubes_4 (post : Int32 → bS → Prop) : Nat → Nat → Int32 → Int32 → bS → Prop
  | 0, _, _, _, _ => False
  | n + 1, v0, v1, v2, S => gK S v0 = 7 ∧ (∃ b2, gQ S 7 v0 0 = some b2 ∧ (gK S b2 = 4 ∧ (∃ b5, gQ S 4 b2 1 = some b5 ∧ (gK S b5 = 1 ∧ (wp_Jx4a65c_size_8abf5 (fun r8 S9 => (r8 ≤ v2 → post v1 S9) ∧ (¬ (r8 ≤ v2) → gK S9 v0 = 7 ∧ (∃ b11, gQ S9 7 v0 0 = some b11 ∧ (gK S9 b11 = 4 ∧ (∃ b14, gQ S9 4 b11 1 = some b14 ∧ (gK S9 b14 = 1 ∧ (wp_Jx4a65c_get_915e3 (fun r17 S18 => ∃ b19, r17 = some b19 ∧ (gK S18 b19 = 6 ∧ (gK S18 v0 = 7 ∧ (wp_X4_isFirstAtEnd (fun r23 S24 => (r23 = (0 : Int32) → wb_X5_jammedTubes_45 post (wb_X5_jammedTubes_4 post n) v0 v1 v2 S24) ∧ (¬ (r23 = (0 : Int32)) → wb_X5_jammedTubes_45 post (wb_X5_jammedTubes_4 post n) v0 (v1 + (1 : Int32)) v2 S24)) b19 (gV S18 7 v0 3) S18)))) b14 v2 S9))))))) b5 S)))))
def wp_X5_jammedTubes (post : Int32 → bS → Prop) (this : Nat) (S : bS) : Prop := ∃ n4, wb_X5_jammedTubes_4 post n4 this (0 : Int32) (0 : Int32) S
set_option maxHeartbeats 4000000 in
set_option maxRecDepth 100000 in
theorem m_X5_jammedTubes {l : Launch} {D : va_G} {y : Nat → ClassId} {z : Nat} {A : Nat → Prop} {S : bS} {post : Int32 → bS → Prop} {this : Nat} (h : wp_X5_jammedTubes post this S) : Met l yX5_jammedTubes wsX5_jammedTubes ({ frames := 4, cells := 0, slots := 0, locals := 86 } : Room) (va_Pc ([Value.ref this] : List Value) (bP D y z S A)) (va_Qi post (fun S' t => wd D y z S' A t.heap) A) 0 0 A := by
  refine Met.ofW (cc := cX5_jammedTubes) (maxL := 3) (ret := (some .int)) (by decide) rfl ?_
  intro p e s m args below meth c s₁ B hml hv
  obtain ⟨rfl, hB⟩ := hv
  have hx := B.exec
  have hb := B.bytes
  have hr := B.returns
  have hts := atoms_spec (ws := wsX5_jammedTubes) B.pre
  have hown : s.vm.findClass RX5 = some m.cls := findClass_of_methodNamed B.named
  have hlocks := B.notSynchronized
  have hw : wd D y z S A s.heap := hB.1
  have hK : va_K D bCl (bT y) s := hB.2.1
  have hNw := hB.2.2.1
  have hAn : ∀ q : Nat, s.heap.size ≤ q → A q := hB.2.2.2.1
  have hAz : ¬ A z := hB.2.2.2.2.1
  have hO := hB.2.2.2.2.2.1
  have hS : va_S A s.heap s.heap [] := va_S.rf
  have hiX2 : ∀ w ∈ u_ws RX2 TX2 2, w ∈ wsX5_jammedTubes := by decide +kernel
  have hiX5 : ∀ w ∈ u_ws RX5 TX5 6, w ∈ wsX5_jammedTubes := by decide +kernel
  have hl := lv_entry ([Value.ref this] : List Value) (n := 3) (Nat.le_of_ble_eq_true rfl)
  rw [lg_entry_eq]
  generalize (lg_sl ([Value.ref this] : List Value) ++ List.replicate (3 - (lg_sl ([Value.ref this] : List Value)).length) Slot.unset).toArray = ls at hl ⊢
  have hl : lv_has ls 3 [(0, .ref this)] := hl
  obtain ⟨Q, hQ⟩ : ∃ Q, Q = MQ below (va_Qi post (fun S' t => wd D y z S' A t.heap) A) (([Value.ref this] : List Value).toArray) s 0 0 A := ⟨_, rfl⟩
  rw [← hQ]
  generalize hR : (headSpec wsX5_jammedTubes ({ frames := 4, cells := 0, slots := 0, locals := 86 } : Room)).room = R
  have hRf : 4 ≤ R.frames := by rw [← hR]; exact Nat.le_refl _
  have hRl : 86 ≤ R.locals := by rw [← hR]; exact Nat.le_refl _
  have hret : ∀ (v : Int32) (S : bS) (H : Heap) (locs : List Loc) (pc : Nat) (ls : Array Slot) , post v S → wd D y z S A H → va_S A s.heap H locs → decode cX5_jammedTubes pc = .ok (.ireturn, 1) → W p l e R s m (([Value.ref this] : List Value).toArray) below meth c H locs 0 0 Q (F0 m pc ls [.int v]) := by
    intro v S H locs pc ls h hw hS d0
    rw [hQ]; exact W.iret hx hb hr (fun t ht hW => ⟨⟨v, S, rfl, h, by show wd D y z S A t.heap; rw [ht]; exact hw⟩, hS.F ht⟩) hS.2.2 d0 hlocks
  have hB4 : ∀ (n4 : Nat) (S : bS) (H : Heap) (locs : List Loc) (ls : Array Slot) (v0 : Nat) (v1 : Int32) (v2 : Int32), wb_X5_jammedTubes_4 post n4 v0 v1 v2 S → wd D y z S A H → va_S A s.heap H locs → lv_has ls 3 [(0, .ref v0), (1, .int v1), (2, .int v2)] → W p l e R s m (([Value.ref this] : List Value).toArray) below meth c H locs 0 0 Q (F0 m 4 ls []) := by
    intro n4
    induction n4 with
    | zero =>
      intro S H locs ls v0 v1 v2 h hw hS hl
      exact absurd h (by unfold wb_X5_jammedTubes_4; exact id)
    | succ n4 ih4 =>
      have hB45 : ∀ (S : bS) (H : Heap) (locs : List Loc) (ls : Array Slot) (v0 : Nat) (v1 : Int32) (v2 : Int32), wb_X5_jammedTubes_45 post (wb_X5_jammedTubes_4 post n4) v0 v1 v2 S → wd D y z S A H → va_S A s.heap H locs → lv_has ls 3 [(0, .ref v0), (1, .int v1), (2, .int v2)] → W p l e R s m (([Value.ref this] : List Value).toArray) below meth c H locs 0 0 Q (F0 m 45 ls []) := by
        intro S H locs ls v0 v1 v2 h hw hS hl
        unfold wb_X5_jammedTubes_45 at h
        refine lv_iinc (v := (v2 + (1 : Int32))) hx hb dX5_jammedTubes_45 hl (k := 2) rfl rfl (by decide) rfl (fun ls hl => ?_)
        have hl : lv_has ls 3 [(2, .int (v2 + (1 : Int32))), (0, .ref v0), (1, .int v1)] := hl
        refine lv_goto (tgt := 4) hx hb dX5_jammedTubes_48 (by decide) ?_
        exact ih4 _ _ _ _ _ _ _ h hw hS (lv_sub hl [1, 2, 0] rfl)
      intro S H locs ls v0 v1 v2 h hw hS hl
      unfold wb_X5_jammedTubes_4 at h
      refine lv_iload_n hx hb dX5_jammedTubes_4 rfl (lv_at hl 2 rfl) ?_
      refine lv_aload_n hx hb dX5_jammedTubes_5 rfl (lv_at hl 0 rfl) ?_
      obtain ⟨hk1, h⟩ := h
      obtain ⟨b2, hb3, h⟩ := h
      refine r_get (ci := 6) (v := .ref b2) (C := RX5) (T := TX5) (N := 6) hx hb hts hiX5 hown hK hw (ce_7 (S := S) hk1) rfl 0 (by decide) (hts (.fieldLink RX5 10 "TubePost" "net" "LTubePost$Net;") (by decide +kernel)) (fun _ h9 => h9) (congrArg (fun q => some (va_rf q)) hb3) dX5_jammedTubes_6 ?_
      obtain ⟨hk4, h⟩ := h
      obtain ⟨b5, hb6, h⟩ := h
      refine r_getN (ci := 3) (v := .ref b5) (C := RX2) (T := TX2) (N := 2) hx hb hts hiX2 hown hK hw (ce_4 (S := S) hk4) rfl 1 (by decide) (hNw _ (bNw_1)) (fun _ h9 => h9) (congrArg (fun q => some (va_rf q)) hb6) dX5_jammedTubes_9 ?_
      obtain ⟨hk7, h⟩ := h
      have h1 := h
      refine va_calli (va_runV (As := []) (rest := [.int v2]) ⟨hx, hb, hml, hown, hts⟩ (m_Jx4a65c_size_8abf5 (l := l) h1) (cwV 0 hts gX5_jammedTubes_Jx4a65c_size_8abf5 rfl rfl rfl (by decide +kernel) ⟨Nat.le_trans (Nat.le_of_ble_eq_true rfl) hRf, Nat.le_trans (Nat.le_of_ble_eq_true rfl) hRl⟩) (r_pV hB hw hS (ce_1 (S := S) hk7) rfl) rfl rfl hl.1 rfl (lv_room (Nat.le_of_ble_eq_true rfl)) dX5_jammedTubes_12 ⟨Nat.zero_le _, Nat.zero_le _⟩) hS (fun _ _ h => h) (fun _ h => h) (fun r8 S9 t H1 locs ht _ h hw1 _ _ hS => ?_)
      subst ht
      have hw : wd D y z S9 A t.heap := hw1
      clear hw1 h1
      refine lv_icmp_ge (tgt := 51) hx hb dX5_jammedTubes_15 (by decide) (fun hc => ?_) (fun hc => ?_)
      · have h := h.1 hc
        refine lv_iload_n hx hb dX5_jammedTubes_51 rfl (lv_at hl 1 rfl) ?_
        exact hret v1 _ _ _ _ _ h hw hS dX5_jammedTubes_52
      · have h := h.2 hc
        refine lv_aload_n hx hb dX5_jammedTubes_18 rfl (lv_at hl 0 rfl) ?_
        obtain ⟨hk10, h⟩ := h
        obtain ⟨b11, hb12, h⟩ := h
        refine r_get (ci := 6) (v := .ref b11) (C := RX5) (T := TX5) (N := 6) hx hb hts hiX5 hown hK hw (ce_7 (S := S9) hk10) rfl 0 (by decide) (hts (.fieldLink RX5 10 "TubePost" "net" "LTubePost$Net;") (by decide +kernel)) (fun _ h9 => h9) (congrArg (fun q => some (va_rf q)) hb12) dX5_jammedTubes_19 ?_
        obtain ⟨hk13, h⟩ := h
        obtain ⟨b14, hb15, h⟩ := h
        refine r_getN (ci := 3) (v := .ref b14) (C := RX2) (T := TX2) (N := 2) hx hb hts hiX2 hown hK hw (ce_4 (S := S9) hk13) rfl 1 (by decide) (hNw _ (bNw_1)) (fun _ h9 => h9) (congrArg (fun q => some (va_rf q)) hb15) dX5_jammedTubes_22 ?_
        refine lv_iload_n hx hb dX5_jammedTubes_25 rfl (lv_at hl 2 rfl) ?_
        obtain ⟨hk16, h⟩ := h
        have h1 := h
        refine va_callq (va_runV (As := [.int v2]) (rest := []) ⟨hx, hb, hml, hown, hts⟩ (m_Jx4a65c_get_915e3 (l := l) h1) (cwV 1 hts gX5_jammedTubes_Jx4a65c_get_915e3 rfl rfl rfl (by decide +kernel) ⟨Nat.le_trans (Nat.le_of_ble_eq_true rfl) hRf, Nat.le_trans (Nat.le_of_ble_eq_true rfl) hRl⟩) (r_pV hB hw hS (ce_1 (S := S9) hk16) rfl) rfl rfl hl.1 rfl (lv_room (Nat.le_of_ble_eq_true rfl)) dX5_jammedTubes_26 ⟨Nat.zero_le _, Nat.zero_le _⟩) hS (fun _ _ h => h) (fun _ h => h) (fun r17 S18 t H1 locs ht _ h hw1 _ _ hS => ?_)
        subst ht
        have hw : wd D y z S18 A t.heap := hw1
        clear hw1 h1
        obtain ⟨b19, rfl, h⟩ := h
        refine W.eq (g2 := F0 m 29 ls [.ref b19]) rfl ?_
        obtain ⟨hk21, h⟩ := h
        refine r_cast hx hb hown (hts (.classLink RX5 101 "TubePost$Tube") (by decide +kernel)) hK hw (ce_6 hk21) rfl dX5_jammedTubes_29 ?_
        refine lv_aload_n hx hb dX5_jammedTubes_32 rfl (lv_at hl 0 rfl) ?_
        obtain ⟨hk22, h⟩ := h
        refine r_get (ci := 6) (v := .int (gV S18 7 v0 3)) (C := RX5) (T := TX5) (N := 6) hx hb hts hiX5 hown hK hw (ce_7 (S := S18) hk22) rfl 3 (by decide) (hts (.fieldLink RX5 26 "TubePost" "tick" "I") (by decide +kernel)) (fun _ h9 => h9) rfl dX5_jammedTubes_33 ?_
        have h1 := h
        refine va_calli (va_runVN (As := [.int (gV S18 7 v0 3)]) (rest := []) ⟨hx, hb, hml, hown, hts⟩ (m_X4_isFirstAtEnd (l := l) h1) ⟨va_cnB 1 hts gX5_jammedTubes_X4_isFirstAtEnd_n233 rfl rfl rfl (hNw _ bNw_51) (hts (.initialized RX4) (by decide +kernel)) ⟨by decide +kernel, by decide +kernel, by decide +kernel⟩ ⟨Nat.le_trans (Nat.le_of_ble_eq_true rfl) hRf, Nat.le_trans (Nat.le_of_ble_eq_true rfl) hRl⟩, (hts (.instanceMethod yX4_isFirstAtEnd) (by decide +kernel)), hts (.selects RX4 yX4_isFirstAtEnd yX4_isFirstAtEnd) (by decide +kernel)⟩ (r_pV hB hw hS (ce_6 (S := S18) hk21) rfl) rfl rfl hl.1 rfl (lv_room (Nat.le_of_ble_eq_true rfl)) dX5_jammedTubes_36 ⟨Nat.zero_le _, Nat.zero_le _⟩) hS (fun _ _ h => h) (fun _ h => h) (fun r23 S24 t H1 locs ht _ h hw1 _ _ hS => ?_)
        subst ht
        have hw : wd D y z S24 A t.heap := hw1
        clear hw1 h1
        refine lv_if_eq (tgt := 45) hx hb dX5_jammedTubes_39 (by decide) (fun hc => ?_) (fun hc => ?_)
        · have h := h.1 hc
          exact hB45 _ _ _ _ _ _ _ h hw hS (lv_sub hl [0, 1, 2] rfl)
        · have h := h.2 hc
          refine lv_iinc (v := (v1 + (1 : Int32))) hx hb dX5_jammedTubes_42 hl (k := 1) rfl rfl (by decide) rfl (fun ls hl => ?_)
          have hl : lv_has ls 3 [(1, .int (v1 + (1 : Int32))), (0, .ref v0), (2, .int v2)] := hl
          exact hB45 _ _ _ _ _ _ _ h hw hS (lv_sub hl [1, 0, 2] rfl)
  unfold wp_X5_jammedTubes at h
  refine lv_iconst (v := (0 : Int32)) hx hb dX5_jammedTubes_0 (by decide) ?_
  refine lv_istore_n hx hb dX5_jammedTubes_1 rfl hl (by decide) rfl (fun ls hl => ?_)
  have hl : lv_has ls 3 [(1, .int (0 : Int32)), (0, .ref this)] := hl
  refine lv_iconst (v := (0 : Int32)) hx hb dX5_jammedTubes_2 (by decide) ?_
  refine lv_istore_n hx hb dX5_jammedTubes_3 rfl hl (by decide) rfl (fun ls hl => ?_)
  have hl : lv_has ls 3 [(2, .int (0 : Int32)), (1, .int (0 : Int32)), (0, .ref this)] := hl
  obtain ⟨n4, h⟩ := h
  exact hB4 n4 _ _ _ _ _ _ _ h hw hS (lv_sub hl [2, 1, 0] rfl)
