def wp_X6_init (post : bS → Prop) (MC MS : Nat) (this : Nat) (S : bS) : Prop := ¬ (126 : Int32) < 0 ∧ (Int32.toNatClampNeg (126 : Int32)) * 4 ≤ 536870912 ∧ 1 ≤ MC ∧ (Int32.toNatClampNeg (126 : Int32)) ≤ MS ∧ (∀ q1, gK S q1 = 0 → (gK (sNew S q1 9 (Int32.toNatClampNeg (126 : Int32))) this = 8 ∧ (¬ (240 : Int32) < 0 ∧ (Int32.toNatClampNeg (240 : Int32)) * 4 ≤ 536870912 ∧ 1 ≤ (MC - 1) ∧ (Int32.toNatClampNeg (240 : Int32)) ≤ (MS - (Int32.toNatClampNeg (126 : Int32))) ∧ (∀ q5, gK (sQ (sNew S q1 9 (Int32.toNatClampNeg (126 : Int32))) 8 this 9 (some q1)) q5 = 0 → (¬ (60 : Int32) < 0 ∧ (Int32.toNatClampNeg (60 : Int32)) * 4 ≤ 536870912 ∧ 1 ≤ ((MC - 1) - 1) ∧ (Int32.toNatClampNeg (60 : Int32)) ≤ ((MS - (Int32.toNatClampNeg (126 : Int32))) - (Int32.toNatClampNeg (240 : Int32))) ∧ (∀ q10, gK (sQ (sNew (sQ (sNew S q1 9 (Int32.toNatClampNeg (126 : Int32))) 8 this 9 (some q1)) q5 9 (Int32.toNatClampNeg (240 : Int32))) 8 this 10 (some q5)) q10 = 0 → (¬ (4500 : Int32) < 0 ∧ (Int32.toNatClampNeg (4500 : Int32)) * 4 ≤ 536870912 ∧ 1 ≤ (((MC - 1) - 1) - 1) ∧ (Int32.toNatClampNeg (4500 : Int32)) ≤ (((MS - (Int32.toNatClampNeg (126 : Int32))) - (Int32.toNatClampNeg (240 : Int32))) - (Int32.toNatClampNeg (60 : Int32))) ∧ (∀ q16, gK (sQ (sNew (sQ (sNew (sQ (sNew S q1 9 (Int32.toNatClampNeg (126 : Int32))) 8 this 9 (some q1)) q5 9 (Int32.toNatClampNeg (240 : Int32))) 8 this 10 (some q5)) q10 9 (Int32.toNatClampNeg (60 : Int32))) 8 this 11 (some q10)) q16 = 0 → (¬ (40 : Int32) < 0 ∧ (Int32.toNatClampNeg (40 : Int32)) * 4 ≤ 536870912 ∧ 1 ≤ ((((MC - 1) - 1) - 1) - 1) ∧ (Int32.toNatClampNeg (40 : Int32)) ≤ ((((MS - (Int32.toNatClampNeg (126 : Int32))) - (Int32.toNatClampNeg (240 : Int32))) - (Int32.toNatClampNeg (60 : Int32))) - (Int32.toNatClampNeg (4500 : Int32))) ∧ (∀ q23, gK (sQ (sNew (sQ (sNew (sQ (sNew (sQ (sNew S q1 9 (Int32.toNatClampNeg (126 : Int32))) 8 this 9 (some q1)) q5 9 (Int32.toNatClampNeg (240 : Int32))) 8 this 10 (some q5)) q10 9 (Int32.toNatClampNeg (60 : Int32))) 8 this 11 (some q10)) q16 9 (Int32.toNatClampNeg (4500 : Int32))) 8 this 12 (some q16)) q23 = 0 → (¬ (14 : Int32) < 0 ∧ (Int32.toNatClampNeg (14 : Int32)) * 4 ≤ 536870912 ∧ 1 ≤ (((((MC - 1) - 1) - 1) - 1) - 1) ∧ (Int32.toNatClampNeg (14 : Int32)) ≤ (((((MS - (Int32.toNatClampNeg (126 : Int32))) - (Int32.toNatClampNeg (240 : Int32))) - (Int32.toNatClampNeg (60 : Int32))) - (Int32.toNatClampNeg (4500 : Int32))) - (Int32.toNatClampNeg (40 : Int32))) ∧ (∀ q31, gK (sQ (sNew (sQ (sNew (sQ (sNew (sQ (sNew (sQ (sNew S q1 9 (Int32.toNatClampNeg (126 : Int32))) 8 this 9 (some q1)) q5 9 (Int32.toNatClampNeg (240 : Int32))) 8 this 10 (some q5)) q10 9 (Int32.toNatClampNeg (60 : Int32))) 8 this 11 (some q10)) q16 9 (Int32.toNatClampNeg (4500 : Int32))) 8 this 12 (some q16)) q23 9 (Int32.toNatClampNeg (40 : Int32))) 8 this 13 (some q23)) q31 = 0 → (¬ (40 : Int32) < 0 ∧ (Int32.toNatClampNeg (40 : Int32)) * 4 ≤ 536870912 ∧ 1 ≤ ((((((MC - 1) - 1) - 1) - 1) - 1) - 1) ∧ (Int32.toNatClampNeg (40 : Int32)) ≤ ((((((MS - (Int32.toNatClampNeg (126 : Int32))) - (Int32.toNatClampNeg (240 : Int32))) - (Int32.toNatClampNeg (60 : Int32))) - (Int32.toNatClampNeg (4500 : Int32))) - (Int32.toNatClampNeg (40 : Int32))) - (Int32.toNatClampNeg (14 : Int32))) ∧ (∀ q40, gK (sQ (sNew (sQ (sNew (sQ (sNew (sQ (sNew (sQ (sNew (sQ (sNew S q1 9 (Int32.toNatClampNeg (126 : Int32))) 8 this 9 (some q1)) q5 9 (Int32.toNatClampNeg (240 : Int32))) 8 this 10 (some q5)) q10 9 (Int32.toNatClampNeg (60 : Int32))) 8 this 11 (some q10)) q16 9 (Int32.toNatClampNeg (4500 : Int32))) 8 this 12 (some q16)) q23 9 (Int32.toNatClampNeg (40 : Int32))) 8 this 13 (some q23)) q31 9 (Int32.toNatClampNeg (14 : Int32))) 8 this 15 (some q31)) q40 = 0 → (post (sQ (sNew (sQ (sNew (sQ (sNew (sQ (sNew (sQ (sNew (sQ (sNew (sQ (sNew S q1 9 (Int32.toNatClampNeg (126 : Int32))) 8 this 9 (some q1)) q5 9 (Int32.toNatClampNeg (240 : Int32))) 8 this 10 (some q5)) q10 9 (Int32.toNatClampNeg (60 : Int32))) 8 this 11 (some q10)) q16 9 (Int32.toNatClampNeg (4500 : Int32))) 8 this 12 (some q16)) q23 9 (Int32.toNatClampNeg (40 : Int32))) 8 this 13 (some q23)) q31 9 (Int32.toNatClampNeg (14 : Int32))) 8 this 15 (some q31)) q40 9 (Int32.toNatClampNeg (40 : Int32))) 8 this 16 (some q40)))))))))))))))))
set_option maxHeartbeats 4000000 in
set_option maxRecDepth 100000 in
theorem m_X6_init {l : Launch} {D : va_G} {y : Nat → ClassId} {z : Nat} {A : Nat → Prop} {S : bS} {post : bS → Prop} {MC MS : Nat} {this : Nat} (h : wp_X6_init post MC MS this S) : Met l yX6_init wsX6_init ({ frames := 1, cells := MC, slots := MS, locals := 20 } : Room) (va_Pc ([Value.ref this] : List Value) (bP D y z S A)) (va_Qv post (fun S' t => wd D y z S' A t.heap) A) MC MS A := by
  refine Met.ofW (cc := cX6_init) (maxL := 1) (ret := none) (by decide) rfl ?_
  intro p e s m args below meth c s₁ B hml hv
  obtain ⟨rfl, hB⟩ := hv
  have hx := B.exec
  have hb := B.bytes
  have hr := B.returns
  have hts := atoms_spec (ws := wsX6_init) B.pre
  have hown : s.vm.findClass RX6 = some m.cls := findClass_of_methodNamed B.named
  have hlocks := B.notSynchronized
  have hin : meth.name = "<init>" := (name_of_methodNamed B.named B.method).1
  have hw : wd D y z S A s.heap := hB.1
  have hK : va_K D bCl (bT y) s := hB.2.1
  have hNw := hB.2.2.1
  have hAn : ∀ q : Nat, s.heap.size ≤ q → A q := hB.2.2.2.1
  have hAz : ¬ A z := hB.2.2.2.2.1
  have hO := hB.2.2.2.2.2.1
  have hS : va_S A s.heap s.heap [] := va_S.rf
  have hiX6 : ∀ w ∈ u_ws RX6 TX6 17, w ∈ wsX6_init := by decide +kernel
  have hl := lv_entry ([Value.ref this] : List Value) (n := 1) (Nat.le_of_ble_eq_true rfl)
  rw [lg_entry_eq]
  generalize (lg_sl ([Value.ref this] : List Value) ++ List.replicate (1 - (lg_sl ([Value.ref this] : List Value)).length) Slot.unset).toArray = ls at hl ⊢
  have hl : lv_has ls 1 [(0, .ref this)] := hl
  obtain ⟨Q, hQ⟩ : ∃ Q, Q = MQ below (va_Qv post (fun S' t => wd D y z S' A t.heap) A) (([Value.ref this] : List Value).toArray) s MC MS A := ⟨_, rfl⟩
  rw [← hQ]
  generalize hR : (headSpec wsX6_init ({ frames := 1, cells := MC, slots := MS, locals := 20 } : Room)).room = R
  have hRf : 1 ≤ R.frames := by rw [← hR]; exact Nat.le_refl _
  have hRl : 20 ≤ R.locals := by rw [← hR]; exact Nat.le_refl _
  have hRc : R.cells = MC := by rw [← hR]; rfl
  have hRs : R.slots = MS := by rw [← hR]; rfl
  have hret : ∀ (S : bS) (H : Heap) (locs : List Loc) (pc : Nat) (ls : Array Slot) (cu su : Nat) , post S → wd D y z S A H → va_S A s.heap H locs → cu ≤ MC → su ≤ MS → decode cX6_init pc = .ok (.return_, 1) → W p l e R s m (([Value.ref this] : List Value).toArray) below meth c H locs cu su Q (F0 m pc ls []) := by
    intro S H locs pc ls cu su h hw hS hcu hsu d0
    rw [hQ]; refine W.widen hcu hsu ?_; exact W.vret hx hb hr (fun t ht hW => ⟨⟨S, rfl, h, by show wd D y z S A t.heap; rw [ht]; exact hw⟩, hS.F ht⟩) hS.2.2 d0 hlocks
  unfold wp_X6_init at h
  have hcu : 0 + MC ≤ MC := by omega
  have hsu : 0 + MS ≤ MS := by omega
  refine lv_aload_n hx hb dX6_init_0 rfl (lv_at hl 0 rfl) ?_
  refine W.objInit hx hb hown (hts (.methodLink RX6 3 objectInit) (by decide +kernel)) (hts (.instanceMethod objectInit) (by decide +kernel)) (hts (.code objectInit ⟨#[0xb1]⟩ 1 none) (by decide +kernel)) rfl (by rw [hml]; exact hl.1) rfl dX6_init_1 (Nat.le_trans (Nat.le_of_ble_eq_true rfl) hRf) (Nat.le_trans (Nat.le_of_ble_eq_true rfl) hRl) ?_
  refine W.eq (g2 := F0 m 4 ls []) rfl ?_
  refine lv_aload_n hx hb dX6_init_4 rfl (lv_at hl 0 rfl) ?_
  refine lv_bipush (v := (126 : Int32)) hx hb dX6_init_5 (by decide) ?_
  obtain ⟨hn0, hn1, hbg1, hbg2, h⟩ := h
  refine r_newa9 hx hb (hts (.arrayClass .int) (by decide +kernel)) hK hw hS hAn hAz hn0 rfl hn1 (by omega) (by omega) dX6_init_7 (fun q1 H hq2 hw hS => ?_)
  have h := h q1 hq2
  have hk3 : gK (sNew S q1 9 (Int32.toNatClampNeg (126 : Int32))) q1 = 9 := if_pos rfl
  have hcu : (0 + 1) + (MC - 1) ≤ MC := by omega
  have hsu : (0 + (Int32.toNatClampNeg (126 : Int32))) + (MS - (Int32.toNatClampNeg (126 : Int32))) ≤ MS := by omega
  obtain ⟨hk4, h⟩ := h
  refine r_putQF (κ := 8) (ci := 7) (C := RX6) (T := TX6) (N := 17) (ty := (tyX6 9)) (x := (some q1)) hx hb hts hiX6 tyX6 tyX6_ok nmX6 hown hK hw hS (ce_8 (S := (sNew S q1 9 (Int32.toNatClampNeg (126 : Int32)))) hk4) rfl 9 (by decide) (hts (.fieldLink RX6 9 "TubePostModel" "stationTable" "[I") (by decide +kernel)) (fun _ h9 => h9) rfl hin rfl (by decide +kernel) rfl rfl (Nat.le_of_ble_eq_true rfl) (pu_8_9 (S := (sNew S q1 9 (Int32.toNatClampNeg (126 : Int32)))) hk4) dX6_init_9 (fun H locs hw hS => ?_)
  refine lv_aload_n hx hb dX6_init_12 rfl (lv_at hl 0 rfl) ?_
  refine lv_sipush (v := (240 : Int32)) hx hb dX6_init_13 (by decide) ?_
  obtain ⟨hn0, hn1, hbg1, hbg2, h⟩ := h
  refine r_newa9 hx hb (hts (.arrayClass .int) (by decide +kernel)) hK hw hS hAn hAz hn0 rfl hn1 (by omega) (by omega) dX6_init_16 (fun q5 H hq6 hw hS => ?_)
  have h := h q5 hq6
  have hk7 : gK (sNew (sQ (sNew S q1 9 (Int32.toNatClampNeg (126 : Int32))) 8 this 9 (some q1)) q5 9 (Int32.toNatClampNeg (240 : Int32))) q1 = 9 := b_old hk3 hq6 (by decide)
  have hk8 : gK (sNew (sQ (sNew S q1 9 (Int32.toNatClampNeg (126 : Int32))) 8 this 9 (some q1)) q5 9 (Int32.toNatClampNeg (240 : Int32))) this = 8 := b_old hk4 hq6 (by decide)
  have hk9 : gK (sNew (sQ (sNew S q1 9 (Int32.toNatClampNeg (126 : Int32))) 8 this 9 (some q1)) q5 9 (Int32.toNatClampNeg (240 : Int32))) q5 = 9 := if_pos rfl
  have hcu : ((0 + 1) + 1) + ((MC - 1) - 1) ≤ MC := by omega
  have hsu : ((0 + (Int32.toNatClampNeg (126 : Int32))) + (Int32.toNatClampNeg (240 : Int32))) + ((MS - (Int32.toNatClampNeg (126 : Int32))) - (Int32.toNatClampNeg (240 : Int32))) ≤ MS := by omega
  refine r_putQF (κ := 8) (ci := 7) (C := RX6) (T := TX6) (N := 17) (ty := (tyX6 10)) (x := (some q5)) hx hb hts hiX6 tyX6 tyX6_ok nmX6 hown hK hw hS (ce_8 (S := (sNew (sQ (sNew S q1 9 (Int32.toNatClampNeg (126 : Int32))) 8 this 9 (some q1)) q5 9 (Int32.toNatClampNeg (240 : Int32)))) hk8) rfl 10 (by decide) (hts (.fieldLink RX6 13 "TubePostModel" "tubeTable" "[I") (by decide +kernel)) (fun _ h9 => h9) rfl hin rfl (by decide +kernel) rfl rfl (Nat.le_of_ble_eq_true rfl) (pu_8_10 (S := (sNew (sQ (sNew S q1 9 (Int32.toNatClampNeg (126 : Int32))) 8 this 9 (some q1)) q5 9 (Int32.toNatClampNeg (240 : Int32)))) hk8) dX6_init_18 (fun H locs hw hS => ?_)
  refine lv_aload_n hx hb dX6_init_21 rfl (lv_at hl 0 rfl) ?_
  refine lv_bipush (v := (60 : Int32)) hx hb dX6_init_22 (by decide) ?_
  obtain ⟨hn0, hn1, hbg1, hbg2, h⟩ := h
  refine r_newa9 hx hb (hts (.arrayClass .int) (by decide +kernel)) hK hw hS hAn hAz hn0 rfl hn1 (by omega) (by omega) dX6_init_24 (fun q10 H hq11 hw hS => ?_)
  have h := h q10 hq11
  have hk12 : gK (sNew (sQ (sNew (sQ (sNew S q1 9 (Int32.toNatClampNeg (126 : Int32))) 8 this 9 (some q1)) q5 9 (Int32.toNatClampNeg (240 : Int32))) 8 this 10 (some q5)) q10 9 (Int32.toNatClampNeg (60 : Int32))) q1 = 9 := b_old hk7 hq11 (by decide)
  have hk13 : gK (sNew (sQ (sNew (sQ (sNew S q1 9 (Int32.toNatClampNeg (126 : Int32))) 8 this 9 (some q1)) q5 9 (Int32.toNatClampNeg (240 : Int32))) 8 this 10 (some q5)) q10 9 (Int32.toNatClampNeg (60 : Int32))) this = 8 := b_old hk8 hq11 (by decide)
  have hk14 : gK (sNew (sQ (sNew (sQ (sNew S q1 9 (Int32.toNatClampNeg (126 : Int32))) 8 this 9 (some q1)) q5 9 (Int32.toNatClampNeg (240 : Int32))) 8 this 10 (some q5)) q10 9 (Int32.toNatClampNeg (60 : Int32))) q5 = 9 := b_old hk9 hq11 (by decide)
  have hk15 : gK (sNew (sQ (sNew (sQ (sNew S q1 9 (Int32.toNatClampNeg (126 : Int32))) 8 this 9 (some q1)) q5 9 (Int32.toNatClampNeg (240 : Int32))) 8 this 10 (some q5)) q10 9 (Int32.toNatClampNeg (60 : Int32))) q10 = 9 := if_pos rfl
  have hcu : (((0 + 1) + 1) + 1) + (((MC - 1) - 1) - 1) ≤ MC := by omega
  have hsu : (((0 + (Int32.toNatClampNeg (126 : Int32))) + (Int32.toNatClampNeg (240 : Int32))) + (Int32.toNatClampNeg (60 : Int32))) + (((MS - (Int32.toNatClampNeg (126 : Int32))) - (Int32.toNatClampNeg (240 : Int32))) - (Int32.toNatClampNeg (60 : Int32))) ≤ MS := by omega
  refine r_putQF (κ := 8) (ci := 7) (C := RX6) (T := TX6) (N := 17) (ty := (tyX6 11)) (x := (some q10)) hx hb hts hiX6 tyX6 tyX6_ok nmX6 hown hK hw hS (ce_8 (S := (sNew (sQ (sNew (sQ (sNew S q1 9 (Int32.toNatClampNeg (126 : Int32))) 8 this 9 (some q1)) q5 9 (Int32.toNatClampNeg (240 : Int32))) 8 this 10 (some q5)) q10 9 (Int32.toNatClampNeg (60 : Int32)))) hk13) rfl 11 (by decide) (hts (.fieldLink RX6 16 "TubePostModel" "entryTable" "[I") (by decide +kernel)) (fun _ h9 => h9) rfl hin rfl (by decide +kernel) rfl rfl (Nat.le_of_ble_eq_true rfl) (pu_8_11 (S := (sNew (sQ (sNew (sQ (sNew S q1 9 (Int32.toNatClampNeg (126 : Int32))) 8 this 9 (some q1)) q5 9 (Int32.toNatClampNeg (240 : Int32))) 8 this 10 (some q5)) q10 9 (Int32.toNatClampNeg (60 : Int32)))) hk13) dX6_init_26 (fun H locs hw hS => ?_)
  refine lv_aload_n hx hb dX6_init_29 rfl (lv_at hl 0 rfl) ?_
  refine lv_sipush (v := (4500 : Int32)) hx hb dX6_init_30 (by decide) ?_
  obtain ⟨hn0, hn1, hbg1, hbg2, h⟩ := h
  refine r_newa9 hx hb (hts (.arrayClass .int) (by decide +kernel)) hK hw hS hAn hAz hn0 rfl hn1 (by omega) (by omega) dX6_init_33 (fun q16 H hq17 hw hS => ?_)
  have h := h q16 hq17
  have hk18 : gK (sNew (sQ (sNew (sQ (sNew (sQ (sNew S q1 9 (Int32.toNatClampNeg (126 : Int32))) 8 this 9 (some q1)) q5 9 (Int32.toNatClampNeg (240 : Int32))) 8 this 10 (some q5)) q10 9 (Int32.toNatClampNeg (60 : Int32))) 8 this 11 (some q10)) q16 9 (Int32.toNatClampNeg (4500 : Int32))) q1 = 9 := b_old hk12 hq17 (by decide)
  have hk19 : gK (sNew (sQ (sNew (sQ (sNew (sQ (sNew S q1 9 (Int32.toNatClampNeg (126 : Int32))) 8 this 9 (some q1)) q5 9 (Int32.toNatClampNeg (240 : Int32))) 8 this 10 (some q5)) q10 9 (Int32.toNatClampNeg (60 : Int32))) 8 this 11 (some q10)) q16 9 (Int32.toNatClampNeg (4500 : Int32))) this = 8 := b_old hk13 hq17 (by decide)
  have hk20 : gK (sNew (sQ (sNew (sQ (sNew (sQ (sNew S q1 9 (Int32.toNatClampNeg (126 : Int32))) 8 this 9 (some q1)) q5 9 (Int32.toNatClampNeg (240 : Int32))) 8 this 10 (some q5)) q10 9 (Int32.toNatClampNeg (60 : Int32))) 8 this 11 (some q10)) q16 9 (Int32.toNatClampNeg (4500 : Int32))) q5 = 9 := b_old hk14 hq17 (by decide)
  have hk21 : gK (sNew (sQ (sNew (sQ (sNew (sQ (sNew S q1 9 (Int32.toNatClampNeg (126 : Int32))) 8 this 9 (some q1)) q5 9 (Int32.toNatClampNeg (240 : Int32))) 8 this 10 (some q5)) q10 9 (Int32.toNatClampNeg (60 : Int32))) 8 this 11 (some q10)) q16 9 (Int32.toNatClampNeg (4500 : Int32))) q10 = 9 := b_old hk15 hq17 (by decide)
  have hk22 : gK (sNew (sQ (sNew (sQ (sNew (sQ (sNew S q1 9 (Int32.toNatClampNeg (126 : Int32))) 8 this 9 (some q1)) q5 9 (Int32.toNatClampNeg (240 : Int32))) 8 this 10 (some q5)) q10 9 (Int32.toNatClampNeg (60 : Int32))) 8 this 11 (some q10)) q16 9 (Int32.toNatClampNeg (4500 : Int32))) q16 = 9 := if_pos rfl
  have hcu : ((((0 + 1) + 1) + 1) + 1) + ((((MC - 1) - 1) - 1) - 1) ≤ MC := by omega
  have hsu : ((((0 + (Int32.toNatClampNeg (126 : Int32))) + (Int32.toNatClampNeg (240 : Int32))) + (Int32.toNatClampNeg (60 : Int32))) + (Int32.toNatClampNeg (4500 : Int32))) + ((((MS - (Int32.toNatClampNeg (126 : Int32))) - (Int32.toNatClampNeg (240 : Int32))) - (Int32.toNatClampNeg (60 : Int32))) - (Int32.toNatClampNeg (4500 : Int32))) ≤ MS := by omega
  refine r_putQF (κ := 8) (ci := 7) (C := RX6) (T := TX6) (N := 17) (ty := (tyX6 12)) (x := (some q16)) hx hb hts hiX6 tyX6 tyX6_ok nmX6 hown hK hw hS (ce_8 (S := (sNew (sQ (sNew (sQ (sNew (sQ (sNew S q1 9 (Int32.toNatClampNeg (126 : Int32))) 8 this 9 (some q1)) q5 9 (Int32.toNatClampNeg (240 : Int32))) 8 this 10 (some q5)) q10 9 (Int32.toNatClampNeg (60 : Int32))) 8 this 11 (some q10)) q16 9 (Int32.toNatClampNeg (4500 : Int32)))) hk19) rfl 12 (by decide) (hts (.fieldLink RX6 19 "TubePostModel" "carriers" "[I") (by decide +kernel)) (fun _ h9 => h9) rfl hin rfl (by decide +kernel) rfl rfl (Nat.le_of_ble_eq_true rfl) (pu_8_12 (S := (sNew (sQ (sNew (sQ (sNew (sQ (sNew S q1 9 (Int32.toNatClampNeg (126 : Int32))) 8 this 9 (some q1)) q5 9 (Int32.toNatClampNeg (240 : Int32))) 8 this 10 (some q5)) q10 9 (Int32.toNatClampNeg (60 : Int32))) 8 this 11 (some q10)) q16 9 (Int32.toNatClampNeg (4500 : Int32)))) hk19) dX6_init_35 (fun H locs hw hS => ?_)
  refine lv_aload_n hx hb dX6_init_38 rfl (lv_at hl 0 rfl) ?_
  refine lv_bipush (v := (40 : Int32)) hx hb dX6_init_39 (by decide) ?_
  obtain ⟨hn0, hn1, hbg1, hbg2, h⟩ := h
  refine r_newa9 hx hb (hts (.arrayClass .int) (by decide +kernel)) hK hw hS hAn hAz hn0 rfl hn1 (by omega) (by omega) dX6_init_41 (fun q23 H hq24 hw hS => ?_)
  have h := h q23 hq24
  have hk25 : gK (sNew (sQ (sNew (sQ (sNew (sQ (sNew (sQ (sNew S q1 9 (Int32.toNatClampNeg (126 : Int32))) 8 this 9 (some q1)) q5 9 (Int32.toNatClampNeg (240 : Int32))) 8 this 10 (some q5)) q10 9 (Int32.toNatClampNeg (60 : Int32))) 8 this 11 (some q10)) q16 9 (Int32.toNatClampNeg (4500 : Int32))) 8 this 12 (some q16)) q23 9 (Int32.toNatClampNeg (40 : Int32))) q1 = 9 := b_old hk18 hq24 (by decide)
  have hk26 : gK (sNew (sQ (sNew (sQ (sNew (sQ (sNew (sQ (sNew S q1 9 (Int32.toNatClampNeg (126 : Int32))) 8 this 9 (some q1)) q5 9 (Int32.toNatClampNeg (240 : Int32))) 8 this 10 (some q5)) q10 9 (Int32.toNatClampNeg (60 : Int32))) 8 this 11 (some q10)) q16 9 (Int32.toNatClampNeg (4500 : Int32))) 8 this 12 (some q16)) q23 9 (Int32.toNatClampNeg (40 : Int32))) this = 8 := b_old hk19 hq24 (by decide)
  have hk27 : gK (sNew (sQ (sNew (sQ (sNew (sQ (sNew (sQ (sNew S q1 9 (Int32.toNatClampNeg (126 : Int32))) 8 this 9 (some q1)) q5 9 (Int32.toNatClampNeg (240 : Int32))) 8 this 10 (some q5)) q10 9 (Int32.toNatClampNeg (60 : Int32))) 8 this 11 (some q10)) q16 9 (Int32.toNatClampNeg (4500 : Int32))) 8 this 12 (some q16)) q23 9 (Int32.toNatClampNeg (40 : Int32))) q5 = 9 := b_old hk20 hq24 (by decide)
  have hk28 : gK (sNew (sQ (sNew (sQ (sNew (sQ (sNew (sQ (sNew S q1 9 (Int32.toNatClampNeg (126 : Int32))) 8 this 9 (some q1)) q5 9 (Int32.toNatClampNeg (240 : Int32))) 8 this 10 (some q5)) q10 9 (Int32.toNatClampNeg (60 : Int32))) 8 this 11 (some q10)) q16 9 (Int32.toNatClampNeg (4500 : Int32))) 8 this 12 (some q16)) q23 9 (Int32.toNatClampNeg (40 : Int32))) q10 = 9 := b_old hk21 hq24 (by decide)
  have hk29 : gK (sNew (sQ (sNew (sQ (sNew (sQ (sNew (sQ (sNew S q1 9 (Int32.toNatClampNeg (126 : Int32))) 8 this 9 (some q1)) q5 9 (Int32.toNatClampNeg (240 : Int32))) 8 this 10 (some q5)) q10 9 (Int32.toNatClampNeg (60 : Int32))) 8 this 11 (some q10)) q16 9 (Int32.toNatClampNeg (4500 : Int32))) 8 this 12 (some q16)) q23 9 (Int32.toNatClampNeg (40 : Int32))) q16 = 9 := b_old hk22 hq24 (by decide)
  have hk30 : gK (sNew (sQ (sNew (sQ (sNew (sQ (sNew (sQ (sNew S q1 9 (Int32.toNatClampNeg (126 : Int32))) 8 this 9 (some q1)) q5 9 (Int32.toNatClampNeg (240 : Int32))) 8 this 10 (some q5)) q10 9 (Int32.toNatClampNeg (60 : Int32))) 8 this 11 (some q10)) q16 9 (Int32.toNatClampNeg (4500 : Int32))) 8 this 12 (some q16)) q23 9 (Int32.toNatClampNeg (40 : Int32))) q23 = 9 := if_pos rfl
  have hcu : (((((0 + 1) + 1) + 1) + 1) + 1) + (((((MC - 1) - 1) - 1) - 1) - 1) ≤ MC := by omega
  have hsu : (((((0 + (Int32.toNatClampNeg (126 : Int32))) + (Int32.toNatClampNeg (240 : Int32))) + (Int32.toNatClampNeg (60 : Int32))) + (Int32.toNatClampNeg (4500 : Int32))) + (Int32.toNatClampNeg (40 : Int32))) + (((((MS - (Int32.toNatClampNeg (126 : Int32))) - (Int32.toNatClampNeg (240 : Int32))) - (Int32.toNatClampNeg (60 : Int32))) - (Int32.toNatClampNeg (4500 : Int32))) - (Int32.toNatClampNeg (40 : Int32))) ≤ MS := by omega
  refine r_putQF (κ := 8) (ci := 7) (C := RX6) (T := TX6) (N := 17) (ty := (tyX6 13)) (x := (some q23)) hx hb hts hiX6 tyX6 tyX6_ok nmX6 hown hK hw hS (ce_8 (S := (sNew (sQ (sNew (sQ (sNew (sQ (sNew (sQ (sNew S q1 9 (Int32.toNatClampNeg (126 : Int32))) 8 this 9 (some q1)) q5 9 (Int32.toNatClampNeg (240 : Int32))) 8 this 10 (some q5)) q10 9 (Int32.toNatClampNeg (60 : Int32))) 8 this 11 (some q10)) q16 9 (Int32.toNatClampNeg (4500 : Int32))) 8 this 12 (some q16)) q23 9 (Int32.toNatClampNeg (40 : Int32)))) hk26) rfl 13 (by decide) (hts (.fieldLink RX6 22 "TubePostModel" "active" "[I") (by decide +kernel)) (fun _ h9 => h9) rfl hin rfl (by decide +kernel) rfl rfl (Nat.le_of_ble_eq_true rfl) (pu_8_13 (S := (sNew (sQ (sNew (sQ (sNew (sQ (sNew (sQ (sNew S q1 9 (Int32.toNatClampNeg (126 : Int32))) 8 this 9 (some q1)) q5 9 (Int32.toNatClampNeg (240 : Int32))) 8 this 10 (some q5)) q10 9 (Int32.toNatClampNeg (60 : Int32))) 8 this 11 (some q10)) q16 9 (Int32.toNatClampNeg (4500 : Int32))) 8 this 12 (some q16)) q23 9 (Int32.toNatClampNeg (40 : Int32)))) hk26) dX6_init_43 (fun H locs hw hS => ?_)
  refine lv_aload_n hx hb dX6_init_46 rfl (lv_at hl 0 rfl) ?_
  refine lv_bipush (v := (14 : Int32)) hx hb dX6_init_47 (by decide) ?_
  obtain ⟨hn0, hn1, hbg1, hbg2, h⟩ := h
  refine r_newa9 hx hb (hts (.arrayClass .int) (by decide +kernel)) hK hw hS hAn hAz hn0 rfl hn1 (by omega) (by omega) dX6_init_49 (fun q31 H hq32 hw hS => ?_)
  have h := h q31 hq32
  have hk33 : gK (sNew (sQ (sNew (sQ (sNew (sQ (sNew (sQ (sNew (sQ (sNew S q1 9 (Int32.toNatClampNeg (126 : Int32))) 8 this 9 (some q1)) q5 9 (Int32.toNatClampNeg (240 : Int32))) 8 this 10 (some q5)) q10 9 (Int32.toNatClampNeg (60 : Int32))) 8 this 11 (some q10)) q16 9 (Int32.toNatClampNeg (4500 : Int32))) 8 this 12 (some q16)) q23 9 (Int32.toNatClampNeg (40 : Int32))) 8 this 13 (some q23)) q31 9 (Int32.toNatClampNeg (14 : Int32))) q1 = 9 := b_old hk25 hq32 (by decide)
  have hk34 : gK (sNew (sQ (sNew (sQ (sNew (sQ (sNew (sQ (sNew (sQ (sNew S q1 9 (Int32.toNatClampNeg (126 : Int32))) 8 this 9 (some q1)) q5 9 (Int32.toNatClampNeg (240 : Int32))) 8 this 10 (some q5)) q10 9 (Int32.toNatClampNeg (60 : Int32))) 8 this 11 (some q10)) q16 9 (Int32.toNatClampNeg (4500 : Int32))) 8 this 12 (some q16)) q23 9 (Int32.toNatClampNeg (40 : Int32))) 8 this 13 (some q23)) q31 9 (Int32.toNatClampNeg (14 : Int32))) this = 8 := b_old hk26 hq32 (by decide)
  have hk35 : gK (sNew (sQ (sNew (sQ (sNew (sQ (sNew (sQ (sNew (sQ (sNew S q1 9 (Int32.toNatClampNeg (126 : Int32))) 8 this 9 (some q1)) q5 9 (Int32.toNatClampNeg (240 : Int32))) 8 this 10 (some q5)) q10 9 (Int32.toNatClampNeg (60 : Int32))) 8 this 11 (some q10)) q16 9 (Int32.toNatClampNeg (4500 : Int32))) 8 this 12 (some q16)) q23 9 (Int32.toNatClampNeg (40 : Int32))) 8 this 13 (some q23)) q31 9 (Int32.toNatClampNeg (14 : Int32))) q5 = 9 := b_old hk27 hq32 (by decide)
  have hk36 : gK (sNew (sQ (sNew (sQ (sNew (sQ (sNew (sQ (sNew (sQ (sNew S q1 9 (Int32.toNatClampNeg (126 : Int32))) 8 this 9 (some q1)) q5 9 (Int32.toNatClampNeg (240 : Int32))) 8 this 10 (some q5)) q10 9 (Int32.toNatClampNeg (60 : Int32))) 8 this 11 (some q10)) q16 9 (Int32.toNatClampNeg (4500 : Int32))) 8 this 12 (some q16)) q23 9 (Int32.toNatClampNeg (40 : Int32))) 8 this 13 (some q23)) q31 9 (Int32.toNatClampNeg (14 : Int32))) q10 = 9 := b_old hk28 hq32 (by decide)
  have hk37 : gK (sNew (sQ (sNew (sQ (sNew (sQ (sNew (sQ (sNew (sQ (sNew S q1 9 (Int32.toNatClampNeg (126 : Int32))) 8 this 9 (some q1)) q5 9 (Int32.toNatClampNeg (240 : Int32))) 8 this 10 (some q5)) q10 9 (Int32.toNatClampNeg (60 : Int32))) 8 this 11 (some q10)) q16 9 (Int32.toNatClampNeg (4500 : Int32))) 8 this 12 (some q16)) q23 9 (Int32.toNatClampNeg (40 : Int32))) 8 this 13 (some q23)) q31 9 (Int32.toNatClampNeg (14 : Int32))) q16 = 9 := b_old hk29 hq32 (by decide)
  have hk38 : gK (sNew (sQ (sNew (sQ (sNew (sQ (sNew (sQ (sNew (sQ (sNew S q1 9 (Int32.toNatClampNeg (126 : Int32))) 8 this 9 (some q1)) q5 9 (Int32.toNatClampNeg (240 : Int32))) 8 this 10 (some q5)) q10 9 (Int32.toNatClampNeg (60 : Int32))) 8 this 11 (some q10)) q16 9 (Int32.toNatClampNeg (4500 : Int32))) 8 this 12 (some q16)) q23 9 (Int32.toNatClampNeg (40 : Int32))) 8 this 13 (some q23)) q31 9 (Int32.toNatClampNeg (14 : Int32))) q23 = 9 := b_old hk30 hq32 (by decide)
  have hk39 : gK (sNew (sQ (sNew (sQ (sNew (sQ (sNew (sQ (sNew (sQ (sNew S q1 9 (Int32.toNatClampNeg (126 : Int32))) 8 this 9 (some q1)) q5 9 (Int32.toNatClampNeg (240 : Int32))) 8 this 10 (some q5)) q10 9 (Int32.toNatClampNeg (60 : Int32))) 8 this 11 (some q10)) q16 9 (Int32.toNatClampNeg (4500 : Int32))) 8 this 12 (some q16)) q23 9 (Int32.toNatClampNeg (40 : Int32))) 8 this 13 (some q23)) q31 9 (Int32.toNatClampNeg (14 : Int32))) q31 = 9 := if_pos rfl
  have hcu : ((((((0 + 1) + 1) + 1) + 1) + 1) + 1) + ((((((MC - 1) - 1) - 1) - 1) - 1) - 1) ≤ MC := by omega
  have hsu : ((((((0 + (Int32.toNatClampNeg (126 : Int32))) + (Int32.toNatClampNeg (240 : Int32))) + (Int32.toNatClampNeg (60 : Int32))) + (Int32.toNatClampNeg (4500 : Int32))) + (Int32.toNatClampNeg (40 : Int32))) + (Int32.toNatClampNeg (14 : Int32))) + ((((((MS - (Int32.toNatClampNeg (126 : Int32))) - (Int32.toNatClampNeg (240 : Int32))) - (Int32.toNatClampNeg (60 : Int32))) - (Int32.toNatClampNeg (4500 : Int32))) - (Int32.toNatClampNeg (40 : Int32))) - (Int32.toNatClampNeg (14 : Int32))) ≤ MS := by omega
  refine r_putQF (κ := 8) (ci := 7) (C := RX6) (T := TX6) (N := 17) (ty := (tyX6 15)) (x := (some q31)) hx hb hts hiX6 tyX6 tyX6_ok nmX6 hown hK hw hS (ce_8 (S := (sNew (sQ (sNew (sQ (sNew (sQ (sNew (sQ (sNew (sQ (sNew S q1 9 (Int32.toNatClampNeg (126 : Int32))) 8 this 9 (some q1)) q5 9 (Int32.toNatClampNeg (240 : Int32))) 8 this 10 (some q5)) q10 9 (Int32.toNatClampNeg (60 : Int32))) 8 this 11 (some q10)) q16 9 (Int32.toNatClampNeg (4500 : Int32))) 8 this 12 (some q16)) q23 9 (Int32.toNatClampNeg (40 : Int32))) 8 this 13 (some q23)) q31 9 (Int32.toNatClampNeg (14 : Int32)))) hk34) rfl 15 (by decide) (hts (.fieldLink RX6 25 "TubePostModel" "times" "[I") (by decide +kernel)) (fun _ h9 => h9) rfl hin rfl (by decide +kernel) rfl rfl (Nat.le_of_ble_eq_true rfl) (pu_8_15 (S := (sNew (sQ (sNew (sQ (sNew (sQ (sNew (sQ (sNew (sQ (sNew S q1 9 (Int32.toNatClampNeg (126 : Int32))) 8 this 9 (some q1)) q5 9 (Int32.toNatClampNeg (240 : Int32))) 8 this 10 (some q5)) q10 9 (Int32.toNatClampNeg (60 : Int32))) 8 this 11 (some q10)) q16 9 (Int32.toNatClampNeg (4500 : Int32))) 8 this 12 (some q16)) q23 9 (Int32.toNatClampNeg (40 : Int32))) 8 this 13 (some q23)) q31 9 (Int32.toNatClampNeg (14 : Int32)))) hk34) dX6_init_51 (fun H locs hw hS => ?_)
  refine lv_aload_n hx hb dX6_init_54 rfl (lv_at hl 0 rfl) ?_
  refine lv_bipush (v := (40 : Int32)) hx hb dX6_init_55 (by decide) ?_
  obtain ⟨hn0, hn1, hbg1, hbg2, h⟩ := h
  refine r_newa9 hx hb (hts (.arrayClass .int) (by decide +kernel)) hK hw hS hAn hAz hn0 rfl hn1 (by omega) (by omega) dX6_init_57 (fun q40 H hq41 hw hS => ?_)
  have h := h q40 hq41
  have hk42 : gK (sNew (sQ (sNew (sQ (sNew (sQ (sNew (sQ (sNew (sQ (sNew (sQ (sNew S q1 9 (Int32.toNatClampNeg (126 : Int32))) 8 this 9 (some q1)) q5 9 (Int32.toNatClampNeg (240 : Int32))) 8 this 10 (some q5)) q10 9 (Int32.toNatClampNeg (60 : Int32))) 8 this 11 (some q10)) q16 9 (Int32.toNatClampNeg (4500 : Int32))) 8 this 12 (some q16)) q23 9 (Int32.toNatClampNeg (40 : Int32))) 8 this 13 (some q23)) q31 9 (Int32.toNatClampNeg (14 : Int32))) 8 this 15 (some q31)) q40 9 (Int32.toNatClampNeg (40 : Int32))) q1 = 9 := b_old hk33 hq41 (by decide)
  have hk43 : gK (sNew (sQ (sNew (sQ (sNew (sQ (sNew (sQ (sNew (sQ (sNew (sQ (sNew S q1 9 (Int32.toNatClampNeg (126 : Int32))) 8 this 9 (some q1)) q5 9 (Int32.toNatClampNeg (240 : Int32))) 8 this 10 (some q5)) q10 9 (Int32.toNatClampNeg (60 : Int32))) 8 this 11 (some q10)) q16 9 (Int32.toNatClampNeg (4500 : Int32))) 8 this 12 (some q16)) q23 9 (Int32.toNatClampNeg (40 : Int32))) 8 this 13 (some q23)) q31 9 (Int32.toNatClampNeg (14 : Int32))) 8 this 15 (some q31)) q40 9 (Int32.toNatClampNeg (40 : Int32))) this = 8 := b_old hk34 hq41 (by decide)
  have hk44 : gK (sNew (sQ (sNew (sQ (sNew (sQ (sNew (sQ (sNew (sQ (sNew (sQ (sNew S q1 9 (Int32.toNatClampNeg (126 : Int32))) 8 this 9 (some q1)) q5 9 (Int32.toNatClampNeg (240 : Int32))) 8 this 10 (some q5)) q10 9 (Int32.toNatClampNeg (60 : Int32))) 8 this 11 (some q10)) q16 9 (Int32.toNatClampNeg (4500 : Int32))) 8 this 12 (some q16)) q23 9 (Int32.toNatClampNeg (40 : Int32))) 8 this 13 (some q23)) q31 9 (Int32.toNatClampNeg (14 : Int32))) 8 this 15 (some q31)) q40 9 (Int32.toNatClampNeg (40 : Int32))) q5 = 9 := b_old hk35 hq41 (by decide)
  have hk45 : gK (sNew (sQ (sNew (sQ (sNew (sQ (sNew (sQ (sNew (sQ (sNew (sQ (sNew S q1 9 (Int32.toNatClampNeg (126 : Int32))) 8 this 9 (some q1)) q5 9 (Int32.toNatClampNeg (240 : Int32))) 8 this 10 (some q5)) q10 9 (Int32.toNatClampNeg (60 : Int32))) 8 this 11 (some q10)) q16 9 (Int32.toNatClampNeg (4500 : Int32))) 8 this 12 (some q16)) q23 9 (Int32.toNatClampNeg (40 : Int32))) 8 this 13 (some q23)) q31 9 (Int32.toNatClampNeg (14 : Int32))) 8 this 15 (some q31)) q40 9 (Int32.toNatClampNeg (40 : Int32))) q10 = 9 := b_old hk36 hq41 (by decide)
  have hk46 : gK (sNew (sQ (sNew (sQ (sNew (sQ (sNew (sQ (sNew (sQ (sNew (sQ (sNew S q1 9 (Int32.toNatClampNeg (126 : Int32))) 8 this 9 (some q1)) q5 9 (Int32.toNatClampNeg (240 : Int32))) 8 this 10 (some q5)) q10 9 (Int32.toNatClampNeg (60 : Int32))) 8 this 11 (some q10)) q16 9 (Int32.toNatClampNeg (4500 : Int32))) 8 this 12 (some q16)) q23 9 (Int32.toNatClampNeg (40 : Int32))) 8 this 13 (some q23)) q31 9 (Int32.toNatClampNeg (14 : Int32))) 8 this 15 (some q31)) q40 9 (Int32.toNatClampNeg (40 : Int32))) q16 = 9 := b_old hk37 hq41 (by decide)
  have hk47 : gK (sNew (sQ (sNew (sQ (sNew (sQ (sNew (sQ (sNew (sQ (sNew (sQ (sNew S q1 9 (Int32.toNatClampNeg (126 : Int32))) 8 this 9 (some q1)) q5 9 (Int32.toNatClampNeg (240 : Int32))) 8 this 10 (some q5)) q10 9 (Int32.toNatClampNeg (60 : Int32))) 8 this 11 (some q10)) q16 9 (Int32.toNatClampNeg (4500 : Int32))) 8 this 12 (some q16)) q23 9 (Int32.toNatClampNeg (40 : Int32))) 8 this 13 (some q23)) q31 9 (Int32.toNatClampNeg (14 : Int32))) 8 this 15 (some q31)) q40 9 (Int32.toNatClampNeg (40 : Int32))) q23 = 9 := b_old hk38 hq41 (by decide)
  have hk48 : gK (sNew (sQ (sNew (sQ (sNew (sQ (sNew (sQ (sNew (sQ (sNew (sQ (sNew S q1 9 (Int32.toNatClampNeg (126 : Int32))) 8 this 9 (some q1)) q5 9 (Int32.toNatClampNeg (240 : Int32))) 8 this 10 (some q5)) q10 9 (Int32.toNatClampNeg (60 : Int32))) 8 this 11 (some q10)) q16 9 (Int32.toNatClampNeg (4500 : Int32))) 8 this 12 (some q16)) q23 9 (Int32.toNatClampNeg (40 : Int32))) 8 this 13 (some q23)) q31 9 (Int32.toNatClampNeg (14 : Int32))) 8 this 15 (some q31)) q40 9 (Int32.toNatClampNeg (40 : Int32))) q31 = 9 := b_old hk39 hq41 (by decide)
  have hk49 : gK (sNew (sQ (sNew (sQ (sNew (sQ (sNew (sQ (sNew (sQ (sNew (sQ (sNew S q1 9 (Int32.toNatClampNeg (126 : Int32))) 8 this 9 (some q1)) q5 9 (Int32.toNatClampNeg (240 : Int32))) 8 this 10 (some q5)) q10 9 (Int32.toNatClampNeg (60 : Int32))) 8 this 11 (some q10)) q16 9 (Int32.toNatClampNeg (4500 : Int32))) 8 this 12 (some q16)) q23 9 (Int32.toNatClampNeg (40 : Int32))) 8 this 13 (some q23)) q31 9 (Int32.toNatClampNeg (14 : Int32))) 8 this 15 (some q31)) q40 9 (Int32.toNatClampNeg (40 : Int32))) q40 = 9 := if_pos rfl
  have hcu : (((((((0 + 1) + 1) + 1) + 1) + 1) + 1) + 1) + (((((((MC - 1) - 1) - 1) - 1) - 1) - 1) - 1) ≤ MC := by omega
  have hsu : (((((((0 + (Int32.toNatClampNeg (126 : Int32))) + (Int32.toNatClampNeg (240 : Int32))) + (Int32.toNatClampNeg (60 : Int32))) + (Int32.toNatClampNeg (4500 : Int32))) + (Int32.toNatClampNeg (40 : Int32))) + (Int32.toNatClampNeg (14 : Int32))) + (Int32.toNatClampNeg (40 : Int32))) + (((((((MS - (Int32.toNatClampNeg (126 : Int32))) - (Int32.toNatClampNeg (240 : Int32))) - (Int32.toNatClampNeg (60 : Int32))) - (Int32.toNatClampNeg (4500 : Int32))) - (Int32.toNatClampNeg (40 : Int32))) - (Int32.toNatClampNeg (14 : Int32))) - (Int32.toNatClampNeg (40 : Int32))) ≤ MS := by omega
  refine r_putQF (κ := 8) (ci := 7) (C := RX6) (T := TX6) (N := 17) (ty := (tyX6 16)) (x := (some q40)) hx hb hts hiX6 tyX6 tyX6_ok nmX6 hown hK hw hS (ce_8 (S := (sNew (sQ (sNew (sQ (sNew (sQ (sNew (sQ (sNew (sQ (sNew (sQ (sNew S q1 9 (Int32.toNatClampNeg (126 : Int32))) 8 this 9 (some q1)) q5 9 (Int32.toNatClampNeg (240 : Int32))) 8 this 10 (some q5)) q10 9 (Int32.toNatClampNeg (60 : Int32))) 8 this 11 (some q10)) q16 9 (Int32.toNatClampNeg (4500 : Int32))) 8 this 12 (some q16)) q23 9 (Int32.toNatClampNeg (40 : Int32))) 8 this 13 (some q23)) q31 9 (Int32.toNatClampNeg (14 : Int32))) 8 this 15 (some q31)) q40 9 (Int32.toNatClampNeg (40 : Int32)))) hk43) rfl 16 (by decide) (hts (.fieldLink RX6 28 "TubePostModel" "queue" "[I") (by decide +kernel)) (fun _ h9 => h9) rfl hin rfl (by decide +kernel) rfl rfl (Nat.le_of_ble_eq_true rfl) (pu_8_16 (S := (sNew (sQ (sNew (sQ (sNew (sQ (sNew (sQ (sNew (sQ (sNew (sQ (sNew S q1 9 (Int32.toNatClampNeg (126 : Int32))) 8 this 9 (some q1)) q5 9 (Int32.toNatClampNeg (240 : Int32))) 8 this 10 (some q5)) q10 9 (Int32.toNatClampNeg (60 : Int32))) 8 this 11 (some q10)) q16 9 (Int32.toNatClampNeg (4500 : Int32))) 8 this 12 (some q16)) q23 9 (Int32.toNatClampNeg (40 : Int32))) 8 this 13 (some q23)) q31 9 (Int32.toNatClampNeg (14 : Int32))) 8 this 15 (some q31)) q40 9 (Int32.toNatClampNeg (40 : Int32)))) hk43) dX6_init_59 (fun H locs hw hS => ?_)
  exact hret _ _ _ _ _ _ _ h hw hS (by omega) (by omega) dX6_init_62
def wp_X6_thrown (post : Int32 → bS → Prop) (this : Nat) (S : bS) : Prop := gK S this = 8 ∧ (post (gV S 8 this 0) S)
set_option maxHeartbeats 4000000 in
set_option maxRecDepth 100000 in
theorem m_X6_thrown {l : Launch} {D : va_G} {y : Nat → ClassId} {z : Nat} {A : Nat → Prop} {S : bS} {post : Int32 → bS → Prop} {this : Nat} (h : wp_X6_thrown post this S) : Met l yX6_thrown wsX6_thrown ({ frames := 0, cells := 0, slots := 0, locals := 0 } : Room) (va_Pc ([Value.ref this] : List Value) (bP D y z S A)) (va_Qi post (fun S' t => wd D y z S' A t.heap) A) 0 0 A := by
  refine Met.ofW (cc := cX6_thrown) (maxL := 1) (ret := (some .int)) (by decide) rfl ?_
  intro p e s m args below meth c s₁ B hml hv
  obtain ⟨rfl, hB⟩ := hv
  have hx := B.exec
  have hb := B.bytes
  have hr := B.returns
  have hts := atoms_spec (ws := wsX6_thrown) B.pre
  have hown : s.vm.findClass RX6 = some m.cls := findClass_of_methodNamed B.named
  have hlocks := B.notSynchronized
  have hw : wd D y z S A s.heap := hB.1
  have hK : va_K D bCl (bT y) s := hB.2.1
  have hNw := hB.2.2.1
  have hAn : ∀ q : Nat, s.heap.size ≤ q → A q := hB.2.2.2.1
  have hAz : ¬ A z := hB.2.2.2.2.1
  have hO := hB.2.2.2.2.2.1
  have hS : va_S A s.heap s.heap [] := va_S.rf
  have hiX6 : ∀ w ∈ u_ws RX6 TX6 17, w ∈ wsX6_thrown := by decide +kernel
  have hl := lv_entry ([Value.ref this] : List Value) (n := 1) (Nat.le_of_ble_eq_true rfl)
  rw [lg_entry_eq]
  generalize (lg_sl ([Value.ref this] : List Value) ++ List.replicate (1 - (lg_sl ([Value.ref this] : List Value)).length) Slot.unset).toArray = ls at hl ⊢
  have hl : lv_has ls 1 [(0, .ref this)] := hl
  obtain ⟨Q, hQ⟩ : ∃ Q, Q = MQ below (va_Qi post (fun S' t => wd D y z S' A t.heap) A) (([Value.ref this] : List Value).toArray) s 0 0 A := ⟨_, rfl⟩
  rw [← hQ]
  generalize hR : (headSpec wsX6_thrown ({ frames := 0, cells := 0, slots := 0, locals := 0 } : Room)).room = R
  have hRf : 0 ≤ R.frames := by rw [← hR]; exact Nat.le_refl _
  have hRl : 0 ≤ R.locals := by rw [← hR]; exact Nat.le_refl _
  have hret : ∀ (v : Int32) (S : bS) (H : Heap) (locs : List Loc) (pc : Nat) (ls : Array Slot) , post v S → wd D y z S A H → va_S A s.heap H locs → decode cX6_thrown pc = .ok (.ireturn, 1) → W p l e R s m (([Value.ref this] : List Value).toArray) below meth c H locs 0 0 Q (F0 m pc ls [.int v]) := by
    intro v S H locs pc ls h hw hS d0
    rw [hQ]; exact W.iret hx hb hr (fun t ht hW => ⟨⟨v, S, rfl, h, by show wd D y z S A t.heap; rw [ht]; exact hw⟩, hS.F ht⟩) hS.2.2 d0 hlocks
  unfold wp_X6_thrown at h
  refine lv_aload_n hx hb dX6_thrown_0 rfl (lv_at hl 0 rfl) ?_
  obtain ⟨hk1, h⟩ := h
  refine r_get (ci := 7) (v := .int (gV S 8 this 0)) (C := RX6) (T := TX6) (N := 17) hx hb hts hiX6 hown hK hw (ce_8 (S := S) hk1) rfl 0 (by decide) (hts (.fieldLink RX6 31 "TubePostModel" "thrown" "I") (by decide +kernel)) (fun _ h9 => h9) rfl dX6_thrown_1 ?_
  exact hret (gV S 8 this 0) _ _ _ _ _ h hw hS dX6_thrown_4
def wp_X6_fail (post : Int32 → bS → Prop) (this : Nat) (p1 : Int32) (S : bS) : Prop := gK S this = 8 ∧ (post (0 : Int32) (sV S 8 this 0 p1))
set_option maxHeartbeats 4000000 in
set_option maxRecDepth 100000 in
theorem m_X6_fail {l : Launch} {D : va_G} {y : Nat → ClassId} {z : Nat} {A : Nat → Prop} {S : bS} {post : Int32 → bS → Prop} {this : Nat} {p1 : Int32} (h : wp_X6_fail post this p1 S) : Met l yX6_fail wsX6_fail ({ frames := 0, cells := 0, slots := 0, locals := 0 } : Room) (va_Pc ([Value.ref this, Value.int p1] : List Value) (bP D y z S A)) (va_Qi post (fun S' t => wd D y z S' A t.heap) A) 0 0 A := by
  refine Met.ofW (cc := cX6_fail) (maxL := 2) (ret := (some .int)) (by decide) rfl ?_
  intro p e s m args below meth c s₁ B hml hv
  obtain ⟨rfl, hB⟩ := hv
  have hx := B.exec
  have hb := B.bytes
  have hr := B.returns
  have hts := atoms_spec (ws := wsX6_fail) B.pre
  have hown : s.vm.findClass RX6 = some m.cls := findClass_of_methodNamed B.named
  have hlocks := B.notSynchronized
  have hw : wd D y z S A s.heap := hB.1
  have hK : va_K D bCl (bT y) s := hB.2.1
  have hNw := hB.2.2.1
  have hAn : ∀ q : Nat, s.heap.size ≤ q → A q := hB.2.2.2.1
  have hAz : ¬ A z := hB.2.2.2.2.1
  have hO := hB.2.2.2.2.2.1
  have hS : va_S A s.heap s.heap [] := va_S.rf
  have hiX6 : ∀ w ∈ u_ws RX6 TX6 17, w ∈ wsX6_fail := by decide +kernel
  have hl := lv_entry ([Value.ref this, Value.int p1] : List Value) (n := 2) (Nat.le_of_ble_eq_true rfl)
  rw [lg_entry_eq]
  generalize (lg_sl ([Value.ref this, Value.int p1] : List Value) ++ List.replicate (2 - (lg_sl ([Value.ref this, Value.int p1] : List Value)).length) Slot.unset).toArray = ls at hl ⊢
  have hl : lv_has ls 2 [(0, .ref this), (1, .int p1)] := hl
  obtain ⟨Q, hQ⟩ : ∃ Q, Q = MQ below (va_Qi post (fun S' t => wd D y z S' A t.heap) A) (([Value.ref this, Value.int p1] : List Value).toArray) s 0 0 A := ⟨_, rfl⟩
  rw [← hQ]
  generalize hR : (headSpec wsX6_fail ({ frames := 0, cells := 0, slots := 0, locals := 0 } : Room)).room = R
  have hRf : 0 ≤ R.frames := by rw [← hR]; exact Nat.le_refl _
  have hRl : 0 ≤ R.locals := by rw [← hR]; exact Nat.le_refl _
  have hret : ∀ (v : Int32) (S : bS) (H : Heap) (locs : List Loc) (pc : Nat) (ls : Array Slot) , post v S → wd D y z S A H → va_S A s.heap H locs → decode cX6_fail pc = .ok (.ireturn, 1) → W p l e R s m (([Value.ref this, Value.int p1] : List Value).toArray) below meth c H locs 0 0 Q (F0 m pc ls [.int v]) := by
    intro v S H locs pc ls h hw hS d0
    rw [hQ]; exact W.iret hx hb hr (fun t ht hW => ⟨⟨v, S, rfl, h, by show wd D y z S A t.heap; rw [ht]; exact hw⟩, hS.F ht⟩) hS.2.2 d0 hlocks
  unfold wp_X6_fail at h
  refine lv_aload_n hx hb dX6_fail_0 rfl (lv_at hl 0 rfl) ?_
  refine lv_iload_n hx hb dX6_fail_1 rfl (lv_at hl 1 rfl) ?_
  obtain ⟨hk1, h⟩ := h
  refine r_putI (κ := 8) (ci := 7) (C := RX6) (T := TX6) (N := 17) (ty := .int) (x := p1) hx hb hts hiX6 tyX6 tyX6_ok nmX6 hown hK hw hS (ce_8 (S := S) hk1) rfl 0 (by decide) (hts (.fieldLink RX6 31 "TubePostModel" "thrown" "I") (by decide +kernel)) (fun _ h9 => h9) rfl (by decide +kernel) rfl rfl (Nat.le_of_ble_eq_true rfl) (pu_8_0 (S := S) hk1) dX6_fail_2 (fun H locs hw hS => ?_)
  refine lv_iconst (v := (0 : Int32)) hx hb dX6_fail_5 (by decide) ?_
  exact hret (0 : Int32) _ _ _ _ _ h hw hS dX6_fail_6
def wb_X6_isIn_15 (post : Int32 → bS → Prop) (s0 : Int32) (S : bS) : Prop := (s0 = 0 ∨ s0 = 1) ∧ post s0 S
def wb_X6_isIn_14 (post : Int32 → bS → Prop) (S : bS) : Prop := wb_X6_isIn_15 post (0 : Int32) S
def wp_X6_isIn (post : Int32 → bS → Prop) (p1 : Int32) (p2 : Int32) (p3 : Int32) (S : bS) : Prop := (p1 < p2 → wb_X6_isIn_14 post S) ∧ (¬ (p1 < p2) → (p3 < p1 → wb_X6_isIn_14 post S) ∧ (¬ (p3 < p1) → wb_X6_isIn_15 post (1 : Int32) S))
set_option maxHeartbeats 4000000 in
set_option maxRecDepth 100000 in
theorem m_X6_isIn {l : Launch} {D : va_G} {y : Nat → ClassId} {z : Nat} {A : Nat → Prop} {S : bS} {post : Int32 → bS → Prop} {p1 : Int32} {p2 : Int32} {p3 : Int32} (h : wp_X6_isIn post p1 p2 p3 S) : Met l yX6_isIn wsX6_isIn ({ frames := 0, cells := 0, slots := 0, locals := 0 } : Room) (va_Pc ([Value.int p1, Value.int p2, Value.int p3] : List Value) (bP D y z S A)) (va_Qi post (fun S' t => wd D y z S' A t.heap) A) 0 0 A := by
  refine Met.ofW (cc := cX6_isIn) (maxL := 3) (ret := (some .boolean)) (by decide) rfl ?_
  intro p e s m args below meth c s₁ B hml hv
  obtain ⟨rfl, hB⟩ := hv
  have hx := B.exec
  have hb := B.bytes
  have hr := B.returns
  have hts := atoms_spec (ws := wsX6_isIn) B.pre
  have hown : s.vm.findClass RX6 = some m.cls := findClass_of_methodNamed B.named
  have hlocks := B.notSynchronized
  have hw : wd D y z S A s.heap := hB.1
  have hK : va_K D bCl (bT y) s := hB.2.1
  have hNw := hB.2.2.1
  have hAn : ∀ q : Nat, s.heap.size ≤ q → A q := hB.2.2.2.1
  have hAz : ¬ A z := hB.2.2.2.2.1
  have hO := hB.2.2.2.2.2.1
  have hS : va_S A s.heap s.heap [] := va_S.rf
  have hl := lv_entry ([Value.int p1, Value.int p2, Value.int p3] : List Value) (n := 3) (Nat.le_of_ble_eq_true rfl)
  rw [lg_entry_eq]
  generalize (lg_sl ([Value.int p1, Value.int p2, Value.int p3] : List Value) ++ List.replicate (3 - (lg_sl ([Value.int p1, Value.int p2, Value.int p3] : List Value)).length) Slot.unset).toArray = ls at hl ⊢
  have hl : lv_has ls 3 [(0, .int p1), (1, .int p2), (2, .int p3)] := hl
  obtain ⟨Q, hQ⟩ : ∃ Q, Q = MQ below (va_Qi post (fun S' t => wd D y z S' A t.heap) A) (([Value.int p1, Value.int p2, Value.int p3] : List Value).toArray) s 0 0 A := ⟨_, rfl⟩
  rw [← hQ]
  generalize hR : (headSpec wsX6_isIn ({ frames := 0, cells := 0, slots := 0, locals := 0 } : Room)).room = R
  have hRf : 0 ≤ R.frames := by rw [← hR]; exact Nat.le_refl _
  have hRl : 0 ≤ R.locals := by rw [← hR]; exact Nat.le_refl _
  have hret : ∀ (v : Int32) (S : bS) (H : Heap) (locs : List Loc) (pc : Nat) (ls : Array Slot) , (v = 0 ∨ v = 1) → post v S → wd D y z S A H → va_S A s.heap H locs → decode cX6_isIn pc = .ok (.ireturn, 1) → W p l e R s m (([Value.int p1, Value.int p2, Value.int p3] : List Value).toArray) below meth c H locs 0 0 Q (F0 m pc ls [.int v]) := by
    intro v S H locs pc ls hz h hw hS d0
    rw [hQ]; exact W.zret hx hb hr (b_nz hz) (fun t ht hW => ⟨⟨v, S, rfl, h, by show wd D y z S A t.heap; rw [ht]; exact hw⟩, hS.F ht⟩) hS.2.2 d0 hlocks
  have hB15 : ∀ (S : bS) (H : Heap) (locs : List Loc) (ls : Array Slot) (s0 : Int32), wb_X6_isIn_15 post s0 S → wd D y z S A H → va_S A s.heap H locs → lv_has ls 3 [] → W p l e R s m (([Value.int p1, Value.int p2, Value.int p3] : List Value).toArray) below meth c H locs 0 0 Q (F0 m 15 ls [.int s0]) := by
    intro S H locs ls s0 h hw hS hl
    unfold wb_X6_isIn_15 at h
    obtain ⟨hz, h⟩ := h
    exact hret _ _ _ _ _ _ hz h hw hS dX6_isIn_15
  have hB14 : ∀ (S : bS) (H : Heap) (locs : List Loc) (ls : Array Slot) , wb_X6_isIn_14 post S → wd D y z S A H → va_S A s.heap H locs → lv_has ls 3 [] → W p l e R s m (([Value.int p1, Value.int p2, Value.int p3] : List Value).toArray) below meth c H locs 0 0 Q (F0 m 14 ls []) := by
    intro S H locs ls  h hw hS hl
    unfold wb_X6_isIn_14 at h
    refine lv_iconst (v := (0 : Int32)) hx hb dX6_isIn_14 (by decide) ?_
    exact hB15 _ _ _ _ _ h hw hS (lv_sub hl [] rfl)
  unfold wp_X6_isIn at h
  refine lv_iload_n hx hb dX6_isIn_0 rfl (lv_at hl 0 rfl) ?_
  refine lv_iload_n hx hb dX6_isIn_1 rfl (lv_at hl 1 rfl) ?_
  refine lv_icmp_lt (tgt := 14) hx hb dX6_isIn_2 (by decide) (fun hc => ?_) (fun hc => ?_)
  · have h := h.1 hc
    exact hB14 _ _ _ _ h hw hS (lv_sub hl [] rfl)
  · have h := h.2 hc
    refine lv_iload_n hx hb dX6_isIn_5 rfl (lv_at hl 0 rfl) ?_
    refine lv_iload_n hx hb dX6_isIn_6 rfl (lv_at hl 2 rfl) ?_
    refine lv_icmp_gt (tgt := 14) hx hb dX6_isIn_7 (by decide) (fun hc => ?_) (fun hc => ?_)
    · have h := h.1 hc
      exact hB14 _ _ _ _ h hw hS (lv_sub hl [] rfl)
    · have h := h.2 hc
      refine lv_iconst (v := (1 : Int32)) hx hb dX6_isIn_10 (by decide) ?_
      refine lv_goto (tgt := 15) hx hb dX6_isIn_11 (by decide) ?_
      exact hB15 _ _ _ _ _ h hw hS (lv_sub hl [] rfl)
def wp_X6_isStation (post : Int32 → bS → Prop) (this : Nat) (p1 : Int32) (S : bS) : Prop := gK S this = 8 ∧ (wp_X6_isIn (fun r2 S3 => (r2 = 0 ∨ r2 = 1) ∧ post r2 S3) p1 (0 : Int32) ((gV S 8 this 2) - (1 : Int32)) S)
set_option maxHeartbeats 4000000 in
set_option maxRecDepth 100000 in
theorem m_X6_isStation {l : Launch} {D : va_G} {y : Nat → ClassId} {z : Nat} {A : Nat → Prop} {S : bS} {post : Int32 → bS → Prop} {this : Nat} {p1 : Int32} (h : wp_X6_isStation post this p1 S) : Met l yX6_isStation wsX6_isStation ({ frames := 1, cells := 0, slots := 0, locals := 22 } : Room) (va_Pc ([Value.ref this, Value.int p1] : List Value) (bP D y z S A)) (va_Qi post (fun S' t => wd D y z S' A t.heap) A) 0 0 A := by
  refine Met.ofW (cc := cX6_isStation) (maxL := 2) (ret := (some .boolean)) (by decide) rfl ?_
  intro p e s m args below meth c s₁ B hml hv
  obtain ⟨rfl, hB⟩ := hv
  have hx := B.exec
  have hb := B.bytes
  have hr := B.returns
  have hts := atoms_spec (ws := wsX6_isStation) B.pre
  have hown : s.vm.findClass RX6 = some m.cls := findClass_of_methodNamed B.named
  have hlocks := B.notSynchronized
  have hw : wd D y z S A s.heap := hB.1
  have hK : va_K D bCl (bT y) s := hB.2.1
  have hNw := hB.2.2.1
  have hAn : ∀ q : Nat, s.heap.size ≤ q → A q := hB.2.2.2.1
  have hAz : ¬ A z := hB.2.2.2.2.1
  have hO := hB.2.2.2.2.2.1
  have hS : va_S A s.heap s.heap [] := va_S.rf
  have hiX6 : ∀ w ∈ u_ws RX6 TX6 17, w ∈ wsX6_isStation := by decide +kernel
  have hl := lv_entry ([Value.ref this, Value.int p1] : List Value) (n := 2) (Nat.le_of_ble_eq_true rfl)
  rw [lg_entry_eq]
  generalize (lg_sl ([Value.ref this, Value.int p1] : List Value) ++ List.replicate (2 - (lg_sl ([Value.ref this, Value.int p1] : List Value)).length) Slot.unset).toArray = ls at hl ⊢
  have hl : lv_has ls 2 [(0, .ref this), (1, .int p1)] := hl
  obtain ⟨Q, hQ⟩ : ∃ Q, Q = MQ below (va_Qi post (fun S' t => wd D y z S' A t.heap) A) (([Value.ref this, Value.int p1] : List Value).toArray) s 0 0 A := ⟨_, rfl⟩
  rw [← hQ]
  generalize hR : (headSpec wsX6_isStation ({ frames := 1, cells := 0, slots := 0, locals := 22 } : Room)).room = R
  have hRf : 1 ≤ R.frames := by rw [← hR]; exact Nat.le_refl _
  have hRl : 22 ≤ R.locals := by rw [← hR]; exact Nat.le_refl _
  have hret : ∀ (v : Int32) (S : bS) (H : Heap) (locs : List Loc) (pc : Nat) (ls : Array Slot) , (v = 0 ∨ v = 1) → post v S → wd D y z S A H → va_S A s.heap H locs → decode cX6_isStation pc = .ok (.ireturn, 1) → W p l e R s m (([Value.ref this, Value.int p1] : List Value).toArray) below meth c H locs 0 0 Q (F0 m pc ls [.int v]) := by
    intro v S H locs pc ls hz h hw hS d0
    rw [hQ]; exact W.zret hx hb hr (b_nz hz) (fun t ht hW => ⟨⟨v, S, rfl, h, by show wd D y z S A t.heap; rw [ht]; exact hw⟩, hS.F ht⟩) hS.2.2 d0 hlocks
  unfold wp_X6_isStation at h
  refine lv_iload_n hx hb dX6_isStation_0 rfl (lv_at hl 1 rfl) ?_
  refine lv_iconst (v := (0 : Int32)) hx hb dX6_isStation_1 (by decide) ?_
  refine lv_aload_n hx hb dX6_isStation_2 rfl (lv_at hl 0 rfl) ?_
  obtain ⟨hk1, h⟩ := h
  refine r_get (ci := 7) (v := .int (gV S 8 this 2)) (C := RX6) (T := TX6) (N := 17) hx hb hts hiX6 hown hK hw (ce_8 (S := S) hk1) rfl 2 (by decide) (hts (.fieldLink RX6 35 "TubePostModel" "stations" "I") (by decide +kernel)) (fun _ h9 => h9) rfl dX6_isStation_3 ?_
  refine lv_iconst (v := (1 : Int32)) hx hb dX6_isStation_6 (by decide) ?_
  refine lv_isub hx hb dX6_isStation_7 ?_
  have h1 := h
  refine va_calli (va_runS (As := [.int p1, .int (0 : Int32), .int ((gV S 8 this 2) - (1 : Int32))]) (rest := []) ⟨hx, hb, hml, hown, hts⟩ (m_X6_isIn (l := l) h1) (cwS 3 hts gX6_isStation_X6_isIn rfl rfl rfl (by decide +kernel) ⟨Nat.le_trans (Nat.le_of_ble_eq_true rfl) hRf, Nat.le_trans (Nat.le_of_ble_eq_true rfl) hRl⟩) (r_pS hB hw hS) rfl rfl hl.1 rfl (lv_room (Nat.le_of_ble_eq_true rfl)) dX6_isStation_8 ⟨Nat.zero_le _, Nat.zero_le _⟩) hS (fun _ _ h => h) (fun _ h => h) (fun r2 S3 t H1 locs ht _ h hw1 _ _ hS => ?_)
  subst ht
  have hw : wd D y z S3 A t.heap := hw1
  clear hw1 h1
  obtain ⟨hz, h⟩ := h
  exact hret _ _ _ _ _ _ hz h hw hS dX6_isStation_11
def wp_X6_isTube (post : Int32 → bS → Prop) (this : Nat) (p1 : Int32) (S : bS) : Prop := gK S this = 8 ∧ (wp_X6_isIn (fun r2 S3 => (r2 = 0 ∨ r2 = 1) ∧ post r2 S3) p1 (0 : Int32) ((gV S 8 this 3) - (1 : Int32)) S)
set_option maxHeartbeats 4000000 in
set_option maxRecDepth 100000 in
theorem m_X6_isTube {l : Launch} {D : va_G} {y : Nat → ClassId} {z : Nat} {A : Nat → Prop} {S : bS} {post : Int32 → bS → Prop} {this : Nat} {p1 : Int32} (h : wp_X6_isTube post this p1 S) : Met l yX6_isTube wsX6_isTube ({ frames := 1, cells := 0, slots := 0, locals := 22 } : Room) (va_Pc ([Value.ref this, Value.int p1] : List Value) (bP D y z S A)) (va_Qi post (fun S' t => wd D y z S' A t.heap) A) 0 0 A := by
  refine Met.ofW (cc := cX6_isTube) (maxL := 2) (ret := (some .boolean)) (by decide) rfl ?_
  intro p e s m args below meth c s₁ B hml hv
  obtain ⟨rfl, hB⟩ := hv
  have hx := B.exec
  have hb := B.bytes
  have hr := B.returns
  have hts := atoms_spec (ws := wsX6_isTube) B.pre
  have hown : s.vm.findClass RX6 = some m.cls := findClass_of_methodNamed B.named
  have hlocks := B.notSynchronized
  have hw : wd D y z S A s.heap := hB.1
  have hK : va_K D bCl (bT y) s := hB.2.1
  have hNw := hB.2.2.1
  have hAn : ∀ q : Nat, s.heap.size ≤ q → A q := hB.2.2.2.1
  have hAz : ¬ A z := hB.2.2.2.2.1
  have hO := hB.2.2.2.2.2.1
  have hS : va_S A s.heap s.heap [] := va_S.rf
  have hiX6 : ∀ w ∈ u_ws RX6 TX6 17, w ∈ wsX6_isTube := by decide +kernel
  have hl := lv_entry ([Value.ref this, Value.int p1] : List Value) (n := 2) (Nat.le_of_ble_eq_true rfl)
  rw [lg_entry_eq]
  generalize (lg_sl ([Value.ref this, Value.int p1] : List Value) ++ List.replicate (2 - (lg_sl ([Value.ref this, Value.int p1] : List Value)).length) Slot.unset).toArray = ls at hl ⊢
  have hl : lv_has ls 2 [(0, .ref this), (1, .int p1)] := hl
  obtain ⟨Q, hQ⟩ : ∃ Q, Q = MQ below (va_Qi post (fun S' t => wd D y z S' A t.heap) A) (([Value.ref this, Value.int p1] : List Value).toArray) s 0 0 A := ⟨_, rfl⟩
  rw [← hQ]
  generalize hR : (headSpec wsX6_isTube ({ frames := 1, cells := 0, slots := 0, locals := 22 } : Room)).room = R
  have hRf : 1 ≤ R.frames := by rw [← hR]; exact Nat.le_refl _
  have hRl : 22 ≤ R.locals := by rw [← hR]; exact Nat.le_refl _
  have hret : ∀ (v : Int32) (S : bS) (H : Heap) (locs : List Loc) (pc : Nat) (ls : Array Slot) , (v = 0 ∨ v = 1) → post v S → wd D y z S A H → va_S A s.heap H locs → decode cX6_isTube pc = .ok (.ireturn, 1) → W p l e R s m (([Value.ref this, Value.int p1] : List Value).toArray) below meth c H locs 0 0 Q (F0 m pc ls [.int v]) := by
    intro v S H locs pc ls hz h hw hS d0
    rw [hQ]; exact W.zret hx hb hr (b_nz hz) (fun t ht hW => ⟨⟨v, S, rfl, h, by show wd D y z S A t.heap; rw [ht]; exact hw⟩, hS.F ht⟩) hS.2.2 d0 hlocks
  unfold wp_X6_isTube at h
  refine lv_iload_n hx hb dX6_isTube_0 rfl (lv_at hl 1 rfl) ?_
  refine lv_iconst (v := (0 : Int32)) hx hb dX6_isTube_1 (by decide) ?_
  refine lv_aload_n hx hb dX6_isTube_2 rfl (lv_at hl 0 rfl) ?_
  obtain ⟨hk1, h⟩ := h
  refine r_get (ci := 7) (v := .int (gV S 8 this 3)) (C := RX6) (T := TX6) (N := 17) hx hb hts hiX6 hown hK hw (ce_8 (S := S) hk1) rfl 3 (by decide) (hts (.fieldLink RX6 42 "TubePostModel" "tubes" "I") (by decide +kernel)) (fun _ h9 => h9) rfl dX6_isTube_3 ?_
  refine lv_iconst (v := (1 : Int32)) hx hb dX6_isTube_6 (by decide) ?_
  refine lv_isub hx hb dX6_isTube_7 ?_
  have h1 := h
  refine va_calli (va_runS (As := [.int p1, .int (0 : Int32), .int ((gV S 8 this 3) - (1 : Int32))]) (rest := []) ⟨hx, hb, hml, hown, hts⟩ (m_X6_isIn (l := l) h1) (cwS 3 hts gX6_isTube_X6_isIn rfl rfl rfl (by decide +kernel) ⟨Nat.le_trans (Nat.le_of_ble_eq_true rfl) hRf, Nat.le_trans (Nat.le_of_ble_eq_true rfl) hRl⟩) (r_pS hB hw hS) rfl rfl hl.1 rfl (lv_room (Nat.le_of_ble_eq_true rfl)) dX6_isTube_8 ⟨Nat.zero_le _, Nat.zero_le _⟩) hS (fun _ _ h => h) (fun _ h => h) (fun r2 S3 t H1 locs ht _ h hw1 _ _ hS => ?_)
  subst ht
  have hw : wd D y z S3 A t.heap := hw1
  clear hw1 h1
  obtain ⟨hz, h⟩ := h
  exact hret _ _ _ _ _ _ hz h hw hS dX6_isTube_11
def wp_X6_st (post : Int32 → bS → Prop) (this : Nat) (p1 : Int32) (p2 : Int32) (S : bS) : Prop := gK S this = 8 ∧ (∃ b2, gQ S 8 this 9 = some b2 ∧ (gK S b2 = 9 ∧ (vp_in (((9 : Int32) * p1) + p2) (gN S b2) ∧ (post (gV S 9 b2 (Int32.toNatClampNeg (((9 : Int32) * p1) + p2))) S))))
set_option maxHeartbeats 4000000 in
set_option maxRecDepth 100000 in
theorem m_X6_st {l : Launch} {D : va_G} {y : Nat → ClassId} {z : Nat} {A : Nat → Prop} {S : bS} {post : Int32 → bS → Prop} {this : Nat} {p1 : Int32} {p2 : Int32} (h : wp_X6_st post this p1 p2 S) : Met l yX6_st wsX6_st ({ frames := 0, cells := 0, slots := 0, locals := 0 } : Room) (va_Pc ([Value.ref this, Value.int p1, Value.int p2] : List Value) (bP D y z S A)) (va_Qi post (fun S' t => wd D y z S' A t.heap) A) 0 0 A := by
  refine Met.ofW (cc := cX6_st) (maxL := 3) (ret := (some .int)) (by decide) rfl ?_
  intro p e s m args below meth c s₁ B hml hv
  obtain ⟨rfl, hB⟩ := hv
  have hx := B.exec
  have hb := B.bytes
  have hr := B.returns
  have hts := atoms_spec (ws := wsX6_st) B.pre
  have hown : s.vm.findClass RX6 = some m.cls := findClass_of_methodNamed B.named
  have hlocks := B.notSynchronized
  have hw : wd D y z S A s.heap := hB.1
  have hK : va_K D bCl (bT y) s := hB.2.1
  have hNw := hB.2.2.1
  have hAn : ∀ q : Nat, s.heap.size ≤ q → A q := hB.2.2.2.1
  have hAz : ¬ A z := hB.2.2.2.2.1
  have hO := hB.2.2.2.2.2.1
  have hS : va_S A s.heap s.heap [] := va_S.rf
  have hiX6 : ∀ w ∈ u_ws RX6 TX6 17, w ∈ wsX6_st := by decide +kernel
  have hl := lv_entry ([Value.ref this, Value.int p1, Value.int p2] : List Value) (n := 3) (Nat.le_of_ble_eq_true rfl)
  rw [lg_entry_eq]
  generalize (lg_sl ([Value.ref this, Value.int p1, Value.int p2] : List Value) ++ List.replicate (3 - (lg_sl ([Value.ref this, Value.int p1, Value.int p2] : List Value)).length) Slot.unset).toArray = ls at hl ⊢
  have hl : lv_has ls 3 [(0, .ref this), (1, .int p1), (2, .int p2)] := hl
  obtain ⟨Q, hQ⟩ : ∃ Q, Q = MQ below (va_Qi post (fun S' t => wd D y z S' A t.heap) A) (([Value.ref this, Value.int p1, Value.int p2] : List Value).toArray) s 0 0 A := ⟨_, rfl⟩
  rw [← hQ]
  generalize hR : (headSpec wsX6_st ({ frames := 0, cells := 0, slots := 0, locals := 0 } : Room)).room = R
  have hRf : 0 ≤ R.frames := by rw [← hR]; exact Nat.le_refl _
  have hRl : 0 ≤ R.locals := by rw [← hR]; exact Nat.le_refl _
  have hret : ∀ (v : Int32) (S : bS) (H : Heap) (locs : List Loc) (pc : Nat) (ls : Array Slot) , post v S → wd D y z S A H → va_S A s.heap H locs → decode cX6_st pc = .ok (.ireturn, 1) → W p l e R s m (([Value.ref this, Value.int p1, Value.int p2] : List Value).toArray) below meth c H locs 0 0 Q (F0 m pc ls [.int v]) := by
    intro v S H locs pc ls h hw hS d0
    rw [hQ]; exact W.iret hx hb hr (fun t ht hW => ⟨⟨v, S, rfl, h, by show wd D y z S A t.heap; rw [ht]; exact hw⟩, hS.F ht⟩) hS.2.2 d0 hlocks
  unfold wp_X6_st at h
  refine lv_aload_n hx hb dX6_st_0 rfl (lv_at hl 0 rfl) ?_
  obtain ⟨hk1, h⟩ := h
  obtain ⟨b2, hb3, h⟩ := h
  refine r_get (ci := 7) (v := .ref b2) (C := RX6) (T := TX6) (N := 17) hx hb hts hiX6 hown hK hw (ce_8 (S := S) hk1) rfl 9 (by decide) (hts (.fieldLink RX6 9 "TubePostModel" "stationTable" "[I") (by decide +kernel)) (fun _ h9 => h9) (congrArg (fun q => some (va_rf q)) hb3) dX6_st_1 ?_
  refine lv_bipush (v := (9 : Int32)) hx hb dX6_st_4 (by decide) ?_
  refine lv_iload_n hx hb dX6_st_6 rfl (lv_at hl 1 rfl) ?_
  refine lv_imul hx hb dX6_st_7 ?_
  refine lv_iload_n hx hb dX6_st_8 rfl (lv_at hl 2 rfl) ?_
  refine lv_iadd hx hb dX6_st_9 ?_
  obtain ⟨hk4, h⟩ := h
  obtain ⟨hin5, h⟩ := h
  refine r_iald hx hb hK hw hk4 hin5 dX6_st_10 ?_
  exact hret (gV S 9 b2 (Int32.toNatClampNeg (((9 : Int32) * p1) + p2))) _ _ _ _ _ h hw hS dX6_st_11
def wp_X6_tu (post : Int32 → bS → Prop) (this : Nat) (p1 : Int32) (p2 : Int32) (S : bS) : Prop := gK S this = 8 ∧ (∃ b2, gQ S 8 this 10 = some b2 ∧ (gK S b2 = 9 ∧ (vp_in (((8 : Int32) * p1) + p2) (gN S b2) ∧ (post (gV S 9 b2 (Int32.toNatClampNeg (((8 : Int32) * p1) + p2))) S))))
set_option maxHeartbeats 4000000 in
set_option maxRecDepth 100000 in
theorem m_X6_tu {l : Launch} {D : va_G} {y : Nat → ClassId} {z : Nat} {A : Nat → Prop} {S : bS} {post : Int32 → bS → Prop} {this : Nat} {p1 : Int32} {p2 : Int32} (h : wp_X6_tu post this p1 p2 S) : Met l yX6_tu wsX6_tu ({ frames := 0, cells := 0, slots := 0, locals := 0 } : Room) (va_Pc ([Value.ref this, Value.int p1, Value.int p2] : List Value) (bP D y z S A)) (va_Qi post (fun S' t => wd D y z S' A t.heap) A) 0 0 A := by
  refine Met.ofW (cc := cX6_tu) (maxL := 3) (ret := (some .int)) (by decide) rfl ?_
  intro p e s m args below meth c s₁ B hml hv
  obtain ⟨rfl, hB⟩ := hv
  have hx := B.exec
  have hb := B.bytes
  have hr := B.returns
  have hts := atoms_spec (ws := wsX6_tu) B.pre
  have hown : s.vm.findClass RX6 = some m.cls := findClass_of_methodNamed B.named
  have hlocks := B.notSynchronized
  have hw : wd D y z S A s.heap := hB.1
  have hK : va_K D bCl (bT y) s := hB.2.1
  have hNw := hB.2.2.1
  have hAn : ∀ q : Nat, s.heap.size ≤ q → A q := hB.2.2.2.1
  have hAz : ¬ A z := hB.2.2.2.2.1
  have hO := hB.2.2.2.2.2.1
  have hS : va_S A s.heap s.heap [] := va_S.rf
  have hiX6 : ∀ w ∈ u_ws RX6 TX6 17, w ∈ wsX6_tu := by decide +kernel
  have hl := lv_entry ([Value.ref this, Value.int p1, Value.int p2] : List Value) (n := 3) (Nat.le_of_ble_eq_true rfl)
  rw [lg_entry_eq]
  generalize (lg_sl ([Value.ref this, Value.int p1, Value.int p2] : List Value) ++ List.replicate (3 - (lg_sl ([Value.ref this, Value.int p1, Value.int p2] : List Value)).length) Slot.unset).toArray = ls at hl ⊢
  have hl : lv_has ls 3 [(0, .ref this), (1, .int p1), (2, .int p2)] := hl
  obtain ⟨Q, hQ⟩ : ∃ Q, Q = MQ below (va_Qi post (fun S' t => wd D y z S' A t.heap) A) (([Value.ref this, Value.int p1, Value.int p2] : List Value).toArray) s 0 0 A := ⟨_, rfl⟩
  rw [← hQ]
  generalize hR : (headSpec wsX6_tu ({ frames := 0, cells := 0, slots := 0, locals := 0 } : Room)).room = R
  have hRf : 0 ≤ R.frames := by rw [← hR]; exact Nat.le_refl _
  have hRl : 0 ≤ R.locals := by rw [← hR]; exact Nat.le_refl _
  have hret : ∀ (v : Int32) (S : bS) (H : Heap) (locs : List Loc) (pc : Nat) (ls : Array Slot) , post v S → wd D y z S A H → va_S A s.heap H locs → decode cX6_tu pc = .ok (.ireturn, 1) → W p l e R s m (([Value.ref this, Value.int p1, Value.int p2] : List Value).toArray) below meth c H locs 0 0 Q (F0 m pc ls [.int v]) := by
    intro v S H locs pc ls h hw hS d0
    rw [hQ]; exact W.iret hx hb hr (fun t ht hW => ⟨⟨v, S, rfl, h, by show wd D y z S A t.heap; rw [ht]; exact hw⟩, hS.F ht⟩) hS.2.2 d0 hlocks
  unfold wp_X6_tu at h
  refine lv_aload_n hx hb dX6_tu_0 rfl (lv_at hl 0 rfl) ?_
  obtain ⟨hk1, h⟩ := h
  obtain ⟨b2, hb3, h⟩ := h
  refine r_get (ci := 7) (v := .ref b2) (C := RX6) (T := TX6) (N := 17) hx hb hts hiX6 hown hK hw (ce_8 (S := S) hk1) rfl 10 (by decide) (hts (.fieldLink RX6 13 "TubePostModel" "tubeTable" "[I") (by decide +kernel)) (fun _ h9 => h9) (congrArg (fun q => some (va_rf q)) hb3) dX6_tu_1 ?_
  refine lv_bipush (v := (8 : Int32)) hx hb dX6_tu_4 (by decide) ?_
  refine lv_iload_n hx hb dX6_tu_6 rfl (lv_at hl 1 rfl) ?_
  refine lv_imul hx hb dX6_tu_7 ?_
  refine lv_iload_n hx hb dX6_tu_8 rfl (lv_at hl 2 rfl) ?_
  refine lv_iadd hx hb dX6_tu_9 ?_
  obtain ⟨hk4, h⟩ := h
  obtain ⟨hin5, h⟩ := h
  refine r_iald hx hb hK hw hk4 hin5 dX6_tu_10 ?_
  exact hret (gV S 9 b2 (Int32.toNatClampNeg (((8 : Int32) * p1) + p2))) _ _ _ _ _ h hw hS dX6_tu_11
def wp_X6_get (post : Int32 → bS → Prop) (this : Nat) (p1 : Int32) (p2 : Int32) (S : bS) : Prop := gK S this = 8 ∧ (∃ b2, gQ S 8 this 12 = some b2 ∧ (gK S b2 = 9 ∧ (vp_in (((9 : Int32) * p1) + p2) (gN S b2) ∧ (post (gV S 9 b2 (Int32.toNatClampNeg (((9 : Int32) * p1) + p2))) S))))
set_option maxHeartbeats 4000000 in
set_option maxRecDepth 100000 in
theorem m_X6_get {l : Launch} {D : va_G} {y : Nat → ClassId} {z : Nat} {A : Nat → Prop} {S : bS} {post : Int32 → bS → Prop} {this : Nat} {p1 : Int32} {p2 : Int32} (h : wp_X6_get post this p1 p2 S) : Met l yX6_get wsX6_get ({ frames := 0, cells := 0, slots := 0, locals := 0 } : Room) (va_Pc ([Value.ref this, Value.int p1, Value.int p2] : List Value) (bP D y z S A)) (va_Qi post (fun S' t => wd D y z S' A t.heap) A) 0 0 A := by
  refine Met.ofW (cc := cX6_get) (maxL := 3) (ret := (some .int)) (by decide) rfl ?_
  intro p e s m args below meth c s₁ B hml hv
  obtain ⟨rfl, hB⟩ := hv
  have hx := B.exec
  have hb := B.bytes
  have hr := B.returns
  have hts := atoms_spec (ws := wsX6_get) B.pre
  have hown : s.vm.findClass RX6 = some m.cls := findClass_of_methodNamed B.named
  have hlocks := B.notSynchronized
  have hw : wd D y z S A s.heap := hB.1
  have hK : va_K D bCl (bT y) s := hB.2.1
  have hNw := hB.2.2.1
  have hAn : ∀ q : Nat, s.heap.size ≤ q → A q := hB.2.2.2.1
  have hAz : ¬ A z := hB.2.2.2.2.1
  have hO := hB.2.2.2.2.2.1
  have hS : va_S A s.heap s.heap [] := va_S.rf
  have hiX6 : ∀ w ∈ u_ws RX6 TX6 17, w ∈ wsX6_get := by decide +kernel
  have hl := lv_entry ([Value.ref this, Value.int p1, Value.int p2] : List Value) (n := 3) (Nat.le_of_ble_eq_true rfl)
  rw [lg_entry_eq]
  generalize (lg_sl ([Value.ref this, Value.int p1, Value.int p2] : List Value) ++ List.replicate (3 - (lg_sl ([Value.ref this, Value.int p1, Value.int p2] : List Value)).length) Slot.unset).toArray = ls at hl ⊢
  have hl : lv_has ls 3 [(0, .ref this), (1, .int p1), (2, .int p2)] := hl
  obtain ⟨Q, hQ⟩ : ∃ Q, Q = MQ below (va_Qi post (fun S' t => wd D y z S' A t.heap) A) (([Value.ref this, Value.int p1, Value.int p2] : List Value).toArray) s 0 0 A := ⟨_, rfl⟩
  rw [← hQ]
  generalize hR : (headSpec wsX6_get ({ frames := 0, cells := 0, slots := 0, locals := 0 } : Room)).room = R
  have hRf : 0 ≤ R.frames := by rw [← hR]; exact Nat.le_refl _
  have hRl : 0 ≤ R.locals := by rw [← hR]; exact Nat.le_refl _
  have hret : ∀ (v : Int32) (S : bS) (H : Heap) (locs : List Loc) (pc : Nat) (ls : Array Slot) , post v S → wd D y z S A H → va_S A s.heap H locs → decode cX6_get pc = .ok (.ireturn, 1) → W p l e R s m (([Value.ref this, Value.int p1, Value.int p2] : List Value).toArray) below meth c H locs 0 0 Q (F0 m pc ls [.int v]) := by
    intro v S H locs pc ls h hw hS d0
    rw [hQ]; exact W.iret hx hb hr (fun t ht hW => ⟨⟨v, S, rfl, h, by show wd D y z S A t.heap; rw [ht]; exact hw⟩, hS.F ht⟩) hS.2.2 d0 hlocks
  unfold wp_X6_get at h
  refine lv_aload_n hx hb dX6_get_0 rfl (lv_at hl 0 rfl) ?_
  obtain ⟨hk1, h⟩ := h
  obtain ⟨b2, hb3, h⟩ := h
  refine r_get (ci := 7) (v := .ref b2) (C := RX6) (T := TX6) (N := 17) hx hb hts hiX6 hown hK hw (ce_8 (S := S) hk1) rfl 12 (by decide) (hts (.fieldLink RX6 19 "TubePostModel" "carriers" "[I") (by decide +kernel)) (fun _ h9 => h9) (congrArg (fun q => some (va_rf q)) hb3) dX6_get_1 ?_
  refine lv_bipush (v := (9 : Int32)) hx hb dX6_get_4 (by decide) ?_
  refine lv_iload_n hx hb dX6_get_6 rfl (lv_at hl 1 rfl) ?_
  refine lv_imul hx hb dX6_get_7 ?_
  refine lv_iload_n hx hb dX6_get_8 rfl (lv_at hl 2 rfl) ?_
  refine lv_iadd hx hb dX6_get_9 ?_
  obtain ⟨hk4, h⟩ := h
  obtain ⟨hin5, h⟩ := h
  refine r_iald hx hb hK hw hk4 hin5 dX6_get_10 ?_
  exact hret (gV S 9 b2 (Int32.toNatClampNeg (((9 : Int32) * p1) + p2))) _ _ _ _ _ h hw hS dX6_get_11
def wp_X6_set (post : bS → Prop) (this : Nat) (p1 : Int32) (p2 : Int32) (p3 : Int32) (S : bS) : Prop := gK S this = 8 ∧ (∃ b2, gQ S 8 this 12 = some b2 ∧ (gK S b2 = 9 ∧ (vp_in (((9 : Int32) * p1) + p2) (gN S b2) ∧ (post (sV S 9 b2 (Int32.toNatClampNeg (((9 : Int32) * p1) + p2)) p3)))))
set_option maxHeartbeats 4000000 in
set_option maxRecDepth 100000 in
theorem m_X6_set {l : Launch} {D : va_G} {y : Nat → ClassId} {z : Nat} {A : Nat → Prop} {S : bS} {post : bS → Prop} {this : Nat} {p1 : Int32} {p2 : Int32} {p3 : Int32} (h : wp_X6_set post this p1 p2 p3 S) : Met l yX6_set wsX6_set ({ frames := 0, cells := 0, slots := 0, locals := 0 } : Room) (va_Pc ([Value.ref this, Value.int p1, Value.int p2, Value.int p3] : List Value) (bP D y z S A)) (va_Qv post (fun S' t => wd D y z S' A t.heap) A) 0 0 A := by
  refine Met.ofW (cc := cX6_set) (maxL := 4) (ret := none) (by decide) rfl ?_
  intro p e s m args below meth c s₁ B hml hv
  obtain ⟨rfl, hB⟩ := hv
  have hx := B.exec
  have hb := B.bytes
  have hr := B.returns
  have hts := atoms_spec (ws := wsX6_set) B.pre
  have hown : s.vm.findClass RX6 = some m.cls := findClass_of_methodNamed B.named
  have hlocks := B.notSynchronized
  have hw : wd D y z S A s.heap := hB.1
  have hK : va_K D bCl (bT y) s := hB.2.1
  have hNw := hB.2.2.1
  have hAn : ∀ q : Nat, s.heap.size ≤ q → A q := hB.2.2.2.1
  have hAz : ¬ A z := hB.2.2.2.2.1
  have hO := hB.2.2.2.2.2.1
  have hS : va_S A s.heap s.heap [] := va_S.rf
  have hiX6 : ∀ w ∈ u_ws RX6 TX6 17, w ∈ wsX6_set := by decide +kernel
  have hl := lv_entry ([Value.ref this, Value.int p1, Value.int p2, Value.int p3] : List Value) (n := 4) (Nat.le_of_ble_eq_true rfl)
  rw [lg_entry_eq]
  generalize (lg_sl ([Value.ref this, Value.int p1, Value.int p2, Value.int p3] : List Value) ++ List.replicate (4 - (lg_sl ([Value.ref this, Value.int p1, Value.int p2, Value.int p3] : List Value)).length) Slot.unset).toArray = ls at hl ⊢
  have hl : lv_has ls 4 [(0, .ref this), (1, .int p1), (2, .int p2), (3, .int p3)] := hl
  obtain ⟨Q, hQ⟩ : ∃ Q, Q = MQ below (va_Qv post (fun S' t => wd D y z S' A t.heap) A) (([Value.ref this, Value.int p1, Value.int p2, Value.int p3] : List Value).toArray) s 0 0 A := ⟨_, rfl⟩
  rw [← hQ]
  generalize hR : (headSpec wsX6_set ({ frames := 0, cells := 0, slots := 0, locals := 0 } : Room)).room = R
  have hRf : 0 ≤ R.frames := by rw [← hR]; exact Nat.le_refl _
  have hRl : 0 ≤ R.locals := by rw [← hR]; exact Nat.le_refl _
  have hret : ∀ (S : bS) (H : Heap) (locs : List Loc) (pc : Nat) (ls : Array Slot) , post S → wd D y z S A H → va_S A s.heap H locs → decode cX6_set pc = .ok (.return_, 1) → W p l e R s m (([Value.ref this, Value.int p1, Value.int p2, Value.int p3] : List Value).toArray) below meth c H locs 0 0 Q (F0 m pc ls []) := by
    intro S H locs pc ls h hw hS d0
    rw [hQ]; exact W.vret hx hb hr (fun t ht hW => ⟨⟨S, rfl, h, by show wd D y z S A t.heap; rw [ht]; exact hw⟩, hS.F ht⟩) hS.2.2 d0 hlocks
  unfold wp_X6_set at h
  refine lv_aload_n hx hb dX6_set_0 rfl (lv_at hl 0 rfl) ?_
  obtain ⟨hk1, h⟩ := h
  obtain ⟨b2, hb3, h⟩ := h
  refine r_get (ci := 7) (v := .ref b2) (C := RX6) (T := TX6) (N := 17) hx hb hts hiX6 hown hK hw (ce_8 (S := S) hk1) rfl 12 (by decide) (hts (.fieldLink RX6 19 "TubePostModel" "carriers" "[I") (by decide +kernel)) (fun _ h9 => h9) (congrArg (fun q => some (va_rf q)) hb3) dX6_set_1 ?_
  refine lv_bipush (v := (9 : Int32)) hx hb dX6_set_4 (by decide) ?_
  refine lv_iload_n hx hb dX6_set_6 rfl (lv_at hl 1 rfl) ?_
  refine lv_imul hx hb dX6_set_7 ?_
  refine lv_iload_n hx hb dX6_set_8 rfl (lv_at hl 2 rfl) ?_
  refine lv_iadd hx hb dX6_set_9 ?_
  refine lv_iload_n hx hb dX6_set_10 rfl (lv_at hl 3 rfl) ?_
  obtain ⟨hk4, h⟩ := h
  obtain ⟨hin5, h⟩ := h
  refine r_iast hx hb hK hw hS hk4 hin5 dX6_set_11 (fun H locs hw hS => ?_)
  exact hret _ _ _ _ _ h hw hS dX6_set_12
def wb_X6_addStation_25 (post : Int32 → bS → Prop) (mc ms : Nat) (v0 : Nat) (S : bS) : Prop := gK S v0 = 8 ∧ (wp_X6_fail (fun r23 S24 => post r23 S24) v0 (1 : Int32) S)
def wp_X6_addStation (post : Int32 → bS → Prop) (MC MS : Nat) (this : Nat) (p1 : Int32) (p2 : Int32) (S : bS) : Prop := gK S this = 8 ∧ (wp_X6_isIn (fun r2 S3 => (r2 = (0 : Int32) → wb_X6_addStation_25 post MC MS this S3) ∧ (¬ (r2 = (0 : Int32)) → wp_X6_isIn (fun r4 S5 => (r4 ≠ (0 : Int32) → gK S5 this = 8 ∧ (((gV S5 8 this 2) ≠ (14 : Int32) → ¬ (5 : Int32) < 0 ∧ (Int32.toNatClampNeg (5 : Int32)) * 4 ≤ 536870912 ∧ 1 ≤ MC ∧ (Int32.toNatClampNeg (5 : Int32)) ≤ MS ∧ (∀ q7, gK S5 q7 = 0 → (vp_in (0 : Int32) (gN (sNew S5 q7 9 (Int32.toNatClampNeg (5 : Int32))) q7) ∧ (vp_in (1 : Int32) (gN (sV (sNew S5 q7 9 (Int32.toNatClampNeg (5 : Int32))) 9 q7 (Int32.toNatClampNeg (0 : Int32)) p1) q7) ∧ (vp_in (2 : Int32) (gN (sV (sV (sNew S5 q7 9 (Int32.toNatClampNeg (5 : Int32))) 9 q7 (Int32.toNatClampNeg (0 : Int32)) p1) 9 q7 (Int32.toNatClampNeg (1 : Int32)) p2) q7) ∧ (vp_in (3 : Int32) (gN (sV (sV (sV (sNew S5 q7 9 (Int32.toNatClampNeg (5 : Int32))) 9 q7 (Int32.toNatClampNeg (0 : Int32)) p1) 9 q7 (Int32.toNatClampNeg (1 : Int32)) p2) 9 q7 (Int32.toNatClampNeg (2 : Int32)) (0 : Int32)) q7) ∧ (vp_in (4 : Int32) (gN (sV (sV (sV (sV (sNew S5 q7 9 (Int32.toNatClampNeg (5 : Int32))) 9 q7 (Int32.toNatClampNeg (0 : Int32)) p1) 9 q7 (Int32.toNatClampNeg (1 : Int32)) p2) 9 q7 (Int32.toNatClampNeg (2 : Int32)) (0 : Int32)) 9 q7 (Int32.toNatClampNeg (3 : Int32)) (-1 : Int32)) q7) ∧ (∃ b16, gQ (sV (sV (sV (sV (sV (sNew S5 q7 9 (Int32.toNatClampNeg (5 : Int32))) 9 q7 (Int32.toNatClampNeg (0 : Int32)) p1) 9 q7 (Int32.toNatClampNeg (1 : Int32)) p2) 9 q7 (Int32.toNatClampNeg (2 : Int32)) (0 : Int32)) 9 q7 (Int32.toNatClampNeg (3 : Int32)) (-1 : Int32)) 9 q7 (Int32.toNatClampNeg (4 : Int32)) (0 : Int32)) 8 this 9 = some b16 ∧ (gK (sV (sV (sV (sV (sV (sNew S5 q7 9 (Int32.toNatClampNeg (5 : Int32))) 9 q7 (Int32.toNatClampNeg (0 : Int32)) p1) 9 q7 (Int32.toNatClampNeg (1 : Int32)) p2) 9 q7 (Int32.toNatClampNeg (2 : Int32)) (0 : Int32)) 9 q7 (Int32.toNatClampNeg (3 : Int32)) (-1 : Int32)) 9 q7 (Int32.toNatClampNeg (4 : Int32)) (0 : Int32)) b16 = 9 ∧ ((¬ (0 : Int32) < 0 ∧ ¬ ((9 : Int32) * (gV (sV (sV (sV (sV (sV (sNew S5 q7 9 (Int32.toNatClampNeg (5 : Int32))) 9 q7 (Int32.toNatClampNeg (0 : Int32)) p1) 9 q7 (Int32.toNatClampNeg (1 : Int32)) p2) 9 q7 (Int32.toNatClampNeg (2 : Int32)) (0 : Int32)) 9 q7 (Int32.toNatClampNeg (3 : Int32)) (-1 : Int32)) 9 q7 (Int32.toNatClampNeg (4 : Int32)) (0 : Int32)) 8 this 2)) < 0 ∧ ¬ (Int32.ofNat (gN (sV (sV (sV (sV (sV (sNew S5 q7 9 (Int32.toNatClampNeg (5 : Int32))) 9 q7 (Int32.toNatClampNeg (0 : Int32)) p1) 9 q7 (Int32.toNatClampNeg (1 : Int32)) p2) 9 q7 (Int32.toNatClampNeg (2 : Int32)) (0 : Int32)) 9 q7 (Int32.toNatClampNeg (3 : Int32)) (-1 : Int32)) 9 q7 (Int32.toNatClampNeg (4 : Int32)) (0 : Int32)) q7)) < 0 ∧ (Int32.toNatClampNeg (0 : Int32)) + (Int32.toNatClampNeg (Int32.ofNat (gN (sV (sV (sV (sV (sV (sNew S5 q7 9 (Int32.toNatClampNeg (5 : Int32))) 9 q7 (Int32.toNatClampNeg (0 : Int32)) p1) 9 q7 (Int32.toNatClampNeg (1 : Int32)) p2) 9 q7 (Int32.toNatClampNeg (2 : Int32)) (0 : Int32)) 9 q7 (Int32.toNatClampNeg (3 : Int32)) (-1 : Int32)) 9 q7 (Int32.toNatClampNeg (4 : Int32)) (0 : Int32)) q7))) ≤ gN (sV (sV (sV (sV (sV (sNew S5 q7 9 (Int32.toNatClampNeg (5 : Int32))) 9 q7 (Int32.toNatClampNeg (0 : Int32)) p1) 9 q7 (Int32.toNatClampNeg (1 : Int32)) p2) 9 q7 (Int32.toNatClampNeg (2 : Int32)) (0 : Int32)) 9 q7 (Int32.toNatClampNeg (3 : Int32)) (-1 : Int32)) 9 q7 (Int32.toNatClampNeg (4 : Int32)) (0 : Int32)) q7 ∧ (Int32.toNatClampNeg ((9 : Int32) * (gV (sV (sV (sV (sV (sV (sNew S5 q7 9 (Int32.toNatClampNeg (5 : Int32))) 9 q7 (Int32.toNatClampNeg (0 : Int32)) p1) 9 q7 (Int32.toNatClampNeg (1 : Int32)) p2) 9 q7 (Int32.toNatClampNeg (2 : Int32)) (0 : Int32)) 9 q7 (Int32.toNatClampNeg (3 : Int32)) (-1 : Int32)) 9 q7 (Int32.toNatClampNeg (4 : Int32)) (0 : Int32)) 8 this 2))) + (Int32.toNatClampNeg (Int32.ofNat (gN (sV (sV (sV (sV (sV (sNew S5 q7 9 (Int32.toNatClampNeg (5 : Int32))) 9 q7 (Int32.toNatClampNeg (0 : Int32)) p1) 9 q7 (Int32.toNatClampNeg (1 : Int32)) p2) 9 q7 (Int32.toNatClampNeg (2 : Int32)) (0 : Int32)) 9 q7 (Int32.toNatClampNeg (3 : Int32)) (-1 : Int32)) 9 q7 (Int32.toNatClampNeg (4 : Int32)) (0 : Int32)) q7))) ≤ gN (sV (sV (sV (sV (sV (sNew S5 q7 9 (Int32.toNatClampNeg (5 : Int32))) 9 q7 (Int32.toNatClampNeg (0 : Int32)) p1) 9 q7 (Int32.toNatClampNeg (1 : Int32)) p2) 9 q7 (Int32.toNatClampNeg (2 : Int32)) (0 : Int32)) 9 q7 (Int32.toNatClampNeg (3 : Int32)) (-1 : Int32)) 9 q7 (Int32.toNatClampNeg (4 : Int32)) (0 : Int32)) b16) ∧ (post ((gV (sV (sF (sV (sV (sV (sV (sV (sNew S5 q7 9 (Int32.toNatClampNeg (5 : Int32))) 9 q7 (Int32.toNatClampNeg (0 : Int32)) p1) 9 q7 (Int32.toNatClampNeg (1 : Int32)) p2) 9 q7 (Int32.toNatClampNeg (2 : Int32)) (0 : Int32)) 9 q7 (Int32.toNatClampNeg (3 : Int32)) (-1 : Int32)) 9 q7 (Int32.toNatClampNeg (4 : Int32)) (0 : Int32)) 9 b16 (va_cpy (gV (sV (sV (sV (sV (sV (sNew S5 q7 9 (Int32.toNatClampNeg (5 : Int32))) 9 q7 (Int32.toNatClampNeg (0 : Int32)) p1) 9 q7 (Int32.toNatClampNeg (1 : Int32)) p2) 9 q7 (Int32.toNatClampNeg (2 : Int32)) (0 : Int32)) 9 q7 (Int32.toNatClampNeg (3 : Int32)) (-1 : Int32)) 9 q7 (Int32.toNatClampNeg (4 : Int32)) (0 : Int32)) 9 q7) (gV (sV (sV (sV (sV (sV (sNew S5 q7 9 (Int32.toNatClampNeg (5 : Int32))) 9 q7 (Int32.toNatClampNeg (0 : Int32)) p1) 9 q7 (Int32.toNatClampNeg (1 : Int32)) p2) 9 q7 (Int32.toNatClampNeg (2 : Int32)) (0 : Int32)) 9 q7 (Int32.toNatClampNeg (3 : Int32)) (-1 : Int32)) 9 q7 (Int32.toNatClampNeg (4 : Int32)) (0 : Int32)) 9 b16) (Int32.toNatClampNeg (0 : Int32)) (Int32.toNatClampNeg ((9 : Int32) * (gV (sV (sV (sV (sV (sV (sNew S5 q7 9 (Int32.toNatClampNeg (5 : Int32))) 9 q7 (Int32.toNatClampNeg (0 : Int32)) p1) 9 q7 (Int32.toNatClampNeg (1 : Int32)) p2) 9 q7 (Int32.toNatClampNeg (2 : Int32)) (0 : Int32)) 9 q7 (Int32.toNatClampNeg (3 : Int32)) (-1 : Int32)) 9 q7 (Int32.toNatClampNeg (4 : Int32)) (0 : Int32)) 8 this 2))) (Int32.toNatClampNeg (Int32.ofNat (gN (sV (sV (sV (sV (sV (sNew S5 q7 9 (Int32.toNatClampNeg (5 : Int32))) 9 q7 (Int32.toNatClampNeg (0 : Int32)) p1) 9 q7 (Int32.toNatClampNeg (1 : Int32)) p2) 9 q7 (Int32.toNatClampNeg (2 : Int32)) (0 : Int32)) 9 q7 (Int32.toNatClampNeg (3 : Int32)) (-1 : Int32)) 9 q7 (Int32.toNatClampNeg (4 : Int32)) (0 : Int32)) q7))))) 8 this 2 ((gV (sF (sV (sV (sV (sV (sV (sNew S5 q7 9 (Int32.toNatClampNeg (5 : Int32))) 9 q7 (Int32.toNatClampNeg (0 : Int32)) p1) 9 q7 (Int32.toNatClampNeg (1 : Int32)) p2) 9 q7 (Int32.toNatClampNeg (2 : Int32)) (0 : Int32)) 9 q7 (Int32.toNatClampNeg (3 : Int32)) (-1 : Int32)) 9 q7 (Int32.toNatClampNeg (4 : Int32)) (0 : Int32)) 9 b16 (va_cpy (gV (sV (sV (sV (sV (sV (sNew S5 q7 9 (Int32.toNatClampNeg (5 : Int32))) 9 q7 (Int32.toNatClampNeg (0 : Int32)) p1) 9 q7 (Int32.toNatClampNeg (1 : Int32)) p2) 9 q7 (Int32.toNatClampNeg (2 : Int32)) (0 : Int32)) 9 q7 (Int32.toNatClampNeg (3 : Int32)) (-1 : Int32)) 9 q7 (Int32.toNatClampNeg (4 : Int32)) (0 : Int32)) 9 q7) (gV (sV (sV (sV (sV (sV (sNew S5 q7 9 (Int32.toNatClampNeg (5 : Int32))) 9 q7 (Int32.toNatClampNeg (0 : Int32)) p1) 9 q7 (Int32.toNatClampNeg (1 : Int32)) p2) 9 q7 (Int32.toNatClampNeg (2 : Int32)) (0 : Int32)) 9 q7 (Int32.toNatClampNeg (3 : Int32)) (-1 : Int32)) 9 q7 (Int32.toNatClampNeg (4 : Int32)) (0 : Int32)) 9 b16) (Int32.toNatClampNeg (0 : Int32)) (Int32.toNatClampNeg ((9 : Int32) * (gV (sV (sV (sV (sV (sV (sNew S5 q7 9 (Int32.toNatClampNeg (5 : Int32))) 9 q7 (Int32.toNatClampNeg (0 : Int32)) p1) 9 q7 (Int32.toNatClampNeg (1 : Int32)) p2) 9 q7 (Int32.toNatClampNeg (2 : Int32)) (0 : Int32)) 9 q7 (Int32.toNatClampNeg (3 : Int32)) (-1 : Int32)) 9 q7 (Int32.toNatClampNeg (4 : Int32)) (0 : Int32)) 8 this 2))) (Int32.toNatClampNeg (Int32.ofNat (gN (sV (sV (sV (sV (sV (sNew S5 q7 9 (Int32.toNatClampNeg (5 : Int32))) 9 q7 (Int32.toNatClampNeg (0 : Int32)) p1) 9 q7 (Int32.toNatClampNeg (1 : Int32)) p2) 9 q7 (Int32.toNatClampNeg (2 : Int32)) (0 : Int32)) 9 q7 (Int32.toNatClampNeg (3 : Int32)) (-1 : Int32)) 9 q7 (Int32.toNatClampNeg (4 : Int32)) (0 : Int32)) q7))))) 8 this 2) + (1 : Int32))) 8 this 2) - (1 : Int32)) (sV (sF (sV (sV (sV (sV (sV (sNew S5 q7 9 (Int32.toNatClampNeg (5 : Int32))) 9 q7 (Int32.toNatClampNeg (0 : Int32)) p1) 9 q7 (Int32.toNatClampNeg (1 : Int32)) p2) 9 q7 (Int32.toNatClampNeg (2 : Int32)) (0 : Int32)) 9 q7 (Int32.toNatClampNeg (3 : Int32)) (-1 : Int32)) 9 q7 (Int32.toNatClampNeg (4 : Int32)) (0 : Int32)) 9 b16 (va_cpy (gV (sV (sV (sV (sV (sV (sNew S5 q7 9 (Int32.toNatClampNeg (5 : Int32))) 9 q7 (Int32.toNatClampNeg (0 : Int32)) p1) 9 q7 (Int32.toNatClampNeg (1 : Int32)) p2) 9 q7 (Int32.toNatClampNeg (2 : Int32)) (0 : Int32)) 9 q7 (Int32.toNatClampNeg (3 : Int32)) (-1 : Int32)) 9 q7 (Int32.toNatClampNeg (4 : Int32)) (0 : Int32)) 9 q7) (gV (sV (sV (sV (sV (sV (sNew S5 q7 9 (Int32.toNatClampNeg (5 : Int32))) 9 q7 (Int32.toNatClampNeg (0 : Int32)) p1) 9 q7 (Int32.toNatClampNeg (1 : Int32)) p2) 9 q7 (Int32.toNatClampNeg (2 : Int32)) (0 : Int32)) 9 q7 (Int32.toNatClampNeg (3 : Int32)) (-1 : Int32)) 9 q7 (Int32.toNatClampNeg (4 : Int32)) (0 : Int32)) 9 b16) (Int32.toNatClampNeg (0 : Int32)) (Int32.toNatClampNeg ((9 : Int32) * (gV (sV (sV (sV (sV (sV (sNew S5 q7 9 (Int32.toNatClampNeg (5 : Int32))) 9 q7 (Int32.toNatClampNeg (0 : Int32)) p1) 9 q7 (Int32.toNatClampNeg (1 : Int32)) p2) 9 q7 (Int32.toNatClampNeg (2 : Int32)) (0 : Int32)) 9 q7 (Int32.toNatClampNeg (3 : Int32)) (-1 : Int32)) 9 q7 (Int32.toNatClampNeg (4 : Int32)) (0 : Int32)) 8 this 2))) (Int32.toNatClampNeg (Int32.ofNat (gN (sV (sV (sV (sV (sV (sNew S5 q7 9 (Int32.toNatClampNeg (5 : Int32))) 9 q7 (Int32.toNatClampNeg (0 : Int32)) p1) 9 q7 (Int32.toNatClampNeg (1 : Int32)) p2) 9 q7 (Int32.toNatClampNeg (2 : Int32)) (0 : Int32)) 9 q7 (Int32.toNatClampNeg (3 : Int32)) (-1 : Int32)) 9 q7 (Int32.toNatClampNeg (4 : Int32)) (0 : Int32)) q7))))) 8 this 2 ((gV (sF (sV (sV (sV (sV (sV (sNew S5 q7 9 (Int32.toNatClampNeg (5 : Int32))) 9 q7 (Int32.toNatClampNeg (0 : Int32)) p1) 9 q7 (Int32.toNatClampNeg (1 : Int32)) p2) 9 q7 (Int32.toNatClampNeg (2 : Int32)) (0 : Int32)) 9 q7 (Int32.toNatClampNeg (3 : Int32)) (-1 : Int32)) 9 q7 (Int32.toNatClampNeg (4 : Int32)) (0 : Int32)) 9 b16 (va_cpy (gV (sV (sV (sV (sV (sV (sNew S5 q7 9 (Int32.toNatClampNeg (5 : Int32))) 9 q7 (Int32.toNatClampNeg (0 : Int32)) p1) 9 q7 (Int32.toNatClampNeg (1 : Int32)) p2) 9 q7 (Int32.toNatClampNeg (2 : Int32)) (0 : Int32)) 9 q7 (Int32.toNatClampNeg (3 : Int32)) (-1 : Int32)) 9 q7 (Int32.toNatClampNeg (4 : Int32)) (0 : Int32)) 9 q7) (gV (sV (sV (sV (sV (sV (sNew S5 q7 9 (Int32.toNatClampNeg (5 : Int32))) 9 q7 (Int32.toNatClampNeg (0 : Int32)) p1) 9 q7 (Int32.toNatClampNeg (1 : Int32)) p2) 9 q7 (Int32.toNatClampNeg (2 : Int32)) (0 : Int32)) 9 q7 (Int32.toNatClampNeg (3 : Int32)) (-1 : Int32)) 9 q7 (Int32.toNatClampNeg (4 : Int32)) (0 : Int32)) 9 b16) (Int32.toNatClampNeg (0 : Int32)) (Int32.toNatClampNeg ((9 : Int32) * (gV (sV (sV (sV (sV (sV (sNew S5 q7 9 (Int32.toNatClampNeg (5 : Int32))) 9 q7 (Int32.toNatClampNeg (0 : Int32)) p1) 9 q7 (Int32.toNatClampNeg (1 : Int32)) p2) 9 q7 (Int32.toNatClampNeg (2 : Int32)) (0 : Int32)) 9 q7 (Int32.toNatClampNeg (3 : Int32)) (-1 : Int32)) 9 q7 (Int32.toNatClampNeg (4 : Int32)) (0 : Int32)) 8 this 2))) (Int32.toNatClampNeg (Int32.ofNat (gN (sV (sV (sV (sV (sV (sNew S5 q7 9 (Int32.toNatClampNeg (5 : Int32))) 9 q7 (Int32.toNatClampNeg (0 : Int32)) p1) 9 q7 (Int32.toNatClampNeg (1 : Int32)) p2) 9 q7 (Int32.toNatClampNeg (2 : Int32)) (0 : Int32)) 9 q7 (Int32.toNatClampNeg (3 : Int32)) (-1 : Int32)) 9 q7 (Int32.toNatClampNeg (4 : Int32)) (0 : Int32)) q7))))) 8 this 2) + (1 : Int32)))))))))))))) ∧ ((gV S5 8 this 2) = (14 : Int32) → wp_X6_fail (fun r20 S21 => post r20 S21) this (2 : Int32) S5))) ∧ (r4 = (0 : Int32) → wb_X6_addStation_25 post MC MS this S5)) p2 (0 : Int32) (20 : Int32) S3)) p1 (1 : Int32) (9 : Int32) (sV S 8 this 0 (0 : Int32)))
set_option maxHeartbeats 4000000 in
set_option maxRecDepth 100000 in
theorem m_X6_addStation {l : Launch} {D : va_G} {y : Nat → ClassId} {z : Nat} {A : Nat → Prop} {S : bS} {post : Int32 → bS → Prop} {MC MS : Nat} {this : Nat} {p1 : Int32} {p2 : Int32} (h : wp_X6_addStation post MC MS this p1 p2 S) : Met l yX6_addStation wsX6_addStation ({ frames := 1, cells := MC, slots := MS, locals := 60 } : Room) (va_Pc ([Value.ref this, Value.int p1, Value.int p2] : List Value) (bP D y z S A)) (va_Qi post (fun S' t => wd D y z S' A t.heap) A) MC MS A := by
  refine Met.ofW (cc := cX6_addStation) (maxL := 4) (ret := (some .int)) (by decide) rfl ?_
  intro p e s m args below meth c s₁ B hml hv
  obtain ⟨rfl, hB⟩ := hv
  have hx := B.exec
  have hb := B.bytes
  have hr := B.returns
  have hts := atoms_spec (ws := wsX6_addStation) B.pre
  have hown : s.vm.findClass RX6 = some m.cls := findClass_of_methodNamed B.named
  have hlocks := B.notSynchronized
  have hw : wd D y z S A s.heap := hB.1
  have hK : va_K D bCl (bT y) s := hB.2.1
  have hNw := hB.2.2.1
  have hAn : ∀ q : Nat, s.heap.size ≤ q → A q := hB.2.2.2.1
  have hAz : ¬ A z := hB.2.2.2.2.1
  have hO := hB.2.2.2.2.2.1
  have hS : va_S A s.heap s.heap [] := va_S.rf
  have hiX6 : ∀ w ∈ u_ws RX6 TX6 17, w ∈ wsX6_addStation := by decide +kernel
  have hl := lv_entry ([Value.ref this, Value.int p1, Value.int p2] : List Value) (n := 4) (Nat.le_of_ble_eq_true rfl)
  rw [lg_entry_eq]
  generalize (lg_sl ([Value.ref this, Value.int p1, Value.int p2] : List Value) ++ List.replicate (4 - (lg_sl ([Value.ref this, Value.int p1, Value.int p2] : List Value)).length) Slot.unset).toArray = ls at hl ⊢
  have hl : lv_has ls 4 [(0, .ref this), (1, .int p1), (2, .int p2)] := hl
  obtain ⟨Q, hQ⟩ : ∃ Q, Q = MQ below (va_Qi post (fun S' t => wd D y z S' A t.heap) A) (([Value.ref this, Value.int p1, Value.int p2] : List Value).toArray) s MC MS A := ⟨_, rfl⟩
  rw [← hQ]
  generalize hR : (headSpec wsX6_addStation ({ frames := 1, cells := MC, slots := MS, locals := 60 } : Room)).room = R
  have hRf : 1 ≤ R.frames := by rw [← hR]; exact Nat.le_refl _
  have hRl : 60 ≤ R.locals := by rw [← hR]; exact Nat.le_refl _
  have hRc : R.cells = MC := by rw [← hR]; rfl
  have hRs : R.slots = MS := by rw [← hR]; rfl
  have hret : ∀ (v : Int32) (S : bS) (H : Heap) (locs : List Loc) (pc : Nat) (ls : Array Slot) (cu su : Nat) , post v S → wd D y z S A H → va_S A s.heap H locs → cu ≤ MC → su ≤ MS → decode cX6_addStation pc = .ok (.ireturn, 1) → W p l e R s m (([Value.ref this, Value.int p1, Value.int p2] : List Value).toArray) below meth c H locs cu su Q (F0 m pc ls [.int v]) := by
    intro v S H locs pc ls cu su h hw hS hcu hsu d0
    rw [hQ]; refine W.widen hcu hsu ?_; exact W.iret hx hb hr (fun t ht hW => ⟨⟨v, S, rfl, h, by show wd D y z S A t.heap; rw [ht]; exact hw⟩, hS.F ht⟩) hS.2.2 d0 hlocks
  have hB25 : ∀ (S : bS) (H : Heap) (locs : List Loc) (ls : Array Slot) (mc ms cu su : Nat) (v0 : Nat), wb_X6_addStation_25 post mc ms v0 S → wd D y z S A H → va_S A s.heap H locs → lv_has ls 4 [(0, .ref v0)] → cu + mc ≤ MC → su + ms ≤ MS → W p l e R s m (([Value.ref this, Value.int p1, Value.int p2] : List Value).toArray) below meth c H locs cu su Q (F0 m 25 ls []) := by
    intro S H locs ls mc ms cu su v0 h hw hS hl hcu hsu
    unfold wb_X6_addStation_25 at h
    refine lv_aload_n hx hb dX6_addStation_25 rfl (lv_at hl 0 rfl) ?_
    refine lv_iconst (v := (1 : Int32)) hx hb dX6_addStation_26 (by decide) ?_
    obtain ⟨hk22, h⟩ := h
    have h1 := h
    refine va_calli (va_runV (As := [.int (1 : Int32)]) (rest := []) ⟨hx, hb, hml, hown, hts⟩ (m_X6_fail (l := l) h1) (cwV 1 hts gX6_addStation_X6_fail rfl rfl rfl (by decide +kernel) ⟨Nat.le_trans (Nat.le_of_ble_eq_true rfl) hRf, Nat.le_trans (Nat.le_of_ble_eq_true rfl) hRl⟩) (r_pV hB hw hS (ce_8 (S := S) hk22) rfl) rfl rfl hl.1 rfl (lv_room (Nat.le_of_ble_eq_true rfl)) dX6_addStation_27 ⟨by omega, by omega⟩) hS (fun _ _ h => h) (fun _ h => h) (fun r23 S24 t H1 locs ht _ h hw1 _ _ hS => ?_)
    subst ht
    have hw : wd D y z S24 A t.heap := hw1
    clear hw1 h1
    exact hret r23 _ _ _ _ _ _ _ h hw hS (by omega) (by omega) dX6_addStation_30
  unfold wp_X6_addStation at h
  have hcu : 0 + MC ≤ MC := by omega
  have hsu : 0 + MS ≤ MS := by omega
  refine lv_aload_n hx hb dX6_addStation_0 rfl (lv_at hl 0 rfl) ?_
  refine lv_iconst (v := (0 : Int32)) hx hb dX6_addStation_1 (by decide) ?_
  obtain ⟨hk1, h⟩ := h
  refine r_putI (κ := 8) (ci := 7) (C := RX6) (T := TX6) (N := 17) (ty := .int) (x := (0 : Int32)) hx hb hts hiX6 tyX6 tyX6_ok nmX6 hown hK hw hS (ce_8 (S := S) hk1) rfl 0 (by decide) (hts (.fieldLink RX6 31 "TubePostModel" "thrown" "I") (by decide +kernel)) (fun _ h9 => h9) rfl (by decide +kernel) rfl rfl (Nat.le_of_ble_eq_true rfl) (pu_8_0 (S := S) hk1) dX6_addStation_2 (fun H locs hw hS => ?_)
  refine lv_iload_n hx hb dX6_addStation_5 rfl (lv_at hl 1 rfl) ?_
  refine lv_iconst (v := (1 : Int32)) hx hb dX6_addStation_6 (by decide) ?_
  refine lv_bipush (v := (9 : Int32)) hx hb dX6_addStation_7 (by decide) ?_
  have h1 := h
  refine va_calli (va_runS (As := [.int p1, .int (1 : Int32), .int (9 : Int32)]) (rest := []) ⟨hx, hb, hml, hown, hts⟩ (m_X6_isIn (l := l) h1) (cwS 3 hts gX6_addStation_X6_isIn rfl rfl rfl (by decide +kernel) ⟨Nat.le_trans (Nat.le_of_ble_eq_true rfl) hRf, Nat.le_trans (Nat.le_of_ble_eq_true rfl) hRl⟩) (r_pS hB hw hS) rfl rfl hl.1 rfl (lv_room (Nat.le_of_ble_eq_true rfl)) dX6_addStation_9 ⟨by omega, by omega⟩) hS (fun _ _ h => h) (fun _ h => h) (fun r2 S3 t H1 locs ht _ h hw1 _ _ hS => ?_)
  subst ht
  have hw : wd D y z S3 A t.heap := hw1
  clear hw1 h1
  refine lv_if_eq (tgt := 25) hx hb dX6_addStation_12 (by decide) (fun hc => ?_) (fun hc => ?_)
  · have h := h.1 hc
    exact hB25 _ _ _ _ _ _ _ _ _ h hw hS (lv_sub hl [0] rfl) hcu hsu
  · have h := h.2 hc
    refine lv_iload_n hx hb dX6_addStation_15 rfl (lv_at hl 2 rfl) ?_
    refine lv_iconst (v := (0 : Int32)) hx hb dX6_addStation_16 (by decide) ?_
    refine lv_bipush (v := (20 : Int32)) hx hb dX6_addStation_17 (by decide) ?_
    have h1 := h
    refine va_calli (va_runS (As := [.int p2, .int (0 : Int32), .int (20 : Int32)]) (rest := []) ⟨hx, hb, hml, hown, hts⟩ (m_X6_isIn (l := l) h1) (cwS 3 hts gX6_addStation_X6_isIn rfl rfl rfl (by decide +kernel) ⟨Nat.le_trans (Nat.le_of_ble_eq_true rfl) hRf, Nat.le_trans (Nat.le_of_ble_eq_true rfl) hRl⟩) (r_pS hB hw hS) rfl rfl hl.1 rfl (lv_room (Nat.le_of_ble_eq_true rfl)) dX6_addStation_19 ⟨by omega, by omega⟩) hS (fun _ _ h => h) (fun _ h => h) (fun r4 S5 t H1 locs ht _ h hw1 _ _ hS => ?_)
    subst ht
    have hw : wd D y z S5 A t.heap := hw1
    clear hw1 h1
    refine lv_if_ne (tgt := 31) hx hb dX6_addStation_22 (by decide) (fun hc => ?_) (fun hc => ?_)
    · have h := h.1 hc
      refine lv_aload_n hx hb dX6_addStation_31 rfl (lv_at hl 0 rfl) ?_
      obtain ⟨hk6, h⟩ := h
      refine r_get (ci := 7) (v := .int (gV S5 8 this 2)) (C := RX6) (T := TX6) (N := 17) hx hb hts hiX6 hown hK hw (ce_8 (S := S5) hk6) rfl 2 (by decide) (hts (.fieldLink RX6 35 "TubePostModel" "stations" "I") (by decide +kernel)) (fun _ h9 => h9) rfl dX6_addStation_32 ?_
      refine lv_bipush (v := (14 : Int32)) hx hb dX6_addStation_35 (by decide) ?_
      refine lv_icmp_ne (tgt := 46) hx hb dX6_addStation_37 (by decide) (fun hc => ?_) (fun hc => ?_)
      · have h := h.1 hc
        refine lv_iconst (v := (5 : Int32)) hx hb dX6_addStation_46 (by decide) ?_
        obtain ⟨hn0, hn1, hbg1, hbg2, h⟩ := h
        refine r_newa9 hx hb (hts (.arrayClass .int) (by decide +kernel)) hK hw hS hAn hAz hn0 rfl hn1 (by omega) (by omega) dX6_addStation_47 (fun q7 H hq8 hw hS => ?_)
        have h := h q7 hq8
        have hk9 : gK (sNew S5 q7 9 (Int32.toNatClampNeg (5 : Int32))) this = 8 := b_old hk6 hq8 (by decide)
        have hk10 : gK (sNew S5 q7 9 (Int32.toNatClampNeg (5 : Int32))) q7 = 9 := if_pos rfl
        have hcu : (0 + 1) + (MC - 1) ≤ MC := by omega
        have hsu : (0 + (Int32.toNatClampNeg (5 : Int32))) + (MS - (Int32.toNatClampNeg (5 : Int32))) ≤ MS := by omega
        refine lv_dup hx hb dX6_addStation_49 rfl ?_
        refine lv_iconst (v := (0 : Int32)) hx hb dX6_addStation_50 (by decide) ?_
        refine lv_iload_n hx hb dX6_addStation_51 rfl (lv_at hl 1 rfl) ?_
        obtain ⟨hin11, h⟩ := h
        refine r_iast hx hb hK hw hS hk10 hin11 dX6_addStation_52 (fun H locs hw hS => ?_)
        refine lv_dup hx hb dX6_addStation_53 rfl ?_
        refine lv_iconst (v := (1 : Int32)) hx hb dX6_addStation_54 (by decide) ?_
        refine lv_iload_n hx hb dX6_addStation_55 rfl (lv_at hl 2 rfl) ?_
        obtain ⟨hin12, h⟩ := h
        refine r_iast hx hb hK hw hS hk10 hin12 dX6_addStation_56 (fun H locs hw hS => ?_)
        refine lv_dup hx hb dX6_addStation_57 rfl ?_
        refine lv_iconst (v := (2 : Int32)) hx hb dX6_addStation_58 (by decide) ?_
        refine lv_iconst (v := (0 : Int32)) hx hb dX6_addStation_59 (by decide) ?_
        obtain ⟨hin13, h⟩ := h
        refine r_iast hx hb hK hw hS hk10 hin13 dX6_addStation_60 (fun H locs hw hS => ?_)
        refine lv_dup hx hb dX6_addStation_61 rfl ?_
        refine lv_iconst (v := (3 : Int32)) hx hb dX6_addStation_62 (by decide) ?_
        refine lv_iconst (v := (-1 : Int32)) hx hb dX6_addStation_63 (by decide) ?_
        obtain ⟨hin14, h⟩ := h
        refine r_iast hx hb hK hw hS hk10 hin14 dX6_addStation_64 (fun H locs hw hS => ?_)
        refine lv_dup hx hb dX6_addStation_65 rfl ?_
        refine lv_iconst (v := (4 : Int32)) hx hb dX6_addStation_66 (by decide) ?_
        refine lv_iconst (v := (0 : Int32)) hx hb dX6_addStation_67 (by decide) ?_
        obtain ⟨hin15, h⟩ := h
        refine r_iast hx hb hK hw hS hk10 hin15 dX6_addStation_68 (fun H locs hw hS => ?_)
        refine lv_astore_n hx hb dX6_addStation_69 rfl hl (by decide) rfl (fun ls hl => ?_)
        have hl : lv_has ls 4 [(3, .ref q7), (0, .ref this), (1, .int p1), (2, .int p2)] := hl
        refine lv_aload_n hx hb dX6_addStation_70 rfl (lv_at hl 0 rfl) ?_
        refine lv_iconst (v := (0 : Int32)) hx hb dX6_addStation_71 (by decide) ?_
        refine lv_aload_n hx hb dX6_addStation_72 rfl (lv_at hl 1 rfl) ?_
        obtain ⟨b16, hb17, h⟩ := h
        refine r_get (ci := 7) (v := .ref b16) (C := RX6) (T := TX6) (N := 17) hx hb hts hiX6 hown hK hw (ce_8 (S := (sV (sV (sV (sV (sV (sNew S5 q7 9 (Int32.toNatClampNeg (5 : Int32))) 9 q7 (Int32.toNatClampNeg (0 : Int32)) p1) 9 q7 (Int32.toNatClampNeg (1 : Int32)) p2) 9 q7 (Int32.toNatClampNeg (2 : Int32)) (0 : Int32)) 9 q7 (Int32.toNatClampNeg (3 : Int32)) (-1 : Int32)) 9 q7 (Int32.toNatClampNeg (4 : Int32)) (0 : Int32))) hk9) rfl 9 (by decide) (hts (.fieldLink RX6 9 "TubePostModel" "stationTable" "[I") (by decide +kernel)) (fun _ h9 => h9) (congrArg (fun q => some (va_rf q)) hb17) dX6_addStation_73 ?_
        refine lv_bipush (v := (9 : Int32)) hx hb dX6_addStation_76 (by decide) ?_
        refine lv_aload_n hx hb dX6_addStation_78 rfl (lv_at hl 1 rfl) ?_
        refine r_get (ci := 7) (v := .int (gV (sV (sV (sV (sV (sV (sNew S5 q7 9 (Int32.toNatClampNeg (5 : Int32))) 9 q7 (Int32.toNatClampNeg (0 : Int32)) p1) 9 q7 (Int32.toNatClampNeg (1 : Int32)) p2) 9 q7 (Int32.toNatClampNeg (2 : Int32)) (0 : Int32)) 9 q7 (Int32.toNatClampNeg (3 : Int32)) (-1 : Int32)) 9 q7 (Int32.toNatClampNeg (4 : Int32)) (0 : Int32)) 8 this 2)) (C := RX6) (T := TX6) (N := 17) hx hb hts hiX6 hown hK hw (ce_8 (S := (sV (sV (sV (sV (sV (sNew S5 q7 9 (Int32.toNatClampNeg (5 : Int32))) 9 q7 (Int32.toNatClampNeg (0 : Int32)) p1) 9 q7 (Int32.toNatClampNeg (1 : Int32)) p2) 9 q7 (Int32.toNatClampNeg (2 : Int32)) (0 : Int32)) 9 q7 (Int32.toNatClampNeg (3 : Int32)) (-1 : Int32)) 9 q7 (Int32.toNatClampNeg (4 : Int32)) (0 : Int32))) hk9) rfl 2 (by decide) (hts (.fieldLink RX6 35 "TubePostModel" "stations" "I") (by decide +kernel)) (fun _ h9 => h9) rfl dX6_addStation_79 ?_
        refine lv_imul hx hb dX6_addStation_82 ?_
        refine lv_aload_n hx hb dX6_addStation_83 rfl (lv_at hl 0 rfl) ?_
        refine r_alen hx hb hK hw (S := (sV (sV (sV (sV (sV (sNew S5 q7 9 (Int32.toNatClampNeg (5 : Int32))) 9 q7 (Int32.toNatClampNeg (0 : Int32)) p1) 9 q7 (Int32.toNatClampNeg (1 : Int32)) p2) 9 q7 (Int32.toNatClampNeg (2 : Int32)) (0 : Int32)) 9 q7 (Int32.toNatClampNeg (3 : Int32)) (-1 : Int32)) 9 q7 (Int32.toNatClampNeg (4 : Int32)) (0 : Int32))) (by rw [show gK (sV (sV (sV (sV (sV (sNew S5 q7 9 (Int32.toNatClampNeg (5 : Int32))) 9 q7 (Int32.toNatClampNeg (0 : Int32)) p1) 9 q7 (Int32.toNatClampNeg (1 : Int32)) p2) 9 q7 (Int32.toNatClampNeg (2 : Int32)) (0 : Int32)) 9 q7 (Int32.toNatClampNeg (3 : Int32)) (-1 : Int32)) 9 q7 (Int32.toNatClampNeg (4 : Int32)) (0 : Int32)) q7 = 9 from hk10]; decide) rfl dX6_addStation_84 ?_
        obtain ⟨hk18, h⟩ := h
        obtain ⟨hc19, h⟩ := h
        refine r_copyi hx hb (by rw [hml]; exact hl.1.symm) hown (hts (.methodLink RX6 49 arraycopyName) (by decide +kernel)) (hts (.native arraycopyName) (by decide +kernel)) (hts (.static arraycopyName) (by decide +kernel)) (hts (.initialized "java/lang/System") (by decide +kernel)) hK hw hS hk10 hk18 hc19 (Nat.le_trans (Nat.le_of_ble_eq_true rfl) hRf) (Nat.le_trans (by decide) hRl) dX6_addStation_85 (fun H locs hw hS => ?_)
        refine lv_aload_n hx hb dX6_addStation_88 rfl (lv_at hl 1 rfl) ?_
        refine lv_dup hx hb dX6_addStation_89 rfl ?_
        refine r_get (ci := 7) (v := .int (gV (sF (sV (sV (sV (sV (sV (sNew S5 q7 9 (Int32.toNatClampNeg (5 : Int32))) 9 q7 (Int32.toNatClampNeg (0 : Int32)) p1) 9 q7 (Int32.toNatClampNeg (1 : Int32)) p2) 9 q7 (Int32.toNatClampNeg (2 : Int32)) (0 : Int32)) 9 q7 (Int32.toNatClampNeg (3 : Int32)) (-1 : Int32)) 9 q7 (Int32.toNatClampNeg (4 : Int32)) (0 : Int32)) 9 b16 (va_cpy (gV (sV (sV (sV (sV (sV (sNew S5 q7 9 (Int32.toNatClampNeg (5 : Int32))) 9 q7 (Int32.toNatClampNeg (0 : Int32)) p1) 9 q7 (Int32.toNatClampNeg (1 : Int32)) p2) 9 q7 (Int32.toNatClampNeg (2 : Int32)) (0 : Int32)) 9 q7 (Int32.toNatClampNeg (3 : Int32)) (-1 : Int32)) 9 q7 (Int32.toNatClampNeg (4 : Int32)) (0 : Int32)) 9 q7) (gV (sV (sV (sV (sV (sV (sNew S5 q7 9 (Int32.toNatClampNeg (5 : Int32))) 9 q7 (Int32.toNatClampNeg (0 : Int32)) p1) 9 q7 (Int32.toNatClampNeg (1 : Int32)) p2) 9 q7 (Int32.toNatClampNeg (2 : Int32)) (0 : Int32)) 9 q7 (Int32.toNatClampNeg (3 : Int32)) (-1 : Int32)) 9 q7 (Int32.toNatClampNeg (4 : Int32)) (0 : Int32)) 9 b16) (Int32.toNatClampNeg (0 : Int32)) (Int32.toNatClampNeg ((9 : Int32) * (gV (sV (sV (sV (sV (sV (sNew S5 q7 9 (Int32.toNatClampNeg (5 : Int32))) 9 q7 (Int32.toNatClampNeg (0 : Int32)) p1) 9 q7 (Int32.toNatClampNeg (1 : Int32)) p2) 9 q7 (Int32.toNatClampNeg (2 : Int32)) (0 : Int32)) 9 q7 (Int32.toNatClampNeg (3 : Int32)) (-1 : Int32)) 9 q7 (Int32.toNatClampNeg (4 : Int32)) (0 : Int32)) 8 this 2))) (Int32.toNatClampNeg (Int32.ofNat (gN (sV (sV (sV (sV (sV (sNew S5 q7 9 (Int32.toNatClampNeg (5 : Int32))) 9 q7 (Int32.toNatClampNeg (0 : Int32)) p1) 9 q7 (Int32.toNatClampNeg (1 : Int32)) p2) 9 q7 (Int32.toNatClampNeg (2 : Int32)) (0 : Int32)) 9 q7 (Int32.toNatClampNeg (3 : Int32)) (-1 : Int32)) 9 q7 (Int32.toNatClampNeg (4 : Int32)) (0 : Int32)) q7))))) 8 this 2)) (C := RX6) (T := TX6) (N := 17) hx hb hts hiX6 hown hK hw (ce_8 (S := (sF (sV (sV (sV (sV (sV (sNew S5 q7 9 (Int32.toNatClampNeg (5 : Int32))) 9 q7 (Int32.toNatClampNeg (0 : Int32)) p1) 9 q7 (Int32.toNatClampNeg (1 : Int32)) p2) 9 q7 (Int32.toNatClampNeg (2 : Int32)) (0 : Int32)) 9 q7 (Int32.toNatClampNeg (3 : Int32)) (-1 : Int32)) 9 q7 (Int32.toNatClampNeg (4 : Int32)) (0 : Int32)) 9 b16 (va_cpy (gV (sV (sV (sV (sV (sV (sNew S5 q7 9 (Int32.toNatClampNeg (5 : Int32))) 9 q7 (Int32.toNatClampNeg (0 : Int32)) p1) 9 q7 (Int32.toNatClampNeg (1 : Int32)) p2) 9 q7 (Int32.toNatClampNeg (2 : Int32)) (0 : Int32)) 9 q7 (Int32.toNatClampNeg (3 : Int32)) (-1 : Int32)) 9 q7 (Int32.toNatClampNeg (4 : Int32)) (0 : Int32)) 9 q7) (gV (sV (sV (sV (sV (sV (sNew S5 q7 9 (Int32.toNatClampNeg (5 : Int32))) 9 q7 (Int32.toNatClampNeg (0 : Int32)) p1) 9 q7 (Int32.toNatClampNeg (1 : Int32)) p2) 9 q7 (Int32.toNatClampNeg (2 : Int32)) (0 : Int32)) 9 q7 (Int32.toNatClampNeg (3 : Int32)) (-1 : Int32)) 9 q7 (Int32.toNatClampNeg (4 : Int32)) (0 : Int32)) 9 b16) (Int32.toNatClampNeg (0 : Int32)) (Int32.toNatClampNeg ((9 : Int32) * (gV (sV (sV (sV (sV (sV (sNew S5 q7 9 (Int32.toNatClampNeg (5 : Int32))) 9 q7 (Int32.toNatClampNeg (0 : Int32)) p1) 9 q7 (Int32.toNatClampNeg (1 : Int32)) p2) 9 q7 (Int32.toNatClampNeg (2 : Int32)) (0 : Int32)) 9 q7 (Int32.toNatClampNeg (3 : Int32)) (-1 : Int32)) 9 q7 (Int32.toNatClampNeg (4 : Int32)) (0 : Int32)) 8 this 2))) (Int32.toNatClampNeg (Int32.ofNat (gN (sV (sV (sV (sV (sV (sNew S5 q7 9 (Int32.toNatClampNeg (5 : Int32))) 9 q7 (Int32.toNatClampNeg (0 : Int32)) p1) 9 q7 (Int32.toNatClampNeg (1 : Int32)) p2) 9 q7 (Int32.toNatClampNeg (2 : Int32)) (0 : Int32)) 9 q7 (Int32.toNatClampNeg (3 : Int32)) (-1 : Int32)) 9 q7 (Int32.toNatClampNeg (4 : Int32)) (0 : Int32)) q7)))))) hk9) rfl 2 (by decide) (hts (.fieldLink RX6 35 "TubePostModel" "stations" "I") (by decide +kernel)) (fun _ h9 => h9) rfl dX6_addStation_90 ?_
        refine lv_iconst (v := (1 : Int32)) hx hb dX6_addStation_93 (by decide) ?_
        refine lv_iadd hx hb dX6_addStation_94 ?_
        refine r_putI (κ := 8) (ci := 7) (C := RX6) (T := TX6) (N := 17) (ty := .int) (x := ((gV (sF (sV (sV (sV (sV (sV (sNew S5 q7 9 (Int32.toNatClampNeg (5 : Int32))) 9 q7 (Int32.toNatClampNeg (0 : Int32)) p1) 9 q7 (Int32.toNatClampNeg (1 : Int32)) p2) 9 q7 (Int32.toNatClampNeg (2 : Int32)) (0 : Int32)) 9 q7 (Int32.toNatClampNeg (3 : Int32)) (-1 : Int32)) 9 q7 (Int32.toNatClampNeg (4 : Int32)) (0 : Int32)) 9 b16 (va_cpy (gV (sV (sV (sV (sV (sV (sNew S5 q7 9 (Int32.toNatClampNeg (5 : Int32))) 9 q7 (Int32.toNatClampNeg (0 : Int32)) p1) 9 q7 (Int32.toNatClampNeg (1 : Int32)) p2) 9 q7 (Int32.toNatClampNeg (2 : Int32)) (0 : Int32)) 9 q7 (Int32.toNatClampNeg (3 : Int32)) (-1 : Int32)) 9 q7 (Int32.toNatClampNeg (4 : Int32)) (0 : Int32)) 9 q7) (gV (sV (sV (sV (sV (sV (sNew S5 q7 9 (Int32.toNatClampNeg (5 : Int32))) 9 q7 (Int32.toNatClampNeg (0 : Int32)) p1) 9 q7 (Int32.toNatClampNeg (1 : Int32)) p2) 9 q7 (Int32.toNatClampNeg (2 : Int32)) (0 : Int32)) 9 q7 (Int32.toNatClampNeg (3 : Int32)) (-1 : Int32)) 9 q7 (Int32.toNatClampNeg (4 : Int32)) (0 : Int32)) 9 b16) (Int32.toNatClampNeg (0 : Int32)) (Int32.toNatClampNeg ((9 : Int32) * (gV (sV (sV (sV (sV (sV (sNew S5 q7 9 (Int32.toNatClampNeg (5 : Int32))) 9 q7 (Int32.toNatClampNeg (0 : Int32)) p1) 9 q7 (Int32.toNatClampNeg (1 : Int32)) p2) 9 q7 (Int32.toNatClampNeg (2 : Int32)) (0 : Int32)) 9 q7 (Int32.toNatClampNeg (3 : Int32)) (-1 : Int32)) 9 q7 (Int32.toNatClampNeg (4 : Int32)) (0 : Int32)) 8 this 2))) (Int32.toNatClampNeg (Int32.ofNat (gN (sV (sV (sV (sV (sV (sNew S5 q7 9 (Int32.toNatClampNeg (5 : Int32))) 9 q7 (Int32.toNatClampNeg (0 : Int32)) p1) 9 q7 (Int32.toNatClampNeg (1 : Int32)) p2) 9 q7 (Int32.toNatClampNeg (2 : Int32)) (0 : Int32)) 9 q7 (Int32.toNatClampNeg (3 : Int32)) (-1 : Int32)) 9 q7 (Int32.toNatClampNeg (4 : Int32)) (0 : Int32)) q7))))) 8 this 2) + (1 : Int32))) hx hb hts hiX6 tyX6 tyX6_ok nmX6 hown hK hw hS (ce_8 (S := (sF (sV (sV (sV (sV (sV (sNew S5 q7 9 (Int32.toNatClampNeg (5 : Int32))) 9 q7 (Int32.toNatClampNeg (0 : Int32)) p1) 9 q7 (Int32.toNatClampNeg (1 : Int32)) p2) 9 q7 (Int32.toNatClampNeg (2 : Int32)) (0 : Int32)) 9 q7 (Int32.toNatClampNeg (3 : Int32)) (-1 : Int32)) 9 q7 (Int32.toNatClampNeg (4 : Int32)) (0 : Int32)) 9 b16 (va_cpy (gV (sV (sV (sV (sV (sV (sNew S5 q7 9 (Int32.toNatClampNeg (5 : Int32))) 9 q7 (Int32.toNatClampNeg (0 : Int32)) p1) 9 q7 (Int32.toNatClampNeg (1 : Int32)) p2) 9 q7 (Int32.toNatClampNeg (2 : Int32)) (0 : Int32)) 9 q7 (Int32.toNatClampNeg (3 : Int32)) (-1 : Int32)) 9 q7 (Int32.toNatClampNeg (4 : Int32)) (0 : Int32)) 9 q7) (gV (sV (sV (sV (sV (sV (sNew S5 q7 9 (Int32.toNatClampNeg (5 : Int32))) 9 q7 (Int32.toNatClampNeg (0 : Int32)) p1) 9 q7 (Int32.toNatClampNeg (1 : Int32)) p2) 9 q7 (Int32.toNatClampNeg (2 : Int32)) (0 : Int32)) 9 q7 (Int32.toNatClampNeg (3 : Int32)) (-1 : Int32)) 9 q7 (Int32.toNatClampNeg (4 : Int32)) (0 : Int32)) 9 b16) (Int32.toNatClampNeg (0 : Int32)) (Int32.toNatClampNeg ((9 : Int32) * (gV (sV (sV (sV (sV (sV (sNew S5 q7 9 (Int32.toNatClampNeg (5 : Int32))) 9 q7 (Int32.toNatClampNeg (0 : Int32)) p1) 9 q7 (Int32.toNatClampNeg (1 : Int32)) p2) 9 q7 (Int32.toNatClampNeg (2 : Int32)) (0 : Int32)) 9 q7 (Int32.toNatClampNeg (3 : Int32)) (-1 : Int32)) 9 q7 (Int32.toNatClampNeg (4 : Int32)) (0 : Int32)) 8 this 2))) (Int32.toNatClampNeg (Int32.ofNat (gN (sV (sV (sV (sV (sV (sNew S5 q7 9 (Int32.toNatClampNeg (5 : Int32))) 9 q7 (Int32.toNatClampNeg (0 : Int32)) p1) 9 q7 (Int32.toNatClampNeg (1 : Int32)) p2) 9 q7 (Int32.toNatClampNeg (2 : Int32)) (0 : Int32)) 9 q7 (Int32.toNatClampNeg (3 : Int32)) (-1 : Int32)) 9 q7 (Int32.toNatClampNeg (4 : Int32)) (0 : Int32)) q7)))))) hk9) rfl 2 (by decide) (hts (.fieldLink RX6 35 "TubePostModel" "stations" "I") (by decide +kernel)) (fun _ h9 => h9) rfl (by decide +kernel) rfl rfl (Nat.le_of_ble_eq_true rfl) (pu_8_2 (S := (sF (sV (sV (sV (sV (sV (sNew S5 q7 9 (Int32.toNatClampNeg (5 : Int32))) 9 q7 (Int32.toNatClampNeg (0 : Int32)) p1) 9 q7 (Int32.toNatClampNeg (1 : Int32)) p2) 9 q7 (Int32.toNatClampNeg (2 : Int32)) (0 : Int32)) 9 q7 (Int32.toNatClampNeg (3 : Int32)) (-1 : Int32)) 9 q7 (Int32.toNatClampNeg (4 : Int32)) (0 : Int32)) 9 b16 (va_cpy (gV (sV (sV (sV (sV (sV (sNew S5 q7 9 (Int32.toNatClampNeg (5 : Int32))) 9 q7 (Int32.toNatClampNeg (0 : Int32)) p1) 9 q7 (Int32.toNatClampNeg (1 : Int32)) p2) 9 q7 (Int32.toNatClampNeg (2 : Int32)) (0 : Int32)) 9 q7 (Int32.toNatClampNeg (3 : Int32)) (-1 : Int32)) 9 q7 (Int32.toNatClampNeg (4 : Int32)) (0 : Int32)) 9 q7) (gV (sV (sV (sV (sV (sV (sNew S5 q7 9 (Int32.toNatClampNeg (5 : Int32))) 9 q7 (Int32.toNatClampNeg (0 : Int32)) p1) 9 q7 (Int32.toNatClampNeg (1 : Int32)) p2) 9 q7 (Int32.toNatClampNeg (2 : Int32)) (0 : Int32)) 9 q7 (Int32.toNatClampNeg (3 : Int32)) (-1 : Int32)) 9 q7 (Int32.toNatClampNeg (4 : Int32)) (0 : Int32)) 9 b16) (Int32.toNatClampNeg (0 : Int32)) (Int32.toNatClampNeg ((9 : Int32) * (gV (sV (sV (sV (sV (sV (sNew S5 q7 9 (Int32.toNatClampNeg (5 : Int32))) 9 q7 (Int32.toNatClampNeg (0 : Int32)) p1) 9 q7 (Int32.toNatClampNeg (1 : Int32)) p2) 9 q7 (Int32.toNatClampNeg (2 : Int32)) (0 : Int32)) 9 q7 (Int32.toNatClampNeg (3 : Int32)) (-1 : Int32)) 9 q7 (Int32.toNatClampNeg (4 : Int32)) (0 : Int32)) 8 this 2))) (Int32.toNatClampNeg (Int32.ofNat (gN (sV (sV (sV (sV (sV (sNew S5 q7 9 (Int32.toNatClampNeg (5 : Int32))) 9 q7 (Int32.toNatClampNeg (0 : Int32)) p1) 9 q7 (Int32.toNatClampNeg (1 : Int32)) p2) 9 q7 (Int32.toNatClampNeg (2 : Int32)) (0 : Int32)) 9 q7 (Int32.toNatClampNeg (3 : Int32)) (-1 : Int32)) 9 q7 (Int32.toNatClampNeg (4 : Int32)) (0 : Int32)) q7)))))) hk9) dX6_addStation_95 (fun H locs hw hS => ?_)
        refine lv_aload_n hx hb dX6_addStation_98 rfl (lv_at hl 1 rfl) ?_
        refine r_get (ci := 7) (v := .int (gV (sV (sF (sV (sV (sV (sV (sV (sNew S5 q7 9 (Int32.toNatClampNeg (5 : Int32))) 9 q7 (Int32.toNatClampNeg (0 : Int32)) p1) 9 q7 (Int32.toNatClampNeg (1 : Int32)) p2) 9 q7 (Int32.toNatClampNeg (2 : Int32)) (0 : Int32)) 9 q7 (Int32.toNatClampNeg (3 : Int32)) (-1 : Int32)) 9 q7 (Int32.toNatClampNeg (4 : Int32)) (0 : Int32)) 9 b16 (va_cpy (gV (sV (sV (sV (sV (sV (sNew S5 q7 9 (Int32.toNatClampNeg (5 : Int32))) 9 q7 (Int32.toNatClampNeg (0 : Int32)) p1) 9 q7 (Int32.toNatClampNeg (1 : Int32)) p2) 9 q7 (Int32.toNatClampNeg (2 : Int32)) (0 : Int32)) 9 q7 (Int32.toNatClampNeg (3 : Int32)) (-1 : Int32)) 9 q7 (Int32.toNatClampNeg (4 : Int32)) (0 : Int32)) 9 q7) (gV (sV (sV (sV (sV (sV (sNew S5 q7 9 (Int32.toNatClampNeg (5 : Int32))) 9 q7 (Int32.toNatClampNeg (0 : Int32)) p1) 9 q7 (Int32.toNatClampNeg (1 : Int32)) p2) 9 q7 (Int32.toNatClampNeg (2 : Int32)) (0 : Int32)) 9 q7 (Int32.toNatClampNeg (3 : Int32)) (-1 : Int32)) 9 q7 (Int32.toNatClampNeg (4 : Int32)) (0 : Int32)) 9 b16) (Int32.toNatClampNeg (0 : Int32)) (Int32.toNatClampNeg ((9 : Int32) * (gV (sV (sV (sV (sV (sV (sNew S5 q7 9 (Int32.toNatClampNeg (5 : Int32))) 9 q7 (Int32.toNatClampNeg (0 : Int32)) p1) 9 q7 (Int32.toNatClampNeg (1 : Int32)) p2) 9 q7 (Int32.toNatClampNeg (2 : Int32)) (0 : Int32)) 9 q7 (Int32.toNatClampNeg (3 : Int32)) (-1 : Int32)) 9 q7 (Int32.toNatClampNeg (4 : Int32)) (0 : Int32)) 8 this 2))) (Int32.toNatClampNeg (Int32.ofNat (gN (sV (sV (sV (sV (sV (sNew S5 q7 9 (Int32.toNatClampNeg (5 : Int32))) 9 q7 (Int32.toNatClampNeg (0 : Int32)) p1) 9 q7 (Int32.toNatClampNeg (1 : Int32)) p2) 9 q7 (Int32.toNatClampNeg (2 : Int32)) (0 : Int32)) 9 q7 (Int32.toNatClampNeg (3 : Int32)) (-1 : Int32)) 9 q7 (Int32.toNatClampNeg (4 : Int32)) (0 : Int32)) q7))))) 8 this 2 ((gV (sF (sV (sV (sV (sV (sV (sNew S5 q7 9 (Int32.toNatClampNeg (5 : Int32))) 9 q7 (Int32.toNatClampNeg (0 : Int32)) p1) 9 q7 (Int32.toNatClampNeg (1 : Int32)) p2) 9 q7 (Int32.toNatClampNeg (2 : Int32)) (0 : Int32)) 9 q7 (Int32.toNatClampNeg (3 : Int32)) (-1 : Int32)) 9 q7 (Int32.toNatClampNeg (4 : Int32)) (0 : Int32)) 9 b16 (va_cpy (gV (sV (sV (sV (sV (sV (sNew S5 q7 9 (Int32.toNatClampNeg (5 : Int32))) 9 q7 (Int32.toNatClampNeg (0 : Int32)) p1) 9 q7 (Int32.toNatClampNeg (1 : Int32)) p2) 9 q7 (Int32.toNatClampNeg (2 : Int32)) (0 : Int32)) 9 q7 (Int32.toNatClampNeg (3 : Int32)) (-1 : Int32)) 9 q7 (Int32.toNatClampNeg (4 : Int32)) (0 : Int32)) 9 q7) (gV (sV (sV (sV (sV (sV (sNew S5 q7 9 (Int32.toNatClampNeg (5 : Int32))) 9 q7 (Int32.toNatClampNeg (0 : Int32)) p1) 9 q7 (Int32.toNatClampNeg (1 : Int32)) p2) 9 q7 (Int32.toNatClampNeg (2 : Int32)) (0 : Int32)) 9 q7 (Int32.toNatClampNeg (3 : Int32)) (-1 : Int32)) 9 q7 (Int32.toNatClampNeg (4 : Int32)) (0 : Int32)) 9 b16) (Int32.toNatClampNeg (0 : Int32)) (Int32.toNatClampNeg ((9 : Int32) * (gV (sV (sV (sV (sV (sV (sNew S5 q7 9 (Int32.toNatClampNeg (5 : Int32))) 9 q7 (Int32.toNatClampNeg (0 : Int32)) p1) 9 q7 (Int32.toNatClampNeg (1 : Int32)) p2) 9 q7 (Int32.toNatClampNeg (2 : Int32)) (0 : Int32)) 9 q7 (Int32.toNatClampNeg (3 : Int32)) (-1 : Int32)) 9 q7 (Int32.toNatClampNeg (4 : Int32)) (0 : Int32)) 8 this 2))) (Int32.toNatClampNeg (Int32.ofNat (gN (sV (sV (sV (sV (sV (sNew S5 q7 9 (Int32.toNatClampNeg (5 : Int32))) 9 q7 (Int32.toNatClampNeg (0 : Int32)) p1) 9 q7 (Int32.toNatClampNeg (1 : Int32)) p2) 9 q7 (Int32.toNatClampNeg (2 : Int32)) (0 : Int32)) 9 q7 (Int32.toNatClampNeg (3 : Int32)) (-1 : Int32)) 9 q7 (Int32.toNatClampNeg (4 : Int32)) (0 : Int32)) q7))))) 8 this 2) + (1 : Int32))) 8 this 2)) (C := RX6) (T := TX6) (N := 17) hx hb hts hiX6 hown hK hw (ce_8 (S := (sV (sF (sV (sV (sV (sV (sV (sNew S5 q7 9 (Int32.toNatClampNeg (5 : Int32))) 9 q7 (Int32.toNatClampNeg (0 : Int32)) p1) 9 q7 (Int32.toNatClampNeg (1 : Int32)) p2) 9 q7 (Int32.toNatClampNeg (2 : Int32)) (0 : Int32)) 9 q7 (Int32.toNatClampNeg (3 : Int32)) (-1 : Int32)) 9 q7 (Int32.toNatClampNeg (4 : Int32)) (0 : Int32)) 9 b16 (va_cpy (gV (sV (sV (sV (sV (sV (sNew S5 q7 9 (Int32.toNatClampNeg (5 : Int32))) 9 q7 (Int32.toNatClampNeg (0 : Int32)) p1) 9 q7 (Int32.toNatClampNeg (1 : Int32)) p2) 9 q7 (Int32.toNatClampNeg (2 : Int32)) (0 : Int32)) 9 q7 (Int32.toNatClampNeg (3 : Int32)) (-1 : Int32)) 9 q7 (Int32.toNatClampNeg (4 : Int32)) (0 : Int32)) 9 q7) (gV (sV (sV (sV (sV (sV (sNew S5 q7 9 (Int32.toNatClampNeg (5 : Int32))) 9 q7 (Int32.toNatClampNeg (0 : Int32)) p1) 9 q7 (Int32.toNatClampNeg (1 : Int32)) p2) 9 q7 (Int32.toNatClampNeg (2 : Int32)) (0 : Int32)) 9 q7 (Int32.toNatClampNeg (3 : Int32)) (-1 : Int32)) 9 q7 (Int32.toNatClampNeg (4 : Int32)) (0 : Int32)) 9 b16) (Int32.toNatClampNeg (0 : Int32)) (Int32.toNatClampNeg ((9 : Int32) * (gV (sV (sV (sV (sV (sV (sNew S5 q7 9 (Int32.toNatClampNeg (5 : Int32))) 9 q7 (Int32.toNatClampNeg (0 : Int32)) p1) 9 q7 (Int32.toNatClampNeg (1 : Int32)) p2) 9 q7 (Int32.toNatClampNeg (2 : Int32)) (0 : Int32)) 9 q7 (Int32.toNatClampNeg (3 : Int32)) (-1 : Int32)) 9 q7 (Int32.toNatClampNeg (4 : Int32)) (0 : Int32)) 8 this 2))) (Int32.toNatClampNeg (Int32.ofNat (gN (sV (sV (sV (sV (sV (sNew S5 q7 9 (Int32.toNatClampNeg (5 : Int32))) 9 q7 (Int32.toNatClampNeg (0 : Int32)) p1) 9 q7 (Int32.toNatClampNeg (1 : Int32)) p2) 9 q7 (Int32.toNatClampNeg (2 : Int32)) (0 : Int32)) 9 q7 (Int32.toNatClampNeg (3 : Int32)) (-1 : Int32)) 9 q7 (Int32.toNatClampNeg (4 : Int32)) (0 : Int32)) q7))))) 8 this 2 ((gV (sF (sV (sV (sV (sV (sV (sNew S5 q7 9 (Int32.toNatClampNeg (5 : Int32))) 9 q7 (Int32.toNatClampNeg (0 : Int32)) p1) 9 q7 (Int32.toNatClampNeg (1 : Int32)) p2) 9 q7 (Int32.toNatClampNeg (2 : Int32)) (0 : Int32)) 9 q7 (Int32.toNatClampNeg (3 : Int32)) (-1 : Int32)) 9 q7 (Int32.toNatClampNeg (4 : Int32)) (0 : Int32)) 9 b16 (va_cpy (gV (sV (sV (sV (sV (sV (sNew S5 q7 9 (Int32.toNatClampNeg (5 : Int32))) 9 q7 (Int32.toNatClampNeg (0 : Int32)) p1) 9 q7 (Int32.toNatClampNeg (1 : Int32)) p2) 9 q7 (Int32.toNatClampNeg (2 : Int32)) (0 : Int32)) 9 q7 (Int32.toNatClampNeg (3 : Int32)) (-1 : Int32)) 9 q7 (Int32.toNatClampNeg (4 : Int32)) (0 : Int32)) 9 q7) (gV (sV (sV (sV (sV (sV (sNew S5 q7 9 (Int32.toNatClampNeg (5 : Int32))) 9 q7 (Int32.toNatClampNeg (0 : Int32)) p1) 9 q7 (Int32.toNatClampNeg (1 : Int32)) p2) 9 q7 (Int32.toNatClampNeg (2 : Int32)) (0 : Int32)) 9 q7 (Int32.toNatClampNeg (3 : Int32)) (-1 : Int32)) 9 q7 (Int32.toNatClampNeg (4 : Int32)) (0 : Int32)) 9 b16) (Int32.toNatClampNeg (0 : Int32)) (Int32.toNatClampNeg ((9 : Int32) * (gV (sV (sV (sV (sV (sV (sNew S5 q7 9 (Int32.toNatClampNeg (5 : Int32))) 9 q7 (Int32.toNatClampNeg (0 : Int32)) p1) 9 q7 (Int32.toNatClampNeg (1 : Int32)) p2) 9 q7 (Int32.toNatClampNeg (2 : Int32)) (0 : Int32)) 9 q7 (Int32.toNatClampNeg (3 : Int32)) (-1 : Int32)) 9 q7 (Int32.toNatClampNeg (4 : Int32)) (0 : Int32)) 8 this 2))) (Int32.toNatClampNeg (Int32.ofNat (gN (sV (sV (sV (sV (sV (sNew S5 q7 9 (Int32.toNatClampNeg (5 : Int32))) 9 q7 (Int32.toNatClampNeg (0 : Int32)) p1) 9 q7 (Int32.toNatClampNeg (1 : Int32)) p2) 9 q7 (Int32.toNatClampNeg (2 : Int32)) (0 : Int32)) 9 q7 (Int32.toNatClampNeg (3 : Int32)) (-1 : Int32)) 9 q7 (Int32.toNatClampNeg (4 : Int32)) (0 : Int32)) q7))))) 8 this 2) + (1 : Int32)))) hk9) rfl 2 (by decide) (hts (.fieldLink RX6 35 "TubePostModel" "stations" "I") (by decide +kernel)) (fun _ h9 => h9) rfl dX6_addStation_99 ?_
        refine lv_iconst (v := (1 : Int32)) hx hb dX6_addStation_102 (by decide) ?_
        refine lv_isub hx hb dX6_addStation_103 ?_
        exact hret ((gV (sV (sF (sV (sV (sV (sV (sV (sNew S5 q7 9 (Int32.toNatClampNeg (5 : Int32))) 9 q7 (Int32.toNatClampNeg (0 : Int32)) p1) 9 q7 (Int32.toNatClampNeg (1 : Int32)) p2) 9 q7 (Int32.toNatClampNeg (2 : Int32)) (0 : Int32)) 9 q7 (Int32.toNatClampNeg (3 : Int32)) (-1 : Int32)) 9 q7 (Int32.toNatClampNeg (4 : Int32)) (0 : Int32)) 9 b16 (va_cpy (gV (sV (sV (sV (sV (sV (sNew S5 q7 9 (Int32.toNatClampNeg (5 : Int32))) 9 q7 (Int32.toNatClampNeg (0 : Int32)) p1) 9 q7 (Int32.toNatClampNeg (1 : Int32)) p2) 9 q7 (Int32.toNatClampNeg (2 : Int32)) (0 : Int32)) 9 q7 (Int32.toNatClampNeg (3 : Int32)) (-1 : Int32)) 9 q7 (Int32.toNatClampNeg (4 : Int32)) (0 : Int32)) 9 q7) (gV (sV (sV (sV (sV (sV (sNew S5 q7 9 (Int32.toNatClampNeg (5 : Int32))) 9 q7 (Int32.toNatClampNeg (0 : Int32)) p1) 9 q7 (Int32.toNatClampNeg (1 : Int32)) p2) 9 q7 (Int32.toNatClampNeg (2 : Int32)) (0 : Int32)) 9 q7 (Int32.toNatClampNeg (3 : Int32)) (-1 : Int32)) 9 q7 (Int32.toNatClampNeg (4 : Int32)) (0 : Int32)) 9 b16) (Int32.toNatClampNeg (0 : Int32)) (Int32.toNatClampNeg ((9 : Int32) * (gV (sV (sV (sV (sV (sV (sNew S5 q7 9 (Int32.toNatClampNeg (5 : Int32))) 9 q7 (Int32.toNatClampNeg (0 : Int32)) p1) 9 q7 (Int32.toNatClampNeg (1 : Int32)) p2) 9 q7 (Int32.toNatClampNeg (2 : Int32)) (0 : Int32)) 9 q7 (Int32.toNatClampNeg (3 : Int32)) (-1 : Int32)) 9 q7 (Int32.toNatClampNeg (4 : Int32)) (0 : Int32)) 8 this 2))) (Int32.toNatClampNeg (Int32.ofNat (gN (sV (sV (sV (sV (sV (sNew S5 q7 9 (Int32.toNatClampNeg (5 : Int32))) 9 q7 (Int32.toNatClampNeg (0 : Int32)) p1) 9 q7 (Int32.toNatClampNeg (1 : Int32)) p2) 9 q7 (Int32.toNatClampNeg (2 : Int32)) (0 : Int32)) 9 q7 (Int32.toNatClampNeg (3 : Int32)) (-1 : Int32)) 9 q7 (Int32.toNatClampNeg (4 : Int32)) (0 : Int32)) q7))))) 8 this 2 ((gV (sF (sV (sV (sV (sV (sV (sNew S5 q7 9 (Int32.toNatClampNeg (5 : Int32))) 9 q7 (Int32.toNatClampNeg (0 : Int32)) p1) 9 q7 (Int32.toNatClampNeg (1 : Int32)) p2) 9 q7 (Int32.toNatClampNeg (2 : Int32)) (0 : Int32)) 9 q7 (Int32.toNatClampNeg (3 : Int32)) (-1 : Int32)) 9 q7 (Int32.toNatClampNeg (4 : Int32)) (0 : Int32)) 9 b16 (va_cpy (gV (sV (sV (sV (sV (sV (sNew S5 q7 9 (Int32.toNatClampNeg (5 : Int32))) 9 q7 (Int32.toNatClampNeg (0 : Int32)) p1) 9 q7 (Int32.toNatClampNeg (1 : Int32)) p2) 9 q7 (Int32.toNatClampNeg (2 : Int32)) (0 : Int32)) 9 q7 (Int32.toNatClampNeg (3 : Int32)) (-1 : Int32)) 9 q7 (Int32.toNatClampNeg (4 : Int32)) (0 : Int32)) 9 q7) (gV (sV (sV (sV (sV (sV (sNew S5 q7 9 (Int32.toNatClampNeg (5 : Int32))) 9 q7 (Int32.toNatClampNeg (0 : Int32)) p1) 9 q7 (Int32.toNatClampNeg (1 : Int32)) p2) 9 q7 (Int32.toNatClampNeg (2 : Int32)) (0 : Int32)) 9 q7 (Int32.toNatClampNeg (3 : Int32)) (-1 : Int32)) 9 q7 (Int32.toNatClampNeg (4 : Int32)) (0 : Int32)) 9 b16) (Int32.toNatClampNeg (0 : Int32)) (Int32.toNatClampNeg ((9 : Int32) * (gV (sV (sV (sV (sV (sV (sNew S5 q7 9 (Int32.toNatClampNeg (5 : Int32))) 9 q7 (Int32.toNatClampNeg (0 : Int32)) p1) 9 q7 (Int32.toNatClampNeg (1 : Int32)) p2) 9 q7 (Int32.toNatClampNeg (2 : Int32)) (0 : Int32)) 9 q7 (Int32.toNatClampNeg (3 : Int32)) (-1 : Int32)) 9 q7 (Int32.toNatClampNeg (4 : Int32)) (0 : Int32)) 8 this 2))) (Int32.toNatClampNeg (Int32.ofNat (gN (sV (sV (sV (sV (sV (sNew S5 q7 9 (Int32.toNatClampNeg (5 : Int32))) 9 q7 (Int32.toNatClampNeg (0 : Int32)) p1) 9 q7 (Int32.toNatClampNeg (1 : Int32)) p2) 9 q7 (Int32.toNatClampNeg (2 : Int32)) (0 : Int32)) 9 q7 (Int32.toNatClampNeg (3 : Int32)) (-1 : Int32)) 9 q7 (Int32.toNatClampNeg (4 : Int32)) (0 : Int32)) q7))))) 8 this 2) + (1 : Int32))) 8 this 2) - (1 : Int32)) _ _ _ _ _ _ _ h hw hS (by omega) (by omega) dX6_addStation_104
      · have h := h.2 hc
        refine lv_aload_n hx hb dX6_addStation_40 rfl (lv_at hl 0 rfl) ?_
        refine lv_iconst (v := (2 : Int32)) hx hb dX6_addStation_41 (by decide) ?_
        have h1 := h
        refine va_calli (va_runV (As := [.int (2 : Int32)]) (rest := []) ⟨hx, hb, hml, hown, hts⟩ (m_X6_fail (l := l) h1) (cwV 1 hts gX6_addStation_X6_fail rfl rfl rfl (by decide +kernel) ⟨Nat.le_trans (Nat.le_of_ble_eq_true rfl) hRf, Nat.le_trans (Nat.le_of_ble_eq_true rfl) hRl⟩) (r_pV hB hw hS (ce_8 (S := S5) hk6) rfl) rfl rfl hl.1 rfl (lv_room (Nat.le_of_ble_eq_true rfl)) dX6_addStation_42 ⟨by omega, by omega⟩) hS (fun _ _ h => h) (fun _ h => h) (fun r20 S21 t H1 locs ht _ h hw1 _ _ hS => ?_)
        subst ht
        have hw : wd D y z S21 A t.heap := hw1
        clear hw1 h1
        exact hret r20 _ _ _ _ _ _ _ h hw hS (by omega) (by omega) dX6_addStation_45
    · have h := h.2 hc
      exact hB25 _ _ _ _ _ _ _ _ _ h hw hS (lv_sub hl [0] rfl) hcu hsu
def wb_X6_addTube_21 (post : Int32 → bS → Prop) (mc ms : Nat) (v0 : Nat) (S : bS) : Prop := gK S v0 = 8 ∧ (wp_X6_fail (fun r51 S52 => post r51 S52) v0 (1 : Int32) S)
def wb_X6_addTube_64 (post : Int32 → bS → Prop) (mc ms : Nat) (v0 : Nat) (S : bS) : Prop := gK S v0 = 8 ∧ (wp_X6_fail (fun r48 S49 => post r48 S49) v0 (2 : Int32) S)
def wb_X6_addTube_89 (post : Int32 → bS → Prop) (mc ms : Nat) (v0 : Nat) (S : bS) : Prop := gK S v0 = 8 ∧ (wp_X6_fail (fun r45 S46 => post r45 S46) v0 (3 : Int32) S)
def wp_X6_addTube (post : Int32 → bS → Prop) (MC MS : Nat) (this : Nat) (p1 : Int32) (p2 : Int32) (p3 : Int32) (p4 : Int32) (p5 : Int32) (S : bS) : Prop := gK S this = 8 ∧ (wp_X6_isStation (fun r2 S3 => (r2 = (0 : Int32) → wb_X6_addTube_21 post MC MS this S3) ∧ (¬ (r2 = (0 : Int32)) → gK S3 this = 8 ∧ (wp_X6_isStation (fun r5 S6 => (r5 ≠ (0 : Int32) → (p1 = p2 → wb_X6_addTube_64 post MC MS this S6) ∧ (¬ (p1 = p2) → wp_X6_isIn (fun r7 S8 => (r7 = (0 : Int32) → wb_X6_addTube_64 post MC MS this S8) ∧ (¬ (r7 = (0 : Int32)) → wp_X6_isIn (fun r9 S10 => (r9 = (0 : Int32) → wb_X6_addTube_64 post MC MS this S10) ∧ (¬ (r9 = (0 : Int32)) → wp_X6_isIn (fun r11 S12 => (r11 ≠ (0 : Int32) → gK S12 this = 8 ∧ (((gV S12 8 this 3) = (30 : Int32) → wb_X6_addTube_89 post MC MS this S12) ∧ (¬ ((gV S12 8 this 3) = (30 : Int32)) → wp_X6_st (fun r14 S15 => (r14 ≠ (4 : Int32) → ¬ (8 : Int32) < 0 ∧ (Int32.toNatClampNeg (8 : Int32)) * 4 ≤ 536870912 ∧ 1 ≤ MC ∧ (Int32.toNatClampNeg (8 : Int32)) ≤ MS ∧ (∀ q16, gK S15 q16 = 0 → (vp_in (0 : Int32) (gN (sNew S15 q16 9 (Int32.toNatClampNeg (8 : Int32))) q16) ∧ (vp_in (1 : Int32) (gN (sV (sNew S15 q16 9 (Int32.toNatClampNeg (8 : Int32))) 9 q16 (Int32.toNatClampNeg (0 : Int32)) p1) q16) ∧ (vp_in (2 : Int32) (gN (sV (sV (sNew S15 q16 9 (Int32.toNatClampNeg (8 : Int32))) 9 q16 (Int32.toNatClampNeg (0 : Int32)) p1) 9 q16 (Int32.toNatClampNeg (1 : Int32)) p2) q16) ∧ (vp_in (3 : Int32) (gN (sV (sV (sV (sNew S15 q16 9 (Int32.toNatClampNeg (8 : Int32))) 9 q16 (Int32.toNatClampNeg (0 : Int32)) p1) 9 q16 (Int32.toNatClampNeg (1 : Int32)) p2) 9 q16 (Int32.toNatClampNeg (2 : Int32)) p3) q16) ∧ (vp_in (4 : Int32) (gN (sV (sV (sV (sV (sNew S15 q16 9 (Int32.toNatClampNeg (8 : Int32))) 9 q16 (Int32.toNatClampNeg (0 : Int32)) p1) 9 q16 (Int32.toNatClampNeg (1 : Int32)) p2) 9 q16 (Int32.toNatClampNeg (2 : Int32)) p3) 9 q16 (Int32.toNatClampNeg (3 : Int32)) p4) q16) ∧ (vp_in (5 : Int32) (gN (sV (sV (sV (sV (sV (sNew S15 q16 9 (Int32.toNatClampNeg (8 : Int32))) 9 q16 (Int32.toNatClampNeg (0 : Int32)) p1) 9 q16 (Int32.toNatClampNeg (1 : Int32)) p2) 9 q16 (Int32.toNatClampNeg (2 : Int32)) p3) 9 q16 (Int32.toNatClampNeg (3 : Int32)) p4) 9 q16 (Int32.toNatClampNeg (4 : Int32)) p5) q16) ∧ (vp_in (6 : Int32) (gN (sV (sV (sV (sV (sV (sV (sNew S15 q16 9 (Int32.toNatClampNeg (8 : Int32))) 9 q16 (Int32.toNatClampNeg (0 : Int32)) p1) 9 q16 (Int32.toNatClampNeg (1 : Int32)) p2) 9 q16 (Int32.toNatClampNeg (2 : Int32)) p3) 9 q16 (Int32.toNatClampNeg (3 : Int32)) p4) 9 q16 (Int32.toNatClampNeg (4 : Int32)) p5) 9 q16 (Int32.toNatClampNeg (5 : Int32)) (1 : Int32)) q16) ∧ (vp_in (7 : Int32) (gN (sV (sV (sV (sV (sV (sV (sV (sNew S15 q16 9 (Int32.toNatClampNeg (8 : Int32))) 9 q16 (Int32.toNatClampNeg (0 : Int32)) p1) 9 q16 (Int32.toNatClampNeg (1 : Int32)) p2) 9 q16 (Int32.toNatClampNeg (2 : Int32)) p3) 9 q16 (Int32.toNatClampNeg (3 : Int32)) p4) 9 q16 (Int32.toNatClampNeg (4 : Int32)) p5) 9 q16 (Int32.toNatClampNeg (5 : Int32)) (1 : Int32)) 9 q16 (Int32.toNatClampNeg (6 : Int32)) (0 : Int32)) q16) ∧ (gK (sV (sV (sV (sV (sV (sV (sV (sV (sNew S15 q16 9 (Int32.toNatClampNeg (8 : Int32))) 9 q16 (Int32.toNatClampNeg (0 : Int32)) p1) 9 q16 (Int32.toNatClampNeg (1 : Int32)) p2) 9 q16 (Int32.toNatClampNeg (2 : Int32)) p3) 9 q16 (Int32.toNatClampNeg (3 : Int32)) p4) 9 q16 (Int32.toNatClampNeg (4 : Int32)) p5) 9 q16 (Int32.toNatClampNeg (5 : Int32)) (1 : Int32)) 9 q16 (Int32.toNatClampNeg (6 : Int32)) (0 : Int32)) 9 q16 (Int32.toNatClampNeg (7 : Int32)) (-1 : Int32)) this = 8 ∧ (∃ b28, gQ (sV (sV (sV (sV (sV (sV (sV (sV (sNew S15 q16 9 (Int32.toNatClampNeg (8 : Int32))) 9 q16 (Int32.toNatClampNeg (0 : Int32)) p1) 9 q16 (Int32.toNatClampNeg (1 : Int32)) p2) 9 q16 (Int32.toNatClampNeg (2 : Int32)) p3) 9 q16 (Int32.toNatClampNeg (3 : Int32)) p4) 9 q16 (Int32.toNatClampNeg (4 : Int32)) p5) 9 q16 (Int32.toNatClampNeg (5 : Int32)) (1 : Int32)) 9 q16 (Int32.toNatClampNeg (6 : Int32)) (0 : Int32)) 9 q16 (Int32.toNatClampNeg (7 : Int32)) (-1 : Int32)) 8 this 10 = some b28 ∧ (gK (sV (sV (sV (sV (sV (sV (sV (sV (sNew S15 q16 9 (Int32.toNatClampNeg (8 : Int32))) 9 q16 (Int32.toNatClampNeg (0 : Int32)) p1) 9 q16 (Int32.toNatClampNeg (1 : Int32)) p2) 9 q16 (Int32.toNatClampNeg (2 : Int32)) p3) 9 q16 (Int32.toNatClampNeg (3 : Int32)) p4) 9 q16 (Int32.toNatClampNeg (4 : Int32)) p5) 9 q16 (Int32.toNatClampNeg (5 : Int32)) (1 : Int32)) 9 q16 (Int32.toNatClampNeg (6 : Int32)) (0 : Int32)) 9 q16 (Int32.toNatClampNeg (7 : Int32)) (-1 : Int32)) b28 = 9 ∧ ((¬ (0 : Int32) < 0 ∧ ¬ ((8 : Int32) * (gV (sV (sV (sV (sV (sV (sV (sV (sV (sNew S15 q16 9 (Int32.toNatClampNeg (8 : Int32))) 9 q16 (Int32.toNatClampNeg (0 : Int32)) p1) 9 q16 (Int32.toNatClampNeg (1 : Int32)) p2) 9 q16 (Int32.toNatClampNeg (2 : Int32)) p3) 9 q16 (Int32.toNatClampNeg (3 : Int32)) p4) 9 q16 (Int32.toNatClampNeg (4 : Int32)) p5) 9 q16 (Int32.toNatClampNeg (5 : Int32)) (1 : Int32)) 9 q16 (Int32.toNatClampNeg (6 : Int32)) (0 : Int32)) 9 q16 (Int32.toNatClampNeg (7 : Int32)) (-1 : Int32)) 8 this 3)) < 0 ∧ ¬ (8 : Int32) < 0 ∧ (Int32.toNatClampNeg (0 : Int32)) + (Int32.toNatClampNeg (8 : Int32)) ≤ gN (sV (sV (sV (sV (sV (sV (sV (sV (sNew S15 q16 9 (Int32.toNatClampNeg (8 : Int32))) 9 q16 (Int32.toNatClampNeg (0 : Int32)) p1) 9 q16 (Int32.toNatClampNeg (1 : Int32)) p2) 9 q16 (Int32.toNatClampNeg (2 : Int32)) p3) 9 q16 (Int32.toNatClampNeg (3 : Int32)) p4) 9 q16 (Int32.toNatClampNeg (4 : Int32)) p5) 9 q16 (Int32.toNatClampNeg (5 : Int32)) (1 : Int32)) 9 q16 (Int32.toNatClampNeg (6 : Int32)) (0 : Int32)) 9 q16 (Int32.toNatClampNeg (7 : Int32)) (-1 : Int32)) q16 ∧ (Int32.toNatClampNeg ((8 : Int32) * (gV (sV (sV (sV (sV (sV (sV (sV (sV (sNew S15 q16 9 (Int32.toNatClampNeg (8 : Int32))) 9 q16 (Int32.toNatClampNeg (0 : Int32)) p1) 9 q16 (Int32.toNatClampNeg (1 : Int32)) p2) 9 q16 (Int32.toNatClampNeg (2 : Int32)) p3) 9 q16 (Int32.toNatClampNeg (3 : Int32)) p4) 9 q16 (Int32.toNatClampNeg (4 : Int32)) p5) 9 q16 (Int32.toNatClampNeg (5 : Int32)) (1 : Int32)) 9 q16 (Int32.toNatClampNeg (6 : Int32)) (0 : Int32)) 9 q16 (Int32.toNatClampNeg (7 : Int32)) (-1 : Int32)) 8 this 3))) + (Int32.toNatClampNeg (8 : Int32)) ≤ gN (sV (sV (sV (sV (sV (sV (sV (sV (sNew S15 q16 9 (Int32.toNatClampNeg (8 : Int32))) 9 q16 (Int32.toNatClampNeg (0 : Int32)) p1) 9 q16 (Int32.toNatClampNeg (1 : Int32)) p2) 9 q16 (Int32.toNatClampNeg (2 : Int32)) p3) 9 q16 (Int32.toNatClampNeg (3 : Int32)) p4) 9 q16 (Int32.toNatClampNeg (4 : Int32)) p5) 9 q16 (Int32.toNatClampNeg (5 : Int32)) (1 : Int32)) 9 q16 (Int32.toNatClampNeg (6 : Int32)) (0 : Int32)) 9 q16 (Int32.toNatClampNeg (7 : Int32)) (-1 : Int32)) b28) ∧ (∃ b32, gQ (sF (sV (sV (sV (sV (sV (sV (sV (sV (sNew S15 q16 9 (Int32.toNatClampNeg (8 : Int32))) 9 q16 (Int32.toNatClampNeg (0 : Int32)) p1) 9 q16 (Int32.toNatClampNeg (1 : Int32)) p2) 9 q16 (Int32.toNatClampNeg (2 : Int32)) p3) 9 q16 (Int32.toNatClampNeg (3 : Int32)) p4) 9 q16 (Int32.toNatClampNeg (4 : Int32)) p5) 9 q16 (Int32.toNatClampNeg (5 : Int32)) (1 : Int32)) 9 q16 (Int32.toNatClampNeg (6 : Int32)) (0 : Int32)) 9 q16 (Int32.toNatClampNeg (7 : Int32)) (-1 : Int32)) 9 b28 (va_cpy (gV (sV (sV (sV (sV (sV (sV (sV (sV (sNew S15 q16 9 (Int32.toNatClampNeg (8 : Int32))) 9 q16 (Int32.toNatClampNeg (0 : Int32)) p1) 9 q16 (Int32.toNatClampNeg (1 : Int32)) p2) 9 q16 (Int32.toNatClampNeg (2 : Int32)) p3) 9 q16 (Int32.toNatClampNeg (3 : Int32)) p4) 9 q16 (Int32.toNatClampNeg (4 : Int32)) p5) 9 q16 (Int32.toNatClampNeg (5 : Int32)) (1 : Int32)) 9 q16 (Int32.toNatClampNeg (6 : Int32)) (0 : Int32)) 9 q16 (Int32.toNatClampNeg (7 : Int32)) (-1 : Int32)) 9 q16) (gV (sV (sV (sV (sV (sV (sV (sV (sV (sNew S15 q16 9 (Int32.toNatClampNeg (8 : Int32))) 9 q16 (Int32.toNatClampNeg (0 : Int32)) p1) 9 q16 (Int32.toNatClampNeg (1 : Int32)) p2) 9 q16 (Int32.toNatClampNeg (2 : Int32)) p3) 9 q16 (Int32.toNatClampNeg (3 : Int32)) p4) 9 q16 (Int32.toNatClampNeg (4 : Int32)) p5) 9 q16 (Int32.toNatClampNeg (5 : Int32)) (1 : Int32)) 9 q16 (Int32.toNatClampNeg (6 : Int32)) (0 : Int32)) 9 q16 (Int32.toNatClampNeg (7 : Int32)) (-1 : Int32)) 9 b28) (Int32.toNatClampNeg (0 : Int32)) (Int32.toNatClampNeg ((8 : Int32) * (gV (sV (sV (sV (sV (sV (sV (sV (sV (sNew S15 q16 9 (Int32.toNatClampNeg (8 : Int32))) 9 q16 (Int32.toNatClampNeg (0 : Int32)) p1) 9 q16 (Int32.toNatClampNeg (1 : Int32)) p2) 9 q16 (Int32.toNatClampNeg (2 : Int32)) p3) 9 q16 (Int32.toNatClampNeg (3 : Int32)) p4) 9 q16 (Int32.toNatClampNeg (4 : Int32)) p5) 9 q16 (Int32.toNatClampNeg (5 : Int32)) (1 : Int32)) 9 q16 (Int32.toNatClampNeg (6 : Int32)) (0 : Int32)) 9 q16 (Int32.toNatClampNeg (7 : Int32)) (-1 : Int32)) 8 this 3))) (Int32.toNatClampNeg (8 : Int32)))) 8 this 9 = some b32 ∧ (wp_X6_st (fun r34 S35 => gK S35 this = 8 ∧ (gK S35 b32 = 9 ∧ (vp_in ((((9 : Int32) * p1) + (5 : Int32)) + r34) (gN S35 b32) ∧ (∃ b39, gQ (sV S35 9 b32 (Int32.toNatClampNeg ((((9 : Int32) * p1) + (5 : Int32)) + r34)) (gV S35 8 this 3)) 8 this 9 = some b39 ∧ (gK (sV S35 9 b32 (Int32.toNatClampNeg ((((9 : Int32) * p1) + (5 : Int32)) + r34)) (gV S35 8 this 3)) b39 = 9 ∧ (vp_in (((9 : Int32) * p1) + (2 : Int32)) (gN (sV S35 9 b32 (Int32.toNatClampNeg ((((9 : Int32) * p1) + (5 : Int32)) + r34)) (gV S35 8 this 3)) b39) ∧ (vp_in (((9 : Int32) * p1) + (2 : Int32)) (gN (sV S35 9 b32 (Int32.toNatClampNeg ((((9 : Int32) * p1) + (5 : Int32)) + r34)) (gV S35 8 this 3)) b39) ∧ (post ((gV (sV (sV (sV S35 9 b32 (Int32.toNatClampNeg ((((9 : Int32) * p1) + (5 : Int32)) + r34)) (gV S35 8 this 3)) 9 b39 (Int32.toNatClampNeg (((9 : Int32) * p1) + (2 : Int32))) ((gV (sV S35 9 b32 (Int32.toNatClampNeg ((((9 : Int32) * p1) + (5 : Int32)) + r34)) (gV S35 8 this 3)) 9 b39 (Int32.toNatClampNeg (((9 : Int32) * p1) + (2 : Int32)))) + (1 : Int32))) 8 this 3 ((gV (sV (sV S35 9 b32 (Int32.toNatClampNeg ((((9 : Int32) * p1) + (5 : Int32)) + r34)) (gV S35 8 this 3)) 9 b39 (Int32.toNatClampNeg (((9 : Int32) * p1) + (2 : Int32))) ((gV (sV S35 9 b32 (Int32.toNatClampNeg ((((9 : Int32) * p1) + (5 : Int32)) + r34)) (gV S35 8 this 3)) 9 b39 (Int32.toNatClampNeg (((9 : Int32) * p1) + (2 : Int32)))) + (1 : Int32))) 8 this 3) + (1 : Int32))) 8 this 3) - (1 : Int32)) (sV (sV (sV S35 9 b32 (Int32.toNatClampNeg ((((9 : Int32) * p1) + (5 : Int32)) + r34)) (gV S35 8 this 3)) 9 b39 (Int32.toNatClampNeg (((9 : Int32) * p1) + (2 : Int32))) ((gV (sV S35 9 b32 (Int32.toNatClampNeg ((((9 : Int32) * p1) + (5 : Int32)) + r34)) (gV S35 8 this 3)) 9 b39 (Int32.toNatClampNeg (((9 : Int32) * p1) + (2 : Int32)))) + (1 : Int32))) 8 this 3 ((gV (sV (sV S35 9 b32 (Int32.toNatClampNeg ((((9 : Int32) * p1) + (5 : Int32)) + r34)) (gV S35 8 this 3)) 9 b39 (Int32.toNatClampNeg (((9 : Int32) * p1) + (2 : Int32))) ((gV (sV S35 9 b32 (Int32.toNatClampNeg ((((9 : Int32) * p1) + (5 : Int32)) + r34)) (gV S35 8 this 3)) 9 b39 (Int32.toNatClampNeg (((9 : Int32) * p1) + (2 : Int32)))) + (1 : Int32))) 8 this 3) + (1 : Int32))))))))))) this p1 (2 : Int32) (sF (sV (sV (sV (sV (sV (sV (sV (sV (sNew S15 q16 9 (Int32.toNatClampNeg (8 : Int32))) 9 q16 (Int32.toNatClampNeg (0 : Int32)) p1) 9 q16 (Int32.toNatClampNeg (1 : Int32)) p2) 9 q16 (Int32.toNatClampNeg (2 : Int32)) p3) 9 q16 (Int32.toNatClampNeg (3 : Int32)) p4) 9 q16 (Int32.toNatClampNeg (4 : Int32)) p5) 9 q16 (Int32.toNatClampNeg (5 : Int32)) (1 : Int32)) 9 q16 (Int32.toNatClampNeg (6 : Int32)) (0 : Int32)) 9 q16 (Int32.toNatClampNeg (7 : Int32)) (-1 : Int32)) 9 b28 (va_cpy (gV (sV (sV (sV (sV (sV (sV (sV (sV (sNew S15 q16 9 (Int32.toNatClampNeg (8 : Int32))) 9 q16 (Int32.toNatClampNeg (0 : Int32)) p1) 9 q16 (Int32.toNatClampNeg (1 : Int32)) p2) 9 q16 (Int32.toNatClampNeg (2 : Int32)) p3) 9 q16 (Int32.toNatClampNeg (3 : Int32)) p4) 9 q16 (Int32.toNatClampNeg (4 : Int32)) p5) 9 q16 (Int32.toNatClampNeg (5 : Int32)) (1 : Int32)) 9 q16 (Int32.toNatClampNeg (6 : Int32)) (0 : Int32)) 9 q16 (Int32.toNatClampNeg (7 : Int32)) (-1 : Int32)) 9 q16) (gV (sV (sV (sV (sV (sV (sV (sV (sV (sNew S15 q16 9 (Int32.toNatClampNeg (8 : Int32))) 9 q16 (Int32.toNatClampNeg (0 : Int32)) p1) 9 q16 (Int32.toNatClampNeg (1 : Int32)) p2) 9 q16 (Int32.toNatClampNeg (2 : Int32)) p3) 9 q16 (Int32.toNatClampNeg (3 : Int32)) p4) 9 q16 (Int32.toNatClampNeg (4 : Int32)) p5) 9 q16 (Int32.toNatClampNeg (5 : Int32)) (1 : Int32)) 9 q16 (Int32.toNatClampNeg (6 : Int32)) (0 : Int32)) 9 q16 (Int32.toNatClampNeg (7 : Int32)) (-1 : Int32)) 9 b28) (Int32.toNatClampNeg (0 : Int32)) (Int32.toNatClampNeg ((8 : Int32) * (gV (sV (sV (sV (sV (sV (sV (sV (sV (sNew S15 q16 9 (Int32.toNatClampNeg (8 : Int32))) 9 q16 (Int32.toNatClampNeg (0 : Int32)) p1) 9 q16 (Int32.toNatClampNeg (1 : Int32)) p2) 9 q16 (Int32.toNatClampNeg (2 : Int32)) p3) 9 q16 (Int32.toNatClampNeg (3 : Int32)) p4) 9 q16 (Int32.toNatClampNeg (4 : Int32)) p5) 9 q16 (Int32.toNatClampNeg (5 : Int32)) (1 : Int32)) 9 q16 (Int32.toNatClampNeg (6 : Int32)) (0 : Int32)) 9 q16 (Int32.toNatClampNeg (7 : Int32)) (-1 : Int32)) 8 this 3))) (Int32.toNatClampNeg (8 : Int32)))))))))))))))))))) ∧ (r14 = (4 : Int32) → wb_X6_addTube_89 post MC MS this S15)) this p1 (2 : Int32) S12))) ∧ (r11 = (0 : Int32) → wb_X6_addTube_64 post MC MS this S12)) p5 (1 : Int32) (8 : Int32) S10)) p4 (1 : Int32) (6 : Int32) S8)) p3 (1 : Int32) (60 : Int32) S6)) ∧ (r5 = (0 : Int32) → wb_X6_addTube_21 post MC MS this S6)) this p2 S3))) this p1 (sV S 8 this 0 (0 : Int32)))
set_option maxHeartbeats 4000000 in
set_option maxRecDepth 100000 in
theorem m_X6_addTube {l : Launch} {D : va_G} {y : Nat → ClassId} {z : Nat} {A : Nat → Prop} {S : bS} {post : Int32 → bS → Prop} {MC MS : Nat} {this : Nat} {p1 : Int32} {p2 : Int32} {p3 : Int32} {p4 : Int32} {p5 : Int32} (h : wp_X6_addTube post MC MS this p1 p2 p3 p4 p5 S) : Met l yX6_addTube wsX6_addTube ({ frames := 2, cells := MC, slots := MS, locals := 60 } : Room) (va_Pc ([Value.ref this, Value.int p1, Value.int p2, Value.int p3, Value.int p4, Value.int p5] : List Value) (bP D y z S A)) (va_Qi post (fun S' t => wd D y z S' A t.heap) A) MC MS A := by
  refine Met.ofW (cc := cX6_addTube) (maxL := 7) (ret := (some .int)) (by decide) rfl ?_
  intro p e s m args below meth c s₁ B hml hv
  obtain ⟨rfl, hB⟩ := hv
  have hx := B.exec
  have hb := B.bytes
  have hr := B.returns
  have hts := atoms_spec (ws := wsX6_addTube) B.pre
  have hown : s.vm.findClass RX6 = some m.cls := findClass_of_methodNamed B.named
  have hlocks := B.notSynchronized
  have hw : wd D y z S A s.heap := hB.1
  have hK : va_K D bCl (bT y) s := hB.2.1
  have hNw := hB.2.2.1
  have hAn : ∀ q : Nat, s.heap.size ≤ q → A q := hB.2.2.2.1
  have hAz : ¬ A z := hB.2.2.2.2.1
  have hO := hB.2.2.2.2.2.1
  have hS : va_S A s.heap s.heap [] := va_S.rf
  have hiX6 : ∀ w ∈ u_ws RX6 TX6 17, w ∈ wsX6_addTube := by decide +kernel
  have hl := lv_entry ([Value.ref this, Value.int p1, Value.int p2, Value.int p3, Value.int p4, Value.int p5] : List Value) (n := 7) (Nat.le_of_ble_eq_true rfl)
  rw [lg_entry_eq]
  generalize (lg_sl ([Value.ref this, Value.int p1, Value.int p2, Value.int p3, Value.int p4, Value.int p5] : List Value) ++ List.replicate (7 - (lg_sl ([Value.ref this, Value.int p1, Value.int p2, Value.int p3, Value.int p4, Value.int p5] : List Value)).length) Slot.unset).toArray = ls at hl ⊢
  have hl : lv_has ls 7 [(0, .ref this), (1, .int p1), (2, .int p2), (3, .int p3), (4, .int p4), (5, .int p5)] := hl
  obtain ⟨Q, hQ⟩ : ∃ Q, Q = MQ below (va_Qi post (fun S' t => wd D y z S' A t.heap) A) (([Value.ref this, Value.int p1, Value.int p2, Value.int p3, Value.int p4, Value.int p5] : List Value).toArray) s MC MS A := ⟨_, rfl⟩
  rw [← hQ]
  generalize hR : (headSpec wsX6_addTube ({ frames := 2, cells := MC, slots := MS, locals := 60 } : Room)).room = R
  have hRf : 2 ≤ R.frames := by rw [← hR]; exact Nat.le_refl _
  have hRl : 60 ≤ R.locals := by rw [← hR]; exact Nat.le_refl _
  have hRc : R.cells = MC := by rw [← hR]; rfl
  have hRs : R.slots = MS := by rw [← hR]; rfl
  have hret : ∀ (v : Int32) (S : bS) (H : Heap) (locs : List Loc) (pc : Nat) (ls : Array Slot) (cu su : Nat) , post v S → wd D y z S A H → va_S A s.heap H locs → cu ≤ MC → su ≤ MS → decode cX6_addTube pc = .ok (.ireturn, 1) → W p l e R s m (([Value.ref this, Value.int p1, Value.int p2, Value.int p3, Value.int p4, Value.int p5] : List Value).toArray) below meth c H locs cu su Q (F0 m pc ls [.int v]) := by
    intro v S H locs pc ls cu su h hw hS hcu hsu d0
    rw [hQ]; refine W.widen hcu hsu ?_; exact W.iret hx hb hr (fun t ht hW => ⟨⟨v, S, rfl, h, by show wd D y z S A t.heap; rw [ht]; exact hw⟩, hS.F ht⟩) hS.2.2 d0 hlocks
  have hB21 : ∀ (S : bS) (H : Heap) (locs : List Loc) (ls : Array Slot) (mc ms cu su : Nat) (v0 : Nat), wb_X6_addTube_21 post mc ms v0 S → wd D y z S A H → va_S A s.heap H locs → lv_has ls 7 [(0, .ref v0)] → cu + mc ≤ MC → su + ms ≤ MS → W p l e R s m (([Value.ref this, Value.int p1, Value.int p2, Value.int p3, Value.int p4, Value.int p5] : List Value).toArray) below meth c H locs cu su Q (F0 m 21 ls []) := by
    intro S H locs ls mc ms cu su v0 h hw hS hl hcu hsu
    unfold wb_X6_addTube_21 at h
    refine lv_aload_n hx hb dX6_addTube_21 rfl (lv_at hl 0 rfl) ?_
    refine lv_iconst (v := (1 : Int32)) hx hb dX6_addTube_22 (by decide) ?_
    obtain ⟨hk50, h⟩ := h
    have h1 := h
    refine va_calli (va_runV (As := [.int (1 : Int32)]) (rest := []) ⟨hx, hb, hml, hown, hts⟩ (m_X6_fail (l := l) h1) (cwV 1 hts gX6_addTube_X6_fail rfl rfl rfl (by decide +kernel) ⟨Nat.le_trans (Nat.le_of_ble_eq_true rfl) hRf, Nat.le_trans (Nat.le_of_ble_eq_true rfl) hRl⟩) (r_pV hB hw hS (ce_8 (S := S) hk50) rfl) rfl rfl hl.1 rfl (lv_room (Nat.le_of_ble_eq_true rfl)) dX6_addTube_23 ⟨by omega, by omega⟩) hS (fun _ _ h => h) (fun _ h => h) (fun r51 S52 t H1 locs ht _ h hw1 _ _ hS => ?_)
    subst ht
    have hw : wd D y z S52 A t.heap := hw1
    clear hw1 h1
    exact hret r51 _ _ _ _ _ _ _ h hw hS (by omega) (by omega) dX6_addTube_26
  have hB64 : ∀ (S : bS) (H : Heap) (locs : List Loc) (ls : Array Slot) (mc ms cu su : Nat) (v0 : Nat), wb_X6_addTube_64 post mc ms v0 S → wd D y z S A H → va_S A s.heap H locs → lv_has ls 7 [(0, .ref v0)] → cu + mc ≤ MC → su + ms ≤ MS → W p l e R s m (([Value.ref this, Value.int p1, Value.int p2, Value.int p3, Value.int p4, Value.int p5] : List Value).toArray) below meth c H locs cu su Q (F0 m 64 ls []) := by
    intro S H locs ls mc ms cu su v0 h hw hS hl hcu hsu
    unfold wb_X6_addTube_64 at h
    refine lv_aload_n hx hb dX6_addTube_64 rfl (lv_at hl 0 rfl) ?_
    refine lv_iconst (v := (2 : Int32)) hx hb dX6_addTube_65 (by decide) ?_
    obtain ⟨hk47, h⟩ := h
    have h1 := h
    refine va_calli (va_runV (As := [.int (2 : Int32)]) (rest := []) ⟨hx, hb, hml, hown, hts⟩ (m_X6_fail (l := l) h1) (cwV 1 hts gX6_addTube_X6_fail rfl rfl rfl (by decide +kernel) ⟨Nat.le_trans (Nat.le_of_ble_eq_true rfl) hRf, Nat.le_trans (Nat.le_of_ble_eq_true rfl) hRl⟩) (r_pV hB hw hS (ce_8 (S := S) hk47) rfl) rfl rfl hl.1 rfl (lv_room (Nat.le_of_ble_eq_true rfl)) dX6_addTube_66 ⟨by omega, by omega⟩) hS (fun _ _ h => h) (fun _ h => h) (fun r48 S49 t H1 locs ht _ h hw1 _ _ hS => ?_)
    subst ht
    have hw : wd D y z S49 A t.heap := hw1
    clear hw1 h1
    exact hret r48 _ _ _ _ _ _ _ h hw hS (by omega) (by omega) dX6_addTube_69
  have hB89 : ∀ (S : bS) (H : Heap) (locs : List Loc) (ls : Array Slot) (mc ms cu su : Nat) (v0 : Nat), wb_X6_addTube_89 post mc ms v0 S → wd D y z S A H → va_S A s.heap H locs → lv_has ls 7 [(0, .ref v0)] → cu + mc ≤ MC → su + ms ≤ MS → W p l e R s m (([Value.ref this, Value.int p1, Value.int p2, Value.int p3, Value.int p4, Value.int p5] : List Value).toArray) below meth c H locs cu su Q (F0 m 89 ls []) := by
    intro S H locs ls mc ms cu su v0 h hw hS hl hcu hsu
    unfold wb_X6_addTube_89 at h
    refine lv_aload_n hx hb dX6_addTube_89 rfl (lv_at hl 0 rfl) ?_
    refine lv_iconst (v := (3 : Int32)) hx hb dX6_addTube_90 (by decide) ?_
    obtain ⟨hk44, h⟩ := h
    have h1 := h
    refine va_calli (va_runV (As := [.int (3 : Int32)]) (rest := []) ⟨hx, hb, hml, hown, hts⟩ (m_X6_fail (l := l) h1) (cwV 1 hts gX6_addTube_X6_fail rfl rfl rfl (by decide +kernel) ⟨Nat.le_trans (Nat.le_of_ble_eq_true rfl) hRf, Nat.le_trans (Nat.le_of_ble_eq_true rfl) hRl⟩) (r_pV hB hw hS (ce_8 (S := S) hk44) rfl) rfl rfl hl.1 rfl (lv_room (Nat.le_of_ble_eq_true rfl)) dX6_addTube_91 ⟨by omega, by omega⟩) hS (fun _ _ h => h) (fun _ h => h) (fun r45 S46 t H1 locs ht _ h hw1 _ _ hS => ?_)
    subst ht
    have hw : wd D y z S46 A t.heap := hw1
    clear hw1 h1
    exact hret r45 _ _ _ _ _ _ _ h hw hS (by omega) (by omega) dX6_addTube_94
  unfold wp_X6_addTube at h
  have hcu : 0 + MC ≤ MC := by omega
  have hsu : 0 + MS ≤ MS := by omega
  refine lv_aload_n hx hb dX6_addTube_0 rfl (lv_at hl 0 rfl) ?_
  refine lv_iconst (v := (0 : Int32)) hx hb dX6_addTube_1 (by decide) ?_
  obtain ⟨hk1, h⟩ := h
  refine r_putI (κ := 8) (ci := 7) (C := RX6) (T := TX6) (N := 17) (ty := .int) (x := (0 : Int32)) hx hb hts hiX6 tyX6 tyX6_ok nmX6 hown hK hw hS (ce_8 (S := S) hk1) rfl 0 (by decide) (hts (.fieldLink RX6 31 "TubePostModel" "thrown" "I") (by decide +kernel)) (fun _ h9 => h9) rfl (by decide +kernel) rfl rfl (Nat.le_of_ble_eq_true rfl) (pu_8_0 (S := S) hk1) dX6_addTube_2 (fun H locs hw hS => ?_)
  refine lv_aload_n hx hb dX6_addTube_5 rfl (lv_at hl 0 rfl) ?_
  refine lv_iload_n hx hb dX6_addTube_6 rfl (lv_at hl 1 rfl) ?_
  have h1 := h
  refine va_calli (va_runV (As := [.int p1]) (rest := []) ⟨hx, hb, hml, hown, hts⟩ (m_X6_isStation (l := l) h1) (cwV 1 hts gX6_addTube_X6_isStation rfl rfl rfl (by decide +kernel) ⟨Nat.le_trans (Nat.le_of_ble_eq_true rfl) hRf, Nat.le_trans (Nat.le_of_ble_eq_true rfl) hRl⟩) (r_pV hB hw hS (ce_8 (S := (sV S 8 this 0 (0 : Int32))) hk1) rfl) rfl rfl hl.1 rfl (lv_room (Nat.le_of_ble_eq_true rfl)) dX6_addTube_7 ⟨by omega, by omega⟩) hS (fun _ _ h => h) (fun _ h => h) (fun r2 S3 t H1 locs ht _ h hw1 _ _ hS => ?_)
  subst ht
  have hw : wd D y z S3 A t.heap := hw1
  clear hw1 h1
  refine lv_if_eq (tgt := 21) hx hb dX6_addTube_10 (by decide) (fun hc => ?_) (fun hc => ?_)
  · have h := h.1 hc
    exact hB21 _ _ _ _ _ _ _ _ _ h hw hS (lv_sub hl [0] rfl) hcu hsu
  · have h := h.2 hc
    refine lv_aload_n hx hb dX6_addTube_13 rfl (lv_at hl 0 rfl) ?_
    refine lv_iload_n hx hb dX6_addTube_14 rfl (lv_at hl 2 rfl) ?_
    obtain ⟨hk4, h⟩ := h
    have h1 := h
    refine va_calli (va_runV (As := [.int p2]) (rest := []) ⟨hx, hb, hml, hown, hts⟩ (m_X6_isStation (l := l) h1) (cwV 1 hts gX6_addTube_X6_isStation rfl rfl rfl (by decide +kernel) ⟨Nat.le_trans (Nat.le_of_ble_eq_true rfl) hRf, Nat.le_trans (Nat.le_of_ble_eq_true rfl) hRl⟩) (r_pV hB hw hS (ce_8 (S := S3) hk4) rfl) rfl rfl hl.1 rfl (lv_room (Nat.le_of_ble_eq_true rfl)) dX6_addTube_15 ⟨by omega, by omega⟩) hS (fun _ _ h => h) (fun _ h => h) (fun r5 S6 t H1 locs ht _ h hw1 _ _ hS => ?_)
    subst ht
    have hw : wd D y z S6 A t.heap := hw1
    clear hw1 h1
    refine lv_if_ne (tgt := 27) hx hb dX6_addTube_18 (by decide) (fun hc => ?_) (fun hc => ?_)
    · have h := h.1 hc
      refine lv_iload_n hx hb dX6_addTube_27 rfl (lv_at hl 1 rfl) ?_
      refine lv_iload_n hx hb dX6_addTube_28 rfl (lv_at hl 2 rfl) ?_
      refine lv_icmp_eq (tgt := 64) hx hb dX6_addTube_29 (by decide) (fun hc => ?_) (fun hc => ?_)
      · have h := h.1 hc
        exact hB64 _ _ _ _ _ _ _ _ _ h hw hS (lv_sub hl [0] rfl) hcu hsu
      · have h := h.2 hc
        refine lv_iload_n hx hb dX6_addTube_32 rfl (lv_at hl 3 rfl) ?_
        refine lv_iconst (v := (1 : Int32)) hx hb dX6_addTube_33 (by decide) ?_
        refine lv_bipush (v := (60 : Int32)) hx hb dX6_addTube_34 (by decide) ?_
        have h1 := h
        refine va_calli (va_runS (As := [.int p3, .int (1 : Int32), .int (60 : Int32)]) (rest := []) ⟨hx, hb, hml, hown, hts⟩ (m_X6_isIn (l := l) h1) (cwS 3 hts gX6_addTube_X6_isIn rfl rfl rfl (by decide +kernel) ⟨Nat.le_trans (Nat.le_of_ble_eq_true rfl) hRf, Nat.le_trans (Nat.le_of_ble_eq_true rfl) hRl⟩) (r_pS hB hw hS) rfl rfl hl.1 rfl (lv_room (Nat.le_of_ble_eq_true rfl)) dX6_addTube_36 ⟨by omega, by omega⟩) hS (fun _ _ h => h) (fun _ h => h) (fun r7 S8 t H1 locs ht _ h hw1 _ _ hS => ?_)
        subst ht
        have hw : wd D y z S8 A t.heap := hw1
        clear hw1 h1
        refine lv_if_eq (tgt := 64) hx hb dX6_addTube_39 (by decide) (fun hc => ?_) (fun hc => ?_)
        · have h := h.1 hc
          exact hB64 _ _ _ _ _ _ _ _ _ h hw hS (lv_sub hl [0] rfl) hcu hsu
        · have h := h.2 hc
          refine lv_iload hx hb dX6_addTube_42 (lv_at hl 4 rfl) ?_
          refine lv_iconst (v := (1 : Int32)) hx hb dX6_addTube_44 (by decide) ?_
          refine lv_bipush (v := (6 : Int32)) hx hb dX6_addTube_45 (by decide) ?_
          have h1 := h
          refine va_calli (va_runS (As := [.int p4, .int (1 : Int32), .int (6 : Int32)]) (rest := []) ⟨hx, hb, hml, hown, hts⟩ (m_X6_isIn (l := l) h1) (cwS 3 hts gX6_addTube_X6_isIn rfl rfl rfl (by decide +kernel) ⟨Nat.le_trans (Nat.le_of_ble_eq_true rfl) hRf, Nat.le_trans (Nat.le_of_ble_eq_true rfl) hRl⟩) (r_pS hB hw hS) rfl rfl hl.1 rfl (lv_room (Nat.le_of_ble_eq_true rfl)) dX6_addTube_47 ⟨by omega, by omega⟩) hS (fun _ _ h => h) (fun _ h => h) (fun r9 S10 t H1 locs ht _ h hw1 _ _ hS => ?_)
          subst ht
          have hw : wd D y z S10 A t.heap := hw1
          clear hw1 h1
          refine lv_if_eq (tgt := 64) hx hb dX6_addTube_50 (by decide) (fun hc => ?_) (fun hc => ?_)
          · have h := h.1 hc
            exact hB64 _ _ _ _ _ _ _ _ _ h hw hS (lv_sub hl [0] rfl) hcu hsu
          · have h := h.2 hc
            refine lv_iload hx hb dX6_addTube_53 (lv_at hl 5 rfl) ?_
            refine lv_iconst (v := (1 : Int32)) hx hb dX6_addTube_55 (by decide) ?_
            refine lv_bipush (v := (8 : Int32)) hx hb dX6_addTube_56 (by decide) ?_
            have h1 := h
            refine va_calli (va_runS (As := [.int p5, .int (1 : Int32), .int (8 : Int32)]) (rest := []) ⟨hx, hb, hml, hown, hts⟩ (m_X6_isIn (l := l) h1) (cwS 3 hts gX6_addTube_X6_isIn rfl rfl rfl (by decide +kernel) ⟨Nat.le_trans (Nat.le_of_ble_eq_true rfl) hRf, Nat.le_trans (Nat.le_of_ble_eq_true rfl) hRl⟩) (r_pS hB hw hS) rfl rfl hl.1 rfl (lv_room (Nat.le_of_ble_eq_true rfl)) dX6_addTube_58 ⟨by omega, by omega⟩) hS (fun _ _ h => h) (fun _ h => h) (fun r11 S12 t H1 locs ht _ h hw1 _ _ hS => ?_)
            subst ht
            have hw : wd D y z S12 A t.heap := hw1
            clear hw1 h1
            refine lv_if_ne (tgt := 70) hx hb dX6_addTube_61 (by decide) (fun hc => ?_) (fun hc => ?_)
            · have h := h.1 hc
              refine lv_aload_n hx hb dX6_addTube_70 rfl (lv_at hl 0 rfl) ?_
              obtain ⟨hk13, h⟩ := h
              refine r_get (ci := 7) (v := .int (gV S12 8 this 3)) (C := RX6) (T := TX6) (N := 17) hx hb hts hiX6 hown hK hw (ce_8 (S := S12) hk13) rfl 3 (by decide) (hts (.fieldLink RX6 42 "TubePostModel" "tubes" "I") (by decide +kernel)) (fun _ h9 => h9) rfl dX6_addTube_71 ?_
              refine lv_bipush (v := (30 : Int32)) hx hb dX6_addTube_74 (by decide) ?_
              refine lv_icmp_eq (tgt := 89) hx hb dX6_addTube_76 (by decide) (fun hc => ?_) (fun hc => ?_)
              · have h := h.1 hc
                exact hB89 _ _ _ _ _ _ _ _ _ h hw hS (lv_sub hl [0] rfl) hcu hsu
              · have h := h.2 hc
                refine lv_aload_n hx hb dX6_addTube_79 rfl (lv_at hl 0 rfl) ?_
                refine lv_iload_n hx hb dX6_addTube_80 rfl (lv_at hl 1 rfl) ?_
                refine lv_iconst (v := (2 : Int32)) hx hb dX6_addTube_81 (by decide) ?_
                have h1 := h
                refine va_calli (va_runV (As := [.int p1, .int (2 : Int32)]) (rest := []) ⟨hx, hb, hml, hown, hts⟩ (m_X6_st (l := l) h1) (cwV 2 hts gX6_addTube_X6_st rfl rfl rfl (by decide +kernel) ⟨Nat.le_trans (Nat.le_of_ble_eq_true rfl) hRf, Nat.le_trans (Nat.le_of_ble_eq_true rfl) hRl⟩) (r_pV hB hw hS (ce_8 (S := S12) hk13) rfl) rfl rfl hl.1 rfl (lv_room (Nat.le_of_ble_eq_true rfl)) dX6_addTube_82 ⟨by omega, by omega⟩) hS (fun _ _ h => h) (fun _ h => h) (fun r14 S15 t H1 locs ht _ h hw1 _ _ hS => ?_)
                subst ht
                have hw : wd D y z S15 A t.heap := hw1
                clear hw1 h1
                refine lv_iconst (v := (4 : Int32)) hx hb dX6_addTube_85 (by decide) ?_
                refine lv_icmp_ne (tgt := 95) hx hb dX6_addTube_86 (by decide) (fun hc => ?_) (fun hc => ?_)
                · have h := h.1 hc
                  refine lv_bipush (v := (8 : Int32)) hx hb dX6_addTube_95 (by decide) ?_
                  obtain ⟨hn0, hn1, hbg1, hbg2, h⟩ := h
                  refine r_newa9 hx hb (hts (.arrayClass .int) (by decide +kernel)) hK hw hS hAn hAz hn0 rfl hn1 (by omega) (by omega) dX6_addTube_97 (fun q16 H hq17 hw hS => ?_)
                  have h := h q16 hq17
                  have hk18 : gK (sNew S15 q16 9 (Int32.toNatClampNeg (8 : Int32))) q16 = 9 := if_pos rfl
                  have hcu : (0 + 1) + (MC - 1) ≤ MC := by omega
                  have hsu : (0 + (Int32.toNatClampNeg (8 : Int32))) + (MS - (Int32.toNatClampNeg (8 : Int32))) ≤ MS := by omega
                  refine lv_dup hx hb dX6_addTube_99 rfl ?_
                  refine lv_iconst (v := (0 : Int32)) hx hb dX6_addTube_100 (by decide) ?_
                  refine lv_iload_n hx hb dX6_addTube_101 rfl (lv_at hl 1 rfl) ?_
                  obtain ⟨hin19, h⟩ := h
                  refine r_iast hx hb hK hw hS hk18 hin19 dX6_addTube_102 (fun H locs hw hS => ?_)
                  refine lv_dup hx hb dX6_addTube_103 rfl ?_
                  refine lv_iconst (v := (1 : Int32)) hx hb dX6_addTube_104 (by decide) ?_
                  refine lv_iload_n hx hb dX6_addTube_105 rfl (lv_at hl 2 rfl) ?_
                  obtain ⟨hin20, h⟩ := h
                  refine r_iast hx hb hK hw hS hk18 hin20 dX6_addTube_106 (fun H locs hw hS => ?_)
                  refine lv_dup hx hb dX6_addTube_107 rfl ?_
                  refine lv_iconst (v := (2 : Int32)) hx hb dX6_addTube_108 (by decide) ?_
                  refine lv_iload_n hx hb dX6_addTube_109 rfl (lv_at hl 3 rfl) ?_
                  obtain ⟨hin21, h⟩ := h
                  refine r_iast hx hb hK hw hS hk18 hin21 dX6_addTube_110 (fun H locs hw hS => ?_)
                  refine lv_dup hx hb dX6_addTube_111 rfl ?_
                  refine lv_iconst (v := (3 : Int32)) hx hb dX6_addTube_112 (by decide) ?_
                  refine lv_iload hx hb dX6_addTube_113 (lv_at hl 4 rfl) ?_
                  obtain ⟨hin22, h⟩ := h
                  refine r_iast hx hb hK hw hS hk18 hin22 dX6_addTube_115 (fun H locs hw hS => ?_)
                  refine lv_dup hx hb dX6_addTube_116 rfl ?_
                  refine lv_iconst (v := (4 : Int32)) hx hb dX6_addTube_117 (by decide) ?_
                  refine lv_iload hx hb dX6_addTube_118 (lv_at hl 5 rfl) ?_
                  obtain ⟨hin23, h⟩ := h
                  refine r_iast hx hb hK hw hS hk18 hin23 dX6_addTube_120 (fun H locs hw hS => ?_)
                  refine lv_dup hx hb dX6_addTube_121 rfl ?_
                  refine lv_iconst (v := (5 : Int32)) hx hb dX6_addTube_122 (by decide) ?_
                  refine lv_iconst (v := (1 : Int32)) hx hb dX6_addTube_123 (by decide) ?_
                  obtain ⟨hin24, h⟩ := h
                  refine r_iast hx hb hK hw hS hk18 hin24 dX6_addTube_124 (fun H locs hw hS => ?_)
                  refine lv_dup hx hb dX6_addTube_125 rfl ?_
                  refine lv_bipush (v := (6 : Int32)) hx hb dX6_addTube_126 (by decide) ?_
                  refine lv_iconst (v := (0 : Int32)) hx hb dX6_addTube_128 (by decide) ?_
                  obtain ⟨hin25, h⟩ := h
                  refine r_iast hx hb hK hw hS hk18 hin25 dX6_addTube_129 (fun H locs hw hS => ?_)
                  refine lv_dup hx hb dX6_addTube_130 rfl ?_
                  refine lv_bipush (v := (7 : Int32)) hx hb dX6_addTube_131 (by decide) ?_
                  refine lv_iconst (v := (-1 : Int32)) hx hb dX6_addTube_133 (by decide) ?_
                  obtain ⟨hin26, h⟩ := h
                  refine r_iast hx hb hK hw hS hk18 hin26 dX6_addTube_134 (fun H locs hw hS => ?_)
                  refine lv_astore hx hb dX6_addTube_135 hl (by decide) rfl (fun ls hl => ?_)
                  have hl : lv_has ls 7 [(6, .ref q16), (0, .ref this), (1, .int p1), (2, .int p2), (3, .int p3), (4, .int p4), (5, .int p5)] := hl
                  refine lv_aload hx hb dX6_addTube_137 (lv_at hl 0 rfl) ?_
                  refine lv_iconst (v := (0 : Int32)) hx hb dX6_addTube_139 (by decide) ?_
                  refine lv_aload_n hx hb dX6_addTube_140 rfl (lv_at hl 1 rfl) ?_
                  obtain ⟨hk27, h⟩ := h
                  obtain ⟨b28, hb29, h⟩ := h
                  refine r_get (ci := 7) (v := .ref b28) (C := RX6) (T := TX6) (N := 17) hx hb hts hiX6 hown hK hw (ce_8 (S := (sV (sV (sV (sV (sV (sV (sV (sV (sNew S15 q16 9 (Int32.toNatClampNeg (8 : Int32))) 9 q16 (Int32.toNatClampNeg (0 : Int32)) p1) 9 q16 (Int32.toNatClampNeg (1 : Int32)) p2) 9 q16 (Int32.toNatClampNeg (2 : Int32)) p3) 9 q16 (Int32.toNatClampNeg (3 : Int32)) p4) 9 q16 (Int32.toNatClampNeg (4 : Int32)) p5) 9 q16 (Int32.toNatClampNeg (5 : Int32)) (1 : Int32)) 9 q16 (Int32.toNatClampNeg (6 : Int32)) (0 : Int32)) 9 q16 (Int32.toNatClampNeg (7 : Int32)) (-1 : Int32))) hk27) rfl 10 (by decide) (hts (.fieldLink RX6 13 "TubePostModel" "tubeTable" "[I") (by decide +kernel)) (fun _ h9 => h9) (congrArg (fun q => some (va_rf q)) hb29) dX6_addTube_141 ?_
                  refine lv_bipush (v := (8 : Int32)) hx hb dX6_addTube_144 (by decide) ?_
                  refine lv_aload_n hx hb dX6_addTube_146 rfl (lv_at hl 1 rfl) ?_
                  refine r_get (ci := 7) (v := .int (gV (sV (sV (sV (sV (sV (sV (sV (sV (sNew S15 q16 9 (Int32.toNatClampNeg (8 : Int32))) 9 q16 (Int32.toNatClampNeg (0 : Int32)) p1) 9 q16 (Int32.toNatClampNeg (1 : Int32)) p2) 9 q16 (Int32.toNatClampNeg (2 : Int32)) p3) 9 q16 (Int32.toNatClampNeg (3 : Int32)) p4) 9 q16 (Int32.toNatClampNeg (4 : Int32)) p5) 9 q16 (Int32.toNatClampNeg (5 : Int32)) (1 : Int32)) 9 q16 (Int32.toNatClampNeg (6 : Int32)) (0 : Int32)) 9 q16 (Int32.toNatClampNeg (7 : Int32)) (-1 : Int32)) 8 this 3)) (C := RX6) (T := TX6) (N := 17) hx hb hts hiX6 hown hK hw (ce_8 (S := (sV (sV (sV (sV (sV (sV (sV (sV (sNew S15 q16 9 (Int32.toNatClampNeg (8 : Int32))) 9 q16 (Int32.toNatClampNeg (0 : Int32)) p1) 9 q16 (Int32.toNatClampNeg (1 : Int32)) p2) 9 q16 (Int32.toNatClampNeg (2 : Int32)) p3) 9 q16 (Int32.toNatClampNeg (3 : Int32)) p4) 9 q16 (Int32.toNatClampNeg (4 : Int32)) p5) 9 q16 (Int32.toNatClampNeg (5 : Int32)) (1 : Int32)) 9 q16 (Int32.toNatClampNeg (6 : Int32)) (0 : Int32)) 9 q16 (Int32.toNatClampNeg (7 : Int32)) (-1 : Int32))) hk27) rfl 3 (by decide) (hts (.fieldLink RX6 42 "TubePostModel" "tubes" "I") (by decide +kernel)) (fun _ h9 => h9) rfl dX6_addTube_147 ?_
                  refine lv_imul hx hb dX6_addTube_150 ?_
                  refine lv_bipush (v := (8 : Int32)) hx hb dX6_addTube_151 (by decide) ?_
                  obtain ⟨hk30, h⟩ := h
                  obtain ⟨hc31, h⟩ := h
                  refine r_copyi hx hb (by rw [hml]; exact hl.1.symm) hown (hts (.methodLink RX6 49 arraycopyName) (by decide +kernel)) (hts (.native arraycopyName) (by decide +kernel)) (hts (.static arraycopyName) (by decide +kernel)) (hts (.initialized "java/lang/System") (by decide +kernel)) hK hw hS hk18 hk30 hc31 (Nat.le_trans (Nat.le_of_ble_eq_true rfl) hRf) (Nat.le_trans (by decide) hRl) dX6_addTube_153 (fun H locs hw hS => ?_)
                  refine lv_aload_n hx hb dX6_addTube_156 rfl (lv_at hl 1 rfl) ?_
                  obtain ⟨b32, hb33, h⟩ := h
                  refine r_get (ci := 7) (v := .ref b32) (C := RX6) (T := TX6) (N := 17) hx hb hts hiX6 hown hK hw (ce_8 (S := (sF (sV (sV (sV (sV (sV (sV (sV (sV (sNew S15 q16 9 (Int32.toNatClampNeg (8 : Int32))) 9 q16 (Int32.toNatClampNeg (0 : Int32)) p1) 9 q16 (Int32.toNatClampNeg (1 : Int32)) p2) 9 q16 (Int32.toNatClampNeg (2 : Int32)) p3) 9 q16 (Int32.toNatClampNeg (3 : Int32)) p4) 9 q16 (Int32.toNatClampNeg (4 : Int32)) p5) 9 q16 (Int32.toNatClampNeg (5 : Int32)) (1 : Int32)) 9 q16 (Int32.toNatClampNeg (6 : Int32)) (0 : Int32)) 9 q16 (Int32.toNatClampNeg (7 : Int32)) (-1 : Int32)) 9 b28 (va_cpy (gV (sV (sV (sV (sV (sV (sV (sV (sV (sNew S15 q16 9 (Int32.toNatClampNeg (8 : Int32))) 9 q16 (Int32.toNatClampNeg (0 : Int32)) p1) 9 q16 (Int32.toNatClampNeg (1 : Int32)) p2) 9 q16 (Int32.toNatClampNeg (2 : Int32)) p3) 9 q16 (Int32.toNatClampNeg (3 : Int32)) p4) 9 q16 (Int32.toNatClampNeg (4 : Int32)) p5) 9 q16 (Int32.toNatClampNeg (5 : Int32)) (1 : Int32)) 9 q16 (Int32.toNatClampNeg (6 : Int32)) (0 : Int32)) 9 q16 (Int32.toNatClampNeg (7 : Int32)) (-1 : Int32)) 9 q16) (gV (sV (sV (sV (sV (sV (sV (sV (sV (sNew S15 q16 9 (Int32.toNatClampNeg (8 : Int32))) 9 q16 (Int32.toNatClampNeg (0 : Int32)) p1) 9 q16 (Int32.toNatClampNeg (1 : Int32)) p2) 9 q16 (Int32.toNatClampNeg (2 : Int32)) p3) 9 q16 (Int32.toNatClampNeg (3 : Int32)) p4) 9 q16 (Int32.toNatClampNeg (4 : Int32)) p5) 9 q16 (Int32.toNatClampNeg (5 : Int32)) (1 : Int32)) 9 q16 (Int32.toNatClampNeg (6 : Int32)) (0 : Int32)) 9 q16 (Int32.toNatClampNeg (7 : Int32)) (-1 : Int32)) 9 b28) (Int32.toNatClampNeg (0 : Int32)) (Int32.toNatClampNeg ((8 : Int32) * (gV (sV (sV (sV (sV (sV (sV (sV (sV (sNew S15 q16 9 (Int32.toNatClampNeg (8 : Int32))) 9 q16 (Int32.toNatClampNeg (0 : Int32)) p1) 9 q16 (Int32.toNatClampNeg (1 : Int32)) p2) 9 q16 (Int32.toNatClampNeg (2 : Int32)) p3) 9 q16 (Int32.toNatClampNeg (3 : Int32)) p4) 9 q16 (Int32.toNatClampNeg (4 : Int32)) p5) 9 q16 (Int32.toNatClampNeg (5 : Int32)) (1 : Int32)) 9 q16 (Int32.toNatClampNeg (6 : Int32)) (0 : Int32)) 9 q16 (Int32.toNatClampNeg (7 : Int32)) (-1 : Int32)) 8 this 3))) (Int32.toNatClampNeg (8 : Int32))))) hk27) rfl 9 (by decide) (hts (.fieldLink RX6 9 "TubePostModel" "stationTable" "[I") (by decide +kernel)) (fun _ h9 => h9) (congrArg (fun q => some (va_rf q)) hb33) dX6_addTube_157 ?_
                  refine lv_bipush (v := (9 : Int32)) hx hb dX6_addTube_160 (by decide) ?_
                  refine lv_iload_n hx hb dX6_addTube_162 rfl (lv_at hl 2 rfl) ?_
                  refine lv_imul hx hb dX6_addTube_163 ?_
                  refine lv_iconst (v := (5 : Int32)) hx hb dX6_addTube_164 (by decide) ?_
                  refine lv_iadd hx hb dX6_addTube_165 ?_
                  refine lv_aload_n hx hb dX6_addTube_166 rfl (lv_at hl 1 rfl) ?_
                  refine lv_iload_n hx hb dX6_addTube_167 rfl (lv_at hl 2 rfl) ?_
                  refine lv_iconst (v := (2 : Int32)) hx hb dX6_addTube_168 (by decide) ?_
                  have h1 := h
                  refine va_calli (va_runV (As := [.int p1, .int (2 : Int32)]) (rest := [.int (((9 : Int32) * p1) + (5 : Int32)), .ref b32]) ⟨hx, hb, hml, hown, hts⟩ (m_X6_st (l := l) h1) (cwV 2 hts gX6_addTube_X6_st rfl rfl rfl (by decide +kernel) ⟨Nat.le_trans (Nat.le_of_ble_eq_true rfl) hRf, Nat.le_trans (Nat.le_of_ble_eq_true rfl) hRl⟩) (r_pV hB hw hS (ce_8 (S := (sF (sV (sV (sV (sV (sV (sV (sV (sV (sNew S15 q16 9 (Int32.toNatClampNeg (8 : Int32))) 9 q16 (Int32.toNatClampNeg (0 : Int32)) p1) 9 q16 (Int32.toNatClampNeg (1 : Int32)) p2) 9 q16 (Int32.toNatClampNeg (2 : Int32)) p3) 9 q16 (Int32.toNatClampNeg (3 : Int32)) p4) 9 q16 (Int32.toNatClampNeg (4 : Int32)) p5) 9 q16 (Int32.toNatClampNeg (5 : Int32)) (1 : Int32)) 9 q16 (Int32.toNatClampNeg (6 : Int32)) (0 : Int32)) 9 q16 (Int32.toNatClampNeg (7 : Int32)) (-1 : Int32)) 9 b28 (va_cpy (gV (sV (sV (sV (sV (sV (sV (sV (sV (sNew S15 q16 9 (Int32.toNatClampNeg (8 : Int32))) 9 q16 (Int32.toNatClampNeg (0 : Int32)) p1) 9 q16 (Int32.toNatClampNeg (1 : Int32)) p2) 9 q16 (Int32.toNatClampNeg (2 : Int32)) p3) 9 q16 (Int32.toNatClampNeg (3 : Int32)) p4) 9 q16 (Int32.toNatClampNeg (4 : Int32)) p5) 9 q16 (Int32.toNatClampNeg (5 : Int32)) (1 : Int32)) 9 q16 (Int32.toNatClampNeg (6 : Int32)) (0 : Int32)) 9 q16 (Int32.toNatClampNeg (7 : Int32)) (-1 : Int32)) 9 q16) (gV (sV (sV (sV (sV (sV (sV (sV (sV (sNew S15 q16 9 (Int32.toNatClampNeg (8 : Int32))) 9 q16 (Int32.toNatClampNeg (0 : Int32)) p1) 9 q16 (Int32.toNatClampNeg (1 : Int32)) p2) 9 q16 (Int32.toNatClampNeg (2 : Int32)) p3) 9 q16 (Int32.toNatClampNeg (3 : Int32)) p4) 9 q16 (Int32.toNatClampNeg (4 : Int32)) p5) 9 q16 (Int32.toNatClampNeg (5 : Int32)) (1 : Int32)) 9 q16 (Int32.toNatClampNeg (6 : Int32)) (0 : Int32)) 9 q16 (Int32.toNatClampNeg (7 : Int32)) (-1 : Int32)) 9 b28) (Int32.toNatClampNeg (0 : Int32)) (Int32.toNatClampNeg ((8 : Int32) * (gV (sV (sV (sV (sV (sV (sV (sV (sV (sNew S15 q16 9 (Int32.toNatClampNeg (8 : Int32))) 9 q16 (Int32.toNatClampNeg (0 : Int32)) p1) 9 q16 (Int32.toNatClampNeg (1 : Int32)) p2) 9 q16 (Int32.toNatClampNeg (2 : Int32)) p3) 9 q16 (Int32.toNatClampNeg (3 : Int32)) p4) 9 q16 (Int32.toNatClampNeg (4 : Int32)) p5) 9 q16 (Int32.toNatClampNeg (5 : Int32)) (1 : Int32)) 9 q16 (Int32.toNatClampNeg (6 : Int32)) (0 : Int32)) 9 q16 (Int32.toNatClampNeg (7 : Int32)) (-1 : Int32)) 8 this 3))) (Int32.toNatClampNeg (8 : Int32))))) hk27) rfl) rfl rfl hl.1 rfl (lv_room (Nat.le_of_ble_eq_true rfl)) dX6_addTube_169 ⟨by omega, by omega⟩) hS (fun _ _ h => h) (fun _ h => h) (fun r34 S35 t H1 locs ht _ h hw1 _ _ hS => ?_)
                  subst ht
                  have hw : wd D y z S35 A t.heap := hw1
                  clear hw1 h1
                  refine lv_iadd hx hb dX6_addTube_172 ?_
                  refine lv_aload_n hx hb dX6_addTube_173 rfl (lv_at hl 1 rfl) ?_
                  obtain ⟨hk36, h⟩ := h
                  refine r_get (ci := 7) (v := .int (gV S35 8 this 3)) (C := RX6) (T := TX6) (N := 17) hx hb hts hiX6 hown hK hw (ce_8 (S := S35) hk36) rfl 3 (by decide) (hts (.fieldLink RX6 42 "TubePostModel" "tubes" "I") (by decide +kernel)) (fun _ h9 => h9) rfl dX6_addTube_174 ?_
                  obtain ⟨hk37, h⟩ := h
                  obtain ⟨hin38, h⟩ := h
                  refine r_iast hx hb hK hw hS hk37 hin38 dX6_addTube_177 (fun H locs hw hS => ?_)
                  refine lv_aload_n hx hb dX6_addTube_178 rfl (lv_at hl 1 rfl) ?_
                  obtain ⟨b39, hb40, h⟩ := h
                  refine r_get (ci := 7) (v := .ref b39) (C := RX6) (T := TX6) (N := 17) hx hb hts hiX6 hown hK hw (ce_8 (S := (sV S35 9 b32 (Int32.toNatClampNeg ((((9 : Int32) * p1) + (5 : Int32)) + r34)) (gV S35 8 this 3))) hk36) rfl 9 (by decide) (hts (.fieldLink RX6 9 "TubePostModel" "stationTable" "[I") (by decide +kernel)) (fun _ h9 => h9) (congrArg (fun q => some (va_rf q)) hb40) dX6_addTube_179 ?_
                  refine lv_bipush (v := (9 : Int32)) hx hb dX6_addTube_182 (by decide) ?_
                  refine lv_iload_n hx hb dX6_addTube_184 rfl (lv_at hl 2 rfl) ?_
                  refine lv_imul hx hb dX6_addTube_185 ?_
                  refine lv_iconst (v := (2 : Int32)) hx hb dX6_addTube_186 (by decide) ?_
                  refine lv_iadd hx hb dX6_addTube_187 ?_
                  refine lv_dup2_11 hx hb dX6_addTube_188 rfl rfl ?_
                  obtain ⟨hk41, h⟩ := h
                  obtain ⟨hin42, h⟩ := h
                  refine r_iald hx hb hK hw hk41 hin42 dX6_addTube_189 ?_
                  refine lv_iconst (v := (1 : Int32)) hx hb dX6_addTube_190 (by decide) ?_
                  refine lv_iadd hx hb dX6_addTube_191 ?_
                  obtain ⟨hin43, h⟩ := h
                  refine r_iast hx hb hK hw hS hk41 hin43 dX6_addTube_192 (fun H locs hw hS => ?_)
                  refine lv_aload_n hx hb dX6_addTube_193 rfl (lv_at hl 1 rfl) ?_
                  refine lv_dup hx hb dX6_addTube_194 rfl ?_
                  refine r_get (ci := 7) (v := .int (gV (sV (sV S35 9 b32 (Int32.toNatClampNeg ((((9 : Int32) * p1) + (5 : Int32)) + r34)) (gV S35 8 this 3)) 9 b39 (Int32.toNatClampNeg (((9 : Int32) * p1) + (2 : Int32))) ((gV (sV S35 9 b32 (Int32.toNatClampNeg ((((9 : Int32) * p1) + (5 : Int32)) + r34)) (gV S35 8 this 3)) 9 b39 (Int32.toNatClampNeg (((9 : Int32) * p1) + (2 : Int32)))) + (1 : Int32))) 8 this 3)) (C := RX6) (T := TX6) (N := 17) hx hb hts hiX6 hown hK hw (ce_8 (S := (sV (sV S35 9 b32 (Int32.toNatClampNeg ((((9 : Int32) * p1) + (5 : Int32)) + r34)) (gV S35 8 this 3)) 9 b39 (Int32.toNatClampNeg (((9 : Int32) * p1) + (2 : Int32))) ((gV (sV S35 9 b32 (Int32.toNatClampNeg ((((9 : Int32) * p1) + (5 : Int32)) + r34)) (gV S35 8 this 3)) 9 b39 (Int32.toNatClampNeg (((9 : Int32) * p1) + (2 : Int32)))) + (1 : Int32)))) hk36) rfl 3 (by decide) (hts (.fieldLink RX6 42 "TubePostModel" "tubes" "I") (by decide +kernel)) (fun _ h9 => h9) rfl dX6_addTube_195 ?_
                  refine lv_iconst (v := (1 : Int32)) hx hb dX6_addTube_198 (by decide) ?_
                  refine lv_iadd hx hb dX6_addTube_199 ?_
                  refine r_putI (κ := 8) (ci := 7) (C := RX6) (T := TX6) (N := 17) (ty := .int) (x := ((gV (sV (sV S35 9 b32 (Int32.toNatClampNeg ((((9 : Int32) * p1) + (5 : Int32)) + r34)) (gV S35 8 this 3)) 9 b39 (Int32.toNatClampNeg (((9 : Int32) * p1) + (2 : Int32))) ((gV (sV S35 9 b32 (Int32.toNatClampNeg ((((9 : Int32) * p1) + (5 : Int32)) + r34)) (gV S35 8 this 3)) 9 b39 (Int32.toNatClampNeg (((9 : Int32) * p1) + (2 : Int32)))) + (1 : Int32))) 8 this 3) + (1 : Int32))) hx hb hts hiX6 tyX6 tyX6_ok nmX6 hown hK hw hS (ce_8 (S := (sV (sV S35 9 b32 (Int32.toNatClampNeg ((((9 : Int32) * p1) + (5 : Int32)) + r34)) (gV S35 8 this 3)) 9 b39 (Int32.toNatClampNeg (((9 : Int32) * p1) + (2 : Int32))) ((gV (sV S35 9 b32 (Int32.toNatClampNeg ((((9 : Int32) * p1) + (5 : Int32)) + r34)) (gV S35 8 this 3)) 9 b39 (Int32.toNatClampNeg (((9 : Int32) * p1) + (2 : Int32)))) + (1 : Int32)))) hk36) rfl 3 (by decide) (hts (.fieldLink RX6 42 "TubePostModel" "tubes" "I") (by decide +kernel)) (fun _ h9 => h9) rfl (by decide +kernel) rfl rfl (Nat.le_of_ble_eq_true rfl) (pu_8_3 (S := (sV (sV S35 9 b32 (Int32.toNatClampNeg ((((9 : Int32) * p1) + (5 : Int32)) + r34)) (gV S35 8 this 3)) 9 b39 (Int32.toNatClampNeg (((9 : Int32) * p1) + (2 : Int32))) ((gV (sV S35 9 b32 (Int32.toNatClampNeg ((((9 : Int32) * p1) + (5 : Int32)) + r34)) (gV S35 8 this 3)) 9 b39 (Int32.toNatClampNeg (((9 : Int32) * p1) + (2 : Int32)))) + (1 : Int32)))) hk36) dX6_addTube_200 (fun H locs hw hS => ?_)
                  refine lv_aload_n hx hb dX6_addTube_203 rfl (lv_at hl 1 rfl) ?_
                  refine r_get (ci := 7) (v := .int (gV (sV (sV (sV S35 9 b32 (Int32.toNatClampNeg ((((9 : Int32) * p1) + (5 : Int32)) + r34)) (gV S35 8 this 3)) 9 b39 (Int32.toNatClampNeg (((9 : Int32) * p1) + (2 : Int32))) ((gV (sV S35 9 b32 (Int32.toNatClampNeg ((((9 : Int32) * p1) + (5 : Int32)) + r34)) (gV S35 8 this 3)) 9 b39 (Int32.toNatClampNeg (((9 : Int32) * p1) + (2 : Int32)))) + (1 : Int32))) 8 this 3 ((gV (sV (sV S35 9 b32 (Int32.toNatClampNeg ((((9 : Int32) * p1) + (5 : Int32)) + r34)) (gV S35 8 this 3)) 9 b39 (Int32.toNatClampNeg (((9 : Int32) * p1) + (2 : Int32))) ((gV (sV S35 9 b32 (Int32.toNatClampNeg ((((9 : Int32) * p1) + (5 : Int32)) + r34)) (gV S35 8 this 3)) 9 b39 (Int32.toNatClampNeg (((9 : Int32) * p1) + (2 : Int32)))) + (1 : Int32))) 8 this 3) + (1 : Int32))) 8 this 3)) (C := RX6) (T := TX6) (N := 17) hx hb hts hiX6 hown hK hw (ce_8 (S := (sV (sV (sV S35 9 b32 (Int32.toNatClampNeg ((((9 : Int32) * p1) + (5 : Int32)) + r34)) (gV S35 8 this 3)) 9 b39 (Int32.toNatClampNeg (((9 : Int32) * p1) + (2 : Int32))) ((gV (sV S35 9 b32 (Int32.toNatClampNeg ((((9 : Int32) * p1) + (5 : Int32)) + r34)) (gV S35 8 this 3)) 9 b39 (Int32.toNatClampNeg (((9 : Int32) * p1) + (2 : Int32)))) + (1 : Int32))) 8 this 3 ((gV (sV (sV S35 9 b32 (Int32.toNatClampNeg ((((9 : Int32) * p1) + (5 : Int32)) + r34)) (gV S35 8 this 3)) 9 b39 (Int32.toNatClampNeg (((9 : Int32) * p1) + (2 : Int32))) ((gV (sV S35 9 b32 (Int32.toNatClampNeg ((((9 : Int32) * p1) + (5 : Int32)) + r34)) (gV S35 8 this 3)) 9 b39 (Int32.toNatClampNeg (((9 : Int32) * p1) + (2 : Int32)))) + (1 : Int32))) 8 this 3) + (1 : Int32)))) hk36) rfl 3 (by decide) (hts (.fieldLink RX6 42 "TubePostModel" "tubes" "I") (by decide +kernel)) (fun _ h9 => h9) rfl dX6_addTube_204 ?_
                  refine lv_iconst (v := (1 : Int32)) hx hb dX6_addTube_207 (by decide) ?_
                  refine lv_isub hx hb dX6_addTube_208 ?_
                  exact hret ((gV (sV (sV (sV S35 9 b32 (Int32.toNatClampNeg ((((9 : Int32) * p1) + (5 : Int32)) + r34)) (gV S35 8 this 3)) 9 b39 (Int32.toNatClampNeg (((9 : Int32) * p1) + (2 : Int32))) ((gV (sV S35 9 b32 (Int32.toNatClampNeg ((((9 : Int32) * p1) + (5 : Int32)) + r34)) (gV S35 8 this 3)) 9 b39 (Int32.toNatClampNeg (((9 : Int32) * p1) + (2 : Int32)))) + (1 : Int32))) 8 this 3 ((gV (sV (sV S35 9 b32 (Int32.toNatClampNeg ((((9 : Int32) * p1) + (5 : Int32)) + r34)) (gV S35 8 this 3)) 9 b39 (Int32.toNatClampNeg (((9 : Int32) * p1) + (2 : Int32))) ((gV (sV S35 9 b32 (Int32.toNatClampNeg ((((9 : Int32) * p1) + (5 : Int32)) + r34)) (gV S35 8 this 3)) 9 b39 (Int32.toNatClampNeg (((9 : Int32) * p1) + (2 : Int32)))) + (1 : Int32))) 8 this 3) + (1 : Int32))) 8 this 3) - (1 : Int32)) _ _ _ _ _ _ _ h hw hS (by omega) (by omega) dX6_addTube_209
                · have h := h.2 hc
                  exact hB89 _ _ _ _ _ _ _ _ _ h hw hS (lv_sub hl [0] rfl) hcu hsu
            · have h := h.2 hc
              exact hB64 _ _ _ _ _ _ _ _ _ h hw hS (lv_sub hl [0] rfl) hcu hsu
    · have h := h.2 hc
      exact hB21 _ _ _ _ _ _ _ _ _ h hw hS (lv_sub hl [0] rfl) hcu hsu
def wp_X6_turn (post : Int32 → bS → Prop) (this : Nat) (p1 : Int32) (p2 : Int32) (S : bS) : Prop := gK S this = 8 ∧ (wp_X6_isStation (fun r2 S3 => (r2 ≠ (0 : Int32) → gK S3 this = 8 ∧ (wp_X6_st (fun r5 S6 => wp_X6_isIn (fun r7 S8 => (r7 ≠ (0 : Int32) → gK S8 this = 8 ∧ (wp_X6_st (fun r10 S11 => gK S11 this = 8 ∧ (∃ b13, gQ S11 8 this 9 = some b13 ∧ (gK S11 b13 = 9 ∧ (vp_in (((9 : Int32) * p1) + (3 : Int32)) (gN S11 b13) ∧ (post r10 (sV S11 9 b13 (Int32.toNatClampNeg (((9 : Int32) * p1) + (3 : Int32))) p2)))))) this p1 (3 : Int32) S8)) ∧ (r7 = (0 : Int32) → gK S8 this = 8 ∧ (wp_X6_fail (fun r18 S19 => post r18 S19) this (2 : Int32) S8))) p2 (-1 : Int32) (r5 - (1 : Int32)) S6) this p1 (2 : Int32) S3)) ∧ (r2 = (0 : Int32) → gK S3 this = 8 ∧ (wp_X6_fail (fun r21 S22 => post r21 S22) this (1 : Int32) S3))) this p1 (sV S 8 this 0 (0 : Int32)))
set_option maxHeartbeats 4000000 in
set_option maxRecDepth 100000 in
theorem m_X6_turn {l : Launch} {D : va_G} {y : Nat → ClassId} {z : Nat} {A : Nat → Prop} {S : bS} {post : Int32 → bS → Prop} {this : Nat} {p1 : Int32} {p2 : Int32} (h : wp_X6_turn post this p1 p2 S) : Met l yX6_turn wsX6_turn ({ frames := 2, cells := 0, slots := 0, locals := 43 } : Room) (va_Pc ([Value.ref this, Value.int p1, Value.int p2] : List Value) (bP D y z S A)) (va_Qi post (fun S' t => wd D y z S' A t.heap) A) 0 0 A := by
  refine Met.ofW (cc := cX6_turn) (maxL := 4) (ret := (some .int)) (by decide) rfl ?_
  intro p e s m args below meth c s₁ B hml hv
  obtain ⟨rfl, hB⟩ := hv
  have hx := B.exec
  have hb := B.bytes
  have hr := B.returns
  have hts := atoms_spec (ws := wsX6_turn) B.pre
  have hown : s.vm.findClass RX6 = some m.cls := findClass_of_methodNamed B.named
  have hlocks := B.notSynchronized
  have hw : wd D y z S A s.heap := hB.1
  have hK : va_K D bCl (bT y) s := hB.2.1
  have hNw := hB.2.2.1
  have hAn : ∀ q : Nat, s.heap.size ≤ q → A q := hB.2.2.2.1
  have hAz : ¬ A z := hB.2.2.2.2.1
  have hO := hB.2.2.2.2.2.1
  have hS : va_S A s.heap s.heap [] := va_S.rf
  have hiX6 : ∀ w ∈ u_ws RX6 TX6 17, w ∈ wsX6_turn := by decide +kernel
  have hl := lv_entry ([Value.ref this, Value.int p1, Value.int p2] : List Value) (n := 4) (Nat.le_of_ble_eq_true rfl)
  rw [lg_entry_eq]
  generalize (lg_sl ([Value.ref this, Value.int p1, Value.int p2] : List Value) ++ List.replicate (4 - (lg_sl ([Value.ref this, Value.int p1, Value.int p2] : List Value)).length) Slot.unset).toArray = ls at hl ⊢
  have hl : lv_has ls 4 [(0, .ref this), (1, .int p1), (2, .int p2)] := hl
  obtain ⟨Q, hQ⟩ : ∃ Q, Q = MQ below (va_Qi post (fun S' t => wd D y z S' A t.heap) A) (([Value.ref this, Value.int p1, Value.int p2] : List Value).toArray) s 0 0 A := ⟨_, rfl⟩
  rw [← hQ]
  generalize hR : (headSpec wsX6_turn ({ frames := 2, cells := 0, slots := 0, locals := 43 } : Room)).room = R
  have hRf : 2 ≤ R.frames := by rw [← hR]; exact Nat.le_refl _
  have hRl : 43 ≤ R.locals := by rw [← hR]; exact Nat.le_refl _
  have hret : ∀ (v : Int32) (S : bS) (H : Heap) (locs : List Loc) (pc : Nat) (ls : Array Slot) , post v S → wd D y z S A H → va_S A s.heap H locs → decode cX6_turn pc = .ok (.ireturn, 1) → W p l e R s m (([Value.ref this, Value.int p1, Value.int p2] : List Value).toArray) below meth c H locs 0 0 Q (F0 m pc ls [.int v]) := by
    intro v S H locs pc ls h hw hS d0
    rw [hQ]; exact W.iret hx hb hr (fun t ht hW => ⟨⟨v, S, rfl, h, by show wd D y z S A t.heap; rw [ht]; exact hw⟩, hS.F ht⟩) hS.2.2 d0 hlocks
  unfold wp_X6_turn at h
  refine lv_aload_n hx hb dX6_turn_0 rfl (lv_at hl 0 rfl) ?_
  refine lv_iconst (v := (0 : Int32)) hx hb dX6_turn_1 (by decide) ?_
  obtain ⟨hk1, h⟩ := h
  refine r_putI (κ := 8) (ci := 7) (C := RX6) (T := TX6) (N := 17) (ty := .int) (x := (0 : Int32)) hx hb hts hiX6 tyX6 tyX6_ok nmX6 hown hK hw hS (ce_8 (S := S) hk1) rfl 0 (by decide) (hts (.fieldLink RX6 31 "TubePostModel" "thrown" "I") (by decide +kernel)) (fun _ h9 => h9) rfl (by decide +kernel) rfl rfl (Nat.le_of_ble_eq_true rfl) (pu_8_0 (S := S) hk1) dX6_turn_2 (fun H locs hw hS => ?_)
  refine lv_aload_n hx hb dX6_turn_5 rfl (lv_at hl 0 rfl) ?_
  refine lv_iload_n hx hb dX6_turn_6 rfl (lv_at hl 1 rfl) ?_
  have h1 := h
  refine va_calli (va_runV (As := [.int p1]) (rest := []) ⟨hx, hb, hml, hown, hts⟩ (m_X6_isStation (l := l) h1) (cwV 1 hts gX6_turn_X6_isStation rfl rfl rfl (by decide +kernel) ⟨Nat.le_trans (Nat.le_of_ble_eq_true rfl) hRf, Nat.le_trans (Nat.le_of_ble_eq_true rfl) hRl⟩) (r_pV hB hw hS (ce_8 (S := (sV S 8 this 0 (0 : Int32))) hk1) rfl) rfl rfl hl.1 rfl (lv_room (Nat.le_of_ble_eq_true rfl)) dX6_turn_7 ⟨Nat.zero_le _, Nat.zero_le _⟩) hS (fun _ _ h => h) (fun _ h => h) (fun r2 S3 t H1 locs ht _ h hw1 _ _ hS => ?_)
  subst ht
  have hw : wd D y z S3 A t.heap := hw1
  clear hw1 h1
  refine lv_if_ne (tgt := 19) hx hb dX6_turn_10 (by decide) (fun hc => ?_) (fun hc => ?_)
  · have h := h.1 hc
    refine lv_iload_n hx hb dX6_turn_19 rfl (lv_at hl 2 rfl) ?_
    refine lv_iconst (v := (-1 : Int32)) hx hb dX6_turn_20 (by decide) ?_
    refine lv_aload_n hx hb dX6_turn_21 rfl (lv_at hl 0 rfl) ?_
    refine lv_iload_n hx hb dX6_turn_22 rfl (lv_at hl 1 rfl) ?_
    refine lv_iconst (v := (2 : Int32)) hx hb dX6_turn_23 (by decide) ?_
    obtain ⟨hk4, h⟩ := h
    have h1 := h
    refine va_calli (va_runV (As := [.int p1, .int (2 : Int32)]) (rest := [.int (-1 : Int32), .int p2]) ⟨hx, hb, hml, hown, hts⟩ (m_X6_st (l := l) h1) (cwV 2 hts gX6_turn_X6_st rfl rfl rfl (by decide +kernel) ⟨Nat.le_trans (Nat.le_of_ble_eq_true rfl) hRf, Nat.le_trans (Nat.le_of_ble_eq_true rfl) hRl⟩) (r_pV hB hw hS (ce_8 (S := S3) hk4) rfl) rfl rfl hl.1 rfl (lv_room (Nat.le_of_ble_eq_true rfl)) dX6_turn_24 ⟨Nat.zero_le _, Nat.zero_le _⟩) hS (fun _ _ h => h) (fun _ h => h) (fun r5 S6 t H1 locs ht _ h hw1 _ _ hS => ?_)
    subst ht
    have hw : wd D y z S6 A t.heap := hw1
    clear hw1 h1
    refine lv_iconst (v := (1 : Int32)) hx hb dX6_turn_27 (by decide) ?_
    refine lv_isub hx hb dX6_turn_28 ?_
    have h1 := h
    refine va_calli (va_runS (As := [.int p2, .int (-1 : Int32), .int (r5 - (1 : Int32))]) (rest := []) ⟨hx, hb, hml, hown, hts⟩ (m_X6_isIn (l := l) h1) (cwS 3 hts gX6_turn_X6_isIn rfl rfl rfl (by decide +kernel) ⟨Nat.le_trans (Nat.le_of_ble_eq_true rfl) hRf, Nat.le_trans (Nat.le_of_ble_eq_true rfl) hRl⟩) (r_pS hB hw hS) rfl rfl hl.1 rfl (lv_room (Nat.le_of_ble_eq_true rfl)) dX6_turn_29 ⟨Nat.zero_le _, Nat.zero_le _⟩) hS (fun _ _ h => h) (fun _ h => h) (fun r7 S8 t H1 locs ht _ h hw1 _ _ hS => ?_)
    subst ht
    have hw : wd D y z S8 A t.heap := hw1
    clear hw1 h1
    refine lv_if_ne (tgt := 41) hx hb dX6_turn_32 (by decide) (fun hc => ?_) (fun hc => ?_)
    · have h := h.1 hc
      refine lv_aload_n hx hb dX6_turn_41 rfl (lv_at hl 0 rfl) ?_
      refine lv_iload_n hx hb dX6_turn_42 rfl (lv_at hl 1 rfl) ?_
      refine lv_iconst (v := (3 : Int32)) hx hb dX6_turn_43 (by decide) ?_
      obtain ⟨hk9, h⟩ := h
      have h1 := h
      refine va_calli (va_runV (As := [.int p1, .int (3 : Int32)]) (rest := []) ⟨hx, hb, hml, hown, hts⟩ (m_X6_st (l := l) h1) (cwV 2 hts gX6_turn_X6_st rfl rfl rfl (by decide +kernel) ⟨Nat.le_trans (Nat.le_of_ble_eq_true rfl) hRf, Nat.le_trans (Nat.le_of_ble_eq_true rfl) hRl⟩) (r_pV hB hw hS (ce_8 (S := S8) hk9) rfl) rfl rfl hl.1 rfl (lv_room (Nat.le_of_ble_eq_true rfl)) dX6_turn_44 ⟨Nat.zero_le _, Nat.zero_le _⟩) hS (fun _ _ h => h) (fun _ h => h) (fun r10 S11 t H1 locs ht _ h hw1 _ _ hS => ?_)
      subst ht
      have hw : wd D y z S11 A t.heap := hw1
      clear hw1 h1
      refine lv_istore_n hx hb dX6_turn_47 rfl hl (by decide) rfl (fun ls hl => ?_)
      have hl : lv_has ls 4 [(3, .int r10), (0, .ref this), (1, .int p1), (2, .int p2)] := hl
      refine lv_aload_n hx hb dX6_turn_48 rfl (lv_at hl 1 rfl) ?_
      obtain ⟨hk12, h⟩ := h
      obtain ⟨b13, hb14, h⟩ := h
      refine r_get (ci := 7) (v := .ref b13) (C := RX6) (T := TX6) (N := 17) hx hb hts hiX6 hown hK hw (ce_8 (S := S11) hk12) rfl 9 (by decide) (hts (.fieldLink RX6 9 "TubePostModel" "stationTable" "[I") (by decide +kernel)) (fun _ h9 => h9) (congrArg (fun q => some (va_rf q)) hb14) dX6_turn_49 ?_
      refine lv_bipush (v := (9 : Int32)) hx hb dX6_turn_52 (by decide) ?_
      refine lv_iload_n hx hb dX6_turn_54 rfl (lv_at hl 2 rfl) ?_
      refine lv_imul hx hb dX6_turn_55 ?_
      refine lv_iconst (v := (3 : Int32)) hx hb dX6_turn_56 (by decide) ?_
      refine lv_iadd hx hb dX6_turn_57 ?_
      refine lv_iload_n hx hb dX6_turn_58 rfl (lv_at hl 3 rfl) ?_
      obtain ⟨hk15, h⟩ := h
      obtain ⟨hin16, h⟩ := h
      refine r_iast hx hb hK hw hS hk15 hin16 dX6_turn_59 (fun H locs hw hS => ?_)
      refine lv_iload_n hx hb dX6_turn_60 rfl (lv_at hl 0 rfl) ?_
      exact hret r10 _ _ _ _ _ h hw hS dX6_turn_61
    · have h := h.2 hc
      refine lv_aload_n hx hb dX6_turn_35 rfl (lv_at hl 0 rfl) ?_
      refine lv_iconst (v := (2 : Int32)) hx hb dX6_turn_36 (by decide) ?_
      obtain ⟨hk17, h⟩ := h
      have h1 := h
      refine va_calli (va_runV (As := [.int (2 : Int32)]) (rest := []) ⟨hx, hb, hml, hown, hts⟩ (m_X6_fail (l := l) h1) (cwV 1 hts gX6_turn_X6_fail rfl rfl rfl (by decide +kernel) ⟨Nat.le_trans (Nat.le_of_ble_eq_true rfl) hRf, Nat.le_trans (Nat.le_of_ble_eq_true rfl) hRl⟩) (r_pV hB hw hS (ce_8 (S := S8) hk17) rfl) rfl rfl hl.1 rfl (lv_room (Nat.le_of_ble_eq_true rfl)) dX6_turn_37 ⟨Nat.zero_le _, Nat.zero_le _⟩) hS (fun _ _ h => h) (fun _ h => h) (fun r18 S19 t H1 locs ht _ h hw1 _ _ hS => ?_)
      subst ht
      have hw : wd D y z S19 A t.heap := hw1
      clear hw1 h1
      exact hret r18 _ _ _ _ _ h hw hS dX6_turn_40
  · have h := h.2 hc
    refine lv_aload_n hx hb dX6_turn_13 rfl (lv_at hl 0 rfl) ?_
    refine lv_iconst (v := (1 : Int32)) hx hb dX6_turn_14 (by decide) ?_
    obtain ⟨hk20, h⟩ := h
    have h1 := h
    refine va_calli (va_runV (As := [.int (1 : Int32)]) (rest := []) ⟨hx, hb, hml, hown, hts⟩ (m_X6_fail (l := l) h1) (cwV 1 hts gX6_turn_X6_fail rfl rfl rfl (by decide +kernel) ⟨Nat.le_trans (Nat.le_of_ble_eq_true rfl) hRf, Nat.le_trans (Nat.le_of_ble_eq_true rfl) hRl⟩) (r_pV hB hw hS (ce_8 (S := S3) hk20) rfl) rfl rfl hl.1 rfl (lv_room (Nat.le_of_ble_eq_true rfl)) dX6_turn_15 ⟨Nat.zero_le _, Nat.zero_le _⟩) hS (fun _ _ h => h) (fun _ h => h) (fun r21 S22 t H1 locs ht _ h hw1 _ _ hS => ?_)
    subst ht
    have hw : wd D y z S22 A t.heap := hw1
    clear hw1 h1
    exact hret r21 _ _ _ _ _ h hw hS dX6_turn_18
def wb_X6_setTube_74 (post : Int32 → bS → Prop) (v4 : Int32) (s0 : Int32) (s1 : Int32) (s2 : Nat) (S : bS) : Prop := gK S s2 = 9 ∧ (vp_in s1 (gN S s2) ∧ (post v4 (sV S 9 s2 (Int32.toNatClampNeg s1) s0)))
def wp_X6_setTube (post : Int32 → bS → Prop) (this : Nat) (p1 : Int32) (p2 : Int32) (p3 : Int32) (S : bS) : Prop := gK S this = 8 ∧ (wp_X6_isTube (fun r2 S3 => (r2 ≠ (0 : Int32) → wp_X6_isIn (fun r4 S5 => (r4 ≠ (0 : Int32) → gK S5 this = 8 ∧ (wp_X6_tu (fun r7 S8 => gK S8 this = 8 ∧ (∃ b10, gQ S8 8 this 10 = some b10 ∧ (gK S8 b10 = 9 ∧ (vp_in (((8 : Int32) * p1) + (3 : Int32)) (gN S8 b10) ∧ (∃ b14, gQ (sV S8 9 b10 (Int32.toNatClampNeg (((8 : Int32) * p1) + (3 : Int32))) p2) 8 this 10 = some b14 ∧ ((p3 = (0 : Int32) → wb_X6_setTube_74 post r7 (0 : Int32) (((8 : Int32) * p1) + (5 : Int32)) b14 (sV S8 9 b10 (Int32.toNatClampNeg (((8 : Int32) * p1) + (3 : Int32))) p2)) ∧ (¬ (p3 = (0 : Int32)) → wb_X6_setTube_74 post r7 (1 : Int32) (((8 : Int32) * p1) + (5 : Int32)) b14 (sV S8 9 b10 (Int32.toNatClampNeg (((8 : Int32) * p1) + (3 : Int32))) p2)))))))) this p1 (3 : Int32) S5)) ∧ (r4 = (0 : Int32) → gK S5 this = 8 ∧ (wp_X6_fail (fun r17 S18 => post r17 S18) this (2 : Int32) S5))) p2 (1 : Int32) (6 : Int32) S3) ∧ (r2 = (0 : Int32) → gK S3 this = 8 ∧ (wp_X6_fail (fun r20 S21 => post r20 S21) this (1 : Int32) S3))) this p1 (sV S 8 this 0 (0 : Int32)))
set_option maxHeartbeats 4000000 in
set_option maxRecDepth 100000 in
theorem m_X6_setTube {l : Launch} {D : va_G} {y : Nat → ClassId} {z : Nat} {A : Nat → Prop} {S : bS} {post : Int32 → bS → Prop} {this : Nat} {p1 : Int32} {p2 : Int32} {p3 : Int32} (h : wp_X6_setTube post this p1 p2 p3 S) : Met l yX6_setTube wsX6_setTube ({ frames := 2, cells := 0, slots := 0, locals := 43 } : Room) (va_Pc ([Value.ref this, Value.int p1, Value.int p2, Value.int p3] : List Value) (bP D y z S A)) (va_Qi post (fun S' t => wd D y z S' A t.heap) A) 0 0 A := by
  refine Met.ofW (cc := cX6_setTube) (maxL := 5) (ret := (some .int)) (by decide) rfl ?_
  intro p e s m args below meth c s₁ B hml hv
  obtain ⟨rfl, hB⟩ := hv
  have hx := B.exec
  have hb := B.bytes
  have hr := B.returns
  have hts := atoms_spec (ws := wsX6_setTube) B.pre
  have hown : s.vm.findClass RX6 = some m.cls := findClass_of_methodNamed B.named
  have hlocks := B.notSynchronized
  have hw : wd D y z S A s.heap := hB.1
  have hK : va_K D bCl (bT y) s := hB.2.1
  have hNw := hB.2.2.1
  have hAn : ∀ q : Nat, s.heap.size ≤ q → A q := hB.2.2.2.1
  have hAz : ¬ A z := hB.2.2.2.2.1
  have hO := hB.2.2.2.2.2.1
  have hS : va_S A s.heap s.heap [] := va_S.rf
  have hiX6 : ∀ w ∈ u_ws RX6 TX6 17, w ∈ wsX6_setTube := by decide +kernel
  have hl := lv_entry ([Value.ref this, Value.int p1, Value.int p2, Value.int p3] : List Value) (n := 5) (Nat.le_of_ble_eq_true rfl)
  rw [lg_entry_eq]
  generalize (lg_sl ([Value.ref this, Value.int p1, Value.int p2, Value.int p3] : List Value) ++ List.replicate (5 - (lg_sl ([Value.ref this, Value.int p1, Value.int p2, Value.int p3] : List Value)).length) Slot.unset).toArray = ls at hl ⊢
  have hl : lv_has ls 5 [(0, .ref this), (1, .int p1), (2, .int p2), (3, .int p3)] := hl
  obtain ⟨Q, hQ⟩ : ∃ Q, Q = MQ below (va_Qi post (fun S' t => wd D y z S' A t.heap) A) (([Value.ref this, Value.int p1, Value.int p2, Value.int p3] : List Value).toArray) s 0 0 A := ⟨_, rfl⟩
  rw [← hQ]
  generalize hR : (headSpec wsX6_setTube ({ frames := 2, cells := 0, slots := 0, locals := 43 } : Room)).room = R
  have hRf : 2 ≤ R.frames := by rw [← hR]; exact Nat.le_refl _
  have hRl : 43 ≤ R.locals := by rw [← hR]; exact Nat.le_refl _
  have hret : ∀ (v : Int32) (S : bS) (H : Heap) (locs : List Loc) (pc : Nat) (ls : Array Slot) , post v S → wd D y z S A H → va_S A s.heap H locs → decode cX6_setTube pc = .ok (.ireturn, 1) → W p l e R s m (([Value.ref this, Value.int p1, Value.int p2, Value.int p3] : List Value).toArray) below meth c H locs 0 0 Q (F0 m pc ls [.int v]) := by
    intro v S H locs pc ls h hw hS d0
    rw [hQ]; exact W.iret hx hb hr (fun t ht hW => ⟨⟨v, S, rfl, h, by show wd D y z S A t.heap; rw [ht]; exact hw⟩, hS.F ht⟩) hS.2.2 d0 hlocks
  have hB74 : ∀ (S : bS) (H : Heap) (locs : List Loc) (ls : Array Slot) (v4 : Int32) (s0 : Int32) (s1 : Int32) (s2 : Nat), wb_X6_setTube_74 post v4 s0 s1 s2 S → wd D y z S A H → va_S A s.heap H locs → lv_has ls 5 [(4, .int v4)] → W p l e R s m (([Value.ref this, Value.int p1, Value.int p2, Value.int p3] : List Value).toArray) below meth c H locs 0 0 Q (F0 m 74 ls [.int s0, .int s1, .ref s2]) := by
    intro S H locs ls v4 s0 s1 s2 h hw hS hl
    unfold wb_X6_setTube_74 at h
    obtain ⟨hk22, h⟩ := h
    obtain ⟨hin23, h⟩ := h
    refine r_iast hx hb hK hw hS hk22 hin23 dX6_setTube_74 (fun H locs hw hS => ?_)
    refine lv_iload hx hb dX6_setTube_75 (lv_at hl 0 rfl) ?_
    exact hret v4 _ _ _ _ _ h hw hS dX6_setTube_77
  unfold wp_X6_setTube at h
  refine lv_aload_n hx hb dX6_setTube_0 rfl (lv_at hl 0 rfl) ?_
  refine lv_iconst (v := (0 : Int32)) hx hb dX6_setTube_1 (by decide) ?_
  obtain ⟨hk1, h⟩ := h
  refine r_putI (κ := 8) (ci := 7) (C := RX6) (T := TX6) (N := 17) (ty := .int) (x := (0 : Int32)) hx hb hts hiX6 tyX6 tyX6_ok nmX6 hown hK hw hS (ce_8 (S := S) hk1) rfl 0 (by decide) (hts (.fieldLink RX6 31 "TubePostModel" "thrown" "I") (by decide +kernel)) (fun _ h9 => h9) rfl (by decide +kernel) rfl rfl (Nat.le_of_ble_eq_true rfl) (pu_8_0 (S := S) hk1) dX6_setTube_2 (fun H locs hw hS => ?_)
  refine lv_aload_n hx hb dX6_setTube_5 rfl (lv_at hl 0 rfl) ?_
  refine lv_iload_n hx hb dX6_setTube_6 rfl (lv_at hl 1 rfl) ?_
  have h1 := h
  refine va_calli (va_runV (As := [.int p1]) (rest := []) ⟨hx, hb, hml, hown, hts⟩ (m_X6_isTube (l := l) h1) (cwV 1 hts gX6_setTube_X6_isTube rfl rfl rfl (by decide +kernel) ⟨Nat.le_trans (Nat.le_of_ble_eq_true rfl) hRf, Nat.le_trans (Nat.le_of_ble_eq_true rfl) hRl⟩) (r_pV hB hw hS (ce_8 (S := (sV S 8 this 0 (0 : Int32))) hk1) rfl) rfl rfl hl.1 rfl (lv_room (Nat.le_of_ble_eq_true rfl)) dX6_setTube_7 ⟨Nat.zero_le _, Nat.zero_le _⟩) hS (fun _ _ h => h) (fun _ h => h) (fun r2 S3 t H1 locs ht _ h hw1 _ _ hS => ?_)
  subst ht
  have hw : wd D y z S3 A t.heap := hw1
  clear hw1 h1
  refine lv_if_ne (tgt := 19) hx hb dX6_setTube_10 (by decide) (fun hc => ?_) (fun hc => ?_)
  · have h := h.1 hc
    refine lv_iload_n hx hb dX6_setTube_19 rfl (lv_at hl 2 rfl) ?_
    refine lv_iconst (v := (1 : Int32)) hx hb dX6_setTube_20 (by decide) ?_
    refine lv_bipush (v := (6 : Int32)) hx hb dX6_setTube_21 (by decide) ?_
    have h1 := h
    refine va_calli (va_runS (As := [.int p2, .int (1 : Int32), .int (6 : Int32)]) (rest := []) ⟨hx, hb, hml, hown, hts⟩ (m_X6_isIn (l := l) h1) (cwS 3 hts gX6_setTube_X6_isIn rfl rfl rfl (by decide +kernel) ⟨Nat.le_trans (Nat.le_of_ble_eq_true rfl) hRf, Nat.le_trans (Nat.le_of_ble_eq_true rfl) hRl⟩) (r_pS hB hw hS) rfl rfl hl.1 rfl (lv_room (Nat.le_of_ble_eq_true rfl)) dX6_setTube_23 ⟨Nat.zero_le _, Nat.zero_le _⟩) hS (fun _ _ h => h) (fun _ h => h) (fun r4 S5 t H1 locs ht _ h hw1 _ _ hS => ?_)
    subst ht
    have hw : wd D y z S5 A t.heap := hw1
    clear hw1 h1
    refine lv_if_ne (tgt := 35) hx hb dX6_setTube_26 (by decide) (fun hc => ?_) (fun hc => ?_)
    · have h := h.1 hc
      refine lv_aload_n hx hb dX6_setTube_35 rfl (lv_at hl 0 rfl) ?_
      refine lv_iload_n hx hb dX6_setTube_36 rfl (lv_at hl 1 rfl) ?_
      refine lv_iconst (v := (3 : Int32)) hx hb dX6_setTube_37 (by decide) ?_
      obtain ⟨hk6, h⟩ := h
      have h1 := h
      refine va_calli (va_runV (As := [.int p1, .int (3 : Int32)]) (rest := []) ⟨hx, hb, hml, hown, hts⟩ (m_X6_tu (l := l) h1) (cwV 2 hts gX6_setTube_X6_tu rfl rfl rfl (by decide +kernel) ⟨Nat.le_trans (Nat.le_of_ble_eq_true rfl) hRf, Nat.le_trans (Nat.le_of_ble_eq_true rfl) hRl⟩) (r_pV hB hw hS (ce_8 (S := S5) hk6) rfl) rfl rfl hl.1 rfl (lv_room (Nat.le_of_ble_eq_true rfl)) dX6_setTube_38 ⟨Nat.zero_le _, Nat.zero_le _⟩) hS (fun _ _ h => h) (fun _ h => h) (fun r7 S8 t H1 locs ht _ h hw1 _ _ hS => ?_)
      subst ht
      have hw : wd D y z S8 A t.heap := hw1
      clear hw1 h1
      refine lv_istore hx hb dX6_setTube_41 hl (by decide) rfl (fun ls hl => ?_)
      have hl : lv_has ls 5 [(4, .int r7), (0, .ref this), (1, .int p1), (2, .int p2), (3, .int p3)] := hl
      refine lv_aload_n hx hb dX6_setTube_43 rfl (lv_at hl 1 rfl) ?_
      obtain ⟨hk9, h⟩ := h
      obtain ⟨b10, hb11, h⟩ := h
      refine r_get (ci := 7) (v := .ref b10) (C := RX6) (T := TX6) (N := 17) hx hb hts hiX6 hown hK hw (ce_8 (S := S8) hk9) rfl 10 (by decide) (hts (.fieldLink RX6 13 "TubePostModel" "tubeTable" "[I") (by decide +kernel)) (fun _ h9 => h9) (congrArg (fun q => some (va_rf q)) hb11) dX6_setTube_44 ?_
      refine lv_bipush (v := (8 : Int32)) hx hb dX6_setTube_47 (by decide) ?_
      refine lv_iload_n hx hb dX6_setTube_49 rfl (lv_at hl 2 rfl) ?_
      refine lv_imul hx hb dX6_setTube_50 ?_
      refine lv_iconst (v := (3 : Int32)) hx hb dX6_setTube_51 (by decide) ?_
      refine lv_iadd hx hb dX6_setTube_52 ?_
      refine lv_iload_n hx hb dX6_setTube_53 rfl (lv_at hl 3 rfl) ?_
      obtain ⟨hk12, h⟩ := h
      obtain ⟨hin13, h⟩ := h
      refine r_iast hx hb hK hw hS hk12 hin13 dX6_setTube_54 (fun H locs hw hS => ?_)
      refine lv_aload_n hx hb dX6_setTube_55 rfl (lv_at hl 1 rfl) ?_
      obtain ⟨b14, hb15, h⟩ := h
      refine r_get (ci := 7) (v := .ref b14) (C := RX6) (T := TX6) (N := 17) hx hb hts hiX6 hown hK hw (ce_8 (S := (sV S8 9 b10 (Int32.toNatClampNeg (((8 : Int32) * p1) + (3 : Int32))) p2)) hk9) rfl 10 (by decide) (hts (.fieldLink RX6 13 "TubePostModel" "tubeTable" "[I") (by decide +kernel)) (fun _ h9 => h9) (congrArg (fun q => some (va_rf q)) hb15) dX6_setTube_56 ?_
      refine lv_bipush (v := (8 : Int32)) hx hb dX6_setTube_59 (by decide) ?_
      refine lv_iload_n hx hb dX6_setTube_61 rfl (lv_at hl 2 rfl) ?_
      refine lv_imul hx hb dX6_setTube_62 ?_
      refine lv_iconst (v := (5 : Int32)) hx hb dX6_setTube_63 (by decide) ?_
      refine lv_iadd hx hb dX6_setTube_64 ?_
      refine lv_iload_n hx hb dX6_setTube_65 rfl (lv_at hl 4 rfl) ?_
      refine lv_if_eq (tgt := 73) hx hb dX6_setTube_66 (by decide) (fun hc => ?_) (fun hc => ?_)
      · have h := h.1 hc
        refine lv_iconst (v := (0 : Int32)) hx hb dX6_setTube_73 (by decide) ?_
        exact hB74 _ _ _ _ _ _ _ _ h hw hS (lv_sub hl [0] rfl)
      · have h := h.2 hc
        refine lv_iconst (v := (1 : Int32)) hx hb dX6_setTube_69 (by decide) ?_
        refine lv_goto (tgt := 74) hx hb dX6_setTube_70 (by decide) ?_
        exact hB74 _ _ _ _ _ _ _ _ h hw hS (lv_sub hl [0] rfl)
    · have h := h.2 hc
      refine lv_aload_n hx hb dX6_setTube_29 rfl (lv_at hl 0 rfl) ?_
      refine lv_iconst (v := (2 : Int32)) hx hb dX6_setTube_30 (by decide) ?_
      obtain ⟨hk16, h⟩ := h
      have h1 := h
      refine va_calli (va_runV (As := [.int (2 : Int32)]) (rest := []) ⟨hx, hb, hml, hown, hts⟩ (m_X6_fail (l := l) h1) (cwV 1 hts gX6_setTube_X6_fail rfl rfl rfl (by decide +kernel) ⟨Nat.le_trans (Nat.le_of_ble_eq_true rfl) hRf, Nat.le_trans (Nat.le_of_ble_eq_true rfl) hRl⟩) (r_pV hB hw hS (ce_8 (S := S5) hk16) rfl) rfl rfl hl.1 rfl (lv_room (Nat.le_of_ble_eq_true rfl)) dX6_setTube_31 ⟨Nat.zero_le _, Nat.zero_le _⟩) hS (fun _ _ h => h) (fun _ h => h) (fun r17 S18 t H1 locs ht _ h hw1 _ _ hS => ?_)
      subst ht
      have hw : wd D y z S18 A t.heap := hw1
      clear hw1 h1
      exact hret r17 _ _ _ _ _ h hw hS dX6_setTube_34
  · have h := h.2 hc
    refine lv_aload_n hx hb dX6_setTube_13 rfl (lv_at hl 0 rfl) ?_
    refine lv_iconst (v := (1 : Int32)) hx hb dX6_setTube_14 (by decide) ?_
    obtain ⟨hk19, h⟩ := h
    have h1 := h
    refine va_calli (va_runV (As := [.int (1 : Int32)]) (rest := []) ⟨hx, hb, hml, hown, hts⟩ (m_X6_fail (l := l) h1) (cwV 1 hts gX6_setTube_X6_fail rfl rfl rfl (by decide +kernel) ⟨Nat.le_trans (Nat.le_of_ble_eq_true rfl) hRf, Nat.le_trans (Nat.le_of_ble_eq_true rfl) hRl⟩) (r_pV hB hw hS (ce_8 (S := S3) hk19) rfl) rfl rfl hl.1 rfl (lv_room (Nat.le_of_ble_eq_true rfl)) dX6_setTube_15 ⟨Nat.zero_le _, Nat.zero_le _⟩) hS (fun _ _ h => h) (fun _ h => h) (fun r20 S21 t H1 locs ht _ h hw1 _ _ hS => ?_)
    subst ht
    have hw : wd D y z S21 A t.heap := hw1
    clear hw1 h1
    exact hret r20 _ _ _ _ _ h hw hS dX6_setTube_18
def wb_X6_addEntry_39 (post : Int32 → bS → Prop) (mc ms : Nat) (v0 : Nat) (S : bS) : Prop := gK S v0 = 8 ∧ (wp_X6_fail (fun r45 S46 => post r45 S46) v0 (1 : Int32) S)
def wb_X6_addEntry_139 (post : Int32 → bS → Prop) (mc ms : Nat) (v0 : Nat) (v1 : Int32) (v2 : Int32) (v3 : Int32) (v4 : Int32) (v5 : Int32) (s0 : Int32) (S : bS) : Prop := (s0 ≠ (0 : Int32) → gK S v0 = 8 ∧ (((gV S 8 v0 4) ≠ (12 : Int32) → ¬ (5 : Int32) < 0 ∧ (Int32.toNatClampNeg (5 : Int32)) * 4 ≤ 536870912 ∧ 1 ≤ mc ∧ (Int32.toNatClampNeg (5 : Int32)) ≤ ms ∧ (∀ q26, gK S q26 = 0 → (vp_in (0 : Int32) (gN (sNew S q26 9 (Int32.toNatClampNeg (5 : Int32))) q26) ∧ (vp_in (1 : Int32) (gN (sV (sNew S q26 9 (Int32.toNatClampNeg (5 : Int32))) 9 q26 (Int32.toNatClampNeg (0 : Int32)) v1) q26) ∧ (vp_in (2 : Int32) (gN (sV (sV (sNew S q26 9 (Int32.toNatClampNeg (5 : Int32))) 9 q26 (Int32.toNatClampNeg (0 : Int32)) v1) 9 q26 (Int32.toNatClampNeg (1 : Int32)) v2) q26) ∧ (vp_in (3 : Int32) (gN (sV (sV (sV (sNew S q26 9 (Int32.toNatClampNeg (5 : Int32))) 9 q26 (Int32.toNatClampNeg (0 : Int32)) v1) 9 q26 (Int32.toNatClampNeg (1 : Int32)) v2) 9 q26 (Int32.toNatClampNeg (2 : Int32)) v3) q26) ∧ (vp_in (4 : Int32) (gN (sV (sV (sV (sV (sNew S q26 9 (Int32.toNatClampNeg (5 : Int32))) 9 q26 (Int32.toNatClampNeg (0 : Int32)) v1) 9 q26 (Int32.toNatClampNeg (1 : Int32)) v2) 9 q26 (Int32.toNatClampNeg (2 : Int32)) v3) 9 q26 (Int32.toNatClampNeg (3 : Int32)) v4) q26) ∧ (∃ b35, gQ (sV (sV (sV (sV (sV (sNew S q26 9 (Int32.toNatClampNeg (5 : Int32))) 9 q26 (Int32.toNatClampNeg (0 : Int32)) v1) 9 q26 (Int32.toNatClampNeg (1 : Int32)) v2) 9 q26 (Int32.toNatClampNeg (2 : Int32)) v3) 9 q26 (Int32.toNatClampNeg (3 : Int32)) v4) 9 q26 (Int32.toNatClampNeg (4 : Int32)) v5) 8 v0 11 = some b35 ∧ (gK (sV (sV (sV (sV (sV (sNew S q26 9 (Int32.toNatClampNeg (5 : Int32))) 9 q26 (Int32.toNatClampNeg (0 : Int32)) v1) 9 q26 (Int32.toNatClampNeg (1 : Int32)) v2) 9 q26 (Int32.toNatClampNeg (2 : Int32)) v3) 9 q26 (Int32.toNatClampNeg (3 : Int32)) v4) 9 q26 (Int32.toNatClampNeg (4 : Int32)) v5) b35 = 9 ∧ ((¬ (0 : Int32) < 0 ∧ ¬ ((5 : Int32) * (gV (sV (sV (sV (sV (sV (sNew S q26 9 (Int32.toNatClampNeg (5 : Int32))) 9 q26 (Int32.toNatClampNeg (0 : Int32)) v1) 9 q26 (Int32.toNatClampNeg (1 : Int32)) v2) 9 q26 (Int32.toNatClampNeg (2 : Int32)) v3) 9 q26 (Int32.toNatClampNeg (3 : Int32)) v4) 9 q26 (Int32.toNatClampNeg (4 : Int32)) v5) 8 v0 4)) < 0 ∧ ¬ (5 : Int32) < 0 ∧ (Int32.toNatClampNeg (0 : Int32)) + (Int32.toNatClampNeg (5 : Int32)) ≤ gN (sV (sV (sV (sV (sV (sNew S q26 9 (Int32.toNatClampNeg (5 : Int32))) 9 q26 (Int32.toNatClampNeg (0 : Int32)) v1) 9 q26 (Int32.toNatClampNeg (1 : Int32)) v2) 9 q26 (Int32.toNatClampNeg (2 : Int32)) v3) 9 q26 (Int32.toNatClampNeg (3 : Int32)) v4) 9 q26 (Int32.toNatClampNeg (4 : Int32)) v5) q26 ∧ (Int32.toNatClampNeg ((5 : Int32) * (gV (sV (sV (sV (sV (sV (sNew S q26 9 (Int32.toNatClampNeg (5 : Int32))) 9 q26 (Int32.toNatClampNeg (0 : Int32)) v1) 9 q26 (Int32.toNatClampNeg (1 : Int32)) v2) 9 q26 (Int32.toNatClampNeg (2 : Int32)) v3) 9 q26 (Int32.toNatClampNeg (3 : Int32)) v4) 9 q26 (Int32.toNatClampNeg (4 : Int32)) v5) 8 v0 4))) + (Int32.toNatClampNeg (5 : Int32)) ≤ gN (sV (sV (sV (sV (sV (sNew S q26 9 (Int32.toNatClampNeg (5 : Int32))) 9 q26 (Int32.toNatClampNeg (0 : Int32)) v1) 9 q26 (Int32.toNatClampNeg (1 : Int32)) v2) 9 q26 (Int32.toNatClampNeg (2 : Int32)) v3) 9 q26 (Int32.toNatClampNeg (3 : Int32)) v4) 9 q26 (Int32.toNatClampNeg (4 : Int32)) v5) b35) ∧ (post ((gV (sV (sF (sV (sV (sV (sV (sV (sNew S q26 9 (Int32.toNatClampNeg (5 : Int32))) 9 q26 (Int32.toNatClampNeg (0 : Int32)) v1) 9 q26 (Int32.toNatClampNeg (1 : Int32)) v2) 9 q26 (Int32.toNatClampNeg (2 : Int32)) v3) 9 q26 (Int32.toNatClampNeg (3 : Int32)) v4) 9 q26 (Int32.toNatClampNeg (4 : Int32)) v5) 9 b35 (va_cpy (gV (sV (sV (sV (sV (sV (sNew S q26 9 (Int32.toNatClampNeg (5 : Int32))) 9 q26 (Int32.toNatClampNeg (0 : Int32)) v1) 9 q26 (Int32.toNatClampNeg (1 : Int32)) v2) 9 q26 (Int32.toNatClampNeg (2 : Int32)) v3) 9 q26 (Int32.toNatClampNeg (3 : Int32)) v4) 9 q26 (Int32.toNatClampNeg (4 : Int32)) v5) 9 q26) (gV (sV (sV (sV (sV (sV (sNew S q26 9 (Int32.toNatClampNeg (5 : Int32))) 9 q26 (Int32.toNatClampNeg (0 : Int32)) v1) 9 q26 (Int32.toNatClampNeg (1 : Int32)) v2) 9 q26 (Int32.toNatClampNeg (2 : Int32)) v3) 9 q26 (Int32.toNatClampNeg (3 : Int32)) v4) 9 q26 (Int32.toNatClampNeg (4 : Int32)) v5) 9 b35) (Int32.toNatClampNeg (0 : Int32)) (Int32.toNatClampNeg ((5 : Int32) * (gV (sV (sV (sV (sV (sV (sNew S q26 9 (Int32.toNatClampNeg (5 : Int32))) 9 q26 (Int32.toNatClampNeg (0 : Int32)) v1) 9 q26 (Int32.toNatClampNeg (1 : Int32)) v2) 9 q26 (Int32.toNatClampNeg (2 : Int32)) v3) 9 q26 (Int32.toNatClampNeg (3 : Int32)) v4) 9 q26 (Int32.toNatClampNeg (4 : Int32)) v5) 8 v0 4))) (Int32.toNatClampNeg (5 : Int32)))) 8 v0 4 ((gV (sF (sV (sV (sV (sV (sV (sNew S q26 9 (Int32.toNatClampNeg (5 : Int32))) 9 q26 (Int32.toNatClampNeg (0 : Int32)) v1) 9 q26 (Int32.toNatClampNeg (1 : Int32)) v2) 9 q26 (Int32.toNatClampNeg (2 : Int32)) v3) 9 q26 (Int32.toNatClampNeg (3 : Int32)) v4) 9 q26 (Int32.toNatClampNeg (4 : Int32)) v5) 9 b35 (va_cpy (gV (sV (sV (sV (sV (sV (sNew S q26 9 (Int32.toNatClampNeg (5 : Int32))) 9 q26 (Int32.toNatClampNeg (0 : Int32)) v1) 9 q26 (Int32.toNatClampNeg (1 : Int32)) v2) 9 q26 (Int32.toNatClampNeg (2 : Int32)) v3) 9 q26 (Int32.toNatClampNeg (3 : Int32)) v4) 9 q26 (Int32.toNatClampNeg (4 : Int32)) v5) 9 q26) (gV (sV (sV (sV (sV (sV (sNew S q26 9 (Int32.toNatClampNeg (5 : Int32))) 9 q26 (Int32.toNatClampNeg (0 : Int32)) v1) 9 q26 (Int32.toNatClampNeg (1 : Int32)) v2) 9 q26 (Int32.toNatClampNeg (2 : Int32)) v3) 9 q26 (Int32.toNatClampNeg (3 : Int32)) v4) 9 q26 (Int32.toNatClampNeg (4 : Int32)) v5) 9 b35) (Int32.toNatClampNeg (0 : Int32)) (Int32.toNatClampNeg ((5 : Int32) * (gV (sV (sV (sV (sV (sV (sNew S q26 9 (Int32.toNatClampNeg (5 : Int32))) 9 q26 (Int32.toNatClampNeg (0 : Int32)) v1) 9 q26 (Int32.toNatClampNeg (1 : Int32)) v2) 9 q26 (Int32.toNatClampNeg (2 : Int32)) v3) 9 q26 (Int32.toNatClampNeg (3 : Int32)) v4) 9 q26 (Int32.toNatClampNeg (4 : Int32)) v5) 8 v0 4))) (Int32.toNatClampNeg (5 : Int32)))) 8 v0 4) + (1 : Int32))) 8 v0 4) - (1 : Int32)) (sV (sF (sV (sV (sV (sV (sV (sNew S q26 9 (Int32.toNatClampNeg (5 : Int32))) 9 q26 (Int32.toNatClampNeg (0 : Int32)) v1) 9 q26 (Int32.toNatClampNeg (1 : Int32)) v2) 9 q26 (Int32.toNatClampNeg (2 : Int32)) v3) 9 q26 (Int32.toNatClampNeg (3 : Int32)) v4) 9 q26 (Int32.toNatClampNeg (4 : Int32)) v5) 9 b35 (va_cpy (gV (sV (sV (sV (sV (sV (sNew S q26 9 (Int32.toNatClampNeg (5 : Int32))) 9 q26 (Int32.toNatClampNeg (0 : Int32)) v1) 9 q26 (Int32.toNatClampNeg (1 : Int32)) v2) 9 q26 (Int32.toNatClampNeg (2 : Int32)) v3) 9 q26 (Int32.toNatClampNeg (3 : Int32)) v4) 9 q26 (Int32.toNatClampNeg (4 : Int32)) v5) 9 q26) (gV (sV (sV (sV (sV (sV (sNew S q26 9 (Int32.toNatClampNeg (5 : Int32))) 9 q26 (Int32.toNatClampNeg (0 : Int32)) v1) 9 q26 (Int32.toNatClampNeg (1 : Int32)) v2) 9 q26 (Int32.toNatClampNeg (2 : Int32)) v3) 9 q26 (Int32.toNatClampNeg (3 : Int32)) v4) 9 q26 (Int32.toNatClampNeg (4 : Int32)) v5) 9 b35) (Int32.toNatClampNeg (0 : Int32)) (Int32.toNatClampNeg ((5 : Int32) * (gV (sV (sV (sV (sV (sV (sNew S q26 9 (Int32.toNatClampNeg (5 : Int32))) 9 q26 (Int32.toNatClampNeg (0 : Int32)) v1) 9 q26 (Int32.toNatClampNeg (1 : Int32)) v2) 9 q26 (Int32.toNatClampNeg (2 : Int32)) v3) 9 q26 (Int32.toNatClampNeg (3 : Int32)) v4) 9 q26 (Int32.toNatClampNeg (4 : Int32)) v5) 8 v0 4))) (Int32.toNatClampNeg (5 : Int32)))) 8 v0 4 ((gV (sF (sV (sV (sV (sV (sV (sNew S q26 9 (Int32.toNatClampNeg (5 : Int32))) 9 q26 (Int32.toNatClampNeg (0 : Int32)) v1) 9 q26 (Int32.toNatClampNeg (1 : Int32)) v2) 9 q26 (Int32.toNatClampNeg (2 : Int32)) v3) 9 q26 (Int32.toNatClampNeg (3 : Int32)) v4) 9 q26 (Int32.toNatClampNeg (4 : Int32)) v5) 9 b35 (va_cpy (gV (sV (sV (sV (sV (sV (sNew S q26 9 (Int32.toNatClampNeg (5 : Int32))) 9 q26 (Int32.toNatClampNeg (0 : Int32)) v1) 9 q26 (Int32.toNatClampNeg (1 : Int32)) v2) 9 q26 (Int32.toNatClampNeg (2 : Int32)) v3) 9 q26 (Int32.toNatClampNeg (3 : Int32)) v4) 9 q26 (Int32.toNatClampNeg (4 : Int32)) v5) 9 q26) (gV (sV (sV (sV (sV (sV (sNew S q26 9 (Int32.toNatClampNeg (5 : Int32))) 9 q26 (Int32.toNatClampNeg (0 : Int32)) v1) 9 q26 (Int32.toNatClampNeg (1 : Int32)) v2) 9 q26 (Int32.toNatClampNeg (2 : Int32)) v3) 9 q26 (Int32.toNatClampNeg (3 : Int32)) v4) 9 q26 (Int32.toNatClampNeg (4 : Int32)) v5) 9 b35) (Int32.toNatClampNeg (0 : Int32)) (Int32.toNatClampNeg ((5 : Int32) * (gV (sV (sV (sV (sV (sV (sNew S q26 9 (Int32.toNatClampNeg (5 : Int32))) 9 q26 (Int32.toNatClampNeg (0 : Int32)) v1) 9 q26 (Int32.toNatClampNeg (1 : Int32)) v2) 9 q26 (Int32.toNatClampNeg (2 : Int32)) v3) 9 q26 (Int32.toNatClampNeg (3 : Int32)) v4) 9 q26 (Int32.toNatClampNeg (4 : Int32)) v5) 8 v0 4))) (Int32.toNatClampNeg (5 : Int32)))) 8 v0 4) + (1 : Int32)))))))))))))) ∧ ((gV S 8 v0 4) = (12 : Int32) → wp_X6_fail (fun r39 S40 => post r39 S40) v0 (3 : Int32) S))) ∧ (s0 = (0 : Int32) → gK S v0 = 8 ∧ (wp_X6_fail (fun r42 S43 => post r42 S43) v0 (2 : Int32) S))
def wb_X6_addEntry_80 (post : Int32 → bS → Prop) (mc ms : Nat) (v0 : Nat) (v1 : Int32) (v2 : Int32) (v3 : Int32) (v4 : Int32) (v5 : Int32) (S : bS) : Prop := wb_X6_addEntry_139 post mc ms v0 v1 v2 v3 v4 v5 (0 : Int32) S
def wb_X6_addEntry_112 (post : Int32 → bS → Prop) (mc ms : Nat) (v0 : Nat) (v1 : Int32) (v2 : Int32) (v3 : Int32) (v4 : Int32) (v5 : Int32) (S : bS) : Prop := wb_X6_addEntry_139 post mc ms v0 v1 v2 v3 v4 v5 (0 : Int32) S
def wb_X6_addEntry_138 (post : Int32 → bS → Prop) (mc ms : Nat) (v0 : Nat) (v1 : Int32) (v2 : Int32) (v3 : Int32) (v4 : Int32) (v5 : Int32) (S : bS) : Prop := wb_X6_addEntry_139 post mc ms v0 v1 v2 v3 v4 v5 (0 : Int32) S
def wp_X6_addEntry (post : Int32 → bS → Prop) (MC MS : Nat) (this : Nat) (p1 : Int32) (p2 : Int32) (p3 : Int32) (p4 : Int32) (p5 : Int32) (S : bS) : Prop := gK S this = 8 ∧ ((p1 ≤ (gV (sV S 8 this 0 (0 : Int32)) 8 this 1) → wb_X6_addEntry_39 post MC MS this (sV S 8 this 0 (0 : Int32))) ∧ (¬ (p1 ≤ (gV (sV S 8 this 0 (0 : Int32)) 8 this 1)) → ((100000 : Int32) < p1 → wb_X6_addEntry_39 post MC MS this (sV S 8 this 0 (0 : Int32))) ∧ (¬ ((100000 : Int32) < p1) → wp_X6_isIn (fun r2 S3 => (r2 = (0 : Int32) → wb_X6_addEntry_39 post MC MS this S3) ∧ (¬ (r2 = (0 : Int32)) → wp_X6_isIn (fun r4 S5 => (r4 ≠ (0 : Int32) → (p3 ≠ (0 : Int32) → (p3 ≠ (1 : Int32) → gK S5 this = 8 ∧ (wp_X6_isStation (fun r7 S8 => (r7 = (0 : Int32) → wb_X6_addEntry_138 post MC MS this p1 p2 p3 p4 p5 S8) ∧ (¬ (r7 = (0 : Int32)) → gK S8 this = 8 ∧ (wp_X6_isStation (fun r10 S11 => (r10 = (0 : Int32) → wb_X6_addEntry_138 post MC MS this p1 p2 p3 p4 p5 S11) ∧ (¬ (r10 = (0 : Int32)) → wb_X6_addEntry_139 post MC MS this p1 p2 p3 p4 p5 (1 : Int32) S11)) this p5 S8))) this p4 S5)) ∧ (p3 = (1 : Int32) → gK S5 this = 8 ∧ (wp_X6_isTube (fun r13 S14 => (r13 = (0 : Int32) → wb_X6_addEntry_112 post MC MS this p1 p2 p3 p4 p5 S14) ∧ (¬ (r13 = (0 : Int32)) → wp_X6_isIn (fun r15 S16 => (r15 = (0 : Int32) → wb_X6_addEntry_112 post MC MS this p1 p2 p3 p4 p5 S16) ∧ (¬ (r15 = (0 : Int32)) → wb_X6_addEntry_139 post MC MS this p1 p2 p3 p4 p5 (1 : Int32) S16)) p5 (0 : Int32) (1 : Int32) S14)) this p4 S5))) ∧ (p3 = (0 : Int32) → gK S5 this = 8 ∧ (wp_X6_isStation (fun r18 S19 => (r18 = (0 : Int32) → wb_X6_addEntry_80 post MC MS this p1 p2 p3 p4 p5 S19) ∧ (¬ (r18 = (0 : Int32)) → gK S19 this = 8 ∧ (wp_X6_st (fun r21 S22 => wp_X6_isIn (fun r23 S24 => (r23 = (0 : Int32) → wb_X6_addEntry_80 post MC MS this p1 p2 p3 p4 p5 S24) ∧ (¬ (r23 = (0 : Int32)) → wb_X6_addEntry_139 post MC MS this p1 p2 p3 p4 p5 (1 : Int32) S24)) p5 (-1 : Int32) (r21 - (1 : Int32)) S22) this p4 (2 : Int32) S19))) this p4 S5))) ∧ (r4 = (0 : Int32) → wb_X6_addEntry_39 post MC MS this S5)) p3 (0 : Int32) (2 : Int32) S3)) p2 (0 : Int32) (500 : Int32) (sV S 8 this 0 (0 : Int32)))))
set_option maxHeartbeats 4000000 in
set_option maxRecDepth 100000 in
theorem m_X6_addEntry {l : Launch} {D : va_G} {y : Nat → ClassId} {z : Nat} {A : Nat → Prop} {S : bS} {post : Int32 → bS → Prop} {MC MS : Nat} {this : Nat} {p1 : Int32} {p2 : Int32} {p3 : Int32} {p4 : Int32} {p5 : Int32} (h : wp_X6_addEntry post MC MS this p1 p2 p3 p4 p5 S) : Met l yX6_addEntry wsX6_addEntry ({ frames := 2, cells := MC, slots := MS, locals := 60 } : Room) (va_Pc ([Value.ref this, Value.int p1, Value.int p2, Value.int p3, Value.int p4, Value.int p5] : List Value) (bP D y z S A)) (va_Qi post (fun S' t => wd D y z S' A t.heap) A) MC MS A := by
  refine Met.ofW (cc := cX6_addEntry) (maxL := 8) (ret := (some .int)) (by decide) rfl ?_
  intro p e s m args below meth c s₁ B hml hv
  obtain ⟨rfl, hB⟩ := hv
  have hx := B.exec
  have hb := B.bytes
  have hr := B.returns
  have hts := atoms_spec (ws := wsX6_addEntry) B.pre
  have hown : s.vm.findClass RX6 = some m.cls := findClass_of_methodNamed B.named
  have hlocks := B.notSynchronized
  have hw : wd D y z S A s.heap := hB.1
  have hK : va_K D bCl (bT y) s := hB.2.1
  have hNw := hB.2.2.1
  have hAn : ∀ q : Nat, s.heap.size ≤ q → A q := hB.2.2.2.1
  have hAz : ¬ A z := hB.2.2.2.2.1
  have hO := hB.2.2.2.2.2.1
  have hS : va_S A s.heap s.heap [] := va_S.rf
  have hiX6 : ∀ w ∈ u_ws RX6 TX6 17, w ∈ wsX6_addEntry := by decide +kernel
  have hl := lv_entry ([Value.ref this, Value.int p1, Value.int p2, Value.int p3, Value.int p4, Value.int p5] : List Value) (n := 8) (Nat.le_of_ble_eq_true rfl)
  rw [lg_entry_eq]
  generalize (lg_sl ([Value.ref this, Value.int p1, Value.int p2, Value.int p3, Value.int p4, Value.int p5] : List Value) ++ List.replicate (8 - (lg_sl ([Value.ref this, Value.int p1, Value.int p2, Value.int p3, Value.int p4, Value.int p5] : List Value)).length) Slot.unset).toArray = ls at hl ⊢
  have hl : lv_has ls 8 [(0, .ref this), (1, .int p1), (2, .int p2), (3, .int p3), (4, .int p4), (5, .int p5)] := hl
  obtain ⟨Q, hQ⟩ : ∃ Q, Q = MQ below (va_Qi post (fun S' t => wd D y z S' A t.heap) A) (([Value.ref this, Value.int p1, Value.int p2, Value.int p3, Value.int p4, Value.int p5] : List Value).toArray) s MC MS A := ⟨_, rfl⟩
  rw [← hQ]
  generalize hR : (headSpec wsX6_addEntry ({ frames := 2, cells := MC, slots := MS, locals := 60 } : Room)).room = R
  have hRf : 2 ≤ R.frames := by rw [← hR]; exact Nat.le_refl _
  have hRl : 60 ≤ R.locals := by rw [← hR]; exact Nat.le_refl _
  have hRc : R.cells = MC := by rw [← hR]; rfl
  have hRs : R.slots = MS := by rw [← hR]; rfl
  have hret : ∀ (v : Int32) (S : bS) (H : Heap) (locs : List Loc) (pc : Nat) (ls : Array Slot) (cu su : Nat) , post v S → wd D y z S A H → va_S A s.heap H locs → cu ≤ MC → su ≤ MS → decode cX6_addEntry pc = .ok (.ireturn, 1) → W p l e R s m (([Value.ref this, Value.int p1, Value.int p2, Value.int p3, Value.int p4, Value.int p5] : List Value).toArray) below meth c H locs cu su Q (F0 m pc ls [.int v]) := by
    intro v S H locs pc ls cu su h hw hS hcu hsu d0
    rw [hQ]; refine W.widen hcu hsu ?_; exact W.iret hx hb hr (fun t ht hW => ⟨⟨v, S, rfl, h, by show wd D y z S A t.heap; rw [ht]; exact hw⟩, hS.F ht⟩) hS.2.2 d0 hlocks
  have hB39 : ∀ (S : bS) (H : Heap) (locs : List Loc) (ls : Array Slot) (mc ms cu su : Nat) (v0 : Nat), wb_X6_addEntry_39 post mc ms v0 S → wd D y z S A H → va_S A s.heap H locs → lv_has ls 8 [(0, .ref v0)] → cu + mc ≤ MC → su + ms ≤ MS → W p l e R s m (([Value.ref this, Value.int p1, Value.int p2, Value.int p3, Value.int p4, Value.int p5] : List Value).toArray) below meth c H locs cu su Q (F0 m 39 ls []) := by
    intro S H locs ls mc ms cu su v0 h hw hS hl hcu hsu
    unfold wb_X6_addEntry_39 at h
    refine lv_aload_n hx hb dX6_addEntry_39 rfl (lv_at hl 0 rfl) ?_
    refine lv_iconst (v := (1 : Int32)) hx hb dX6_addEntry_40 (by decide) ?_
    obtain ⟨hk44, h⟩ := h
    have h1 := h
    refine va_calli (va_runV (As := [.int (1 : Int32)]) (rest := []) ⟨hx, hb, hml, hown, hts⟩ (m_X6_fail (l := l) h1) (cwV 1 hts gX6_addEntry_X6_fail rfl rfl rfl (by decide +kernel) ⟨Nat.le_trans (Nat.le_of_ble_eq_true rfl) hRf, Nat.le_trans (Nat.le_of_ble_eq_true rfl) hRl⟩) (r_pV hB hw hS (ce_8 (S := S) hk44) rfl) rfl rfl hl.1 rfl (lv_room (Nat.le_of_ble_eq_true rfl)) dX6_addEntry_41 ⟨by omega, by omega⟩) hS (fun _ _ h => h) (fun _ h => h) (fun r45 S46 t H1 locs ht _ h hw1 _ _ hS => ?_)
    subst ht
    have hw : wd D y z S46 A t.heap := hw1
    clear hw1 h1
    exact hret r45 _ _ _ _ _ _ _ h hw hS (by omega) (by omega) dX6_addEntry_44
  have hB139 : ∀ (S : bS) (H : Heap) (locs : List Loc) (ls : Array Slot) (mc ms cu su : Nat) (v0 : Nat) (v1 : Int32) (v2 : Int32) (v3 : Int32) (v4 : Int32) (v5 : Int32) (s0 : Int32), wb_X6_addEntry_139 post mc ms v0 v1 v2 v3 v4 v5 s0 S → wd D y z S A H → va_S A s.heap H locs → lv_has ls 8 [(0, .ref v0), (1, .int v1), (2, .int v2), (3, .int v3), (4, .int v4), (5, .int v5)] → cu + mc ≤ MC → su + ms ≤ MS → W p l e R s m (([Value.ref this, Value.int p1, Value.int p2, Value.int p3, Value.int p4, Value.int p5] : List Value).toArray) below meth c H locs cu su Q (F0 m 139 ls [.int s0]) := by
    intro S H locs ls mc ms cu su v0 v1 v2 v3 v4 v5 s0 h hw hS hl hcu hsu
    unfold wb_X6_addEntry_139 at h
    refine lv_istore hx hb dX6_addEntry_139 hl (by decide) rfl (fun ls hl => ?_)
    have hl : lv_has ls 8 [(6, .int s0), (0, .ref v0), (1, .int v1), (2, .int v2), (3, .int v3), (4, .int v4), (5, .int v5)] := hl
    refine lv_iload hx hb dX6_addEntry_141 (lv_at hl 0 rfl) ?_
    refine lv_if_ne (tgt := 152) hx hb dX6_addEntry_143 (by decide) (fun hc => ?_) (fun hc => ?_)
    · have h := h.1 hc
      refine lv_aload_n hx hb dX6_addEntry_152 rfl (lv_at hl 1 rfl) ?_
      obtain ⟨hk25, h⟩ := h
      refine r_get (ci := 7) (v := .int (gV S 8 v0 4)) (C := RX6) (T := TX6) (N := 17) hx hb hts hiX6 hown hK hw (ce_8 (S := S) hk25) rfl 4 (by decide) (hts (.fieldLink RX6 73 "TubePostModel" "entries" "I") (by decide +kernel)) (fun _ h9 => h9) rfl dX6_addEntry_153 ?_
      refine lv_bipush (v := (12 : Int32)) hx hb dX6_addEntry_156 (by decide) ?_
      refine lv_icmp_ne (tgt := 167) hx hb dX6_addEntry_158 (by decide) (fun hc => ?_) (fun hc => ?_)
      · have h := h.1 hc
        refine lv_iconst (v := (5 : Int32)) hx hb dX6_addEntry_167 (by decide) ?_
        obtain ⟨hn0, hn1, hbg1, hbg2, h⟩ := h
        refine r_newa9 hx hb (hts (.arrayClass .int) (by decide +kernel)) hK hw hS hAn hAz hn0 rfl hn1 (by omega) (by omega) dX6_addEntry_168 (fun q26 H hq27 hw hS => ?_)
        have h := h q26 hq27
        have hk28 : gK (sNew S q26 9 (Int32.toNatClampNeg (5 : Int32))) v0 = 8 := b_old hk25 hq27 (by decide)
        have hk29 : gK (sNew S q26 9 (Int32.toNatClampNeg (5 : Int32))) q26 = 9 := if_pos rfl
        have hcu : (cu + 1) + (mc - 1) ≤ MC := by omega
        have hsu : (su + (Int32.toNatClampNeg (5 : Int32))) + (ms - (Int32.toNatClampNeg (5 : Int32))) ≤ MS := by omega
        refine lv_dup hx hb dX6_addEntry_170 rfl ?_
        refine lv_iconst (v := (0 : Int32)) hx hb dX6_addEntry_171 (by decide) ?_
        refine lv_iload_n hx hb dX6_addEntry_172 rfl (lv_at hl 2 rfl) ?_
        obtain ⟨hin30, h⟩ := h
        refine r_iast hx hb hK hw hS hk29 hin30 dX6_addEntry_173 (fun H locs hw hS => ?_)
        refine lv_dup hx hb dX6_addEntry_174 rfl ?_
        refine lv_iconst (v := (1 : Int32)) hx hb dX6_addEntry_175 (by decide) ?_
        refine lv_iload_n hx hb dX6_addEntry_176 rfl (lv_at hl 3 rfl) ?_
        obtain ⟨hin31, h⟩ := h
        refine r_iast hx hb hK hw hS hk29 hin31 dX6_addEntry_177 (fun H locs hw hS => ?_)
        refine lv_dup hx hb dX6_addEntry_178 rfl ?_
        refine lv_iconst (v := (2 : Int32)) hx hb dX6_addEntry_179 (by decide) ?_
        refine lv_iload_n hx hb dX6_addEntry_180 rfl (lv_at hl 4 rfl) ?_
        obtain ⟨hin32, h⟩ := h
        refine r_iast hx hb hK hw hS hk29 hin32 dX6_addEntry_181 (fun H locs hw hS => ?_)
        refine lv_dup hx hb dX6_addEntry_182 rfl ?_
        refine lv_iconst (v := (3 : Int32)) hx hb dX6_addEntry_183 (by decide) ?_
        refine lv_iload hx hb dX6_addEntry_184 (lv_at hl 5 rfl) ?_
        obtain ⟨hin33, h⟩ := h
        refine r_iast hx hb hK hw hS hk29 hin33 dX6_addEntry_186 (fun H locs hw hS => ?_)
        refine lv_dup hx hb dX6_addEntry_187 rfl ?_
        refine lv_iconst (v := (4 : Int32)) hx hb dX6_addEntry_188 (by decide) ?_
        refine lv_iload hx hb dX6_addEntry_189 (lv_at hl 6 rfl) ?_
        obtain ⟨hin34, h⟩ := h
        refine r_iast hx hb hK hw hS hk29 hin34 dX6_addEntry_191 (fun H locs hw hS => ?_)
        refine lv_astore hx hb dX6_addEntry_192 hl (by decide) rfl (fun ls hl => ?_)
        have hl : lv_has ls 8 [(7, .ref q26), (6, .int s0), (0, .ref v0), (1, .int v1), (2, .int v2), (3, .int v3), (4, .int v4), (5, .int v5)] := hl
        refine lv_aload hx hb dX6_addEntry_194 (lv_at hl 0 rfl) ?_
        refine lv_iconst (v := (0 : Int32)) hx hb dX6_addEntry_196 (by decide) ?_
        refine lv_aload_n hx hb dX6_addEntry_197 rfl (lv_at hl 2 rfl) ?_
        obtain ⟨b35, hb36, h⟩ := h
        refine r_get (ci := 7) (v := .ref b35) (C := RX6) (T := TX6) (N := 17) hx hb hts hiX6 hown hK hw (ce_8 (S := (sV (sV (sV (sV (sV (sNew S q26 9 (Int32.toNatClampNeg (5 : Int32))) 9 q26 (Int32.toNatClampNeg (0 : Int32)) v1) 9 q26 (Int32.toNatClampNeg (1 : Int32)) v2) 9 q26 (Int32.toNatClampNeg (2 : Int32)) v3) 9 q26 (Int32.toNatClampNeg (3 : Int32)) v4) 9 q26 (Int32.toNatClampNeg (4 : Int32)) v5)) hk28) rfl 11 (by decide) (hts (.fieldLink RX6 16 "TubePostModel" "entryTable" "[I") (by decide +kernel)) (fun _ h9 => h9) (congrArg (fun q => some (va_rf q)) hb36) dX6_addEntry_198 ?_
        refine lv_iconst (v := (5 : Int32)) hx hb dX6_addEntry_201 (by decide) ?_
        refine lv_aload_n hx hb dX6_addEntry_202 rfl (lv_at hl 2 rfl) ?_
        refine r_get (ci := 7) (v := .int (gV (sV (sV (sV (sV (sV (sNew S q26 9 (Int32.toNatClampNeg (5 : Int32))) 9 q26 (Int32.toNatClampNeg (0 : Int32)) v1) 9 q26 (Int32.toNatClampNeg (1 : Int32)) v2) 9 q26 (Int32.toNatClampNeg (2 : Int32)) v3) 9 q26 (Int32.toNatClampNeg (3 : Int32)) v4) 9 q26 (Int32.toNatClampNeg (4 : Int32)) v5) 8 v0 4)) (C := RX6) (T := TX6) (N := 17) hx hb hts hiX6 hown hK hw (ce_8 (S := (sV (sV (sV (sV (sV (sNew S q26 9 (Int32.toNatClampNeg (5 : Int32))) 9 q26 (Int32.toNatClampNeg (0 : Int32)) v1) 9 q26 (Int32.toNatClampNeg (1 : Int32)) v2) 9 q26 (Int32.toNatClampNeg (2 : Int32)) v3) 9 q26 (Int32.toNatClampNeg (3 : Int32)) v4) 9 q26 (Int32.toNatClampNeg (4 : Int32)) v5)) hk28) rfl 4 (by decide) (hts (.fieldLink RX6 73 "TubePostModel" "entries" "I") (by decide +kernel)) (fun _ h9 => h9) rfl dX6_addEntry_203 ?_
        refine lv_imul hx hb dX6_addEntry_206 ?_
        refine lv_iconst (v := (5 : Int32)) hx hb dX6_addEntry_207 (by decide) ?_
        obtain ⟨hk37, h⟩ := h
        obtain ⟨hc38, h⟩ := h
        refine r_copyi hx hb (by rw [hml]; exact hl.1.symm) hown (hts (.methodLink RX6 49 arraycopyName) (by decide +kernel)) (hts (.native arraycopyName) (by decide +kernel)) (hts (.static arraycopyName) (by decide +kernel)) (hts (.initialized "java/lang/System") (by decide +kernel)) hK hw hS hk29 hk37 hc38 (Nat.le_trans (Nat.le_of_ble_eq_true rfl) hRf) (Nat.le_trans (by decide) hRl) dX6_addEntry_208 (fun H locs hw hS => ?_)
        refine lv_aload_n hx hb dX6_addEntry_211 rfl (lv_at hl 2 rfl) ?_
        refine lv_dup hx hb dX6_addEntry_212 rfl ?_
        refine r_get (ci := 7) (v := .int (gV (sF (sV (sV (sV (sV (sV (sNew S q26 9 (Int32.toNatClampNeg (5 : Int32))) 9 q26 (Int32.toNatClampNeg (0 : Int32)) v1) 9 q26 (Int32.toNatClampNeg (1 : Int32)) v2) 9 q26 (Int32.toNatClampNeg (2 : Int32)) v3) 9 q26 (Int32.toNatClampNeg (3 : Int32)) v4) 9 q26 (Int32.toNatClampNeg (4 : Int32)) v5) 9 b35 (va_cpy (gV (sV (sV (sV (sV (sV (sNew S q26 9 (Int32.toNatClampNeg (5 : Int32))) 9 q26 (Int32.toNatClampNeg (0 : Int32)) v1) 9 q26 (Int32.toNatClampNeg (1 : Int32)) v2) 9 q26 (Int32.toNatClampNeg (2 : Int32)) v3) 9 q26 (Int32.toNatClampNeg (3 : Int32)) v4) 9 q26 (Int32.toNatClampNeg (4 : Int32)) v5) 9 q26) (gV (sV (sV (sV (sV (sV (sNew S q26 9 (Int32.toNatClampNeg (5 : Int32))) 9 q26 (Int32.toNatClampNeg (0 : Int32)) v1) 9 q26 (Int32.toNatClampNeg (1 : Int32)) v2) 9 q26 (Int32.toNatClampNeg (2 : Int32)) v3) 9 q26 (Int32.toNatClampNeg (3 : Int32)) v4) 9 q26 (Int32.toNatClampNeg (4 : Int32)) v5) 9 b35) (Int32.toNatClampNeg (0 : Int32)) (Int32.toNatClampNeg ((5 : Int32) * (gV (sV (sV (sV (sV (sV (sNew S q26 9 (Int32.toNatClampNeg (5 : Int32))) 9 q26 (Int32.toNatClampNeg (0 : Int32)) v1) 9 q26 (Int32.toNatClampNeg (1 : Int32)) v2) 9 q26 (Int32.toNatClampNeg (2 : Int32)) v3) 9 q26 (Int32.toNatClampNeg (3 : Int32)) v4) 9 q26 (Int32.toNatClampNeg (4 : Int32)) v5) 8 v0 4))) (Int32.toNatClampNeg (5 : Int32)))) 8 v0 4)) (C := RX6) (T := TX6) (N := 17) hx hb hts hiX6 hown hK hw (ce_8 (S := (sF (sV (sV (sV (sV (sV (sNew S q26 9 (Int32.toNatClampNeg (5 : Int32))) 9 q26 (Int32.toNatClampNeg (0 : Int32)) v1) 9 q26 (Int32.toNatClampNeg (1 : Int32)) v2) 9 q26 (Int32.toNatClampNeg (2 : Int32)) v3) 9 q26 (Int32.toNatClampNeg (3 : Int32)) v4) 9 q26 (Int32.toNatClampNeg (4 : Int32)) v5) 9 b35 (va_cpy (gV (sV (sV (sV (sV (sV (sNew S q26 9 (Int32.toNatClampNeg (5 : Int32))) 9 q26 (Int32.toNatClampNeg (0 : Int32)) v1) 9 q26 (Int32.toNatClampNeg (1 : Int32)) v2) 9 q26 (Int32.toNatClampNeg (2 : Int32)) v3) 9 q26 (Int32.toNatClampNeg (3 : Int32)) v4) 9 q26 (Int32.toNatClampNeg (4 : Int32)) v5) 9 q26) (gV (sV (sV (sV (sV (sV (sNew S q26 9 (Int32.toNatClampNeg (5 : Int32))) 9 q26 (Int32.toNatClampNeg (0 : Int32)) v1) 9 q26 (Int32.toNatClampNeg (1 : Int32)) v2) 9 q26 (Int32.toNatClampNeg (2 : Int32)) v3) 9 q26 (Int32.toNatClampNeg (3 : Int32)) v4) 9 q26 (Int32.toNatClampNeg (4 : Int32)) v5) 9 b35) (Int32.toNatClampNeg (0 : Int32)) (Int32.toNatClampNeg ((5 : Int32) * (gV (sV (sV (sV (sV (sV (sNew S q26 9 (Int32.toNatClampNeg (5 : Int32))) 9 q26 (Int32.toNatClampNeg (0 : Int32)) v1) 9 q26 (Int32.toNatClampNeg (1 : Int32)) v2) 9 q26 (Int32.toNatClampNeg (2 : Int32)) v3) 9 q26 (Int32.toNatClampNeg (3 : Int32)) v4) 9 q26 (Int32.toNatClampNeg (4 : Int32)) v5) 8 v0 4))) (Int32.toNatClampNeg (5 : Int32))))) hk28) rfl 4 (by decide) (hts (.fieldLink RX6 73 "TubePostModel" "entries" "I") (by decide +kernel)) (fun _ h9 => h9) rfl dX6_addEntry_213 ?_
        refine lv_iconst (v := (1 : Int32)) hx hb dX6_addEntry_216 (by decide) ?_
        refine lv_iadd hx hb dX6_addEntry_217 ?_
        refine r_putI (κ := 8) (ci := 7) (C := RX6) (T := TX6) (N := 17) (ty := .int) (x := ((gV (sF (sV (sV (sV (sV (sV (sNew S q26 9 (Int32.toNatClampNeg (5 : Int32))) 9 q26 (Int32.toNatClampNeg (0 : Int32)) v1) 9 q26 (Int32.toNatClampNeg (1 : Int32)) v2) 9 q26 (Int32.toNatClampNeg (2 : Int32)) v3) 9 q26 (Int32.toNatClampNeg (3 : Int32)) v4) 9 q26 (Int32.toNatClampNeg (4 : Int32)) v5) 9 b35 (va_cpy (gV (sV (sV (sV (sV (sV (sNew S q26 9 (Int32.toNatClampNeg (5 : Int32))) 9 q26 (Int32.toNatClampNeg (0 : Int32)) v1) 9 q26 (Int32.toNatClampNeg (1 : Int32)) v2) 9 q26 (Int32.toNatClampNeg (2 : Int32)) v3) 9 q26 (Int32.toNatClampNeg (3 : Int32)) v4) 9 q26 (Int32.toNatClampNeg (4 : Int32)) v5) 9 q26) (gV (sV (sV (sV (sV (sV (sNew S q26 9 (Int32.toNatClampNeg (5 : Int32))) 9 q26 (Int32.toNatClampNeg (0 : Int32)) v1) 9 q26 (Int32.toNatClampNeg (1 : Int32)) v2) 9 q26 (Int32.toNatClampNeg (2 : Int32)) v3) 9 q26 (Int32.toNatClampNeg (3 : Int32)) v4) 9 q26 (Int32.toNatClampNeg (4 : Int32)) v5) 9 b35) (Int32.toNatClampNeg (0 : Int32)) (Int32.toNatClampNeg ((5 : Int32) * (gV (sV (sV (sV (sV (sV (sNew S q26 9 (Int32.toNatClampNeg (5 : Int32))) 9 q26 (Int32.toNatClampNeg (0 : Int32)) v1) 9 q26 (Int32.toNatClampNeg (1 : Int32)) v2) 9 q26 (Int32.toNatClampNeg (2 : Int32)) v3) 9 q26 (Int32.toNatClampNeg (3 : Int32)) v4) 9 q26 (Int32.toNatClampNeg (4 : Int32)) v5) 8 v0 4))) (Int32.toNatClampNeg (5 : Int32)))) 8 v0 4) + (1 : Int32))) hx hb hts hiX6 tyX6 tyX6_ok nmX6 hown hK hw hS (ce_8 (S := (sF (sV (sV (sV (sV (sV (sNew S q26 9 (Int32.toNatClampNeg (5 : Int32))) 9 q26 (Int32.toNatClampNeg (0 : Int32)) v1) 9 q26 (Int32.toNatClampNeg (1 : Int32)) v2) 9 q26 (Int32.toNatClampNeg (2 : Int32)) v3) 9 q26 (Int32.toNatClampNeg (3 : Int32)) v4) 9 q26 (Int32.toNatClampNeg (4 : Int32)) v5) 9 b35 (va_cpy (gV (sV (sV (sV (sV (sV (sNew S q26 9 (Int32.toNatClampNeg (5 : Int32))) 9 q26 (Int32.toNatClampNeg (0 : Int32)) v1) 9 q26 (Int32.toNatClampNeg (1 : Int32)) v2) 9 q26 (Int32.toNatClampNeg (2 : Int32)) v3) 9 q26 (Int32.toNatClampNeg (3 : Int32)) v4) 9 q26 (Int32.toNatClampNeg (4 : Int32)) v5) 9 q26) (gV (sV (sV (sV (sV (sV (sNew S q26 9 (Int32.toNatClampNeg (5 : Int32))) 9 q26 (Int32.toNatClampNeg (0 : Int32)) v1) 9 q26 (Int32.toNatClampNeg (1 : Int32)) v2) 9 q26 (Int32.toNatClampNeg (2 : Int32)) v3) 9 q26 (Int32.toNatClampNeg (3 : Int32)) v4) 9 q26 (Int32.toNatClampNeg (4 : Int32)) v5) 9 b35) (Int32.toNatClampNeg (0 : Int32)) (Int32.toNatClampNeg ((5 : Int32) * (gV (sV (sV (sV (sV (sV (sNew S q26 9 (Int32.toNatClampNeg (5 : Int32))) 9 q26 (Int32.toNatClampNeg (0 : Int32)) v1) 9 q26 (Int32.toNatClampNeg (1 : Int32)) v2) 9 q26 (Int32.toNatClampNeg (2 : Int32)) v3) 9 q26 (Int32.toNatClampNeg (3 : Int32)) v4) 9 q26 (Int32.toNatClampNeg (4 : Int32)) v5) 8 v0 4))) (Int32.toNatClampNeg (5 : Int32))))) hk28) rfl 4 (by decide) (hts (.fieldLink RX6 73 "TubePostModel" "entries" "I") (by decide +kernel)) (fun _ h9 => h9) rfl (by decide +kernel) rfl rfl (Nat.le_of_ble_eq_true rfl) (pu_8_4 (S := (sF (sV (sV (sV (sV (sV (sNew S q26 9 (Int32.toNatClampNeg (5 : Int32))) 9 q26 (Int32.toNatClampNeg (0 : Int32)) v1) 9 q26 (Int32.toNatClampNeg (1 : Int32)) v2) 9 q26 (Int32.toNatClampNeg (2 : Int32)) v3) 9 q26 (Int32.toNatClampNeg (3 : Int32)) v4) 9 q26 (Int32.toNatClampNeg (4 : Int32)) v5) 9 b35 (va_cpy (gV (sV (sV (sV (sV (sV (sNew S q26 9 (Int32.toNatClampNeg (5 : Int32))) 9 q26 (Int32.toNatClampNeg (0 : Int32)) v1) 9 q26 (Int32.toNatClampNeg (1 : Int32)) v2) 9 q26 (Int32.toNatClampNeg (2 : Int32)) v3) 9 q26 (Int32.toNatClampNeg (3 : Int32)) v4) 9 q26 (Int32.toNatClampNeg (4 : Int32)) v5) 9 q26) (gV (sV (sV (sV (sV (sV (sNew S q26 9 (Int32.toNatClampNeg (5 : Int32))) 9 q26 (Int32.toNatClampNeg (0 : Int32)) v1) 9 q26 (Int32.toNatClampNeg (1 : Int32)) v2) 9 q26 (Int32.toNatClampNeg (2 : Int32)) v3) 9 q26 (Int32.toNatClampNeg (3 : Int32)) v4) 9 q26 (Int32.toNatClampNeg (4 : Int32)) v5) 9 b35) (Int32.toNatClampNeg (0 : Int32)) (Int32.toNatClampNeg ((5 : Int32) * (gV (sV (sV (sV (sV (sV (sNew S q26 9 (Int32.toNatClampNeg (5 : Int32))) 9 q26 (Int32.toNatClampNeg (0 : Int32)) v1) 9 q26 (Int32.toNatClampNeg (1 : Int32)) v2) 9 q26 (Int32.toNatClampNeg (2 : Int32)) v3) 9 q26 (Int32.toNatClampNeg (3 : Int32)) v4) 9 q26 (Int32.toNatClampNeg (4 : Int32)) v5) 8 v0 4))) (Int32.toNatClampNeg (5 : Int32))))) hk28) dX6_addEntry_218 (fun H locs hw hS => ?_)
        refine lv_aload_n hx hb dX6_addEntry_221 rfl (lv_at hl 2 rfl) ?_
        refine r_get (ci := 7) (v := .int (gV (sV (sF (sV (sV (sV (sV (sV (sNew S q26 9 (Int32.toNatClampNeg (5 : Int32))) 9 q26 (Int32.toNatClampNeg (0 : Int32)) v1) 9 q26 (Int32.toNatClampNeg (1 : Int32)) v2) 9 q26 (Int32.toNatClampNeg (2 : Int32)) v3) 9 q26 (Int32.toNatClampNeg (3 : Int32)) v4) 9 q26 (Int32.toNatClampNeg (4 : Int32)) v5) 9 b35 (va_cpy (gV (sV (sV (sV (sV (sV (sNew S q26 9 (Int32.toNatClampNeg (5 : Int32))) 9 q26 (Int32.toNatClampNeg (0 : Int32)) v1) 9 q26 (Int32.toNatClampNeg (1 : Int32)) v2) 9 q26 (Int32.toNatClampNeg (2 : Int32)) v3) 9 q26 (Int32.toNatClampNeg (3 : Int32)) v4) 9 q26 (Int32.toNatClampNeg (4 : Int32)) v5) 9 q26) (gV (sV (sV (sV (sV (sV (sNew S q26 9 (Int32.toNatClampNeg (5 : Int32))) 9 q26 (Int32.toNatClampNeg (0 : Int32)) v1) 9 q26 (Int32.toNatClampNeg (1 : Int32)) v2) 9 q26 (Int32.toNatClampNeg (2 : Int32)) v3) 9 q26 (Int32.toNatClampNeg (3 : Int32)) v4) 9 q26 (Int32.toNatClampNeg (4 : Int32)) v5) 9 b35) (Int32.toNatClampNeg (0 : Int32)) (Int32.toNatClampNeg ((5 : Int32) * (gV (sV (sV (sV (sV (sV (sNew S q26 9 (Int32.toNatClampNeg (5 : Int32))) 9 q26 (Int32.toNatClampNeg (0 : Int32)) v1) 9 q26 (Int32.toNatClampNeg (1 : Int32)) v2) 9 q26 (Int32.toNatClampNeg (2 : Int32)) v3) 9 q26 (Int32.toNatClampNeg (3 : Int32)) v4) 9 q26 (Int32.toNatClampNeg (4 : Int32)) v5) 8 v0 4))) (Int32.toNatClampNeg (5 : Int32)))) 8 v0 4 ((gV (sF (sV (sV (sV (sV (sV (sNew S q26 9 (Int32.toNatClampNeg (5 : Int32))) 9 q26 (Int32.toNatClampNeg (0 : Int32)) v1) 9 q26 (Int32.toNatClampNeg (1 : Int32)) v2) 9 q26 (Int32.toNatClampNeg (2 : Int32)) v3) 9 q26 (Int32.toNatClampNeg (3 : Int32)) v4) 9 q26 (Int32.toNatClampNeg (4 : Int32)) v5) 9 b35 (va_cpy (gV (sV (sV (sV (sV (sV (sNew S q26 9 (Int32.toNatClampNeg (5 : Int32))) 9 q26 (Int32.toNatClampNeg (0 : Int32)) v1) 9 q26 (Int32.toNatClampNeg (1 : Int32)) v2) 9 q26 (Int32.toNatClampNeg (2 : Int32)) v3) 9 q26 (Int32.toNatClampNeg (3 : Int32)) v4) 9 q26 (Int32.toNatClampNeg (4 : Int32)) v5) 9 q26) (gV (sV (sV (sV (sV (sV (sNew S q26 9 (Int32.toNatClampNeg (5 : Int32))) 9 q26 (Int32.toNatClampNeg (0 : Int32)) v1) 9 q26 (Int32.toNatClampNeg (1 : Int32)) v2) 9 q26 (Int32.toNatClampNeg (2 : Int32)) v3) 9 q26 (Int32.toNatClampNeg (3 : Int32)) v4) 9 q26 (Int32.toNatClampNeg (4 : Int32)) v5) 9 b35) (Int32.toNatClampNeg (0 : Int32)) (Int32.toNatClampNeg ((5 : Int32) * (gV (sV (sV (sV (sV (sV (sNew S q26 9 (Int32.toNatClampNeg (5 : Int32))) 9 q26 (Int32.toNatClampNeg (0 : Int32)) v1) 9 q26 (Int32.toNatClampNeg (1 : Int32)) v2) 9 q26 (Int32.toNatClampNeg (2 : Int32)) v3) 9 q26 (Int32.toNatClampNeg (3 : Int32)) v4) 9 q26 (Int32.toNatClampNeg (4 : Int32)) v5) 8 v0 4))) (Int32.toNatClampNeg (5 : Int32)))) 8 v0 4) + (1 : Int32))) 8 v0 4)) (C := RX6) (T := TX6) (N := 17) hx hb hts hiX6 hown hK hw (ce_8 (S := (sV (sF (sV (sV (sV (sV (sV (sNew S q26 9 (Int32.toNatClampNeg (5 : Int32))) 9 q26 (Int32.toNatClampNeg (0 : Int32)) v1) 9 q26 (Int32.toNatClampNeg (1 : Int32)) v2) 9 q26 (Int32.toNatClampNeg (2 : Int32)) v3) 9 q26 (Int32.toNatClampNeg (3 : Int32)) v4) 9 q26 (Int32.toNatClampNeg (4 : Int32)) v5) 9 b35 (va_cpy (gV (sV (sV (sV (sV (sV (sNew S q26 9 (Int32.toNatClampNeg (5 : Int32))) 9 q26 (Int32.toNatClampNeg (0 : Int32)) v1) 9 q26 (Int32.toNatClampNeg (1 : Int32)) v2) 9 q26 (Int32.toNatClampNeg (2 : Int32)) v3) 9 q26 (Int32.toNatClampNeg (3 : Int32)) v4) 9 q26 (Int32.toNatClampNeg (4 : Int32)) v5) 9 q26) (gV (sV (sV (sV (sV (sV (sNew S q26 9 (Int32.toNatClampNeg (5 : Int32))) 9 q26 (Int32.toNatClampNeg (0 : Int32)) v1) 9 q26 (Int32.toNatClampNeg (1 : Int32)) v2) 9 q26 (Int32.toNatClampNeg (2 : Int32)) v3) 9 q26 (Int32.toNatClampNeg (3 : Int32)) v4) 9 q26 (Int32.toNatClampNeg (4 : Int32)) v5) 9 b35) (Int32.toNatClampNeg (0 : Int32)) (Int32.toNatClampNeg ((5 : Int32) * (gV (sV (sV (sV (sV (sV (sNew S q26 9 (Int32.toNatClampNeg (5 : Int32))) 9 q26 (Int32.toNatClampNeg (0 : Int32)) v1) 9 q26 (Int32.toNatClampNeg (1 : Int32)) v2) 9 q26 (Int32.toNatClampNeg (2 : Int32)) v3) 9 q26 (Int32.toNatClampNeg (3 : Int32)) v4) 9 q26 (Int32.toNatClampNeg (4 : Int32)) v5) 8 v0 4))) (Int32.toNatClampNeg (5 : Int32)))) 8 v0 4 ((gV (sF (sV (sV (sV (sV (sV (sNew S q26 9 (Int32.toNatClampNeg (5 : Int32))) 9 q26 (Int32.toNatClampNeg (0 : Int32)) v1) 9 q26 (Int32.toNatClampNeg (1 : Int32)) v2) 9 q26 (Int32.toNatClampNeg (2 : Int32)) v3) 9 q26 (Int32.toNatClampNeg (3 : Int32)) v4) 9 q26 (Int32.toNatClampNeg (4 : Int32)) v5) 9 b35 (va_cpy (gV (sV (sV (sV (sV (sV (sNew S q26 9 (Int32.toNatClampNeg (5 : Int32))) 9 q26 (Int32.toNatClampNeg (0 : Int32)) v1) 9 q26 (Int32.toNatClampNeg (1 : Int32)) v2) 9 q26 (Int32.toNatClampNeg (2 : Int32)) v3) 9 q26 (Int32.toNatClampNeg (3 : Int32)) v4) 9 q26 (Int32.toNatClampNeg (4 : Int32)) v5) 9 q26) (gV (sV (sV (sV (sV (sV (sNew S q26 9 (Int32.toNatClampNeg (5 : Int32))) 9 q26 (Int32.toNatClampNeg (0 : Int32)) v1) 9 q26 (Int32.toNatClampNeg (1 : Int32)) v2) 9 q26 (Int32.toNatClampNeg (2 : Int32)) v3) 9 q26 (Int32.toNatClampNeg (3 : Int32)) v4) 9 q26 (Int32.toNatClampNeg (4 : Int32)) v5) 9 b35) (Int32.toNatClampNeg (0 : Int32)) (Int32.toNatClampNeg ((5 : Int32) * (gV (sV (sV (sV (sV (sV (sNew S q26 9 (Int32.toNatClampNeg (5 : Int32))) 9 q26 (Int32.toNatClampNeg (0 : Int32)) v1) 9 q26 (Int32.toNatClampNeg (1 : Int32)) v2) 9 q26 (Int32.toNatClampNeg (2 : Int32)) v3) 9 q26 (Int32.toNatClampNeg (3 : Int32)) v4) 9 q26 (Int32.toNatClampNeg (4 : Int32)) v5) 8 v0 4))) (Int32.toNatClampNeg (5 : Int32)))) 8 v0 4) + (1 : Int32)))) hk28) rfl 4 (by decide) (hts (.fieldLink RX6 73 "TubePostModel" "entries" "I") (by decide +kernel)) (fun _ h9 => h9) rfl dX6_addEntry_222 ?_
        refine lv_iconst (v := (1 : Int32)) hx hb dX6_addEntry_225 (by decide) ?_
        refine lv_isub hx hb dX6_addEntry_226 ?_
        exact hret ((gV (sV (sF (sV (sV (sV (sV (sV (sNew S q26 9 (Int32.toNatClampNeg (5 : Int32))) 9 q26 (Int32.toNatClampNeg (0 : Int32)) v1) 9 q26 (Int32.toNatClampNeg (1 : Int32)) v2) 9 q26 (Int32.toNatClampNeg (2 : Int32)) v3) 9 q26 (Int32.toNatClampNeg (3 : Int32)) v4) 9 q26 (Int32.toNatClampNeg (4 : Int32)) v5) 9 b35 (va_cpy (gV (sV (sV (sV (sV (sV (sNew S q26 9 (Int32.toNatClampNeg (5 : Int32))) 9 q26 (Int32.toNatClampNeg (0 : Int32)) v1) 9 q26 (Int32.toNatClampNeg (1 : Int32)) v2) 9 q26 (Int32.toNatClampNeg (2 : Int32)) v3) 9 q26 (Int32.toNatClampNeg (3 : Int32)) v4) 9 q26 (Int32.toNatClampNeg (4 : Int32)) v5) 9 q26) (gV (sV (sV (sV (sV (sV (sNew S q26 9 (Int32.toNatClampNeg (5 : Int32))) 9 q26 (Int32.toNatClampNeg (0 : Int32)) v1) 9 q26 (Int32.toNatClampNeg (1 : Int32)) v2) 9 q26 (Int32.toNatClampNeg (2 : Int32)) v3) 9 q26 (Int32.toNatClampNeg (3 : Int32)) v4) 9 q26 (Int32.toNatClampNeg (4 : Int32)) v5) 9 b35) (Int32.toNatClampNeg (0 : Int32)) (Int32.toNatClampNeg ((5 : Int32) * (gV (sV (sV (sV (sV (sV (sNew S q26 9 (Int32.toNatClampNeg (5 : Int32))) 9 q26 (Int32.toNatClampNeg (0 : Int32)) v1) 9 q26 (Int32.toNatClampNeg (1 : Int32)) v2) 9 q26 (Int32.toNatClampNeg (2 : Int32)) v3) 9 q26 (Int32.toNatClampNeg (3 : Int32)) v4) 9 q26 (Int32.toNatClampNeg (4 : Int32)) v5) 8 v0 4))) (Int32.toNatClampNeg (5 : Int32)))) 8 v0 4 ((gV (sF (sV (sV (sV (sV (sV (sNew S q26 9 (Int32.toNatClampNeg (5 : Int32))) 9 q26 (Int32.toNatClampNeg (0 : Int32)) v1) 9 q26 (Int32.toNatClampNeg (1 : Int32)) v2) 9 q26 (Int32.toNatClampNeg (2 : Int32)) v3) 9 q26 (Int32.toNatClampNeg (3 : Int32)) v4) 9 q26 (Int32.toNatClampNeg (4 : Int32)) v5) 9 b35 (va_cpy (gV (sV (sV (sV (sV (sV (sNew S q26 9 (Int32.toNatClampNeg (5 : Int32))) 9 q26 (Int32.toNatClampNeg (0 : Int32)) v1) 9 q26 (Int32.toNatClampNeg (1 : Int32)) v2) 9 q26 (Int32.toNatClampNeg (2 : Int32)) v3) 9 q26 (Int32.toNatClampNeg (3 : Int32)) v4) 9 q26 (Int32.toNatClampNeg (4 : Int32)) v5) 9 q26) (gV (sV (sV (sV (sV (sV (sNew S q26 9 (Int32.toNatClampNeg (5 : Int32))) 9 q26 (Int32.toNatClampNeg (0 : Int32)) v1) 9 q26 (Int32.toNatClampNeg (1 : Int32)) v2) 9 q26 (Int32.toNatClampNeg (2 : Int32)) v3) 9 q26 (Int32.toNatClampNeg (3 : Int32)) v4) 9 q26 (Int32.toNatClampNeg (4 : Int32)) v5) 9 b35) (Int32.toNatClampNeg (0 : Int32)) (Int32.toNatClampNeg ((5 : Int32) * (gV (sV (sV (sV (sV (sV (sNew S q26 9 (Int32.toNatClampNeg (5 : Int32))) 9 q26 (Int32.toNatClampNeg (0 : Int32)) v1) 9 q26 (Int32.toNatClampNeg (1 : Int32)) v2) 9 q26 (Int32.toNatClampNeg (2 : Int32)) v3) 9 q26 (Int32.toNatClampNeg (3 : Int32)) v4) 9 q26 (Int32.toNatClampNeg (4 : Int32)) v5) 8 v0 4))) (Int32.toNatClampNeg (5 : Int32)))) 8 v0 4) + (1 : Int32))) 8 v0 4) - (1 : Int32)) _ _ _ _ _ _ _ h hw hS (by omega) (by omega) dX6_addEntry_227
      · have h := h.2 hc
        refine lv_aload_n hx hb dX6_addEntry_161 rfl (lv_at hl 1 rfl) ?_
        refine lv_iconst (v := (3 : Int32)) hx hb dX6_addEntry_162 (by decide) ?_
        have h1 := h
        refine va_calli (va_runV (As := [.int (3 : Int32)]) (rest := []) ⟨hx, hb, hml, hown, hts⟩ (m_X6_fail (l := l) h1) (cwV 1 hts gX6_addEntry_X6_fail rfl rfl rfl (by decide +kernel) ⟨Nat.le_trans (Nat.le_of_ble_eq_true rfl) hRf, Nat.le_trans (Nat.le_of_ble_eq_true rfl) hRl⟩) (r_pV hB hw hS (ce_8 (S := S) hk25) rfl) rfl rfl hl.1 rfl (lv_room (Nat.le_of_ble_eq_true rfl)) dX6_addEntry_163 ⟨by omega, by omega⟩) hS (fun _ _ h => h) (fun _ h => h) (fun r39 S40 t H1 locs ht _ h hw1 _ _ hS => ?_)
        subst ht
        have hw : wd D y z S40 A t.heap := hw1
        clear hw1 h1
        exact hret r39 _ _ _ _ _ _ _ h hw hS (by omega) (by omega) dX6_addEntry_166
    · have h := h.2 hc
      refine lv_aload_n hx hb dX6_addEntry_146 rfl (lv_at hl 1 rfl) ?_
      refine lv_iconst (v := (2 : Int32)) hx hb dX6_addEntry_147 (by decide) ?_
      obtain ⟨hk41, h⟩ := h
      have h1 := h
      refine va_calli (va_runV (As := [.int (2 : Int32)]) (rest := []) ⟨hx, hb, hml, hown, hts⟩ (m_X6_fail (l := l) h1) (cwV 1 hts gX6_addEntry_X6_fail rfl rfl rfl (by decide +kernel) ⟨Nat.le_trans (Nat.le_of_ble_eq_true rfl) hRf, Nat.le_trans (Nat.le_of_ble_eq_true rfl) hRl⟩) (r_pV hB hw hS (ce_8 (S := S) hk41) rfl) rfl rfl hl.1 rfl (lv_room (Nat.le_of_ble_eq_true rfl)) dX6_addEntry_148 ⟨by omega, by omega⟩) hS (fun _ _ h => h) (fun _ h => h) (fun r42 S43 t H1 locs ht _ h hw1 _ _ hS => ?_)
      subst ht
      have hw : wd D y z S43 A t.heap := hw1
      clear hw1 h1
      exact hret r42 _ _ _ _ _ _ _ h hw hS (by omega) (by omega) dX6_addEntry_151
  have hB80 : ∀ (S : bS) (H : Heap) (locs : List Loc) (ls : Array Slot) (mc ms cu su : Nat) (v0 : Nat) (v1 : Int32) (v2 : Int32) (v3 : Int32) (v4 : Int32) (v5 : Int32), wb_X6_addEntry_80 post mc ms v0 v1 v2 v3 v4 v5 S → wd D y z S A H → va_S A s.heap H locs → lv_has ls 8 [(0, .ref v0), (1, .int v1), (2, .int v2), (3, .int v3), (4, .int v4), (5, .int v5)] → cu + mc ≤ MC → su + ms ≤ MS → W p l e R s m (([Value.ref this, Value.int p1, Value.int p2, Value.int p3, Value.int p4, Value.int p5] : List Value).toArray) below meth c H locs cu su Q (F0 m 80 ls []) := by
    intro S H locs ls mc ms cu su v0 v1 v2 v3 v4 v5 h hw hS hl hcu hsu
    unfold wb_X6_addEntry_80 at h
    refine lv_iconst (v := (0 : Int32)) hx hb dX6_addEntry_80 (by decide) ?_
    refine lv_goto (tgt := 139) hx hb dX6_addEntry_81 (by decide) ?_
    exact hB139 _ _ _ _ _ _ _ _ _ _ _ _ _ _ _ h hw hS (lv_sub hl [0, 1, 2, 3, 4, 5] rfl) hcu hsu
  have hB112 : ∀ (S : bS) (H : Heap) (locs : List Loc) (ls : Array Slot) (mc ms cu su : Nat) (v0 : Nat) (v1 : Int32) (v2 : Int32) (v3 : Int32) (v4 : Int32) (v5 : Int32), wb_X6_addEntry_112 post mc ms v0 v1 v2 v3 v4 v5 S → wd D y z S A H → va_S A s.heap H locs → lv_has ls 8 [(0, .ref v0), (1, .int v1), (2, .int v2), (3, .int v3), (4, .int v4), (5, .int v5)] → cu + mc ≤ MC → su + ms ≤ MS → W p l e R s m (([Value.ref this, Value.int p1, Value.int p2, Value.int p3, Value.int p4, Value.int p5] : List Value).toArray) below meth c H locs cu su Q (F0 m 112 ls []) := by
    intro S H locs ls mc ms cu su v0 v1 v2 v3 v4 v5 h hw hS hl hcu hsu
    unfold wb_X6_addEntry_112 at h
    refine lv_iconst (v := (0 : Int32)) hx hb dX6_addEntry_112 (by decide) ?_
    refine lv_goto (tgt := 139) hx hb dX6_addEntry_113 (by decide) ?_
    exact hB139 _ _ _ _ _ _ _ _ _ _ _ _ _ _ _ h hw hS (lv_sub hl [0, 1, 2, 3, 4, 5] rfl) hcu hsu
  have hB138 : ∀ (S : bS) (H : Heap) (locs : List Loc) (ls : Array Slot) (mc ms cu su : Nat) (v0 : Nat) (v1 : Int32) (v2 : Int32) (v3 : Int32) (v4 : Int32) (v5 : Int32), wb_X6_addEntry_138 post mc ms v0 v1 v2 v3 v4 v5 S → wd D y z S A H → va_S A s.heap H locs → lv_has ls 8 [(0, .ref v0), (1, .int v1), (2, .int v2), (3, .int v3), (4, .int v4), (5, .int v5)] → cu + mc ≤ MC → su + ms ≤ MS → W p l e R s m (([Value.ref this, Value.int p1, Value.int p2, Value.int p3, Value.int p4, Value.int p5] : List Value).toArray) below meth c H locs cu su Q (F0 m 138 ls []) := by
    intro S H locs ls mc ms cu su v0 v1 v2 v3 v4 v5 h hw hS hl hcu hsu
    unfold wb_X6_addEntry_138 at h
    refine lv_iconst (v := (0 : Int32)) hx hb dX6_addEntry_138 (by decide) ?_
    exact hB139 _ _ _ _ _ _ _ _ _ _ _ _ _ _ _ h hw hS (lv_sub hl [0, 1, 2, 3, 4, 5] rfl) hcu hsu
  unfold wp_X6_addEntry at h
  have hcu : 0 + MC ≤ MC := by omega
  have hsu : 0 + MS ≤ MS := by omega
  refine lv_aload_n hx hb dX6_addEntry_0 rfl (lv_at hl 0 rfl) ?_
  refine lv_iconst (v := (0 : Int32)) hx hb dX6_addEntry_1 (by decide) ?_
  obtain ⟨hk1, h⟩ := h
  refine r_putI (κ := 8) (ci := 7) (C := RX6) (T := TX6) (N := 17) (ty := .int) (x := (0 : Int32)) hx hb hts hiX6 tyX6 tyX6_ok nmX6 hown hK hw hS (ce_8 (S := S) hk1) rfl 0 (by decide) (hts (.fieldLink RX6 31 "TubePostModel" "thrown" "I") (by decide +kernel)) (fun _ h9 => h9) rfl (by decide +kernel) rfl rfl (Nat.le_of_ble_eq_true rfl) (pu_8_0 (S := S) hk1) dX6_addEntry_2 (fun H locs hw hS => ?_)
  refine lv_iload_n hx hb dX6_addEntry_5 rfl (lv_at hl 1 rfl) ?_
  refine lv_aload_n hx hb dX6_addEntry_6 rfl (lv_at hl 0 rfl) ?_
  refine r_get (ci := 7) (v := .int (gV (sV S 8 this 0 (0 : Int32)) 8 this 1)) (C := RX6) (T := TX6) (N := 17) hx hb hts hiX6 hown hK hw (ce_8 (S := (sV S 8 this 0 (0 : Int32))) hk1) rfl 1 (by decide) (hts (.fieldLink RX6 69 "TubePostModel" "tick" "I") (by decide +kernel)) (fun _ h9 => h9) rfl dX6_addEntry_7 ?_
  refine lv_icmp_le (tgt := 39) hx hb dX6_addEntry_10 (by decide) (fun hc => ?_) (fun hc => ?_)
  · have h := h.1 hc
    exact hB39 _ _ _ _ _ _ _ _ _ h hw hS (lv_sub hl [0] rfl) hcu hsu
  · have h := h.2 hc
    refine lv_iload_n hx hb dX6_addEntry_13 rfl (lv_at hl 1 rfl) ?_
    refine lv_ldc (v := (100000 : Int32)) hx hb hown (hts (.constant RX6 72 (100000 : Int32)) (by decide +kernel)) dX6_addEntry_14 ?_
    refine lv_icmp_gt (tgt := 39) hx hb dX6_addEntry_16 (by decide) (fun hc => ?_) (fun hc => ?_)
    · have h := h.1 hc
      exact hB39 _ _ _ _ _ _ _ _ _ h hw hS (lv_sub hl [0] rfl) hcu hsu
    · have h := h.2 hc
      refine lv_iload_n hx hb dX6_addEntry_19 rfl (lv_at hl 2 rfl) ?_
      refine lv_iconst (v := (0 : Int32)) hx hb dX6_addEntry_20 (by decide) ?_
      refine lv_sipush (v := (500 : Int32)) hx hb dX6_addEntry_21 (by decide) ?_
      have h1 := h
      refine va_calli (va_runS (As := [.int p2, .int (0 : Int32), .int (500 : Int32)]) (rest := []) ⟨hx, hb, hml, hown, hts⟩ (m_X6_isIn (l := l) h1) (cwS 3 hts gX6_addEntry_X6_isIn rfl rfl rfl (by decide +kernel) ⟨Nat.le_trans (Nat.le_of_ble_eq_true rfl) hRf, Nat.le_trans (Nat.le_of_ble_eq_true rfl) hRl⟩) (r_pS hB hw hS) rfl rfl hl.1 rfl (lv_room (Nat.le_of_ble_eq_true rfl)) dX6_addEntry_24 ⟨by omega, by omega⟩) hS (fun _ _ h => h) (fun _ h => h) (fun r2 S3 t H1 locs ht _ h hw1 _ _ hS => ?_)
      subst ht
      have hw : wd D y z S3 A t.heap := hw1
      clear hw1 h1
      refine lv_if_eq (tgt := 39) hx hb dX6_addEntry_27 (by decide) (fun hc => ?_) (fun hc => ?_)
      · have h := h.1 hc
        exact hB39 _ _ _ _ _ _ _ _ _ h hw hS (lv_sub hl [0] rfl) hcu hsu
      · have h := h.2 hc
        refine lv_iload_n hx hb dX6_addEntry_30 rfl (lv_at hl 3 rfl) ?_
        refine lv_iconst (v := (0 : Int32)) hx hb dX6_addEntry_31 (by decide) ?_
        refine lv_iconst (v := (2 : Int32)) hx hb dX6_addEntry_32 (by decide) ?_
        have h1 := h
        refine va_calli (va_runS (As := [.int p3, .int (0 : Int32), .int (2 : Int32)]) (rest := []) ⟨hx, hb, hml, hown, hts⟩ (m_X6_isIn (l := l) h1) (cwS 3 hts gX6_addEntry_X6_isIn rfl rfl rfl (by decide +kernel) ⟨Nat.le_trans (Nat.le_of_ble_eq_true rfl) hRf, Nat.le_trans (Nat.le_of_ble_eq_true rfl) hRl⟩) (r_pS hB hw hS) rfl rfl hl.1 rfl (lv_room (Nat.le_of_ble_eq_true rfl)) dX6_addEntry_33 ⟨by omega, by omega⟩) hS (fun _ _ h => h) (fun _ h => h) (fun r4 S5 t H1 locs ht _ h hw1 _ _ hS => ?_)
        subst ht
        have hw : wd D y z S5 A t.heap := hw1
        clear hw1 h1
        refine lv_if_ne (tgt := 45) hx hb dX6_addEntry_36 (by decide) (fun hc => ?_) (fun hc => ?_)
        · have h := h.1 hc
          refine lv_iload_n hx hb dX6_addEntry_45 rfl (lv_at hl 3 rfl) ?_
          refine lv_if_ne (tgt := 84) hx hb dX6_addEntry_46 (by decide) (fun hc => ?_) (fun hc => ?_)
          · have h := h.1 hc
            refine lv_iload_n hx hb dX6_addEntry_84 rfl (lv_at hl 3 rfl) ?_
            refine lv_iconst (v := (1 : Int32)) hx hb dX6_addEntry_85 (by decide) ?_
            refine lv_icmp_ne (tgt := 116) hx hb dX6_addEntry_86 (by decide) (fun hc => ?_) (fun hc => ?_)
            · have h := h.1 hc
              refine lv_aload_n hx hb dX6_addEntry_116 rfl (lv_at hl 0 rfl) ?_
              refine lv_iload hx hb dX6_addEntry_117 (lv_at hl 4 rfl) ?_
              obtain ⟨hk6, h⟩ := h
              have h1 := h
              refine va_calli (va_runV (As := [.int p4]) (rest := []) ⟨hx, hb, hml, hown, hts⟩ (m_X6_isStation (l := l) h1) (cwV 1 hts gX6_addEntry_X6_isStation rfl rfl rfl (by decide +kernel) ⟨Nat.le_trans (Nat.le_of_ble_eq_true rfl) hRf, Nat.le_trans (Nat.le_of_ble_eq_true rfl) hRl⟩) (r_pV hB hw hS (ce_8 (S := S5) hk6) rfl) rfl rfl hl.1 rfl (lv_room (Nat.le_of_ble_eq_true rfl)) dX6_addEntry_119 ⟨by omega, by omega⟩) hS (fun _ _ h => h) (fun _ h => h) (fun r7 S8 t H1 locs ht _ h hw1 _ _ hS => ?_)
              subst ht
              have hw : wd D y z S8 A t.heap := hw1
              clear hw1 h1
              refine lv_if_eq (tgt := 138) hx hb dX6_addEntry_122 (by decide) (fun hc => ?_) (fun hc => ?_)
              · have h := h.1 hc
                exact hB138 _ _ _ _ _ _ _ _ _ _ _ _ _ _ h hw hS (lv_sub hl [0, 1, 2, 3, 4, 5] rfl) hcu hsu
              · have h := h.2 hc
                refine lv_aload_n hx hb dX6_addEntry_125 rfl (lv_at hl 0 rfl) ?_
                refine lv_iload hx hb dX6_addEntry_126 (lv_at hl 5 rfl) ?_
                obtain ⟨hk9, h⟩ := h
                have h1 := h
                refine va_calli (va_runV (As := [.int p5]) (rest := []) ⟨hx, hb, hml, hown, hts⟩ (m_X6_isStation (l := l) h1) (cwV 1 hts gX6_addEntry_X6_isStation rfl rfl rfl (by decide +kernel) ⟨Nat.le_trans (Nat.le_of_ble_eq_true rfl) hRf, Nat.le_trans (Nat.le_of_ble_eq_true rfl) hRl⟩) (r_pV hB hw hS (ce_8 (S := S8) hk9) rfl) rfl rfl hl.1 rfl (lv_room (Nat.le_of_ble_eq_true rfl)) dX6_addEntry_128 ⟨by omega, by omega⟩) hS (fun _ _ h => h) (fun _ h => h) (fun r10 S11 t H1 locs ht _ h hw1 _ _ hS => ?_)
                subst ht
                have hw : wd D y z S11 A t.heap := hw1
                clear hw1 h1
                refine lv_if_eq (tgt := 138) hx hb dX6_addEntry_131 (by decide) (fun hc => ?_) (fun hc => ?_)
                · have h := h.1 hc
                  exact hB138 _ _ _ _ _ _ _ _ _ _ _ _ _ _ h hw hS (lv_sub hl [0, 1, 2, 3, 4, 5] rfl) hcu hsu
                · have h := h.2 hc
                  refine lv_iconst (v := (1 : Int32)) hx hb dX6_addEntry_134 (by decide) ?_
                  refine lv_goto (tgt := 139) hx hb dX6_addEntry_135 (by decide) ?_
                  exact hB139 _ _ _ _ _ _ _ _ _ _ _ _ _ _ _ h hw hS (lv_sub hl [0, 1, 2, 3, 4, 5] rfl) hcu hsu
            · have h := h.2 hc
              refine lv_aload_n hx hb dX6_addEntry_89 rfl (lv_at hl 0 rfl) ?_
              refine lv_iload hx hb dX6_addEntry_90 (lv_at hl 4 rfl) ?_
              obtain ⟨hk12, h⟩ := h
              have h1 := h
              refine va_calli (va_runV (As := [.int p4]) (rest := []) ⟨hx, hb, hml, hown, hts⟩ (m_X6_isTube (l := l) h1) (cwV 1 hts gX6_addEntry_X6_isTube rfl rfl rfl (by decide +kernel) ⟨Nat.le_trans (Nat.le_of_ble_eq_true rfl) hRf, Nat.le_trans (Nat.le_of_ble_eq_true rfl) hRl⟩) (r_pV hB hw hS (ce_8 (S := S5) hk12) rfl) rfl rfl hl.1 rfl (lv_room (Nat.le_of_ble_eq_true rfl)) dX6_addEntry_92 ⟨by omega, by omega⟩) hS (fun _ _ h => h) (fun _ h => h) (fun r13 S14 t H1 locs ht _ h hw1 _ _ hS => ?_)
              subst ht
              have hw : wd D y z S14 A t.heap := hw1
              clear hw1 h1
              refine lv_if_eq (tgt := 112) hx hb dX6_addEntry_95 (by decide) (fun hc => ?_) (fun hc => ?_)
              · have h := h.1 hc
                exact hB112 _ _ _ _ _ _ _ _ _ _ _ _ _ _ h hw hS (lv_sub hl [0, 1, 2, 3, 4, 5] rfl) hcu hsu
              · have h := h.2 hc
                refine lv_iload hx hb dX6_addEntry_98 (lv_at hl 5 rfl) ?_
                refine lv_iconst (v := (0 : Int32)) hx hb dX6_addEntry_100 (by decide) ?_
                refine lv_iconst (v := (1 : Int32)) hx hb dX6_addEntry_101 (by decide) ?_
                have h1 := h
                refine va_calli (va_runS (As := [.int p5, .int (0 : Int32), .int (1 : Int32)]) (rest := []) ⟨hx, hb, hml, hown, hts⟩ (m_X6_isIn (l := l) h1) (cwS 3 hts gX6_addEntry_X6_isIn rfl rfl rfl (by decide +kernel) ⟨Nat.le_trans (Nat.le_of_ble_eq_true rfl) hRf, Nat.le_trans (Nat.le_of_ble_eq_true rfl) hRl⟩) (r_pS hB hw hS) rfl rfl hl.1 rfl (lv_room (Nat.le_of_ble_eq_true rfl)) dX6_addEntry_102 ⟨by omega, by omega⟩) hS (fun _ _ h => h) (fun _ h => h) (fun r15 S16 t H1 locs ht _ h hw1 _ _ hS => ?_)
                subst ht
                have hw : wd D y z S16 A t.heap := hw1
                clear hw1 h1
                refine lv_if_eq (tgt := 112) hx hb dX6_addEntry_105 (by decide) (fun hc => ?_) (fun hc => ?_)
                · have h := h.1 hc
                  exact hB112 _ _ _ _ _ _ _ _ _ _ _ _ _ _ h hw hS (lv_sub hl [0, 1, 2, 3, 4, 5] rfl) hcu hsu
                · have h := h.2 hc
                  refine lv_iconst (v := (1 : Int32)) hx hb dX6_addEntry_108 (by decide) ?_
                  refine lv_goto (tgt := 139) hx hb dX6_addEntry_109 (by decide) ?_
                  exact hB139 _ _ _ _ _ _ _ _ _ _ _ _ _ _ _ h hw hS (lv_sub hl [0, 1, 2, 3, 4, 5] rfl) hcu hsu
          · have h := h.2 hc
            refine lv_aload_n hx hb dX6_addEntry_49 rfl (lv_at hl 0 rfl) ?_
            refine lv_iload hx hb dX6_addEntry_50 (lv_at hl 4 rfl) ?_
            obtain ⟨hk17, h⟩ := h
            have h1 := h
            refine va_calli (va_runV (As := [.int p4]) (rest := []) ⟨hx, hb, hml, hown, hts⟩ (m_X6_isStation (l := l) h1) (cwV 1 hts gX6_addEntry_X6_isStation rfl rfl rfl (by decide +kernel) ⟨Nat.le_trans (Nat.le_of_ble_eq_true rfl) hRf, Nat.le_trans (Nat.le_of_ble_eq_true rfl) hRl⟩) (r_pV hB hw hS (ce_8 (S := S5) hk17) rfl) rfl rfl hl.1 rfl (lv_room (Nat.le_of_ble_eq_true rfl)) dX6_addEntry_52 ⟨by omega, by omega⟩) hS (fun _ _ h => h) (fun _ h => h) (fun r18 S19 t H1 locs ht _ h hw1 _ _ hS => ?_)
            subst ht
            have hw : wd D y z S19 A t.heap := hw1
            clear hw1 h1
            refine lv_if_eq (tgt := 80) hx hb dX6_addEntry_55 (by decide) (fun hc => ?_) (fun hc => ?_)
            · have h := h.1 hc
              exact hB80 _ _ _ _ _ _ _ _ _ _ _ _ _ _ h hw hS (lv_sub hl [0, 1, 2, 3, 4, 5] rfl) hcu hsu
            · have h := h.2 hc
              refine lv_iload hx hb dX6_addEntry_58 (lv_at hl 5 rfl) ?_
              refine lv_iconst (v := (-1 : Int32)) hx hb dX6_addEntry_60 (by decide) ?_
              refine lv_aload_n hx hb dX6_addEntry_61 rfl (lv_at hl 0 rfl) ?_
              refine lv_iload hx hb dX6_addEntry_62 (lv_at hl 4 rfl) ?_
              refine lv_iconst (v := (2 : Int32)) hx hb dX6_addEntry_64 (by decide) ?_
              obtain ⟨hk20, h⟩ := h
              have h1 := h
              refine va_calli (va_runV (As := [.int p4, .int (2 : Int32)]) (rest := [.int (-1 : Int32), .int p5]) ⟨hx, hb, hml, hown, hts⟩ (m_X6_st (l := l) h1) (cwV 2 hts gX6_addEntry_X6_st rfl rfl rfl (by decide +kernel) ⟨Nat.le_trans (Nat.le_of_ble_eq_true rfl) hRf, Nat.le_trans (Nat.le_of_ble_eq_true rfl) hRl⟩) (r_pV hB hw hS (ce_8 (S := S19) hk20) rfl) rfl rfl hl.1 rfl (lv_room (Nat.le_of_ble_eq_true rfl)) dX6_addEntry_65 ⟨by omega, by omega⟩) hS (fun _ _ h => h) (fun _ h => h) (fun r21 S22 t H1 locs ht _ h hw1 _ _ hS => ?_)
              subst ht
              have hw : wd D y z S22 A t.heap := hw1
              clear hw1 h1
              refine lv_iconst (v := (1 : Int32)) hx hb dX6_addEntry_68 (by decide) ?_
              refine lv_isub hx hb dX6_addEntry_69 ?_
              have h1 := h
              refine va_calli (va_runS (As := [.int p5, .int (-1 : Int32), .int (r21 - (1 : Int32))]) (rest := []) ⟨hx, hb, hml, hown, hts⟩ (m_X6_isIn (l := l) h1) (cwS 3 hts gX6_addEntry_X6_isIn rfl rfl rfl (by decide +kernel) ⟨Nat.le_trans (Nat.le_of_ble_eq_true rfl) hRf, Nat.le_trans (Nat.le_of_ble_eq_true rfl) hRl⟩) (r_pS hB hw hS) rfl rfl hl.1 rfl (lv_room (Nat.le_of_ble_eq_true rfl)) dX6_addEntry_70 ⟨by omega, by omega⟩) hS (fun _ _ h => h) (fun _ h => h) (fun r23 S24 t H1 locs ht _ h hw1 _ _ hS => ?_)
              subst ht
              have hw : wd D y z S24 A t.heap := hw1
              clear hw1 h1
              refine lv_if_eq (tgt := 80) hx hb dX6_addEntry_73 (by decide) (fun hc => ?_) (fun hc => ?_)
              · have h := h.1 hc
                exact hB80 _ _ _ _ _ _ _ _ _ _ _ _ _ _ h hw hS (lv_sub hl [0, 1, 2, 3, 4, 5] rfl) hcu hsu
              · have h := h.2 hc
                refine lv_iconst (v := (1 : Int32)) hx hb dX6_addEntry_76 (by decide) ?_
                refine lv_goto (tgt := 139) hx hb dX6_addEntry_77 (by decide) ?_
                exact hB139 _ _ _ _ _ _ _ _ _ _ _ _ _ _ _ h hw hS (lv_sub hl [0, 1, 2, 3, 4, 5] rfl) hcu hsu
        · have h := h.2 hc
          exact hB39 _ _ _ _ _ _ _ _ _ h hw hS (lv_sub hl [0] rfl) hcu hsu
def wb_X6_manyAt_52 (post : Int32 → bS → Prop) (rec5 : Nat → Int32 → Int32 → Int32 → Int32 → bS → Prop) (v0 : Nat) (v1 : Int32) (v2 : Int32) (v4 : Int32) (s0 : Int32) (s1 : Int32) (S : bS) : Prop := rec5 v0 v1 v2 (s1 + s0) (v4 + (1 : Int32)) S
def wb_X6_manyAt_51 (post : Int32 → bS → Prop) (rec5 : Nat → Int32 → Int32 → Int32 → Int32 → bS → Prop) (v0 : Nat) (v1 : Int32) (v2 : Int32) (v4 : Int32) (s0 : Int32) (S : bS) : Prop := wb_X6_manyAt_52 post rec5 v0 v1 v2 v4 (0 : Int32) s0 S
def wb_X6_manyAt_5 (post : Int32 → bS → Prop) : Nat → Nat → Int32 → Int32 → Int32 → Int32 → bS → Prop
  | 0, _, _, _, _, _, _ => False
  | n + 1, v0, v1, v2, v3, v4, S => gK S v0 = 8 ∧ (((gV S 8 v0 14) ≤ v4 → post v3 S) ∧ (¬ ((gV S 8 v0 14) ≤ v4) → ∃ b2, gQ S 8 v0 13 = some b2 ∧ (gK S b2 = 9 ∧ (vp_in v4 (gN S b2) ∧ (wp_X6_get (fun r6 S7 => (r6 ≠ v1 → wb_X6_manyAt_51 post (wb_X6_manyAt_5 post n) v0 v1 v2 v4 v3 S7) ∧ (r6 = v1 → gK S7 v0 = 8 ∧ (∃ b9, gQ S7 8 v0 13 = some b9 ∧ (gK S7 b9 = 9 ∧ (vp_in v4 (gN S7 b9) ∧ (wp_X6_get (fun r13 S14 => (r13 ≠ v2 → wb_X6_manyAt_51 post (wb_X6_manyAt_5 post n) v0 v1 v2 v4 v3 S14) ∧ (r13 = v2 → wb_X6_manyAt_52 post (wb_X6_manyAt_5 post n) v0 v1 v2 v4 (1 : Int32) v3 S14)) v0 (gV S7 9 b9 (Int32.toNatClampNeg v4)) (1 : Int32) S7)))))) v0 (gV S 9 b2 (Int32.toNatClampNeg v4)) (0 : Int32) S)))))
def wp_X6_manyAt (post : Int32 → bS → Prop) (this : Nat) (p1 : Int32) (p2 : Int32) (S : bS) : Prop := ∃ n5, wb_X6_manyAt_5 post n5 this p1 p2 (0 : Int32) (0 : Int32) S
set_option maxHeartbeats 4000000 in
set_option maxRecDepth 100000 in
theorem m_X6_manyAt {l : Launch} {D : va_G} {y : Nat → ClassId} {z : Nat} {A : Nat → Prop} {S : bS} {post : Int32 → bS → Prop} {this : Nat} {p1 : Int32} {p2 : Int32} (h : wp_X6_manyAt post this p1 p2 S) : Met l yX6_manyAt wsX6_manyAt ({ frames := 1, cells := 0, slots := 0, locals := 22 } : Room) (va_Pc ([Value.ref this, Value.int p1, Value.int p2] : List Value) (bP D y z S A)) (va_Qi post (fun S' t => wd D y z S' A t.heap) A) 0 0 A := by
  refine Met.ofW (cc := cX6_manyAt) (maxL := 5) (ret := (some .int)) (by decide) rfl ?_
  intro p e s m args below meth c s₁ B hml hv
  obtain ⟨rfl, hB⟩ := hv
  have hx := B.exec
  have hb := B.bytes
  have hr := B.returns
  have hts := atoms_spec (ws := wsX6_manyAt) B.pre
  have hown : s.vm.findClass RX6 = some m.cls := findClass_of_methodNamed B.named
  have hlocks := B.notSynchronized
  have hw : wd D y z S A s.heap := hB.1
  have hK : va_K D bCl (bT y) s := hB.2.1
  have hNw := hB.2.2.1
  have hAn : ∀ q : Nat, s.heap.size ≤ q → A q := hB.2.2.2.1
  have hAz : ¬ A z := hB.2.2.2.2.1
  have hO := hB.2.2.2.2.2.1
  have hS : va_S A s.heap s.heap [] := va_S.rf
  have hiX6 : ∀ w ∈ u_ws RX6 TX6 17, w ∈ wsX6_manyAt := by decide +kernel
  have hl := lv_entry ([Value.ref this, Value.int p1, Value.int p2] : List Value) (n := 5) (Nat.le_of_ble_eq_true rfl)
  rw [lg_entry_eq]
  generalize (lg_sl ([Value.ref this, Value.int p1, Value.int p2] : List Value) ++ List.replicate (5 - (lg_sl ([Value.ref this, Value.int p1, Value.int p2] : List Value)).length) Slot.unset).toArray = ls at hl ⊢
  have hl : lv_has ls 5 [(0, .ref this), (1, .int p1), (2, .int p2)] := hl
  obtain ⟨Q, hQ⟩ : ∃ Q, Q = MQ below (va_Qi post (fun S' t => wd D y z S' A t.heap) A) (([Value.ref this, Value.int p1, Value.int p2] : List Value).toArray) s 0 0 A := ⟨_, rfl⟩
  rw [← hQ]
  generalize hR : (headSpec wsX6_manyAt ({ frames := 1, cells := 0, slots := 0, locals := 22 } : Room)).room = R
  have hRf : 1 ≤ R.frames := by rw [← hR]; exact Nat.le_refl _
  have hRl : 22 ≤ R.locals := by rw [← hR]; exact Nat.le_refl _
  have hret : ∀ (v : Int32) (S : bS) (H : Heap) (locs : List Loc) (pc : Nat) (ls : Array Slot) , post v S → wd D y z S A H → va_S A s.heap H locs → decode cX6_manyAt pc = .ok (.ireturn, 1) → W p l e R s m (([Value.ref this, Value.int p1, Value.int p2] : List Value).toArray) below meth c H locs 0 0 Q (F0 m pc ls [.int v]) := by
    intro v S H locs pc ls h hw hS d0
    rw [hQ]; exact W.iret hx hb hr (fun t ht hW => ⟨⟨v, S, rfl, h, by show wd D y z S A t.heap; rw [ht]; exact hw⟩, hS.F ht⟩) hS.2.2 d0 hlocks
  have hB5 : ∀ (n5 : Nat) (S : bS) (H : Heap) (locs : List Loc) (ls : Array Slot) (v0 : Nat) (v1 : Int32) (v2 : Int32) (v3 : Int32) (v4 : Int32), wb_X6_manyAt_5 post n5 v0 v1 v2 v3 v4 S → wd D y z S A H → va_S A s.heap H locs → lv_has ls 5 [(0, .ref v0), (1, .int v1), (2, .int v2), (3, .int v3), (4, .int v4)] → W p l e R s m (([Value.ref this, Value.int p1, Value.int p2] : List Value).toArray) below meth c H locs 0 0 Q (F0 m 5 ls []) := by
    intro n5
    induction n5 with
    | zero =>
      intro S H locs ls v0 v1 v2 v3 v4 h hw hS hl
      exact absurd h (by unfold wb_X6_manyAt_5; exact id)
    | succ n5 ih5 =>
      have hB52 : ∀ (S : bS) (H : Heap) (locs : List Loc) (ls : Array Slot) (v0 : Nat) (v1 : Int32) (v2 : Int32) (v4 : Int32) (s0 : Int32) (s1 : Int32), wb_X6_manyAt_52 post (wb_X6_manyAt_5 post n5) v0 v1 v2 v4 s0 s1 S → wd D y z S A H → va_S A s.heap H locs → lv_has ls 5 [(0, .ref v0), (1, .int v1), (2, .int v2), (4, .int v4)] → W p l e R s m (([Value.ref this, Value.int p1, Value.int p2] : List Value).toArray) below meth c H locs 0 0 Q (F0 m 52 ls [.int s0, .int s1]) := by
        intro S H locs ls v0 v1 v2 v4 s0 s1 h hw hS hl
        unfold wb_X6_manyAt_52 at h
        refine lv_iadd hx hb dX6_manyAt_52 ?_
        refine lv_istore_n hx hb dX6_manyAt_53 rfl hl (by decide) rfl (fun ls hl => ?_)
        have hl : lv_has ls 5 [(3, .int (s1 + s0)), (0, .ref v0), (1, .int v1), (2, .int v2), (4, .int v4)] := hl
        refine lv_iinc (v := (v4 + (1 : Int32))) hx hb dX6_manyAt_54 hl (k := 4) rfl rfl (by decide) rfl (fun ls hl => ?_)
        have hl : lv_has ls 5 [(4, .int (v4 + (1 : Int32))), (3, .int (s1 + s0)), (0, .ref v0), (1, .int v1), (2, .int v2)] := hl
        refine lv_goto (tgt := 5) hx hb dX6_manyAt_57 (by decide) ?_
        exact ih5 _ _ _ _ _ _ _ _ _ h hw hS (lv_sub hl [2, 3, 4, 1, 0] rfl)
      have hB51 : ∀ (S : bS) (H : Heap) (locs : List Loc) (ls : Array Slot) (v0 : Nat) (v1 : Int32) (v2 : Int32) (v4 : Int32) (s0 : Int32), wb_X6_manyAt_51 post (wb_X6_manyAt_5 post n5) v0 v1 v2 v4 s0 S → wd D y z S A H → va_S A s.heap H locs → lv_has ls 5 [(0, .ref v0), (1, .int v1), (2, .int v2), (4, .int v4)] → W p l e R s m (([Value.ref this, Value.int p1, Value.int p2] : List Value).toArray) below meth c H locs 0 0 Q (F0 m 51 ls [.int s0]) := by
        intro S H locs ls v0 v1 v2 v4 s0 h hw hS hl
        unfold wb_X6_manyAt_51 at h
        refine lv_iconst (v := (0 : Int32)) hx hb dX6_manyAt_51 (by decide) ?_
        exact hB52 _ _ _ _ _ _ _ _ _ _ h hw hS (lv_sub hl [0, 1, 2, 3] rfl)
      intro S H locs ls v0 v1 v2 v3 v4 h hw hS hl
      unfold wb_X6_manyAt_5 at h
      refine lv_iload hx hb dX6_manyAt_5 (lv_at hl 4 rfl) ?_
      refine lv_aload_n hx hb dX6_manyAt_7 rfl (lv_at hl 0 rfl) ?_
      obtain ⟨hk1, h⟩ := h
      refine r_get (ci := 7) (v := .int (gV S 8 v0 14)) (C := RX6) (T := TX6) (N := 17) hx hb hts hiX6 hown hK hw (ce_8 (S := S) hk1) rfl 14 (by decide) (hts (.fieldLink RX6 76 "TubePostModel" "actives" "I") (by decide +kernel)) (fun _ h9 => h9) rfl dX6_manyAt_8 ?_
      refine lv_icmp_ge (tgt := 60) hx hb dX6_manyAt_11 (by decide) (fun hc => ?_) (fun hc => ?_)
      · have h := h.1 hc
        refine lv_iload_n hx hb dX6_manyAt_60 rfl (lv_at hl 3 rfl) ?_
        exact hret v3 _ _ _ _ _ h hw hS dX6_manyAt_61
      · have h := h.2 hc
        refine lv_iload_n hx hb dX6_manyAt_14 rfl (lv_at hl 3 rfl) ?_
        refine lv_aload_n hx hb dX6_manyAt_15 rfl (lv_at hl 0 rfl) ?_
        refine lv_aload_n hx hb dX6_manyAt_16 rfl (lv_at hl 0 rfl) ?_
        obtain ⟨b2, hb3, h⟩ := h
        refine r_get (ci := 7) (v := .ref b2) (C := RX6) (T := TX6) (N := 17) hx hb hts hiX6 hown hK hw (ce_8 (S := S) hk1) rfl 13 (by decide) (hts (.fieldLink RX6 22 "TubePostModel" "active" "[I") (by decide +kernel)) (fun _ h9 => h9) (congrArg (fun q => some (va_rf q)) hb3) dX6_manyAt_17 ?_
        refine lv_iload hx hb dX6_manyAt_20 (lv_at hl 4 rfl) ?_
        obtain ⟨hk4, h⟩ := h
        obtain ⟨hin5, h⟩ := h
        refine r_iald hx hb hK hw hk4 hin5 dX6_manyAt_22 ?_
        refine lv_iconst (v := (0 : Int32)) hx hb dX6_manyAt_23 (by decide) ?_
        have h1 := h
        refine va_calli (va_runV (As := [.int (gV S 9 b2 (Int32.toNatClampNeg v4)), .int (0 : Int32)]) (rest := [.int v3]) ⟨hx, hb, hml, hown, hts⟩ (m_X6_get (l := l) h1) (cwV 2 hts gX6_manyAt_X6_get rfl rfl rfl (by decide +kernel) ⟨Nat.le_trans (Nat.le_of_ble_eq_true rfl) hRf, Nat.le_trans (Nat.le_of_ble_eq_true rfl) hRl⟩) (r_pV hB hw hS (ce_8 (S := S) hk1) rfl) rfl rfl hl.1 rfl (lv_room (Nat.le_of_ble_eq_true rfl)) dX6_manyAt_24 ⟨Nat.zero_le _, Nat.zero_le _⟩) hS (fun _ _ h => h) (fun _ h => h) (fun r6 S7 t H1 locs ht _ h hw1 _ _ hS => ?_)
        subst ht
        have hw : wd D y z S7 A t.heap := hw1
        clear hw1 h1
        refine lv_iload_n hx hb dX6_manyAt_27 rfl (lv_at hl 1 rfl) ?_
        refine lv_icmp_ne (tgt := 51) hx hb dX6_manyAt_28 (by decide) (fun hc => ?_) (fun hc => ?_)
        · have h := h.1 hc
          exact hB51 _ _ _ _ _ _ _ _ _ h hw hS (lv_sub hl [0, 1, 2, 4] rfl)
        · have h := h.2 hc
          refine lv_aload_n hx hb dX6_manyAt_31 rfl (lv_at hl 0 rfl) ?_
          refine lv_aload_n hx hb dX6_manyAt_32 rfl (lv_at hl 0 rfl) ?_
          obtain ⟨hk8, h⟩ := h
          obtain ⟨b9, hb10, h⟩ := h
          refine r_get (ci := 7) (v := .ref b9) (C := RX6) (T := TX6) (N := 17) hx hb hts hiX6 hown hK hw (ce_8 (S := S7) hk8) rfl 13 (by decide) (hts (.fieldLink RX6 22 "TubePostModel" "active" "[I") (by decide +kernel)) (fun _ h9 => h9) (congrArg (fun q => some (va_rf q)) hb10) dX6_manyAt_33 ?_
          refine lv_iload hx hb dX6_manyAt_36 (lv_at hl 4 rfl) ?_
          obtain ⟨hk11, h⟩ := h
          obtain ⟨hin12, h⟩ := h
          refine r_iald hx hb hK hw hk11 hin12 dX6_manyAt_38 ?_
          refine lv_iconst (v := (1 : Int32)) hx hb dX6_manyAt_39 (by decide) ?_
          have h1 := h
          refine va_calli (va_runV (As := [.int (gV S7 9 b9 (Int32.toNatClampNeg v4)), .int (1 : Int32)]) (rest := [.int v3]) ⟨hx, hb, hml, hown, hts⟩ (m_X6_get (l := l) h1) (cwV 2 hts gX6_manyAt_X6_get rfl rfl rfl (by decide +kernel) ⟨Nat.le_trans (Nat.le_of_ble_eq_true rfl) hRf, Nat.le_trans (Nat.le_of_ble_eq_true rfl) hRl⟩) (r_pV hB hw hS (ce_8 (S := S7) hk8) rfl) rfl rfl hl.1 rfl (lv_room (Nat.le_of_ble_eq_true rfl)) dX6_manyAt_40 ⟨Nat.zero_le _, Nat.zero_le _⟩) hS (fun _ _ h => h) (fun _ h => h) (fun r13 S14 t H1 locs ht _ h hw1 _ _ hS => ?_)
          subst ht
          have hw : wd D y z S14 A t.heap := hw1
          clear hw1 h1
          refine lv_iload_n hx hb dX6_manyAt_43 rfl (lv_at hl 2 rfl) ?_
          refine lv_icmp_ne (tgt := 51) hx hb dX6_manyAt_44 (by decide) (fun hc => ?_) (fun hc => ?_)
          · have h := h.1 hc
            exact hB51 _ _ _ _ _ _ _ _ _ h hw hS (lv_sub hl [0, 1, 2, 4] rfl)
          · have h := h.2 hc
            refine lv_iconst (v := (1 : Int32)) hx hb dX6_manyAt_47 (by decide) ?_
            refine lv_goto (tgt := 52) hx hb dX6_manyAt_48 (by decide) ?_
            exact hB52 _ _ _ _ _ _ _ _ _ _ h hw hS (lv_sub hl [0, 1, 2, 4] rfl)
  unfold wp_X6_manyAt at h
  refine lv_iconst (v := (0 : Int32)) hx hb dX6_manyAt_0 (by decide) ?_
  refine lv_istore_n hx hb dX6_manyAt_1 rfl hl (by decide) rfl (fun ls hl => ?_)
  have hl : lv_has ls 5 [(3, .int (0 : Int32)), (0, .ref this), (1, .int p1), (2, .int p2)] := hl
  refine lv_iconst (v := (0 : Int32)) hx hb dX6_manyAt_2 (by decide) ?_
  refine lv_istore hx hb dX6_manyAt_3 hl (by decide) rfl (fun ls hl => ?_)
  have hl : lv_has ls 5 [(4, .int (0 : Int32)), (3, .int (0 : Int32)), (0, .ref this), (1, .int p1), (2, .int p2)] := hl
  obtain ⟨n5, h⟩ := h
  exact hB5 n5 _ _ _ _ _ _ _ _ _ h hw hS (lv_sub hl [2, 3, 4, 1, 0] rfl)
def wp_X6_put (post : bS → Prop) (this : Nat) (p1 : Int32) (p2 : Int32) (p3 : Int32) (S : bS) : Prop := gK S this = 8 ∧ (wp_X6_set (fun S3 => gK S3 this = 8 ∧ (wp_X6_set (fun S6 => gK S6 this = 8 ∧ (wp_X6_set (fun S9 => gK S9 this = 8 ∧ (wp_X6_set (fun S12 => gK S12 this = 8 ∧ (post (sV S12 8 this 8 ((gV S12 8 this 8) + (1 : Int32))))) this p1 (7 : Int32) (gV S9 8 this 8) S9)) this p1 (5 : Int32) (gV S6 8 this 1) S6)) this p1 (1 : Int32) p3 S3)) this p1 (0 : Int32) p2 S)
set_option maxHeartbeats 4000000 in
set_option maxRecDepth 100000 in
theorem m_X6_put {l : Launch} {D : va_G} {y : Nat → ClassId} {z : Nat} {A : Nat → Prop} {S : bS} {post : bS → Prop} {this : Nat} {p1 : Int32} {p2 : Int32} {p3 : Int32} (h : wp_X6_put post this p1 p2 p3 S) : Met l yX6_put wsX6_put ({ frames := 1, cells := 0, slots := 0, locals := 23 } : Room) (va_Pc ([Value.ref this, Value.int p1, Value.int p2, Value.int p3] : List Value) (bP D y z S A)) (va_Qv post (fun S' t => wd D y z S' A t.heap) A) 0 0 A := by
  refine Met.ofW (cc := cX6_put) (maxL := 4) (ret := none) (by decide) rfl ?_
  intro p e s m args below meth c s₁ B hml hv
  obtain ⟨rfl, hB⟩ := hv
  have hx := B.exec
  have hb := B.bytes
  have hr := B.returns
  have hts := atoms_spec (ws := wsX6_put) B.pre
  have hown : s.vm.findClass RX6 = some m.cls := findClass_of_methodNamed B.named
  have hlocks := B.notSynchronized
  have hw : wd D y z S A s.heap := hB.1
  have hK : va_K D bCl (bT y) s := hB.2.1
  have hNw := hB.2.2.1
  have hAn : ∀ q : Nat, s.heap.size ≤ q → A q := hB.2.2.2.1
  have hAz : ¬ A z := hB.2.2.2.2.1
  have hO := hB.2.2.2.2.2.1
  have hS : va_S A s.heap s.heap [] := va_S.rf
  have hiX6 : ∀ w ∈ u_ws RX6 TX6 17, w ∈ wsX6_put := by decide +kernel
  have hl := lv_entry ([Value.ref this, Value.int p1, Value.int p2, Value.int p3] : List Value) (n := 4) (Nat.le_of_ble_eq_true rfl)
  rw [lg_entry_eq]
  generalize (lg_sl ([Value.ref this, Value.int p1, Value.int p2, Value.int p3] : List Value) ++ List.replicate (4 - (lg_sl ([Value.ref this, Value.int p1, Value.int p2, Value.int p3] : List Value)).length) Slot.unset).toArray = ls at hl ⊢
  have hl : lv_has ls 4 [(0, .ref this), (1, .int p1), (2, .int p2), (3, .int p3)] := hl
  obtain ⟨Q, hQ⟩ : ∃ Q, Q = MQ below (va_Qv post (fun S' t => wd D y z S' A t.heap) A) (([Value.ref this, Value.int p1, Value.int p2, Value.int p3] : List Value).toArray) s 0 0 A := ⟨_, rfl⟩
  rw [← hQ]
  generalize hR : (headSpec wsX6_put ({ frames := 1, cells := 0, slots := 0, locals := 23 } : Room)).room = R
  have hRf : 1 ≤ R.frames := by rw [← hR]; exact Nat.le_refl _
  have hRl : 23 ≤ R.locals := by rw [← hR]; exact Nat.le_refl _
  have hret : ∀ (S : bS) (H : Heap) (locs : List Loc) (pc : Nat) (ls : Array Slot) , post S → wd D y z S A H → va_S A s.heap H locs → decode cX6_put pc = .ok (.return_, 1) → W p l e R s m (([Value.ref this, Value.int p1, Value.int p2, Value.int p3] : List Value).toArray) below meth c H locs 0 0 Q (F0 m pc ls []) := by
    intro S H locs pc ls h hw hS d0
    rw [hQ]; exact W.vret hx hb hr (fun t ht hW => ⟨⟨S, rfl, h, by show wd D y z S A t.heap; rw [ht]; exact hw⟩, hS.F ht⟩) hS.2.2 d0 hlocks
  unfold wp_X6_put at h
  refine lv_aload_n hx hb dX6_put_0 rfl (lv_at hl 0 rfl) ?_
  refine lv_iload_n hx hb dX6_put_1 rfl (lv_at hl 1 rfl) ?_
  refine lv_iconst (v := (0 : Int32)) hx hb dX6_put_2 (by decide) ?_
  refine lv_iload_n hx hb dX6_put_3 rfl (lv_at hl 2 rfl) ?_
  obtain ⟨hk1, h⟩ := h
  have h1 := h
  refine va_callv (va_runV (As := [.int p1, .int (0 : Int32), .int p2]) (rest := []) ⟨hx, hb, hml, hown, hts⟩ (m_X6_set (l := l) h1) (cwV 3 hts gX6_put_X6_set rfl rfl rfl (by decide +kernel) ⟨Nat.le_trans (Nat.le_of_ble_eq_true rfl) hRf, Nat.le_trans (Nat.le_of_ble_eq_true rfl) hRl⟩) (r_pV hB hw hS (ce_8 (S := S) hk1) rfl) rfl rfl hl.1 rfl (lv_room (Nat.le_of_ble_eq_true rfl)) dX6_put_4 ⟨Nat.zero_le _, Nat.zero_le _⟩) hS (fun _ _ h => h) (fun _ h => h) (fun S3 t H1 locs ht _ h hw1 _ _ hS => ?_)
  subst ht
  have hw : wd D y z S3 A t.heap := hw1
  clear hw1 h1
  refine lv_aload_n hx hb dX6_put_7 rfl (lv_at hl 0 rfl) ?_
  refine lv_iload_n hx hb dX6_put_8 rfl (lv_at hl 1 rfl) ?_
  refine lv_iconst (v := (1 : Int32)) hx hb dX6_put_9 (by decide) ?_
  refine lv_iload_n hx hb dX6_put_10 rfl (lv_at hl 3 rfl) ?_
  obtain ⟨hk4, h⟩ := h
  have h1 := h
  refine va_callv (va_runV (As := [.int p1, .int (1 : Int32), .int p3]) (rest := []) ⟨hx, hb, hml, hown, hts⟩ (m_X6_set (l := l) h1) (cwV 3 hts gX6_put_X6_set rfl rfl rfl (by decide +kernel) ⟨Nat.le_trans (Nat.le_of_ble_eq_true rfl) hRf, Nat.le_trans (Nat.le_of_ble_eq_true rfl) hRl⟩) (r_pV hB hw hS (ce_8 (S := S3) hk4) rfl) rfl rfl hl.1 rfl (lv_room (Nat.le_of_ble_eq_true rfl)) dX6_put_11 ⟨Nat.zero_le _, Nat.zero_le _⟩) hS (fun _ _ h => h) (fun _ h => h) (fun S6 t H1 locs ht _ h hw1 _ _ hS => ?_)
  subst ht
  have hw : wd D y z S6 A t.heap := hw1
  clear hw1 h1
  refine lv_aload_n hx hb dX6_put_14 rfl (lv_at hl 0 rfl) ?_
  refine lv_iload_n hx hb dX6_put_15 rfl (lv_at hl 1 rfl) ?_
  refine lv_iconst (v := (5 : Int32)) hx hb dX6_put_16 (by decide) ?_
  refine lv_aload_n hx hb dX6_put_17 rfl (lv_at hl 0 rfl) ?_
  obtain ⟨hk7, h⟩ := h
  refine r_get (ci := 7) (v := .int (gV S6 8 this 1)) (C := RX6) (T := TX6) (N := 17) hx hb hts hiX6 hown hK hw (ce_8 (S := S6) hk7) rfl 1 (by decide) (hts (.fieldLink RX6 69 "TubePostModel" "tick" "I") (by decide +kernel)) (fun _ h9 => h9) rfl dX6_put_18 ?_
  have h1 := h
  refine va_callv (va_runV (As := [.int p1, .int (5 : Int32), .int (gV S6 8 this 1)]) (rest := []) ⟨hx, hb, hml, hown, hts⟩ (m_X6_set (l := l) h1) (cwV 3 hts gX6_put_X6_set rfl rfl rfl (by decide +kernel) ⟨Nat.le_trans (Nat.le_of_ble_eq_true rfl) hRf, Nat.le_trans (Nat.le_of_ble_eq_true rfl) hRl⟩) (r_pV hB hw hS (ce_8 (S := S6) hk7) rfl) rfl rfl hl.1 rfl (lv_room (Nat.le_of_ble_eq_true rfl)) dX6_put_21 ⟨Nat.zero_le _, Nat.zero_le _⟩) hS (fun _ _ h => h) (fun _ h => h) (fun S9 t H1 locs ht _ h hw1 _ _ hS => ?_)
  subst ht
  have hw : wd D y z S9 A t.heap := hw1
  clear hw1 h1
  refine lv_aload_n hx hb dX6_put_24 rfl (lv_at hl 0 rfl) ?_
  refine lv_iload_n hx hb dX6_put_25 rfl (lv_at hl 1 rfl) ?_
  refine lv_bipush (v := (7 : Int32)) hx hb dX6_put_26 (by decide) ?_
  refine lv_aload_n hx hb dX6_put_28 rfl (lv_at hl 0 rfl) ?_
  obtain ⟨hk10, h⟩ := h
  refine r_get (ci := 7) (v := .int (gV S9 8 this 8)) (C := RX6) (T := TX6) (N := 17) hx hb hts hiX6 hown hK hw (ce_8 (S := S9) hk10) rfl 8 (by decide) (hts (.fieldLink RX6 86 "TubePostModel" "steps" "I") (by decide +kernel)) (fun _ h9 => h9) rfl dX6_put_29 ?_
  have h1 := h
  refine va_callv (va_runV (As := [.int p1, .int (7 : Int32), .int (gV S9 8 this 8)]) (rest := []) ⟨hx, hb, hml, hown, hts⟩ (m_X6_set (l := l) h1) (cwV 3 hts gX6_put_X6_set rfl rfl rfl (by decide +kernel) ⟨Nat.le_trans (Nat.le_of_ble_eq_true rfl) hRf, Nat.le_trans (Nat.le_of_ble_eq_true rfl) hRl⟩) (r_pV hB hw hS (ce_8 (S := S9) hk10) rfl) rfl rfl hl.1 rfl (lv_room (Nat.le_of_ble_eq_true rfl)) dX6_put_32 ⟨Nat.zero_le _, Nat.zero_le _⟩) hS (fun _ _ h => h) (fun _ h => h) (fun S12 t H1 locs ht _ h hw1 _ _ hS => ?_)
  subst ht
  have hw : wd D y z S12 A t.heap := hw1
  clear hw1 h1
  refine lv_aload_n hx hb dX6_put_35 rfl (lv_at hl 0 rfl) ?_
  refine lv_dup hx hb dX6_put_36 rfl ?_
  obtain ⟨hk13, h⟩ := h
  refine r_get (ci := 7) (v := .int (gV S12 8 this 8)) (C := RX6) (T := TX6) (N := 17) hx hb hts hiX6 hown hK hw (ce_8 (S := S12) hk13) rfl 8 (by decide) (hts (.fieldLink RX6 86 "TubePostModel" "steps" "I") (by decide +kernel)) (fun _ h9 => h9) rfl dX6_put_37 ?_
  refine lv_iconst (v := (1 : Int32)) hx hb dX6_put_40 (by decide) ?_
  refine lv_iadd hx hb dX6_put_41 ?_
  refine r_putI (κ := 8) (ci := 7) (C := RX6) (T := TX6) (N := 17) (ty := .int) (x := ((gV S12 8 this 8) + (1 : Int32))) hx hb hts hiX6 tyX6 tyX6_ok nmX6 hown hK hw hS (ce_8 (S := S12) hk13) rfl 8 (by decide) (hts (.fieldLink RX6 86 "TubePostModel" "steps" "I") (by decide +kernel)) (fun _ h9 => h9) rfl (by decide +kernel) rfl rfl (Nat.le_of_ble_eq_true rfl) (pu_8_8 (S := S12) hk13) dX6_put_42 (fun H locs hw hS => ?_)
  exact hret _ _ _ _ _ h hw hS dX6_put_45
def wb_X6_canSend_39 (post : Int32 → bS → Prop) (s0 : Int32) (S : bS) : Prop := (s0 = 0 ∨ s0 = 1) ∧ post s0 S
def wb_X6_canSend_38 (post : Int32 → bS → Prop) (S : bS) : Prop := wb_X6_canSend_39 post (0 : Int32) S
def wp_X6_canSend (post : Int32 → bS → Prop) (this : Nat) (p1 : Int32) (S : bS) : Prop := gK S this = 8 ∧ (wp_X6_manyAt (fun r2 S3 => gK S3 this = 8 ∧ (wp_X6_st (fun r5 S6 => (r5 ≤ r2 → wb_X6_canSend_38 post S6) ∧ (¬ (r5 ≤ r2) → gK S6 this = 8 ∧ (((40 : Int32) ≤ (gV S6 8 this 14) → wb_X6_canSend_38 post S6) ∧ (¬ ((40 : Int32) ≤ (gV S6 8 this 14)) → ((500 : Int32) ≤ (gV S6 8 this 5) → wb_X6_canSend_38 post S6) ∧ (¬ ((500 : Int32) ≤ (gV S6 8 this 5)) → wb_X6_canSend_39 post (1 : Int32) S6))))) this p1 (0 : Int32) S3)) this (1 : Int32) p1 S)
set_option maxHeartbeats 4000000 in
set_option maxRecDepth 100000 in
theorem m_X6_canSend {l : Launch} {D : va_G} {y : Nat → ClassId} {z : Nat} {A : Nat → Prop} {S : bS} {post : Int32 → bS → Prop} {this : Nat} {p1 : Int32} (h : wp_X6_canSend post this p1 S) : Met l yX6_canSend wsX6_canSend ({ frames := 2, cells := 0, slots := 0, locals := 46 } : Room) (va_Pc ([Value.ref this, Value.int p1] : List Value) (bP D y z S A)) (va_Qi post (fun S' t => wd D y z S' A t.heap) A) 0 0 A := by
  refine Met.ofW (cc := cX6_canSend) (maxL := 2) (ret := (some .boolean)) (by decide) rfl ?_
  intro p e s m args below meth c s₁ B hml hv
  obtain ⟨rfl, hB⟩ := hv
  have hx := B.exec
  have hb := B.bytes
  have hr := B.returns
  have hts := atoms_spec (ws := wsX6_canSend) B.pre
  have hown : s.vm.findClass RX6 = some m.cls := findClass_of_methodNamed B.named
  have hlocks := B.notSynchronized
  have hw : wd D y z S A s.heap := hB.1
  have hK : va_K D bCl (bT y) s := hB.2.1
  have hNw := hB.2.2.1
  have hAn : ∀ q : Nat, s.heap.size ≤ q → A q := hB.2.2.2.1
  have hAz : ¬ A z := hB.2.2.2.2.1
  have hO := hB.2.2.2.2.2.1
  have hS : va_S A s.heap s.heap [] := va_S.rf
  have hiX6 : ∀ w ∈ u_ws RX6 TX6 17, w ∈ wsX6_canSend := by decide +kernel
  have hl := lv_entry ([Value.ref this, Value.int p1] : List Value) (n := 2) (Nat.le_of_ble_eq_true rfl)
  rw [lg_entry_eq]
  generalize (lg_sl ([Value.ref this, Value.int p1] : List Value) ++ List.replicate (2 - (lg_sl ([Value.ref this, Value.int p1] : List Value)).length) Slot.unset).toArray = ls at hl ⊢
  have hl : lv_has ls 2 [(0, .ref this), (1, .int p1)] := hl
  obtain ⟨Q, hQ⟩ : ∃ Q, Q = MQ below (va_Qi post (fun S' t => wd D y z S' A t.heap) A) (([Value.ref this, Value.int p1] : List Value).toArray) s 0 0 A := ⟨_, rfl⟩
  rw [← hQ]
  generalize hR : (headSpec wsX6_canSend ({ frames := 2, cells := 0, slots := 0, locals := 46 } : Room)).room = R
  have hRf : 2 ≤ R.frames := by rw [← hR]; exact Nat.le_refl _
  have hRl : 46 ≤ R.locals := by rw [← hR]; exact Nat.le_refl _
  have hret : ∀ (v : Int32) (S : bS) (H : Heap) (locs : List Loc) (pc : Nat) (ls : Array Slot) , (v = 0 ∨ v = 1) → post v S → wd D y z S A H → va_S A s.heap H locs → decode cX6_canSend pc = .ok (.ireturn, 1) → W p l e R s m (([Value.ref this, Value.int p1] : List Value).toArray) below meth c H locs 0 0 Q (F0 m pc ls [.int v]) := by
    intro v S H locs pc ls hz h hw hS d0
    rw [hQ]; exact W.zret hx hb hr (b_nz hz) (fun t ht hW => ⟨⟨v, S, rfl, h, by show wd D y z S A t.heap; rw [ht]; exact hw⟩, hS.F ht⟩) hS.2.2 d0 hlocks
  have hB39 : ∀ (S : bS) (H : Heap) (locs : List Loc) (ls : Array Slot) (s0 : Int32), wb_X6_canSend_39 post s0 S → wd D y z S A H → va_S A s.heap H locs → lv_has ls 2 [] → W p l e R s m (([Value.ref this, Value.int p1] : List Value).toArray) below meth c H locs 0 0 Q (F0 m 39 ls [.int s0]) := by
    intro S H locs ls s0 h hw hS hl
    unfold wb_X6_canSend_39 at h
    obtain ⟨hz, h⟩ := h
    exact hret _ _ _ _ _ _ hz h hw hS dX6_canSend_39
  have hB38 : ∀ (S : bS) (H : Heap) (locs : List Loc) (ls : Array Slot) , wb_X6_canSend_38 post S → wd D y z S A H → va_S A s.heap H locs → lv_has ls 2 [] → W p l e R s m (([Value.ref this, Value.int p1] : List Value).toArray) below meth c H locs 0 0 Q (F0 m 38 ls []) := by
    intro S H locs ls  h hw hS hl
    unfold wb_X6_canSend_38 at h
    refine lv_iconst (v := (0 : Int32)) hx hb dX6_canSend_38 (by decide) ?_
    exact hB39 _ _ _ _ _ h hw hS (lv_sub hl [] rfl)
  unfold wp_X6_canSend at h
  refine lv_aload_n hx hb dX6_canSend_0 rfl (lv_at hl 0 rfl) ?_
  refine lv_iconst (v := (1 : Int32)) hx hb dX6_canSend_1 (by decide) ?_
  refine lv_iload_n hx hb dX6_canSend_2 rfl (lv_at hl 1 rfl) ?_
  obtain ⟨hk1, h⟩ := h
  have h1 := h
  refine va_calli (va_runV (As := [.int (1 : Int32), .int p1]) (rest := []) ⟨hx, hb, hml, hown, hts⟩ (m_X6_manyAt (l := l) h1) (cwV 2 hts gX6_canSend_X6_manyAt rfl rfl rfl (by decide +kernel) ⟨Nat.le_trans (Nat.le_of_ble_eq_true rfl) hRf, Nat.le_trans (Nat.le_of_ble_eq_true rfl) hRl⟩) (r_pV hB hw hS (ce_8 (S := S) hk1) rfl) rfl rfl hl.1 rfl (lv_room (Nat.le_of_ble_eq_true rfl)) dX6_canSend_3 ⟨Nat.zero_le _, Nat.zero_le _⟩) hS (fun _ _ h => h) (fun _ h => h) (fun r2 S3 t H1 locs ht _ h hw1 _ _ hS => ?_)
  subst ht
  have hw : wd D y z S3 A t.heap := hw1
  clear hw1 h1
  refine lv_aload_n hx hb dX6_canSend_6 rfl (lv_at hl 0 rfl) ?_
  refine lv_iload_n hx hb dX6_canSend_7 rfl (lv_at hl 1 rfl) ?_
  refine lv_iconst (v := (0 : Int32)) hx hb dX6_canSend_8 (by decide) ?_
  obtain ⟨hk4, h⟩ := h
  have h1 := h
  refine va_calli (va_runV (As := [.int p1, .int (0 : Int32)]) (rest := [.int r2]) ⟨hx, hb, hml, hown, hts⟩ (m_X6_st (l := l) h1) (cwV 2 hts gX6_canSend_X6_st rfl rfl rfl (by decide +kernel) ⟨Nat.le_trans (Nat.le_of_ble_eq_true rfl) hRf, Nat.le_trans (Nat.le_of_ble_eq_true rfl) hRl⟩) (r_pV hB hw hS (ce_8 (S := S3) hk4) rfl) rfl rfl hl.1 rfl (lv_room (Nat.le_of_ble_eq_true rfl)) dX6_canSend_9 ⟨Nat.zero_le _, Nat.zero_le _⟩) hS (fun _ _ h => h) (fun _ h => h) (fun r5 S6 t H1 locs ht _ h hw1 _ _ hS => ?_)
  subst ht
  have hw : wd D y z S6 A t.heap := hw1
  clear hw1 h1
  refine lv_icmp_ge (tgt := 38) hx hb dX6_canSend_12 (by decide) (fun hc => ?_) (fun hc => ?_)
  · have h := h.1 hc
    exact hB38 _ _ _ _ h hw hS (lv_sub hl [] rfl)
  · have h := h.2 hc
    refine lv_aload_n hx hb dX6_canSend_15 rfl (lv_at hl 0 rfl) ?_
    obtain ⟨hk7, h⟩ := h
    refine r_get (ci := 7) (v := .int (gV S6 8 this 14)) (C := RX6) (T := TX6) (N := 17) hx hb hts hiX6 hown hK hw (ce_8 (S := S6) hk7) rfl 14 (by decide) (hts (.fieldLink RX6 76 "TubePostModel" "actives" "I") (by decide +kernel)) (fun _ h9 => h9) rfl dX6_canSend_16 ?_
    refine lv_bipush (v := (40 : Int32)) hx hb dX6_canSend_19 (by decide) ?_
    refine lv_icmp_ge (tgt := 38) hx hb dX6_canSend_21 (by decide) (fun hc => ?_) (fun hc => ?_)
    · have h := h.1 hc
      exact hB38 _ _ _ _ h hw hS (lv_sub hl [] rfl)
    · have h := h.2 hc
      refine lv_aload_n hx hb dX6_canSend_24 rfl (lv_at hl 0 rfl) ?_
      refine r_get (ci := 7) (v := .int (gV S6 8 this 5)) (C := RX6) (T := TX6) (N := 17) hx hb hts hiX6 hown hK hw (ce_8 (S := S6) hk7) rfl 5 (by decide) (hts (.fieldLink RX6 92 "TubePostModel" "sent" "I") (by decide +kernel)) (fun _ h9 => h9) rfl dX6_canSend_25 ?_
      refine lv_sipush (v := (500 : Int32)) hx hb dX6_canSend_28 (by decide) ?_
      refine lv_icmp_ge (tgt := 38) hx hb dX6_canSend_31 (by decide) (fun hc => ?_) (fun hc => ?_)
      · have h := h.1 hc
        exact hB38 _ _ _ _ h hw hS (lv_sub hl [] rfl)
      · have h := h.2 hc
        refine lv_iconst (v := (1 : Int32)) hx hb dX6_canSend_34 (by decide) ?_
        refine lv_goto (tgt := 39) hx hb dX6_canSend_35 (by decide) ?_
        exact hB39 _ _ _ _ _ h hw hS (lv_sub hl [] rfl)
def wp_X6_sendOff (post : bS → Prop) (this : Nat) (p1 : Int32) (p2 : Int32) (p3 : Int32) (S : bS) : Prop := gK S this = 8 ∧ (wp_X6_set (fun S3 => gK S3 this = 8 ∧ (wp_X6_set (fun S6 => gK S6 this = 8 ∧ (wp_X6_set (fun S9 => gK S9 this = 8 ∧ (wp_X6_set (fun S12 => gK S12 this = 8 ∧ (wp_X6_put (fun S15 => gK S15 this = 8 ∧ (∃ b17, gQ S15 8 this 13 = some b17 ∧ (gK S15 b17 = 9 ∧ (vp_in (gV S15 8 this 14) (gN S15 b17) ∧ (post (sV (sV S15 9 b17 (Int32.toNatClampNeg (gV S15 8 this 14)) (gV S 8 this 5)) 8 this 14 ((gV (sV S15 9 b17 (Int32.toNatClampNeg (gV S15 8 this 14)) (gV S 8 this 5)) 8 this 14) + (1 : Int32)))))))) this (gV S 8 this 5) (1 : Int32) p1 S12)) this (gV S 8 this 5) (6 : Int32) (0 : Int32) S9)) this (gV S 8 this 5) (4 : Int32) (gV S6 8 this 1) S6)) this (gV S 8 this 5) (3 : Int32) p3 S3)) this (gV S 8 this 5) (2 : Int32) p2 (sV S 8 this 5 ((gV S 8 this 5) + (1 : Int32))))
set_option maxHeartbeats 4000000 in
set_option maxRecDepth 100000 in
theorem m_X6_sendOff {l : Launch} {D : va_G} {y : Nat → ClassId} {z : Nat} {A : Nat → Prop} {S : bS} {post : bS → Prop} {this : Nat} {p1 : Int32} {p2 : Int32} {p3 : Int32} (h : wp_X6_sendOff post this p1 p2 p3 S) : Met l yX6_sendOff wsX6_sendOff ({ frames := 2, cells := 0, slots := 0, locals := 46 } : Room) (va_Pc ([Value.ref this, Value.int p1, Value.int p2, Value.int p3] : List Value) (bP D y z S A)) (va_Qv post (fun S' t => wd D y z S' A t.heap) A) 0 0 A := by
  refine Met.ofW (cc := cX6_sendOff) (maxL := 5) (ret := none) (by decide) rfl ?_
  intro p e s m args below meth c s₁ B hml hv
  obtain ⟨rfl, hB⟩ := hv
  have hx := B.exec
  have hb := B.bytes
  have hr := B.returns
  have hts := atoms_spec (ws := wsX6_sendOff) B.pre
  have hown : s.vm.findClass RX6 = some m.cls := findClass_of_methodNamed B.named
  have hlocks := B.notSynchronized
  have hw : wd D y z S A s.heap := hB.1
  have hK : va_K D bCl (bT y) s := hB.2.1
  have hNw := hB.2.2.1
  have hAn : ∀ q : Nat, s.heap.size ≤ q → A q := hB.2.2.2.1
  have hAz : ¬ A z := hB.2.2.2.2.1
  have hO := hB.2.2.2.2.2.1
  have hS : va_S A s.heap s.heap [] := va_S.rf
  have hiX6 : ∀ w ∈ u_ws RX6 TX6 17, w ∈ wsX6_sendOff := by decide +kernel
  have hl := lv_entry ([Value.ref this, Value.int p1, Value.int p2, Value.int p3] : List Value) (n := 5) (Nat.le_of_ble_eq_true rfl)
  rw [lg_entry_eq]
  generalize (lg_sl ([Value.ref this, Value.int p1, Value.int p2, Value.int p3] : List Value) ++ List.replicate (5 - (lg_sl ([Value.ref this, Value.int p1, Value.int p2, Value.int p3] : List Value)).length) Slot.unset).toArray = ls at hl ⊢
  have hl : lv_has ls 5 [(0, .ref this), (1, .int p1), (2, .int p2), (3, .int p3)] := hl
  obtain ⟨Q, hQ⟩ : ∃ Q, Q = MQ below (va_Qv post (fun S' t => wd D y z S' A t.heap) A) (([Value.ref this, Value.int p1, Value.int p2, Value.int p3] : List Value).toArray) s 0 0 A := ⟨_, rfl⟩
  rw [← hQ]
  generalize hR : (headSpec wsX6_sendOff ({ frames := 2, cells := 0, slots := 0, locals := 46 } : Room)).room = R
  have hRf : 2 ≤ R.frames := by rw [← hR]; exact Nat.le_refl _
  have hRl : 46 ≤ R.locals := by rw [← hR]; exact Nat.le_refl _
  have hret : ∀ (S : bS) (H : Heap) (locs : List Loc) (pc : Nat) (ls : Array Slot) , post S → wd D y z S A H → va_S A s.heap H locs → decode cX6_sendOff pc = .ok (.return_, 1) → W p l e R s m (([Value.ref this, Value.int p1, Value.int p2, Value.int p3] : List Value).toArray) below meth c H locs 0 0 Q (F0 m pc ls []) := by
    intro S H locs pc ls h hw hS d0
    rw [hQ]; exact W.vret hx hb hr (fun t ht hW => ⟨⟨S, rfl, h, by show wd D y z S A t.heap; rw [ht]; exact hw⟩, hS.F ht⟩) hS.2.2 d0 hlocks
  unfold wp_X6_sendOff at h
  refine lv_aload_n hx hb dX6_sendOff_0 rfl (lv_at hl 0 rfl) ?_
  obtain ⟨hk1, h⟩ := h
  refine r_get (ci := 7) (v := .int (gV S 8 this 5)) (C := RX6) (T := TX6) (N := 17) hx hb hts hiX6 hown hK hw (ce_8 (S := S) hk1) rfl 5 (by decide) (hts (.fieldLink RX6 92 "TubePostModel" "sent" "I") (by decide +kernel)) (fun _ h9 => h9) rfl dX6_sendOff_1 ?_
  refine lv_istore hx hb dX6_sendOff_4 hl (by decide) rfl (fun ls hl => ?_)
  have hl : lv_has ls 5 [(4, .int (gV S 8 this 5)), (0, .ref this), (1, .int p1), (2, .int p2), (3, .int p3)] := hl
  refine lv_aload_n hx hb dX6_sendOff_6 rfl (lv_at hl 1 rfl) ?_
  refine lv_dup hx hb dX6_sendOff_7 rfl ?_
  refine r_get (ci := 7) (v := .int (gV S 8 this 5)) (C := RX6) (T := TX6) (N := 17) hx hb hts hiX6 hown hK hw (ce_8 (S := S) hk1) rfl 5 (by decide) (hts (.fieldLink RX6 92 "TubePostModel" "sent" "I") (by decide +kernel)) (fun _ h9 => h9) rfl dX6_sendOff_8 ?_
  refine lv_iconst (v := (1 : Int32)) hx hb dX6_sendOff_11 (by decide) ?_
  refine lv_iadd hx hb dX6_sendOff_12 ?_
  refine r_putI (κ := 8) (ci := 7) (C := RX6) (T := TX6) (N := 17) (ty := .int) (x := ((gV S 8 this 5) + (1 : Int32))) hx hb hts hiX6 tyX6 tyX6_ok nmX6 hown hK hw hS (ce_8 (S := S) hk1) rfl 5 (by decide) (hts (.fieldLink RX6 92 "TubePostModel" "sent" "I") (by decide +kernel)) (fun _ h9 => h9) rfl (by decide +kernel) rfl rfl (Nat.le_of_ble_eq_true rfl) (pu_8_5 (S := S) hk1) dX6_sendOff_13 (fun H locs hw hS => ?_)
  refine lv_aload_n hx hb dX6_sendOff_16 rfl (lv_at hl 1 rfl) ?_
  refine lv_iload hx hb dX6_sendOff_17 (lv_at hl 0 rfl) ?_
  refine lv_iconst (v := (2 : Int32)) hx hb dX6_sendOff_19 (by decide) ?_
  refine lv_iload_n hx hb dX6_sendOff_20 rfl (lv_at hl 3 rfl) ?_
  have h1 := h
  refine va_callv (va_runV (As := [.int (gV S 8 this 5), .int (2 : Int32), .int p2]) (rest := []) ⟨hx, hb, hml, hown, hts⟩ (m_X6_set (l := l) h1) (cwV 3 hts gX6_sendOff_X6_set rfl rfl rfl (by decide +kernel) ⟨Nat.le_trans (Nat.le_of_ble_eq_true rfl) hRf, Nat.le_trans (Nat.le_of_ble_eq_true rfl) hRl⟩) (r_pV hB hw hS (ce_8 (S := (sV S 8 this 5 ((gV S 8 this 5) + (1 : Int32)))) hk1) rfl) rfl rfl hl.1 rfl (lv_room (Nat.le_of_ble_eq_true rfl)) dX6_sendOff_21 ⟨Nat.zero_le _, Nat.zero_le _⟩) hS (fun _ _ h => h) (fun _ h => h) (fun S3 t H1 locs ht _ h hw1 _ _ hS => ?_)
  subst ht
  have hw : wd D y z S3 A t.heap := hw1
  clear hw1 h1
  refine lv_aload_n hx hb dX6_sendOff_24 rfl (lv_at hl 1 rfl) ?_
  refine lv_iload hx hb dX6_sendOff_25 (lv_at hl 0 rfl) ?_
  refine lv_iconst (v := (3 : Int32)) hx hb dX6_sendOff_27 (by decide) ?_
  refine lv_iload_n hx hb dX6_sendOff_28 rfl (lv_at hl 4 rfl) ?_
  obtain ⟨hk4, h⟩ := h
  have h1 := h
  refine va_callv (va_runV (As := [.int (gV S 8 this 5), .int (3 : Int32), .int p3]) (rest := []) ⟨hx, hb, hml, hown, hts⟩ (m_X6_set (l := l) h1) (cwV 3 hts gX6_sendOff_X6_set rfl rfl rfl (by decide +kernel) ⟨Nat.le_trans (Nat.le_of_ble_eq_true rfl) hRf, Nat.le_trans (Nat.le_of_ble_eq_true rfl) hRl⟩) (r_pV hB hw hS (ce_8 (S := S3) hk4) rfl) rfl rfl hl.1 rfl (lv_room (Nat.le_of_ble_eq_true rfl)) dX6_sendOff_29 ⟨Nat.zero_le _, Nat.zero_le _⟩) hS (fun _ _ h => h) (fun _ h => h) (fun S6 t H1 locs ht _ h hw1 _ _ hS => ?_)
  subst ht
  have hw : wd D y z S6 A t.heap := hw1
  clear hw1 h1
  refine lv_aload_n hx hb dX6_sendOff_32 rfl (lv_at hl 1 rfl) ?_
  refine lv_iload hx hb dX6_sendOff_33 (lv_at hl 0 rfl) ?_
  refine lv_iconst (v := (4 : Int32)) hx hb dX6_sendOff_35 (by decide) ?_
  refine lv_aload_n hx hb dX6_sendOff_36 rfl (lv_at hl 1 rfl) ?_
  obtain ⟨hk7, h⟩ := h
  refine r_get (ci := 7) (v := .int (gV S6 8 this 1)) (C := RX6) (T := TX6) (N := 17) hx hb hts hiX6 hown hK hw (ce_8 (S := S6) hk7) rfl 1 (by decide) (hts (.fieldLink RX6 69 "TubePostModel" "tick" "I") (by decide +kernel)) (fun _ h9 => h9) rfl dX6_sendOff_37 ?_
  have h1 := h
  refine va_callv (va_runV (As := [.int (gV S 8 this 5), .int (4 : Int32), .int (gV S6 8 this 1)]) (rest := []) ⟨hx, hb, hml, hown, hts⟩ (m_X6_set (l := l) h1) (cwV 3 hts gX6_sendOff_X6_set rfl rfl rfl (by decide +kernel) ⟨Nat.le_trans (Nat.le_of_ble_eq_true rfl) hRf, Nat.le_trans (Nat.le_of_ble_eq_true rfl) hRl⟩) (r_pV hB hw hS (ce_8 (S := S6) hk7) rfl) rfl rfl hl.1 rfl (lv_room (Nat.le_of_ble_eq_true rfl)) dX6_sendOff_40 ⟨Nat.zero_le _, Nat.zero_le _⟩) hS (fun _ _ h => h) (fun _ h => h) (fun S9 t H1 locs ht _ h hw1 _ _ hS => ?_)
  subst ht
  have hw : wd D y z S9 A t.heap := hw1
  clear hw1 h1
  refine lv_aload_n hx hb dX6_sendOff_43 rfl (lv_at hl 1 rfl) ?_
  refine lv_iload hx hb dX6_sendOff_44 (lv_at hl 0 rfl) ?_
  refine lv_bipush (v := (6 : Int32)) hx hb dX6_sendOff_46 (by decide) ?_
  refine lv_iconst (v := (0 : Int32)) hx hb dX6_sendOff_48 (by decide) ?_
  obtain ⟨hk10, h⟩ := h
  have h1 := h
  refine va_callv (va_runV (As := [.int (gV S 8 this 5), .int (6 : Int32), .int (0 : Int32)]) (rest := []) ⟨hx, hb, hml, hown, hts⟩ (m_X6_set (l := l) h1) (cwV 3 hts gX6_sendOff_X6_set rfl rfl rfl (by decide +kernel) ⟨Nat.le_trans (Nat.le_of_ble_eq_true rfl) hRf, Nat.le_trans (Nat.le_of_ble_eq_true rfl) hRl⟩) (r_pV hB hw hS (ce_8 (S := S9) hk10) rfl) rfl rfl hl.1 rfl (lv_room (Nat.le_of_ble_eq_true rfl)) dX6_sendOff_49 ⟨Nat.zero_le _, Nat.zero_le _⟩) hS (fun _ _ h => h) (fun _ h => h) (fun S12 t H1 locs ht _ h hw1 _ _ hS => ?_)
  subst ht
  have hw : wd D y z S12 A t.heap := hw1
  clear hw1 h1
  refine lv_aload_n hx hb dX6_sendOff_52 rfl (lv_at hl 1 rfl) ?_
  refine lv_iload hx hb dX6_sendOff_53 (lv_at hl 0 rfl) ?_
  refine lv_iconst (v := (1 : Int32)) hx hb dX6_sendOff_55 (by decide) ?_
  refine lv_iload_n hx hb dX6_sendOff_56 rfl (lv_at hl 2 rfl) ?_
  obtain ⟨hk13, h⟩ := h
  have h1 := h
  refine va_callv (va_runV (As := [.int (gV S 8 this 5), .int (1 : Int32), .int p1]) (rest := []) ⟨hx, hb, hml, hown, hts⟩ (m_X6_put (l := l) h1) (cwV 3 hts gX6_sendOff_X6_put rfl rfl rfl (by decide +kernel) ⟨Nat.le_trans (Nat.le_of_ble_eq_true rfl) hRf, Nat.le_trans (Nat.le_of_ble_eq_true rfl) hRl⟩) (r_pV hB hw hS (ce_8 (S := S12) hk13) rfl) rfl rfl hl.1 rfl (lv_room (Nat.le_of_ble_eq_true rfl)) dX6_sendOff_57 ⟨Nat.zero_le _, Nat.zero_le _⟩) hS (fun _ _ h => h) (fun _ h => h) (fun S15 t H1 locs ht _ h hw1 _ _ hS => ?_)
  subst ht
  have hw : wd D y z S15 A t.heap := hw1
  clear hw1 h1
  refine lv_aload_n hx hb dX6_sendOff_60 rfl (lv_at hl 1 rfl) ?_
  obtain ⟨hk16, h⟩ := h
  obtain ⟨b17, hb18, h⟩ := h
  refine r_get (ci := 7) (v := .ref b17) (C := RX6) (T := TX6) (N := 17) hx hb hts hiX6 hown hK hw (ce_8 (S := S15) hk16) rfl 13 (by decide) (hts (.fieldLink RX6 22 "TubePostModel" "active" "[I") (by decide +kernel)) (fun _ h9 => h9) (congrArg (fun q => some (va_rf q)) hb18) dX6_sendOff_61 ?_
  refine lv_aload_n hx hb dX6_sendOff_64 rfl (lv_at hl 1 rfl) ?_
  refine r_get (ci := 7) (v := .int (gV S15 8 this 14)) (C := RX6) (T := TX6) (N := 17) hx hb hts hiX6 hown hK hw (ce_8 (S := S15) hk16) rfl 14 (by decide) (hts (.fieldLink RX6 76 "TubePostModel" "actives" "I") (by decide +kernel)) (fun _ h9 => h9) rfl dX6_sendOff_65 ?_
  refine lv_iload hx hb dX6_sendOff_68 (lv_at hl 0 rfl) ?_
  obtain ⟨hk19, h⟩ := h
  obtain ⟨hin20, h⟩ := h
  refine r_iast hx hb hK hw hS hk19 hin20 dX6_sendOff_70 (fun H locs hw hS => ?_)
  refine lv_aload_n hx hb dX6_sendOff_71 rfl (lv_at hl 1 rfl) ?_
  refine lv_dup hx hb dX6_sendOff_72 rfl ?_
  refine r_get (ci := 7) (v := .int (gV (sV S15 9 b17 (Int32.toNatClampNeg (gV S15 8 this 14)) (gV S 8 this 5)) 8 this 14)) (C := RX6) (T := TX6) (N := 17) hx hb hts hiX6 hown hK hw (ce_8 (S := (sV S15 9 b17 (Int32.toNatClampNeg (gV S15 8 this 14)) (gV S 8 this 5))) hk16) rfl 14 (by decide) (hts (.fieldLink RX6 76 "TubePostModel" "actives" "I") (by decide +kernel)) (fun _ h9 => h9) rfl dX6_sendOff_73 ?_
  refine lv_iconst (v := (1 : Int32)) hx hb dX6_sendOff_76 (by decide) ?_
  refine lv_iadd hx hb dX6_sendOff_77 ?_
  refine r_putI (κ := 8) (ci := 7) (C := RX6) (T := TX6) (N := 17) (ty := .int) (x := ((gV (sV S15 9 b17 (Int32.toNatClampNeg (gV S15 8 this 14)) (gV S 8 this 5)) 8 this 14) + (1 : Int32))) hx hb hts hiX6 tyX6 tyX6_ok nmX6 hown hK hw hS (ce_8 (S := (sV S15 9 b17 (Int32.toNatClampNeg (gV S15 8 this 14)) (gV S 8 this 5))) hk16) rfl 14 (by decide) (hts (.fieldLink RX6 76 "TubePostModel" "actives" "I") (by decide +kernel)) (fun _ h9 => h9) rfl (by decide +kernel) rfl rfl (Nat.le_of_ble_eq_true rfl) (pu_8_14 (S := (sV S15 9 b17 (Int32.toNatClampNeg (gV S15 8 this 14)) (gV S 8 this 5))) hk16) dX6_sendOff_78 (fun H locs hw hS => ?_)
  exact hret _ _ _ _ _ h hw hS dX6_sendOff_81
def wb_X6_send_21 (post : Int32 → bS → Prop) (v0 : Nat) (S : bS) : Prop := gK S v0 = 8 ∧ (wp_X6_fail (fun r23 S24 => post r23 S24) v0 (1 : Int32) S)
def wb_X6_send_41 (post : Int32 → bS → Prop) (v0 : Nat) (S : bS) : Prop := gK S v0 = 8 ∧ (wp_X6_fail (fun r20 S21 => post r20 S21) v0 (2 : Int32) S)
def wp_X6_send (post : Int32 → bS → Prop) (this : Nat) (p1 : Int32) (p2 : Int32) (p3 : Int32) (S : bS) : Prop := gK S this = 8 ∧ (wp_X6_isStation (fun r2 S3 => (r2 = (0 : Int32) → wb_X6_send_21 post this S3) ∧ (¬ (r2 = (0 : Int32)) → gK S3 this = 8 ∧ (wp_X6_isStation (fun r5 S6 => (r5 ≠ (0 : Int32) → (p1 = p2 → wb_X6_send_41 post this S6) ∧ (¬ (p1 = p2) → wp_X6_isIn (fun r7 S8 => (r7 ≠ (0 : Int32) → gK S8 this = 8 ∧ (wp_X6_canSend (fun r10 S11 => (r10 ≠ (0 : Int32) → gK S11 this = 8 ∧ (wp_X6_sendOff (fun S14 => gK S14 this = 8 ∧ (post ((gV S14 8 this 5) - (1 : Int32)) S14)) this p1 p2 p3 S11)) ∧ (r10 = (0 : Int32) → gK S11 this = 8 ∧ (wp_X6_fail (fun r17 S18 => post r17 S18) this (3 : Int32) S11))) this p1 S8)) ∧ (r7 = (0 : Int32) → wb_X6_send_41 post this S8)) p3 (0 : Int32) (3 : Int32) S6)) ∧ (r5 = (0 : Int32) → wb_X6_send_21 post this S6)) this p2 S3))) this p1 (sV S 8 this 0 (0 : Int32)))
set_option maxHeartbeats 4000000 in
set_option maxRecDepth 100000 in
theorem m_X6_send {l : Launch} {D : va_G} {y : Nat → ClassId} {z : Nat} {A : Nat → Prop} {S : bS} {post : Int32 → bS → Prop} {this : Nat} {p1 : Int32} {p2 : Int32} {p3 : Int32} (h : wp_X6_send post this p1 p2 p3 S) : Met l yX6_send wsX6_send ({ frames := 3, cells := 0, slots := 0, locals := 70 } : Room) (va_Pc ([Value.ref this, Value.int p1, Value.int p2, Value.int p3] : List Value) (bP D y z S A)) (va_Qi post (fun S' t => wd D y z S' A t.heap) A) 0 0 A := by
  refine Met.ofW (cc := cX6_send) (maxL := 4) (ret := (some .int)) (by decide) rfl ?_
  intro p e s m args below meth c s₁ B hml hv
  obtain ⟨rfl, hB⟩ := hv
  have hx := B.exec
  have hb := B.bytes
  have hr := B.returns
  have hts := atoms_spec (ws := wsX6_send) B.pre
  have hown : s.vm.findClass RX6 = some m.cls := findClass_of_methodNamed B.named
  have hlocks := B.notSynchronized
  have hw : wd D y z S A s.heap := hB.1
  have hK : va_K D bCl (bT y) s := hB.2.1
  have hNw := hB.2.2.1
  have hAn : ∀ q : Nat, s.heap.size ≤ q → A q := hB.2.2.2.1
  have hAz : ¬ A z := hB.2.2.2.2.1
  have hO := hB.2.2.2.2.2.1
  have hS : va_S A s.heap s.heap [] := va_S.rf
  have hiX6 : ∀ w ∈ u_ws RX6 TX6 17, w ∈ wsX6_send := by decide +kernel
  have hl := lv_entry ([Value.ref this, Value.int p1, Value.int p2, Value.int p3] : List Value) (n := 4) (Nat.le_of_ble_eq_true rfl)
  rw [lg_entry_eq]
  generalize (lg_sl ([Value.ref this, Value.int p1, Value.int p2, Value.int p3] : List Value) ++ List.replicate (4 - (lg_sl ([Value.ref this, Value.int p1, Value.int p2, Value.int p3] : List Value)).length) Slot.unset).toArray = ls at hl ⊢
  have hl : lv_has ls 4 [(0, .ref this), (1, .int p1), (2, .int p2), (3, .int p3)] := hl
  obtain ⟨Q, hQ⟩ : ∃ Q, Q = MQ below (va_Qi post (fun S' t => wd D y z S' A t.heap) A) (([Value.ref this, Value.int p1, Value.int p2, Value.int p3] : List Value).toArray) s 0 0 A := ⟨_, rfl⟩
  rw [← hQ]
  generalize hR : (headSpec wsX6_send ({ frames := 3, cells := 0, slots := 0, locals := 70 } : Room)).room = R
  have hRf : 3 ≤ R.frames := by rw [← hR]; exact Nat.le_refl _
  have hRl : 70 ≤ R.locals := by rw [← hR]; exact Nat.le_refl _
  have hret : ∀ (v : Int32) (S : bS) (H : Heap) (locs : List Loc) (pc : Nat) (ls : Array Slot) , post v S → wd D y z S A H → va_S A s.heap H locs → decode cX6_send pc = .ok (.ireturn, 1) → W p l e R s m (([Value.ref this, Value.int p1, Value.int p2, Value.int p3] : List Value).toArray) below meth c H locs 0 0 Q (F0 m pc ls [.int v]) := by
    intro v S H locs pc ls h hw hS d0
    rw [hQ]; exact W.iret hx hb hr (fun t ht hW => ⟨⟨v, S, rfl, h, by show wd D y z S A t.heap; rw [ht]; exact hw⟩, hS.F ht⟩) hS.2.2 d0 hlocks
  have hB21 : ∀ (S : bS) (H : Heap) (locs : List Loc) (ls : Array Slot) (v0 : Nat), wb_X6_send_21 post v0 S → wd D y z S A H → va_S A s.heap H locs → lv_has ls 4 [(0, .ref v0)] → W p l e R s m (([Value.ref this, Value.int p1, Value.int p2, Value.int p3] : List Value).toArray) below meth c H locs 0 0 Q (F0 m 21 ls []) := by
    intro S H locs ls v0 h hw hS hl
    unfold wb_X6_send_21 at h
    refine lv_aload_n hx hb dX6_send_21 rfl (lv_at hl 0 rfl) ?_
    refine lv_iconst (v := (1 : Int32)) hx hb dX6_send_22 (by decide) ?_
    obtain ⟨hk22, h⟩ := h
    have h1 := h
    refine va_calli (va_runV (As := [.int (1 : Int32)]) (rest := []) ⟨hx, hb, hml, hown, hts⟩ (m_X6_fail (l := l) h1) (cwV 1 hts gX6_send_X6_fail rfl rfl rfl (by decide +kernel) ⟨Nat.le_trans (Nat.le_of_ble_eq_true rfl) hRf, Nat.le_trans (Nat.le_of_ble_eq_true rfl) hRl⟩) (r_pV hB hw hS (ce_8 (S := S) hk22) rfl) rfl rfl hl.1 rfl (lv_room (Nat.le_of_ble_eq_true rfl)) dX6_send_23 ⟨Nat.zero_le _, Nat.zero_le _⟩) hS (fun _ _ h => h) (fun _ h => h) (fun r23 S24 t H1 locs ht _ h hw1 _ _ hS => ?_)
    subst ht
    have hw : wd D y z S24 A t.heap := hw1
    clear hw1 h1
    exact hret r23 _ _ _ _ _ h hw hS dX6_send_26
  have hB41 : ∀ (S : bS) (H : Heap) (locs : List Loc) (ls : Array Slot) (v0 : Nat), wb_X6_send_41 post v0 S → wd D y z S A H → va_S A s.heap H locs → lv_has ls 4 [(0, .ref v0)] → W p l e R s m (([Value.ref this, Value.int p1, Value.int p2, Value.int p3] : List Value).toArray) below meth c H locs 0 0 Q (F0 m 41 ls []) := by
    intro S H locs ls v0 h hw hS hl
    unfold wb_X6_send_41 at h
    refine lv_aload_n hx hb dX6_send_41 rfl (lv_at hl 0 rfl) ?_
    refine lv_iconst (v := (2 : Int32)) hx hb dX6_send_42 (by decide) ?_
    obtain ⟨hk19, h⟩ := h
    have h1 := h
    refine va_calli (va_runV (As := [.int (2 : Int32)]) (rest := []) ⟨hx, hb, hml, hown, hts⟩ (m_X6_fail (l := l) h1) (cwV 1 hts gX6_send_X6_fail rfl rfl rfl (by decide +kernel) ⟨Nat.le_trans (Nat.le_of_ble_eq_true rfl) hRf, Nat.le_trans (Nat.le_of_ble_eq_true rfl) hRl⟩) (r_pV hB hw hS (ce_8 (S := S) hk19) rfl) rfl rfl hl.1 rfl (lv_room (Nat.le_of_ble_eq_true rfl)) dX6_send_43 ⟨Nat.zero_le _, Nat.zero_le _⟩) hS (fun _ _ h => h) (fun _ h => h) (fun r20 S21 t H1 locs ht _ h hw1 _ _ hS => ?_)
    subst ht
    have hw : wd D y z S21 A t.heap := hw1
    clear hw1 h1
    exact hret r20 _ _ _ _ _ h hw hS dX6_send_46
  unfold wp_X6_send at h
  refine lv_aload_n hx hb dX6_send_0 rfl (lv_at hl 0 rfl) ?_
  refine lv_iconst (v := (0 : Int32)) hx hb dX6_send_1 (by decide) ?_
  obtain ⟨hk1, h⟩ := h
  refine r_putI (κ := 8) (ci := 7) (C := RX6) (T := TX6) (N := 17) (ty := .int) (x := (0 : Int32)) hx hb hts hiX6 tyX6 tyX6_ok nmX6 hown hK hw hS (ce_8 (S := S) hk1) rfl 0 (by decide) (hts (.fieldLink RX6 31 "TubePostModel" "thrown" "I") (by decide +kernel)) (fun _ h9 => h9) rfl (by decide +kernel) rfl rfl (Nat.le_of_ble_eq_true rfl) (pu_8_0 (S := S) hk1) dX6_send_2 (fun H locs hw hS => ?_)
  refine lv_aload_n hx hb dX6_send_5 rfl (lv_at hl 0 rfl) ?_
  refine lv_iload_n hx hb dX6_send_6 rfl (lv_at hl 1 rfl) ?_
  have h1 := h
  refine va_calli (va_runV (As := [.int p1]) (rest := []) ⟨hx, hb, hml, hown, hts⟩ (m_X6_isStation (l := l) h1) (cwV 1 hts gX6_send_X6_isStation rfl rfl rfl (by decide +kernel) ⟨Nat.le_trans (Nat.le_of_ble_eq_true rfl) hRf, Nat.le_trans (Nat.le_of_ble_eq_true rfl) hRl⟩) (r_pV hB hw hS (ce_8 (S := (sV S 8 this 0 (0 : Int32))) hk1) rfl) rfl rfl hl.1 rfl (lv_room (Nat.le_of_ble_eq_true rfl)) dX6_send_7 ⟨Nat.zero_le _, Nat.zero_le _⟩) hS (fun _ _ h => h) (fun _ h => h) (fun r2 S3 t H1 locs ht _ h hw1 _ _ hS => ?_)
  subst ht
  have hw : wd D y z S3 A t.heap := hw1
  clear hw1 h1
  refine lv_if_eq (tgt := 21) hx hb dX6_send_10 (by decide) (fun hc => ?_) (fun hc => ?_)
  · have h := h.1 hc
    exact hB21 _ _ _ _ _ h hw hS (lv_sub hl [0] rfl)
  · have h := h.2 hc
    refine lv_aload_n hx hb dX6_send_13 rfl (lv_at hl 0 rfl) ?_
    refine lv_iload_n hx hb dX6_send_14 rfl (lv_at hl 2 rfl) ?_
    obtain ⟨hk4, h⟩ := h
    have h1 := h
    refine va_calli (va_runV (As := [.int p2]) (rest := []) ⟨hx, hb, hml, hown, hts⟩ (m_X6_isStation (l := l) h1) (cwV 1 hts gX6_send_X6_isStation rfl rfl rfl (by decide +kernel) ⟨Nat.le_trans (Nat.le_of_ble_eq_true rfl) hRf, Nat.le_trans (Nat.le_of_ble_eq_true rfl) hRl⟩) (r_pV hB hw hS (ce_8 (S := S3) hk4) rfl) rfl rfl hl.1 rfl (lv_room (Nat.le_of_ble_eq_true rfl)) dX6_send_15 ⟨Nat.zero_le _, Nat.zero_le _⟩) hS (fun _ _ h => h) (fun _ h => h) (fun r5 S6 t H1 locs ht _ h hw1 _ _ hS => ?_)
    subst ht
    have hw : wd D y z S6 A t.heap := hw1
    clear hw1 h1
    refine lv_if_ne (tgt := 27) hx hb dX6_send_18 (by decide) (fun hc => ?_) (fun hc => ?_)
    · have h := h.1 hc
      refine lv_iload_n hx hb dX6_send_27 rfl (lv_at hl 1 rfl) ?_
      refine lv_iload_n hx hb dX6_send_28 rfl (lv_at hl 2 rfl) ?_
      refine lv_icmp_eq (tgt := 41) hx hb dX6_send_29 (by decide) (fun hc => ?_) (fun hc => ?_)
      · have h := h.1 hc
        exact hB41 _ _ _ _ _ h hw hS (lv_sub hl [0] rfl)
      · have h := h.2 hc
        refine lv_iload_n hx hb dX6_send_32 rfl (lv_at hl 3 rfl) ?_
        refine lv_iconst (v := (0 : Int32)) hx hb dX6_send_33 (by decide) ?_
        refine lv_iconst (v := (3 : Int32)) hx hb dX6_send_34 (by decide) ?_
        have h1 := h
        refine va_calli (va_runS (As := [.int p3, .int (0 : Int32), .int (3 : Int32)]) (rest := []) ⟨hx, hb, hml, hown, hts⟩ (m_X6_isIn (l := l) h1) (cwS 3 hts gX6_send_X6_isIn rfl rfl rfl (by decide +kernel) ⟨Nat.le_trans (Nat.le_of_ble_eq_true rfl) hRf, Nat.le_trans (Nat.le_of_ble_eq_true rfl) hRl⟩) (r_pS hB hw hS) rfl rfl hl.1 rfl (lv_room (Nat.le_of_ble_eq_true rfl)) dX6_send_35 ⟨Nat.zero_le _, Nat.zero_le _⟩) hS (fun _ _ h => h) (fun _ h => h) (fun r7 S8 t H1 locs ht _ h hw1 _ _ hS => ?_)
        subst ht
        have hw : wd D y z S8 A t.heap := hw1
        clear hw1 h1
        refine lv_if_ne (tgt := 47) hx hb dX6_send_38 (by decide) (fun hc => ?_) (fun hc => ?_)
        · have h := h.1 hc
          refine lv_aload_n hx hb dX6_send_47 rfl (lv_at hl 0 rfl) ?_
          refine lv_iload_n hx hb dX6_send_48 rfl (lv_at hl 1 rfl) ?_
          obtain ⟨hk9, h⟩ := h
          have h1 := h
          refine va_calli (va_runV (As := [.int p1]) (rest := []) ⟨hx, hb, hml, hown, hts⟩ (m_X6_canSend (l := l) h1) (cwV 1 hts gX6_send_X6_canSend rfl rfl rfl (by decide +kernel) ⟨Nat.le_trans (Nat.le_of_ble_eq_true rfl) hRf, Nat.le_trans (Nat.le_of_ble_eq_true rfl) hRl⟩) (r_pV hB hw hS (ce_8 (S := S8) hk9) rfl) rfl rfl hl.1 rfl (lv_room (Nat.le_of_ble_eq_true rfl)) dX6_send_49 ⟨Nat.zero_le _, Nat.zero_le _⟩) hS (fun _ _ h => h) (fun _ h => h) (fun r10 S11 t H1 locs ht _ h hw1 _ _ hS => ?_)
          subst ht
          have hw : wd D y z S11 A t.heap := hw1
          clear hw1 h1
          refine lv_if_ne (tgt := 61) hx hb dX6_send_52 (by decide) (fun hc => ?_) (fun hc => ?_)
          · have h := h.1 hc
            refine lv_aload_n hx hb dX6_send_61 rfl (lv_at hl 0 rfl) ?_
            refine lv_iload_n hx hb dX6_send_62 rfl (lv_at hl 1 rfl) ?_
            refine lv_iload_n hx hb dX6_send_63 rfl (lv_at hl 2 rfl) ?_
            refine lv_iload_n hx hb dX6_send_64 rfl (lv_at hl 3 rfl) ?_
            obtain ⟨hk12, h⟩ := h
            have h1 := h
            refine va_callv (va_runV (As := [.int p1, .int p2, .int p3]) (rest := []) ⟨hx, hb, hml, hown, hts⟩ (m_X6_sendOff (l := l) h1) (cwV 3 hts gX6_send_X6_sendOff rfl rfl rfl (by decide +kernel) ⟨Nat.le_trans (Nat.le_of_ble_eq_true rfl) hRf, Nat.le_trans (Nat.le_of_ble_eq_true rfl) hRl⟩) (r_pV hB hw hS (ce_8 (S := S11) hk12) rfl) rfl rfl hl.1 rfl (lv_room (Nat.le_of_ble_eq_true rfl)) dX6_send_65 ⟨Nat.zero_le _, Nat.zero_le _⟩) hS (fun _ _ h => h) (fun _ h => h) (fun S14 t H1 locs ht _ h hw1 _ _ hS => ?_)
            subst ht
            have hw : wd D y z S14 A t.heap := hw1
            clear hw1 h1
            refine lv_aload_n hx hb dX6_send_68 rfl (lv_at hl 0 rfl) ?_
            obtain ⟨hk15, h⟩ := h
            refine r_get (ci := 7) (v := .int (gV S14 8 this 5)) (C := RX6) (T := TX6) (N := 17) hx hb hts hiX6 hown hK hw (ce_8 (S := S14) hk15) rfl 5 (by decide) (hts (.fieldLink RX6 92 "TubePostModel" "sent" "I") (by decide +kernel)) (fun _ h9 => h9) rfl dX6_send_69 ?_
            refine lv_iconst (v := (1 : Int32)) hx hb dX6_send_72 (by decide) ?_
            refine lv_isub hx hb dX6_send_73 ?_
            exact hret ((gV S14 8 this 5) - (1 : Int32)) _ _ _ _ _ h hw hS dX6_send_74
          · have h := h.2 hc
            refine lv_aload_n hx hb dX6_send_55 rfl (lv_at hl 0 rfl) ?_
            refine lv_iconst (v := (3 : Int32)) hx hb dX6_send_56 (by decide) ?_
            obtain ⟨hk16, h⟩ := h
            have h1 := h
            refine va_calli (va_runV (As := [.int (3 : Int32)]) (rest := []) ⟨hx, hb, hml, hown, hts⟩ (m_X6_fail (l := l) h1) (cwV 1 hts gX6_send_X6_fail rfl rfl rfl (by decide +kernel) ⟨Nat.le_trans (Nat.le_of_ble_eq_true rfl) hRf, Nat.le_trans (Nat.le_of_ble_eq_true rfl) hRl⟩) (r_pV hB hw hS (ce_8 (S := S11) hk16) rfl) rfl rfl hl.1 rfl (lv_room (Nat.le_of_ble_eq_true rfl)) dX6_send_57 ⟨Nat.zero_le _, Nat.zero_le _⟩) hS (fun _ _ h => h) (fun _ h => h) (fun r17 S18 t H1 locs ht _ h hw1 _ _ hS => ?_)
            subst ht
            have hw : wd D y z S18 A t.heap := hw1
            clear hw1 h1
            exact hret r17 _ _ _ _ _ h hw hS dX6_send_60
        · have h := h.2 hc
          exact hB41 _ _ _ _ _ h hw hS (lv_sub hl [0] rfl)
    · have h := h.2 hc
      exact hB21 _ _ _ _ _ h hw hS (lv_sub hl [0] rfl)
