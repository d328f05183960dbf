def wp_X7_init (post : bS → Prop) (MC MS : Nat) (this : Nat) (S : bS) : Prop := ¬ (0 : Int32) < 0 ∧ (Int32.toNatClampNeg (0 : Int32)) * 4 ≤ 536870912 ∧ 1 ≤ MC ∧ (Int32.toNatClampNeg (0 : Int32)) ≤ MS ∧ (∀ q1, gK S q1 = 0 → (gK (sNew S q1 12 (Int32.toNatClampNeg (0 : Int32))) this = 8 ∧ (¬ (0 : Int32) < 0 ∧ (Int32.toNatClampNeg (0 : Int32)) * 4 ≤ 536870912 ∧ 1 ≤ (MC - 1) ∧ (Int32.toNatClampNeg (0 : Int32)) ≤ (MS - (Int32.toNatClampNeg (0 : Int32))) ∧ (∀ q5, gK (sQ (sNew S q1 12 (Int32.toNatClampNeg (0 : Int32))) 8 this 1 (some q1)) q5 = 0 → (¬ (0 : Int32) < 0 ∧ (Int32.toNatClampNeg (0 : Int32)) * 4 ≤ 536870912 ∧ 1 ≤ ((MC - 1) - 1) ∧ (Int32.toNatClampNeg (0 : Int32)) ≤ ((MS - (Int32.toNatClampNeg (0 : Int32))) - (Int32.toNatClampNeg (0 : Int32))) ∧ (∀ q10, gK (sQ (sNew (sQ (sNew S q1 12 (Int32.toNatClampNeg (0 : Int32))) 8 this 1 (some q1)) q5 12 (Int32.toNatClampNeg (0 : Int32))) 8 this 2 (some q5)) q10 = 0 → (¬ (0 : Int32) < 0 ∧ (Int32.toNatClampNeg (0 : Int32)) * 4 ≤ 536870912 ∧ 1 ≤ (((MC - 1) - 1) - 1) ∧ (Int32.toNatClampNeg (0 : Int32)) ≤ (((MS - (Int32.toNatClampNeg (0 : Int32))) - (Int32.toNatClampNeg (0 : Int32))) - (Int32.toNatClampNeg (0 : Int32))) ∧ (∀ q16, gK (sQ (sNew (sQ (sNew (sQ (sNew S q1 12 (Int32.toNatClampNeg (0 : Int32))) 8 this 1 (some q1)) q5 12 (Int32.toNatClampNeg (0 : Int32))) 8 this 2 (some q5)) q10 12 (Int32.toNatClampNeg (0 : Int32))) 8 this 3 (some q10)) q16 = 0 → (¬ (0 : Int32) < 0 ∧ (Int32.toNatClampNeg (0 : Int32)) * 4 ≤ 536870912 ∧ 1 ≤ ((((MC - 1) - 1) - 1) - 1) ∧ (Int32.toNatClampNeg (0 : Int32)) ≤ ((((MS - (Int32.toNatClampNeg (0 : Int32))) - (Int32.toNatClampNeg (0 : Int32))) - (Int32.toNatClampNeg (0 : Int32))) - (Int32.toNatClampNeg (0 : Int32))) ∧ (∀ q23, gK (sQ (sNew (sQ (sNew (sQ (sNew (sQ (sNew S q1 12 (Int32.toNatClampNeg (0 : Int32))) 8 this 1 (some q1)) q5 12 (Int32.toNatClampNeg (0 : Int32))) 8 this 2 (some q5)) q10 12 (Int32.toNatClampNeg (0 : Int32))) 8 this 3 (some q10)) q16 15 (Int32.toNatClampNeg (0 : Int32))) 8 this 4 (some q16)) q23 = 0 → (¬ (0 : Int32) < 0 ∧ (Int32.toNatClampNeg (0 : Int32)) * 4 ≤ 536870912 ∧ 1 ≤ (((((MC - 1) - 1) - 1) - 1) - 1) ∧ (Int32.toNatClampNeg (0 : Int32)) ≤ (((((MS - (Int32.toNatClampNeg (0 : Int32))) - (Int32.toNatClampNeg (0 : Int32))) - (Int32.toNatClampNeg (0 : Int32))) - (Int32.toNatClampNeg (0 : Int32))) - (Int32.toNatClampNeg (0 : Int32))) ∧ (∀ q31, gK (sQ (sNew (sQ (sNew (sQ (sNew (sQ (sNew (sQ (sNew S q1 12 (Int32.toNatClampNeg (0 : Int32))) 8 this 1 (some q1)) q5 12 (Int32.toNatClampNeg (0 : Int32))) 8 this 2 (some q5)) q10 12 (Int32.toNatClampNeg (0 : Int32))) 8 this 3 (some q10)) q16 15 (Int32.toNatClampNeg (0 : Int32))) 8 this 4 (some q16)) q23 16 (Int32.toNatClampNeg (0 : Int32))) 8 this 5 (some q23)) q31 = 0 → (¬ (0 : Int32) < 0 ∧ (Int32.toNatClampNeg (0 : Int32)) * 4 ≤ 536870912 ∧ 1 ≤ ((((((MC - 1) - 1) - 1) - 1) - 1) - 1) ∧ (Int32.toNatClampNeg (0 : Int32)) ≤ ((((((MS - (Int32.toNatClampNeg (0 : Int32))) - (Int32.toNatClampNeg (0 : Int32))) - (Int32.toNatClampNeg (0 : Int32))) - (Int32.toNatClampNeg (0 : Int32))) - (Int32.toNatClampNeg (0 : Int32))) - (Int32.toNatClampNeg (0 : Int32))) ∧ (∀ q40, gK (sQ (sNew (sQ (sNew (sQ (sNew (sQ (sNew (sQ (sNew (sQ (sNew S q1 12 (Int32.toNatClampNeg (0 : Int32))) 8 this 1 (some q1)) q5 12 (Int32.toNatClampNeg (0 : Int32))) 8 this 2 (some q5)) q10 12 (Int32.toNatClampNeg (0 : Int32))) 8 this 3 (some q10)) q16 15 (Int32.toNatClampNeg (0 : Int32))) 8 this 4 (some q16)) q23 16 (Int32.toNatClampNeg (0 : Int32))) 8 this 5 (some q23)) q31 16 (Int32.toNatClampNeg (0 : Int32))) 8 this 6 (some q31)) q40 = 0 → (post (sQ (sNew (sQ (sNew (sQ (sNew (sQ (sNew (sQ (sNew (sQ (sNew (sQ (sNew S q1 12 (Int32.toNatClampNeg (0 : Int32))) 8 this 1 (some q1)) q5 12 (Int32.toNatClampNeg (0 : Int32))) 8 this 2 (some q5)) q10 12 (Int32.toNatClampNeg (0 : Int32))) 8 this 3 (some q10)) q16 15 (Int32.toNatClampNeg (0 : Int32))) 8 this 4 (some q16)) q23 16 (Int32.toNatClampNeg (0 : Int32))) 8 this 5 (some q23)) q31 16 (Int32.toNatClampNeg (0 : Int32))) 8 this 6 (some q31)) q40 12 (Int32.toNatClampNeg (0 : Int32))) 8 this 7 (some q40)))))))))))))))))
set_option maxHeartbeats 4000000 in
set_option maxRecDepth 100000 in
theorem m_X7_init {l : Launch} {D : va_G} {y : Nat → ClassId} {z : Nat} {A : Nat → Prop} {S : bS} {post : bS → Prop} {MC MS : Nat} {this : Nat} (h : wp_X7_init post MC MS this S) : Met l yX7_init wsX7_init ({ frames := 1, cells := MC, slots := MS, locals := 20 } : Room) (va_Pc ([Value.ref this] : List Value) (bP D y z S A)) (va_Qv post (fun S' t => wd D y z S' A t.heap) A) MC MS A := by
  refine Met.ofW (cc := cX7_init) (maxL := 1) (ret := none) (by decide) rfl ?_
  intro p e s m args below meth c s₁ B hml hv
  obtain ⟨rfl, hB⟩ := hv
  have hx := B.exec
  have hb := B.bytes
  have hr := B.returns
  have hts := atoms_spec (ws := wsX7_init) B.pre
  have hown : s.vm.findClass RX7 = some m.cls := findClass_of_methodNamed B.named
  have hlocks := B.notSynchronized
  have hin : meth.name = "<init>" := (name_of_methodNamed B.named B.method).1
  have hw : wd D y z S A s.heap := hB.1
  have hK : va_K D bCl (bT y) s := hB.2.1
  have hNw := hB.2.2.1
  have hAn : ∀ q : Nat, s.heap.size ≤ q → A q := hB.2.2.2.1
  have hAz : ¬ A z := hB.2.2.2.2.1
  have hO := hB.2.2.2.2.2.1
  have hS : va_S A s.heap s.heap [] := va_S.rf
  have hiX7 : ∀ w ∈ u_ws RX7 TX7 10, w ∈ wsX7_init := by decide +kernel
  have hl := lv_entry ([Value.ref this] : List Value) (n := 1) (Nat.le_of_ble_eq_true rfl)
  rw [lg_entry_eq]
  generalize (lg_sl ([Value.ref this] : List Value) ++ List.replicate (1 - (lg_sl ([Value.ref this] : List Value)).length) Slot.unset).toArray = ls at hl ⊢
  have hl : lv_has ls 1 [(0, .ref this)] := hl
  obtain ⟨Q, hQ⟩ : ∃ Q, Q = MQ below (va_Qv post (fun S' t => wd D y z S' A t.heap) A) (([Value.ref this] : List Value).toArray) s MC MS A := ⟨_, rfl⟩
  rw [← hQ]
  generalize hR : (headSpec wsX7_init ({ frames := 1, cells := MC, slots := MS, locals := 20 } : Room)).room = R
  have hRf : 1 ≤ R.frames := by rw [← hR]; exact Nat.le_refl _
  have hRl : 20 ≤ R.locals := by rw [← hR]; exact Nat.le_refl _
  have hRc : R.cells = MC := by rw [← hR]; rfl
  have hRs : R.slots = MS := by rw [← hR]; rfl
  have hret : ∀ (S : bS) (H : Heap) (locs : List Loc) (pc : Nat) (ls : Array Slot) (cu su : Nat) , post S → wd D y z S A H → va_S A s.heap H locs → cu ≤ MC → su ≤ MS → decode cX7_init pc = .ok (.return_, 1) → W p l e R s m (([Value.ref this] : List Value).toArray) below meth c H locs cu su Q (F0 m pc ls []) := by
    intro S H locs pc ls cu su h hw hS hcu hsu d0
    rw [hQ]; refine W.widen hcu hsu ?_; exact W.vret hx hb hr (fun t ht hW => ⟨⟨S, rfl, h, by show wd D y z S A t.heap; rw [ht]; exact hw⟩, hS.F ht⟩) hS.2.2 d0 hlocks
  unfold wp_X7_init at h
  have hcu : 0 + MC ≤ MC := by omega
  have hsu : 0 + MS ≤ MS := by omega
  refine lv_aload_n hx hb dX7_init_0 rfl (lv_at hl 0 rfl) ?_
  refine W.objInit hx hb hown (hts (.methodLink RX7 1 objectInit) (by decide +kernel)) (hts (.instanceMethod objectInit) (by decide +kernel)) (hts (.code objectInit ⟨#[0xb1]⟩ 1 none) (by decide +kernel)) rfl (by rw [hml]; exact hl.1) rfl dX7_init_1 (Nat.le_trans (Nat.le_of_ble_eq_true rfl) hRf) (Nat.le_trans (Nat.le_of_ble_eq_true rfl) hRl) ?_
  refine W.eq (g2 := F0 m 4 ls []) rfl ?_
  refine lv_aload_n hx hb dX7_init_4 rfl (lv_at hl 0 rfl) ?_
  refine lv_iconst (v := (0 : Int32)) hx hb dX7_init_5 (by decide) ?_
  obtain ⟨hn0, hn1, hbg1, hbg2, h⟩ := h
  refine r_newA (κ := 12) (ti := 3) (t := .int) (yc := y 3) hx hb hown (hts (.classLink RX7 7 "[I") (by decide +kernel)) hO.2.2.1.1 hK rfl (by decide) ce_new12 hw hS hAn hAz hn0 rfl hn1 (by omega) (by omega) dX7_init_6 (fun q1 H hq2 hw hS => ?_)
  have h := h q1 hq2
  have hk3 : gK (sNew S q1 12 (Int32.toNatClampNeg (0 : Int32))) q1 = 12 := if_pos rfl
  have hcu : (0 + 1) + (MC - 1) ≤ MC := by omega
  have hsu : (0 + (Int32.toNatClampNeg (0 : Int32))) + (MS - (Int32.toNatClampNeg (0 : Int32))) ≤ MS := by omega
  obtain ⟨hk4, h⟩ := h
  refine r_putQ (κ := 8) (ci := 7) (C := RX7) (T := TX7) (N := 10) (ty := (tyX7 1)) (x := (some q1)) hx hb hts hiX7 tyX7 tyX7_ok nmX7 hown hK hw hS (ce_8 (S := (sNew S q1 12 (Int32.toNatClampNeg (0 : Int32)))) hk4) rfl 1 (by decide) (hts (.fieldLink RX7 9 "TubePostLaw$Sim" "stations" "[[I") (by decide +kernel)) (fun _ h9 => h9) rfl (by decide +kernel) rfl rfl (Nat.le_of_ble_eq_true rfl) (pu_8_1 (S := (sNew S q1 12 (Int32.toNatClampNeg (0 : Int32)))) hk4) dX7_init_9 (fun H locs hw hS => ?_)
  refine lv_aload_n hx hb dX7_init_12 rfl (lv_at hl 0 rfl) ?_
  refine lv_iconst (v := (0 : Int32)) hx hb dX7_init_13 (by decide) ?_
  obtain ⟨hn0, hn1, hbg1, hbg2, h⟩ := h
  refine r_newA (κ := 12) (ti := 3) (t := .int) (yc := y 3) hx hb hown (hts (.classLink RX7 7 "[I") (by decide +kernel)) hO.2.2.1.1 hK rfl (by decide) ce_new12 hw hS hAn hAz hn0 rfl hn1 (by omega) (by omega) dX7_init_14 (fun q5 H hq6 hw hS => ?_)
  have h := h q5 hq6
  have hk7 : gK (sNew (sQ (sNew S q1 12 (Int32.toNatClampNeg (0 : Int32))) 8 this 1 (some q1)) q5 12 (Int32.toNatClampNeg (0 : Int32))) q1 = 12 := b_old hk3 hq6 (by decide)
  have hk8 : gK (sNew (sQ (sNew S q1 12 (Int32.toNatClampNeg (0 : Int32))) 8 this 1 (some q1)) q5 12 (Int32.toNatClampNeg (0 : Int32))) this = 8 := b_old hk4 hq6 (by decide)
  have hk9 : gK (sNew (sQ (sNew S q1 12 (Int32.toNatClampNeg (0 : Int32))) 8 this 1 (some q1)) q5 12 (Int32.toNatClampNeg (0 : Int32))) q5 = 12 := if_pos rfl
  have hcu : ((0 + 1) + 1) + ((MC - 1) - 1) ≤ MC := by omega
  have hsu : ((0 + (Int32.toNatClampNeg (0 : Int32))) + (Int32.toNatClampNeg (0 : Int32))) + ((MS - (Int32.toNatClampNeg (0 : Int32))) - (Int32.toNatClampNeg (0 : Int32))) ≤ MS := by omega
  refine r_putQ (κ := 8) (ci := 7) (C := RX7) (T := TX7) (N := 10) (ty := (tyX7 2)) (x := (some q5)) hx hb hts hiX7 tyX7 tyX7_ok nmX7 hown hK hw hS (ce_8 (S := (sNew (sQ (sNew S q1 12 (Int32.toNatClampNeg (0 : Int32))) 8 this 1 (some q1)) q5 12 (Int32.toNatClampNeg (0 : Int32)))) hk8) rfl 2 (by decide) (hts (.fieldLink RX7 15 "TubePostLaw$Sim" "tubes" "[[I") (by decide +kernel)) (fun _ h9 => h9) rfl (by decide +kernel) rfl rfl (Nat.le_of_ble_eq_true rfl) (pu_8_2 (S := (sNew (sQ (sNew S q1 12 (Int32.toNatClampNeg (0 : Int32))) 8 this 1 (some q1)) q5 12 (Int32.toNatClampNeg (0 : Int32)))) hk8) dX7_init_17 (fun H locs hw hS => ?_)
  refine lv_aload_n hx hb dX7_init_20 rfl (lv_at hl 0 rfl) ?_
  refine lv_iconst (v := (0 : Int32)) hx hb dX7_init_21 (by decide) ?_
  obtain ⟨hn0, hn1, hbg1, hbg2, h⟩ := h
  refine r_newA (κ := 12) (ti := 3) (t := .int) (yc := y 3) hx hb hown (hts (.classLink RX7 7 "[I") (by decide +kernel)) hO.2.2.1.1 hK rfl (by decide) ce_new12 hw hS hAn hAz hn0 rfl hn1 (by omega) (by omega) dX7_init_22 (fun q10 H hq11 hw hS => ?_)
  have h := h q10 hq11
  have hk12 : gK (sNew (sQ (sNew (sQ (sNew S q1 12 (Int32.toNatClampNeg (0 : Int32))) 8 this 1 (some q1)) q5 12 (Int32.toNatClampNeg (0 : Int32))) 8 this 2 (some q5)) q10 12 (Int32.toNatClampNeg (0 : Int32))) q1 = 12 := b_old hk7 hq11 (by decide)
  have hk13 : gK (sNew (sQ (sNew (sQ (sNew S q1 12 (Int32.toNatClampNeg (0 : Int32))) 8 this 1 (some q1)) q5 12 (Int32.toNatClampNeg (0 : Int32))) 8 this 2 (some q5)) q10 12 (Int32.toNatClampNeg (0 : Int32))) this = 8 := b_old hk8 hq11 (by decide)
  have hk14 : gK (sNew (sQ (sNew (sQ (sNew S q1 12 (Int32.toNatClampNeg (0 : Int32))) 8 this 1 (some q1)) q5 12 (Int32.toNatClampNeg (0 : Int32))) 8 this 2 (some q5)) q10 12 (Int32.toNatClampNeg (0 : Int32))) q5 = 12 := b_old hk9 hq11 (by decide)
  have hk15 : gK (sNew (sQ (sNew (sQ (sNew S q1 12 (Int32.toNatClampNeg (0 : Int32))) 8 this 1 (some q1)) q5 12 (Int32.toNatClampNeg (0 : Int32))) 8 this 2 (some q5)) q10 12 (Int32.toNatClampNeg (0 : Int32))) q10 = 12 := if_pos rfl
  have hcu : (((0 + 1) + 1) + 1) + (((MC - 1) - 1) - 1) ≤ MC := by omega
  have hsu : (((0 + (Int32.toNatClampNeg (0 : Int32))) + (Int32.toNatClampNeg (0 : Int32))) + (Int32.toNatClampNeg (0 : Int32))) + (((MS - (Int32.toNatClampNeg (0 : Int32))) - (Int32.toNatClampNeg (0 : Int32))) - (Int32.toNatClampNeg (0 : Int32))) ≤ MS := by omega
  refine r_putQ (κ := 8) (ci := 7) (C := RX7) (T := TX7) (N := 10) (ty := (tyX7 3)) (x := (some q10)) hx hb hts hiX7 tyX7 tyX7_ok nmX7 hown hK hw hS (ce_8 (S := (sNew (sQ (sNew (sQ (sNew S q1 12 (Int32.toNatClampNeg (0 : Int32))) 8 this 1 (some q1)) q5 12 (Int32.toNatClampNeg (0 : Int32))) 8 this 2 (some q5)) q10 12 (Int32.toNatClampNeg (0 : Int32)))) hk13) rfl 3 (by decide) (hts (.fieldLink RX7 18 "TubePostLaw$Sim" "entries" "[[I") (by decide +kernel)) (fun _ h9 => h9) rfl (by decide +kernel) rfl rfl (Nat.le_of_ble_eq_true rfl) (pu_8_3 (S := (sNew (sQ (sNew (sQ (sNew S q1 12 (Int32.toNatClampNeg (0 : Int32))) 8 this 1 (some q1)) q5 12 (Int32.toNatClampNeg (0 : Int32))) 8 this 2 (some q5)) q10 12 (Int32.toNatClampNeg (0 : Int32)))) hk13) dX7_init_25 (fun H locs hw hS => ?_)
  refine lv_aload_n hx hb dX7_init_28 rfl (lv_at hl 0 rfl) ?_
  refine lv_iconst (v := (0 : Int32)) hx hb dX7_init_29 (by decide) ?_
  obtain ⟨hn0, hn1, hbg1, hbg2, h⟩ := h
  refine r_newc hx hb hown (hts (.classLink RX7 21 "TubePostLaw$Carrier") (by decide +kernel)) hO.2.2.1.2.2.2 hK hw hS hAn hAz hn0 rfl hn1 (by omega) (by omega) dX7_init_30 (fun q16 H hq17 hw hS => ?_)
  have h := h q16 hq17
  have hk18 : gK (sNew (sQ (sNew (sQ (sNew (sQ (sNew S q1 12 (Int32.toNatClampNeg (0 : Int32))) 8 this 1 (some q1)) q5 12 (Int32.toNatClampNeg (0 : Int32))) 8 this 2 (some q5)) q10 12 (Int32.toNatClampNeg (0 : Int32))) 8 this 3 (some q10)) q16 15 (Int32.toNatClampNeg (0 : Int32))) q1 = 12 := b_old hk12 hq17 (by decide)
  have hk19 : gK (sNew (sQ (sNew (sQ (sNew (sQ (sNew S q1 12 (Int32.toNatClampNeg (0 : Int32))) 8 this 1 (some q1)) q5 12 (Int32.toNatClampNeg (0 : Int32))) 8 this 2 (some q5)) q10 12 (Int32.toNatClampNeg (0 : Int32))) 8 this 3 (some q10)) q16 15 (Int32.toNatClampNeg (0 : Int32))) this = 8 := b_old hk13 hq17 (by decide)
  have hk20 : gK (sNew (sQ (sNew (sQ (sNew (sQ (sNew S q1 12 (Int32.toNatClampNeg (0 : Int32))) 8 this 1 (some q1)) q5 12 (Int32.toNatClampNeg (0 : Int32))) 8 this 2 (some q5)) q10 12 (Int32.toNatClampNeg (0 : Int32))) 8 this 3 (some q10)) q16 15 (Int32.toNatClampNeg (0 : Int32))) q5 = 12 := b_old hk14 hq17 (by decide)
  have hk21 : gK (sNew (sQ (sNew (sQ (sNew (sQ (sNew S q1 12 (Int32.toNatClampNeg (0 : Int32))) 8 this 1 (some q1)) q5 12 (Int32.toNatClampNeg (0 : Int32))) 8 this 2 (some q5)) q10 12 (Int32.toNatClampNeg (0 : Int32))) 8 this 3 (some q10)) q16 15 (Int32.toNatClampNeg (0 : Int32))) q10 = 12 := b_old hk15 hq17 (by decide)
  have hk22 : gK (sNew (sQ (sNew (sQ (sNew (sQ (sNew S q1 12 (Int32.toNatClampNeg (0 : Int32))) 8 this 1 (some q1)) q5 12 (Int32.toNatClampNeg (0 : Int32))) 8 this 2 (some q5)) q10 12 (Int32.toNatClampNeg (0 : Int32))) 8 this 3 (some q10)) q16 15 (Int32.toNatClampNeg (0 : Int32))) q16 = 15 := if_pos rfl
  have hcu : ((((0 + 1) + 1) + 1) + 1) + ((((MC - 1) - 1) - 1) - 1) ≤ MC := by omega
  have hsu : ((((0 + (Int32.toNatClampNeg (0 : Int32))) + (Int32.toNatClampNeg (0 : Int32))) + (Int32.toNatClampNeg (0 : Int32))) + (Int32.toNatClampNeg (0 : Int32))) + ((((MS - (Int32.toNatClampNeg (0 : Int32))) - (Int32.toNatClampNeg (0 : Int32))) - (Int32.toNatClampNeg (0 : Int32))) - (Int32.toNatClampNeg (0 : Int32))) ≤ MS := by omega
  refine r_putQ (κ := 8) (ci := 7) (C := RX7) (T := TX7) (N := 10) (ty := (tyX7 4)) (x := (some q16)) hx hb hts hiX7 tyX7 tyX7_ok nmX7 hown hK hw hS (ce_8 (S := (sNew (sQ (sNew (sQ (sNew (sQ (sNew S q1 12 (Int32.toNatClampNeg (0 : Int32))) 8 this 1 (some q1)) q5 12 (Int32.toNatClampNeg (0 : Int32))) 8 this 2 (some q5)) q10 12 (Int32.toNatClampNeg (0 : Int32))) 8 this 3 (some q10)) q16 15 (Int32.toNatClampNeg (0 : Int32)))) hk19) rfl 4 (by decide) (hts (.fieldLink RX7 23 "TubePostLaw$Sim" "all" "[LTubePostLaw$Carrier;") (by decide +kernel)) (fun _ h9 => h9) rfl (by decide +kernel) rfl rfl (Nat.le_of_ble_eq_true rfl) (pu_8_4 (S := (sNew (sQ (sNew (sQ (sNew (sQ (sNew S q1 12 (Int32.toNatClampNeg (0 : Int32))) 8 this 1 (some q1)) q5 12 (Int32.toNatClampNeg (0 : Int32))) 8 this 2 (some q5)) q10 12 (Int32.toNatClampNeg (0 : Int32))) 8 this 3 (some q10)) q16 15 (Int32.toNatClampNeg (0 : Int32)))) hk19) dX7_init_33 (fun H locs hw hS => ?_)
  refine lv_aload_n hx hb dX7_init_36 rfl (lv_at hl 0 rfl) ?_
  refine lv_iconst (v := (0 : Int32)) hx hb dX7_init_37 (by decide) ?_
  obtain ⟨hn0, hn1, hbg1, hbg2, h⟩ := h
  refine r_newA (κ := 16) (ti := 5) (t := .object "TubePostLaw$Carrier") (yc := y 5) hx hb hown (va_Nw.use rfl (hNw _ bNw_76)) hO.2.2.1.2.2.1 hK rfl (by decide) ce_new16 hw hS hAn hAz hn0 rfl hn1 (by omega) (by omega) dX7_init_38 (fun q23 H hq24 hw hS => ?_)
  have h := h q23 hq24
  have hk25 : gK (sNew (sQ (sNew (sQ (sNew (sQ (sNew (sQ (sNew S q1 12 (Int32.toNatClampNeg (0 : Int32))) 8 this 1 (some q1)) q5 12 (Int32.toNatClampNeg (0 : Int32))) 8 this 2 (some q5)) q10 12 (Int32.toNatClampNeg (0 : Int32))) 8 this 3 (some q10)) q16 15 (Int32.toNatClampNeg (0 : Int32))) 8 this 4 (some q16)) q23 16 (Int32.toNatClampNeg (0 : Int32))) q1 = 12 := b_old hk18 hq24 (by decide)
  have hk26 : gK (sNew (sQ (sNew (sQ (sNew (sQ (sNew (sQ (sNew S q1 12 (Int32.toNatClampNeg (0 : Int32))) 8 this 1 (some q1)) q5 12 (Int32.toNatClampNeg (0 : Int32))) 8 this 2 (some q5)) q10 12 (Int32.toNatClampNeg (0 : Int32))) 8 this 3 (some q10)) q16 15 (Int32.toNatClampNeg (0 : Int32))) 8 this 4 (some q16)) q23 16 (Int32.toNatClampNeg (0 : Int32))) this = 8 := b_old hk19 hq24 (by decide)
  have hk27 : gK (sNew (sQ (sNew (sQ (sNew (sQ (sNew (sQ (sNew S q1 12 (Int32.toNatClampNeg (0 : Int32))) 8 this 1 (some q1)) q5 12 (Int32.toNatClampNeg (0 : Int32))) 8 this 2 (some q5)) q10 12 (Int32.toNatClampNeg (0 : Int32))) 8 this 3 (some q10)) q16 15 (Int32.toNatClampNeg (0 : Int32))) 8 this 4 (some q16)) q23 16 (Int32.toNatClampNeg (0 : Int32))) q5 = 12 := b_old hk20 hq24 (by decide)
  have hk28 : gK (sNew (sQ (sNew (sQ (sNew (sQ (sNew (sQ (sNew S q1 12 (Int32.toNatClampNeg (0 : Int32))) 8 this 1 (some q1)) q5 12 (Int32.toNatClampNeg (0 : Int32))) 8 this 2 (some q5)) q10 12 (Int32.toNatClampNeg (0 : Int32))) 8 this 3 (some q10)) q16 15 (Int32.toNatClampNeg (0 : Int32))) 8 this 4 (some q16)) q23 16 (Int32.toNatClampNeg (0 : Int32))) q10 = 12 := b_old hk21 hq24 (by decide)
  have hk29 : gK (sNew (sQ (sNew (sQ (sNew (sQ (sNew (sQ (sNew S q1 12 (Int32.toNatClampNeg (0 : Int32))) 8 this 1 (some q1)) q5 12 (Int32.toNatClampNeg (0 : Int32))) 8 this 2 (some q5)) q10 12 (Int32.toNatClampNeg (0 : Int32))) 8 this 3 (some q10)) q16 15 (Int32.toNatClampNeg (0 : Int32))) 8 this 4 (some q16)) q23 16 (Int32.toNatClampNeg (0 : Int32))) q16 = 15 := b_old hk22 hq24 (by decide)
  have hk30 : gK (sNew (sQ (sNew (sQ (sNew (sQ (sNew (sQ (sNew S q1 12 (Int32.toNatClampNeg (0 : Int32))) 8 this 1 (some q1)) q5 12 (Int32.toNatClampNeg (0 : Int32))) 8 this 2 (some q5)) q10 12 (Int32.toNatClampNeg (0 : Int32))) 8 this 3 (some q10)) q16 15 (Int32.toNatClampNeg (0 : Int32))) 8 this 4 (some q16)) q23 16 (Int32.toNatClampNeg (0 : Int32))) q23 = 16 := if_pos rfl
  have hcu : (((((0 + 1) + 1) + 1) + 1) + 1) + (((((MC - 1) - 1) - 1) - 1) - 1) ≤ MC := by omega
  have hsu : (((((0 + (Int32.toNatClampNeg (0 : Int32))) + (Int32.toNatClampNeg (0 : Int32))) + (Int32.toNatClampNeg (0 : Int32))) + (Int32.toNatClampNeg (0 : Int32))) + (Int32.toNatClampNeg (0 : Int32))) + (((((MS - (Int32.toNatClampNeg (0 : Int32))) - (Int32.toNatClampNeg (0 : Int32))) - (Int32.toNatClampNeg (0 : Int32))) - (Int32.toNatClampNeg (0 : Int32))) - (Int32.toNatClampNeg (0 : Int32))) ≤ MS := by omega
  refine r_putQ (κ := 8) (ci := 7) (C := RX7) (T := TX7) (N := 10) (ty := (tyX7 5)) (x := (some q23)) hx hb hts hiX7 tyX7 tyX7_ok nmX7 hown hK hw hS (ce_8 (S := (sNew (sQ (sNew (sQ (sNew (sQ (sNew (sQ (sNew S q1 12 (Int32.toNatClampNeg (0 : Int32))) 8 this 1 (some q1)) q5 12 (Int32.toNatClampNeg (0 : Int32))) 8 this 2 (some q5)) q10 12 (Int32.toNatClampNeg (0 : Int32))) 8 this 3 (some q10)) q16 15 (Int32.toNatClampNeg (0 : Int32))) 8 this 4 (some q16)) q23 16 (Int32.toNatClampNeg (0 : Int32)))) hk26) rfl 5 (by decide) (hts (.fieldLink RX7 28 "TubePostLaw$Sim" "at" "[[LTubePostLaw$Carrier;") (by decide +kernel)) (fun _ h9 => h9) rfl (by decide +kernel) rfl rfl (Nat.le_of_ble_eq_true rfl) (pu_8_5 (S := (sNew (sQ (sNew (sQ (sNew (sQ (sNew (sQ (sNew S q1 12 (Int32.toNatClampNeg (0 : Int32))) 8 this 1 (some q1)) q5 12 (Int32.toNatClampNeg (0 : Int32))) 8 this 2 (some q5)) q10 12 (Int32.toNatClampNeg (0 : Int32))) 8 this 3 (some q10)) q16 15 (Int32.toNatClampNeg (0 : Int32))) 8 this 4 (some q16)) q23 16 (Int32.toNatClampNeg (0 : Int32)))) hk26) dX7_init_41 (fun H locs hw hS => ?_)
  refine lv_aload_n hx hb dX7_init_44 rfl (lv_at hl 0 rfl) ?_
  refine lv_iconst (v := (0 : Int32)) hx hb dX7_init_45 (by decide) ?_
  obtain ⟨hn0, hn1, hbg1, hbg2, h⟩ := h
  refine r_newA (κ := 16) (ti := 5) (t := .object "TubePostLaw$Carrier") (yc := y 5) hx hb hown (va_Nw.use rfl (hNw _ bNw_76)) hO.2.2.1.2.2.1 hK rfl (by decide) ce_new16 hw hS hAn hAz hn0 rfl hn1 (by omega) (by omega) dX7_init_46 (fun q31 H hq32 hw hS => ?_)
  have h := h q31 hq32
  have hk33 : gK (sNew (sQ (sNew (sQ (sNew (sQ (sNew (sQ (sNew (sQ (sNew S q1 12 (Int32.toNatClampNeg (0 : Int32))) 8 this 1 (some q1)) q5 12 (Int32.toNatClampNeg (0 : Int32))) 8 this 2 (some q5)) q10 12 (Int32.toNatClampNeg (0 : Int32))) 8 this 3 (some q10)) q16 15 (Int32.toNatClampNeg (0 : Int32))) 8 this 4 (some q16)) q23 16 (Int32.toNatClampNeg (0 : Int32))) 8 this 5 (some q23)) q31 16 (Int32.toNatClampNeg (0 : Int32))) q1 = 12 := b_old hk25 hq32 (by decide)
  have hk34 : gK (sNew (sQ (sNew (sQ (sNew (sQ (sNew (sQ (sNew (sQ (sNew S q1 12 (Int32.toNatClampNeg (0 : Int32))) 8 this 1 (some q1)) q5 12 (Int32.toNatClampNeg (0 : Int32))) 8 this 2 (some q5)) q10 12 (Int32.toNatClampNeg (0 : Int32))) 8 this 3 (some q10)) q16 15 (Int32.toNatClampNeg (0 : Int32))) 8 this 4 (some q16)) q23 16 (Int32.toNatClampNeg (0 : Int32))) 8 this 5 (some q23)) q31 16 (Int32.toNatClampNeg (0 : Int32))) this = 8 := b_old hk26 hq32 (by decide)
  have hk35 : gK (sNew (sQ (sNew (sQ (sNew (sQ (sNew (sQ (sNew (sQ (sNew S q1 12 (Int32.toNatClampNeg (0 : Int32))) 8 this 1 (some q1)) q5 12 (Int32.toNatClampNeg (0 : Int32))) 8 this 2 (some q5)) q10 12 (Int32.toNatClampNeg (0 : Int32))) 8 this 3 (some q10)) q16 15 (Int32.toNatClampNeg (0 : Int32))) 8 this 4 (some q16)) q23 16 (Int32.toNatClampNeg (0 : Int32))) 8 this 5 (some q23)) q31 16 (Int32.toNatClampNeg (0 : Int32))) q5 = 12 := b_old hk27 hq32 (by decide)
  have hk36 : gK (sNew (sQ (sNew (sQ (sNew (sQ (sNew (sQ (sNew (sQ (sNew S q1 12 (Int32.toNatClampNeg (0 : Int32))) 8 this 1 (some q1)) q5 12 (Int32.toNatClampNeg (0 : Int32))) 8 this 2 (some q5)) q10 12 (Int32.toNatClampNeg (0 : Int32))) 8 this 3 (some q10)) q16 15 (Int32.toNatClampNeg (0 : Int32))) 8 this 4 (some q16)) q23 16 (Int32.toNatClampNeg (0 : Int32))) 8 this 5 (some q23)) q31 16 (Int32.toNatClampNeg (0 : Int32))) q10 = 12 := b_old hk28 hq32 (by decide)
  have hk37 : gK (sNew (sQ (sNew (sQ (sNew (sQ (sNew (sQ (sNew (sQ (sNew S q1 12 (Int32.toNatClampNeg (0 : Int32))) 8 this 1 (some q1)) q5 12 (Int32.toNatClampNeg (0 : Int32))) 8 this 2 (some q5)) q10 12 (Int32.toNatClampNeg (0 : Int32))) 8 this 3 (some q10)) q16 15 (Int32.toNatClampNeg (0 : Int32))) 8 this 4 (some q16)) q23 16 (Int32.toNatClampNeg (0 : Int32))) 8 this 5 (some q23)) q31 16 (Int32.toNatClampNeg (0 : Int32))) q16 = 15 := b_old hk29 hq32 (by decide)
  have hk38 : gK (sNew (sQ (sNew (sQ (sNew (sQ (sNew (sQ (sNew (sQ (sNew S q1 12 (Int32.toNatClampNeg (0 : Int32))) 8 this 1 (some q1)) q5 12 (Int32.toNatClampNeg (0 : Int32))) 8 this 2 (some q5)) q10 12 (Int32.toNatClampNeg (0 : Int32))) 8 this 3 (some q10)) q16 15 (Int32.toNatClampNeg (0 : Int32))) 8 this 4 (some q16)) q23 16 (Int32.toNatClampNeg (0 : Int32))) 8 this 5 (some q23)) q31 16 (Int32.toNatClampNeg (0 : Int32))) q23 = 16 := b_old hk30 hq32 (by decide)
  have hk39 : gK (sNew (sQ (sNew (sQ (sNew (sQ (sNew (sQ (sNew (sQ (sNew S q1 12 (Int32.toNatClampNeg (0 : Int32))) 8 this 1 (some q1)) q5 12 (Int32.toNatClampNeg (0 : Int32))) 8 this 2 (some q5)) q10 12 (Int32.toNatClampNeg (0 : Int32))) 8 this 3 (some q10)) q16 15 (Int32.toNatClampNeg (0 : Int32))) 8 this 4 (some q16)) q23 16 (Int32.toNatClampNeg (0 : Int32))) 8 this 5 (some q23)) q31 16 (Int32.toNatClampNeg (0 : Int32))) q31 = 16 := if_pos rfl
  have hcu : ((((((0 + 1) + 1) + 1) + 1) + 1) + 1) + ((((((MC - 1) - 1) - 1) - 1) - 1) - 1) ≤ MC := by omega
  have hsu : ((((((0 + (Int32.toNatClampNeg (0 : Int32))) + (Int32.toNatClampNeg (0 : Int32))) + (Int32.toNatClampNeg (0 : Int32))) + (Int32.toNatClampNeg (0 : Int32))) + (Int32.toNatClampNeg (0 : Int32))) + (Int32.toNatClampNeg (0 : Int32))) + ((((((MS - (Int32.toNatClampNeg (0 : Int32))) - (Int32.toNatClampNeg (0 : Int32))) - (Int32.toNatClampNeg (0 : Int32))) - (Int32.toNatClampNeg (0 : Int32))) - (Int32.toNatClampNeg (0 : Int32))) - (Int32.toNatClampNeg (0 : Int32))) ≤ MS := by omega
  refine r_putQ (κ := 8) (ci := 7) (C := RX7) (T := TX7) (N := 10) (ty := (tyX7 6)) (x := (some q31)) hx hb hts hiX7 tyX7 tyX7_ok nmX7 hown hK hw hS (ce_8 (S := (sNew (sQ (sNew (sQ (sNew (sQ (sNew (sQ (sNew (sQ (sNew S q1 12 (Int32.toNatClampNeg (0 : Int32))) 8 this 1 (some q1)) q5 12 (Int32.toNatClampNeg (0 : Int32))) 8 this 2 (some q5)) q10 12 (Int32.toNatClampNeg (0 : Int32))) 8 this 3 (some q10)) q16 15 (Int32.toNatClampNeg (0 : Int32))) 8 this 4 (some q16)) q23 16 (Int32.toNatClampNeg (0 : Int32))) 8 this 5 (some q23)) q31 16 (Int32.toNatClampNeg (0 : Int32)))) hk34) rfl 6 (by decide) (hts (.fieldLink RX7 32 "TubePostLaw$Sim" "in" "[[LTubePostLaw$Carrier;") (by decide +kernel)) (fun _ h9 => h9) rfl (by decide +kernel) rfl rfl (Nat.le_of_ble_eq_true rfl) (pu_8_6 (S := (sNew (sQ (sNew (sQ (sNew (sQ (sNew (sQ (sNew (sQ (sNew S q1 12 (Int32.toNatClampNeg (0 : Int32))) 8 this 1 (some q1)) q5 12 (Int32.toNatClampNeg (0 : Int32))) 8 this 2 (some q5)) q10 12 (Int32.toNatClampNeg (0 : Int32))) 8 this 3 (some q10)) q16 15 (Int32.toNatClampNeg (0 : Int32))) 8 this 4 (some q16)) q23 16 (Int32.toNatClampNeg (0 : Int32))) 8 this 5 (some q23)) q31 16 (Int32.toNatClampNeg (0 : Int32)))) hk34) dX7_init_49 (fun H locs hw hS => ?_)
  refine lv_aload_n hx hb dX7_init_52 rfl (lv_at hl 0 rfl) ?_
  refine lv_iconst (v := (0 : Int32)) hx hb dX7_init_53 (by decide) ?_
  obtain ⟨hn0, hn1, hbg1, hbg2, h⟩ := h
  refine r_newA (κ := 12) (ti := 3) (t := .int) (yc := y 3) hx hb hown (hts (.classLink RX7 7 "[I") (by decide +kernel)) hO.2.2.1.1 hK rfl (by decide) ce_new12 hw hS hAn hAz hn0 rfl hn1 (by omega) (by omega) dX7_init_54 (fun q40 H hq41 hw hS => ?_)
  have h := h q40 hq41
  have hk42 : gK (sNew (sQ (sNew (sQ (sNew (sQ (sNew (sQ (sNew (sQ (sNew (sQ (sNew S q1 12 (Int32.toNatClampNeg (0 : Int32))) 8 this 1 (some q1)) q5 12 (Int32.toNatClampNeg (0 : Int32))) 8 this 2 (some q5)) q10 12 (Int32.toNatClampNeg (0 : Int32))) 8 this 3 (some q10)) q16 15 (Int32.toNatClampNeg (0 : Int32))) 8 this 4 (some q16)) q23 16 (Int32.toNatClampNeg (0 : Int32))) 8 this 5 (some q23)) q31 16 (Int32.toNatClampNeg (0 : Int32))) 8 this 6 (some q31)) q40 12 (Int32.toNatClampNeg (0 : Int32))) q1 = 12 := b_old hk33 hq41 (by decide)
  have hk43 : gK (sNew (sQ (sNew (sQ (sNew (sQ (sNew (sQ (sNew (sQ (sNew (sQ (sNew S q1 12 (Int32.toNatClampNeg (0 : Int32))) 8 this 1 (some q1)) q5 12 (Int32.toNatClampNeg (0 : Int32))) 8 this 2 (some q5)) q10 12 (Int32.toNatClampNeg (0 : Int32))) 8 this 3 (some q10)) q16 15 (Int32.toNatClampNeg (0 : Int32))) 8 this 4 (some q16)) q23 16 (Int32.toNatClampNeg (0 : Int32))) 8 this 5 (some q23)) q31 16 (Int32.toNatClampNeg (0 : Int32))) 8 this 6 (some q31)) q40 12 (Int32.toNatClampNeg (0 : Int32))) this = 8 := b_old hk34 hq41 (by decide)
  have hk44 : gK (sNew (sQ (sNew (sQ (sNew (sQ (sNew (sQ (sNew (sQ (sNew (sQ (sNew S q1 12 (Int32.toNatClampNeg (0 : Int32))) 8 this 1 (some q1)) q5 12 (Int32.toNatClampNeg (0 : Int32))) 8 this 2 (some q5)) q10 12 (Int32.toNatClampNeg (0 : Int32))) 8 this 3 (some q10)) q16 15 (Int32.toNatClampNeg (0 : Int32))) 8 this 4 (some q16)) q23 16 (Int32.toNatClampNeg (0 : Int32))) 8 this 5 (some q23)) q31 16 (Int32.toNatClampNeg (0 : Int32))) 8 this 6 (some q31)) q40 12 (Int32.toNatClampNeg (0 : Int32))) q5 = 12 := b_old hk35 hq41 (by decide)
  have hk45 : gK (sNew (sQ (sNew (sQ (sNew (sQ (sNew (sQ (sNew (sQ (sNew (sQ (sNew S q1 12 (Int32.toNatClampNeg (0 : Int32))) 8 this 1 (some q1)) q5 12 (Int32.toNatClampNeg (0 : Int32))) 8 this 2 (some q5)) q10 12 (Int32.toNatClampNeg (0 : Int32))) 8 this 3 (some q10)) q16 15 (Int32.toNatClampNeg (0 : Int32))) 8 this 4 (some q16)) q23 16 (Int32.toNatClampNeg (0 : Int32))) 8 this 5 (some q23)) q31 16 (Int32.toNatClampNeg (0 : Int32))) 8 this 6 (some q31)) q40 12 (Int32.toNatClampNeg (0 : Int32))) q10 = 12 := b_old hk36 hq41 (by decide)
  have hk46 : gK (sNew (sQ (sNew (sQ (sNew (sQ (sNew (sQ (sNew (sQ (sNew (sQ (sNew S q1 12 (Int32.toNatClampNeg (0 : Int32))) 8 this 1 (some q1)) q5 12 (Int32.toNatClampNeg (0 : Int32))) 8 this 2 (some q5)) q10 12 (Int32.toNatClampNeg (0 : Int32))) 8 this 3 (some q10)) q16 15 (Int32.toNatClampNeg (0 : Int32))) 8 this 4 (some q16)) q23 16 (Int32.toNatClampNeg (0 : Int32))) 8 this 5 (some q23)) q31 16 (Int32.toNatClampNeg (0 : Int32))) 8 this 6 (some q31)) q40 12 (Int32.toNatClampNeg (0 : Int32))) q16 = 15 := b_old hk37 hq41 (by decide)
  have hk47 : gK (sNew (sQ (sNew (sQ (sNew (sQ (sNew (sQ (sNew (sQ (sNew (sQ (sNew S q1 12 (Int32.toNatClampNeg (0 : Int32))) 8 this 1 (some q1)) q5 12 (Int32.toNatClampNeg (0 : Int32))) 8 this 2 (some q5)) q10 12 (Int32.toNatClampNeg (0 : Int32))) 8 this 3 (some q10)) q16 15 (Int32.toNatClampNeg (0 : Int32))) 8 this 4 (some q16)) q23 16 (Int32.toNatClampNeg (0 : Int32))) 8 this 5 (some q23)) q31 16 (Int32.toNatClampNeg (0 : Int32))) 8 this 6 (some q31)) q40 12 (Int32.toNatClampNeg (0 : Int32))) q23 = 16 := b_old hk38 hq41 (by decide)
  have hk48 : gK (sNew (sQ (sNew (sQ (sNew (sQ (sNew (sQ (sNew (sQ (sNew (sQ (sNew S q1 12 (Int32.toNatClampNeg (0 : Int32))) 8 this 1 (some q1)) q5 12 (Int32.toNatClampNeg (0 : Int32))) 8 this 2 (some q5)) q10 12 (Int32.toNatClampNeg (0 : Int32))) 8 this 3 (some q10)) q16 15 (Int32.toNatClampNeg (0 : Int32))) 8 this 4 (some q16)) q23 16 (Int32.toNatClampNeg (0 : Int32))) 8 this 5 (some q23)) q31 16 (Int32.toNatClampNeg (0 : Int32))) 8 this 6 (some q31)) q40 12 (Int32.toNatClampNeg (0 : Int32))) q31 = 16 := b_old hk39 hq41 (by decide)
  have hk49 : gK (sNew (sQ (sNew (sQ (sNew (sQ (sNew (sQ (sNew (sQ (sNew (sQ (sNew S q1 12 (Int32.toNatClampNeg (0 : Int32))) 8 this 1 (some q1)) q5 12 (Int32.toNatClampNeg (0 : Int32))) 8 this 2 (some q5)) q10 12 (Int32.toNatClampNeg (0 : Int32))) 8 this 3 (some q10)) q16 15 (Int32.toNatClampNeg (0 : Int32))) 8 this 4 (some q16)) q23 16 (Int32.toNatClampNeg (0 : Int32))) 8 this 5 (some q23)) q31 16 (Int32.toNatClampNeg (0 : Int32))) 8 this 6 (some q31)) q40 12 (Int32.toNatClampNeg (0 : Int32))) q40 = 12 := if_pos rfl
  have hcu : (((((((0 + 1) + 1) + 1) + 1) + 1) + 1) + 1) + (((((((MC - 1) - 1) - 1) - 1) - 1) - 1) - 1) ≤ MC := by omega
  have hsu : (((((((0 + (Int32.toNatClampNeg (0 : Int32))) + (Int32.toNatClampNeg (0 : Int32))) + (Int32.toNatClampNeg (0 : Int32))) + (Int32.toNatClampNeg (0 : Int32))) + (Int32.toNatClampNeg (0 : Int32))) + (Int32.toNatClampNeg (0 : Int32))) + (Int32.toNatClampNeg (0 : Int32))) + (((((((MS - (Int32.toNatClampNeg (0 : Int32))) - (Int32.toNatClampNeg (0 : Int32))) - (Int32.toNatClampNeg (0 : Int32))) - (Int32.toNatClampNeg (0 : Int32))) - (Int32.toNatClampNeg (0 : Int32))) - (Int32.toNatClampNeg (0 : Int32))) - (Int32.toNatClampNeg (0 : Int32))) ≤ MS := by omega
  refine r_putQ (κ := 8) (ci := 7) (C := RX7) (T := TX7) (N := 10) (ty := (tyX7 7)) (x := (some q40)) hx hb hts hiX7 tyX7 tyX7_ok nmX7 hown hK hw hS (ce_8 (S := (sNew (sQ (sNew (sQ (sNew (sQ (sNew (sQ (sNew (sQ (sNew (sQ (sNew S q1 12 (Int32.toNatClampNeg (0 : Int32))) 8 this 1 (some q1)) q5 12 (Int32.toNatClampNeg (0 : Int32))) 8 this 2 (some q5)) q10 12 (Int32.toNatClampNeg (0 : Int32))) 8 this 3 (some q10)) q16 15 (Int32.toNatClampNeg (0 : Int32))) 8 this 4 (some q16)) q23 16 (Int32.toNatClampNeg (0 : Int32))) 8 this 5 (some q23)) q31 16 (Int32.toNatClampNeg (0 : Int32))) 8 this 6 (some q31)) q40 12 (Int32.toNatClampNeg (0 : Int32)))) hk43) rfl 7 (by decide) (hts (.fieldLink RX7 35 "TubePostLaw$Sim" "ways" "[[I") (by decide +kernel)) (fun _ h9 => h9) rfl (by decide +kernel) rfl rfl (Nat.le_of_ble_eq_true rfl) (pu_8_7 (S := (sNew (sQ (sNew (sQ (sNew (sQ (sNew (sQ (sNew (sQ (sNew (sQ (sNew S q1 12 (Int32.toNatClampNeg (0 : Int32))) 8 this 1 (some q1)) q5 12 (Int32.toNatClampNeg (0 : Int32))) 8 this 2 (some q5)) q10 12 (Int32.toNatClampNeg (0 : Int32))) 8 this 3 (some q10)) q16 15 (Int32.toNatClampNeg (0 : Int32))) 8 this 4 (some q16)) q23 16 (Int32.toNatClampNeg (0 : Int32))) 8 this 5 (some q23)) q31 16 (Int32.toNatClampNeg (0 : Int32))) 8 this 6 (some q31)) q40 12 (Int32.toNatClampNeg (0 : Int32)))) hk43) dX7_init_57 (fun H locs hw hS => ?_)
  exact hret _ _ _ _ _ _ _ h hw hS (by omega) (by omega) dX7_init_60
def wb_X7_more_10 (post : Option Nat → bS → Prop) : Nat → Nat → Nat → Nat → Nat → Nat → Int32 → bS → Prop
  | 0, _, _, _, _, _, _, _ => False
  | n + 1, mc, ms, v0, v1, v2, v3, S => gK S v0 = 12 ∧ (((Int32.ofNat (gN S v0)) ≤ v3 → gK S v2 = 12 ∧ (vp_in (Int32.ofNat (gN S v0)) (gN S v2) ∧ (gK S v1 = 9 ∧ (post (some v2) (sQ S 12 v2 (Int32.toNatClampNeg (Int32.ofNat (gN S v0))) (some v1)))))) ∧ (¬ ((Int32.ofNat (gN S v0)) ≤ v3) → vp_in v3 (gN S v0) ∧ (∃ b11, gQ S 12 v0 (Int32.toNatClampNeg v3) = some b11 ∧ (gK S v2 = 12 ∧ (vp_in v3 (gN S v2) ∧ (gK S b11 = 9 ∧ ((wb_X7_more_10 post n) mc ms v0 v1 v2 (v3 + (1 : Int32)) (sQ S 12 v2 (Int32.toNatClampNeg v3) (some b11)))))))))
def wp_X7_more (post : Option Nat → bS → Prop) (MC MS : Nat) (p1 : Nat) (p2 : Nat) (S : bS) : Prop := gK S p1 = 12 ∧ (¬ ((Int32.ofNat (gN S p1)) + (1 : Int32)) < 0 ∧ (Int32.toNatClampNeg ((Int32.ofNat (gN S p1)) + (1 : Int32))) * 4 ≤ 536870912 ∧ 1 ≤ MC ∧ (Int32.toNatClampNeg ((Int32.ofNat (gN S p1)) + (1 : Int32))) ≤ MS ∧ (∀ q2, gK S q2 = 0 → (∃ n10, wb_X7_more_10 post n10 (MC - 1) (MS - (Int32.toNatClampNeg ((Int32.ofNat (gN S p1)) + (1 : Int32)))) p1 p2 q2 (0 : Int32) (sNew S q2 12 (Int32.toNatClampNeg ((Int32.ofNat (gN S p1)) + (1 : Int32)))))))
set_option maxHeartbeats 4000000 in
set_option maxRecDepth 100000 in
theorem m_X7_more {l : Launch} {D : va_G} {y : Nat → ClassId} {z : Nat} {A : Nat → Prop} {S : bS} {post : Option Nat → bS → Prop} {MC MS : Nat} {p1 : Nat} {p2 : Nat} (h : wp_X7_more post MC MS p1 p2 S) : Met l yX7_more wsX7_more ({ frames := 0, cells := MC, slots := MS, locals := 0 } : Room) (va_Pc ([Value.ref p1, Value.ref p2] : List Value) (bP D y z S A)) (va_Qq post (fun S' t => wd D y z S' A t.heap) A) MC MS A := by
  refine Met.ofW (cc := cX7_more) (maxL := 4) (ret := (some (.array (.array .int)))) (by decide) rfl ?_
  intro p e s m args below meth c s₁ B hml hv
  obtain ⟨rfl, hB⟩ := hv
  have hx := B.exec
  have hb := B.bytes
  have hr := B.returns
  have hts := atoms_spec (ws := wsX7_more) B.pre
  have hown : s.vm.findClass RX7 = some m.cls := findClass_of_methodNamed B.named
  have hlocks := B.notSynchronized
  have hw : wd D y z S A s.heap := hB.1
  have hK : va_K D bCl (bT y) s := hB.2.1
  have hNw := hB.2.2.1
  have hAn : ∀ q : Nat, s.heap.size ≤ q → A q := hB.2.2.2.1
  have hAz : ¬ A z := hB.2.2.2.2.1
  have hO := hB.2.2.2.2.2.1
  have hS : va_S A s.heap s.heap [] := va_S.rf
  have hl := lv_entry ([Value.ref p1, Value.ref p2] : List Value) (n := 4) (Nat.le_of_ble_eq_true rfl)
  rw [lg_entry_eq]
  generalize (lg_sl ([Value.ref p1, Value.ref p2] : List Value) ++ List.replicate (4 - (lg_sl ([Value.ref p1, Value.ref p2] : List Value)).length) Slot.unset).toArray = ls at hl ⊢
  have hl : lv_has ls 4 [(0, .ref p1), (1, .ref p2)] := hl
  obtain ⟨Q, hQ⟩ : ∃ Q, Q = MQ below (va_Qq post (fun S' t => wd D y z S' A t.heap) A) (([Value.ref p1, Value.ref p2] : List Value).toArray) s MC MS A := ⟨_, rfl⟩
  rw [← hQ]
  generalize hR : (headSpec wsX7_more ({ frames := 0, cells := MC, slots := MS, locals := 0 } : Room)).room = R
  have hRf : 0 ≤ R.frames := by rw [← hR]; exact Nat.le_refl _
  have hRl : 0 ≤ R.locals := by rw [← hR]; exact Nat.le_refl _
  have hRc : R.cells = MC := by rw [← hR]; rfl
  have hRs : R.slots = MS := by rw [← hR]; rfl
  have hret : ∀ (v : Option Nat) (S : bS) (H : Heap) (locs : List Loc) (pc : Nat) (ls : Array Slot) (cu su : Nat) , post v S → wd D y z S A H → va_S A s.heap H locs → cu ≤ MC → su ≤ MS → decode cX7_more pc = .ok (.areturn, 1) → W p l e R s m (([Value.ref p1, Value.ref p2] : List Value).toArray) below meth c H locs cu su Q (F0 m pc ls [va_rf v]) := by
    intro v S H locs pc ls cu su h hw hS hcu hsu d0
    rw [hQ]; refine W.widen hcu hsu ?_; exact W.aret hx hb hr (by first | exact Or.inl ⟨_, rfl⟩ | exact Or.inr ⟨_, rfl⟩) (by cases v with | none => exact Or.inl rfl | some a => exact Or.inr ⟨a, rfl⟩) (fun t ht hW => ⟨⟨v, S, rfl, h, by show wd D y z S A t.heap; rw [ht]; exact hw⟩, hS.F ht⟩) hS.2.2 d0 hlocks
  have hB10 : ∀ (n10 : Nat) (S : bS) (H : Heap) (locs : List Loc) (ls : Array Slot) (mc ms cu su : Nat) (v0 : Nat) (v1 : Nat) (v2 : Nat) (v3 : Int32), wb_X7_more_10 post n10 mc ms v0 v1 v2 v3 S → wd D y z S A H → va_S A s.heap H locs → lv_has ls 4 [(0, .ref v0), (1, .ref v1), (2, .ref v2), (3, .int v3)] → cu + mc ≤ MC → su + ms ≤ MS → W p l e R s m (([Value.ref p1, Value.ref p2] : List Value).toArray) below meth c H locs cu su Q (F0 m 10 ls []) := by
    intro n10
    induction n10 with
    | zero =>
      intro S H locs ls mc ms cu su v0 v1 v2 v3 h hw hS hl hcu hsu
      exact absurd h (by unfold wb_X7_more_10; exact id)
    | succ n10 ih10 =>
      intro S H locs ls mc ms cu su v0 v1 v2 v3 h hw hS hl hcu hsu
      unfold wb_X7_more_10 at h
      refine lv_iload_n hx hb dX7_more_10 rfl (lv_at hl 3 rfl) ?_
      refine lv_aload_n hx hb dX7_more_11 rfl (lv_at hl 0 rfl) ?_
      obtain ⟨hk6, h⟩ := h
      refine r_alen hx hb hK hw (S := S) (by rw [show gK S v0 = 12 from hk6]; decide) rfl dX7_more_12 ?_
      refine lv_icmp_ge (tgt := 28) hx hb dX7_more_13 (by decide) (fun hc => ?_) (fun hc => ?_)
      · have h := h.1 hc
        refine lv_aload_n hx hb dX7_more_28 rfl (lv_at hl 2 rfl) ?_
        refine lv_aload_n hx hb dX7_more_29 rfl (lv_at hl 0 rfl) ?_
        refine r_alen hx hb hK hw (S := S) (by rw [show gK S v0 = 12 from hk6]; decide) rfl dX7_more_30 ?_
        refine lv_aload_n hx hb dX7_more_31 rfl (lv_at hl 1 rfl) ?_
        obtain ⟨hk7, h⟩ := h
        obtain ⟨hin8, h⟩ := h
        obtain ⟨hk9, h⟩ := h
        refine r_aast12 hx hb hK hO.2.2.1.1 hw hS hk7 hk9 hin8 dX7_more_32 (fun H locs hw hS => ?_)
        refine lv_aload_n hx hb dX7_more_33 rfl (lv_at hl 2 rfl) ?_
        exact hret (some v2) _ _ _ _ _ _ _ h hw hS (by omega) (by omega) dX7_more_34
      · have h := h.2 hc
        refine lv_aload_n hx hb dX7_more_16 rfl (lv_at hl 2 rfl) ?_
        refine lv_iload_n hx hb dX7_more_17 rfl (lv_at hl 3 rfl) ?_
        refine lv_aload_n hx hb dX7_more_18 rfl (lv_at hl 0 rfl) ?_
        refine lv_iload_n hx hb dX7_more_19 rfl (lv_at hl 3 rfl) ?_
        obtain ⟨hin10, h⟩ := h
        obtain ⟨b11, hb12, h⟩ := h
        refine r_rald hx hb hK hw hk6 hin10 dX7_more_20 ?_
        rw [hb12]
        refine W.eq (g2 := F0 m 21 ls [.ref b11, .int v3, .ref v2]) rfl ?_
        obtain ⟨hk13, h⟩ := h
        obtain ⟨hin14, h⟩ := h
        obtain ⟨hk15, h⟩ := h
        refine r_aast12 hx hb hK hO.2.2.1.1 hw hS hk13 hk15 hin14 dX7_more_21 (fun H locs hw hS => ?_)
        refine lv_iinc (v := (v3 + (1 : Int32))) hx hb dX7_more_22 hl (k := 3) rfl rfl (by decide) rfl (fun ls hl => ?_)
        have hl : lv_has ls 4 [(3, .int (v3 + (1 : Int32))), (0, .ref v0), (1, .ref v1), (2, .ref v2)] := hl
        refine lv_goto (tgt := 10) hx hb dX7_more_25 (by decide) ?_
        exact ih10 _ _ _ _ _ _ _ _ _ _ _ _ h hw hS (lv_sub hl [1, 2, 3, 0] rfl) hcu hsu
  unfold wp_X7_more at h
  have hcu : 0 + MC ≤ MC := by omega
  have hsu : 0 + MS ≤ MS := by omega
  refine lv_aload_n hx hb dX7_more_0 rfl (lv_at hl 0 rfl) ?_
  obtain ⟨hk1, h⟩ := h
  refine r_alen hx hb hK hw (S := S) (by rw [show gK S p1 = 12 from hk1]; decide) rfl dX7_more_1 ?_
  refine lv_iconst (v := (1 : Int32)) hx hb dX7_more_2 (by decide) ?_
  refine lv_iadd hx hb dX7_more_3 ?_
  obtain ⟨hn0, hn1, hbg1, hbg2, h⟩ := h
  refine r_newA (κ := 12) (ti := 3) (t := .int) (yc := y 3) hx hb hown (hts (.classLink RX7 7 "[I") (by decide +kernel)) hO.2.2.1.1 hK rfl (by decide) ce_new12 hw hS hAn hAz hn0 rfl hn1 (by omega) (by omega) dX7_more_4 (fun q2 H hq3 hw hS => ?_)
  have h := h q2 hq3
  have hk4 : gK (sNew S q2 12 (Int32.toNatClampNeg ((Int32.ofNat (gN S p1)) + (1 : Int32)))) p1 = 12 := b_old hk1 hq3 (by decide)
  have hk5 : gK (sNew S q2 12 (Int32.toNatClampNeg ((Int32.ofNat (gN S p1)) + (1 : Int32)))) q2 = 12 := if_pos rfl
  have hcu : (0 + 1) + (MC - 1) ≤ MC := by omega
  have hsu : (0 + (Int32.toNatClampNeg ((Int32.ofNat (gN S p1)) + (1 : Int32)))) + (MS - (Int32.toNatClampNeg ((Int32.ofNat (gN S p1)) + (1 : Int32)))) ≤ MS := by omega
  refine lv_astore_n hx hb dX7_more_7 rfl hl (by decide) rfl (fun ls hl => ?_)
  have hl : lv_has ls 4 [(2, .ref q2), (0, .ref p1), (1, .ref p2)] := hl
  refine lv_iconst (v := (0 : Int32)) hx hb dX7_more_8 (by decide) ?_
  refine lv_istore_n hx hb dX7_more_9 rfl hl (by decide) rfl (fun ls hl => ?_)
  have hl : lv_has ls 4 [(3, .int (0 : Int32)), (2, .ref q2), (0, .ref p1), (1, .ref p2)] := hl
  obtain ⟨n10, h⟩ := h
  exact hB10 n10 _ _ _ _ _ _ _ _ _ _ _ _ h hw hS (lv_sub hl [2, 3, 1, 0] rfl) hcu hsu
def wb_X7_addStation_56 (post : bS → Prop) : Nat → Nat → Nat → Nat → Nat → Int32 → bS → Prop
  | 0, _, _, _, _, _, _ => False
  | n + 1, mc, ms, v0, v3, v4, S => gK S v0 = 8 ∧ (∃ b41, gQ S 8 v0 5 = some b41 ∧ (gK S b41 = 16 ∧ (((Int32.ofNat (gN S b41)) ≤ v4 → ∃ b44, gQ S 8 v0 5 = some b44 ∧ (gK S b44 = 16 ∧ (¬ (0 : Int32) < 0 ∧ (Int32.toNatClampNeg (0 : Int32)) * 4 ≤ 536870912 ∧ 1 ≤ mc ∧ (Int32.toNatClampNeg (0 : Int32)) ≤ ms ∧ (∀ q47, gK S q47 = 0 → (gK (sNew S q47 15 (Int32.toNatClampNeg (0 : Int32))) v3 = 16 ∧ (vp_in (Int32.ofNat (gN S b44)) (gN (sNew S q47 15 (Int32.toNatClampNeg (0 : Int32))) v3) ∧ (post (sQ (sQ (sNew S q47 15 (Int32.toNatClampNeg (0 : Int32))) 16 v3 (Int32.toNatClampNeg (Int32.ofNat (gN S b44))) (some q47)) 8 v0 5 (some v3))))))))) ∧ (¬ ((Int32.ofNat (gN S b41)) ≤ v4) → ∃ b55, gQ S 8 v0 5 = some b55 ∧ (gK S b55 = 16 ∧ (vp_in v4 (gN S b55) ∧ (∃ b59, gQ S 16 b55 (Int32.toNatClampNeg v4) = some b59 ∧ (gK S v3 = 16 ∧ (vp_in v4 (gN S v3) ∧ (gK S b59 = 15 ∧ ((wb_X7_addStation_56 post n) mc ms v0 v3 (v4 + (1 : Int32)) (sQ S 16 v3 (Int32.toNatClampNeg v4) (some b59)))))))))))))
def wp_X7_addStation (post : bS → Prop) (MC MS : Nat) (this : Nat) (p1 : Int32) (p2 : Int32) (S : bS) : Prop := gK S this = 8 ∧ (∃ b2, gQ S 8 this 1 = some b2 ∧ (¬ (4 : Int32) < 0 ∧ (Int32.toNatClampNeg (4 : Int32)) * 4 ≤ 536870912 ∧ 1 ≤ MC ∧ (Int32.toNatClampNeg (4 : Int32)) ≤ MS ∧ (∀ q4, gK S q4 = 0 → (vp_in (0 : Int32) (gN (sNew S q4 9 (Int32.toNatClampNeg (4 : Int32))) q4) ∧ (vp_in (1 : Int32) (gN (sV (sNew S q4 9 (Int32.toNatClampNeg (4 : Int32))) 9 q4 (Int32.toNatClampNeg (0 : Int32)) p1) q4) ∧ (vp_in (2 : Int32) (gN (sV (sV (sNew S q4 9 (Int32.toNatClampNeg (4 : Int32))) 9 q4 (Int32.toNatClampNeg (0 : Int32)) p1) 9 q4 (Int32.toNatClampNeg (1 : Int32)) p2) q4) ∧ (vp_in (3 : Int32) (gN (sV (sV (sV (sNew S q4 9 (Int32.toNatClampNeg (4 : Int32))) 9 q4 (Int32.toNatClampNeg (0 : Int32)) p1) 9 q4 (Int32.toNatClampNeg (1 : Int32)) p2) 9 q4 (Int32.toNatClampNeg (2 : Int32)) (-1 : Int32)) q4) ∧ (∃ k16 n17, k16 ≤ (MC - 1) ∧ n17 ≤ (MS - (Int32.toNatClampNeg (4 : Int32))) ∧ (wp_X7_more (fun r12 S13 => ∃ b14, r12 = some b14 ∧ (gK S13 this = 8 ∧ (∃ b19, gQ (sQ S13 8 this 1 (some b14)) 8 this 7 = some b19 ∧ (¬ (0 : Int32) < 0 ∧ (Int32.toNatClampNeg (0 : Int32)) * 4 ≤ 536870912 ∧ 1 ≤ ((MC - 1) - k16) ∧ (Int32.toNatClampNeg (0 : Int32)) ≤ ((MS - (Int32.toNatClampNeg (4 : Int32))) - n17) ∧ (∀ q21, gK (sQ S13 8 this 1 (some b14)) q21 = 0 → (∃ k29 n30, k29 ≤ (((MC - 1) - k16) - 1) ∧ n30 ≤ (((MS - (Int32.toNatClampNeg (4 : Int32))) - n17) - (Int32.toNatClampNeg (0 : Int32))) ∧ (wp_X7_more (fun r25 S26 => ∃ b27, r25 = some b27 ∧ (gK S26 this = 8 ∧ (∃ b32, gQ (sQ S26 8 this 7 (some b27)) 8 this 1 = some b32 ∧ (gK (sQ S26 8 this 7 (some b27)) b32 = 12 ∧ (¬ (Int32.ofNat (gN (sQ S26 8 this 7 (some b27)) b32)) < 0 ∧ (Int32.toNatClampNeg (Int32.ofNat (gN (sQ S26 8 this 7 (some b27)) b32))) * 4 ≤ 536870912 ∧ 1 ≤ ((((MC - 1) - k16) - 1) - k29) ∧ (Int32.toNatClampNeg (Int32.ofNat (gN (sQ S26 8 this 7 (some b27)) b32))) ≤ ((((MS - (Int32.toNatClampNeg (4 : Int32))) - n17) - (Int32.toNatClampNeg (0 : Int32))) - n30) ∧ (∀ q35, gK (sQ S26 8 this 7 (some b27)) q35 = 0 → (∃ n56, wb_X7_addStation_56 post n56 (((((MC - 1) - k16) - 1) - k29) - 1) (((((MS - (Int32.toNatClampNeg (4 : Int32))) - n17) - (Int32.toNatClampNeg (0 : Int32))) - n30) - (Int32.toNatClampNeg (Int32.ofNat (gN (sQ S26 8 this 7 (some b27)) b32)))) this q35 (0 : Int32) (sNew (sQ S26 8 this 7 (some b27)) q35 16 (Int32.toNatClampNeg (Int32.ofNat (gN (sQ S26 8 this 7 (some b27)) b32))))))))))) k29 n30 b19 q21 (sNew (sQ S13 8 this 1 (some b14)) q21 9 (Int32.toNatClampNeg (0 : Int32)))))))))) k16 n17 b2 q4 (sV (sV (sV (sV (sNew S q4 9 (Int32.toNatClampNeg (4 : Int32))) 9 q4 (Int32.toNatClampNeg (0 : Int32)) p1) 9 q4 (Int32.toNatClampNeg (1 : Int32)) p2) 9 q4 (Int32.toNatClampNeg (2 : Int32)) (-1 : Int32)) 9 q4 (Int32.toNatClampNeg (3 : Int32)) (0 : Int32)))))))))))
set_option maxHeartbeats 4000000 in
set_option maxRecDepth 100000 in
theorem m_X7_addStation {l : Launch} {D : va_G} {y : Nat → ClassId} {z : Nat} {A : Nat → Prop} {S : bS} {post : bS → Prop} {MC MS : Nat} {this : Nat} {p1 : Int32} {p2 : Int32} (h : wp_X7_addStation post MC MS this p1 p2 S) : Met l yX7_addStation wsX7_addStation ({ frames := 1, cells := MC, slots := MS, locals := 23 } : Room) (va_Pc ([Value.ref this, Value.int p1, Value.int p2] : List Value) (bP D y z S A)) (va_Qv post (fun S' t => wd D y z S' A t.heap) A) MC MS A := by
  refine Met.ofW (cc := cX7_addStation) (maxL := 5) (ret := none) (by decide) rfl ?_
  intro p e s m args below meth c s₁ B hml hv
  obtain ⟨rfl, hB⟩ := hv
  have hx := B.exec
  have hb := B.bytes
  have hr := B.returns
  have hts := atoms_spec (ws := wsX7_addStation) B.pre
  have hown : s.vm.findClass RX7 = some m.cls := findClass_of_methodNamed B.named
  have hlocks := B.notSynchronized
  have hw : wd D y z S A s.heap := hB.1
  have hK : va_K D bCl (bT y) s := hB.2.1
  have hNw := hB.2.2.1
  have hAn : ∀ q : Nat, s.heap.size ≤ q → A q := hB.2.2.2.1
  have hAz : ¬ A z := hB.2.2.2.2.1
  have hO := hB.2.2.2.2.2.1
  have hS : va_S A s.heap s.heap [] := va_S.rf
  have hiX7 : ∀ w ∈ u_ws RX7 TX7 10, w ∈ wsX7_addStation := by decide +kernel
  have hl := lv_entry ([Value.ref this, Value.int p1, Value.int p2] : List Value) (n := 5) (Nat.le_of_ble_eq_true rfl)
  rw [lg_entry_eq]
  generalize (lg_sl ([Value.ref this, Value.int p1, Value.int p2] : List Value) ++ List.replicate (5 - (lg_sl ([Value.ref this, Value.int p1, Value.int p2] : List Value)).length) Slot.unset).toArray = ls at hl ⊢
  have hl : lv_has ls 5 [(0, .ref this), (1, .int p1), (2, .int p2)] := hl
  obtain ⟨Q, hQ⟩ : ∃ Q, Q = MQ below (va_Qv post (fun S' t => wd D y z S' A t.heap) A) (([Value.ref this, Value.int p1, Value.int p2] : List Value).toArray) s MC MS A := ⟨_, rfl⟩
  rw [← hQ]
  generalize hR : (headSpec wsX7_addStation ({ frames := 1, cells := MC, slots := MS, locals := 23 } : Room)).room = R
  have hRf : 1 ≤ R.frames := by rw [← hR]; exact Nat.le_refl _
  have hRl : 23 ≤ R.locals := by rw [← hR]; exact Nat.le_refl _
  have hRc : R.cells = MC := by rw [← hR]; rfl
  have hRs : R.slots = MS := by rw [← hR]; rfl
  have hret : ∀ (S : bS) (H : Heap) (locs : List Loc) (pc : Nat) (ls : Array Slot) (cu su : Nat) , post S → wd D y z S A H → va_S A s.heap H locs → cu ≤ MC → su ≤ MS → decode cX7_addStation pc = .ok (.return_, 1) → W p l e R s m (([Value.ref this, Value.int p1, Value.int p2] : List Value).toArray) below meth c H locs cu su Q (F0 m pc ls []) := by
    intro S H locs pc ls cu su h hw hS hcu hsu d0
    rw [hQ]; refine W.widen hcu hsu ?_; exact W.vret hx hb hr (fun t ht hW => ⟨⟨S, rfl, h, by show wd D y z S A t.heap; rw [ht]; exact hw⟩, hS.F ht⟩) hS.2.2 d0 hlocks
  have hB56 : ∀ (n56 : Nat) (S : bS) (H : Heap) (locs : List Loc) (ls : Array Slot) (mc ms cu su : Nat) (v0 : Nat) (v3 : Nat) (v4 : Int32), wb_X7_addStation_56 post n56 mc ms v0 v3 v4 S → wd D y z S A H → va_S A s.heap H locs → lv_has ls 5 [(0, .ref v0), (3, .ref v3), (4, .int v4)] → cu + mc ≤ MC → su + ms ≤ MS → W p l e R s m (([Value.ref this, Value.int p1, Value.int p2] : List Value).toArray) below meth c H locs cu su Q (F0 m 56 ls []) := by
    intro n56
    induction n56 with
    | zero =>
      intro S H locs ls mc ms cu su v0 v3 v4 h hw hS hl hcu hsu
      exact absurd h (by unfold wb_X7_addStation_56; exact id)
    | succ n56 ih56 =>
      intro S H locs ls mc ms cu su v0 v3 v4 h hw hS hl hcu hsu
      unfold wb_X7_addStation_56 at h
      refine lv_iload hx hb dX7_addStation_56 (lv_at hl 2 rfl) ?_
      refine lv_aload_n hx hb dX7_addStation_58 rfl (lv_at hl 0 rfl) ?_
      obtain ⟨hk40, h⟩ := h
      obtain ⟨b41, hb42, h⟩ := h
      refine r_get (ci := 7) (v := .ref b41) (C := RX7) (T := TX7) (N := 10) hx hb hts hiX7 hown hK hw (ce_8 (S := S) hk40) rfl 5 (by decide) (hts (.fieldLink RX7 28 "TubePostLaw$Sim" "at" "[[LTubePostLaw$Carrier;") (by decide +kernel)) (fun _ h9 => h9) (congrArg (fun q => some (va_rf q)) hb42) dX7_addStation_59 ?_
      obtain ⟨hk43, h⟩ := h
      refine r_alen hx hb hK hw (S := S) (by rw [show gK S b41 = 16 from hk43]; decide) rfl dX7_addStation_62 ?_
      refine lv_icmp_ge (tgt := 83) hx hb dX7_addStation_63 (by decide) (fun hc => ?_) (fun hc => ?_)
      · have h := h.1 hc
        refine lv_aload_n hx hb dX7_addStation_83 rfl (lv_at hl 1 rfl) ?_
        refine lv_aload_n hx hb dX7_addStation_84 rfl (lv_at hl 0 rfl) ?_
        obtain ⟨b44, hb45, h⟩ := h
        refine r_get (ci := 7) (v := .ref b44) (C := RX7) (T := TX7) (N := 10) hx hb hts hiX7 hown hK hw (ce_8 (S := S) hk40) rfl 5 (by decide) (hts (.fieldLink RX7 28 "TubePostLaw$Sim" "at" "[[LTubePostLaw$Carrier;") (by decide +kernel)) (fun _ h9 => h9) (congrArg (fun q => some (va_rf q)) hb45) dX7_addStation_85 ?_
        obtain ⟨hk46, h⟩ := h
        refine r_alen hx hb hK hw (S := S) (by rw [show gK S b44 = 16 from hk46]; decide) rfl dX7_addStation_88 ?_
        refine lv_iconst (v := (0 : Int32)) hx hb dX7_addStation_89 (by decide) ?_
        obtain ⟨hn0, hn1, hbg1, hbg2, h⟩ := h
        refine r_newc hx hb hown (hts (.classLink RX7 21 "TubePostLaw$Carrier") (by decide +kernel)) hO.2.2.1.2.2.2 hK hw hS hAn hAz hn0 rfl hn1 (by omega) (by omega) dX7_addStation_90 (fun q47 H hq48 hw hS => ?_)
        have h := h q47 hq48
        have hk49 : gK (sNew S q47 15 (Int32.toNatClampNeg (0 : Int32))) v0 = 8 := b_old hk40 hq48 (by decide)
        have hk50 : gK (sNew S q47 15 (Int32.toNatClampNeg (0 : Int32))) b41 = 16 := b_old hk43 hq48 (by decide)
        have hk51 : gK (sNew S q47 15 (Int32.toNatClampNeg (0 : Int32))) b44 = 16 := b_old hk46 hq48 (by decide)
        have hk52 : gK (sNew S q47 15 (Int32.toNatClampNeg (0 : Int32))) q47 = 15 := if_pos rfl
        have hcu : (cu + 1) + (mc - 1) ≤ MC := by omega
        have hsu : (su + (Int32.toNatClampNeg (0 : Int32))) + (ms - (Int32.toNatClampNeg (0 : Int32))) ≤ MS := by omega
        obtain ⟨hk53, h⟩ := h
        obtain ⟨hin54, h⟩ := h
        refine r_aast16 hx hb hK hO.2.2.1.2.2.1 hw hS hk53 hk52 hin54 dX7_addStation_93 (fun H locs hw hS => ?_)
        refine lv_aload_n hx hb dX7_addStation_94 rfl (lv_at hl 0 rfl) ?_
        refine lv_aload_n hx hb dX7_addStation_95 rfl (lv_at hl 1 rfl) ?_
        refine r_putQ (κ := 8) (ci := 7) (C := RX7) (T := TX7) (N := 10) (ty := (tyX7 5)) (x := (some v3)) hx hb hts hiX7 tyX7 tyX7_ok nmX7 hown hK hw hS (ce_8 (S := (sQ (sNew S q47 15 (Int32.toNatClampNeg (0 : Int32))) 16 v3 (Int32.toNatClampNeg (Int32.ofNat (gN S b44))) (some q47))) hk49) rfl 5 (by decide) (hts (.fieldLink RX7 28 "TubePostLaw$Sim" "at" "[[LTubePostLaw$Carrier;") (by decide +kernel)) (fun _ h9 => h9) rfl (by decide +kernel) rfl rfl (Nat.le_of_ble_eq_true rfl) (pu_8_5 (S := (sQ (sNew S q47 15 (Int32.toNatClampNeg (0 : Int32))) 16 v3 (Int32.toNatClampNeg (Int32.ofNat (gN S b44))) (some q47))) hk49) dX7_addStation_96 (fun H locs hw hS => ?_)
        exact hret _ _ _ _ _ _ _ h hw hS (by omega) (by omega) dX7_addStation_99
      · have h := h.2 hc
        refine lv_aload_n hx hb dX7_addStation_66 rfl (lv_at hl 1 rfl) ?_
        refine lv_iload hx hb dX7_addStation_67 (lv_at hl 2 rfl) ?_
        refine lv_aload_n hx hb dX7_addStation_69 rfl (lv_at hl 0 rfl) ?_
        obtain ⟨b55, hb56, h⟩ := h
        refine r_get (ci := 7) (v := .ref b55) (C := RX7) (T := TX7) (N := 10) hx hb hts hiX7 hown hK hw (ce_8 (S := S) hk40) rfl 5 (by decide) (hts (.fieldLink RX7 28 "TubePostLaw$Sim" "at" "[[LTubePostLaw$Carrier;") (by decide +kernel)) (fun _ h9 => h9) (congrArg (fun q => some (va_rf q)) hb56) dX7_addStation_70 ?_
        refine lv_iload hx hb dX7_addStation_73 (lv_at hl 2 rfl) ?_
        obtain ⟨hk57, h⟩ := h
        obtain ⟨hin58, h⟩ := h
        obtain ⟨b59, hb60, h⟩ := h
        refine r_cald hx hb hK hw hk57 hin58 dX7_addStation_75 ?_
        rw [hb60]
        refine W.eq (g2 := F0 m 76 ls [.ref b59, .int v4, .ref v3]) rfl ?_
        obtain ⟨hk61, h⟩ := h
        obtain ⟨hin62, h⟩ := h
        obtain ⟨hk63, h⟩ := h
        refine r_aast16 hx hb hK hO.2.2.1.2.2.1 hw hS hk61 hk63 hin62 dX7_addStation_76 (fun H locs hw hS => ?_)
        refine lv_iinc (v := (v4 + (1 : Int32))) hx hb dX7_addStation_77 hl (k := 2) rfl rfl (by decide) rfl (fun ls hl => ?_)
        have hl : lv_has ls 5 [(4, .int (v4 + (1 : Int32))), (0, .ref v0), (3, .ref v3)] := hl
        refine lv_goto (tgt := 56) hx hb dX7_addStation_80 (by decide) ?_
        exact ih56 _ _ _ _ _ _ _ _ _ _ _ h hw hS (lv_sub hl [1, 2, 0] rfl) hcu hsu
  unfold wp_X7_addStation at h
  have hcu : 0 + MC ≤ MC := by omega
  have hsu : 0 + MS ≤ MS := by omega
  refine lv_aload_n hx hb dX7_addStation_0 rfl (lv_at hl 0 rfl) ?_
  refine lv_aload_n hx hb dX7_addStation_1 rfl (lv_at hl 0 rfl) ?_
  obtain ⟨hk1, h⟩ := h
  obtain ⟨b2, hb3, h⟩ := h
  refine r_get (ci := 7) (v := .ref b2) (C := RX7) (T := TX7) (N := 10) hx hb hts hiX7 hown hK hw (ce_8 (S := S) hk1) rfl 1 (by decide) (hts (.fieldLink RX7 9 "TubePostLaw$Sim" "stations" "[[I") (by decide +kernel)) (fun _ h9 => h9) (congrArg (fun q => some (va_rf q)) hb3) dX7_addStation_2 ?_
  refine lv_iconst (v := (4 : Int32)) hx hb dX7_addStation_5 (by decide) ?_
  obtain ⟨hn0, hn1, hbg1, hbg2, h⟩ := h
  refine r_newa9 hx hb (hts (.arrayClass .int) (by decide +kernel)) hK hw hS hAn hAz hn0 rfl hn1 (by omega) (by omega) dX7_addStation_6 (fun q4 H hq5 hw hS => ?_)
  have h := h q4 hq5
  have hk6 : gK (sNew S q4 9 (Int32.toNatClampNeg (4 : Int32))) this = 8 := b_old hk1 hq5 (by decide)
  have hk7 : gK (sNew S q4 9 (Int32.toNatClampNeg (4 : Int32))) q4 = 9 := if_pos rfl
  have hcu : (0 + 1) + (MC - 1) ≤ MC := by omega
  have hsu : (0 + (Int32.toNatClampNeg (4 : Int32))) + (MS - (Int32.toNatClampNeg (4 : Int32))) ≤ MS := by omega
  refine lv_dup hx hb dX7_addStation_8 rfl ?_
  refine lv_iconst (v := (0 : Int32)) hx hb dX7_addStation_9 (by decide) ?_
  refine lv_iload_n hx hb dX7_addStation_10 rfl (lv_at hl 1 rfl) ?_
  obtain ⟨hin8, h⟩ := h
  refine r_iast hx hb hK hw hS hk7 hin8 dX7_addStation_11 (fun H locs hw hS => ?_)
  refine lv_dup hx hb dX7_addStation_12 rfl ?_
  refine lv_iconst (v := (1 : Int32)) hx hb dX7_addStation_13 (by decide) ?_
  refine lv_iload_n hx hb dX7_addStation_14 rfl (lv_at hl 2 rfl) ?_
  obtain ⟨hin9, h⟩ := h
  refine r_iast hx hb hK hw hS hk7 hin9 dX7_addStation_15 (fun H locs hw hS => ?_)
  refine lv_dup hx hb dX7_addStation_16 rfl ?_
  refine lv_iconst (v := (2 : Int32)) hx hb dX7_addStation_17 (by decide) ?_
  refine lv_iconst (v := (-1 : Int32)) hx hb dX7_addStation_18 (by decide) ?_
  obtain ⟨hin10, h⟩ := h
  refine r_iast hx hb hK hw hS hk7 hin10 dX7_addStation_19 (fun H locs hw hS => ?_)
  refine lv_dup hx hb dX7_addStation_20 rfl ?_
  refine lv_iconst (v := (3 : Int32)) hx hb dX7_addStation_21 (by decide) ?_
  refine lv_iconst (v := (0 : Int32)) hx hb dX7_addStation_22 (by decide) ?_
  obtain ⟨hin11, h⟩ := h
  refine r_iast hx hb hK hw hS hk7 hin11 dX7_addStation_23 (fun H locs hw hS => ?_)
  obtain ⟨k16, n17, hbg1, hbg2, h⟩ := h
  have h1 := h
  refine va_callq (va_runS (As := [.ref b2, .ref q4]) (rest := [.ref this]) ⟨hx, hb, hml, hown, hts⟩ (m_X7_more (l := l) h1) (cwS 2 hts gX7_addStation_X7_more rfl rfl rfl (by decide +kernel) ⟨Nat.le_trans (Nat.le_of_ble_eq_true rfl) hRf, Nat.le_trans (Nat.le_of_ble_eq_true rfl) hRl⟩) (r_pS hB hw hS) rfl rfl hl.1 rfl (lv_room (Nat.le_of_ble_eq_true rfl)) dX7_addStation_24 ⟨by omega, by omega⟩) hS (fun _ _ h => h) (fun _ h => h) (fun r12 S13 t H1 locs ht _ h hw1 _ _ hS => ?_)
  subst ht
  have hw : wd D y z S13 A t.heap := hw1
  clear hw1 h1
  have hcu : ((0 + 1) + k16) + ((MC - 1) - k16) ≤ MC := by omega
  have hsu : ((0 + (Int32.toNatClampNeg (4 : Int32))) + n17) + ((MS - (Int32.toNatClampNeg (4 : Int32))) - n17) ≤ MS := by omega
  obtain ⟨b14, rfl, h⟩ := h
  refine W.eq (g2 := F0 m 27 ls [.ref b14, .ref this]) rfl ?_
  obtain ⟨hk18, h⟩ := h
  refine r_putQ (κ := 8) (ci := 7) (C := RX7) (T := TX7) (N := 10) (ty := (tyX7 1)) (x := (some b14)) hx hb hts hiX7 tyX7 tyX7_ok nmX7 hown hK hw hS (ce_8 (S := S13) hk18) rfl 1 (by decide) (hts (.fieldLink RX7 9 "TubePostLaw$Sim" "stations" "[[I") (by decide +kernel)) (fun _ h9 => h9) rfl (by decide +kernel) rfl rfl (Nat.le_of_ble_eq_true rfl) (pu_8_1 (S := S13) hk18) dX7_addStation_27 (fun H locs hw hS => ?_)
  refine lv_aload_n hx hb dX7_addStation_30 rfl (lv_at hl 0 rfl) ?_
  refine lv_aload_n hx hb dX7_addStation_31 rfl (lv_at hl 0 rfl) ?_
  obtain ⟨b19, hb20, h⟩ := h
  refine r_get (ci := 7) (v := .ref b19) (C := RX7) (T := TX7) (N := 10) hx hb hts hiX7 hown hK hw (ce_8 (S := (sQ S13 8 this 1 (some b14))) hk18) rfl 7 (by decide) (hts (.fieldLink RX7 35 "TubePostLaw$Sim" "ways" "[[I") (by decide +kernel)) (fun _ h9 => h9) (congrArg (fun q => some (va_rf q)) hb20) dX7_addStation_32 ?_
  refine lv_iconst (v := (0 : Int32)) hx hb dX7_addStation_35 (by decide) ?_
  obtain ⟨hn0, hn1, hbg1, hbg2, h⟩ := h
  refine r_newa9 hx hb (hts (.arrayClass .int) (by decide +kernel)) hK hw hS hAn hAz hn0 rfl hn1 (by omega) (by omega) dX7_addStation_36 (fun q21 H hq22 hw hS => ?_)
  have h := h q21 hq22
  have hk23 : gK (sNew (sQ S13 8 this 1 (some b14)) q21 9 (Int32.toNatClampNeg (0 : Int32))) this = 8 := b_old hk18 hq22 (by decide)
  have hk24 : gK (sNew (sQ S13 8 this 1 (some b14)) q21 9 (Int32.toNatClampNeg (0 : Int32))) q21 = 9 := if_pos rfl
  have hcu : (((0 + 1) + k16) + 1) + (((MC - 1) - k16) - 1) ≤ MC := by omega
  have hsu : (((0 + (Int32.toNatClampNeg (4 : Int32))) + n17) + (Int32.toNatClampNeg (0 : Int32))) + (((MS - (Int32.toNatClampNeg (4 : Int32))) - n17) - (Int32.toNatClampNeg (0 : Int32))) ≤ MS := by omega
  obtain ⟨k29, n30, hbg1, hbg2, h⟩ := h
  have h1 := h
  refine va_callq (va_runS (As := [.ref b19, .ref q21]) (rest := [.ref this]) ⟨hx, hb, hml, hown, hts⟩ (m_X7_more (l := l) h1) (cwS 2 hts gX7_addStation_X7_more rfl rfl rfl (by decide +kernel) ⟨Nat.le_trans (Nat.le_of_ble_eq_true rfl) hRf, Nat.le_trans (Nat.le_of_ble_eq_true rfl) hRl⟩) (r_pS hB hw hS) rfl rfl hl.1 rfl (lv_room (Nat.le_of_ble_eq_true rfl)) dX7_addStation_38 ⟨by omega, by omega⟩) hS (fun _ _ h => h) (fun _ h => h) (fun r25 S26 t H1 locs ht _ h hw1 _ _ hS => ?_)
  subst ht
  have hw : wd D y z S26 A t.heap := hw1
  clear hw1 h1
  have hcu : ((((0 + 1) + k16) + 1) + k29) + ((((MC - 1) - k16) - 1) - k29) ≤ MC := by omega
  have hsu : ((((0 + (Int32.toNatClampNeg (4 : Int32))) + n17) + (Int32.toNatClampNeg (0 : Int32))) + n30) + ((((MS - (Int32.toNatClampNeg (4 : Int32))) - n17) - (Int32.toNatClampNeg (0 : Int32))) - n30) ≤ MS := by omega
  obtain ⟨b27, rfl, h⟩ := h
  refine W.eq (g2 := F0 m 41 ls [.ref b27, .ref this]) rfl ?_
  obtain ⟨hk31, h⟩ := h
  refine r_putQ (κ := 8) (ci := 7) (C := RX7) (T := TX7) (N := 10) (ty := (tyX7 7)) (x := (some b27)) hx hb hts hiX7 tyX7 tyX7_ok nmX7 hown hK hw hS (ce_8 (S := S26) hk31) rfl 7 (by decide) (hts (.fieldLink RX7 35 "TubePostLaw$Sim" "ways" "[[I") (by decide +kernel)) (fun _ h9 => h9) rfl (by decide +kernel) rfl rfl (Nat.le_of_ble_eq_true rfl) (pu_8_7 (S := S26) hk31) dX7_addStation_41 (fun H locs hw hS => ?_)
  refine lv_aload_n hx hb dX7_addStation_44 rfl (lv_at hl 0 rfl) ?_
  obtain ⟨b32, hb33, h⟩ := h
  refine r_get (ci := 7) (v := .ref b32) (C := RX7) (T := TX7) (N := 10) hx hb hts hiX7 hown hK hw (ce_8 (S := (sQ S26 8 this 7 (some b27))) hk31) rfl 1 (by decide) (hts (.fieldLink RX7 9 "TubePostLaw$Sim" "stations" "[[I") (by decide +kernel)) (fun _ h9 => h9) (congrArg (fun q => some (va_rf q)) hb33) dX7_addStation_45 ?_
  obtain ⟨hk34, h⟩ := h
  refine r_alen hx hb hK hw (S := (sQ S26 8 this 7 (some b27))) (by rw [show gK (sQ S26 8 this 7 (some b27)) b32 = 12 from hk34]; decide) rfl dX7_addStation_48 ?_
  obtain ⟨hn0, hn1, hbg1, hbg2, h⟩ := h
  refine r_newA (κ := 16) (ti := 5) (t := .object "TubePostLaw$Carrier") (yc := y 5) hx hb hown (va_Nw.use rfl (hNw _ bNw_76)) hO.2.2.1.2.2.1 hK rfl (by decide) ce_new16 hw hS hAn hAz hn0 rfl hn1 (by omega) (by omega) dX7_addStation_49 (fun q35 H hq36 hw hS => ?_)
  have h := h q35 hq36
  have hk37 : gK (sNew (sQ S26 8 this 7 (some b27)) q35 16 (Int32.toNatClampNeg (Int32.ofNat (gN (sQ S26 8 this 7 (some b27)) b32)))) this = 8 := b_old hk31 hq36 (by decide)
  have hk38 : gK (sNew (sQ S26 8 this 7 (some b27)) q35 16 (Int32.toNatClampNeg (Int32.ofNat (gN (sQ S26 8 this 7 (some b27)) b32)))) b32 = 12 := b_old hk34 hq36 (by decide)
  have hk39 : gK (sNew (sQ S26 8 this 7 (some b27)) q35 16 (Int32.toNatClampNeg (Int32.ofNat (gN (sQ S26 8 this 7 (some b27)) b32)))) q35 = 16 := if_pos rfl
  have hcu : (((((0 + 1) + k16) + 1) + k29) + 1) + (((((MC - 1) - k16) - 1) - k29) - 1) ≤ MC := by omega
  have hsu : (((((0 + (Int32.toNatClampNeg (4 : Int32))) + n17) + (Int32.toNatClampNeg (0 : Int32))) + n30) + (Int32.toNatClampNeg (Int32.ofNat (gN (sQ S26 8 this 7 (some b27)) b32)))) + (((((MS - (Int32.toNatClampNeg (4 : Int32))) - n17) - (Int32.toNatClampNeg (0 : Int32))) - n30) - (Int32.toNatClampNeg (Int32.ofNat (gN (sQ S26 8 this 7 (some b27)) b32)))) ≤ MS := by omega
  refine lv_astore_n hx hb dX7_addStation_52 rfl hl (by decide) rfl (fun ls hl => ?_)
  have hl : lv_has ls 5 [(3, .ref q35), (0, .ref this), (1, .int p1), (2, .int p2)] := hl
  refine lv_iconst (v := (0 : Int32)) hx hb dX7_addStation_53 (by decide) ?_
  refine lv_istore hx hb dX7_addStation_54 hl (by decide) rfl (fun ls hl => ?_)
  have hl : lv_has ls 5 [(4, .int (0 : Int32)), (3, .ref q35), (0, .ref this), (1, .int p1), (2, .int p2)] := hl
  obtain ⟨n56, h⟩ := h
  exact hB56 n56 _ _ _ _ _ _ _ _ _ _ _ h hw hS (lv_sub hl [2, 1, 0] rfl) hcu hsu
def wb_X7_addTube_135 (post : bS → Prop) : Nat → Nat → Nat → Nat → Nat → Int32 → bS → Prop
  | 0, _, _, _, _, _, _ => False
  | n + 1, mc, ms, v0, v7, v8, S => gK S v0 = 8 ∧ (∃ b86, gQ S 8 v0 6 = some b86 ∧ (gK S b86 = 16 ∧ (((Int32.ofNat (gN S b86)) ≤ v8 → ∃ b89, gQ S 8 v0 6 = some b89 ∧ (gK S b89 = 16 ∧ (¬ (0 : Int32) < 0 ∧ (Int32.toNatClampNeg (0 : Int32)) * 4 ≤ 536870912 ∧ 1 ≤ mc ∧ (Int32.toNatClampNeg (0 : Int32)) ≤ ms ∧ (∀ q92, gK S q92 = 0 → (gK (sNew S q92 15 (Int32.toNatClampNeg (0 : Int32))) v7 = 16 ∧ (vp_in (Int32.ofNat (gN S b89)) (gN (sNew S q92 15 (Int32.toNatClampNeg (0 : Int32))) v7) ∧ (post (sQ (sQ (sNew S q92 15 (Int32.toNatClampNeg (0 : Int32))) 16 v7 (Int32.toNatClampNeg (Int32.ofNat (gN S b89))) (some q92)) 8 v0 6 (some v7))))))))) ∧ (¬ ((Int32.ofNat (gN S b86)) ≤ v8) → ∃ b100, gQ S 8 v0 6 = some b100 ∧ (gK S b100 = 16 ∧ (vp_in v8 (gN S b100) ∧ (∃ b104, gQ S 16 b100 (Int32.toNatClampNeg v8) = some b104 ∧ (gK S v7 = 16 ∧ (vp_in v8 (gN S v7) ∧ (gK S b104 = 15 ∧ ((wb_X7_addTube_135 post n) mc ms v0 v7 (v8 + (1 : Int32)) (sQ S 16 v7 (Int32.toNatClampNeg v8) (some b104)))))))))))))
def wb_X7_addTube_16 (post : bS → Prop) : Nat → Nat → Nat → Nat → Int32 → Int32 → Int32 → Int32 → Int32 → Nat → Int32 → bS → Prop
  | 0, _, _, _, _, _, _, _, _, _, _, _ => False
  | n + 1, mc, ms, v0, v1, v2, v3, v4, v5, v6, v7, S => gK S v0 = 8 ∧ (∃ b16, gQ S 8 v0 7 = some b16 ∧ (gK S b16 = 12 ∧ (vp_in v1 (gN S b16) ∧ (∃ b20, gQ S 12 b16 (Int32.toNatClampNeg v1) = some b20 ∧ (gK S b20 = 9 ∧ (((Int32.ofNat (gN S b20)) ≤ v7 → ∃ b23, gQ S 8 v0 7 = some b23 ∧ (gK S b23 = 12 ∧ (vp_in v1 (gN S b23) ∧ (∃ b27, gQ S 12 b23 (Int32.toNatClampNeg v1) = some b27 ∧ (gK S b27 = 9 ∧ (∃ b30, gQ S 8 v0 2 = some b30 ∧ (gK S b30 = 12 ∧ (gK S v6 = 9 ∧ (vp_in (Int32.ofNat (gN S b27)) (gN S v6) ∧ (∃ b35, gQ (sV S 9 v6 (Int32.toNatClampNeg (Int32.ofNat (gN S b27))) (Int32.ofNat (gN S b30))) 8 v0 7 = some b35 ∧ (gK (sV S 9 v6 (Int32.toNatClampNeg (Int32.ofNat (gN S b27))) (Int32.ofNat (gN S b30))) b35 = 12 ∧ (vp_in v1 (gN (sV S 9 v6 (Int32.toNatClampNeg (Int32.ofNat (gN S b27))) (Int32.ofNat (gN S b30))) b35) ∧ (∃ b39, gQ (sQ (sV S 9 v6 (Int32.toNatClampNeg (Int32.ofNat (gN S b27))) (Int32.ofNat (gN S b30))) 12 b35 (Int32.toNatClampNeg v1) (some v6)) 8 v0 2 = some b39 ∧ (¬ (8 : Int32) < 0 ∧ (Int32.toNatClampNeg (8 : Int32)) * 4 ≤ 536870912 ∧ 1 ≤ mc ∧ (Int32.toNatClampNeg (8 : Int32)) ≤ ms ∧ (∀ q41, gK (sQ (sV S 9 v6 (Int32.toNatClampNeg (Int32.ofNat (gN S b27))) (Int32.ofNat (gN S b30))) 12 b35 (Int32.toNatClampNeg v1) (some v6)) q41 = 0 → (vp_in (0 : Int32) (gN (sNew (sQ (sV S 9 v6 (Int32.toNatClampNeg (Int32.ofNat (gN S b27))) (Int32.ofNat (gN S b30))) 12 b35 (Int32.toNatClampNeg v1) (some v6)) q41 9 (Int32.toNatClampNeg (8 : Int32))) q41) ∧ (vp_in (1 : Int32) (gN (sV (sNew (sQ (sV S 9 v6 (Int32.toNatClampNeg (Int32.ofNat (gN S b27))) (Int32.ofNat (gN S b30))) 12 b35 (Int32.toNatClampNeg v1) (some v6)) q41 9 (Int32.toNatClampNeg (8 : Int32))) 9 q41 (Int32.toNatClampNeg (0 : Int32)) v1) q41) ∧ (vp_in (2 : Int32) (gN (sV (sV (sNew (sQ (sV S 9 v6 (Int32.toNatClampNeg (Int32.ofNat (gN S b27))) (Int32.ofNat (gN S b30))) 12 b35 (Int32.toNatClampNeg v1) (some v6)) q41 9 (Int32.toNatClampNeg (8 : Int32))) 9 q41 (Int32.toNatClampNeg (0 : Int32)) v1) 9 q41 (Int32.toNatClampNeg (1 : Int32)) v2) q41) ∧ (vp_in (3 : Int32) (gN (sV (sV (sV (sNew (sQ (sV S 9 v6 (Int32.toNatClampNeg (Int32.ofNat (gN S b27))) (Int32.ofNat (gN S b30))) 12 b35 (Int32.toNatClampNeg v1) (some v6)) q41 9 (Int32.toNatClampNeg (8 : Int32))) 9 q41 (Int32.toNatClampNeg (0 : Int32)) v1) 9 q41 (Int32.toNatClampNeg (1 : Int32)) v2) 9 q41 (Int32.toNatClampNeg (2 : Int32)) v3) q41) ∧ (vp_in (4 : Int32) (gN (sV (sV (sV (sV (sNew (sQ (sV S 9 v6 (Int32.toNatClampNeg (Int32.ofNat (gN S b27))) (Int32.ofNat (gN S b30))) 12 b35 (Int32.toNatClampNeg v1) (some v6)) q41 9 (Int32.toNatClampNeg (8 : Int32))) 9 q41 (Int32.toNatClampNeg (0 : Int32)) v1) 9 q41 (Int32.toNatClampNeg (1 : Int32)) v2) 9 q41 (Int32.toNatClampNeg (2 : Int32)) v3) 9 q41 (Int32.toNatClampNeg (3 : Int32)) v4) q41) ∧ (vp_in (5 : Int32) (gN (sV (sV (sV (sV (sV (sNew (sQ (sV S 9 v6 (Int32.toNatClampNeg (Int32.ofNat (gN S b27))) (Int32.ofNat (gN S b30))) 12 b35 (Int32.toNatClampNeg v1) (some v6)) q41 9 (Int32.toNatClampNeg (8 : Int32))) 9 q41 (Int32.toNatClampNeg (0 : Int32)) v1) 9 q41 (Int32.toNatClampNeg (1 : Int32)) v2) 9 q41 (Int32.toNatClampNeg (2 : Int32)) v3) 9 q41 (Int32.toNatClampNeg (3 : Int32)) v4) 9 q41 (Int32.toNatClampNeg (4 : Int32)) v5) q41) ∧ (vp_in (6 : Int32) (gN (sV (sV (sV (sV (sV (sV (sNew (sQ (sV S 9 v6 (Int32.toNatClampNeg (Int32.ofNat (gN S b27))) (Int32.ofNat (gN S b30))) 12 b35 (Int32.toNatClampNeg v1) (some v6)) q41 9 (Int32.toNatClampNeg (8 : Int32))) 9 q41 (Int32.toNatClampNeg (0 : Int32)) v1) 9 q41 (Int32.toNatClampNeg (1 : Int32)) v2) 9 q41 (Int32.toNatClampNeg (2 : Int32)) v3) 9 q41 (Int32.toNatClampNeg (3 : Int32)) v4) 9 q41 (Int32.toNatClampNeg (4 : Int32)) v5) 9 q41 (Int32.toNatClampNeg (5 : Int32)) (1 : Int32)) q41) ∧ (vp_in (7 : Int32) (gN (sV (sV (sV (sV (sV (sV (sV (sNew (sQ (sV S 9 v6 (Int32.toNatClampNeg (Int32.ofNat (gN S b27))) (Int32.ofNat (gN S b30))) 12 b35 (Int32.toNatClampNeg v1) (some v6)) q41 9 (Int32.toNatClampNeg (8 : Int32))) 9 q41 (Int32.toNatClampNeg (0 : Int32)) v1) 9 q41 (Int32.toNatClampNeg (1 : Int32)) v2) 9 q41 (Int32.toNatClampNeg (2 : Int32)) v3) 9 q41 (Int32.toNatClampNeg (3 : Int32)) v4) 9 q41 (Int32.toNatClampNeg (4 : Int32)) v5) 9 q41 (Int32.toNatClampNeg (5 : Int32)) (1 : Int32)) 9 q41 (Int32.toNatClampNeg (6 : Int32)) (0 : Int32)) q41) ∧ (∃ k64 n65, k64 ≤ (mc - 1) ∧ n65 ≤ (ms - (Int32.toNatClampNeg (8 : Int32))) ∧ (wp_X7_more (fun r60 S61 => ∃ b62, r60 = some b62 ∧ (gK S61 v0 = 8 ∧ (∃ b67, gQ (sQ S61 8 v0 2 (some b62)) 8 v0 2 = some b67 ∧ (gK (sQ S61 8 v0 2 (some b62)) b67 = 12 ∧ (¬ (Int32.ofNat (gN (sQ S61 8 v0 2 (some b62)) b67)) < 0 ∧ (Int32.toNatClampNeg (Int32.ofNat (gN (sQ S61 8 v0 2 (some b62)) b67))) * 4 ≤ 536870912 ∧ 1 ≤ ((mc - 1) - k64) ∧ (Int32.toNatClampNeg (Int32.ofNat (gN (sQ S61 8 v0 2 (some b62)) b67))) ≤ ((ms - (Int32.toNatClampNeg (8 : Int32))) - n65) ∧ (∀ q70, gK (sQ S61 8 v0 2 (some b62)) q70 = 0 → (∃ n135, wb_X7_addTube_135 post n135 (((mc - 1) - k64) - 1) (((ms - (Int32.toNatClampNeg (8 : Int32))) - n65) - (Int32.toNatClampNeg (Int32.ofNat (gN (sQ S61 8 v0 2 (some b62)) b67)))) v0 q70 (0 : Int32) (sNew (sQ S61 8 v0 2 (some b62)) q70 16 (Int32.toNatClampNeg (Int32.ofNat (gN (sQ S61 8 v0 2 (some b62)) b67))))))))))) k64 n65 b39 q41 (sV (sV (sV (sV (sV (sV (sV (sV (sNew (sQ (sV S 9 v6 (Int32.toNatClampNeg (Int32.ofNat (gN S b27))) (Int32.ofNat (gN S b30))) 12 b35 (Int32.toNatClampNeg v1) (some v6)) q41 9 (Int32.toNatClampNeg (8 : Int32))) 9 q41 (Int32.toNatClampNeg (0 : Int32)) v1) 9 q41 (Int32.toNatClampNeg (1 : Int32)) v2) 9 q41 (Int32.toNatClampNeg (2 : Int32)) v3) 9 q41 (Int32.toNatClampNeg (3 : Int32)) v4) 9 q41 (Int32.toNatClampNeg (4 : Int32)) v5) 9 q41 (Int32.toNatClampNeg (5 : Int32)) (1 : Int32)) 9 q41 (Int32.toNatClampNeg (6 : Int32)) (0 : Int32)) 9 q41 (Int32.toNatClampNeg (7 : Int32)) (-1 : Int32))))))))))))))))))))))))))) ∧ (¬ ((Int32.ofNat (gN S b20)) ≤ v7) → ∃ b75, gQ S 8 v0 7 = some b75 ∧ (gK S b75 = 12 ∧ (vp_in v1 (gN S b75) ∧ (∃ b79, gQ S 12 b75 (Int32.toNatClampNeg v1) = some b79 ∧ (gK S b79 = 9 ∧ (vp_in v7 (gN S b79) ∧ (gK S v6 = 9 ∧ (vp_in v7 (gN S v6) ∧ ((wb_X7_addTube_16 post n) mc ms v0 v1 v2 v3 v4 v5 v6 (v7 + (1 : Int32)) (sV S 9 v6 (Int32.toNatClampNeg v7) (gV S 9 b79 (Int32.toNatClampNeg v7))))))))))))))))))
def wp_X7_addTube (post : bS → Prop) (MC MS : Nat) (this : Nat) (p1 : Int32) (p2 : Int32) (p3 : Int32) (p4 : Int32) (p5 : Int32) (S : bS) : Prop := gK S this = 8 ∧ (∃ b2, gQ S 8 this 7 = some b2 ∧ (gK S b2 = 12 ∧ (vp_in p1 (gN S b2) ∧ (∃ b6, gQ S 12 b2 (Int32.toNatClampNeg p1) = some b6 ∧ (gK S b6 = 9 ∧ (¬ ((Int32.ofNat (gN S b6)) + (1 : Int32)) < 0 ∧ (Int32.toNatClampNeg ((Int32.ofNat (gN S b6)) + (1 : Int32))) * 4 ≤ 536870912 ∧ 1 ≤ MC ∧ (Int32.toNatClampNeg ((Int32.ofNat (gN S b6)) + (1 : Int32))) ≤ MS ∧ (∀ q9, gK S q9 = 0 → (∃ n16, wb_X7_addTube_16 post n16 (MC - 1) (MS - (Int32.toNatClampNeg ((Int32.ofNat (gN S b6)) + (1 : Int32)))) this p1 p2 p3 p4 p5 q9 (0 : Int32) (sNew S q9 9 (Int32.toNatClampNeg ((Int32.ofNat (gN S b6)) + (1 : Int32))))))))))))
set_option maxHeartbeats 4000000 in
set_option maxRecDepth 100000 in
theorem m_X7_addTube {l : Launch} {D : va_G} {y : Nat → ClassId} {z : Nat} {A : Nat → Prop} {S : bS} {post : bS → Prop} {MC MS : Nat} {this : Nat} {p1 : Int32} {p2 : Int32} {p3 : Int32} {p4 : Int32} {p5 : Int32} (h : wp_X7_addTube post MC MS this p1 p2 p3 p4 p5 S) : Met l yX7_addTube wsX7_addTube ({ frames := 1, cells := MC, slots := MS, locals := 23 } : Room) (va_Pc ([Value.ref this, Value.int p1, Value.int p2, Value.int p3, Value.int p4, Value.int p5] : List Value) (bP D y z S A)) (va_Qv post (fun S' t => wd D y z S' A t.heap) A) MC MS A := by
  refine Met.ofW (cc := cX7_addTube) (maxL := 9) (ret := none) (by decide) rfl ?_
  intro p e s m args below meth c s₁ B hml hv
  obtain ⟨rfl, hB⟩ := hv
  have hx := B.exec
  have hb := B.bytes
  have hr := B.returns
  have hts := atoms_spec (ws := wsX7_addTube) B.pre
  have hown : s.vm.findClass RX7 = some m.cls := findClass_of_methodNamed B.named
  have hlocks := B.notSynchronized
  have hw : wd D y z S A s.heap := hB.1
  have hK : va_K D bCl (bT y) s := hB.2.1
  have hNw := hB.2.2.1
  have hAn : ∀ q : Nat, s.heap.size ≤ q → A q := hB.2.2.2.1
  have hAz : ¬ A z := hB.2.2.2.2.1
  have hO := hB.2.2.2.2.2.1
  have hS : va_S A s.heap s.heap [] := va_S.rf
  have hiX7 : ∀ w ∈ u_ws RX7 TX7 10, w ∈ wsX7_addTube := by decide +kernel
  have hl := lv_entry ([Value.ref this, Value.int p1, Value.int p2, Value.int p3, Value.int p4, Value.int p5] : List Value) (n := 9) (Nat.le_of_ble_eq_true rfl)
  rw [lg_entry_eq]
  generalize (lg_sl ([Value.ref this, Value.int p1, Value.int p2, Value.int p3, Value.int p4, Value.int p5] : List Value) ++ List.replicate (9 - (lg_sl ([Value.ref this, Value.int p1, Value.int p2, Value.int p3, Value.int p4, Value.int p5] : List Value)).length) Slot.unset).toArray = ls at hl ⊢
  have hl : lv_has ls 9 [(0, .ref this), (1, .int p1), (2, .int p2), (3, .int p3), (4, .int p4), (5, .int p5)] := hl
  obtain ⟨Q, hQ⟩ : ∃ Q, Q = MQ below (va_Qv post (fun S' t => wd D y z S' A t.heap) A) (([Value.ref this, Value.int p1, Value.int p2, Value.int p3, Value.int p4, Value.int p5] : List Value).toArray) s MC MS A := ⟨_, rfl⟩
  rw [← hQ]
  generalize hR : (headSpec wsX7_addTube ({ frames := 1, cells := MC, slots := MS, locals := 23 } : Room)).room = R
  have hRf : 1 ≤ R.frames := by rw [← hR]; exact Nat.le_refl _
  have hRl : 23 ≤ R.locals := by rw [← hR]; exact Nat.le_refl _
  have hRc : R.cells = MC := by rw [← hR]; rfl
  have hRs : R.slots = MS := by rw [← hR]; rfl
  have hret : ∀ (S : bS) (H : Heap) (locs : List Loc) (pc : Nat) (ls : Array Slot) (cu su : Nat) , post S → wd D y z S A H → va_S A s.heap H locs → cu ≤ MC → su ≤ MS → decode cX7_addTube pc = .ok (.return_, 1) → W p l e R s m (([Value.ref this, Value.int p1, Value.int p2, Value.int p3, Value.int p4, Value.int p5] : List Value).toArray) below meth c H locs cu su Q (F0 m pc ls []) := by
    intro S H locs pc ls cu su h hw hS hcu hsu d0
    rw [hQ]; refine W.widen hcu hsu ?_; exact W.vret hx hb hr (fun t ht hW => ⟨⟨S, rfl, h, by show wd D y z S A t.heap; rw [ht]; exact hw⟩, hS.F ht⟩) hS.2.2 d0 hlocks
  have hB135 : ∀ (n135 : Nat) (S : bS) (H : Heap) (locs : List Loc) (ls : Array Slot) (mc ms cu su : Nat) (v0 : Nat) (v7 : Nat) (v8 : Int32), wb_X7_addTube_135 post n135 mc ms v0 v7 v8 S → wd D y z S A H → va_S A s.heap H locs → lv_has ls 9 [(0, .ref v0), (7, .ref v7), (8, .int v8)] → cu + mc ≤ MC → su + ms ≤ MS → W p l e R s m (([Value.ref this, Value.int p1, Value.int p2, Value.int p3, Value.int p4, Value.int p5] : List Value).toArray) below meth c H locs cu su Q (F0 m 135 ls []) := by
    intro n135
    induction n135 with
    | zero =>
      intro S H locs ls mc ms cu su v0 v7 v8 h hw hS hl hcu hsu
      exact absurd h (by unfold wb_X7_addTube_135; exact id)
    | succ n135 ih135 =>
      intro S H locs ls mc ms cu su v0 v7 v8 h hw hS hl hcu hsu
      unfold wb_X7_addTube_135 at h
      refine lv_iload hx hb dX7_addTube_135 (lv_at hl 2 rfl) ?_
      refine lv_aload_n hx hb dX7_addTube_137 rfl (lv_at hl 0 rfl) ?_
      obtain ⟨hk85, h⟩ := h
      obtain ⟨b86, hb87, h⟩ := h
      refine r_get (ci := 7) (v := .ref b86) (C := RX7) (T := TX7) (N := 10) hx hb hts hiX7 hown hK hw (ce_8 (S := S) hk85) rfl 6 (by decide) (hts (.fieldLink RX7 32 "TubePostLaw$Sim" "in" "[[LTubePostLaw$Carrier;") (by decide +kernel)) (fun _ h9 => h9) (congrArg (fun q => some (va_rf q)) hb87) dX7_addTube_138 ?_
      obtain ⟨hk88, h⟩ := h
      refine r_alen hx hb hK hw (S := S) (by rw [show gK S b86 = 16 from hk88]; decide) rfl dX7_addTube_141 ?_
      refine lv_icmp_ge (tgt := 163) hx hb dX7_addTube_142 (by decide) (fun hc => ?_) (fun hc => ?_)
      · have h := h.1 hc
        refine lv_aload hx hb dX7_addTube_163 (lv_at hl 1 rfl) ?_
        refine lv_aload_n hx hb dX7_addTube_165 rfl (lv_at hl 0 rfl) ?_
        obtain ⟨b89, hb90, h⟩ := h
        refine r_get (ci := 7) (v := .ref b89) (C := RX7) (T := TX7) (N := 10) hx hb hts hiX7 hown hK hw (ce_8 (S := S) hk85) rfl 6 (by decide) (hts (.fieldLink RX7 32 "TubePostLaw$Sim" "in" "[[LTubePostLaw$Carrier;") (by decide +kernel)) (fun _ h9 => h9) (congrArg (fun q => some (va_rf q)) hb90) dX7_addTube_166 ?_
        obtain ⟨hk91, h⟩ := h
        refine r_alen hx hb hK hw (S := S) (by rw [show gK S b89 = 16 from hk91]; decide) rfl dX7_addTube_169 ?_
        refine lv_iconst (v := (0 : Int32)) hx hb dX7_addTube_170 (by decide) ?_
        obtain ⟨hn0, hn1, hbg1, hbg2, h⟩ := h
        refine r_newc hx hb hown (hts (.classLink RX7 21 "TubePostLaw$Carrier") (by decide +kernel)) hO.2.2.1.2.2.2 hK hw hS hAn hAz hn0 rfl hn1 (by omega) (by omega) dX7_addTube_171 (fun q92 H hq93 hw hS => ?_)
        have h := h q92 hq93
        have hk94 : gK (sNew S q92 15 (Int32.toNatClampNeg (0 : Int32))) v0 = 8 := b_old hk85 hq93 (by decide)
        have hk95 : gK (sNew S q92 15 (Int32.toNatClampNeg (0 : Int32))) b86 = 16 := b_old hk88 hq93 (by decide)
        have hk96 : gK (sNew S q92 15 (Int32.toNatClampNeg (0 : Int32))) b89 = 16 := b_old hk91 hq93 (by decide)
        have hk97 : gK (sNew S q92 15 (Int32.toNatClampNeg (0 : Int32))) q92 = 15 := if_pos rfl
        have hcu : (cu + 1) + (mc - 1) ≤ MC := by omega
        have hsu : (su + (Int32.toNatClampNeg (0 : Int32))) + (ms - (Int32.toNatClampNeg (0 : Int32))) ≤ MS := by omega
        obtain ⟨hk98, h⟩ := h
        obtain ⟨hin99, h⟩ := h
        refine r_aast16 hx hb hK hO.2.2.1.2.2.1 hw hS hk98 hk97 hin99 dX7_addTube_174 (fun H locs hw hS => ?_)
        refine lv_aload_n hx hb dX7_addTube_175 rfl (lv_at hl 0 rfl) ?_
        refine lv_aload hx hb dX7_addTube_176 (lv_at hl 1 rfl) ?_
        refine r_putQ (κ := 8) (ci := 7) (C := RX7) (T := TX7) (N := 10) (ty := (tyX7 6)) (x := (some v7)) hx hb hts hiX7 tyX7 tyX7_ok nmX7 hown hK hw hS (ce_8 (S := (sQ (sNew S q92 15 (Int32.toNatClampNeg (0 : Int32))) 16 v7 (Int32.toNatClampNeg (Int32.ofNat (gN S b89))) (some q92))) hk94) rfl 6 (by decide) (hts (.fieldLink RX7 32 "TubePostLaw$Sim" "in" "[[LTubePostLaw$Carrier;") (by decide +kernel)) (fun _ h9 => h9) rfl (by decide +kernel) rfl rfl (Nat.le_of_ble_eq_true rfl) (pu_8_6 (S := (sQ (sNew S q92 15 (Int32.toNatClampNeg (0 : Int32))) 16 v7 (Int32.toNatClampNeg (Int32.ofNat (gN S b89))) (some q92))) hk94) dX7_addTube_178 (fun H locs hw hS => ?_)
        exact hret _ _ _ _ _ _ _ h hw hS (by omega) (by omega) dX7_addTube_181
      · have h := h.2 hc
        refine lv_aload hx hb dX7_addTube_145 (lv_at hl 1 rfl) ?_
        refine lv_iload hx hb dX7_addTube_147 (lv_at hl 2 rfl) ?_
        refine lv_aload_n hx hb dX7_addTube_149 rfl (lv_at hl 0 rfl) ?_
        obtain ⟨b100, hb101, h⟩ := h
        refine r_get (ci := 7) (v := .ref b100) (C := RX7) (T := TX7) (N := 10) hx hb hts hiX7 hown hK hw (ce_8 (S := S) hk85) rfl 6 (by decide) (hts (.fieldLink RX7 32 "TubePostLaw$Sim" "in" "[[LTubePostLaw$Carrier;") (by decide +kernel)) (fun _ h9 => h9) (congrArg (fun q => some (va_rf q)) hb101) dX7_addTube_150 ?_
        refine lv_iload hx hb dX7_addTube_153 (lv_at hl 2 rfl) ?_
        obtain ⟨hk102, h⟩ := h
        obtain ⟨hin103, h⟩ := h
        obtain ⟨b104, hb105, h⟩ := h
        refine r_cald hx hb hK hw hk102 hin103 dX7_addTube_155 ?_
        rw [hb105]
        refine W.eq (g2 := F0 m 156 ls [.ref b104, .int v8, .ref v7]) rfl ?_
        obtain ⟨hk106, h⟩ := h
        obtain ⟨hin107, h⟩ := h
        obtain ⟨hk108, h⟩ := h
        refine r_aast16 hx hb hK hO.2.2.1.2.2.1 hw hS hk106 hk108 hin107 dX7_addTube_156 (fun H locs hw hS => ?_)
        refine lv_iinc (v := (v8 + (1 : Int32))) hx hb dX7_addTube_157 hl (k := 2) rfl rfl (by decide) rfl (fun ls hl => ?_)
        have hl : lv_has ls 9 [(8, .int (v8 + (1 : Int32))), (0, .ref v0), (7, .ref v7)] := hl
        refine lv_goto (tgt := 135) hx hb dX7_addTube_160 (by decide) ?_
        exact ih135 _ _ _ _ _ _ _ _ _ _ _ h hw hS (lv_sub hl [1, 2, 0] rfl) hcu hsu
  have hB16 : ∀ (n16 : Nat) (S : bS) (H : Heap) (locs : List Loc) (ls : Array Slot) (mc ms cu su : Nat) (v0 : Nat) (v1 : Int32) (v2 : Int32) (v3 : Int32) (v4 : Int32) (v5 : Int32) (v6 : Nat) (v7 : Int32), wb_X7_addTube_16 post n16 mc ms v0 v1 v2 v3 v4 v5 v6 v7 S → wd D y z S A H → va_S A s.heap H locs → lv_has ls 9 [(0, .ref v0), (1, .int v1), (2, .int v2), (3, .int v3), (4, .int v4), (5, .int v5), (6, .ref v6), (7, .int v7)] → cu + mc ≤ MC → su + ms ≤ MS → W p l e R s m (([Value.ref this, Value.int p1, Value.int p2, Value.int p3, Value.int p4, Value.int p5] : List Value).toArray) below meth c H locs cu su Q (F0 m 16 ls []) := by
    intro n16
    induction n16 with
    | zero =>
      intro S H locs ls mc ms cu su v0 v1 v2 v3 v4 v5 v6 v7 h hw hS hl hcu hsu
      exact absurd h (by unfold wb_X7_addTube_16; exact id)
    | succ n16 ih16 =>
      intro S H locs ls mc ms cu su v0 v1 v2 v3 v4 v5 v6 v7 h hw hS hl hcu hsu
      unfold wb_X7_addTube_16 at h
      refine lv_iload hx hb dX7_addTube_16 (lv_at hl 7 rfl) ?_
      refine lv_aload_n hx hb dX7_addTube_18 rfl (lv_at hl 0 rfl) ?_
      obtain ⟨hk15, h⟩ := h
      obtain ⟨b16, hb17, h⟩ := h
      refine r_get (ci := 7) (v := .ref b16) (C := RX7) (T := TX7) (N := 10) hx hb hts hiX7 hown hK hw (ce_8 (S := S) hk15) rfl 7 (by decide) (hts (.fieldLink RX7 35 "TubePostLaw$Sim" "ways" "[[I") (by decide +kernel)) (fun _ h9 => h9) (congrArg (fun q => some (va_rf q)) hb17) dX7_addTube_19 ?_
      refine lv_iload_n hx hb dX7_addTube_22 rfl (lv_at hl 1 rfl) ?_
      obtain ⟨hk18, h⟩ := h
      obtain ⟨hin19, h⟩ := h
      obtain ⟨b20, hb21, h⟩ := h
      refine r_rald hx hb hK hw hk18 hin19 dX7_addTube_23 ?_
      rw [hb21]
      refine W.eq (g2 := F0 m 24 ls [.ref b20, .int v7]) rfl ?_
      obtain ⟨hk22, h⟩ := h
      refine r_alen hx hb hK hw (S := S) (by rw [show gK S b20 = 9 from hk22]; decide) rfl dX7_addTube_24 ?_
      refine lv_icmp_ge (tgt := 48) hx hb dX7_addTube_25 (by decide) (fun hc => ?_) (fun hc => ?_)
      · have h := h.1 hc
        refine lv_aload hx hb dX7_addTube_48 (lv_at hl 6 rfl) ?_
        refine lv_aload_n hx hb dX7_addTube_50 rfl (lv_at hl 0 rfl) ?_
        obtain ⟨b23, hb24, h⟩ := h
        refine r_get (ci := 7) (v := .ref b23) (C := RX7) (T := TX7) (N := 10) hx hb hts hiX7 hown hK hw (ce_8 (S := S) hk15) rfl 7 (by decide) (hts (.fieldLink RX7 35 "TubePostLaw$Sim" "ways" "[[I") (by decide +kernel)) (fun _ h9 => h9) (congrArg (fun q => some (va_rf q)) hb24) dX7_addTube_51 ?_
        refine lv_iload_n hx hb dX7_addTube_54 rfl (lv_at hl 1 rfl) ?_
        obtain ⟨hk25, h⟩ := h
        obtain ⟨hin26, h⟩ := h
        obtain ⟨b27, hb28, h⟩ := h
        refine r_rald hx hb hK hw hk25 hin26 dX7_addTube_55 ?_
        rw [hb28]
        refine W.eq (g2 := F0 m 56 ls [.ref b27, .ref v6]) rfl ?_
        obtain ⟨hk29, h⟩ := h
        refine r_alen hx hb hK hw (S := S) (by rw [show gK S b27 = 9 from hk29]; decide) rfl dX7_addTube_56 ?_
        refine lv_aload_n hx hb dX7_addTube_57 rfl (lv_at hl 0 rfl) ?_
        obtain ⟨b30, hb31, h⟩ := h
        refine r_get (ci := 7) (v := .ref b30) (C := RX7) (T := TX7) (N := 10) hx hb hts hiX7 hown hK hw (ce_8 (S := S) hk15) rfl 2 (by decide) (hts (.fieldLink RX7 15 "TubePostLaw$Sim" "tubes" "[[I") (by decide +kernel)) (fun _ h9 => h9) (congrArg (fun q => some (va_rf q)) hb31) dX7_addTube_58 ?_
        obtain ⟨hk32, h⟩ := h
        refine r_alen hx hb hK hw (S := S) (by rw [show gK S b30 = 12 from hk32]; decide) rfl dX7_addTube_61 ?_
        obtain ⟨hk33, h⟩ := h
        obtain ⟨hin34, h⟩ := h
        refine r_iast hx hb hK hw hS hk33 hin34 dX7_addTube_62 (fun H locs hw hS => ?_)
        refine lv_aload_n hx hb dX7_addTube_63 rfl (lv_at hl 0 rfl) ?_
        obtain ⟨b35, hb36, h⟩ := h
        refine r_get (ci := 7) (v := .ref b35) (C := RX7) (T := TX7) (N := 10) hx hb hts hiX7 hown hK hw (ce_8 (S := (sV S 9 v6 (Int32.toNatClampNeg (Int32.ofNat (gN S b27))) (Int32.ofNat (gN S b30)))) hk15) rfl 7 (by decide) (hts (.fieldLink RX7 35 "TubePostLaw$Sim" "ways" "[[I") (by decide +kernel)) (fun _ h9 => h9) (congrArg (fun q => some (va_rf q)) hb36) dX7_addTube_64 ?_
        refine lv_iload_n hx hb dX7_addTube_67 rfl (lv_at hl 1 rfl) ?_
        refine lv_aload hx hb dX7_addTube_68 (lv_at hl 6 rfl) ?_
        obtain ⟨hk37, h⟩ := h
        obtain ⟨hin38, h⟩ := h
        refine r_aast12 hx hb hK hO.2.2.1.1 hw hS hk37 hk33 hin38 dX7_addTube_70 (fun H locs hw hS => ?_)
        refine lv_aload_n hx hb dX7_addTube_71 rfl (lv_at hl 0 rfl) ?_
        refine lv_aload_n hx hb dX7_addTube_72 rfl (lv_at hl 0 rfl) ?_
        obtain ⟨b39, hb40, h⟩ := h
        refine r_get (ci := 7) (v := .ref b39) (C := RX7) (T := TX7) (N := 10) hx hb hts hiX7 hown hK hw (ce_8 (S := (sQ (sV S 9 v6 (Int32.toNatClampNeg (Int32.ofNat (gN S b27))) (Int32.ofNat (gN S b30))) 12 b35 (Int32.toNatClampNeg v1) (some v6))) hk15) rfl 2 (by decide) (hts (.fieldLink RX7 15 "TubePostLaw$Sim" "tubes" "[[I") (by decide +kernel)) (fun _ h9 => h9) (congrArg (fun q => some (va_rf q)) hb40) dX7_addTube_73 ?_
        refine lv_bipush (v := (8 : Int32)) hx hb dX7_addTube_76 (by decide) ?_
        obtain ⟨hn0, hn1, hbg1, hbg2, h⟩ := h
        refine r_newa9 hx hb (hts (.arrayClass .int) (by decide +kernel)) hK hw hS hAn hAz hn0 rfl hn1 (by omega) (by omega) dX7_addTube_78 (fun q41 H hq42 hw hS => ?_)
        have h := h q41 hq42
        have hk43 : gK (sNew (sQ (sV S 9 v6 (Int32.toNatClampNeg (Int32.ofNat (gN S b27))) (Int32.ofNat (gN S b30))) 12 b35 (Int32.toNatClampNeg v1) (some v6)) q41 9 (Int32.toNatClampNeg (8 : Int32))) v0 = 8 := b_old hk15 hq42 (by decide)
        have hk44 : gK (sNew (sQ (sV S 9 v6 (Int32.toNatClampNeg (Int32.ofNat (gN S b27))) (Int32.ofNat (gN S b30))) 12 b35 (Int32.toNatClampNeg v1) (some v6)) q41 9 (Int32.toNatClampNeg (8 : Int32))) b16 = 12 := b_old hk18 hq42 (by decide)
        have hk45 : gK (sNew (sQ (sV S 9 v6 (Int32.toNatClampNeg (Int32.ofNat (gN S b27))) (Int32.ofNat (gN S b30))) 12 b35 (Int32.toNatClampNeg v1) (some v6)) q41 9 (Int32.toNatClampNeg (8 : Int32))) b20 = 9 := b_old hk22 hq42 (by decide)
        have hk46 : gK (sNew (sQ (sV S 9 v6 (Int32.toNatClampNeg (Int32.ofNat (gN S b27))) (Int32.ofNat (gN S b30))) 12 b35 (Int32.toNatClampNeg v1) (some v6)) q41 9 (Int32.toNatClampNeg (8 : Int32))) b23 = 12 := b_old hk25 hq42 (by decide)
        have hk47 : gK (sNew (sQ (sV S 9 v6 (Int32.toNatClampNeg (Int32.ofNat (gN S b27))) (Int32.ofNat (gN S b30))) 12 b35 (Int32.toNatClampNeg v1) (some v6)) q41 9 (Int32.toNatClampNeg (8 : Int32))) b27 = 9 := b_old hk29 hq42 (by decide)
        have hk48 : gK (sNew (sQ (sV S 9 v6 (Int32.toNatClampNeg (Int32.ofNat (gN S b27))) (Int32.ofNat (gN S b30))) 12 b35 (Int32.toNatClampNeg v1) (some v6)) q41 9 (Int32.toNatClampNeg (8 : Int32))) b30 = 12 := b_old hk32 hq42 (by decide)
        have hk49 : gK (sNew (sQ (sV S 9 v6 (Int32.toNatClampNeg (Int32.ofNat (gN S b27))) (Int32.ofNat (gN S b30))) 12 b35 (Int32.toNatClampNeg v1) (some v6)) q41 9 (Int32.toNatClampNeg (8 : Int32))) v6 = 9 := b_old hk33 hq42 (by decide)
        have hk50 : gK (sNew (sQ (sV S 9 v6 (Int32.toNatClampNeg (Int32.ofNat (gN S b27))) (Int32.ofNat (gN S b30))) 12 b35 (Int32.toNatClampNeg v1) (some v6)) q41 9 (Int32.toNatClampNeg (8 : Int32))) b35 = 12 := b_old hk37 hq42 (by decide)
        have hk51 : gK (sNew (sQ (sV S 9 v6 (Int32.toNatClampNeg (Int32.ofNat (gN S b27))) (Int32.ofNat (gN S b30))) 12 b35 (Int32.toNatClampNeg v1) (some v6)) q41 9 (Int32.toNatClampNeg (8 : Int32))) q41 = 9 := if_pos rfl
        have hcu : (cu + 1) + (mc - 1) ≤ MC := by omega
        have hsu : (su + (Int32.toNatClampNeg (8 : Int32))) + (ms - (Int32.toNatClampNeg (8 : Int32))) ≤ MS := by omega
        refine lv_dup hx hb dX7_addTube_80 rfl ?_
        refine lv_iconst (v := (0 : Int32)) hx hb dX7_addTube_81 (by decide) ?_
        refine lv_iload_n hx hb dX7_addTube_82 rfl (lv_at hl 1 rfl) ?_
        obtain ⟨hin52, h⟩ := h
        refine r_iast hx hb hK hw hS hk51 hin52 dX7_addTube_83 (fun H locs hw hS => ?_)
        refine lv_dup hx hb dX7_addTube_84 rfl ?_
        refine lv_iconst (v := (1 : Int32)) hx hb dX7_addTube_85 (by decide) ?_
        refine lv_iload_n hx hb dX7_addTube_86 rfl (lv_at hl 2 rfl) ?_
        obtain ⟨hin53, h⟩ := h
        refine r_iast hx hb hK hw hS hk51 hin53 dX7_addTube_87 (fun H locs hw hS => ?_)
        refine lv_dup hx hb dX7_addTube_88 rfl ?_
        refine lv_iconst (v := (2 : Int32)) hx hb dX7_addTube_89 (by decide) ?_
        refine lv_iload_n hx hb dX7_addTube_90 rfl (lv_at hl 3 rfl) ?_
        obtain ⟨hin54, h⟩ := h
        refine r_iast hx hb hK hw hS hk51 hin54 dX7_addTube_91 (fun H locs hw hS => ?_)
        refine lv_dup hx hb dX7_addTube_92 rfl ?_
        refine lv_iconst (v := (3 : Int32)) hx hb dX7_addTube_93 (by decide) ?_
        refine lv_iload hx hb dX7_addTube_94 (lv_at hl 4 rfl) ?_
        obtain ⟨hin55, h⟩ := h
        refine r_iast hx hb hK hw hS hk51 hin55 dX7_addTube_96 (fun H locs hw hS => ?_)
        refine lv_dup hx hb dX7_addTube_97 rfl ?_
        refine lv_iconst (v := (4 : Int32)) hx hb dX7_addTube_98 (by decide) ?_
        refine lv_iload hx hb dX7_addTube_99 (lv_at hl 5 rfl) ?_
        obtain ⟨hin56, h⟩ := h
        refine r_iast hx hb hK hw hS hk51 hin56 dX7_addTube_101 (fun H locs hw hS => ?_)
        refine lv_dup hx hb dX7_addTube_102 rfl ?_
        refine lv_iconst (v := (5 : Int32)) hx hb dX7_addTube_103 (by decide) ?_
        refine lv_iconst (v := (1 : Int32)) hx hb dX7_addTube_104 (by decide) ?_
        obtain ⟨hin57, h⟩ := h
        refine r_iast hx hb hK hw hS hk51 hin57 dX7_addTube_105 (fun H locs hw hS => ?_)
        refine lv_dup hx hb dX7_addTube_106 rfl ?_
        refine lv_bipush (v := (6 : Int32)) hx hb dX7_addTube_107 (by decide) ?_
        refine lv_iconst (v := (0 : Int32)) hx hb dX7_addTube_109 (by decide) ?_
        obtain ⟨hin58, h⟩ := h
        refine r_iast hx hb hK hw hS hk51 hin58 dX7_addTube_110 (fun H locs hw hS => ?_)
        refine lv_dup hx hb dX7_addTube_111 rfl ?_
        refine lv_bipush (v := (7 : Int32)) hx hb dX7_addTube_112 (by decide) ?_
        refine lv_iconst (v := (-1 : Int32)) hx hb dX7_addTube_114 (by decide) ?_
        obtain ⟨hin59, h⟩ := h
        refine r_iast hx hb hK hw hS hk51 hin59 dX7_addTube_115 (fun H locs hw hS => ?_)
        obtain ⟨k64, n65, hbg1, hbg2, h⟩ := h
        have h1 := h
        refine va_callq (va_runS (As := [.ref b39, .ref q41]) (rest := [.ref v0]) ⟨hx, hb, hml, hown, hts⟩ (m_X7_more (l := l) h1) (cwS 2 hts gX7_addTube_X7_more rfl rfl rfl (by decide +kernel) ⟨Nat.le_trans (Nat.le_of_ble_eq_true rfl) hRf, Nat.le_trans (Nat.le_of_ble_eq_true rfl) hRl⟩) (r_pS hB hw hS) rfl rfl hl.1 rfl (lv_room (Nat.le_of_ble_eq_true rfl)) dX7_addTube_116 ⟨by omega, by omega⟩) hS (fun _ _ h => h) (fun _ h => h) (fun r60 S61 t H1 locs ht _ h hw1 _ _ hS => ?_)
        subst ht
        have hw : wd D y z S61 A t.heap := hw1
        clear hw1 h1
        have hcu : ((cu + 1) + k64) + ((mc - 1) - k64) ≤ MC := by omega
        have hsu : ((su + (Int32.toNatClampNeg (8 : Int32))) + n65) + ((ms - (Int32.toNatClampNeg (8 : Int32))) - n65) ≤ MS := by omega
        obtain ⟨b62, rfl, h⟩ := h
        refine W.eq (g2 := F0 m 119 ls [.ref b62, .ref v0]) rfl ?_
        obtain ⟨hk66, h⟩ := h
        refine r_putQ (κ := 8) (ci := 7) (C := RX7) (T := TX7) (N := 10) (ty := (tyX7 2)) (x := (some b62)) hx hb hts hiX7 tyX7 tyX7_ok nmX7 hown hK hw hS (ce_8 (S := S61) hk66) rfl 2 (by decide) (hts (.fieldLink RX7 15 "TubePostLaw$Sim" "tubes" "[[I") (by decide +kernel)) (fun _ h9 => h9) rfl (by decide +kernel) rfl rfl (Nat.le_of_ble_eq_true rfl) (pu_8_2 (S := S61) hk66) dX7_addTube_119 (fun H locs hw hS => ?_)
        refine lv_aload_n hx hb dX7_addTube_122 rfl (lv_at hl 0 rfl) ?_
        obtain ⟨b67, hb68, h⟩ := h
        refine r_get (ci := 7) (v := .ref b67) (C := RX7) (T := TX7) (N := 10) hx hb hts hiX7 hown hK hw (ce_8 (S := (sQ S61 8 v0 2 (some b62))) hk66) rfl 2 (by decide) (hts (.fieldLink RX7 15 "TubePostLaw$Sim" "tubes" "[[I") (by decide +kernel)) (fun _ h9 => h9) (congrArg (fun q => some (va_rf q)) hb68) dX7_addTube_123 ?_
        obtain ⟨hk69, h⟩ := h
        refine r_alen hx hb hK hw (S := (sQ S61 8 v0 2 (some b62))) (by rw [show gK (sQ S61 8 v0 2 (some b62)) b67 = 12 from hk69]; decide) rfl dX7_addTube_126 ?_
        obtain ⟨hn0, hn1, hbg1, hbg2, h⟩ := h
        refine r_newA (κ := 16) (ti := 5) (t := .object "TubePostLaw$Carrier") (yc := y 5) hx hb hown (va_Nw.use rfl (hNw _ bNw_76)) hO.2.2.1.2.2.1 hK rfl (by decide) ce_new16 hw hS hAn hAz hn0 rfl hn1 (by omega) (by omega) dX7_addTube_127 (fun q70 H hq71 hw hS => ?_)
        have h := h q70 hq71
        have hk72 : gK (sNew (sQ S61 8 v0 2 (some b62)) q70 16 (Int32.toNatClampNeg (Int32.ofNat (gN (sQ S61 8 v0 2 (some b62)) b67)))) v0 = 8 := b_old hk66 hq71 (by decide)
        have hk73 : gK (sNew (sQ S61 8 v0 2 (some b62)) q70 16 (Int32.toNatClampNeg (Int32.ofNat (gN (sQ S61 8 v0 2 (some b62)) b67)))) b67 = 12 := b_old hk69 hq71 (by decide)
        have hk74 : gK (sNew (sQ S61 8 v0 2 (some b62)) q70 16 (Int32.toNatClampNeg (Int32.ofNat (gN (sQ S61 8 v0 2 (some b62)) b67)))) q70 = 16 := if_pos rfl
        have hcu : (((cu + 1) + k64) + 1) + (((mc - 1) - k64) - 1) ≤ MC := by omega
        have hsu : (((su + (Int32.toNatClampNeg (8 : Int32))) + n65) + (Int32.toNatClampNeg (Int32.ofNat (gN (sQ S61 8 v0 2 (some b62)) b67)))) + (((ms - (Int32.toNatClampNeg (8 : Int32))) - n65) - (Int32.toNatClampNeg (Int32.ofNat (gN (sQ S61 8 v0 2 (some b62)) b67)))) ≤ MS := by omega
        refine lv_astore hx hb dX7_addTube_130 hl (by decide) rfl (fun ls hl => ?_)
        have hl : lv_has ls 9 [(7, .ref q70), (0, .ref v0), (1, .int v1), (2, .int v2), (3, .int v3), (4, .int v4), (5, .int v5), (6, .ref v6)] := hl
        refine lv_iconst (v := (0 : Int32)) hx hb dX7_addTube_132 (by decide) ?_
        refine lv_istore hx hb dX7_addTube_133 hl (by decide) rfl (fun ls hl => ?_)
        have hl : lv_has ls 9 [(8, .int (0 : Int32)), (7, .ref q70), (0, .ref v0), (1, .int v1), (2, .int v2), (3, .int v3), (4, .int v4), (5, .int v5), (6, .ref v6)] := hl
        obtain ⟨n135, h⟩ := h
        exact hB135 n135 _ _ _ _ _ _ _ _ _ _ _ h hw hS (lv_sub hl [2, 1, 0] rfl) hcu hsu
      · have h := h.2 hc
        refine lv_aload hx hb dX7_addTube_28 (lv_at hl 6 rfl) ?_
        refine lv_iload hx hb dX7_addTube_30 (lv_at hl 7 rfl) ?_
        refine lv_aload_n hx hb dX7_addTube_32 rfl (lv_at hl 0 rfl) ?_
        obtain ⟨b75, hb76, h⟩ := h
        refine r_get (ci := 7) (v := .ref b75) (C := RX7) (T := TX7) (N := 10) hx hb hts hiX7 hown hK hw (ce_8 (S := S) hk15) rfl 7 (by decide) (hts (.fieldLink RX7 35 "TubePostLaw$Sim" "ways" "[[I") (by decide +kernel)) (fun _ h9 => h9) (congrArg (fun q => some (va_rf q)) hb76) dX7_addTube_33 ?_
        refine lv_iload_n hx hb dX7_addTube_36 rfl (lv_at hl 1 rfl) ?_
        obtain ⟨hk77, h⟩ := h
        obtain ⟨hin78, h⟩ := h
        obtain ⟨b79, hb80, h⟩ := h
        refine r_rald hx hb hK hw hk77 hin78 dX7_addTube_37 ?_
        rw [hb80]
        refine W.eq (g2 := F0 m 38 ls [.ref b79, .int v7, .ref v6]) rfl ?_
        refine lv_iload hx hb dX7_addTube_38 (lv_at hl 7 rfl) ?_
        obtain ⟨hk81, h⟩ := h
        obtain ⟨hin82, h⟩ := h
        refine r_iald hx hb hK hw hk81 hin82 dX7_addTube_40 ?_
        obtain ⟨hk83, h⟩ := h
        obtain ⟨hin84, h⟩ := h
        refine r_iast hx hb hK hw hS hk83 hin84 dX7_addTube_41 (fun H locs hw hS => ?_)
        refine lv_iinc (v := (v7 + (1 : Int32))) hx hb dX7_addTube_42 hl (k := 7) rfl rfl (by decide) rfl (fun ls hl => ?_)
        have hl : lv_has ls 9 [(7, .int (v7 + (1 : Int32))), (0, .ref v0), (1, .int v1), (2, .int v2), (3, .int v3), (4, .int v4), (5, .int v5), (6, .ref v6)] := hl
        refine lv_goto (tgt := 16) hx hb dX7_addTube_45 (by decide) ?_
        exact ih16 _ _ _ _ _ _ _ _ _ _ _ _ _ _ _ _ h hw hS (lv_sub hl [1, 2, 3, 4, 5, 6, 7, 0] rfl) hcu hsu
  unfold wp_X7_addTube at h
  have hcu : 0 + MC ≤ MC := by omega
  have hsu : 0 + MS ≤ MS := by omega
  refine lv_aload_n hx hb dX7_addTube_0 rfl (lv_at hl 0 rfl) ?_
  obtain ⟨hk1, h⟩ := h
  obtain ⟨b2, hb3, h⟩ := h
  refine r_get (ci := 7) (v := .ref b2) (C := RX7) (T := TX7) (N := 10) hx hb hts hiX7 hown hK hw (ce_8 (S := S) hk1) rfl 7 (by decide) (hts (.fieldLink RX7 35 "TubePostLaw$Sim" "ways" "[[I") (by decide +kernel)) (fun _ h9 => h9) (congrArg (fun q => some (va_rf q)) hb3) dX7_addTube_1 ?_
  refine lv_iload_n hx hb dX7_addTube_4 rfl (lv_at hl 1 rfl) ?_
  obtain ⟨hk4, h⟩ := h
  obtain ⟨hin5, h⟩ := h
  obtain ⟨b6, hb7, h⟩ := h
  refine r_rald hx hb hK hw hk4 hin5 dX7_addTube_5 ?_
  rw [hb7]
  refine W.eq (g2 := F0 m 6 ls [.ref b6]) rfl ?_
  obtain ⟨hk8, h⟩ := h
  refine r_alen hx hb hK hw (S := S) (by rw [show gK S b6 = 9 from hk8]; decide) rfl dX7_addTube_6 ?_
  refine lv_iconst (v := (1 : Int32)) hx hb dX7_addTube_7 (by decide) ?_
  refine lv_iadd hx hb dX7_addTube_8 ?_
  obtain ⟨hn0, hn1, hbg1, hbg2, h⟩ := h
  refine r_newa9 hx hb (hts (.arrayClass .int) (by decide +kernel)) hK hw hS hAn hAz hn0 rfl hn1 (by omega) (by omega) dX7_addTube_9 (fun q9 H hq10 hw hS => ?_)
  have h := h q9 hq10
  have hk11 : gK (sNew S q9 9 (Int32.toNatClampNeg ((Int32.ofNat (gN S b6)) + (1 : Int32)))) this = 8 := b_old hk1 hq10 (by decide)
  have hk12 : gK (sNew S q9 9 (Int32.toNatClampNeg ((Int32.ofNat (gN S b6)) + (1 : Int32)))) b2 = 12 := b_old hk4 hq10 (by decide)
  have hk13 : gK (sNew S q9 9 (Int32.toNatClampNeg ((Int32.ofNat (gN S b6)) + (1 : Int32)))) b6 = 9 := b_old hk8 hq10 (by decide)
  have hk14 : gK (sNew S q9 9 (Int32.toNatClampNeg ((Int32.ofNat (gN S b6)) + (1 : Int32)))) q9 = 9 := if_pos rfl
  have hcu : (0 + 1) + (MC - 1) ≤ MC := by omega
  have hsu : (0 + (Int32.toNatClampNeg ((Int32.ofNat (gN S b6)) + (1 : Int32)))) + (MS - (Int32.toNatClampNeg ((Int32.ofNat (gN S b6)) + (1 : Int32)))) ≤ MS := by omega
  refine lv_astore hx hb dX7_addTube_11 hl (by decide) rfl (fun ls hl => ?_)
  have hl : lv_has ls 9 [(6, .ref q9), (0, .ref this), (1, .int p1), (2, .int p2), (3, .int p3), (4, .int p4), (5, .int p5)] := hl
  refine lv_iconst (v := (0 : Int32)) hx hb dX7_addTube_13 (by decide) ?_
  refine lv_istore hx hb dX7_addTube_14 hl (by decide) rfl (fun ls hl => ?_)
  have hl : lv_has ls 9 [(7, .int (0 : Int32)), (6, .ref q9), (0, .ref this), (1, .int p1), (2, .int p2), (3, .int p3), (4, .int p4), (5, .int p5)] := hl
  obtain ⟨n16, h⟩ := h
  exact hB16 n16 _ _ _ _ _ _ _ _ _ _ _ _ _ _ _ _ h hw hS (lv_sub hl [2, 3, 4, 5, 6, 7, 1, 0] rfl) hcu hsu
def wp_X7_out (post : Option Nat → bS → Prop) (this : Nat) (p1 : Int32) (S : bS) : Prop := gK S this = 8 ∧ (∃ b2, gQ S 8 this 7 = some b2 ∧ (gK S b2 = 12 ∧ (vp_in p1 (gN S b2) ∧ (∃ b6, gQ S 12 b2 (Int32.toNatClampNeg p1) = some b6 ∧ (post (some b6) S)))))
set_option maxHeartbeats 4000000 in
set_option maxRecDepth 100000 in
theorem m_X7_out {l : Launch} {D : va_G} {y : Nat → ClassId} {z : Nat} {A : Nat → Prop} {S : bS} {post : Option Nat → bS → Prop} {this : Nat} {p1 : Int32} (h : wp_X7_out post this p1 S) : Met l yX7_out wsX7_out ({ frames := 0, cells := 0, slots := 0, locals := 0 } : Room) (va_Pc ([Value.ref this, Value.int p1] : List Value) (bP D y z S A)) (va_Qq post (fun S' t => wd D y z S' A t.heap) A) 0 0 A := by
  refine Met.ofW (cc := cX7_out) (maxL := 2) (ret := (some (.array .int))) (by decide) rfl ?_
  intro p e s m args below meth c s₁ B hml hv
  obtain ⟨rfl, hB⟩ := hv
  have hx := B.exec
  have hb := B.bytes
  have hr := B.returns
  have hts := atoms_spec (ws := wsX7_out) B.pre
  have hown : s.vm.findClass RX7 = some m.cls := findClass_of_methodNamed B.named
  have hlocks := B.notSynchronized
  have hw : wd D y z S A s.heap := hB.1
  have hK : va_K D bCl (bT y) s := hB.2.1
  have hNw := hB.2.2.1
  have hAn : ∀ q : Nat, s.heap.size ≤ q → A q := hB.2.2.2.1
  have hAz : ¬ A z := hB.2.2.2.2.1
  have hO := hB.2.2.2.2.2.1
  have hS : va_S A s.heap s.heap [] := va_S.rf
  have hiX7 : ∀ w ∈ u_ws RX7 TX7 10, w ∈ wsX7_out := by decide +kernel
  have hl := lv_entry ([Value.ref this, Value.int p1] : List Value) (n := 2) (Nat.le_of_ble_eq_true rfl)
  rw [lg_entry_eq]
  generalize (lg_sl ([Value.ref this, Value.int p1] : List Value) ++ List.replicate (2 - (lg_sl ([Value.ref this, Value.int p1] : List Value)).length) Slot.unset).toArray = ls at hl ⊢
  have hl : lv_has ls 2 [(0, .ref this), (1, .int p1)] := hl
  obtain ⟨Q, hQ⟩ : ∃ Q, Q = MQ below (va_Qq post (fun S' t => wd D y z S' A t.heap) A) (([Value.ref this, Value.int p1] : List Value).toArray) s 0 0 A := ⟨_, rfl⟩
  rw [← hQ]
  generalize hR : (headSpec wsX7_out ({ frames := 0, cells := 0, slots := 0, locals := 0 } : Room)).room = R
  have hRf : 0 ≤ R.frames := by rw [← hR]; exact Nat.le_refl _
  have hRl : 0 ≤ R.locals := by rw [← hR]; exact Nat.le_refl _
  have hret : ∀ (v : Option Nat) (S : bS) (H : Heap) (locs : List Loc) (pc : Nat) (ls : Array Slot) , post v S → wd D y z S A H → va_S A s.heap H locs → decode cX7_out pc = .ok (.areturn, 1) → W p l e R s m (([Value.ref this, Value.int p1] : List Value).toArray) below meth c H locs 0 0 Q (F0 m pc ls [va_rf v]) := by
    intro v S H locs pc ls h hw hS d0
    rw [hQ]; exact W.aret hx hb hr (by first | exact Or.inl ⟨_, rfl⟩ | exact Or.inr ⟨_, rfl⟩) (by cases v with | none => exact Or.inl rfl | some a => exact Or.inr ⟨a, rfl⟩) (fun t ht hW => ⟨⟨v, S, rfl, h, by show wd D y z S A t.heap; rw [ht]; exact hw⟩, hS.F ht⟩) hS.2.2 d0 hlocks
  unfold wp_X7_out at h
  refine lv_aload_n hx hb dX7_out_0 rfl (lv_at hl 0 rfl) ?_
  obtain ⟨hk1, h⟩ := h
  obtain ⟨b2, hb3, h⟩ := h
  refine r_get (ci := 7) (v := .ref b2) (C := RX7) (T := TX7) (N := 10) hx hb hts hiX7 hown hK hw (ce_8 (S := S) hk1) rfl 7 (by decide) (hts (.fieldLink RX7 35 "TubePostLaw$Sim" "ways" "[[I") (by decide +kernel)) (fun _ h9 => h9) (congrArg (fun q => some (va_rf q)) hb3) dX7_out_1 ?_
  refine lv_iload_n hx hb dX7_out_4 rfl (lv_at hl 1 rfl) ?_
  obtain ⟨hk4, h⟩ := h
  obtain ⟨hin5, h⟩ := h
  obtain ⟨b6, hb7, h⟩ := h
  refine r_rald hx hb hK hw hk4 hin5 dX7_out_5 ?_
  rw [hb7]
  refine W.eq (g2 := F0 m 6 ls [.ref b6]) rfl ?_
  exact hret (some b6) _ _ _ _ _ h hw hS dX7_out_6
def wp_L_below (post : Int32 → bS → Prop) (p1 : Int32) (p2 : Int32) (S : bS) : Prop := ¬ p2 = 0 ∧ (post ((p1 &&& (2147483647 : Int32)) - (p1 &&& (2147483647 : Int32)) / p2 * p2) S)
set_option maxHeartbeats 4000000 in
set_option maxRecDepth 100000 in
theorem m_L_below {l : Launch} {D : va_G} {y : Nat → ClassId} {z : Nat} {A : Nat → Prop} {S : bS} {post : Int32 → bS → Prop} {p1 : Int32} {p2 : Int32} (h : wp_L_below post p1 p2 S) : Met l yL_below wsL_below ({ frames := 0, cells := 0, slots := 0, locals := 0 } : Room) (va_Pc ([Value.int p1, Value.int p2] : List Value) (bP D y z S A)) (va_Qi post (fun S' t => wd D y z S' A t.heap) A) 0 0 A := by
  refine Met.ofW (cc := cL_below) (maxL := 2) (ret := (some .int)) (by decide) rfl ?_
  intro p e s m args below meth c s₁ B hml hv
  obtain ⟨rfl, hB⟩ := hv
  have hx := B.exec
  have hb := B.bytes
  have hr := B.returns
  have hts := atoms_spec (ws := wsL_below) B.pre
  have hown : s.vm.findClass RL = some m.cls := findClass_of_methodNamed B.named
  have hlocks := B.notSynchronized
  have hw : wd D y z S A s.heap := hB.1
  have hK : va_K D bCl (bT y) s := hB.2.1
  have hNw := hB.2.2.1
  have hAn : ∀ q : Nat, s.heap.size ≤ q → A q := hB.2.2.2.1
  have hAz : ¬ A z := hB.2.2.2.2.1
  have hO := hB.2.2.2.2.2.1
  have hS : va_S A s.heap s.heap [] := va_S.rf
  have hl := lv_entry ([Value.int p1, Value.int p2] : List Value) (n := 2) (Nat.le_of_ble_eq_true rfl)
  rw [lg_entry_eq]
  generalize (lg_sl ([Value.int p1, Value.int p2] : List Value) ++ List.replicate (2 - (lg_sl ([Value.int p1, Value.int p2] : List Value)).length) Slot.unset).toArray = ls at hl ⊢
  have hl : lv_has ls 2 [(0, .int p1), (1, .int p2)] := hl
  obtain ⟨Q, hQ⟩ : ∃ Q, Q = MQ below (va_Qi post (fun S' t => wd D y z S' A t.heap) A) (([Value.int p1, Value.int p2] : List Value).toArray) s 0 0 A := ⟨_, rfl⟩
  rw [← hQ]
  generalize hR : (headSpec wsL_below ({ frames := 0, cells := 0, slots := 0, locals := 0 } : Room)).room = R
  have hRf : 0 ≤ R.frames := by rw [← hR]; exact Nat.le_refl _
  have hRl : 0 ≤ R.locals := by rw [← hR]; exact Nat.le_refl _
  have hret : ∀ (v : Int32) (S : bS) (H : Heap) (locs : List Loc) (pc : Nat) (ls : Array Slot) , post v S → wd D y z S A H → va_S A s.heap H locs → decode cL_below pc = .ok (.ireturn, 1) → W p l e R s m (([Value.int p1, Value.int p2] : List Value).toArray) below meth c H locs 0 0 Q (F0 m pc ls [.int v]) := by
    intro v S H locs pc ls h hw hS d0
    rw [hQ]; exact W.iret hx hb hr (fun t ht hW => ⟨⟨v, S, rfl, h, by show wd D y z S A t.heap; rw [ht]; exact hw⟩, hS.F ht⟩) hS.2.2 d0 hlocks
  unfold wp_L_below at h
  refine lv_iload_n hx hb dL_below_0 rfl (lv_at hl 0 rfl) ?_
  refine lv_ldc (v := (2147483647 : Int32)) hx hb hown (hts (.constant RL 7 (2147483647 : Int32)) (by decide +kernel)) dL_below_1 ?_
  refine lv_iand hx hb dL_below_3 ?_
  refine lv_iload_n hx hb dL_below_4 rfl (lv_at hl 1 rfl) ?_
  obtain ⟨hne, h⟩ := h
  refine lv_irem hx hb dL_below_5 hne ?_
  exact hret ((p1 &&& (2147483647 : Int32)) - (p1 &&& (2147483647 : Int32)) / p2 * p2) _ _ _ _ _ h hw hS dL_below_6
def wb_L_cell_18 (xs : Nat → Int32) (L : Nat) (post : Int32 → bS → Prop) (s0 : Int32) (S : bS) : Prop := post s0 S
def wp_L_cell (xs : Nat → Int32) (L : Nat) (post : Int32 → bS → Prop) (p2 : Int32) (S : bS) : Prop := ((Int32.ofNat L) ≤ p2 → wb_L_cell_18 xs L post ((790386105 : Int32) * (p2 + (3 : Int32))) S) ∧ (¬ ((Int32.ofNat L) ≤ p2) → vp_in p2 L ∧ (wb_L_cell_18 xs L post (xs (Int32.toNatClampNeg p2)) S))
set_option maxHeartbeats 4000000 in
set_option maxRecDepth 100000 in
theorem m_L_cell {l : Launch} {D : va_G} {y : Nat → ClassId} {z : Nat} {A : Nat → Prop} {S : bS} {xs : Nat → Int32} {L : Nat} {post : Int32 → bS → Prop} {p1 : Nat} {p2 : Int32} (h : wp_L_cell xs L post p2 S) : Met l yL_cell wsL_cell ({ frames := 0, cells := 0, slots := 0, locals := 0 } : Room) (va_Pc ([Value.ref p1, Value.int p2] : List Value) (bPX D y z S A p1 L xs)) (va_Qi post (fun S' t => wd D y z S' A t.heap) A) 0 0 A := by
  refine Met.ofW (cc := cL_cell) (maxL := 2) (ret := (some .int)) (by decide) rfl ?_
  intro p e s m args below meth c s₁ B hml hv
  obtain ⟨rfl, hB, hX, hbl, hbA⟩ := hv
  have hx := B.exec
  have hb := B.bytes
  have hr := B.returns
  have hts := atoms_spec (ws := wsL_cell) B.pre
  have hown : s.vm.findClass RL = some m.cls := findClass_of_methodNamed B.named
  have hlocks := B.notSynchronized
  have hw : wd D y z S A s.heap := hB.1
  have hK : va_K D bCl (bT y) s := hB.2.1
  have hNw := hB.2.2.1
  have hAn : ∀ q : Nat, s.heap.size ≤ q → A q := hB.2.2.2.1
  have hAz : ¬ A z := hB.2.2.2.2.1
  have hO := hB.2.2.2.2.2.1
  have hS : va_S A s.heap s.heap [] := va_S.rf
  have hl := lv_entry ([Value.ref p1, Value.int p2] : List Value) (n := 2) (Nat.le_of_ble_eq_true rfl)
  rw [lg_entry_eq]
  generalize (lg_sl ([Value.ref p1, Value.int p2] : List Value) ++ List.replicate (2 - (lg_sl ([Value.ref p1, Value.int p2] : List Value)).length) Slot.unset).toArray = ls at hl ⊢
  have hl : lv_has ls 2 [(0, .ref p1), (1, .int p2)] := hl
  obtain ⟨Q, hQ⟩ : ∃ Q, Q = MQ below (va_Qi post (fun S' t => wd D y z S' A t.heap) A) (([Value.ref p1, Value.int p2] : List Value).toArray) s 0 0 A := ⟨_, rfl⟩
  rw [← hQ]
  generalize hR : (headSpec wsL_cell ({ frames := 0, cells := 0, slots := 0, locals := 0 } : Room)).room = R
  have hRf : 0 ≤ R.frames := by rw [← hR]; exact Nat.le_refl _
  have hRl : 0 ≤ R.locals := by rw [← hR]; exact Nat.le_refl _
  have hret : ∀ (v : Int32) (S : bS) (H : Heap) (locs : List Loc) (pc : Nat) (ls : Array Slot) , post v S → wd D y z S A H → va_S A s.heap H locs → decode cL_cell pc = .ok (.ireturn, 1) → W p l e R s m (([Value.ref p1, Value.int p2] : List Value).toArray) below meth c H locs 0 0 Q (F0 m pc ls [.int v]) := by
    intro v S H locs pc ls h hw hS d0
    rw [hQ]; exact W.iret hx hb hr (fun t ht hW => ⟨⟨v, S, rfl, h, by show wd D y z S A t.heap; rw [ht]; exact hw⟩, hS.F ht⟩) hS.2.2 d0 hlocks
  have hB18 : ∀ (S : bS) (H : Heap) (locs : List Loc) (ls : Array Slot) (s0 : Int32), wb_L_cell_18 xs L post s0 S → wd D y z S A H → va_S A s.heap H locs → lv_has ls 2 [] → W p l e R s m (([Value.ref p1, Value.int p2] : List Value).toArray) below meth c H locs 0 0 Q (F0 m 18 ls [.int s0]) := by
    intro S H locs ls s0 h hw hS hl
    unfold wb_L_cell_18 at h
    exact hret s0 _ _ _ _ _ h hw hS dL_cell_18
  unfold wp_L_cell at h
  refine lv_iload_n hx hb dL_cell_0 rfl (lv_at hl 1 rfl) ?_
  refine lv_aload_n hx hb dL_cell_1 rfl (lv_at hl 0 rfl) ?_
  refine va_slen hx hb hX hbl hbA hS dL_cell_2 ?_
  refine lv_icmp_ge (tgt := 12) hx hb dL_cell_3 (by decide) (fun hc => ?_) (fun hc => ?_)
  · have h := h.1 hc
    refine lv_ldc (v := (790386105 : Int32)) hx hb hown (hts (.constant RL 8 (790386105 : Int32)) (by decide +kernel)) dL_cell_12 ?_
    refine lv_iload_n hx hb dL_cell_14 rfl (lv_at hl 1 rfl) ?_
    refine lv_iconst (v := (3 : Int32)) hx hb dL_cell_15 (by decide) ?_
    refine lv_iadd hx hb dL_cell_16 ?_
    refine lv_imul hx hb dL_cell_17 ?_
    exact hB18 _ _ _ _ _ h hw hS (lv_sub hl [] rfl)
  · have h := h.2 hc
    refine lv_aload_n hx hb dL_cell_6 rfl (lv_at hl 0 rfl) ?_
    refine lv_iload_n hx hb dL_cell_7 rfl (lv_at hl 1 rfl) ?_
    obtain ⟨hin1, h⟩ := h
    refine va_sld hx hb hX hbl hbA hS hin1 dL_cell_8 ?_
    refine lv_goto (tgt := 18) hx hb dL_cell_9 (by decide) ?_
    exact hB18 _ _ _ _ _ h hw hS (lv_sub hl [] rfl)
def wb_L_build_398 (xs : Nat → Int32) (L : Nat) (post : Option Nat → bS → Prop) (rec151 : Nat → Nat → Nat → Nat → Int32 → Int32 → Int32 → bS → Prop) (mc ms : Nat) (v0 : Nat) (v3 : Nat) (v4 : Int32) (v5 : Int32) (v6 : Int32) (S : bS) : Prop := rec151 mc ms v0 v3 v4 v5 (v6 + (1 : Int32)) S
def wb_L_build_341 (xs : Nat → Int32) (L : Nat) (post : Option Nat → bS → Prop) (rec151 : Nat → Nat → Nat → Nat → Int32 → Int32 → Int32 → bS → Prop) (mc ms : Nat) (v0 : Nat) (v3 : Nat) (v4 : Int32) (v5 : Int32) (v6 : Int32) (v8 : Int32) (v9 : Int32) (s0 : Int32) (s1 : Int32) (s2 : Int32) (s3 : Int32) (s4 : Nat) (s5 : Nat) (S : bS) : Prop := wp_L_below (fun r68 S69 => gK S69 s4 = 9 ∧ (vp_in s3 (gN S69 s4) ∧ (gK (sV S69 9 s4 (Int32.toNatClampNeg s3) (s2 + r68)) s5 = 9 ∧ (vp_in (0 : Int32) (gN (sV S69 9 s4 (Int32.toNatClampNeg s3) (s2 + r68)) s5) ∧ (vp_in (1 : Int32) (gN (sV S69 9 s4 (Int32.toNatClampNeg s3) (s2 + r68)) s5) ∧ (vp_in (2 : Int32) (gN (sV S69 9 s4 (Int32.toNatClampNeg s3) (s2 + r68)) s5) ∧ (gK (sV S69 9 s4 (Int32.toNatClampNeg s3) (s2 + r68)) v0 = 7 ∧ (∃ k79 n80, k79 ≤ mc ∧ n80 ≤ ms ∧ (wp_X5_addTube (fun r77 S78 => gK S78 v3 = 8 ∧ (∃ b82, gQ S78 8 v3 2 = some b82 ∧ (gK S78 b82 = 12 ∧ ((r77 = (Int32.ofNat (gN S78 b82)) → gK S78 s5 = 9 ∧ (vp_in (0 : Int32) (gN S78 s5) ∧ (vp_in (1 : Int32) (gN S78 s5) ∧ (vp_in (2 : Int32) (gN S78 s5) ∧ (∃ k91 n92, k91 ≤ (mc - k79) ∧ n92 ≤ (ms - n80) ∧ (wp_X7_addTube (fun S90 => wb_L_build_398 xs L post rec151 ((mc - k79) - k91) ((ms - n80) - n92) v0 v3 v4 v5 v6 S90) k91 n92 v3 v8 v9 (gV S78 9 s5 (Int32.toNatClampNeg (0 : Int32))) (gV S78 9 s5 (Int32.toNatClampNeg (1 : Int32))) (gV S78 9 s5 (Int32.toNatClampNeg (2 : Int32))) S78)))))) ∧ (¬ (r77 = (Int32.ofNat (gN S78 b82))) → post none S78))))) (fun _ _ => False) k79 n80 v0 v8 v9 (gV (sV S69 9 s4 (Int32.toNatClampNeg s3) (s2 + r68)) 9 s5 (Int32.toNatClampNeg (0 : Int32))) (gV (sV S69 9 s4 (Int32.toNatClampNeg s3) (s2 + r68)) 9 s5 (Int32.toNatClampNeg (1 : Int32))) (gV (sV S69 9 s4 (Int32.toNatClampNeg s3) (s2 + r68)) 9 s5 (Int32.toNatClampNeg (2 : Int32))) (sV S69 9 s4 (Int32.toNatClampNeg s3) (s2 + r68))))))))))) s1 s0 S
def wb_L_build_296 (xs : Nat → Int32) (L : Nat) (post : Option Nat → bS → Prop) (rec151 : Nat → Nat → Nat → Nat → Int32 → Int32 → Int32 → bS → Prop) (mc ms : Nat) (v0 : Nat) (v3 : Nat) (v4 : Int32) (v5 : Int32) (v6 : Int32) (v7 : Int32) (v8 : Int32) (v9 : Int32) (s0 : Int32) (s1 : Int32) (s2 : Int32) (s3 : Int32) (s4 : Nat) (s5 : Nat) (S : bS) : Prop := wp_L_below (fun r58 S59 => gK S59 s4 = 9 ∧ (vp_in s3 (gN S59 s4) ∧ (wp_L_below (fun r62 S63 => gK S63 s5 = 9 ∧ (vp_in (1 : Int32) (gN S63 s5) ∧ (wp_L_below (fun r66 S67 => (r66 ≠ (0 : Int32) → wb_L_build_341 xs L post rec151 mc ms v0 v3 v4 v5 v6 v8 v9 (2 : Int32) (v7 >>> ((7 : Int32) &&& 31)) (1 : Int32) (2 : Int32) s5 s5 S67) ∧ (r66 = (0 : Int32) → wb_L_build_341 xs L post rec151 mc ms v0 v3 v4 v5 v6 v8 v9 (8 : Int32) (v7 >>> ((7 : Int32) &&& 31)) (1 : Int32) (2 : Int32) s5 s5 S67)) (v7 >>> ((2 : Int32) &&& 31)) (2 : Int32) (sV S63 9 s5 (Int32.toNatClampNeg (1 : Int32)) ((1 : Int32) + r62))))) (v7 >>> ((6 : Int32) &&& 31)) (6 : Int32) (sV S59 9 s4 (Int32.toNatClampNeg s3) (s2 + r58))))) s1 s0 S
def wb_L_build_238 (xs : Nat → Int32) (L : Nat) (post : Option Nat → bS → Prop) (rec151 : Nat → Nat → Nat → Nat → Int32 → Int32 → Int32 → bS → Prop) (mc ms : Nat) (v0 : Nat) (v3 : Nat) (v4 : Int32) (v5 : Int32) (v6 : Int32) (v7 : Int32) (v8 : Int32) (s0 : Int32) (s1 : Int32) (s2 : Int32) (S : bS) : Prop := wp_L_below (fun r44 S45 => ¬ v4 = 0 ∧ ((((s2 + r44) - (s2 + r44) / v4 * v4) = v8 → wb_L_build_398 xs L post rec151 mc ms v0 v3 v4 v5 v6 S45) ∧ (¬ (((s2 + r44) - (s2 + r44) / v4 * v4) = v8) → gK S45 v3 = 8 ∧ (wp_X7_out (fun r47 S48 => ∃ b49, r47 = some b49 ∧ (gK S48 b49 = 9 ∧ (((Int32.ofNat (gN S48 b49)) ≠ (4 : Int32) → ¬ (3 : Int32) < 0 ∧ (Int32.toNatClampNeg (3 : Int32)) * 4 ≤ 536870912 ∧ 1 ≤ mc ∧ (Int32.toNatClampNeg (3 : Int32)) ≤ ms ∧ (∀ q52, gK S48 q52 = 0 → (wp_L_below (fun r56 S57 => (r56 ≠ (0 : Int32) → wb_L_build_296 xs L post rec151 (mc - 1) (ms - (Int32.toNatClampNeg (3 : Int32))) v0 v3 v4 v5 v6 v7 v8 ((s2 + r44) - (s2 + r44) / v4 * v4) (30 : Int32) (v7 >>> ((3 : Int32) &&& 31)) (1 : Int32) (0 : Int32) q52 q52 S57) ∧ (r56 = (0 : Int32) → wb_L_build_296 xs L post rec151 (mc - 1) (ms - (Int32.toNatClampNeg (3 : Int32))) v0 v3 v4 v5 v6 v7 v8 ((s2 + r44) - (s2 + r44) / v4 * v4) (8 : Int32) (v7 >>> ((3 : Int32) &&& 31)) (1 : Int32) (0 : Int32) q52 q52 S57)) (v7 >>> ((5 : Int32) &&& 31)) (2 : Int32) (sNew S48 q52 9 (Int32.toNatClampNeg (3 : Int32)))))) ∧ ((Int32.ofNat (gN S48 b49)) = (4 : Int32) → wb_L_build_398 xs L post rec151 mc ms v0 v3 v4 v5 v6 S48)))) v3 v8 S45)))) s1 s0 S
def wb_L_build_234 (xs : Nat → Int32) (L : Nat) (post : Option Nat → bS → Prop) (rec151 : Nat → Nat → Nat → Nat → Int32 → Int32 → Int32 → bS → Prop) (mc ms : Nat) (v0 : Nat) (v3 : Nat) (v4 : Int32) (v5 : Int32) (v6 : Int32) (v7 : Int32) (v8 : Int32) (s0 : Int32) (s1 : Int32) (S : bS) : Prop := wb_L_build_238 xs L post rec151 mc ms v0 v3 v4 v5 v6 v7 v8 (v4 - (1 : Int32)) s0 s1 S
def wb_L_build_202 (xs : Nat → Int32) (L : Nat) (post : Option Nat → bS → Prop) (rec151 : Nat → Nat → Nat → Nat → Int32 → Int32 → Int32 → bS → Prop) (mc ms : Nat) (v0 : Nat) (v3 : Nat) (v4 : Int32) (v5 : Int32) (v6 : Int32) (v7 : Int32) (s0 : Int32) (S : bS) : Prop := (v4 ≤ v6 → wb_L_build_234 xs L post rec151 mc ms v0 v3 v4 v5 v6 v7 s0 (v7 >>> ((2 : Int32) &&& 31)) (s0 + (1 : Int32)) S) ∧ (¬ (v4 ≤ v6) → wp_L_below (fun r42 S43 => (r42 ≤ (0 : Int32) → wb_L_build_234 xs L post rec151 mc ms v0 v3 v4 v5 v6 v7 s0 (v7 >>> ((2 : Int32) &&& 31)) (s0 + (1 : Int32)) S43) ∧ (¬ (r42 ≤ (0 : Int32)) → wb_L_build_238 xs L post rec151 mc ms v0 v3 v4 v5 v6 v7 s0 (1 : Int32) (v7 >>> ((2 : Int32) &&& 31)) (s0 + (1 : Int32)) S43)) (v7 >>> ((4 : Int32) &&& 31)) (3 : Int32) S)
def wb_L_build_151 (xs : Nat → Int32) (L : Nat) (post : Option Nat → bS → Prop) : Nat → Nat → Nat → Nat → Nat → Int32 → Int32 → Int32 → bS → Prop
  | 0, _, _, _, _, _, _, _, _ => False
  | n + 1, mc, ms, v0, v3, v4, v5, v6, S => (v5 ≤ v6 → post (some v3) S) ∧ (¬ (v5 ≤ v6) → ¬ (10 : Int32) = 0 ∧ (wp_L_cell xs L (fun r38 S39 => ¬ (10 : Int32) = 0 ∧ ((v4 ≤ v6 → wp_L_below (fun r40 S41 => wb_L_build_202 xs L post (wb_L_build_151 xs L post n) mc ms v0 v3 v4 v5 v6 ((r38 >>> ((v6 / (10 : Int32)) &&& 31)) + ((5 : Int32) * v6)) r40 S41) ((r38 >>> ((v6 / (10 : Int32)) &&& 31)) + ((5 : Int32) * v6)) v4 S39) ∧ (¬ (v4 ≤ v6) → wb_L_build_202 xs L post (wb_L_build_151 xs L post n) mc ms v0 v3 v4 v5 v6 ((r38 >>> ((v6 / (10 : Int32)) &&& 31)) + ((5 : Int32) * v6)) v6 S39))) ((6 : Int32) + (v6 - v6 / (10 : Int32) * (10 : Int32))) S))
def wb_L_build_101 (xs : Nat → Int32) (L : Nat) (post : Option Nat → bS → Prop) (rec26 : Nat → Nat → Nat → Nat → Int32 → Int32 → bS → Prop) (mc ms : Nat) (v0 : Nat) (v3 : Nat) (v4 : Int32) (v5 : Int32) (v7 : Int32) (s0 : Int32) (S : bS) : Prop := gK S v0 = 7 ∧ (∃ k31 n32, k31 ≤ mc ∧ n32 ≤ ms ∧ (wp_X5_addStation (fun r29 S30 => (r29 = v5 → gK S30 v3 = 8 ∧ (∃ k36 n37, k36 ≤ (mc - k31) ∧ n37 ≤ (ms - n32) ∧ (wp_X7_addStation (fun S35 => rec26 ((mc - k31) - k36) ((ms - n32) - n37) v0 v3 v4 (v5 + (1 : Int32)) S35) k36 n37 v3 v7 s0 S30))) ∧ (¬ (r29 = v5) → post none S30)) (fun _ _ => False) k31 n32 v0 v7 s0 S))
def wb_L_build_71 (xs : Nat → Int32) (L : Nat) (post : Option Nat → bS → Prop) (rec26 : Nat → Nat → Nat → Nat → Int32 → Int32 → bS → Prop) (mc ms : Nat) (v0 : Nat) (v3 : Nat) (v4 : Int32) (v5 : Int32) (v6 : Int32) (s0 : Int32) (s1 : Int32) (s2 : Int32) (S : bS) : Prop := wp_L_below (fun r22 S23 => wp_L_below (fun r24 S25 => (r24 ≠ (0 : Int32) → wp_L_below (fun r26 S27 => wb_L_build_101 xs L post rec26 mc ms v0 v3 v4 v5 (s2 + r22) r26 S27) (v6 >>> ((5 : Int32) &&& 31)) (8 : Int32) S25) ∧ (r24 = (0 : Int32) → wb_L_build_101 xs L post rec26 mc ms v0 v3 v4 v5 (s2 + r22) (0 : Int32) S25)) (v6 >>> ((3 : Int32) &&& 31)) (2 : Int32) S23) s1 s0 S
def wb_L_build_26 (xs : Nat → Int32) (L : Nat) (post : Option Nat → bS → Prop) : Nat → Nat → Nat → Nat → Nat → Int32 → Int32 → bS → Prop
  | 0, _, _, _, _, _, _, _ => False
  | n + 1, mc, ms, v0, v3, v4, v5, S => (v4 ≤ v5 → wp_L_cell xs L (fun r12 S13 => wp_L_below (fun r14 S15 => ∃ n151, wb_L_build_151 xs L post n151 mc ms v0 v3 v4 (v4 + r14) (0 : Int32) S15) r12 (6 : Int32) S13) (6 : Int32) S) ∧ (¬ (v4 ≤ v5) → ¬ (5 : Int32) = 0 ∧ (wp_L_cell xs L (fun r16 S17 => wp_L_cell xs L (fun r18 S19 => wp_L_below (fun r20 S21 => (r20 ≠ (0 : Int32) → wb_L_build_71 xs L post (wb_L_build_26 xs L post n) mc ms v0 v3 v4 v5 r16 (2 : Int32) (r16 >>> (v5 &&& 31)) (1 : Int32) S21) ∧ (r20 = (0 : Int32) → wb_L_build_71 xs L post (wb_L_build_26 xs L post n) mc ms v0 v3 v4 v5 r16 (9 : Int32) (r16 >>> (v5 &&& 31)) (1 : Int32) S21)) (r18 >>> ((4 : Int32) &&& 31)) (2 : Int32) S19) (0 : Int32) S17) ((1 : Int32) + (v5 - v5 / (5 : Int32) * (5 : Int32))) S))
def wp_L_build (xs : Nat → Int32) (L : Nat) (post : Option Nat → bS → Prop) (MC MS : Nat) (p1 : Nat) (p3 : Int32) (S : bS) : Prop := 1 ≤ MC ∧ 10 ≤ MS ∧ (∀ q1, gK S q1 = 0 → (∃ k6 n7, k6 ≤ (MC - 1) ∧ n7 ≤ (MS - 10) ∧ (wp_X7_init (fun S5 => wp_L_cell xs L (fun r8 S9 => wp_L_below (fun r10 S11 => ∃ n26, wb_L_build_26 xs L post n26 ((MC - 1) - k6) ((MS - 10) - n7) p1 q1 ((2 : Int32) + r10) (0 : Int32) S11) r8 (p3 - (1 : Int32)) S9) (0 : Int32) S5) k6 n7 q1 (sNew S q1 8 0))))
set_option maxHeartbeats 4000000 in
set_option maxRecDepth 100000 in
theorem m_L_build {l : Launch} {D : va_G} {y : Nat → ClassId} {z : Nat} {A : Nat → Prop} {S : bS} {xs : Nat → Int32} {L : Nat} {post : Option Nat → bS → Prop} (hl0 : l.stackTraces = false) {MC MS : Nat} {p1 : Nat} {p2 : Nat} {p3 : Int32} (h : wp_L_build xs L post MC MS p1 p3 S) : Met l yL_build wsL_build ({ frames := 10, cells := MC, slots := MS, locals := 448 } : Room) (va_Pc ([Value.ref p1, Value.ref p2, Value.int p3] : List Value) (bPX D y z S A p2 L xs)) (va_Qq post (fun S' t => wd D y z S' A t.heap) A) MC MS A := by
  refine Met.ofW (cc := cL_build) (maxL := 11) (ret := (some (.object "TubePostLaw$Sim"))) (by decide) rfl ?_
  intro p e s m args below meth c s₁ B hml hv
  obtain ⟨rfl, hB, hX, hbl, hbA⟩ := hv
  have hx := B.exec
  have hb := B.bytes
  have hr := B.returns
  have hts := atoms_spec (ws := wsL_build) B.pre
  have hown : s.vm.findClass RL = some m.cls := findClass_of_methodNamed B.named
  have hlocks := B.notSynchronized
  have hw : wd D y z S A s.heap := hB.1
  have hK : va_K D bCl (bT y) s := hB.2.1
  have hNw := hB.2.2.1
  have hAn : ∀ q : Nat, s.heap.size ≤ q → A q := hB.2.2.2.1
  have hAz : ¬ A z := hB.2.2.2.2.1
  have hO := hB.2.2.2.2.2.1
  have hS : va_S A s.heap s.heap [] := va_S.rf
  have hiX7 : ∀ w ∈ u_ws RX7 TX7 10, w ∈ wsL_build := by decide +kernel
  have hl := lv_entry ([Value.ref p1, Value.ref p2, Value.int p3] : List Value) (n := 11) (Nat.le_of_ble_eq_true rfl)
  rw [lg_entry_eq]
  generalize (lg_sl ([Value.ref p1, Value.ref p2, Value.int p3] : List Value) ++ List.replicate (11 - (lg_sl ([Value.ref p1, Value.ref p2, Value.int p3] : List Value)).length) Slot.unset).toArray = ls at hl ⊢
  have hl : lv_has ls 11 [(0, .ref p1), (1, .ref p2), (2, .int p3)] := hl
  obtain ⟨Q, hQ⟩ : ∃ Q, Q = MQ below (va_Qq post (fun S' t => wd D y z S' A t.heap) A) (([Value.ref p1, Value.ref p2, Value.int p3] : List Value).toArray) s MC MS A := ⟨_, rfl⟩
  rw [← hQ]
  generalize hR : (headSpec wsL_build ({ frames := 10, cells := MC, slots := MS, locals := 448 } : Room)).room = R
  have hRf : 10 ≤ R.frames := by rw [← hR]; exact Nat.le_refl _
  have hRl : 448 ≤ R.locals := by rw [← hR]; exact Nat.le_refl _
  have hRc : R.cells = MC := by rw [← hR]; rfl
  have hRs : R.slots = MS := by rw [← hR]; rfl
  have hret : ∀ (v : Option Nat) (S : bS) (H : Heap) (locs : List Loc) (pc : Nat) (ls : Array Slot) (cu su : Nat) , post v S → wd D y z S A H → va_S A s.heap H locs → cu ≤ MC → su ≤ MS → decode cL_build pc = .ok (.areturn, 1) → W p l e R s m (([Value.ref p1, Value.ref p2, Value.int p3] : List Value).toArray) below meth c H locs cu su Q (F0 m pc ls [va_rf v]) := by
    intro v S H locs pc ls cu su h hw hS hcu hsu d0
    rw [hQ]; refine W.widen hcu hsu ?_; exact W.aret hx hb hr (by first | exact Or.inl ⟨_, rfl⟩ | exact Or.inr ⟨_, rfl⟩) (by cases v with | none => exact Or.inl rfl | some a => exact Or.inr ⟨a, rfl⟩) (fun t ht hW => ⟨⟨v, S, rfl, h, by show wd D y z S A t.heap; rw [ht]; exact hw⟩, hS.F ht⟩) hS.2.2 d0 hlocks
  have hB151 : ∀ (n151 : Nat) (S : bS) (H : Heap) (locs : List Loc) (ls : Array Slot) (mc ms cu su : Nat) (v0 : Nat) (v3 : Nat) (v4 : Int32) (v5 : Int32) (v6 : Int32), wb_L_build_151 xs L post n151 mc ms v0 v3 v4 v5 v6 S → wd D y z S A H → va_S A s.heap H locs → lv_has ls 11 [(0, .ref v0), (1, .ref p2), (3, .ref v3), (4, .int v4), (5, .int v5), (6, .int v6)] → cu + mc ≤ MC → su + ms ≤ MS → W p l e R s m (([Value.ref p1, Value.ref p2, Value.int p3] : List Value).toArray) below meth c H locs cu su Q (F0 m 151 ls []) := by
    intro n151
    induction n151 with
    | zero =>
      intro S H locs ls mc ms cu su v0 v3 v4 v5 v6 h hw hS hl hcu hsu
      exact absurd h (by unfold wb_L_build_151; exact id)
    | succ n151 ih151 =>
      have hB398 : ∀ (S : bS) (H : Heap) (locs : List Loc) (ls : Array Slot) (mc ms cu su : Nat) (v0 : Nat) (v3 : Nat) (v4 : Int32) (v5 : Int32) (v6 : Int32), wb_L_build_398 xs L post (wb_L_build_151 xs L post n151) mc ms v0 v3 v4 v5 v6 S → wd D y z S A H → va_S A s.heap H locs → lv_has ls 11 [(0, .ref v0), (1, .ref p2), (3, .ref v3), (4, .int v4), (5, .int v5), (6, .int v6)] → cu + mc ≤ MC → su + ms ≤ MS → W p l e R s m (([Value.ref p1, Value.ref p2, Value.int p3] : List Value).toArray) below meth c H locs cu su Q (F0 m 398 ls []) := by
        intro S H locs ls mc ms cu su v0 v3 v4 v5 v6 h hw hS hl hcu hsu
        unfold wb_L_build_398 at h
        refine lv_iinc (v := (v6 + (1 : Int32))) hx hb dL_build_398 hl (k := 5) rfl rfl (by decide) rfl (fun ls hl => ?_)
        have hl : lv_has ls 11 [(6, .int (v6 + (1 : Int32))), (0, .ref v0), (1, .ref p2), (3, .ref v3), (4, .int v4), (5, .int v5)] := hl
        refine lv_goto (tgt := 151) hx hb dL_build_401 (by decide) ?_
        exact ih151 _ _ _ _ _ _ _ _ _ _ _ _ _ h hw hS (lv_sub hl [1, 2, 3, 4, 5, 0] rfl) hcu hsu
      have hB341 : ∀ (S : bS) (H : Heap) (locs : List Loc) (ls : Array Slot) (mc ms cu su : Nat) (v0 : Nat) (v3 : Nat) (v4 : Int32) (v5 : Int32) (v6 : Int32) (v8 : Int32) (v9 : Int32) (s0 : Int32) (s1 : Int32) (s2 : Int32) (s3 : Int32) (s4 : Nat) (s5 : Nat), wb_L_build_341 xs L post (wb_L_build_151 xs L post n151) mc ms v0 v3 v4 v5 v6 v8 v9 s0 s1 s2 s3 s4 s5 S → wd D y z S A H → va_S A s.heap H locs → lv_has ls 11 [(0, .ref v0), (1, .ref p2), (3, .ref v3), (4, .int v4), (5, .int v5), (6, .int v6), (8, .int v8), (9, .int v9)] → cu + mc ≤ MC → su + ms ≤ MS → W p l e R s m (([Value.ref p1, Value.ref p2, Value.int p3] : List Value).toArray) below meth c H locs cu su Q (F0 m 341 ls [.int s0, .int s1, .int s2, .int s3, .ref s4, .ref s5]) := by
        intro S H locs ls mc ms cu su v0 v3 v4 v5 v6 v8 v9 s0 s1 s2 s3 s4 s5 h hw hS hl hcu hsu
        unfold wb_L_build_341 at h
        have h1 := h
        refine va_calli (va_runS (As := [.int s1, .int s0]) (rest := [.int s2, .int s3, .ref s4, .ref s5]) ⟨hx, hb, hml, hown, hts⟩ (m_L_below (l := l) h1) (cwS 2 hts gL_build_L_below rfl rfl rfl (by decide +kernel) ⟨Nat.le_trans (Nat.le_of_ble_eq_true rfl) hRf, Nat.le_trans (Nat.le_of_ble_eq_true rfl) hRl⟩) (r_pS hB hw hS) rfl rfl hl.1 rfl (lv_room (Nat.le_of_ble_eq_true rfl)) dL_build_341 ⟨by omega, by omega⟩) hS (fun _ _ h => h) (fun _ h => h) (fun r68 S69 t H1 locs ht _ h hw1 _ _ hS => ?_)
        subst ht
        have hw : wd D y z S69 A t.heap := hw1
        clear hw1 h1
        refine lv_iadd hx hb dL_build_344 ?_
        obtain ⟨hk70, h⟩ := h
        obtain ⟨hin71, h⟩ := h
        refine r_iast hx hb hK hw hS hk70 hin71 dL_build_345 (fun H locs hw hS => ?_)
        refine lv_astore hx hb dL_build_346 hl (by decide) rfl (fun ls hl => ?_)
        have hl : lv_has ls 11 [(10, .ref s5), (0, .ref v0), (1, .ref p2), (3, .ref v3), (4, .int v4), (5, .int v5), (6, .int v6), (8, .int v8), (9, .int v9)] := hl
        refine lv_aload_n hx hb dL_build_348 rfl (lv_at hl 1 rfl) ?_
        refine lv_iload hx hb dL_build_349 (lv_at hl 7 rfl) ?_
        refine lv_iload hx hb dL_build_351 (lv_at hl 8 rfl) ?_
        refine lv_aload hx hb dL_build_353 (lv_at hl 0 rfl) ?_
        refine lv_iconst (v := (0 : Int32)) hx hb dL_build_355 (by decide) ?_
        obtain ⟨hk72, h⟩ := h
        obtain ⟨hin73, h⟩ := h
        refine r_iald hx hb hK hw hk72 hin73 dL_build_356 ?_
        refine lv_aload hx hb dL_build_357 (lv_at hl 0 rfl) ?_
        refine lv_iconst (v := (1 : Int32)) hx hb dL_build_359 (by decide) ?_
        obtain ⟨hin74, h⟩ := h
        refine r_iald hx hb hK hw hk72 hin74 dL_build_360 ?_
        refine lv_aload hx hb dL_build_361 (lv_at hl 0 rfl) ?_
        refine lv_iconst (v := (2 : Int32)) hx hb dL_build_363 (by decide) ?_
        obtain ⟨hin75, h⟩ := h
        refine r_iald hx hb hK hw hk72 hin75 dL_build_364 ?_
        obtain ⟨hk76, h⟩ := h
        obtain ⟨k79, n80, hbg1, hbg2, h⟩ := h
        have h1 := h
        refine vx_calli (vx_runV (As := [.int v8, .int v9, .int (gV (sV S69 9 s4 (Int32.toNatClampNeg s3) (s2 + r68)) 9 s5 (Int32.toNatClampNeg (0 : Int32))), .int (gV (sV S69 9 s4 (Int32.toNatClampNeg s3) (s2 + r68)) 9 s5 (Int32.toNatClampNeg (1 : Int32))), .int (gV (sV S69 9 s4 (Int32.toNatClampNeg s3) (s2 + r68)) 9 s5 (Int32.toNatClampNeg (2 : Int32)))]) (rest := []) ⟨hx, hb, hml, hown, hts⟩ (m_X5_addTube (l := l) hl0 h1) (cwV 5 hts gL_build_X5_addTube rfl rfl rfl (by decide +kernel) ⟨Nat.le_trans (Nat.le_of_ble_eq_true rfl) hRf, Nat.le_trans (Nat.le_of_ble_eq_true rfl) hRl⟩) (r_pV hB hw hS (ce_7 (S := (sV S69 9 s4 (Int32.toNatClampNeg s3) (s2 + r68))) hk76) rfl) rfl rfl hl.1 rfl (lv_room (Nat.le_of_ble_eq_true rfl)) dL_build_365 ⟨by omega, by omega⟩) hS (fun _ _ h => h) (fun _ h => h) (fun _ _ h => h) (fun E ce q9 S78 t H1 locs ht hal _ hq hz9 hk9 hS hq9 hvm9 hfc9 => hq.1.elim) (fun r77 S78 t H1 locs ht _ h hw1 _ _ hS => ?_)
        subst ht
        have hw : wd D y z S78 A t.heap := hw1
        clear hw1 h1
        have hcu : (cu + k79) + (mc - k79) ≤ MC := by omega
        have hsu : (su + n80) + (ms - n80) ≤ MS := by omega
        refine lv_aload_n hx hb dL_build_368 rfl (lv_at hl 3 rfl) ?_
        obtain ⟨hk81, h⟩ := h
        obtain ⟨b82, hb83, h⟩ := h
        refine r_get (ci := 7) (v := .ref b82) (C := RX7) (T := TX7) (N := 10) hx hb hts hiX7 hown hK hw (ce_8 (S := S78) hk81) rfl 2 (by decide) (hts (.fieldLink RL 38 "TubePostLaw$Sim" "tubes" "[[I") (by decide +kernel)) (fun _ h9 => h9) (congrArg (fun q => some (va_rf q)) hb83) dL_build_369 ?_
        obtain ⟨hk84, h⟩ := h
        refine r_alen hx hb hK hw (S := S78) (by rw [show gK S78 b82 = 12 from hk84]; decide) rfl dL_build_372 ?_
        refine lv_icmp_eq (tgt := 378) hx hb dL_build_373 (by decide) (fun hc => ?_) (fun hc => ?_)
        · have h := h.1 hc
          refine lv_aload_n hx hb dL_build_378 rfl (lv_at hl 3 rfl) ?_
          refine lv_iload hx hb dL_build_379 (lv_at hl 7 rfl) ?_
          refine lv_iload hx hb dL_build_381 (lv_at hl 8 rfl) ?_
          refine lv_aload hx hb dL_build_383 (lv_at hl 0 rfl) ?_
          refine lv_iconst (v := (0 : Int32)) hx hb dL_build_385 (by decide) ?_
          obtain ⟨hk85, h⟩ := h
          obtain ⟨hin86, h⟩ := h
          refine r_iald hx hb hK hw hk85 hin86 dL_build_386 ?_
          refine lv_aload hx hb dL_build_387 (lv_at hl 0 rfl) ?_
          refine lv_iconst (v := (1 : Int32)) hx hb dL_build_389 (by decide) ?_
          obtain ⟨hin87, h⟩ := h
          refine r_iald hx hb hK hw hk85 hin87 dL_build_390 ?_
          refine lv_aload hx hb dL_build_391 (lv_at hl 0 rfl) ?_
          refine lv_iconst (v := (2 : Int32)) hx hb dL_build_393 (by decide) ?_
          obtain ⟨hin88, h⟩ := h
          refine r_iald hx hb hK hw hk85 hin88 dL_build_394 ?_
          obtain ⟨k91, n92, hbg1, hbg2, h⟩ := h
          have h1 := h
          refine va_callv (va_runV (As := [.int v8, .int v9, .int (gV S78 9 s5 (Int32.toNatClampNeg (0 : Int32))), .int (gV S78 9 s5 (Int32.toNatClampNeg (1 : Int32))), .int (gV S78 9 s5 (Int32.toNatClampNeg (2 : Int32)))]) (rest := []) ⟨hx, hb, hml, hown, hts⟩ (m_X7_addTube (l := l) h1) (cwV 5 hts gL_build_X7_addTube rfl rfl rfl (by decide +kernel) ⟨Nat.le_trans (Nat.le_of_ble_eq_true rfl) hRf, Nat.le_trans (Nat.le_of_ble_eq_true rfl) hRl⟩) (r_pV hB hw hS (ce_8 (S := S78) hk81) rfl) rfl rfl hl.1 rfl (lv_room (Nat.le_of_ble_eq_true rfl)) dL_build_395 ⟨by omega, by omega⟩) hS (fun _ _ h => h) (fun _ h => h) (fun S90 t H1 locs ht _ h hw1 _ _ hS => ?_)
          subst ht
          have hw : wd D y z S90 A t.heap := hw1
          clear hw1 h1
          have hcu : ((cu + k79) + k91) + ((mc - k79) - k91) ≤ MC := by omega
          have hsu : ((su + n80) + n92) + ((ms - n80) - n92) ≤ MS := by omega
          exact hB398 _ _ _ _ _ _ _ _ _ _ _ _ _ h hw hS (lv_sub hl [1, 2, 3, 4, 5, 6] rfl) hcu hsu
        · have h := h.2 hc
          refine lv_null hx hb dL_build_376 ?_
          exact hret none _ _ _ _ _ _ _ h hw hS (by omega) (by omega) dL_build_377
      have hB296 : ∀ (S : bS) (H : Heap) (locs : List Loc) (ls : Array Slot) (mc ms cu su : Nat) (v0 : Nat) (v3 : Nat) (v4 : Int32) (v5 : Int32) (v6 : Int32) (v7 : Int32) (v8 : Int32) (v9 : Int32) (s0 : Int32) (s1 : Int32) (s2 : Int32) (s3 : Int32) (s4 : Nat) (s5 : Nat), wb_L_build_296 xs L post (wb_L_build_151 xs L post n151) mc ms v0 v3 v4 v5 v6 v7 v8 v9 s0 s1 s2 s3 s4 s5 S → wd D y z S A H → va_S A s.heap H locs → lv_has ls 11 [(0, .ref v0), (1, .ref p2), (3, .ref v3), (4, .int v4), (5, .int v5), (6, .int v6), (7, .int v7), (8, .int v8), (9, .int v9)] → cu + mc ≤ MC → su + ms ≤ MS → W p l e R s m (([Value.ref p1, Value.ref p2, Value.int p3] : List Value).toArray) below meth c H locs cu su Q (F0 m 296 ls [.int s0, .int s1, .int s2, .int s3, .ref s4, .ref s5]) := by
        intro S H locs ls mc ms cu su v0 v3 v4 v5 v6 v7 v8 v9 s0 s1 s2 s3 s4 s5 h hw hS hl hcu hsu
        unfold wb_L_build_296 at h
        have h1 := h
        refine va_calli (va_runS (As := [.int s1, .int s0]) (rest := [.int s2, .int s3, .ref s4, .ref s5]) ⟨hx, hb, hml, hown, hts⟩ (m_L_below (l := l) h1) (cwS 2 hts gL_build_L_below rfl rfl rfl (by decide +kernel) ⟨Nat.le_trans (Nat.le_of_ble_eq_true rfl) hRf, Nat.le_trans (Nat.le_of_ble_eq_true rfl) hRl⟩) (r_pS hB hw hS) rfl rfl hl.1 rfl (lv_room (Nat.le_of_ble_eq_true rfl)) dL_build_296 ⟨by omega, by omega⟩) hS (fun _ _ h => h) (fun _ h => h) (fun r58 S59 t H1 locs ht _ h hw1 _ _ hS => ?_)
        subst ht
        have hw : wd D y z S59 A t.heap := hw1
        clear hw1 h1
        refine lv_iadd hx hb dL_build_299 ?_
        obtain ⟨hk60, h⟩ := h
        obtain ⟨hin61, h⟩ := h
        refine r_iast hx hb hK hw hS hk60 hin61 dL_build_300 (fun H locs hw hS => ?_)
        refine lv_dup hx hb dL_build_301 rfl ?_
        refine lv_iconst (v := (1 : Int32)) hx hb dL_build_302 (by decide) ?_
        refine lv_iconst (v := (1 : Int32)) hx hb dL_build_303 (by decide) ?_
        refine lv_iload hx hb dL_build_304 (lv_at hl 6 rfl) ?_
        refine lv_bipush (v := (6 : Int32)) hx hb dL_build_306 (by decide) ?_
        refine lv_ishr hx hb dL_build_308 ?_
        refine lv_bipush (v := (6 : Int32)) hx hb dL_build_309 (by decide) ?_
        have h1 := h
        refine va_calli (va_runS (As := [.int (v7 >>> ((6 : Int32) &&& 31)), .int (6 : Int32)]) (rest := [.int (1 : Int32), .int (1 : Int32), .ref s5, .ref s5]) ⟨hx, hb, hml, hown, hts⟩ (m_L_below (l := l) h1) (cwS 2 hts gL_build_L_below rfl rfl rfl (by decide +kernel) ⟨Nat.le_trans (Nat.le_of_ble_eq_true rfl) hRf, Nat.le_trans (Nat.le_of_ble_eq_true rfl) hRl⟩) (r_pS hB hw hS) rfl rfl hl.1 rfl (lv_room (Nat.le_of_ble_eq_true rfl)) dL_build_311 ⟨by omega, by omega⟩) hS (fun _ _ h => h) (fun _ h => h) (fun r62 S63 t H1 locs ht _ h hw1 _ _ hS => ?_)
        subst ht
        have hw : wd D y z S63 A t.heap := hw1
        clear hw1 h1
        refine lv_iadd hx hb dL_build_314 ?_
        obtain ⟨hk64, h⟩ := h
        obtain ⟨hin65, h⟩ := h
        refine r_iast hx hb hK hw hS hk64 hin65 dL_build_315 (fun H locs hw hS => ?_)
        refine lv_dup hx hb dL_build_316 rfl ?_
        refine lv_iconst (v := (2 : Int32)) hx hb dL_build_317 (by decide) ?_
        refine lv_iconst (v := (1 : Int32)) hx hb dL_build_318 (by decide) ?_
        refine lv_iload hx hb dL_build_319 (lv_at hl 6 rfl) ?_
        refine lv_bipush (v := (7 : Int32)) hx hb dL_build_321 (by decide) ?_
        refine lv_ishr hx hb dL_build_323 ?_
        refine lv_iload hx hb dL_build_324 (lv_at hl 6 rfl) ?_
        refine lv_iconst (v := (2 : Int32)) hx hb dL_build_326 (by decide) ?_
        refine lv_ishr hx hb dL_build_327 ?_
        refine lv_iconst (v := (2 : Int32)) hx hb dL_build_328 (by decide) ?_
        have h1 := h
        refine va_calli (va_runS (As := [.int (v7 >>> ((2 : Int32) &&& 31)), .int (2 : Int32)]) (rest := [.int (v7 >>> ((7 : Int32) &&& 31)), .int (1 : Int32), .int (2 : Int32), .ref s5, .ref s5]) ⟨hx, hb, hml, hown, hts⟩ (m_L_below (l := l) h1) (cwS 2 hts gL_build_L_below rfl rfl rfl (by decide +kernel) ⟨Nat.le_trans (Nat.le_of_ble_eq_true rfl) hRf, Nat.le_trans (Nat.le_of_ble_eq_true rfl) hRl⟩) (r_pS hB hw hS) rfl rfl hl.1 rfl (lv_room (Nat.le_of_ble_eq_true rfl)) dL_build_329 ⟨by omega, by omega⟩) hS (fun _ _ h => h) (fun _ h => h) (fun r66 S67 t H1 locs ht _ h hw1 _ _ hS => ?_)
        subst ht
        have hw : wd D y z S67 A t.heap := hw1
        clear hw1 h1
        refine lv_if_ne (tgt := 340) hx hb dL_build_332 (by decide) (fun hc => ?_) (fun hc => ?_)
        · have h := h.1 hc
          refine lv_iconst (v := (2 : Int32)) hx hb dL_build_340 (by decide) ?_
          exact hB341 _ _ _ _ _ _ _ _ _ _ _ _ _ _ _ _ _ _ _ _ _ h hw hS (lv_sub hl [0, 1, 2, 3, 4, 5, 7, 8] rfl) hcu hsu
        · have h := h.2 hc
          refine lv_bipush (v := (8 : Int32)) hx hb dL_build_335 (by decide) ?_
          refine lv_goto (tgt := 341) hx hb dL_build_337 (by decide) ?_
          exact hB341 _ _ _ _ _ _ _ _ _ _ _ _ _ _ _ _ _ _ _ _ _ h hw hS (lv_sub hl [0, 1, 2, 3, 4, 5, 7, 8] rfl) hcu hsu
      have hB238 : ∀ (S : bS) (H : Heap) (locs : List Loc) (ls : Array Slot) (mc ms cu su : Nat) (v0 : Nat) (v3 : Nat) (v4 : Int32) (v5 : Int32) (v6 : Int32) (v7 : Int32) (v8 : Int32) (s0 : Int32) (s1 : Int32) (s2 : Int32), wb_L_build_238 xs L post (wb_L_build_151 xs L post n151) mc ms v0 v3 v4 v5 v6 v7 v8 s0 s1 s2 S → wd D y z S A H → va_S A s.heap H locs → lv_has ls 11 [(0, .ref v0), (1, .ref p2), (3, .ref v3), (4, .int v4), (5, .int v5), (6, .int v6), (7, .int v7), (8, .int v8)] → cu + mc ≤ MC → su + ms ≤ MS → W p l e R s m (([Value.ref p1, Value.ref p2, Value.int p3] : List Value).toArray) below meth c H locs cu su Q (F0 m 238 ls [.int s0, .int s1, .int s2]) := by
        intro S H locs ls mc ms cu su v0 v3 v4 v5 v6 v7 v8 s0 s1 s2 h hw hS hl hcu hsu
        unfold wb_L_build_238 at h
        have h1 := h
        refine va_calli (va_runS (As := [.int s1, .int s0]) (rest := [.int s2]) ⟨hx, hb, hml, hown, hts⟩ (m_L_below (l := l) h1) (cwS 2 hts gL_build_L_below rfl rfl rfl (by decide +kernel) ⟨Nat.le_trans (Nat.le_of_ble_eq_true rfl) hRf, Nat.le_trans (Nat.le_of_ble_eq_true rfl) hRl⟩) (r_pS hB hw hS) rfl rfl hl.1 rfl (lv_room (Nat.le_of_ble_eq_true rfl)) dL_build_238 ⟨by omega, by omega⟩) hS (fun _ _ h => h) (fun _ h => h) (fun r44 S45 t H1 locs ht _ h hw1 _ _ hS => ?_)
        subst ht
        have hw : wd D y z S45 A t.heap := hw1
        clear hw1 h1
        refine lv_iadd hx hb dL_build_241 ?_
        refine lv_iload hx hb dL_build_242 (lv_at hl 3 rfl) ?_
        obtain ⟨hne, h⟩ := h
        refine lv_irem hx hb dL_build_244 hne ?_
        refine lv_istore hx hb dL_build_245 hl (by decide) rfl (fun ls hl => ?_)
        have hl : lv_has ls 11 [(9, .int ((s2 + r44) - (s2 + r44) / v4 * v4)), (0, .ref v0), (1, .ref p2), (3, .ref v3), (4, .int v4), (5, .int v5), (6, .int v6), (7, .int v7), (8, .int v8)] := hl
        refine lv_iload hx hb dL_build_247 (lv_at hl 0 rfl) ?_
        refine lv_iload hx hb dL_build_249 (lv_at hl 8 rfl) ?_
        refine lv_icmp_eq (tgt := 398) hx hb dL_build_251 (by decide) (fun hc => ?_) (fun hc => ?_)
        · have h := h.1 hc
          exact hB398 _ _ _ _ _ _ _ _ _ _ _ _ _ h hw hS (lv_sub hl [1, 2, 3, 4, 5, 6] rfl) hcu hsu
        · have h := h.2 hc
          refine lv_aload_n hx hb dL_build_254 rfl (lv_at hl 3 rfl) ?_
          refine lv_iload hx hb dL_build_255 (lv_at hl 8 rfl) ?_
          obtain ⟨hk46, h⟩ := h
          have h1 := h
          refine va_callq (va_runV (As := [.int v8]) (rest := []) ⟨hx, hb, hml, hown, hts⟩ (m_X7_out (l := l) h1) (cwV 1 hts gL_build_X7_out rfl rfl rfl (by decide +kernel) ⟨Nat.le_trans (Nat.le_of_ble_eq_true rfl) hRf, Nat.le_trans (Nat.le_of_ble_eq_true rfl) hRl⟩) (r_pV hB hw hS (ce_8 (S := S45) hk46) rfl) rfl rfl hl.1 rfl (lv_room (Nat.le_of_ble_eq_true rfl)) dL_build_257 ⟨by omega, by omega⟩) hS (fun _ _ h => h) (fun _ h => h) (fun r47 S48 t H1 locs ht _ h hw1 _ _ hS => ?_)
          subst ht
          have hw : wd D y z S48 A t.heap := hw1
          clear hw1 h1
          obtain ⟨b49, rfl, h⟩ := h
          refine W.eq (g2 := F0 m 260 ls [.ref b49]) rfl ?_
          obtain ⟨hk51, h⟩ := h
          refine r_alen hx hb hK hw (S := S48) (by rw [show gK S48 b49 = 9 from hk51]; decide) rfl dL_build_260 ?_
          refine lv_iconst (v := (4 : Int32)) hx hb dL_build_261 (by decide) ?_
          refine lv_icmp_ne (tgt := 268) hx hb dL_build_262 (by decide) (fun hc => ?_) (fun hc => ?_)
          · have h := h.1 hc
            refine lv_iconst (v := (3 : Int32)) hx hb dL_build_268 (by decide) ?_
            obtain ⟨hn0, hn1, hbg1, hbg2, h⟩ := h
            refine r_newa9 hx hb (hts (.arrayClass .int) (by decide +kernel)) hK hw hS hAn hAz hn0 rfl hn1 (by omega) (by omega) dL_build_269 (fun q52 H hq53 hw hS => ?_)
            have h := h q52 hq53
            have hk54 : gK (sNew S48 q52 9 (Int32.toNatClampNeg (3 : Int32))) b49 = 9 := b_old hk51 hq53 (by decide)
            have hk55 : gK (sNew S48 q52 9 (Int32.toNatClampNeg (3 : Int32))) q52 = 9 := if_pos rfl
            have hcu : (cu + 1) + (mc - 1) ≤ MC := by omega
            have hsu : (su + (Int32.toNatClampNeg (3 : Int32))) + (ms - (Int32.toNatClampNeg (3 : Int32))) ≤ MS := by omega
            refine lv_dup hx hb dL_build_271 rfl ?_
            refine lv_iconst (v := (0 : Int32)) hx hb dL_build_272 (by decide) ?_
            refine lv_iconst (v := (1 : Int32)) hx hb dL_build_273 (by decide) ?_
            refine lv_iload hx hb dL_build_274 (lv_at hl 7 rfl) ?_
            refine lv_iconst (v := (3 : Int32)) hx hb dL_build_276 (by decide) ?_
            refine lv_ishr hx hb dL_build_277 ?_
            refine lv_iload hx hb dL_build_278 (lv_at hl 7 rfl) ?_
            refine lv_iconst (v := (5 : Int32)) hx hb dL_build_280 (by decide) ?_
            refine lv_ishr hx hb dL_build_281 ?_
            refine lv_iconst (v := (2 : Int32)) hx hb dL_build_282 (by decide) ?_
            have h1 := h
            refine va_calli (va_runS (As := [.int (v7 >>> ((5 : Int32) &&& 31)), .int (2 : Int32)]) (rest := [.int (v7 >>> ((3 : Int32) &&& 31)), .int (1 : Int32), .int (0 : Int32), .ref q52, .ref q52]) ⟨hx, hb, hml, hown, hts⟩ (m_L_below (l := l) h1) (cwS 2 hts gL_build_L_below rfl rfl rfl (by decide +kernel) ⟨Nat.le_trans (Nat.le_of_ble_eq_true rfl) hRf, Nat.le_trans (Nat.le_of_ble_eq_true rfl) hRl⟩) (r_pS hB hw hS) rfl rfl hl.1 rfl (lv_room (Nat.le_of_ble_eq_true rfl)) dL_build_283 ⟨by omega, by omega⟩) hS (fun _ _ h => h) (fun _ h => h) (fun r56 S57 t H1 locs ht _ h hw1 _ _ hS => ?_)
            subst ht
            have hw : wd D y z S57 A t.heap := hw1
            clear hw1 h1
            refine lv_if_ne (tgt := 294) hx hb dL_build_286 (by decide) (fun hc => ?_) (fun hc => ?_)
            · have h := h.1 hc
              refine lv_bipush (v := (30 : Int32)) hx hb dL_build_294 (by decide) ?_
              exact hB296 _ _ _ _ _ _ _ _ _ _ _ _ _ _ _ _ _ _ _ _ _ _ h hw hS (lv_sub hl [1, 2, 3, 4, 5, 6, 7, 8, 0] rfl) hcu hsu
            · have h := h.2 hc
              refine lv_bipush (v := (8 : Int32)) hx hb dL_build_289 (by decide) ?_
              refine lv_goto (tgt := 296) hx hb dL_build_291 (by decide) ?_
              exact hB296 _ _ _ _ _ _ _ _ _ _ _ _ _ _ _ _ _ _ _ _ _ _ h hw hS (lv_sub hl [1, 2, 3, 4, 5, 6, 7, 8, 0] rfl) hcu hsu
          · have h := h.2 hc
            refine lv_goto (tgt := 398) hx hb dL_build_265 (by decide) ?_
            exact hB398 _ _ _ _ _ _ _ _ _ _ _ _ _ h hw hS (lv_sub hl [1, 2, 3, 4, 5, 6] rfl) hcu hsu
      have hB234 : ∀ (S : bS) (H : Heap) (locs : List Loc) (ls : Array Slot) (mc ms cu su : Nat) (v0 : Nat) (v3 : Nat) (v4 : Int32) (v5 : Int32) (v6 : Int32) (v7 : Int32) (v8 : Int32) (s0 : Int32) (s1 : Int32), wb_L_build_234 xs L post (wb_L_build_151 xs L post n151) mc ms v0 v3 v4 v5 v6 v7 v8 s0 s1 S → wd D y z S A H → va_S A s.heap H locs → lv_has ls 11 [(0, .ref v0), (1, .ref p2), (3, .ref v3), (4, .int v4), (5, .int v5), (6, .int v6), (7, .int v7), (8, .int v8)] → cu + mc ≤ MC → su + ms ≤ MS → W p l e R s m (([Value.ref p1, Value.ref p2, Value.int p3] : List Value).toArray) below meth c H locs cu su Q (F0 m 234 ls [.int s0, .int s1]) := by
        intro S H locs ls mc ms cu su v0 v3 v4 v5 v6 v7 v8 s0 s1 h hw hS hl hcu hsu
        unfold wb_L_build_234 at h
        refine lv_iload hx hb dL_build_234 (lv_at hl 3 rfl) ?_
        refine lv_iconst (v := (1 : Int32)) hx hb dL_build_236 (by decide) ?_
        refine lv_isub hx hb dL_build_237 ?_
        exact hB238 _ _ _ _ _ _ _ _ _ _ _ _ _ _ _ _ _ _ h hw hS (lv_sub hl [0, 1, 2, 3, 4, 5, 6, 7] rfl) hcu hsu
      have hB202 : ∀ (S : bS) (H : Heap) (locs : List Loc) (ls : Array Slot) (mc ms cu su : Nat) (v0 : Nat) (v3 : Nat) (v4 : Int32) (v5 : Int32) (v6 : Int32) (v7 : Int32) (s0 : Int32), wb_L_build_202 xs L post (wb_L_build_151 xs L post n151) mc ms v0 v3 v4 v5 v6 v7 s0 S → wd D y z S A H → va_S A s.heap H locs → lv_has ls 11 [(0, .ref v0), (1, .ref p2), (3, .ref v3), (4, .int v4), (5, .int v5), (6, .int v6), (7, .int v7)] → cu + mc ≤ MC → su + ms ≤ MS → W p l e R s m (([Value.ref p1, Value.ref p2, Value.int p3] : List Value).toArray) below meth c H locs cu su Q (F0 m 202 ls [.int s0]) := by
        intro S H locs ls mc ms cu su v0 v3 v4 v5 v6 v7 s0 h hw hS hl hcu hsu
        unfold wb_L_build_202 at h
        refine lv_istore hx hb dL_build_202 hl (by decide) rfl (fun ls hl => ?_)
        have hl : lv_has ls 11 [(8, .int s0), (0, .ref v0), (1, .ref p2), (3, .ref v3), (4, .int v4), (5, .int v5), (6, .int v6), (7, .int v7)] := hl
        refine lv_iload hx hb dL_build_204 (lv_at hl 0 rfl) ?_
        refine lv_iconst (v := (1 : Int32)) hx hb dL_build_206 (by decide) ?_
        refine lv_iadd hx hb dL_build_207 ?_
        refine lv_iload hx hb dL_build_208 (lv_at hl 7 rfl) ?_
        refine lv_iconst (v := (2 : Int32)) hx hb dL_build_210 (by decide) ?_
        refine lv_ishr hx hb dL_build_211 ?_
        refine lv_iload hx hb dL_build_212 (lv_at hl 6 rfl) ?_
        refine lv_iload hx hb dL_build_214 (lv_at hl 4 rfl) ?_
        refine lv_icmp_ge (tgt := 234) hx hb dL_build_216 (by decide) (fun hc => ?_) (fun hc => ?_)
        · have h := h.1 hc
          exact hB234 _ _ _ _ _ _ _ _ _ _ _ _ _ _ _ _ _ h hw hS (lv_sub hl [1, 2, 3, 4, 5, 6, 7, 0] rfl) hcu hsu
        · have h := h.2 hc
          refine lv_iload hx hb dL_build_219 (lv_at hl 7 rfl) ?_
          refine lv_iconst (v := (4 : Int32)) hx hb dL_build_221 (by decide) ?_
          refine lv_ishr hx hb dL_build_222 ?_
          refine lv_iconst (v := (3 : Int32)) hx hb dL_build_223 (by decide) ?_
          have h1 := h
          refine va_calli (va_runS (As := [.int (v7 >>> ((4 : Int32) &&& 31)), .int (3 : Int32)]) (rest := [.int (v7 >>> ((2 : Int32) &&& 31)), .int (s0 + (1 : Int32))]) ⟨hx, hb, hml, hown, hts⟩ (m_L_below (l := l) h1) (cwS 2 hts gL_build_L_below rfl rfl rfl (by decide +kernel) ⟨Nat.le_trans (Nat.le_of_ble_eq_true rfl) hRf, Nat.le_trans (Nat.le_of_ble_eq_true rfl) hRl⟩) (r_pS hB hw hS) rfl rfl hl.1 rfl (lv_room (Nat.le_of_ble_eq_true rfl)) dL_build_224 ⟨by omega, by omega⟩) hS (fun _ _ h => h) (fun _ h => h) (fun r42 S43 t H1 locs ht _ h hw1 _ _ hS => ?_)
          subst ht
          have hw : wd D y z S43 A t.heap := hw1
          clear hw1 h1
          refine lv_if_le (tgt := 234) hx hb dL_build_227 (by decide) (fun hc => ?_) (fun hc => ?_)
          · have h := h.1 hc
            exact hB234 _ _ _ _ _ _ _ _ _ _ _ _ _ _ _ _ _ h hw hS (lv_sub hl [1, 2, 3, 4, 5, 6, 7, 0] rfl) hcu hsu
          · have h := h.2 hc
            refine lv_iconst (v := (1 : Int32)) hx hb dL_build_230 (by decide) ?_
            refine lv_goto (tgt := 238) hx hb dL_build_231 (by decide) ?_
            exact hB238 _ _ _ _ _ _ _ _ _ _ _ _ _ _ _ _ _ _ h hw hS (lv_sub hl [1, 2, 3, 4, 5, 6, 7, 0] rfl) hcu hsu
      intro S H locs ls mc ms cu su v0 v3 v4 v5 v6 h hw hS hl hcu hsu
      unfold wb_L_build_151 at h
      refine lv_iload hx hb dL_build_151 (lv_at hl 5 rfl) ?_
      refine lv_iload hx hb dL_build_153 (lv_at hl 4 rfl) ?_
      refine lv_icmp_ge (tgt := 404) hx hb dL_build_155 (by decide) (fun hc => ?_) (fun hc => ?_)
      · have h := h.1 hc
        refine lv_aload_n hx hb dL_build_404 rfl (lv_at hl 2 rfl) ?_
        exact hret (some v3) _ _ _ _ _ _ _ h hw hS (by omega) (by omega) dL_build_405
      · have h := h.2 hc
        refine lv_aload_n hx hb dL_build_158 rfl (lv_at hl 1 rfl) ?_
        refine lv_bipush (v := (6 : Int32)) hx hb dL_build_159 (by decide) ?_
        refine lv_iload hx hb dL_build_161 (lv_at hl 5 rfl) ?_
        refine lv_bipush (v := (10 : Int32)) hx hb dL_build_163 (by decide) ?_
        obtain ⟨hne, h⟩ := h
        refine lv_irem hx hb dL_build_165 hne ?_
        refine lv_iadd hx hb dL_build_166 ?_
        have h1 := h
        refine va_calli (va_runS (As := [.ref p2, .int ((6 : Int32) + (v6 - v6 / (10 : Int32) * (10 : Int32)))]) (rest := []) ⟨hx, hb, hml, hown, hts⟩ (m_L_cell (l := l) h1) (cwS 2 hts gL_build_L_cell rfl rfl rfl (by decide +kernel) ⟨Nat.le_trans (Nat.le_of_ble_eq_true rfl) hRf, Nat.le_trans (Nat.le_of_ble_eq_true rfl) hRl⟩) (r_pSX hB hw hS hX hbl hbA) rfl rfl hl.1 rfl (lv_room (Nat.le_of_ble_eq_true rfl)) dL_build_167 ⟨by omega, by omega⟩) hS (fun _ _ h => h) (fun _ h => h) (fun r38 S39 t H1 locs ht _ h hw1 _ _ hS => ?_)
        subst ht
        have hw : wd D y z S39 A t.heap := hw1
        clear hw1 h1
        refine lv_iload hx hb dL_build_170 (lv_at hl 5 rfl) ?_
        refine lv_bipush (v := (10 : Int32)) hx hb dL_build_172 (by decide) ?_
        obtain ⟨hne, h⟩ := h
        refine lv_idiv hx hb dL_build_174 hne ?_
        refine lv_ishr hx hb dL_build_175 ?_
        refine lv_iconst (v := (5 : Int32)) hx hb dL_build_176 (by decide) ?_
        refine lv_iload hx hb dL_build_177 (lv_at hl 5 rfl) ?_
        refine lv_imul hx hb dL_build_179 ?_
        refine lv_iadd hx hb dL_build_180 ?_
        refine lv_istore hx hb dL_build_181 hl (by decide) rfl (fun ls hl => ?_)
        have hl : lv_has ls 11 [(7, .int ((r38 >>> ((v6 / (10 : Int32)) &&& 31)) + ((5 : Int32) * v6))), (0, .ref v0), (1, .ref p2), (3, .ref v3), (4, .int v4), (5, .int v5), (6, .int v6)] := hl
        refine lv_iload hx hb dL_build_183 (lv_at hl 6 rfl) ?_
        refine lv_iload hx hb dL_build_185 (lv_at hl 4 rfl) ?_
        refine lv_icmp_ge (tgt := 195) hx hb dL_build_187 (by decide) (fun hc => ?_) (fun hc => ?_)
        · have h := h.1 hc
          refine lv_iload hx hb dL_build_195 (lv_at hl 0 rfl) ?_
          refine lv_iload hx hb dL_build_197 (lv_at hl 4 rfl) ?_
          have h1 := h
          refine va_calli (va_runS (As := [.int ((r38 >>> ((v6 / (10 : Int32)) &&& 31)) + ((5 : Int32) * v6)), .int v4]) (rest := []) ⟨hx, hb, hml, hown, hts⟩ (m_L_below (l := l) h1) (cwS 2 hts gL_build_L_below rfl rfl rfl (by decide +kernel) ⟨Nat.le_trans (Nat.le_of_ble_eq_true rfl) hRf, Nat.le_trans (Nat.le_of_ble_eq_true rfl) hRl⟩) (r_pS hB hw hS) rfl rfl hl.1 rfl (lv_room (Nat.le_of_ble_eq_true rfl)) dL_build_199 ⟨by omega, by omega⟩) hS (fun _ _ h => h) (fun _ h => h) (fun r40 S41 t H1 locs ht _ h hw1 _ _ hS => ?_)
          subst ht
          have hw : wd D y z S41 A t.heap := hw1
          clear hw1 h1
          exact hB202 _ _ _ _ _ _ _ _ _ _ _ _ _ _ _ h hw hS (lv_sub hl [1, 2, 3, 4, 5, 6, 0] rfl) hcu hsu
        · have h := h.2 hc
          refine lv_iload hx hb dL_build_190 (lv_at hl 6 rfl) ?_
          refine lv_goto (tgt := 202) hx hb dL_build_192 (by decide) ?_
          exact hB202 _ _ _ _ _ _ _ _ _ _ _ _ _ _ _ h hw hS (lv_sub hl [1, 2, 3, 4, 5, 6, 0] rfl) hcu hsu
  have hB26 : ∀ (n26 : Nat) (S : bS) (H : Heap) (locs : List Loc) (ls : Array Slot) (mc ms cu su : Nat) (v0 : Nat) (v3 : Nat) (v4 : Int32) (v5 : Int32), wb_L_build_26 xs L post n26 mc ms v0 v3 v4 v5 S → wd D y z S A H → va_S A s.heap H locs → lv_has ls 11 [(0, .ref v0), (1, .ref p2), (3, .ref v3), (4, .int v4), (5, .int v5)] → cu + mc ≤ MC → su + ms ≤ MS → W p l e R s m (([Value.ref p1, Value.ref p2, Value.int p3] : List Value).toArray) below meth c H locs cu su Q (F0 m 26 ls []) := by
    intro n26
    induction n26 with
    | zero =>
      intro S H locs ls mc ms cu su v0 v3 v4 v5 h hw hS hl hcu hsu
      exact absurd h (by unfold wb_L_build_26; exact id)
    | succ n26 ih26 =>
      have hB101 : ∀ (S : bS) (H : Heap) (locs : List Loc) (ls : Array Slot) (mc ms cu su : Nat) (v0 : Nat) (v3 : Nat) (v4 : Int32) (v5 : Int32) (v7 : Int32) (s0 : Int32), wb_L_build_101 xs L post (wb_L_build_26 xs L post n26) mc ms v0 v3 v4 v5 v7 s0 S → wd D y z S A H → va_S A s.heap H locs → lv_has ls 11 [(0, .ref v0), (1, .ref p2), (3, .ref v3), (4, .int v4), (5, .int v5), (7, .int v7)] → cu + mc ≤ MC → su + ms ≤ MS → W p l e R s m (([Value.ref p1, Value.ref p2, Value.int p3] : List Value).toArray) below meth c H locs cu su Q (F0 m 101 ls [.int s0]) := by
        intro S H locs ls mc ms cu su v0 v3 v4 v5 v7 s0 h hw hS hl hcu hsu
        unfold wb_L_build_101 at h
        refine lv_istore hx hb dL_build_101 hl (by decide) rfl (fun ls hl => ?_)
        have hl : lv_has ls 11 [(8, .int s0), (0, .ref v0), (1, .ref p2), (3, .ref v3), (4, .int v4), (5, .int v5), (7, .int v7)] := hl
        refine lv_aload_n hx hb dL_build_103 rfl (lv_at hl 1 rfl) ?_
        refine lv_iload hx hb dL_build_104 (lv_at hl 6 rfl) ?_
        refine lv_iload hx hb dL_build_106 (lv_at hl 0 rfl) ?_
        obtain ⟨hk28, h⟩ := h
        obtain ⟨k31, n32, hbg1, hbg2, h⟩ := h
        have h1 := h
        refine vx_calli (vx_runV (As := [.int v7, .int s0]) (rest := []) ⟨hx, hb, hml, hown, hts⟩ (m_X5_addStation (l := l) hl0 h1) (cwV 2 hts gL_build_X5_addStation rfl rfl rfl (by decide +kernel) ⟨Nat.le_trans (Nat.le_of_ble_eq_true rfl) hRf, Nat.le_trans (Nat.le_of_ble_eq_true rfl) hRl⟩) (r_pV hB hw hS (ce_7 (S := S) hk28) rfl) rfl rfl hl.1 rfl (lv_room (Nat.le_of_ble_eq_true rfl)) dL_build_108 ⟨by omega, by omega⟩) hS (fun _ _ h => h) (fun _ h => h) (fun _ _ h => h) (fun E ce q9 S30 t H1 locs ht hal _ hq hz9 hk9 hS hq9 hvm9 hfc9 => hq.1.elim) (fun r29 S30 t H1 locs ht _ h hw1 _ _ hS => ?_)
        subst ht
        have hw : wd D y z S30 A t.heap := hw1
        clear hw1 h1
        have hcu : (cu + k31) + (mc - k31) ≤ MC := by omega
        have hsu : (su + n32) + (ms - n32) ≤ MS := by omega
        refine lv_iload hx hb dL_build_111 (lv_at hl 5 rfl) ?_
        refine lv_icmp_eq (tgt := 118) hx hb dL_build_113 (by decide) (fun hc => ?_) (fun hc => ?_)
        · have h := h.1 hc
          refine lv_aload_n hx hb dL_build_118 rfl (lv_at hl 3 rfl) ?_
          refine lv_iload hx hb dL_build_119 (lv_at hl 6 rfl) ?_
          refine lv_iload hx hb dL_build_121 (lv_at hl 0 rfl) ?_
          obtain ⟨hk33, h⟩ := h
          obtain ⟨k36, n37, hbg1, hbg2, h⟩ := h
          have h1 := h
          refine va_callv (va_runV (As := [.int v7, .int s0]) (rest := []) ⟨hx, hb, hml, hown, hts⟩ (m_X7_addStation (l := l) h1) (cwV 2 hts gL_build_X7_addStation rfl rfl rfl (by decide +kernel) ⟨Nat.le_trans (Nat.le_of_ble_eq_true rfl) hRf, Nat.le_trans (Nat.le_of_ble_eq_true rfl) hRl⟩) (r_pV hB hw hS (ce_8 (S := S30) hk33) rfl) rfl rfl hl.1 rfl (lv_room (Nat.le_of_ble_eq_true rfl)) dL_build_123 ⟨by omega, by omega⟩) hS (fun _ _ h => h) (fun _ h => h) (fun S35 t H1 locs ht _ h hw1 _ _ hS => ?_)
          subst ht
          have hw : wd D y z S35 A t.heap := hw1
          clear hw1 h1
          have hcu : ((cu + k31) + k36) + ((mc - k31) - k36) ≤ MC := by omega
          have hsu : ((su + n32) + n37) + ((ms - n32) - n37) ≤ MS := by omega
          refine lv_iinc (v := (v5 + (1 : Int32))) hx hb dL_build_126 hl (k := 5) rfl rfl (by decide) rfl (fun ls hl => ?_)
          have hl : lv_has ls 11 [(5, .int (v5 + (1 : Int32))), (8, .int s0), (0, .ref v0), (1, .ref p2), (3, .ref v3), (4, .int v4), (7, .int v7)] := hl
          refine lv_goto (tgt := 26) hx hb dL_build_129 (by decide) ?_
          exact ih26 _ _ _ _ _ _ _ _ _ _ _ _ h hw hS (lv_sub hl [2, 3, 4, 5, 0] rfl) hcu hsu
        · have h := h.2 hc
          refine lv_null hx hb dL_build_116 ?_
          exact hret none _ _ _ _ _ _ _ h hw hS (by omega) (by omega) dL_build_117
      have hB71 : ∀ (S : bS) (H : Heap) (locs : List Loc) (ls : Array Slot) (mc ms cu su : Nat) (v0 : Nat) (v3 : Nat) (v4 : Int32) (v5 : Int32) (v6 : Int32) (s0 : Int32) (s1 : Int32) (s2 : Int32), wb_L_build_71 xs L post (wb_L_build_26 xs L post n26) mc ms v0 v3 v4 v5 v6 s0 s1 s2 S → wd D y z S A H → va_S A s.heap H locs → lv_has ls 11 [(0, .ref v0), (1, .ref p2), (3, .ref v3), (4, .int v4), (5, .int v5), (6, .int v6)] → cu + mc ≤ MC → su + ms ≤ MS → W p l e R s m (([Value.ref p1, Value.ref p2, Value.int p3] : List Value).toArray) below meth c H locs cu su Q (F0 m 71 ls [.int s0, .int s1, .int s2]) := by
        intro S H locs ls mc ms cu su v0 v3 v4 v5 v6 s0 s1 s2 h hw hS hl hcu hsu
        unfold wb_L_build_71 at h
        have h1 := h
        refine va_calli (va_runS (As := [.int s1, .int s0]) (rest := [.int s2]) ⟨hx, hb, hml, hown, hts⟩ (m_L_below (l := l) h1) (cwS 2 hts gL_build_L_below rfl rfl rfl (by decide +kernel) ⟨Nat.le_trans (Nat.le_of_ble_eq_true rfl) hRf, Nat.le_trans (Nat.le_of_ble_eq_true rfl) hRl⟩) (r_pS hB hw hS) rfl rfl hl.1 rfl (lv_room (Nat.le_of_ble_eq_true rfl)) dL_build_71 ⟨by omega, by omega⟩) hS (fun _ _ h => h) (fun _ h => h) (fun r22 S23 t H1 locs ht _ h hw1 _ _ hS => ?_)
        subst ht
        have hw : wd D y z S23 A t.heap := hw1
        clear hw1 h1
        refine lv_iadd hx hb dL_build_74 ?_
        refine lv_istore hx hb dL_build_75 hl (by decide) rfl (fun ls hl => ?_)
        have hl : lv_has ls 11 [(7, .int (s2 + r22)), (0, .ref v0), (1, .ref p2), (3, .ref v3), (4, .int v4), (5, .int v5), (6, .int v6)] := hl
        refine lv_iload hx hb dL_build_77 (lv_at hl 6 rfl) ?_
        refine lv_iconst (v := (3 : Int32)) hx hb dL_build_79 (by decide) ?_
        refine lv_ishr hx hb dL_build_80 ?_
        refine lv_iconst (v := (2 : Int32)) hx hb dL_build_81 (by decide) ?_
        have h1 := h
        refine va_calli (va_runS (As := [.int (v6 >>> ((3 : Int32) &&& 31)), .int (2 : Int32)]) (rest := []) ⟨hx, hb, hml, hown, hts⟩ (m_L_below (l := l) h1) (cwS 2 hts gL_build_L_below rfl rfl rfl (by decide +kernel) ⟨Nat.le_trans (Nat.le_of_ble_eq_true rfl) hRf, Nat.le_trans (Nat.le_of_ble_eq_true rfl) hRl⟩) (r_pS hB hw hS) rfl rfl hl.1 rfl (lv_room (Nat.le_of_ble_eq_true rfl)) dL_build_82 ⟨by omega, by omega⟩) hS (fun _ _ h => h) (fun _ h => h) (fun r24 S25 t H1 locs ht _ h hw1 _ _ hS => ?_)
        subst ht
        have hw : wd D y z S25 A t.heap := hw1
        clear hw1 h1
        refine lv_if_ne (tgt := 92) hx hb dL_build_85 (by decide) (fun hc => ?_) (fun hc => ?_)
        · have h := h.1 hc
          refine lv_iload hx hb dL_build_92 (lv_at hl 6 rfl) ?_
          refine lv_iconst (v := (5 : Int32)) hx hb dL_build_94 (by decide) ?_
          refine lv_ishr hx hb dL_build_95 ?_
          refine lv_bipush (v := (8 : Int32)) hx hb dL_build_96 (by decide) ?_
          have h1 := h
          refine va_calli (va_runS (As := [.int (v6 >>> ((5 : Int32) &&& 31)), .int (8 : Int32)]) (rest := []) ⟨hx, hb, hml, hown, hts⟩ (m_L_below (l := l) h1) (cwS 2 hts gL_build_L_below rfl rfl rfl (by decide +kernel) ⟨Nat.le_trans (Nat.le_of_ble_eq_true rfl) hRf, Nat.le_trans (Nat.le_of_ble_eq_true rfl) hRl⟩) (r_pS hB hw hS) rfl rfl hl.1 rfl (lv_room (Nat.le_of_ble_eq_true rfl)) dL_build_98 ⟨by omega, by omega⟩) hS (fun _ _ h => h) (fun _ h => h) (fun r26 S27 t H1 locs ht _ h hw1 _ _ hS => ?_)
          subst ht
          have hw : wd D y z S27 A t.heap := hw1
          clear hw1 h1
          exact hB101 _ _ _ _ _ _ _ _ _ _ _ _ _ _ h hw hS (lv_sub hl [1, 2, 3, 4, 5, 0] rfl) hcu hsu
        · have h := h.2 hc
          refine lv_iconst (v := (0 : Int32)) hx hb dL_build_88 (by decide) ?_
          refine lv_goto (tgt := 101) hx hb dL_build_89 (by decide) ?_
          exact hB101 _ _ _ _ _ _ _ _ _ _ _ _ _ _ h hw hS (lv_sub hl [1, 2, 3, 4, 5, 0] rfl) hcu hsu
      intro S H locs ls mc ms cu su v0 v3 v4 v5 h hw hS hl hcu hsu
      unfold wb_L_build_26 at h
      refine lv_iload hx hb dL_build_26 (lv_at hl 4 rfl) ?_
      refine lv_iload hx hb dL_build_28 (lv_at hl 3 rfl) ?_
      refine lv_icmp_ge (tgt := 132) hx hb dL_build_30 (by decide) (fun hc => ?_) (fun hc => ?_)
      · have h := h.1 hc
        refine lv_iload hx hb dL_build_132 (lv_at hl 3 rfl) ?_
        refine lv_aload_n hx hb dL_build_134 rfl (lv_at hl 1 rfl) ?_
        refine lv_bipush (v := (6 : Int32)) hx hb dL_build_135 (by decide) ?_
        have h1 := h
        refine va_calli (va_runS (As := [.ref p2, .int (6 : Int32)]) (rest := [.int v4]) ⟨hx, hb, hml, hown, hts⟩ (m_L_cell (l := l) h1) (cwS 2 hts gL_build_L_cell rfl rfl rfl (by decide +kernel) ⟨Nat.le_trans (Nat.le_of_ble_eq_true rfl) hRf, Nat.le_trans (Nat.le_of_ble_eq_true rfl) hRl⟩) (r_pSX hB hw hS hX hbl hbA) rfl rfl hl.1 rfl (lv_room (Nat.le_of_ble_eq_true rfl)) dL_build_137 ⟨by omega, by omega⟩) hS (fun _ _ h => h) (fun _ h => h) (fun r12 S13 t H1 locs ht _ h hw1 _ _ hS => ?_)
        subst ht
        have hw : wd D y z S13 A t.heap := hw1
        clear hw1 h1
        refine lv_bipush (v := (6 : Int32)) hx hb dL_build_140 (by decide) ?_
        have h1 := h
        refine va_calli (va_runS (As := [.int r12, .int (6 : Int32)]) (rest := [.int v4]) ⟨hx, hb, hml, hown, hts⟩ (m_L_below (l := l) h1) (cwS 2 hts gL_build_L_below rfl rfl rfl (by decide +kernel) ⟨Nat.le_trans (Nat.le_of_ble_eq_true rfl) hRf, Nat.le_trans (Nat.le_of_ble_eq_true rfl) hRl⟩) (r_pS hB hw hS) rfl rfl hl.1 rfl (lv_room (Nat.le_of_ble_eq_true rfl)) dL_build_142 ⟨by omega, by omega⟩) hS (fun _ _ h => h) (fun _ h => h) (fun r14 S15 t H1 locs ht _ h hw1 _ _ hS => ?_)
        subst ht
        have hw : wd D y z S15 A t.heap := hw1
        clear hw1 h1
        refine lv_iadd hx hb dL_build_145 ?_
        refine lv_istore hx hb dL_build_146 hl (by decide) rfl (fun ls hl => ?_)
        have hl : lv_has ls 11 [(5, .int (v4 + r14)), (0, .ref v0), (1, .ref p2), (3, .ref v3), (4, .int v4)] := hl
        refine lv_iconst (v := (0 : Int32)) hx hb dL_build_148 (by decide) ?_
        refine lv_istore hx hb dL_build_149 hl (by decide) rfl (fun ls hl => ?_)
        have hl : lv_has ls 11 [(6, .int (0 : Int32)), (5, .int (v4 + r14)), (0, .ref v0), (1, .ref p2), (3, .ref v3), (4, .int v4)] := hl
        obtain ⟨n151, h⟩ := h
        exact hB151 n151 _ _ _ _ _ _ _ _ _ _ _ _ _ h hw hS (lv_sub hl [2, 3, 4, 5, 1, 0] rfl) hcu hsu
      · have h := h.2 hc
        refine lv_aload_n hx hb dL_build_33 rfl (lv_at hl 1 rfl) ?_
        refine lv_iconst (v := (1 : Int32)) hx hb dL_build_34 (by decide) ?_
        refine lv_iload hx hb dL_build_35 (lv_at hl 4 rfl) ?_
        refine lv_iconst (v := (5 : Int32)) hx hb dL_build_37 (by decide) ?_
        obtain ⟨hne, h⟩ := h
        refine lv_irem hx hb dL_build_38 hne ?_
        refine lv_iadd hx hb dL_build_39 ?_
        have h1 := h
        refine va_calli (va_runS (As := [.ref p2, .int ((1 : Int32) + (v5 - v5 / (5 : Int32) * (5 : Int32)))]) (rest := []) ⟨hx, hb, hml, hown, hts⟩ (m_L_cell (l := l) h1) (cwS 2 hts gL_build_L_cell rfl rfl rfl (by decide +kernel) ⟨Nat.le_trans (Nat.le_of_ble_eq_true rfl) hRf, Nat.le_trans (Nat.le_of_ble_eq_true rfl) hRl⟩) (r_pSX hB hw hS hX hbl hbA) rfl rfl hl.1 rfl (lv_room (Nat.le_of_ble_eq_true rfl)) dL_build_40 ⟨by omega, by omega⟩) hS (fun _ _ h => h) (fun _ h => h) (fun r16 S17 t H1 locs ht _ h hw1 _ _ hS => ?_)
        subst ht
        have hw : wd D y z S17 A t.heap := hw1
        clear hw1 h1
        refine lv_istore hx hb dL_build_43 hl (by decide) rfl (fun ls hl => ?_)
        have hl : lv_has ls 11 [(6, .int r16), (0, .ref v0), (1, .ref p2), (3, .ref v3), (4, .int v4), (5, .int v5)] := hl
        refine lv_iconst (v := (1 : Int32)) hx hb dL_build_45 (by decide) ?_
        refine lv_iload hx hb dL_build_46 (lv_at hl 0 rfl) ?_
        refine lv_iload hx hb dL_build_48 (lv_at hl 5 rfl) ?_
        refine lv_ishr hx hb dL_build_50 ?_
        refine lv_aload_n hx hb dL_build_51 rfl (lv_at hl 2 rfl) ?_
        refine lv_iconst (v := (0 : Int32)) hx hb dL_build_52 (by decide) ?_
        have h1 := h
        refine va_calli (va_runS (As := [.ref p2, .int (0 : Int32)]) (rest := [.int (r16 >>> (v5 &&& 31)), .int (1 : Int32)]) ⟨hx, hb, hml, hown, hts⟩ (m_L_cell (l := l) h1) (cwS 2 hts gL_build_L_cell rfl rfl rfl (by decide +kernel) ⟨Nat.le_trans (Nat.le_of_ble_eq_true rfl) hRf, Nat.le_trans (Nat.le_of_ble_eq_true rfl) hRl⟩) (r_pSX hB hw hS hX hbl hbA) rfl rfl hl.1 rfl (lv_room (Nat.le_of_ble_eq_true rfl)) dL_build_53 ⟨by omega, by omega⟩) hS (fun _ _ h => h) (fun _ h => h) (fun r18 S19 t H1 locs ht _ h hw1 _ _ hS => ?_)
        subst ht
        have hw : wd D y z S19 A t.heap := hw1
        clear hw1 h1
        refine lv_iconst (v := (4 : Int32)) hx hb dL_build_56 (by decide) ?_
        refine lv_ishr hx hb dL_build_57 ?_
        refine lv_iconst (v := (2 : Int32)) hx hb dL_build_58 (by decide) ?_
        have h1 := h
        refine va_calli (va_runS (As := [.int (r18 >>> ((4 : Int32) &&& 31)), .int (2 : Int32)]) (rest := [.int (r16 >>> (v5 &&& 31)), .int (1 : Int32)]) ⟨hx, hb, hml, hown, hts⟩ (m_L_below (l := l) h1) (cwS 2 hts gL_build_L_below rfl rfl rfl (by decide +kernel) ⟨Nat.le_trans (Nat.le_of_ble_eq_true rfl) hRf, Nat.le_trans (Nat.le_of_ble_eq_true rfl) hRl⟩) (r_pS hB hw hS) rfl rfl hl.1 rfl (lv_room (Nat.le_of_ble_eq_true rfl)) dL_build_59 ⟨by omega, by omega⟩) hS (fun _ _ h => h) (fun _ h => h) (fun r20 S21 t H1 locs ht _ h hw1 _ _ hS => ?_)
        subst ht
        have hw : wd D y z S21 A t.heap := hw1
        clear hw1 h1
        refine lv_if_ne (tgt := 70) hx hb dL_build_62 (by decide) (fun hc => ?_) (fun hc => ?_)
        · have h := h.1 hc
          refine lv_iconst (v := (2 : Int32)) hx hb dL_build_70 (by decide) ?_
          exact hB71 _ _ _ _ _ _ _ _ _ _ _ _ _ _ _ _ h hw hS (lv_sub hl [1, 2, 3, 4, 5, 0] rfl) hcu hsu
        · have h := h.2 hc
          refine lv_bipush (v := (9 : Int32)) hx hb dL_build_65 (by decide) ?_
          refine lv_goto (tgt := 71) hx hb dL_build_67 (by decide) ?_
          exact hB71 _ _ _ _ _ _ _ _ _ _ _ _ _ _ _ _ h hw hS (lv_sub hl [1, 2, 3, 4, 5, 0] rfl) hcu hsu
  unfold wp_L_build at h
  have hcu : 0 + MC ≤ MC := by omega
  have hsu : 0 + MS ≤ MS := by omega
  obtain ⟨hbg1, hbg2, h⟩ := h
  refine r_new (ci := 7) (C := RX7) (T := TX7) (N := 10) (κ := 8) (nn := 0) hx hb hts hiX7 tyX7 tyX7_ok hown (hts (.classLink RL 9 RX7) (by decide +kernel)) (hts (.instantiable RX7 10) (by decide +kernel)) (hts (.initialized RX7) (by decide +kernel)) hK hw hS hAn hAz rfl pn_8 (by decide) b_fs8 (by omega) (by omega) dL_build_0 (fun q1 H hq2 hw hS => ?_)
  have h := h q1 hq2
  have hk3 : gK (sNew S q1 8 0) q1 = 8 := if_pos rfl
  have hcu : (0 + 1) + (MC - 1) ≤ MC := by omega
  have hsu : (0 + 10) + (MS - 10) ≤ MS := by omega
  refine lv_dup hx hb dL_build_3 rfl ?_
  obtain ⟨k6, n7, hbg1, hbg2, h⟩ := h
  have h1 := h
  refine va_callv (va_runIN (As := []) (rest := [.ref q1]) ⟨hx, hb, hml, hown, hts⟩ (m_X7_init (l := l) h1) ⟨va_cnB 0 hts gL_build_X7_init_n11 rfl rfl rfl (hNw _ bNw_68) (hts (.initialized RX7) (by decide +kernel)) ⟨by decide +kernel, by decide +kernel, by decide +kernel⟩ ⟨Nat.le_trans (Nat.le_of_ble_eq_true rfl) hRf, Nat.le_trans (Nat.le_of_ble_eq_true rfl) hRl⟩, rfl, (hts (.instanceMethod yX7_init) (by decide +kernel))⟩ (r_pS hB hw hS) rfl rfl hl.1 rfl (lv_room (Nat.le_of_ble_eq_true rfl)) dL_build_4 ⟨by omega, by omega⟩) hS (fun _ _ h => h) (fun _ h => h) (fun S5 t H1 locs ht _ h hw1 _ _ hS => ?_)
  subst ht
  have hw : wd D y z S5 A t.heap := hw1
  clear hw1 h1
  have hcu : ((0 + 1) + k6) + ((MC - 1) - k6) ≤ MC := by omega
  have hsu : ((0 + 10) + n7) + ((MS - 10) - n7) ≤ MS := by omega
  refine lv_astore_n hx hb dL_build_7 rfl hl (by decide) rfl (fun ls hl => ?_)
  have hl : lv_has ls 11 [(3, .ref q1), (0, .ref p1), (1, .ref p2), (2, .int p3)] := hl
  refine lv_iconst (v := (2 : Int32)) hx hb dL_build_8 (by decide) ?_
  refine lv_aload_n hx hb dL_build_9 rfl (lv_at hl 2 rfl) ?_
  refine lv_iconst (v := (0 : Int32)) hx hb dL_build_10 (by decide) ?_
  have h1 := h
  refine va_calli (va_runS (As := [.ref p2, .int (0 : Int32)]) (rest := [.int (2 : Int32)]) ⟨hx, hb, hml, hown, hts⟩ (m_L_cell (l := l) h1) (cwS 2 hts gL_build_L_cell rfl rfl rfl (by decide +kernel) ⟨Nat.le_trans (Nat.le_of_ble_eq_true rfl) hRf, Nat.le_trans (Nat.le_of_ble_eq_true rfl) hRl⟩) (r_pSX hB hw hS hX hbl hbA) rfl rfl hl.1 rfl (lv_room (Nat.le_of_ble_eq_true rfl)) dL_build_11 ⟨by omega, by omega⟩) hS (fun _ _ h => h) (fun _ h => h) (fun r8 S9 t H1 locs ht _ h hw1 _ _ hS => ?_)
  subst ht
  have hw : wd D y z S9 A t.heap := hw1
  clear hw1 h1
  refine lv_iload_n hx hb dL_build_14 rfl (lv_at hl 3 rfl) ?_
  refine lv_iconst (v := (1 : Int32)) hx hb dL_build_15 (by decide) ?_
  refine lv_isub hx hb dL_build_16 ?_
  have h1 := h
  refine va_calli (va_runS (As := [.int r8, .int (p3 - (1 : Int32))]) (rest := [.int (2 : Int32)]) ⟨hx, hb, hml, hown, hts⟩ (m_L_below (l := l) h1) (cwS 2 hts gL_build_L_below rfl rfl rfl (by decide +kernel) ⟨Nat.le_trans (Nat.le_of_ble_eq_true rfl) hRf, Nat.le_trans (Nat.le_of_ble_eq_true rfl) hRl⟩) (r_pS hB hw hS) rfl rfl hl.1 rfl (lv_room (Nat.le_of_ble_eq_true rfl)) dL_build_17 ⟨by omega, by omega⟩) hS (fun _ _ h => h) (fun _ h => h) (fun r10 S11 t H1 locs ht _ h hw1 _ _ hS => ?_)
  subst ht
  have hw : wd D y z S11 A t.heap := hw1
  clear hw1 h1
  refine lv_iadd hx hb dL_build_20 ?_
  refine lv_istore hx hb dL_build_21 hl (by decide) rfl (fun ls hl => ?_)
  have hl : lv_has ls 11 [(4, .int ((2 : Int32) + r10)), (3, .ref q1), (0, .ref p1), (1, .ref p2), (2, .int p3)] := hl
  refine lv_iconst (v := (0 : Int32)) hx hb dL_build_23 (by decide) ?_
  refine lv_istore hx hb dL_build_24 hl (by decide) rfl (fun ls hl => ?_)
  have hl : lv_has ls 11 [(5, .int (0 : Int32)), (4, .int ((2 : Int32) + r10)), (3, .ref q1), (0, .ref p1), (1, .ref p2), (2, .int p3)] := hl
  obtain ⟨n26, h⟩ := h
  exact hB26 n26 _ _ _ _ _ _ _ _ _ _ _ _ h hw hS (lv_sub hl [3, 4, 2, 1, 0] rfl) hcu hsu
