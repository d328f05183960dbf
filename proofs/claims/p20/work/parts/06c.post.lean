def wp_X5_count (post : Int32 → bS → Prop) (xp : String → bS → Prop) (MC MS : Nat) (this : Nat) (p1 : Int32) (S : bS) : Prop := (p1 = (0 : Int32) → gK S this = 7 ∧ (post (gV S 7 this 3) S)) ∧ (p1 = (1 : Int32) → gK S this = 7 ∧ (∃ b3, gQ S 7 this 0 = some b3 ∧ (gK S b3 = 4 ∧ (∃ b6, gQ S 4 b3 0 = some b6 ∧ (gK S b6 = 1 ∧ (wp_Jx4a65c_size_8abf5 (fun r9 S10 => post r9 S10) b6 S)))))) ∧ (p1 = (2 : Int32) → gK S this = 7 ∧ (∃ b12, gQ S 7 this 0 = some b12 ∧ (gK S b12 = 4 ∧ (∃ b15, gQ S 4 b12 1 = some b15 ∧ (gK S b15 = 1 ∧ (wp_Jx4a65c_size_8abf5 (fun r18 S19 => post r18 S19) b15 S)))))) ∧ (p1 = (3 : Int32) → gK S this = 7 ∧ (∃ b21, gQ S 7 this 1 = some b21 ∧ (gK S b21 = 1 ∧ (wp_Jx4a65c_size_8abf5 (fun r24 S25 => post r24 S25) b21 S)))) ∧ (p1 = (4 : Int32) → gK S this = 7 ∧ (∃ b27, gQ S 7 this 2 = some b27 ∧ (gK S b27 = 1 ∧ (wp_Jx4a65c_size_8abf5 (fun r30 S31 => post r30 S31) b27 S)))) ∧ (p1 = (5 : Int32) → gK S this = 7 ∧ (wp_X5_underWay (fun r33 S34 => post r33 S34) this S)) ∧ (p1 = (6 : Int32) → gK S this = 7 ∧ (post (gV S 7 this 4) S)) ∧ (p1 = (7 : Int32) → gK S this = 7 ∧ (wp_X5_jammedTubes (fun r37 S38 => post r37 S38) this S)) ∧ (p1 = (8 : Int32) → gK S this = 7 ∧ (post (gV S 7 this 5) S)) ∧ (¬ p1 = (0 : Int32) → ¬ p1 = (1 : Int32) → ¬ p1 = (2 : Int32) → ¬ p1 = (3 : Int32) → ¬ p1 = (4 : Int32) → ¬ p1 = (5 : Int32) → ¬ p1 = (6 : Int32) → ¬ p1 = (7 : Int32) → ¬ p1 = (8 : Int32) → False)
set_option maxHeartbeats 4000000 in
set_option maxRecDepth 100000 in
theorem m_X5_count {l : Launch} {D : va_G} {y : Nat → ClassId} {z : Nat} {A : Nat → Prop} {S : bS} {post : Int32 → bS → Prop} {xp : String → bS → Prop} (hl0 : l.stackTraces = false) {MC MS : Nat} {this : Nat} {p1 : Int32} (h : wp_X5_count post xp MC MS this p1 S) : vx_Met l yX5_count wsX5_count ({ frames := 8, cells := MC, slots := MS, locals := 400 } : Room) (va_Pc ([Value.ref this, Value.int p1] : List Value) (bP D y z S A)) (va_Qi post (fun S' t => wd D y z S' A t.heap) A) (bX D y z A xp) MC MS A := by
  refine vx_ofW (cc := cX5_count) (maxL := 2) (ret := (some .int)) (by decide) rfl ?_
  intro p e s m args below meth c s₁ B hml hex hv
  obtain ⟨rfl, hB⟩ := hv
  have hx := B.exec
  have hb := B.bytes
  have hr := B.returns
  have hts := atoms_spec (ws := wsX5_count) B.pre
  have hown : s.vm.findClass RX5 = some m.cls := findClass_of_methodNamed B.named
  have hlocks := B.notSynchronized
  have hw : wd D y z S A s.heap := hB.1
  have hK : va_K D bCl (bT y) s := hB.2.1
  have hNw := hB.2.2.1
  have hAn : ∀ q : Nat, s.heap.size ≤ q → A q := hB.2.2.2.1
  have hAz : ¬ A z := hB.2.2.2.2.1
  have hO := hB.2.2.2.2.2.1
  have hS : va_S A s.heap s.heap [] := va_S.rf
  have hiX2 : ∀ w ∈ u_ws RX2 TX2 2, w ∈ wsX5_count := by decide +kernel
  have hiX5 : ∀ w ∈ u_ws RX5 TX5 6, w ∈ wsX5_count := by decide +kernel
  have hl := lv_entry ([Value.ref this, Value.int p1] : List Value) (n := 2) (Nat.le_of_ble_eq_true rfl)
  rw [lg_entry_eq]
  generalize (lg_sl ([Value.ref this, Value.int p1] : List Value) ++ List.replicate (2 - (lg_sl ([Value.ref this, Value.int p1] : List Value)).length) Slot.unset).toArray = ls at hl ⊢
  have hl : lv_has ls 2 [(0, .ref this), (1, .int p1)] := hl
  obtain ⟨Q, hQ⟩ : ∃ Q, Q = vx_MQ below (va_Qi post (fun S' t => wd D y z S' A t.heap) A) (bX D y z A xp) (([Value.ref this, Value.int p1] : List Value).toArray) s MC MS A := ⟨_, rfl⟩
  rw [← hQ]
  generalize hR : (headSpec wsX5_count ({ frames := 8, cells := MC, slots := MS, locals := 400 } : Room)).room = R
  have hRf : 8 ≤ R.frames := by rw [← hR]; exact Nat.le_refl _
  have hRl : 400 ≤ R.locals := by rw [← hR]; exact Nat.le_refl _
  have hRc : R.cells = MC := by rw [← hR]; rfl
  have hRs : R.slots = MS := by rw [← hR]; rfl
  have hret : ∀ (v : Int32) (S : bS) (H : Heap) (locs : List Loc) (pc : Nat) (ls : Array Slot) (cu su : Nat) , post v S → wd D y z S A H → va_S A s.heap H locs → cu ≤ MC → su ≤ MS → decode cX5_count pc = .ok (.ireturn, 1) → W p l e R s m (([Value.ref this, Value.int p1] : List Value).toArray) below meth c H locs cu su Q (F0 m pc ls [.int v]) := by
    intro v S H locs pc ls cu su h hw hS hcu hsu d0
    rw [hQ]; refine vx_ret ?_; refine W.widen hcu hsu ?_; exact W.iret hx hb hr (fun t ht hW => ⟨⟨v, S, rfl, h, by show wd D y z S A t.heap; rw [ht]; exact hw⟩, hS.F ht⟩) hS.2.2 d0 hlocks
  unfold wp_X5_count at h
  have hcu : 0 + MC ≤ MC := by omega
  have hsu : 0 + MS ≤ MS := by omega
  refine lv_iload_n hx hb dX5_count_0 rfl (lv_at hl 1 rfl) ?_
  by_cases hq0 : p1 = (0 : Int32)
  · have h := h.1 hq0
    refine lv_tableIn (off := 51) (tgt := 52) hx hb dX5_count_1 (by rw [hq0]; decide) (by rw [hq0]; decide) (by rw [hq0]; decide) (by decide) ?_
    refine lv_aload_n hx hb dX5_count_52 rfl (lv_at hl 0 rfl) ?_
    obtain ⟨hk1, h⟩ := h
    refine r_get (ci := 6) (v := .int (gV S 7 this 3)) (C := RX5) (T := TX5) (N := 6) hx hb hts hiX5 hown hK hw (ce_7 (S := S) hk1) rfl 3 (by decide) (hts (.fieldLink RX5 26 "TubePost" "tick" "I") (by decide +kernel)) (fun _ h9 => h9) rfl dX5_count_53 ?_
    exact hret (gV S 7 this 3) _ _ _ _ _ _ _ h hw hS (by omega) (by omega) dX5_count_56
  by_cases hq1 : p1 = (1 : Int32)
  · have h := h.2.1 hq1
    refine lv_tableIn (off := 56) (tgt := 57) hx hb dX5_count_1 (by rw [hq1]; decide) (by rw [hq1]; decide) (by rw [hq1]; decide) (by decide) ?_
    refine lv_aload_n hx hb dX5_count_57 rfl (lv_at hl 0 rfl) ?_
    obtain ⟨hk2, h⟩ := h
    obtain ⟨b3, hb4, h⟩ := h
    refine r_get (ci := 6) (v := .ref b3) (C := RX5) (T := TX5) (N := 6) hx hb hts hiX5 hown hK hw (ce_7 (S := S) hk2) rfl 0 (by decide) (hts (.fieldLink RX5 10 "TubePost" "net" "LTubePost$Net;") (by decide +kernel)) (fun _ h9 => h9) (congrArg (fun q => some (va_rf q)) hb4) dX5_count_58 ?_
    obtain ⟨hk5, h⟩ := h
    obtain ⟨b6, hb7, h⟩ := h
    refine r_getN (ci := 3) (v := .ref b6) (C := RX2) (T := TX2) (N := 2) hx hb hts hiX2 hown hK hw (ce_4 (S := S) hk5) rfl 0 (by decide) (hNw _ (bNw_0)) (fun _ h9 => h9) (congrArg (fun q => some (va_rf q)) hb7) dX5_count_61 ?_
    obtain ⟨hk8, h⟩ := h
    have h1 := h
    refine va_calli (va_runV (As := []) (rest := []) ⟨hx, hb, hml, hown, hts⟩ (m_Jx4a65c_size_8abf5 (l := l) h1) (cwV 0 hts gX5_count_Jx4a65c_size_8abf5 rfl rfl rfl (by decide +kernel) ⟨Nat.le_trans (Nat.le_of_ble_eq_true rfl) hRf, Nat.le_trans (Nat.le_of_ble_eq_true rfl) hRl⟩) (r_pV hB hw hS (ce_1 (S := S) hk8) rfl) rfl rfl hl.1 rfl (lv_room (Nat.le_of_ble_eq_true rfl)) dX5_count_64 ⟨by omega, by omega⟩) hS (fun _ _ h => h) (fun _ h => h) (fun r9 S10 t H1 locs ht _ h hw1 _ _ hS => ?_)
    subst ht
    have hw : wd D y z S10 A t.heap := hw1
    clear hw1 h1
    exact hret r9 _ _ _ _ _ _ _ h hw hS (by omega) (by omega) dX5_count_67
  by_cases hq2 : p1 = (2 : Int32)
  · have h := h.2.2.1 hq2
    refine lv_tableIn (off := 67) (tgt := 68) hx hb dX5_count_1 (by rw [hq2]; decide) (by rw [hq2]; decide) (by rw [hq2]; decide) (by decide) ?_
    refine lv_aload_n hx hb dX5_count_68 rfl (lv_at hl 0 rfl) ?_
    obtain ⟨hk11, h⟩ := h
    obtain ⟨b12, hb13, h⟩ := h
    refine r_get (ci := 6) (v := .ref b12) (C := RX5) (T := TX5) (N := 6) hx hb hts hiX5 hown hK hw (ce_7 (S := S) hk11) rfl 0 (by decide) (hts (.fieldLink RX5 10 "TubePost" "net" "LTubePost$Net;") (by decide +kernel)) (fun _ h9 => h9) (congrArg (fun q => some (va_rf q)) hb13) dX5_count_69 ?_
    obtain ⟨hk14, h⟩ := h
    obtain ⟨b15, hb16, h⟩ := h
    refine r_getN (ci := 3) (v := .ref b15) (C := RX2) (T := TX2) (N := 2) hx hb hts hiX2 hown hK hw (ce_4 (S := S) hk14) rfl 1 (by decide) (hNw _ (bNw_1)) (fun _ h9 => h9) (congrArg (fun q => some (va_rf q)) hb16) dX5_count_72 ?_
    obtain ⟨hk17, h⟩ := h
    have h1 := h
    refine va_calli (va_runV (As := []) (rest := []) ⟨hx, hb, hml, hown, hts⟩ (m_Jx4a65c_size_8abf5 (l := l) h1) (cwV 0 hts gX5_count_Jx4a65c_size_8abf5 rfl rfl rfl (by decide +kernel) ⟨Nat.le_trans (Nat.le_of_ble_eq_true rfl) hRf, Nat.le_trans (Nat.le_of_ble_eq_true rfl) hRl⟩) (r_pV hB hw hS (ce_1 (S := S) hk17) rfl) rfl rfl hl.1 rfl (lv_room (Nat.le_of_ble_eq_true rfl)) dX5_count_75 ⟨by omega, by omega⟩) hS (fun _ _ h => h) (fun _ h => h) (fun r18 S19 t H1 locs ht _ h hw1 _ _ hS => ?_)
    subst ht
    have hw : wd D y z S19 A t.heap := hw1
    clear hw1 h1
    exact hret r18 _ _ _ _ _ _ _ h hw hS (by omega) (by omega) dX5_count_78
  by_cases hq3 : p1 = (3 : Int32)
  · have h := h.2.2.2.1 hq3
    refine lv_tableIn (off := 78) (tgt := 79) hx hb dX5_count_1 (by rw [hq3]; decide) (by rw [hq3]; decide) (by rw [hq3]; decide) (by decide) ?_
    refine lv_aload_n hx hb dX5_count_79 rfl (lv_at hl 0 rfl) ?_
    obtain ⟨hk20, h⟩ := h
    obtain ⟨b21, hb22, h⟩ := h
    refine r_get (ci := 6) (v := .ref b21) (C := RX5) (T := TX5) (N := 6) hx hb hts hiX5 hown hK hw (ce_7 (S := S) hk20) rfl 1 (by decide) (hts (.fieldLink RX5 19 "TubePost" "entries" "Ljava/util/ArrayList;") (by decide +kernel)) (fun _ h9 => h9) (congrArg (fun q => some (va_rf q)) hb22) dX5_count_80 ?_
    obtain ⟨hk23, h⟩ := h
    have h1 := h
    refine va_calli (va_runV (As := []) (rest := []) ⟨hx, hb, hml, hown, hts⟩ (m_Jx4a65c_size_8abf5 (l := l) h1) (cwV 0 hts gX5_count_Jx4a65c_size_8abf5 rfl rfl rfl (by decide +kernel) ⟨Nat.le_trans (Nat.le_of_ble_eq_true rfl) hRf, Nat.le_trans (Nat.le_of_ble_eq_true rfl) hRl⟩) (r_pV hB hw hS (ce_1 (S := S) hk23) rfl) rfl rfl hl.1 rfl (lv_room (Nat.le_of_ble_eq_true rfl)) dX5_count_83 ⟨by omega, by omega⟩) hS (fun _ _ h => h) (fun _ h => h) (fun r24 S25 t H1 locs ht _ h hw1 _ _ hS => ?_)
    subst ht
    have hw : wd D y z S25 A t.heap := hw1
    clear hw1 h1
    exact hret r24 _ _ _ _ _ _ _ h hw hS (by omega) (by omega) dX5_count_86
  by_cases hq4 : p1 = (4 : Int32)
  · have h := h.2.2.2.2.1 hq4
    refine lv_tableIn (off := 86) (tgt := 87) hx hb dX5_count_1 (by rw [hq4]; decide) (by rw [hq4]; decide) (by rw [hq4]; decide) (by decide) ?_
    refine lv_aload_n hx hb dX5_count_87 rfl (lv_at hl 0 rfl) ?_
    obtain ⟨hk26, h⟩ := h
    obtain ⟨b27, hb28, h⟩ := h
    refine r_get (ci := 6) (v := .ref b27) (C := RX5) (T := TX5) (N := 6) hx hb hts hiX5 hown hK hw (ce_7 (S := S) hk26) rfl 2 (by decide) (hts (.fieldLink RX5 23 "TubePost" "carriers" "Ljava/util/ArrayList;") (by decide +kernel)) (fun _ h9 => h9) (congrArg (fun q => some (va_rf q)) hb28) dX5_count_88 ?_
    obtain ⟨hk29, h⟩ := h
    have h1 := h
    refine va_calli (va_runV (As := []) (rest := []) ⟨hx, hb, hml, hown, hts⟩ (m_Jx4a65c_size_8abf5 (l := l) h1) (cwV 0 hts gX5_count_Jx4a65c_size_8abf5 rfl rfl rfl (by decide +kernel) ⟨Nat.le_trans (Nat.le_of_ble_eq_true rfl) hRf, Nat.le_trans (Nat.le_of_ble_eq_true rfl) hRl⟩) (r_pV hB hw hS (ce_1 (S := S) hk29) rfl) rfl rfl hl.1 rfl (lv_room (Nat.le_of_ble_eq_true rfl)) dX5_count_91 ⟨by omega, by omega⟩) hS (fun _ _ h => h) (fun _ h => h) (fun r30 S31 t H1 locs ht _ h hw1 _ _ hS => ?_)
    subst ht
    have hw : wd D y z S31 A t.heap := hw1
    clear hw1 h1
    exact hret r30 _ _ _ _ _ _ _ h hw hS (by omega) (by omega) dX5_count_94
  by_cases hq5 : p1 = (5 : Int32)
  · have h := h.2.2.2.2.2.1 hq5
    refine lv_tableIn (off := 94) (tgt := 95) hx hb dX5_count_1 (by rw [hq5]; decide) (by rw [hq5]; decide) (by rw [hq5]; decide) (by decide) ?_
    refine lv_aload_n hx hb dX5_count_95 rfl (lv_at hl 0 rfl) ?_
    obtain ⟨hk32, h⟩ := h
    have h1 := h
    refine va_calli (va_runV (As := []) (rest := []) ⟨hx, hb, hml, hown, hts⟩ (m_X5_underWay (l := l) h1) (cwV 0 hts gX5_count_X5_underWay rfl rfl rfl (by decide +kernel) ⟨Nat.le_trans (Nat.le_of_ble_eq_true rfl) hRf, Nat.le_trans (Nat.le_of_ble_eq_true rfl) hRl⟩) (r_pV hB hw hS (ce_7 (S := S) hk32) rfl) rfl rfl hl.1 rfl (lv_room (Nat.le_of_ble_eq_true rfl)) dX5_count_96 ⟨by omega, by omega⟩) hS (fun _ _ h => h) (fun _ h => h) (fun r33 S34 t H1 locs ht _ h hw1 _ _ hS => ?_)
    subst ht
    have hw : wd D y z S34 A t.heap := hw1
    clear hw1 h1
    exact hret r33 _ _ _ _ _ _ _ h hw hS (by omega) (by omega) dX5_count_99
  by_cases hq6 : p1 = (6 : Int32)
  · have h := h.2.2.2.2.2.2.1 hq6
    refine lv_tableIn (off := 99) (tgt := 100) hx hb dX5_count_1 (by rw [hq6]; decide) (by rw [hq6]; decide) (by rw [hq6]; decide) (by decide) ?_
    refine lv_aload_n hx hb dX5_count_100 rfl (lv_at hl 0 rfl) ?_
    obtain ⟨hk35, h⟩ := h
    refine r_get (ci := 6) (v := .int (gV S 7 this 4)) (C := RX5) (T := TX5) (N := 6) hx hb hts hiX5 hown hK hw (ce_7 (S := S) hk35) rfl 4 (by decide) (hts (.fieldLink RX5 30 "TubePost" "delivered" "I") (by decide +kernel)) (fun _ h9 => h9) rfl dX5_count_101 ?_
    exact hret (gV S 7 this 4) _ _ _ _ _ _ _ h hw hS (by omega) (by omega) dX5_count_104
  by_cases hq7 : p1 = (7 : Int32)
  · have h := h.2.2.2.2.2.2.2.1 hq7
    refine lv_tableIn (off := 104) (tgt := 105) hx hb dX5_count_1 (by rw [hq7]; decide) (by rw [hq7]; decide) (by rw [hq7]; decide) (by decide) ?_
    refine lv_aload_n hx hb dX5_count_105 rfl (lv_at hl 0 rfl) ?_
    obtain ⟨hk36, h⟩ := h
    have h1 := h
    refine va_calli (va_runV (As := []) (rest := []) ⟨hx, hb, hml, hown, hts⟩ (m_X5_jammedTubes (l := l) h1) (cwV 0 hts gX5_count_X5_jammedTubes rfl rfl rfl (by decide +kernel) ⟨Nat.le_trans (Nat.le_of_ble_eq_true rfl) hRf, Nat.le_trans (Nat.le_of_ble_eq_true rfl) hRl⟩) (r_pV hB hw hS (ce_7 (S := S) hk36) rfl) rfl rfl hl.1 rfl (lv_room (Nat.le_of_ble_eq_true rfl)) dX5_count_106 ⟨by omega, by omega⟩) hS (fun _ _ h => h) (fun _ h => h) (fun r37 S38 t H1 locs ht _ h hw1 _ _ hS => ?_)
    subst ht
    have hw : wd D y z S38 A t.heap := hw1
    clear hw1 h1
    exact hret r37 _ _ _ _ _ _ _ h hw hS (by omega) (by omega) dX5_count_109
  by_cases hq8 : p1 = (8 : Int32)
  · have h := h.2.2.2.2.2.2.2.2.1 hq8
    refine lv_tableIn (off := 109) (tgt := 110) hx hb dX5_count_1 (by rw [hq8]; decide) (by rw [hq8]; decide) (by rw [hq8]; decide) (by decide) ?_
    refine lv_aload_n hx hb dX5_count_110 rfl (lv_at hl 0 rfl) ?_
    obtain ⟨hk39, h⟩ := h
    refine r_get (ci := 6) (v := .int (gV S 7 this 5)) (C := RX5) (T := TX5) (N := 6) hx hb hts hiX5 hown hK hw (ce_7 (S := S) hk39) rfl 5 (by decide) (hts (.fieldLink RX5 33 "TubePost" "ticksUnderWay" "I") (by decide +kernel)) (fun _ h9 => h9) rfl dX5_count_111 ?_
    exact hret (gV S 7 this 5) _ _ _ _ _ _ _ h hw hS (by omega) (by omega) dX5_count_114
  have h := h.2.2.2.2.2.2.2.2.2 hq0 hq1 hq2 hq3 hq4 hq5 hq6 hq7 hq8
  have ht0 : Int32.toInt p1 ≠ (0 : Int) := fun q => hq0 (b_ti q rfl)
  have ht1 : Int32.toInt p1 ≠ (1 : Int) := fun q => hq1 (b_ti q rfl)
  have ht2 : Int32.toInt p1 ≠ (2 : Int) := fun q => hq2 (b_ti q rfl)
  have ht3 : Int32.toInt p1 ≠ (3 : Int) := fun q => hq3 (b_ti q rfl)
  have ht4 : Int32.toInt p1 ≠ (4 : Int) := fun q => hq4 (b_ti q rfl)
  have ht5 : Int32.toInt p1 ≠ (5 : Int) := fun q => hq5 (b_ti q rfl)
  have ht6 : Int32.toInt p1 ≠ (6 : Int) := fun q => hq6 (b_ti q rfl)
  have ht7 : Int32.toInt p1 ≠ (7 : Int) := fun q => hq7 (b_ti q rfl)
  have ht8 : Int32.toInt p1 ≠ (8 : Int) := fun q => hq8 (b_ti q rfl)
  refine lv_tableOut (tgt := 115) hx hb dX5_count_1 (by omega) (by decide) ?_
  exact h.elim
def wp_X5_station (post : Int32 → bS → Prop) (xp : String → bS → Prop) (MC MS : Nat) (this : Nat) (p1 : Int32) (p2 : Int32) (S : bS) : Prop := gK S this = 7 ∧ (∃ k6 n7, k6 ≤ MC ∧ n7 ≤ MS ∧ (wp_X5_knownStation (fun r2 S3 => ∃ b4, r2 = some b4 ∧ ((p2 = (0 : Int32) → gK S3 b4 = 5 ∧ (post (gV S3 5 b4 1) S3)) ∧ (p2 = (1 : Int32) → gK S3 b4 = 5 ∧ (post (gV S3 5 b4 2) S3)) ∧ (p2 = (2 : Int32) → gK S3 b4 = 5 ∧ (∃ b11, gQ S3 5 b4 3 = some b11 ∧ (gK S3 b11 = 1 ∧ (wp_Jx4a65c_size_8abf5 (fun r14 S15 => post r14 S15) b11 S3)))) ∧ (p2 = (3 : Int32) → gK S3 b4 = 5 ∧ (post (gV S3 5 b4 8) S3)) ∧ (p2 = (4 : Int32) → gK S3 b4 = 5 ∧ (∃ b18, gQ S3 5 b4 4 = some b18 ∧ (gK S3 b18 = 1 ∧ (wp_Jx4a65c_size_8abf5 (fun r21 S22 => post r21 S22) b18 S3)))) ∧ (p2 = (5 : Int32) → gK S3 b4 = 5 ∧ (post (gV S3 5 b4 9) S3)) ∧ (¬ p2 = (0 : Int32) → ¬ p2 = (1 : Int32) → ¬ p2 = (2 : Int32) → ¬ p2 = (3 : Int32) → ¬ p2 = (4 : Int32) → ¬ p2 = (5 : Int32) → False))) xp k6 n7 this p1 S))
set_option maxHeartbeats 4000000 in
set_option maxRecDepth 100000 in
theorem m_X5_station {l : Launch} {D : va_G} {y : Nat → ClassId} {z : Nat} {A : Nat → Prop} {S : bS} {post : Int32 → bS → Prop} {xp : String → bS → Prop} (hl0 : l.stackTraces = false) {MC MS : Nat} {this : Nat} {p1 : Int32} {p2 : Int32} (h : wp_X5_station post xp MC MS this p1 p2 S) : vx_Met l yX5_station wsX5_station ({ frames := 9, cells := MC, slots := MS, locals := 421 } : Room) (va_Pc ([Value.ref this, Value.int p1, Value.int p2] : List Value) (bP D y z S A)) (va_Qi post (fun S' t => wd D y z S' A t.heap) A) (bX D y z A xp) MC MS A := by
  refine vx_ofW (cc := cX5_station) (maxL := 4) (ret := (some .int)) (by decide) rfl ?_
  intro p e s m args below meth c s₁ B hml hex hv
  obtain ⟨rfl, hB⟩ := hv
  have hx := B.exec
  have hb := B.bytes
  have hr := B.returns
  have hts := atoms_spec (ws := wsX5_station) B.pre
  have hown : s.vm.findClass RX5 = some m.cls := findClass_of_methodNamed B.named
  have hlocks := B.notSynchronized
  have hw : wd D y z S A s.heap := hB.1
  have hK : va_K D bCl (bT y) s := hB.2.1
  have hNw := hB.2.2.1
  have hAn : ∀ q : Nat, s.heap.size ≤ q → A q := hB.2.2.2.1
  have hAz : ¬ A z := hB.2.2.2.2.1
  have hO := hB.2.2.2.2.2.1
  have hS : va_S A s.heap s.heap [] := va_S.rf
  have hiX3 : ∀ w ∈ u_ws RX3 TX3 10, w ∈ wsX5_station := by decide +kernel
  have hl := lv_entry ([Value.ref this, Value.int p1, Value.int p2] : List Value) (n := 4) (Nat.le_of_ble_eq_true rfl)
  rw [lg_entry_eq]
  generalize (lg_sl ([Value.ref this, Value.int p1, Value.int p2] : List Value) ++ List.replicate (4 - (lg_sl ([Value.ref this, Value.int p1, Value.int p2] : List Value)).length) Slot.unset).toArray = ls at hl ⊢
  have hl : lv_has ls 4 [(0, .ref this), (1, .int p1), (2, .int p2)] := hl
  obtain ⟨Q, hQ⟩ : ∃ Q, Q = vx_MQ below (va_Qi post (fun S' t => wd D y z S' A t.heap) A) (bX D y z A xp) (([Value.ref this, Value.int p1, Value.int p2] : List Value).toArray) s MC MS A := ⟨_, rfl⟩
  rw [← hQ]
  generalize hR : (headSpec wsX5_station ({ frames := 9, cells := MC, slots := MS, locals := 421 } : Room)).room = R
  have hRf : 9 ≤ R.frames := by rw [← hR]; exact Nat.le_refl _
  have hRl : 421 ≤ R.locals := by rw [← hR]; exact Nat.le_refl _
  have hRc : R.cells = MC := by rw [← hR]; rfl
  have hRs : R.slots = MS := by rw [← hR]; rfl
  have hret : ∀ (v : Int32) (S : bS) (H : Heap) (locs : List Loc) (pc : Nat) (ls : Array Slot) (cu su : Nat) , post v S → wd D y z S A H → va_S A s.heap H locs → cu ≤ MC → su ≤ MS → decode cX5_station pc = .ok (.ireturn, 1) → W p l e R s m (([Value.ref this, Value.int p1, Value.int p2] : List Value).toArray) below meth c H locs cu su Q (F0 m pc ls [.int v]) := by
    intro v S H locs pc ls cu su h hw hS hcu hsu d0
    rw [hQ]; refine vx_ret ?_; refine W.widen hcu hsu ?_; exact W.iret hx hb hr (fun t ht hW => ⟨⟨v, S, rfl, h, by show wd D y z S A t.heap; rw [ht]; exact hw⟩, hS.F ht⟩) hS.2.2 d0 hlocks
  unfold wp_X5_station at h
  have hcu : 0 + MC ≤ MC := by omega
  have hsu : 0 + MS ≤ MS := by omega
  refine lv_aload_n hx hb dX5_station_0 rfl (lv_at hl 0 rfl) ?_
  refine lv_iload_n hx hb dX5_station_1 rfl (lv_at hl 1 rfl) ?_
  obtain ⟨hk1, h⟩ := h
  obtain ⟨k6, n7, hbg1, hbg2, h⟩ := h
  have h1 := h
  refine vx_callq (vx_runV (As := [.int p1]) (rest := []) ⟨hx, hb, hml, hown, hts⟩ (m_X5_knownStation (l := l) hl0 h1) (cwV 1 hts gX5_station_X5_knownStation rfl rfl rfl (by decide +kernel) ⟨Nat.le_trans (Nat.le_of_ble_eq_true rfl) hRf, Nat.le_trans (Nat.le_of_ble_eq_true rfl) hRl⟩) (r_pV hB hw hS (ce_7 (S := S) hk1) rfl) rfl rfl hl.1 rfl (lv_room (Nat.le_of_ble_eq_true rfl)) dX5_station_2 ⟨by omega, by omega⟩) hS (fun _ _ h => h) (fun _ h => h) (fun _ _ h => h) (fun E ce q9 S3 t H1 locs ht hal _ hq hz9 hk9 hS hq9 hvm9 hfc9 => by rw [hQ]; exact vx_out (fun x hx => (hex x hx).elim) hlocks hq9 hvm9 hfc9 (fun t9 ht9 _ => ⟨S3, trivial, ⟨hq.1, by rw [ht9, ← ht]; exact hq.2⟩, hS.F ht9⟩) hS.2.2 (by omega) (by omega)) (fun r2 S3 t H1 locs ht _ h hw1 _ _ hS => ?_)
  subst ht
  have hw : wd D y z S3 A t.heap := hw1
  clear hw1 h1
  have hcu : (0 + k6) + (MC - k6) ≤ MC := by omega
  have hsu : (0 + n7) + (MS - n7) ≤ MS := by omega
  obtain ⟨b4, rfl, h⟩ := h
  refine W.eq (g2 := F0 m 5 ls [.ref b4]) rfl ?_
  refine lv_astore_n hx hb dX5_station_5 rfl hl (by decide) rfl (fun ls hl => ?_)
  have hl : lv_has ls 4 [(3, .ref b4), (0, .ref this), (1, .int p1), (2, .int p2)] := hl
  refine lv_iload_n hx hb dX5_station_6 rfl (lv_at hl 3 rfl) ?_
  by_cases hq0 : p2 = (0 : Int32)
  · have h := h.1 hq0
    refine lv_tableIn (off := 37) (tgt := 44) hx hb dX5_station_7 (by rw [hq0]; decide) (by rw [hq0]; decide) (by rw [hq0]; decide) (by decide) ?_
    refine lv_aload_n hx hb dX5_station_44 rfl (lv_at hl 0 rfl) ?_
    obtain ⟨hk8, h⟩ := h
    refine r_getN (ci := 4) (v := .int (gV S3 5 b4 1)) (C := RX3) (T := TX3) (N := 10) hx hb hts hiX3 hown hK hw (ce_5 (S := S3) hk8) rfl 1 (by decide) (hNw _ (bNw_13)) (fun _ h9 => h9) rfl dX5_station_45 ?_
    exact hret (gV S3 5 b4 1) _ _ _ _ _ _ _ h hw hS (by omega) (by omega) dX5_station_48
  by_cases hq1 : p2 = (1 : Int32)
  · have h := h.2.1 hq1
    refine lv_tableIn (off := 42) (tgt := 49) hx hb dX5_station_7 (by rw [hq1]; decide) (by rw [hq1]; decide) (by rw [hq1]; decide) (by decide) ?_
    refine lv_aload_n hx hb dX5_station_49 rfl (lv_at hl 0 rfl) ?_
    obtain ⟨hk9, h⟩ := h
    refine r_getN (ci := 4) (v := .int (gV S3 5 b4 2)) (C := RX3) (T := TX3) (N := 10) hx hb hts hiX3 hown hK hw (ce_5 (S := S3) hk9) rfl 2 (by decide) (hNw _ (bNw_14)) (fun _ h9 => h9) rfl dX5_station_50 ?_
    exact hret (gV S3 5 b4 2) _ _ _ _ _ _ _ h hw hS (by omega) (by omega) dX5_station_53
  by_cases hq2 : p2 = (2 : Int32)
  · have h := h.2.2.1 hq2
    refine lv_tableIn (off := 47) (tgt := 54) hx hb dX5_station_7 (by rw [hq2]; decide) (by rw [hq2]; decide) (by rw [hq2]; decide) (by decide) ?_
    refine lv_aload_n hx hb dX5_station_54 rfl (lv_at hl 0 rfl) ?_
    obtain ⟨hk10, h⟩ := h
    obtain ⟨b11, hb12, h⟩ := h
    refine r_getN (ci := 4) (v := .ref b11) (C := RX3) (T := TX3) (N := 10) hx hb hts hiX3 hown hK hw (ce_5 (S := S3) hk10) rfl 3 (by decide) (hNw _ (bNw_2)) (fun _ h9 => h9) (congrArg (fun q => some (va_rf q)) hb12) dX5_station_55 ?_
    obtain ⟨hk13, h⟩ := h
    have h1 := h
    refine va_calli (va_runV (As := []) (rest := []) ⟨hx, hb, hml, hown, hts⟩ (m_Jx4a65c_size_8abf5 (l := l) h1) (cwV 0 hts gX5_station_Jx4a65c_size_8abf5 rfl rfl rfl (by decide +kernel) ⟨Nat.le_trans (Nat.le_of_ble_eq_true rfl) hRf, Nat.le_trans (Nat.le_of_ble_eq_true rfl) hRl⟩) (r_pV hB hw hS (ce_1 (S := S3) hk13) rfl) rfl rfl hl.1 rfl (lv_room (Nat.le_of_ble_eq_true rfl)) dX5_station_58 ⟨by omega, by omega⟩) hS (fun _ _ h => h) (fun _ h => h) (fun r14 S15 t H1 locs ht _ h hw1 _ _ hS => ?_)
    subst ht
    have hw : wd D y z S15 A t.heap := hw1
    clear hw1 h1
    exact hret r14 _ _ _ _ _ _ _ h hw hS (by omega) (by omega) dX5_station_61
  by_cases hq3 : p2 = (3 : Int32)
  · have h := h.2.2.2.1 hq3
    refine lv_tableIn (off := 55) (tgt := 62) hx hb dX5_station_7 (by rw [hq3]; decide) (by rw [hq3]; decide) (by rw [hq3]; decide) (by decide) ?_
    refine lv_aload_n hx hb dX5_station_62 rfl (lv_at hl 0 rfl) ?_
    obtain ⟨hk16, h⟩ := h
    refine r_getN (ci := 4) (v := .int (gV S3 5 b4 8)) (C := RX3) (T := TX3) (N := 10) hx hb hts hiX3 hown hK hw (ce_5 (S := S3) hk16) rfl 8 (by decide) (hNw _ (bNw_3)) (fun _ h9 => h9) rfl dX5_station_63 ?_
    exact hret (gV S3 5 b4 8) _ _ _ _ _ _ _ h hw hS (by omega) (by omega) dX5_station_66
  by_cases hq4 : p2 = (4 : Int32)
  · have h := h.2.2.2.2.1 hq4
    refine lv_tableIn (off := 60) (tgt := 67) hx hb dX5_station_7 (by rw [hq4]; decide) (by rw [hq4]; decide) (by rw [hq4]; decide) (by decide) ?_
    refine lv_aload_n hx hb dX5_station_67 rfl (lv_at hl 0 rfl) ?_
    obtain ⟨hk17, h⟩ := h
    obtain ⟨b18, hb19, h⟩ := h
    refine r_getN (ci := 4) (v := .ref b18) (C := RX3) (T := TX3) (N := 10) hx hb hts hiX3 hown hK hw (ce_5 (S := S3) hk17) rfl 4 (by decide) (hNw _ (bNw_15)) (fun _ h9 => h9) (congrArg (fun q => some (va_rf q)) hb19) dX5_station_68 ?_
    obtain ⟨hk20, h⟩ := h
    have h1 := h
    refine va_calli (va_runV (As := []) (rest := []) ⟨hx, hb, hml, hown, hts⟩ (m_Jx4a65c_size_8abf5 (l := l) h1) (cwV 0 hts gX5_station_Jx4a65c_size_8abf5 rfl rfl rfl (by decide +kernel) ⟨Nat.le_trans (Nat.le_of_ble_eq_true rfl) hRf, Nat.le_trans (Nat.le_of_ble_eq_true rfl) hRl⟩) (r_pV hB hw hS (ce_1 (S := S3) hk20) rfl) rfl rfl hl.1 rfl (lv_room (Nat.le_of_ble_eq_true rfl)) dX5_station_71 ⟨by omega, by omega⟩) hS (fun _ _ h => h) (fun _ h => h) (fun r21 S22 t H1 locs ht _ h hw1 _ _ hS => ?_)
    subst ht
    have hw : wd D y z S22 A t.heap := hw1
    clear hw1 h1
    exact hret r21 _ _ _ _ _ _ _ h hw hS (by omega) (by omega) dX5_station_74
  by_cases hq5 : p2 = (5 : Int32)
  · have h := h.2.2.2.2.2.1 hq5
    refine lv_tableIn (off := 68) (tgt := 75) hx hb dX5_station_7 (by rw [hq5]; decide) (by rw [hq5]; decide) (by rw [hq5]; decide) (by decide) ?_
    refine lv_aload_n hx hb dX5_station_75 rfl (lv_at hl 0 rfl) ?_
    obtain ⟨hk23, h⟩ := h
    refine r_getN (ci := 4) (v := .int (gV S3 5 b4 9)) (C := RX3) (T := TX3) (N := 10) hx hb hts hiX3 hown hK hw (ce_5 (S := S3) hk23) rfl 9 (by decide) (hNw _ (bNw_16)) (fun _ h9 => h9) rfl dX5_station_76 ?_
    exact hret (gV S3 5 b4 9) _ _ _ _ _ _ _ h hw hS (by omega) (by omega) dX5_station_79
  have h := h.2.2.2.2.2.2 hq0 hq1 hq2 hq3 hq4 hq5
  have ht0 : Int32.toInt p2 ≠ (0 : Int) := fun q => hq0 (b_ti q rfl)
  have ht1 : Int32.toInt p2 ≠ (1 : Int) := fun q => hq1 (b_ti q rfl)
  have ht2 : Int32.toInt p2 ≠ (2 : Int) := fun q => hq2 (b_ti q rfl)
  have ht3 : Int32.toInt p2 ≠ (3 : Int) := fun q => hq3 (b_ti q rfl)
  have ht4 : Int32.toInt p2 ≠ (4 : Int) := fun q => hq4 (b_ti q rfl)
  have ht5 : Int32.toInt p2 ≠ (5 : Int) := fun q => hq5 (b_ti q rfl)
  refine lv_tableOut (tgt := 80) hx hb dX5_station_7 (by omega) (by decide) ?_
  exact h.elim
def wp_X5_knownTube (post : Option Nat → bS → Prop) (xp : String → bS → Prop) (MC MS : Nat) (this : Nat) (p1 : Int32) (S : bS) : Prop := gK S this = 7 ∧ (∃ b2, gQ S 7 this 0 = some b2 ∧ (gK S b2 = 4 ∧ (wp_X2_hasTube (fun r5 S6 => (r5 ≠ (0 : Int32) → gK S6 this = 7 ∧ (∃ b8, gQ S6 7 this 0 = some b8 ∧ (gK S6 b8 = 4 ∧ (∃ b11, gQ S6 4 b8 1 = some b11 ∧ (gK S6 b11 = 1 ∧ (wp_Jx4a65c_get_915e3 (fun r14 S15 => ∃ b16, r14 = some b16 ∧ (gK S15 b16 = 6 ∧ (post (some b16) S15))) b11 p1 S6)))))) ∧ (r5 = (0 : Int32) → False)) b2 p1 S)))
set_option maxHeartbeats 4000000 in
set_option maxRecDepth 100000 in
theorem m_X5_knownTube {l : Launch} {D : va_G} {y : Nat → ClassId} {z : Nat} {A : Nat → Prop} {S : bS} {post : Option Nat → bS → Prop} {xp : String → bS → Prop} (hl0 : l.stackTraces = false) {MC MS : Nat} {this : Nat} {p1 : Int32} (h : wp_X5_knownTube post xp MC MS this p1 S) : vx_Met l yX5_knownTube wsX5_knownTube ({ frames := 8, cells := MC, slots := MS, locals := 400 } : Room) (va_Pc ([Value.ref this, Value.int p1] : List Value) (bP D y z S A)) (va_Qq post (fun S' t => wd D y z S' A t.heap) A) (bX D y z A xp) MC MS A := by
  refine vx_ofW (cc := cX5_knownTube) (maxL := 2) (ret := (some (.object "TubePost$Tube"))) (by decide) rfl ?_
  intro p e s m args below meth c s₁ B hml hex hv
  obtain ⟨rfl, hB⟩ := hv
  have hx := B.exec
  have hb := B.bytes
  have hr := B.returns
  have hts := atoms_spec (ws := wsX5_knownTube) B.pre
  have hown : s.vm.findClass RX5 = some m.cls := findClass_of_methodNamed B.named
  have hlocks := B.notSynchronized
  have hw : wd D y z S A s.heap := hB.1
  have hK : va_K D bCl (bT y) s := hB.2.1
  have hNw := hB.2.2.1
  have hAn : ∀ q : Nat, s.heap.size ≤ q → A q := hB.2.2.2.1
  have hAz : ¬ A z := hB.2.2.2.2.1
  have hO := hB.2.2.2.2.2.1
  have hS : va_S A s.heap s.heap [] := va_S.rf
  have hiX2 : ∀ w ∈ u_ws RX2 TX2 2, w ∈ wsX5_knownTube := by decide +kernel
  have hiX5 : ∀ w ∈ u_ws RX5 TX5 6, w ∈ wsX5_knownTube := by decide +kernel
  have hl := lv_entry ([Value.ref this, Value.int p1] : List Value) (n := 2) (Nat.le_of_ble_eq_true rfl)
  rw [lg_entry_eq]
  generalize (lg_sl ([Value.ref this, Value.int p1] : List Value) ++ List.replicate (2 - (lg_sl ([Value.ref this, Value.int p1] : List Value)).length) Slot.unset).toArray = ls at hl ⊢
  have hl : lv_has ls 2 [(0, .ref this), (1, .int p1)] := hl
  obtain ⟨Q, hQ⟩ : ∃ Q, Q = vx_MQ below (va_Qq post (fun S' t => wd D y z S' A t.heap) A) (bX D y z A xp) (([Value.ref this, Value.int p1] : List Value).toArray) s MC MS A := ⟨_, rfl⟩
  rw [← hQ]
  generalize hR : (headSpec wsX5_knownTube ({ frames := 8, cells := MC, slots := MS, locals := 400 } : Room)).room = R
  have hRf : 8 ≤ R.frames := by rw [← hR]; exact Nat.le_refl _
  have hRl : 400 ≤ R.locals := by rw [← hR]; exact Nat.le_refl _
  have hRc : R.cells = MC := by rw [← hR]; rfl
  have hRs : R.slots = MS := by rw [← hR]; rfl
  have hret : ∀ (v : Option Nat) (S : bS) (H : Heap) (locs : List Loc) (pc : Nat) (ls : Array Slot) (cu su : Nat) , post v S → wd D y z S A H → va_S A s.heap H locs → cu ≤ MC → su ≤ MS → decode cX5_knownTube pc = .ok (.areturn, 1) → W p l e R s m (([Value.ref this, Value.int p1] : List Value).toArray) below meth c H locs cu su Q (F0 m pc ls [va_rf v]) := by
    intro v S H locs pc ls cu su h hw hS hcu hsu d0
    rw [hQ]; refine vx_ret ?_; refine W.widen hcu hsu ?_; exact W.aret hx hb hr (by first | exact Or.inl ⟨_, rfl⟩ | exact Or.inr ⟨_, rfl⟩) (by cases v with | none => exact Or.inl rfl | some a => exact Or.inr ⟨a, rfl⟩) (fun t ht hW => ⟨⟨v, S, rfl, h, by show wd D y z S A t.heap; rw [ht]; exact hw⟩, hS.F ht⟩) hS.2.2 d0 hlocks
  unfold wp_X5_knownTube at h
  have hcu : 0 + MC ≤ MC := by omega
  have hsu : 0 + MS ≤ MS := by omega
  refine lv_aload_n hx hb dX5_knownTube_0 rfl (lv_at hl 0 rfl) ?_
  obtain ⟨hk1, h⟩ := h
  obtain ⟨b2, hb3, h⟩ := h
  refine r_get (ci := 6) (v := .ref b2) (C := RX5) (T := TX5) (N := 6) hx hb hts hiX5 hown hK hw (ce_7 (S := S) hk1) rfl 0 (by decide) (hts (.fieldLink RX5 10 "TubePost" "net" "LTubePost$Net;") (by decide +kernel)) (fun _ h9 => h9) (congrArg (fun q => some (va_rf q)) hb3) dX5_knownTube_1 ?_
  refine lv_iload_n hx hb dX5_knownTube_4 rfl (lv_at hl 1 rfl) ?_
  obtain ⟨hk4, h⟩ := h
  have h1 := h
  refine va_calli (va_runVN (As := [.int p1]) (rest := []) ⟨hx, hb, hml, hown, hts⟩ (m_X2_hasTube (l := l) h1) ⟨va_cnB 1 hts gX5_knownTube_X2_hasTube_n283 rfl rfl rfl (hNw _ bNw_55) (hts (.initialized RX2) (by decide +kernel)) ⟨by decide +kernel, by decide +kernel, by decide +kernel⟩ ⟨Nat.le_trans (Nat.le_of_ble_eq_true rfl) hRf, Nat.le_trans (Nat.le_of_ble_eq_true rfl) hRl⟩, (hts (.instanceMethod yX2_hasTube) (by decide +kernel)), hts (.selects RX2 yX2_hasTube yX2_hasTube) (by decide +kernel)⟩ (r_pV hB hw hS (ce_4 (S := S) hk4) rfl) rfl rfl hl.1 rfl (lv_room (Nat.le_of_ble_eq_true rfl)) dX5_knownTube_5 ⟨by omega, by omega⟩) hS (fun _ _ h => h) (fun _ h => h) (fun r5 S6 t H1 locs ht _ h hw1 _ _ hS => ?_)
  subst ht
  have hw : wd D y z S6 A t.heap := hw1
  clear hw1 h1
  refine lv_if_ne (tgt := 22) hx hb dX5_knownTube_8 (by decide) (fun hc => ?_) (fun hc => ?_)
  · have h := h.1 hc
    refine lv_aload_n hx hb dX5_knownTube_22 rfl (lv_at hl 0 rfl) ?_
    obtain ⟨hk7, h⟩ := h
    obtain ⟨b8, hb9, h⟩ := h
    refine r_get (ci := 6) (v := .ref b8) (C := RX5) (T := TX5) (N := 6) hx hb hts hiX5 hown hK hw (ce_7 (S := S6) hk7) rfl 0 (by decide) (hts (.fieldLink RX5 10 "TubePost" "net" "LTubePost$Net;") (by decide +kernel)) (fun _ h9 => h9) (congrArg (fun q => some (va_rf q)) hb9) dX5_knownTube_23 ?_
    obtain ⟨hk10, h⟩ := h
    obtain ⟨b11, hb12, h⟩ := h
    refine r_getN (ci := 3) (v := .ref b11) (C := RX2) (T := TX2) (N := 2) hx hb hts hiX2 hown hK hw (ce_4 (S := S6) hk10) rfl 1 (by decide) (hNw _ (bNw_1)) (fun _ h9 => h9) (congrArg (fun q => some (va_rf q)) hb12) dX5_knownTube_26 ?_
    refine lv_iload_n hx hb dX5_knownTube_29 rfl (lv_at hl 1 rfl) ?_
    obtain ⟨hk13, h⟩ := h
    have h1 := h
    refine va_callq (va_runV (As := [.int p1]) (rest := []) ⟨hx, hb, hml, hown, hts⟩ (m_Jx4a65c_get_915e3 (l := l) h1) (cwV 1 hts gX5_knownTube_Jx4a65c_get_915e3 rfl rfl rfl (by decide +kernel) ⟨Nat.le_trans (Nat.le_of_ble_eq_true rfl) hRf, Nat.le_trans (Nat.le_of_ble_eq_true rfl) hRl⟩) (r_pV hB hw hS (ce_1 (S := S6) hk13) rfl) rfl rfl hl.1 rfl (lv_room (Nat.le_of_ble_eq_true rfl)) dX5_knownTube_30 ⟨by omega, by omega⟩) hS (fun _ _ h => h) (fun _ h => h) (fun r14 S15 t H1 locs ht _ h hw1 _ _ hS => ?_)
    subst ht
    have hw : wd D y z S15 A t.heap := hw1
    clear hw1 h1
    obtain ⟨b16, rfl, h⟩ := h
    refine W.eq (g2 := F0 m 33 ls [.ref b16]) rfl ?_
    obtain ⟨hk18, h⟩ := h
    refine r_cast hx hb hown (hts (.classLink RX5 101 "TubePost$Tube") (by decide +kernel)) hK hw (ce_6 hk18) rfl dX5_knownTube_33 ?_
    exact hret (some b16) _ _ _ _ _ _ _ h hw hS (by omega) (by omega) dX5_knownTube_36
  · have h := h.2 hc
    exact h.elim
def wb_X5_tube_99 (post : Int32 → bS → Prop) (xp : String → bS → Prop) (mc ms : Nat) (s0 : Int32) (S : bS) : Prop := post s0 S
def wb_X5_tube_124 (post : Int32 → bS → Prop) (xp : String → bS → Prop) (mc ms : Nat) (s0 : Int32) (S : bS) : Prop := post s0 S
def wp_X5_tube (post : Int32 → bS → Prop) (xp : String → bS → Prop) (MC MS : Nat) (this : Nat) (p1 : Int32) (p2 : Int32) (S : bS) : Prop := gK S this = 7 ∧ (∃ k6 n7, k6 ≤ MC ∧ n7 ≤ MS ∧ (wp_X5_knownTube (fun r2 S3 => ∃ b4, r2 = some b4 ∧ ((p2 = (0 : Int32) → gK S3 b4 = 6 ∧ (∃ b9, gQ S3 6 b4 1 = some b9 ∧ (gK S3 b9 = 5 ∧ (post (gV S3 5 b9 0) S3)))) ∧ (p2 = (1 : Int32) → gK S3 b4 = 6 ∧ (∃ b13, gQ S3 6 b4 2 = some b13 ∧ (gK S3 b13 = 5 ∧ (post (gV S3 5 b13 0) S3)))) ∧ (p2 = (2 : Int32) → gK S3 b4 = 6 ∧ (post (gV S3 6 b4 3) S3)) ∧ (p2 = (3 : Int32) → gK S3 b4 = 6 ∧ (post (gV S3 6 b4 6) S3)) ∧ (p2 = (4 : Int32) → gK S3 b4 = 6 ∧ (post (gV S3 6 b4 4) S3)) ∧ (p2 = (5 : Int32) → gK S3 b4 = 6 ∧ (((gV S3 6 b4 8) = (0 : Int32) → wb_X5_tube_99 post xp (MC - k6) (MS - n7) (0 : Int32) S3) ∧ (¬ ((gV S3 6 b4 8) = (0 : Int32)) → wb_X5_tube_99 post xp (MC - k6) (MS - n7) (1 : Int32) S3))) ∧ (p2 = (6 : Int32) → gK S3 b4 = 6 ∧ (∃ b21, gQ S3 6 b4 5 = some b21 ∧ (gK S3 b21 = 1 ∧ (wp_Jx4a65c_size_8abf5 (fun r24 S25 => post r24 S25) b21 S3)))) ∧ (p2 = (7 : Int32) → gK S3 this = 7 ∧ (gK S3 b4 = 6 ∧ (wp_X4_isFirstAtEnd (fun r28 S29 => (r28 = (0 : Int32) → wb_X5_tube_124 post xp (MC - k6) (MS - n7) (0 : Int32) S29) ∧ (¬ (r28 = (0 : Int32)) → wb_X5_tube_124 post xp (MC - k6) (MS - n7) (1 : Int32) S29)) b4 (gV S3 7 this 3) S3))) ∧ (p2 = (8 : Int32) → gK S3 b4 = 6 ∧ (post (gV S3 6 b4 9) S3)) ∧ (¬ p2 = (0 : Int32) → ¬ p2 = (1 : Int32) → ¬ p2 = (2 : Int32) → ¬ p2 = (3 : Int32) → ¬ p2 = (4 : Int32) → ¬ p2 = (5 : Int32) → ¬ p2 = (6 : Int32) → ¬ p2 = (7 : Int32) → ¬ p2 = (8 : Int32) → False))) xp k6 n7 this p1 S))
set_option maxHeartbeats 4000000 in
set_option maxRecDepth 100000 in
theorem m_X5_tube {l : Launch} {D : va_G} {y : Nat → ClassId} {z : Nat} {A : Nat → Prop} {S : bS} {post : Int32 → bS → Prop} {xp : String → bS → Prop} (hl0 : l.stackTraces = false) {MC MS : Nat} {this : Nat} {p1 : Int32} {p2 : Int32} (h : wp_X5_tube post xp MC MS this p1 p2 S) : vx_Met l yX5_tube wsX5_tube ({ frames := 9, cells := MC, slots := MS, locals := 421 } : Room) (va_Pc ([Value.ref this, Value.int p1, Value.int p2] : List Value) (bP D y z S A)) (va_Qi post (fun S' t => wd D y z S' A t.heap) A) (bX D y z A xp) MC MS A := by
  refine vx_ofW (cc := cX5_tube) (maxL := 4) (ret := (some .int)) (by decide) rfl ?_
  intro p e s m args below meth c s₁ B hml hex hv
  obtain ⟨rfl, hB⟩ := hv
  have hx := B.exec
  have hb := B.bytes
  have hr := B.returns
  have hts := atoms_spec (ws := wsX5_tube) B.pre
  have hown : s.vm.findClass RX5 = some m.cls := findClass_of_methodNamed B.named
  have hlocks := B.notSynchronized
  have hw : wd D y z S A s.heap := hB.1
  have hK : va_K D bCl (bT y) s := hB.2.1
  have hNw := hB.2.2.1
  have hAn : ∀ q : Nat, s.heap.size ≤ q → A q := hB.2.2.2.1
  have hAz : ¬ A z := hB.2.2.2.2.1
  have hO := hB.2.2.2.2.2.1
  have hS : va_S A s.heap s.heap [] := va_S.rf
  have hiX3 : ∀ w ∈ u_ws RX3 TX3 10, w ∈ wsX5_tube := by decide +kernel
  have hiX4 : ∀ w ∈ u_ws RX4 TX4 11, w ∈ wsX5_tube := by decide +kernel
  have hiX5 : ∀ w ∈ u_ws RX5 TX5 6, w ∈ wsX5_tube := by decide +kernel
  have hl := lv_entry ([Value.ref this, Value.int p1, Value.int p2] : List Value) (n := 4) (Nat.le_of_ble_eq_true rfl)
  rw [lg_entry_eq]
  generalize (lg_sl ([Value.ref this, Value.int p1, Value.int p2] : List Value) ++ List.replicate (4 - (lg_sl ([Value.ref this, Value.int p1, Value.int p2] : List Value)).length) Slot.unset).toArray = ls at hl ⊢
  have hl : lv_has ls 4 [(0, .ref this), (1, .int p1), (2, .int p2)] := hl
  obtain ⟨Q, hQ⟩ : ∃ Q, Q = vx_MQ below (va_Qi post (fun S' t => wd D y z S' A t.heap) A) (bX D y z A xp) (([Value.ref this, Value.int p1, Value.int p2] : List Value).toArray) s MC MS A := ⟨_, rfl⟩
  rw [← hQ]
  generalize hR : (headSpec wsX5_tube ({ frames := 9, cells := MC, slots := MS, locals := 421 } : Room)).room = R
  have hRf : 9 ≤ R.frames := by rw [← hR]; exact Nat.le_refl _
  have hRl : 421 ≤ R.locals := by rw [← hR]; exact Nat.le_refl _
  have hRc : R.cells = MC := by rw [← hR]; rfl
  have hRs : R.slots = MS := by rw [← hR]; rfl
  have hret : ∀ (v : Int32) (S : bS) (H : Heap) (locs : List Loc) (pc : Nat) (ls : Array Slot) (cu su : Nat) , post v S → wd D y z S A H → va_S A s.heap H locs → cu ≤ MC → su ≤ MS → decode cX5_tube pc = .ok (.ireturn, 1) → W p l e R s m (([Value.ref this, Value.int p1, Value.int p2] : List Value).toArray) below meth c H locs cu su Q (F0 m pc ls [.int v]) := by
    intro v S H locs pc ls cu su h hw hS hcu hsu d0
    rw [hQ]; refine vx_ret ?_; refine W.widen hcu hsu ?_; exact W.iret hx hb hr (fun t ht hW => ⟨⟨v, S, rfl, h, by show wd D y z S A t.heap; rw [ht]; exact hw⟩, hS.F ht⟩) hS.2.2 d0 hlocks
  have hB99 : ∀ (S : bS) (H : Heap) (locs : List Loc) (ls : Array Slot) (mc ms cu su : Nat) (s0 : Int32), wb_X5_tube_99 post xp mc ms s0 S → wd D y z S A H → va_S A s.heap H locs → lv_has ls 4 [] → cu + mc ≤ MC → su + ms ≤ MS → W p l e R s m (([Value.ref this, Value.int p1, Value.int p2] : List Value).toArray) below meth c H locs cu su Q (F0 m 99 ls [.int s0]) := by
    intro S H locs ls mc ms cu su s0 h hw hS hl hcu hsu
    unfold wb_X5_tube_99 at h
    exact hret s0 _ _ _ _ _ _ _ h hw hS (by omega) (by omega) dX5_tube_99
  have hB124 : ∀ (S : bS) (H : Heap) (locs : List Loc) (ls : Array Slot) (mc ms cu su : Nat) (s0 : Int32), wb_X5_tube_124 post xp mc ms s0 S → wd D y z S A H → va_S A s.heap H locs → lv_has ls 4 [] → cu + mc ≤ MC → su + ms ≤ MS → W p l e R s m (([Value.ref this, Value.int p1, Value.int p2] : List Value).toArray) below meth c H locs cu su Q (F0 m 124 ls [.int s0]) := by
    intro S H locs ls mc ms cu su s0 h hw hS hl hcu hsu
    unfold wb_X5_tube_124 at h
    exact hret s0 _ _ _ _ _ _ _ h hw hS (by omega) (by omega) dX5_tube_124
  unfold wp_X5_tube at h
  have hcu : 0 + MC ≤ MC := by omega
  have hsu : 0 + MS ≤ MS := by omega
  refine lv_aload_n hx hb dX5_tube_0 rfl (lv_at hl 0 rfl) ?_
  refine lv_iload_n hx hb dX5_tube_1 rfl (lv_at hl 1 rfl) ?_
  obtain ⟨hk1, h⟩ := h
  obtain ⟨k6, n7, hbg1, hbg2, h⟩ := h
  have h1 := h
  refine vx_callq (vx_runV (As := [.int p1]) (rest := []) ⟨hx, hb, hml, hown, hts⟩ (m_X5_knownTube (l := l) hl0 h1) (cwV 1 hts gX5_tube_X5_knownTube rfl rfl rfl (by decide +kernel) ⟨Nat.le_trans (Nat.le_of_ble_eq_true rfl) hRf, Nat.le_trans (Nat.le_of_ble_eq_true rfl) hRl⟩) (r_pV hB hw hS (ce_7 (S := S) hk1) rfl) rfl rfl hl.1 rfl (lv_room (Nat.le_of_ble_eq_true rfl)) dX5_tube_2 ⟨by omega, by omega⟩) hS (fun _ _ h => h) (fun _ h => h) (fun _ _ h => h) (fun E ce q9 S3 t H1 locs ht hal _ hq hz9 hk9 hS hq9 hvm9 hfc9 => by rw [hQ]; exact vx_out (fun x hx => (hex x hx).elim) hlocks hq9 hvm9 hfc9 (fun t9 ht9 _ => ⟨S3, trivial, ⟨hq.1, by rw [ht9, ← ht]; exact hq.2⟩, hS.F ht9⟩) hS.2.2 (by omega) (by omega)) (fun r2 S3 t H1 locs ht _ h hw1 _ _ hS => ?_)
  subst ht
  have hw : wd D y z S3 A t.heap := hw1
  clear hw1 h1
  have hcu : (0 + k6) + (MC - k6) ≤ MC := by omega
  have hsu : (0 + n7) + (MS - n7) ≤ MS := by omega
  obtain ⟨b4, rfl, h⟩ := h
  refine W.eq (g2 := F0 m 5 ls [.ref b4]) rfl ?_
  refine lv_astore_n hx hb dX5_tube_5 rfl hl (by decide) rfl (fun ls hl => ?_)
  have hl : lv_has ls 4 [(3, .ref b4), (0, .ref this), (1, .int p1), (2, .int p2)] := hl
  refine lv_iload_n hx hb dX5_tube_6 rfl (lv_at hl 3 rfl) ?_
  by_cases hq0 : p2 = (0 : Int32)
  · have h := h.1 hq0
    refine lv_tableIn (off := 49) (tgt := 56) hx hb dX5_tube_7 (by rw [hq0]; decide) (by rw [hq0]; decide) (by rw [hq0]; decide) (by decide) ?_
    refine lv_aload_n hx hb dX5_tube_56 rfl (lv_at hl 0 rfl) ?_
    obtain ⟨hk8, h⟩ := h
    obtain ⟨b9, hb10, h⟩ := h
    refine r_getN (ci := 5) (v := .ref b9) (C := RX4) (T := TX4) (N := 11) hx hb hts hiX4 hown hK hw (ce_6 (S := S3) hk8) rfl 1 (by decide) (hNw _ (bNw_17)) (fun _ h9 => h9) (congrArg (fun q => some (va_rf q)) hb10) dX5_tube_57 ?_
    obtain ⟨hk11, h⟩ := h
    refine r_getN (ci := 4) (v := .int (gV S3 5 b9 0)) (C := RX3) (T := TX3) (N := 10) hx hb hts hiX3 hown hK hw (ce_5 (S := S3) hk11) rfl 0 (by decide) (hNw _ (bNw_8)) (fun _ h9 => h9) rfl dX5_tube_60 ?_
    exact hret (gV S3 5 b9 0) _ _ _ _ _ _ _ h hw hS (by omega) (by omega) dX5_tube_63
  by_cases hq1 : p2 = (1 : Int32)
  · have h := h.2.1 hq1
    refine lv_tableIn (off := 57) (tgt := 64) hx hb dX5_tube_7 (by rw [hq1]; decide) (by rw [hq1]; decide) (by rw [hq1]; decide) (by decide) ?_
    refine lv_aload_n hx hb dX5_tube_64 rfl (lv_at hl 0 rfl) ?_
    obtain ⟨hk12, h⟩ := h
    obtain ⟨b13, hb14, h⟩ := h
    refine r_getN (ci := 5) (v := .ref b13) (C := RX4) (T := TX4) (N := 11) hx hb hts hiX4 hown hK hw (ce_6 (S := S3) hk12) rfl 2 (by decide) (hNw _ (bNw_18)) (fun _ h9 => h9) (congrArg (fun q => some (va_rf q)) hb14) dX5_tube_65 ?_
    obtain ⟨hk15, h⟩ := h
    refine r_getN (ci := 4) (v := .int (gV S3 5 b13 0)) (C := RX3) (T := TX3) (N := 10) hx hb hts hiX3 hown hK hw (ce_5 (S := S3) hk15) rfl 0 (by decide) (hNw _ (bNw_8)) (fun _ h9 => h9) rfl dX5_tube_68 ?_
    exact hret (gV S3 5 b13 0) _ _ _ _ _ _ _ h hw hS (by omega) (by omega) dX5_tube_71
  by_cases hq2 : p2 = (2 : Int32)
  · have h := h.2.2.1 hq2
    refine lv_tableIn (off := 65) (tgt := 72) hx hb dX5_tube_7 (by rw [hq2]; decide) (by rw [hq2]; decide) (by rw [hq2]; decide) (by decide) ?_
    refine lv_aload_n hx hb dX5_tube_72 rfl (lv_at hl 0 rfl) ?_
    obtain ⟨hk16, h⟩ := h
    refine r_getN (ci := 5) (v := .int (gV S3 6 b4 3)) (C := RX4) (T := TX4) (N := 11) hx hb hts hiX4 hown hK hw (ce_6 (S := S3) hk16) rfl 3 (by decide) (hNw _ (bNw_19)) (fun _ h9 => h9) rfl dX5_tube_73 ?_
    exact hret (gV S3 6 b4 3) _ _ _ _ _ _ _ h hw hS (by omega) (by omega) dX5_tube_76
  by_cases hq3 : p2 = (3 : Int32)
  · have h := h.2.2.2.1 hq3
    refine lv_tableIn (off := 70) (tgt := 77) hx hb dX5_tube_7 (by rw [hq3]; decide) (by rw [hq3]; decide) (by rw [hq3]; decide) (by decide) ?_
    refine lv_aload_n hx hb dX5_tube_77 rfl (lv_at hl 0 rfl) ?_
    obtain ⟨hk17, h⟩ := h
    refine r_getN (ci := 5) (v := .int (gV S3 6 b4 6)) (C := RX4) (T := TX4) (N := 11) hx hb hts hiX4 hown hK hw (ce_6 (S := S3) hk17) rfl 6 (by decide) (hNw _ (bNw_4)) (fun _ h9 => h9) rfl dX5_tube_78 ?_
    exact hret (gV S3 6 b4 6) _ _ _ _ _ _ _ h hw hS (by omega) (by omega) dX5_tube_81
  by_cases hq4 : p2 = (4 : Int32)
  · have h := h.2.2.2.2.1 hq4
    refine lv_tableIn (off := 75) (tgt := 82) hx hb dX5_tube_7 (by rw [hq4]; decide) (by rw [hq4]; decide) (by rw [hq4]; decide) (by decide) ?_
    refine lv_aload_n hx hb dX5_tube_82 rfl (lv_at hl 0 rfl) ?_
    obtain ⟨hk18, h⟩ := h
    refine r_getN (ci := 5) (v := .int (gV S3 6 b4 4)) (C := RX4) (T := TX4) (N := 11) hx hb hts hiX4 hown hK hw (ce_6 (S := S3) hk18) rfl 4 (by decide) (hNw _ (bNw_20)) (fun _ h9 => h9) rfl dX5_tube_83 ?_
    exact hret (gV S3 6 b4 4) _ _ _ _ _ _ _ h hw hS (by omega) (by omega) dX5_tube_86
  by_cases hq5 : p2 = (5 : Int32)
  · have h := h.2.2.2.2.2.1 hq5
    refine lv_tableIn (off := 80) (tgt := 87) hx hb dX5_tube_7 (by rw [hq5]; decide) (by rw [hq5]; decide) (by rw [hq5]; decide) (by decide) ?_
    refine lv_aload_n hx hb dX5_tube_87 rfl (lv_at hl 0 rfl) ?_
    obtain ⟨hk19, h⟩ := h
    refine r_getN (ci := 5) (v := .int (gV S3 6 b4 8)) (C := RX4) (T := TX4) (N := 11) hx hb hts hiX4 hown hK hw (ce_6 (S := S3) hk19) rfl 8 (by decide) (hNw _ (bNw_21)) (fun _ h9 => h9) rfl dX5_tube_88 ?_
    refine lv_if_eq (tgt := 98) hx hb dX5_tube_91 (by decide) (fun hc => ?_) (fun hc => ?_)
    · have h := h.1 hc
      refine lv_iconst (v := (0 : Int32)) hx hb dX5_tube_98 (by decide) ?_
      exact hB99 _ _ _ _ _ _ _ _ _ h hw hS (lv_sub hl [] rfl) hcu hsu
    · have h := h.2 hc
      refine lv_iconst (v := (1 : Int32)) hx hb dX5_tube_94 (by decide) ?_
      refine lv_goto (tgt := 99) hx hb dX5_tube_95 (by decide) ?_
      exact hB99 _ _ _ _ _ _ _ _ _ h hw hS (lv_sub hl [] rfl) hcu hsu
  by_cases hq6 : p2 = (6 : Int32)
  · have h := h.2.2.2.2.2.2.1 hq6
    refine lv_tableIn (off := 93) (tgt := 100) hx hb dX5_tube_7 (by rw [hq6]; decide) (by rw [hq6]; decide) (by rw [hq6]; decide) (by decide) ?_
    refine lv_aload_n hx hb dX5_tube_100 rfl (lv_at hl 0 rfl) ?_
    obtain ⟨hk20, h⟩ := h
    obtain ⟨b21, hb22, h⟩ := h
    refine r_getN (ci := 5) (v := .ref b21) (C := RX4) (T := TX4) (N := 11) hx hb hts hiX4 hown hK hw (ce_6 (S := S3) hk20) rfl 5 (by decide) (hNw _ (bNw_22)) (fun _ h9 => h9) (congrArg (fun q => some (va_rf q)) hb22) dX5_tube_101 ?_
    obtain ⟨hk23, h⟩ := h
    have h1 := h
    refine va_calli (va_runV (As := []) (rest := []) ⟨hx, hb, hml, hown, hts⟩ (m_Jx4a65c_size_8abf5 (l := l) h1) (cwV 0 hts gX5_tube_Jx4a65c_size_8abf5 rfl rfl rfl (by decide +kernel) ⟨Nat.le_trans (Nat.le_of_ble_eq_true rfl) hRf, Nat.le_trans (Nat.le_of_ble_eq_true rfl) hRl⟩) (r_pV hB hw hS (ce_1 (S := S3) hk23) rfl) rfl rfl hl.1 rfl (lv_room (Nat.le_of_ble_eq_true rfl)) dX5_tube_104 ⟨by omega, by omega⟩) hS (fun _ _ h => h) (fun _ h => h) (fun r24 S25 t H1 locs ht _ h hw1 _ _ hS => ?_)
    subst ht
    have hw : wd D y z S25 A t.heap := hw1
    clear hw1 h1
    exact hret r24 _ _ _ _ _ _ _ h hw hS (by omega) (by omega) dX5_tube_107
  by_cases hq7 : p2 = (7 : Int32)
  · have h := h.2.2.2.2.2.2.2.1 hq7
    refine lv_tableIn (off := 101) (tgt := 108) hx hb dX5_tube_7 (by rw [hq7]; decide) (by rw [hq7]; decide) (by rw [hq7]; decide) (by decide) ?_
    refine lv_aload_n hx hb dX5_tube_108 rfl (lv_at hl 0 rfl) ?_
    refine lv_aload_n hx hb dX5_tube_109 rfl (lv_at hl 1 rfl) ?_
    obtain ⟨hk26, h⟩ := h
    refine r_get (ci := 6) (v := .int (gV S3 7 this 3)) (C := RX5) (T := TX5) (N := 6) hx hb hts hiX5 hown hK hw (ce_7 (S := S3) hk26) rfl 3 (by decide) (hts (.fieldLink RX5 26 "TubePost" "tick" "I") (by decide +kernel)) (fun _ h9 => h9) rfl dX5_tube_110 ?_
    obtain ⟨hk27, h⟩ := h
    have h1 := h
    refine va_calli (va_runVN (As := [.int (gV S3 7 this 3)]) (rest := []) ⟨hx, hb, hml, hown, hts⟩ (m_X4_isFirstAtEnd (l := l) h1) ⟨va_cnB 1 hts gX5_tube_X4_isFirstAtEnd_n233 rfl rfl rfl (hNw _ bNw_51) (hts (.initialized RX4) (by decide +kernel)) ⟨by decide +kernel, by decide +kernel, by decide +kernel⟩ ⟨Nat.le_trans (Nat.le_of_ble_eq_true rfl) hRf, Nat.le_trans (Nat.le_of_ble_eq_true rfl) hRl⟩, (hts (.instanceMethod yX4_isFirstAtEnd) (by decide +kernel)), hts (.selects RX4 yX4_isFirstAtEnd yX4_isFirstAtEnd) (by decide +kernel)⟩ (r_pV hB hw hS (ce_6 (S := S3) hk27) rfl) rfl rfl hl.1 rfl (lv_room (Nat.le_of_ble_eq_true rfl)) dX5_tube_113 ⟨by omega, by omega⟩) hS (fun _ _ h => h) (fun _ h => h) (fun r28 S29 t H1 locs ht _ h hw1 _ _ hS => ?_)
    subst ht
    have hw : wd D y z S29 A t.heap := hw1
    clear hw1 h1
    refine lv_if_eq (tgt := 123) hx hb dX5_tube_116 (by decide) (fun hc => ?_) (fun hc => ?_)
    · have h := h.1 hc
      refine lv_iconst (v := (0 : Int32)) hx hb dX5_tube_123 (by decide) ?_
      exact hB124 _ _ _ _ _ _ _ _ _ h hw hS (lv_sub hl [] rfl) hcu hsu
    · have h := h.2 hc
      refine lv_iconst (v := (1 : Int32)) hx hb dX5_tube_119 (by decide) ?_
      refine lv_goto (tgt := 124) hx hb dX5_tube_120 (by decide) ?_
      exact hB124 _ _ _ _ _ _ _ _ _ h hw hS (lv_sub hl [] rfl) hcu hsu
  by_cases hq8 : p2 = (8 : Int32)
  · have h := h.2.2.2.2.2.2.2.2.1 hq8
    refine lv_tableIn (off := 118) (tgt := 125) hx hb dX5_tube_7 (by rw [hq8]; decide) (by rw [hq8]; decide) (by rw [hq8]; decide) (by decide) ?_
    refine lv_aload_n hx hb dX5_tube_125 rfl (lv_at hl 0 rfl) ?_
    obtain ⟨hk30, h⟩ := h
    refine r_getN (ci := 5) (v := .int (gV S3 6 b4 9)) (C := RX4) (T := TX4) (N := 11) hx hb hts hiX4 hown hK hw (ce_6 (S := S3) hk30) rfl 9 (by decide) (hNw _ (bNw_23)) (fun _ h9 => h9) rfl dX5_tube_126 ?_
    exact hret (gV S3 6 b4 9) _ _ _ _ _ _ _ h hw hS (by omega) (by omega) dX5_tube_129
  have h := h.2.2.2.2.2.2.2.2.2 hq0 hq1 hq2 hq3 hq4 hq5 hq6 hq7 hq8
  have ht0 : Int32.toInt p2 ≠ (0 : Int) := fun q => hq0 (b_ti q rfl)
  have ht1 : Int32.toInt p2 ≠ (1 : Int) := fun q => hq1 (b_ti q rfl)
  have ht2 : Int32.toInt p2 ≠ (2 : Int) := fun q => hq2 (b_ti q rfl)
  have ht3 : Int32.toInt p2 ≠ (3 : Int) := fun q => hq3 (b_ti q rfl)
  have ht4 : Int32.toInt p2 ≠ (4 : Int) := fun q => hq4 (b_ti q rfl)
  have ht5 : Int32.toInt p2 ≠ (5 : Int) := fun q => hq5 (b_ti q rfl)
  have ht6 : Int32.toInt p2 ≠ (6 : Int) := fun q => hq6 (b_ti q rfl)
  have ht7 : Int32.toInt p2 ≠ (7 : Int) := fun q => hq7 (b_ti q rfl)
  have ht8 : Int32.toInt p2 ≠ (8 : Int) := fun q => hq8 (b_ti q rfl)
  refine lv_tableOut (tgt := 130) hx hb dX5_tube_7 (by omega) (by decide) ?_
  exact h.elim
def wp_X5_there (post : Int32 → bS → Prop) (xp : String → bS → Prop) (MC MS : Nat) (this : Nat) (p1 : Int32) (p2 : Int32) (S : bS) : Prop := gK S this = 7 ∧ (∃ k6 n7, k6 ≤ MC ∧ n7 ≤ MS ∧ (wp_X5_knownStation (fun r2 S3 => ∃ b4, r2 = some b4 ∧ (gK S3 b4 = 5 ∧ (∃ b9, gQ S3 5 b4 4 = some b9 ∧ (gK S3 b9 = 1 ∧ (wp_Jx4a65c_size_8abf5 (fun r12 S13 => wp_X5_isOutside (fun r14 S15 => (r14 = (0 : Int32) → gK S15 b9 = 1 ∧ (wp_Jx4a65c_get_915e3 (fun r17 S18 => ∃ b19, r17 = some b19 ∧ (gK S18 b19 = 2 ∧ (post (gV S18 2 b19 0) S18))) b9 p2 S15)) ∧ (¬ (r14 = (0 : Int32)) → False)) p2 (0 : Int32) (r12 - (1 : Int32)) S13) b9 S3))))) xp k6 n7 this p1 S))
set_option maxHeartbeats 4000000 in
set_option maxRecDepth 100000 in
theorem m_X5_there {l : Launch} {D : va_G} {y : Nat → ClassId} {z : Nat} {A : Nat → Prop} {S : bS} {post : Int32 → bS → Prop} {xp : String → bS → Prop} (hl0 : l.stackTraces = false) {MC MS : Nat} {this : Nat} {p1 : Int32} {p2 : Int32} (h : wp_X5_there post xp MC MS this p1 p2 S) : vx_Met l yX5_there wsX5_there ({ frames := 9, cells := MC, slots := MS, locals := 421 } : Room) (va_Pc ([Value.ref this, Value.int p1, Value.int p2] : List Value) (bP D y z S A)) (va_Qi post (fun S' t => wd D y z S' A t.heap) A) (bX D y z A xp) MC MS A := by
  refine vx_ofW (cc := cX5_there) (maxL := 4) (ret := (some .int)) (by decide) rfl ?_
  intro p e s m args below meth c s₁ B hml hex hv
  obtain ⟨rfl, hB⟩ := hv
  have hx := B.exec
  have hb := B.bytes
  have hr := B.returns
  have hts := atoms_spec (ws := wsX5_there) B.pre
  have hown : s.vm.findClass RX5 = some m.cls := findClass_of_methodNamed B.named
  have hlocks := B.notSynchronized
  have hw : wd D y z S A s.heap := hB.1
  have hK : va_K D bCl (bT y) s := hB.2.1
  have hNw := hB.2.2.1
  have hAn : ∀ q : Nat, s.heap.size ≤ q → A q := hB.2.2.2.1
  have hAz : ¬ A z := hB.2.2.2.2.1
  have hO := hB.2.2.2.2.2.1
  have hS : va_S A s.heap s.heap [] := va_S.rf
  have hiX0 : ∀ w ∈ u_ws RX0 TX0 9, w ∈ wsX5_there := by decide +kernel
  have hiX3 : ∀ w ∈ u_ws RX3 TX3 10, w ∈ wsX5_there := by decide +kernel
  have hl := lv_entry ([Value.ref this, Value.int p1, Value.int p2] : List Value) (n := 4) (Nat.le_of_ble_eq_true rfl)
  rw [lg_entry_eq]
  generalize (lg_sl ([Value.ref this, Value.int p1, Value.int p2] : List Value) ++ List.replicate (4 - (lg_sl ([Value.ref this, Value.int p1, Value.int p2] : List Value)).length) Slot.unset).toArray = ls at hl ⊢
  have hl : lv_has ls 4 [(0, .ref this), (1, .int p1), (2, .int p2)] := hl
  obtain ⟨Q, hQ⟩ : ∃ Q, Q = vx_MQ below (va_Qi post (fun S' t => wd D y z S' A t.heap) A) (bX D y z A xp) (([Value.ref this, Value.int p1, Value.int p2] : List Value).toArray) s MC MS A := ⟨_, rfl⟩
  rw [← hQ]
  generalize hR : (headSpec wsX5_there ({ frames := 9, cells := MC, slots := MS, locals := 421 } : Room)).room = R
  have hRf : 9 ≤ R.frames := by rw [← hR]; exact Nat.le_refl _
  have hRl : 421 ≤ R.locals := by rw [← hR]; exact Nat.le_refl _
  have hRc : R.cells = MC := by rw [← hR]; rfl
  have hRs : R.slots = MS := by rw [← hR]; rfl
  have hret : ∀ (v : Int32) (S : bS) (H : Heap) (locs : List Loc) (pc : Nat) (ls : Array Slot) (cu su : Nat) , post v S → wd D y z S A H → va_S A s.heap H locs → cu ≤ MC → su ≤ MS → decode cX5_there pc = .ok (.ireturn, 1) → W p l e R s m (([Value.ref this, Value.int p1, Value.int p2] : List Value).toArray) below meth c H locs cu su Q (F0 m pc ls [.int v]) := by
    intro v S H locs pc ls cu su h hw hS hcu hsu d0
    rw [hQ]; refine vx_ret ?_; refine W.widen hcu hsu ?_; exact W.iret hx hb hr (fun t ht hW => ⟨⟨v, S, rfl, h, by show wd D y z S A t.heap; rw [ht]; exact hw⟩, hS.F ht⟩) hS.2.2 d0 hlocks
  unfold wp_X5_there at h
  have hcu : 0 + MC ≤ MC := by omega
  have hsu : 0 + MS ≤ MS := by omega
  refine lv_aload_n hx hb dX5_there_0 rfl (lv_at hl 0 rfl) ?_
  refine lv_iload_n hx hb dX5_there_1 rfl (lv_at hl 1 rfl) ?_
  obtain ⟨hk1, h⟩ := h
  obtain ⟨k6, n7, hbg1, hbg2, h⟩ := h
  have h1 := h
  refine vx_callq (vx_runV (As := [.int p1]) (rest := []) ⟨hx, hb, hml, hown, hts⟩ (m_X5_knownStation (l := l) hl0 h1) (cwV 1 hts gX5_there_X5_knownStation rfl rfl rfl (by decide +kernel) ⟨Nat.le_trans (Nat.le_of_ble_eq_true rfl) hRf, Nat.le_trans (Nat.le_of_ble_eq_true rfl) hRl⟩) (r_pV hB hw hS (ce_7 (S := S) hk1) rfl) rfl rfl hl.1 rfl (lv_room (Nat.le_of_ble_eq_true rfl)) dX5_there_2 ⟨by omega, by omega⟩) hS (fun _ _ h => h) (fun _ h => h) (fun _ _ h => h) (fun E ce q9 S3 t H1 locs ht hal _ hq hz9 hk9 hS hq9 hvm9 hfc9 => by rw [hQ]; exact vx_out (fun x hx => (hex x hx).elim) hlocks hq9 hvm9 hfc9 (fun t9 ht9 _ => ⟨S3, trivial, ⟨hq.1, by rw [ht9, ← ht]; exact hq.2⟩, hS.F ht9⟩) hS.2.2 (by omega) (by omega)) (fun r2 S3 t H1 locs ht _ h hw1 _ _ hS => ?_)
  subst ht
  have hw : wd D y z S3 A t.heap := hw1
  clear hw1 h1
  have hcu : (0 + k6) + (MC - k6) ≤ MC := by omega
  have hsu : (0 + n7) + (MS - n7) ≤ MS := by omega
  obtain ⟨b4, rfl, h⟩ := h
  refine W.eq (g2 := F0 m 5 ls [.ref b4]) rfl ?_
  obtain ⟨hk8, h⟩ := h
  obtain ⟨b9, hb10, h⟩ := h
  refine r_getN (ci := 4) (v := .ref b9) (C := RX3) (T := TX3) (N := 10) hx hb hts hiX3 hown hK hw (ce_5 (S := S3) hk8) rfl 4 (by decide) (hNw _ (bNw_15)) (fun _ h9 => h9) (congrArg (fun q => some (va_rf q)) hb10) dX5_there_5 ?_
  refine lv_astore_n hx hb dX5_there_8 rfl hl (by decide) rfl (fun ls hl => ?_)
  have hl : lv_has ls 4 [(3, .ref b9), (0, .ref this), (1, .int p1), (2, .int p2)] := hl
  refine lv_iload_n hx hb dX5_there_9 rfl (lv_at hl 3 rfl) ?_
  refine lv_iconst (v := (0 : Int32)) hx hb dX5_there_10 (by decide) ?_
  refine lv_aload_n hx hb dX5_there_11 rfl (lv_at hl 0 rfl) ?_
  obtain ⟨hk11, h⟩ := h
  have h1 := h
  refine va_calli (va_runV (As := []) (rest := [.int (0 : Int32), .int p2]) ⟨hx, hb, hml, hown, hts⟩ (m_Jx4a65c_size_8abf5 (l := l) h1) (cwV 0 hts gX5_there_Jx4a65c_size_8abf5 rfl rfl rfl (by decide +kernel) ⟨Nat.le_trans (Nat.le_of_ble_eq_true rfl) hRf, Nat.le_trans (Nat.le_of_ble_eq_true rfl) hRl⟩) (r_pV hB hw hS (ce_1 (S := S3) hk11) rfl) rfl rfl hl.1 rfl (lv_room (Nat.le_of_ble_eq_true rfl)) dX5_there_12 ⟨by omega, by omega⟩) hS (fun _ _ h => h) (fun _ h => h) (fun r12 S13 t H1 locs ht _ h hw1 _ _ hS => ?_)
  subst ht
  have hw : wd D y z S13 A t.heap := hw1
  clear hw1 h1
  refine lv_iconst (v := (1 : Int32)) hx hb dX5_there_15 (by decide) ?_
  refine lv_isub hx hb dX5_there_16 ?_
  have h1 := h
  refine va_calli (va_runS (As := [.int p2, .int (0 : Int32), .int (r12 - (1 : Int32))]) (rest := []) ⟨hx, hb, hml, hown, hts⟩ (m_X5_isOutside (l := l) h1) (cwS 3 hts gX5_there_X5_isOutside rfl rfl rfl (by decide +kernel) ⟨Nat.le_trans (Nat.le_of_ble_eq_true rfl) hRf, Nat.le_trans (Nat.le_of_ble_eq_true rfl) hRl⟩) (r_pS hB hw hS) rfl rfl hl.1 rfl (lv_room (Nat.le_of_ble_eq_true rfl)) dX5_there_17 ⟨by omega, by omega⟩) hS (fun _ _ h => h) (fun _ h => h) (fun r14 S15 t H1 locs ht _ h hw1 _ _ hS => ?_)
  subst ht
  have hw : wd D y z S15 A t.heap := hw1
  clear hw1 h1
  refine lv_if_eq (tgt := 33) hx hb dX5_there_20 (by decide) (fun hc => ?_) (fun hc => ?_)
  · have h := h.1 hc
    refine lv_aload_n hx hb dX5_there_33 rfl (lv_at hl 0 rfl) ?_
    refine lv_iload_n hx hb dX5_there_34 rfl (lv_at hl 3 rfl) ?_
    obtain ⟨hk16, h⟩ := h
    have h1 := h
    refine va_callq (va_runV (As := [.int p2]) (rest := []) ⟨hx, hb, hml, hown, hts⟩ (m_Jx4a65c_get_915e3 (l := l) h1) (cwV 1 hts gX5_there_Jx4a65c_get_915e3 rfl rfl rfl (by decide +kernel) ⟨Nat.le_trans (Nat.le_of_ble_eq_true rfl) hRf, Nat.le_trans (Nat.le_of_ble_eq_true rfl) hRl⟩) (r_pV hB hw hS (ce_1 (S := S15) hk16) rfl) rfl rfl hl.1 rfl (lv_room (Nat.le_of_ble_eq_true rfl)) dX5_there_35 ⟨by omega, by omega⟩) hS (fun _ _ h => h) (fun _ h => h) (fun r17 S18 t H1 locs ht _ h hw1 _ _ hS => ?_)
    subst ht
    have hw : wd D y z S18 A t.heap := hw1
    clear hw1 h1
    obtain ⟨b19, rfl, h⟩ := h
    refine W.eq (g2 := F0 m 38 ls [.ref b19]) rfl ?_
    obtain ⟨hk21, h⟩ := h
    refine r_cast hx hb hown (hts (.classLink RX5 163 "TubePost$Carrier") (by decide +kernel)) hK hw (ce_2 hk21) rfl dX5_there_38 ?_
    refine r_getN (ci := 1) (v := .int (gV S18 2 b19 0)) (C := RX0) (T := TX0) (N := 9) hx hb hts hiX0 hown hK hw (ce_2 (S := S18) hk21) rfl 0 (by decide) (hNw _ (bNw_24)) (fun _ h9 => h9) rfl dX5_there_41 ?_
    exact hret (gV S18 2 b19 0) _ _ _ _ _ _ _ h hw hS (by omega) (by omega) dX5_there_44
  · have h := h.2 hc
    exact h.elim
def wb_X5_time_29 (post : Int32 → bS → Prop) (xp : String → bS → Prop) (mc ms : Nat) (s0 : Int32) (S : bS) : Prop := post s0 S
def wp_X5_time (post : Int32 → bS → Prop) (xp : String → bS → Prop) (MC MS : Nat) (this : Nat) (p1 : Int32) (p2 : Int32) (S : bS) : Prop := gK S this = 7 ∧ (∃ b2, gQ S 7 this 0 = some b2 ∧ (∃ k8 n9, k8 ≤ MC ∧ n9 ≤ MS ∧ (wp_X5_knownStation (fun r4 S5 => ∃ b6, r4 = some b6 ∧ (gK S5 this = 7 ∧ (∃ k15 n16, k15 ≤ (MC - k8) ∧ n16 ≤ (MS - n9) ∧ (wp_X5_knownStation (fun r11 S12 => ∃ b13, r11 = some b13 ∧ (gK S12 b2 = 4 ∧ (wp_X2_leastTime (fun r18 S19 => (r18 ≠ (1000000 : Int32) → wb_X5_time_29 post xp ((MC - k8) - k15) ((MS - n9) - n16) r18 S19) ∧ (r18 = (1000000 : Int32) → wb_X5_time_29 post xp ((MC - k8) - k15) ((MS - n9) - n16) (-1 : Int32) S19)) b2 b6 b13 S12))) xp k15 n16 this p2 S5)))) xp k8 n9 this p1 S)))
set_option maxHeartbeats 4000000 in
set_option maxRecDepth 100000 in
theorem m_X5_time {l : Launch} {D : va_G} {y : Nat → ClassId} {z : Nat} {A : Nat → Prop} {S : bS} {post : Int32 → bS → Prop} {xp : String → bS → Prop} (hl0 : l.stackTraces = false) {MC MS : Nat} {this : Nat} {p1 : Int32} {p2 : Int32} (h : wp_X5_time post xp MC MS this p1 p2 S) : vx_Met l yX5_time wsX5_time ({ frames := 9, cells := MC, slots := MS, locals := 421 } : Room) (va_Pc ([Value.ref this, Value.int p1, Value.int p2] : List Value) (bP D y z S A)) (va_Qi post (fun S' t => wd D y z S' A t.heap) A) (bX D y z A xp) MC MS A := by
  refine vx_ofW (cc := cX5_time) (maxL := 4) (ret := (some .int)) (by decide) rfl ?_
  intro p e s m args below meth c s₁ B hml hex hv
  obtain ⟨rfl, hB⟩ := hv
  have hx := B.exec
  have hb := B.bytes
  have hr := B.returns
  have hts := atoms_spec (ws := wsX5_time) B.pre
  have hown : s.vm.findClass RX5 = some m.cls := findClass_of_methodNamed B.named
  have hlocks := B.notSynchronized
  have hw : wd D y z S A s.heap := hB.1
  have hK : va_K D bCl (bT y) s := hB.2.1
  have hNw := hB.2.2.1
  have hAn : ∀ q : Nat, s.heap.size ≤ q → A q := hB.2.2.2.1
  have hAz : ¬ A z := hB.2.2.2.2.1
  have hO := hB.2.2.2.2.2.1
  have hS : va_S A s.heap s.heap [] := va_S.rf
  have hiX5 : ∀ w ∈ u_ws RX5 TX5 6, w ∈ wsX5_time := by decide +kernel
  have hl := lv_entry ([Value.ref this, Value.int p1, Value.int p2] : List Value) (n := 4) (Nat.le_of_ble_eq_true rfl)
  rw [lg_entry_eq]
  generalize (lg_sl ([Value.ref this, Value.int p1, Value.int p2] : List Value) ++ List.replicate (4 - (lg_sl ([Value.ref this, Value.int p1, Value.int p2] : List Value)).length) Slot.unset).toArray = ls at hl ⊢
  have hl : lv_has ls 4 [(0, .ref this), (1, .int p1), (2, .int p2)] := hl
  obtain ⟨Q, hQ⟩ : ∃ Q, Q = vx_MQ below (va_Qi post (fun S' t => wd D y z S' A t.heap) A) (bX D y z A xp) (([Value.ref this, Value.int p1, Value.int p2] : List Value).toArray) s MC MS A := ⟨_, rfl⟩
  rw [← hQ]
  generalize hR : (headSpec wsX5_time ({ frames := 9, cells := MC, slots := MS, locals := 421 } : Room)).room = R
  have hRf : 9 ≤ R.frames := by rw [← hR]; exact Nat.le_refl _
  have hRl : 421 ≤ R.locals := by rw [← hR]; exact Nat.le_refl _
  have hRc : R.cells = MC := by rw [← hR]; rfl
  have hRs : R.slots = MS := by rw [← hR]; rfl
  have hret : ∀ (v : Int32) (S : bS) (H : Heap) (locs : List Loc) (pc : Nat) (ls : Array Slot) (cu su : Nat) , post v S → wd D y z S A H → va_S A s.heap H locs → cu ≤ MC → su ≤ MS → decode cX5_time pc = .ok (.ireturn, 1) → W p l e R s m (([Value.ref this, Value.int p1, Value.int p2] : List Value).toArray) below meth c H locs cu su Q (F0 m pc ls [.int v]) := by
    intro v S H locs pc ls cu su h hw hS hcu hsu d0
    rw [hQ]; refine vx_ret ?_; refine W.widen hcu hsu ?_; exact W.iret hx hb hr (fun t ht hW => ⟨⟨v, S, rfl, h, by show wd D y z S A t.heap; rw [ht]; exact hw⟩, hS.F ht⟩) hS.2.2 d0 hlocks
  have hB29 : ∀ (S : bS) (H : Heap) (locs : List Loc) (ls : Array Slot) (mc ms cu su : Nat) (s0 : Int32), wb_X5_time_29 post xp mc ms s0 S → wd D y z S A H → va_S A s.heap H locs → lv_has ls 4 [] → cu + mc ≤ MC → su + ms ≤ MS → W p l e R s m (([Value.ref this, Value.int p1, Value.int p2] : List Value).toArray) below meth c H locs cu su Q (F0 m 29 ls [.int s0]) := by
    intro S H locs ls mc ms cu su s0 h hw hS hl hcu hsu
    unfold wb_X5_time_29 at h
    exact hret s0 _ _ _ _ _ _ _ h hw hS (by omega) (by omega) dX5_time_29
  unfold wp_X5_time at h
  have hcu : 0 + MC ≤ MC := by omega
  have hsu : 0 + MS ≤ MS := by omega
  refine lv_aload_n hx hb dX5_time_0 rfl (lv_at hl 0 rfl) ?_
  obtain ⟨hk1, h⟩ := h
  obtain ⟨b2, hb3, h⟩ := h
  refine r_get (ci := 6) (v := .ref b2) (C := RX5) (T := TX5) (N := 6) hx hb hts hiX5 hown hK hw (ce_7 (S := S) hk1) rfl 0 (by decide) (hts (.fieldLink RX5 10 "TubePost" "net" "LTubePost$Net;") (by decide +kernel)) (fun _ h9 => h9) (congrArg (fun q => some (va_rf q)) hb3) dX5_time_1 ?_
  refine lv_aload_n hx hb dX5_time_4 rfl (lv_at hl 0 rfl) ?_
  refine lv_iload_n hx hb dX5_time_5 rfl (lv_at hl 1 rfl) ?_
  obtain ⟨k8, n9, hbg1, hbg2, h⟩ := h
  have h1 := h
  refine vx_callq (vx_runV (As := [.int p1]) (rest := [.ref b2]) ⟨hx, hb, hml, hown, hts⟩ (m_X5_knownStation (l := l) hl0 h1) (cwV 1 hts gX5_time_X5_knownStation rfl rfl rfl (by decide +kernel) ⟨Nat.le_trans (Nat.le_of_ble_eq_true rfl) hRf, Nat.le_trans (Nat.le_of_ble_eq_true rfl) hRl⟩) (r_pV hB hw hS (ce_7 (S := S) hk1) rfl) rfl rfl hl.1 rfl (lv_room (Nat.le_of_ble_eq_true rfl)) dX5_time_6 ⟨by omega, by omega⟩) hS (fun _ _ h => h) (fun _ h => h) (fun _ _ h => h) (fun E ce q9 S5 t H1 locs ht hal _ hq hz9 hk9 hS hq9 hvm9 hfc9 => by rw [hQ]; exact vx_out (fun x hx => (hex x hx).elim) hlocks hq9 hvm9 hfc9 (fun t9 ht9 _ => ⟨S5, trivial, ⟨hq.1, by rw [ht9, ← ht]; exact hq.2⟩, hS.F ht9⟩) hS.2.2 (by omega) (by omega)) (fun r4 S5 t H1 locs ht _ h hw1 _ _ hS => ?_)
  subst ht
  have hw : wd D y z S5 A t.heap := hw1
  clear hw1 h1
  have hcu : (0 + k8) + (MC - k8) ≤ MC := by omega
  have hsu : (0 + n9) + (MS - n9) ≤ MS := by omega
  obtain ⟨b6, rfl, h⟩ := h
  refine W.eq (g2 := F0 m 9 ls [.ref b6, .ref b2]) rfl ?_
  refine lv_aload_n hx hb dX5_time_9 rfl (lv_at hl 0 rfl) ?_
  refine lv_iload_n hx hb dX5_time_10 rfl (lv_at hl 2 rfl) ?_
  obtain ⟨hk10, h⟩ := h
  obtain ⟨k15, n16, hbg1, hbg2, h⟩ := h
  have h1 := h
  refine vx_callq (vx_runV (As := [.int p2]) (rest := [.ref b6, .ref b2]) ⟨hx, hb, hml, hown, hts⟩ (m_X5_knownStation (l := l) hl0 h1) (cwV 1 hts gX5_time_X5_knownStation rfl rfl rfl (by decide +kernel) ⟨Nat.le_trans (Nat.le_of_ble_eq_true rfl) hRf, Nat.le_trans (Nat.le_of_ble_eq_true rfl) hRl⟩) (r_pV hB hw hS (ce_7 (S := S5) hk10) rfl) rfl rfl hl.1 rfl (lv_room (Nat.le_of_ble_eq_true rfl)) dX5_time_11 ⟨by omega, by omega⟩) hS (fun _ _ h => h) (fun _ h => h) (fun _ _ h => h) (fun E ce q9 S12 t H1 locs ht hal _ hq hz9 hk9 hS hq9 hvm9 hfc9 => by rw [hQ]; exact vx_out (fun x hx => (hex x hx).elim) hlocks hq9 hvm9 hfc9 (fun t9 ht9 _ => ⟨S12, trivial, ⟨hq.1, by rw [ht9, ← ht]; exact hq.2⟩, hS.F ht9⟩) hS.2.2 (by omega) (by omega)) (fun r11 S12 t H1 locs ht _ h hw1 _ _ hS => ?_)
  subst ht
  have hw : wd D y z S12 A t.heap := hw1
  clear hw1 h1
  have hcu : ((0 + k8) + k15) + ((MC - k8) - k15) ≤ MC := by omega
  have hsu : ((0 + n9) + n16) + ((MS - n9) - n16) ≤ MS := by omega
  obtain ⟨b13, rfl, h⟩ := h
  refine W.eq (g2 := F0 m 14 ls [.ref b13, .ref b6, .ref b2]) rfl ?_
  obtain ⟨hk17, h⟩ := h
  have h1 := h
  refine va_calli (va_runVN (As := [.ref b6, .ref b13]) (rest := []) ⟨hx, hb, hml, hown, hts⟩ (m_X2_leastTime (l := l) h1) ⟨va_cnB 2 hts gX5_time_X2_leastTime_n242 rfl rfl rfl (hNw _ bNw_52) (hts (.initialized RX2) (by decide +kernel)) ⟨by decide +kernel, by decide +kernel, by decide +kernel⟩ ⟨Nat.le_trans (Nat.le_of_ble_eq_true rfl) hRf, Nat.le_trans (Nat.le_of_ble_eq_true rfl) hRl⟩, (hts (.instanceMethod yX2_leastTime) (by decide +kernel)), hts (.selects RX2 yX2_leastTime yX2_leastTime) (by decide +kernel)⟩ (r_pV hB hw hS (ce_4 (S := S12) hk17) rfl) rfl rfl hl.1 rfl (lv_room (Nat.le_of_ble_eq_true rfl)) dX5_time_14 ⟨by omega, by omega⟩) hS (fun _ _ h => h) (fun _ h => h) (fun r18 S19 t H1 locs ht _ h hw1 _ _ hS => ?_)
  subst ht
  have hw : wd D y z S19 A t.heap := hw1
  clear hw1 h1
  refine lv_istore_n hx hb dX5_time_17 rfl hl (by decide) rfl (fun ls hl => ?_)
  have hl : lv_has ls 4 [(3, .int r18), (0, .ref this), (1, .int p1), (2, .int p2)] := hl
  refine lv_iload_n hx hb dX5_time_18 rfl (lv_at hl 0 rfl) ?_
  refine lv_ldc (v := (1000000 : Int32)) hx hb hown (hts (.constant RX5 246 (1000000 : Int32)) (by decide +kernel)) dX5_time_19 ?_
  refine lv_icmp_ne (tgt := 28) hx hb dX5_time_21 (by decide) (fun hc => ?_) (fun hc => ?_)
  · have h := h.1 hc
    refine lv_iload_n hx hb dX5_time_28 rfl (lv_at hl 0 rfl) ?_
    exact hB29 _ _ _ _ _ _ _ _ _ h hw hS (lv_sub hl [] rfl) hcu hsu
  · have h := h.2 hc
    refine lv_iconst (v := (-1 : Int32)) hx hb dX5_time_24 (by decide) ?_
    refine lv_goto (tgt := 29) hx hb dX5_time_25 (by decide) ?_
    exact hB29 _ _ _ _ _ _ _ _ _ h hw hS (lv_sub hl [] rfl) hcu hsu
def wp_X5_mean (post : UInt64 → bS → Prop) (this : Nat) (S : bS) : Prop := gK S this = 7 ∧ (((gV S 7 this 4) ≠ (0 : Int32) → (∀ r2 : UInt64, alike64 r2 (FP.ddiv (FP.i2d (gV S 7 this 5)) (FP.i2d (gV S 7 this 4))) = true → (post r2 S))) ∧ ((gV S 7 this 4) = (0 : Int32) → post FP.dconst0 S))
set_option maxHeartbeats 4000000 in
set_option maxRecDepth 100000 in
theorem m_X5_mean {l : Launch} {D : va_G} {y : Nat → ClassId} {z : Nat} {A : Nat → Prop} {S : bS} {post : UInt64 → bS → Prop} {this : Nat} (h : wp_X5_mean post this S) : MetD lw_cs l yX5_mean wsX5_mean ({ frames := 0, cells := 0, slots := 0, locals := 0 } : Room) (va_Pc ([Value.ref this] : List Value) (bP D y z S A)) (va_Qd post (fun S' t => wd D y z S' A t.heap) A) 0 0 A := by
  refine MetD.ofW (cc := cX5_mean) (maxL := 1) (ret := (some .double)) (by decide) rfl ?_
  intro p e s m args below meth c s₁ B hml hv hd0
  obtain ⟨rfl, hB⟩ := hv
  have hx := B.exec
  have hb := B.bytes
  have hr := B.returns
  have hts := atoms_spec (ws := wsX5_mean) B.pre
  have hown : s.vm.findClass RX5 = some m.cls := findClass_of_methodNamed B.named
  have hlocks := B.notSynchronized
  have hw : wd D y z S A s.heap := hB.1
  have hK : va_K D bCl (bT y) s := hB.2.1
  have hNw := hB.2.2.1
  have hAn : ∀ q : Nat, s.heap.size ≤ q → A q := hB.2.2.2.1
  have hAz : ¬ A z := hB.2.2.2.2.1
  have hO := hB.2.2.2.2.2.1
  have hS : va_S A s.heap s.heap [] := va_S.rf
  have hiX5 : ∀ w ∈ u_ws RX5 TX5 6, w ∈ wsX5_mean := by decide +kernel
  have hl := lv_entry ([Value.ref this] : List Value) (n := 1) (Nat.le_of_ble_eq_true rfl)
  rw [lg_entry_eq]
  generalize (lg_sl ([Value.ref this] : List Value) ++ List.replicate (1 - (lg_sl ([Value.ref this] : List Value)).length) Slot.unset).toArray = ls at hl ⊢
  have hl : lv_has ls 1 [(0, .ref this)] := hl
  have hts0 := hts
  have hts := dr_words hts0 s.drawn
  unfold wp_X5_mean at h
  refine lv_aload_n hx hb dX5_mean_0 rfl (lv_at hl 0 rfl) ?_
  obtain ⟨hk1, h⟩ := h
  refine r_get (ci := 6) (v := .int (gV S 7 this 4)) (C := RX5) (T := TX5) (N := 6) hx hb hts hiX5 hown hK hw (ce_7 (S := S) hk1) rfl 4 (by decide) (hts (.fieldLink RX5 30 "TubePost" "delivered" "I") (by decide +kernel)) (fun _ h9 => h9) rfl dX5_mean_1 ?_
  refine lv_if_ne (tgt := 9) hx hb dX5_mean_4 (by decide) (fun hc => ?_) (fun hc => ?_)
  · have h := h.1 hc
    refine lv_aload_n hx hb dX5_mean_9 rfl (lv_at hl 0 rfl) ?_
    refine r_get (ci := 6) (v := .int (gV S 7 this 5)) (C := RX5) (T := TX5) (N := 6) hx hb hts hiX5 hown hK hw (ce_7 (S := S) hk1) rfl 5 (by decide) (hts (.fieldLink RX5 33 "TubePost" "ticksUnderWay" "I") (by decide +kernel)) (fun _ h9 => h9) rfl dX5_mean_10 ?_
    refine lv_i2d hx hb dX5_mean_13 ?_
    refine lv_aload_n hx hb dX5_mean_14 rfl (lv_at hl 0 rfl) ?_
    refine r_get (ci := 6) (v := .int (gV S 7 this 4)) (C := RX5) (T := TX5) (N := 6) hx hb hts hiX5 hown hK hw (ce_7 (S := S) hk1) rfl 4 (by decide) (hts (.fieldLink RX5 30 "TubePost" "delivered" "I") (by decide +kernel)) (fun _ h9 => h9) rfl dX5_mean_15 ?_
    refine lv_i2d hx hb dX5_mean_18 ?_
    refine lv_ddiv_any hd0 lw_bits hx hb dX5_mean_19 (fun r2 d3 hal hd0 => ?_)
    have h := h r2 hal
    have hts := dr_words hts0 d3
    refine W.endD hd0 ?_
    exact W.dret hx hb hr (fun t ht hW => ⟨⟨r2, S, rfl, h, by show wd D y z S A t.heap; rw [ht]; exact hw⟩, hS.F ht⟩) hS.2.2 dX5_mean_20 hlocks
  · have h := h.2 hc
    refine lv_dconst0 hx hb dX5_mean_7 ?_
    refine W.endD hd0 ?_
    exact W.dret hx hb hr (fun t ht hW => ⟨⟨FP.dconst0, S, rfl, h, by show wd D y z S A t.heap; rw [ht]; exact hw⟩, hS.F ht⟩) hS.2.2 dX5_mean_8 hlocks
