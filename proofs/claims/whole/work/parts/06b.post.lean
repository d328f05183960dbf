def wb_X2_wayFor_91 (post : Int32 → bS → Prop) (rec34 : Nat → Nat → Int32 → Int32 → Int32 → bS → Prop) (v1 : Nat) (v2 : Nat) (v3 : Int32) (v4 : Int32) (v5 : Int32) (S : bS) : Prop := rec34 v1 v2 v3 v4 (v5 + (1 : Int32)) S
def wb_X2_wayFor_34 (post : Int32 → bS → Prop) : Nat → Nat → Nat → Int32 → Int32 → Int32 → bS → Prop
  | 0, _, _, _, _, _, _ => False
  | n + 1, v1, v2, v3, v4, v5, S => gK S v1 = 5 ∧ (∃ b6, gQ S 5 v1 3 = some b6 ∧ (gK S b6 = 1 ∧ (wp_Jx4a65c_size_8abf5 (fun r9 S10 => (r9 ≤ v5 → post v3 S10) ∧ (¬ (r9 ≤ v5) → gK S10 v1 = 5 ∧ (∃ b12, gQ S10 5 v1 3 = some b12 ∧ (gK S10 b12 = 1 ∧ (wp_Jx4a65c_get_915e3 (fun r15 S16 => ∃ b17, r15 = some b17 ∧ (gK S16 b17 = 6 ∧ (∃ b20, gQ S16 6 b17 2 = some b20 ∧ (gK S16 v2 = 5 ∧ (wp_X3_timeFrom (fun r23 S24 => wp_X2_timeBy (fun r25 S26 => (v4 ≤ r25 → wb_X2_wayFor_91 post (wb_X2_wayFor_34 post n) v1 v2 v3 v4 v5 S26) ∧ (¬ (v4 ≤ r25) → wb_X2_wayFor_91 post (wb_X2_wayFor_34 post n) v1 v2 v5 r25 v5 S26)) b17 v2 r23 S24) v2 b20 S16))))) b12 v5 S10))))) b6 S)))
def wp_X2_wayFor (post : Int32 → bS → Prop) (this : Nat) (p1 : Nat) (p2 : Nat) (S : bS) : Prop := ((some p1) ≠ (some p2) → gK S p1 = 5 ∧ (((gV S 5 p1 8) = (-1 : Int32) → gK S this = 4 ∧ (wp_X2_reckonTimesTo (fun S4 => ∃ n34, wb_X2_wayFor_34 post n34 p1 p2 (-1 : Int32) (1000000 : Int32) (0 : Int32) S4) this p2 S)) ∧ (¬ ((gV S 5 p1 8) = (-1 : Int32)) → post (gV S 5 p1 8) S))) ∧ ((some p1) = (some p2) → post (-1 : Int32) S)
set_option maxHeartbeats 4000000 in
set_option maxRecDepth 100000 in
theorem m_X2_wayFor {l : Launch} {D : va_G} {y : Nat → ClassId} {z : Nat} {A : Nat → Prop} {S : bS} {post : Int32 → bS → Prop} {this : Nat} {p1 : Nat} {p2 : Nat} (h : wp_X2_wayFor post this p1 p2 S) : Met l yX2_wayFor wsX2_wayFor ({ frames := 4, cells := 0, slots := 0, locals := 90 } : Room) (va_Pc ([Value.ref this, Value.ref p1, Value.ref p2] : List Value) (bP D y z S A)) (va_Qi post (fun S' t => wd D y z S' A t.heap) A) 0 0 A := by
  refine Met.ofW (cc := cX2_wayFor) (maxL := 8) (ret := (some .int)) (by decide) rfl ?_
  intro p e s m args below meth c s₁ B hml hv
  obtain ⟨rfl, hB⟩ := hv
  have hx := B.exec
  have hb := B.bytes
  have hr := B.returns
  have hts := atoms_spec (ws := wsX2_wayFor) B.pre
  have hown : s.vm.findClass RX2 = some m.cls := findClass_of_methodNamed B.named
  have hlocks := B.notSynchronized
  have hw : wd D y z S A s.heap := hB.1
  have hK : va_K D bCl (bT y) s := hB.2.1
  have hNw := hB.2.2.1
  have hAn : ∀ q : Nat, s.heap.size ≤ q → A q := hB.2.2.2.1
  have hAz : ¬ A z := hB.2.2.2.2.1
  have hO := hB.2.2.2.2.2.1
  have hS : va_S A s.heap s.heap [] := va_S.rf
  have hiX3 : ∀ w ∈ u_ws RX3 TX3 10, w ∈ wsX2_wayFor := by decide +kernel
  have hiX4 : ∀ w ∈ u_ws RX4 TX4 11, w ∈ wsX2_wayFor := by decide +kernel
  have hl := lv_entry ([Value.ref this, Value.ref p1, Value.ref p2] : List Value) (n := 8) (Nat.le_of_ble_eq_true rfl)
  rw [lg_entry_eq]
  generalize (lg_sl ([Value.ref this, Value.ref p1, Value.ref p2] : List Value) ++ List.replicate (8 - (lg_sl ([Value.ref this, Value.ref p1, Value.ref p2] : List Value)).length) Slot.unset).toArray = ls at hl ⊢
  have hl : lv_has ls 8 [(0, .ref this), (1, .ref p1), (2, .ref p2)] := hl
  obtain ⟨Q, hQ⟩ : ∃ Q, Q = MQ below (va_Qi post (fun S' t => wd D y z S' A t.heap) A) (([Value.ref this, Value.ref p1, Value.ref p2] : List Value).toArray) s 0 0 A := ⟨_, rfl⟩
  rw [← hQ]
  generalize hR : (headSpec wsX2_wayFor ({ frames := 4, cells := 0, slots := 0, locals := 90 } : Room)).room = R
  have hRf : 4 ≤ R.frames := by rw [← hR]; exact Nat.le_refl _
  have hRl : 90 ≤ R.locals := by rw [← hR]; exact Nat.le_refl _
  have hret : ∀ (v : Int32) (S : bS) (H : Heap) (locs : List Loc) (pc : Nat) (ls : Array Slot) , post v S → wd D y z S A H → va_S A s.heap H locs → decode cX2_wayFor pc = .ok (.ireturn, 1) → W p l e R s m (([Value.ref this, Value.ref p1, Value.ref p2] : List Value).toArray) below meth c H locs 0 0 Q (F0 m pc ls [.int v]) := by
    intro v S H locs pc ls h hw hS d0
    rw [hQ]; exact W.iret hx hb hr (fun t ht hW => ⟨⟨v, S, rfl, h, by show wd D y z S A t.heap; rw [ht]; exact hw⟩, hS.F ht⟩) hS.2.2 d0 hlocks
  have hB34 : ∀ (n34 : Nat) (S : bS) (H : Heap) (locs : List Loc) (ls : Array Slot) (v1 : Nat) (v2 : Nat) (v3 : Int32) (v4 : Int32) (v5 : Int32), wb_X2_wayFor_34 post n34 v1 v2 v3 v4 v5 S → wd D y z S A H → va_S A s.heap H locs → lv_has ls 8 [(1, .ref v1), (2, .ref v2), (3, .int v3), (4, .int v4), (5, .int v5)] → W p l e R s m (([Value.ref this, Value.ref p1, Value.ref p2] : List Value).toArray) below meth c H locs 0 0 Q (F0 m 34 ls []) := by
    intro n34
    induction n34 with
    | zero =>
      intro S H locs ls v1 v2 v3 v4 v5 h hw hS hl
      exact absurd h (by unfold wb_X2_wayFor_34; exact id)
    | succ n34 ih34 =>
      have hB91 : ∀ (S : bS) (H : Heap) (locs : List Loc) (ls : Array Slot) (v1 : Nat) (v2 : Nat) (v3 : Int32) (v4 : Int32) (v5 : Int32), wb_X2_wayFor_91 post (wb_X2_wayFor_34 post n34) v1 v2 v3 v4 v5 S → wd D y z S A H → va_S A s.heap H locs → lv_has ls 8 [(1, .ref v1), (2, .ref v2), (3, .int v3), (4, .int v4), (5, .int v5)] → W p l e R s m (([Value.ref this, Value.ref p1, Value.ref p2] : List Value).toArray) below meth c H locs 0 0 Q (F0 m 91 ls []) := by
        intro S H locs ls v1 v2 v3 v4 v5 h hw hS hl
        unfold wb_X2_wayFor_91 at h
        refine lv_iinc (v := (v5 + (1 : Int32))) hx hb dX2_wayFor_91 hl (k := 4) rfl rfl (by decide) rfl (fun ls hl => ?_)
        have hl : lv_has ls 8 [(5, .int (v5 + (1 : Int32))), (1, .ref v1), (2, .ref v2), (3, .int v3), (4, .int v4)] := hl
        refine lv_goto (tgt := 34) hx hb dX2_wayFor_94 (by decide) ?_
        exact ih34 _ _ _ _ _ _ _ _ _ h hw hS (lv_sub hl [1, 2, 3, 4, 0] rfl)
      intro S H locs ls v1 v2 v3 v4 v5 h hw hS hl
      unfold wb_X2_wayFor_34 at h
      refine lv_iload hx hb dX2_wayFor_34 (lv_at hl 4 rfl) ?_
      refine lv_aload_n hx hb dX2_wayFor_36 rfl (lv_at hl 0 rfl) ?_
      obtain ⟨hk5, h⟩ := h
      obtain ⟨b6, hb7, h⟩ := h
      refine r_getN (ci := 4) (v := .ref b6) (C := RX3) (T := TX3) (N := 10) hx hb hts hiX3 hown hK hw (ce_5 (S := S) hk5) rfl 3 (by decide) (hNw _ (bNw_34)) (fun _ h9 => h9) (congrArg (fun q => some (va_rf q)) hb7) dX2_wayFor_37 ?_
      obtain ⟨hk8, h⟩ := h
      have h1 := h
      refine va_calli (va_runV (As := []) (rest := [.int v5]) ⟨hx, hb, hml, hown, hts⟩ (m_Jx4a65c_size_8abf5 (l := l) h1) (cwV 0 hts gX2_wayFor_Jx4a65c_size_8abf5 rfl rfl rfl (by decide +kernel) ⟨Nat.le_trans (Nat.le_of_ble_eq_true rfl) hRf, Nat.le_trans (Nat.le_of_ble_eq_true rfl) hRl⟩) (r_pV hB hw hS (ce_1 (S := S) hk8) rfl) rfl rfl hl.1 rfl (lv_room (Nat.le_of_ble_eq_true rfl)) dX2_wayFor_40 ⟨Nat.zero_le _, Nat.zero_le _⟩) hS (fun _ _ h => h) (fun _ h => h) (fun r9 S10 t H1 locs ht _ h hw1 _ _ hS => ?_)
      subst ht
      have hw : wd D y z S10 A t.heap := hw1
      clear hw1 h1
      refine lv_icmp_ge (tgt := 97) hx hb dX2_wayFor_43 (by decide) (fun hc => ?_) (fun hc => ?_)
      · have h := h.1 hc
        refine lv_iload_n hx hb dX2_wayFor_97 rfl (lv_at hl 2 rfl) ?_
        exact hret v3 _ _ _ _ _ h hw hS dX2_wayFor_98
      · have h := h.2 hc
        refine lv_aload_n hx hb dX2_wayFor_46 rfl (lv_at hl 0 rfl) ?_
        obtain ⟨hk11, h⟩ := h
        obtain ⟨b12, hb13, h⟩ := h
        refine r_getN (ci := 4) (v := .ref b12) (C := RX3) (T := TX3) (N := 10) hx hb hts hiX3 hown hK hw (ce_5 (S := S10) hk11) rfl 3 (by decide) (hNw _ (bNw_34)) (fun _ h9 => h9) (congrArg (fun q => some (va_rf q)) hb13) dX2_wayFor_47 ?_
        refine lv_iload hx hb dX2_wayFor_50 (lv_at hl 4 rfl) ?_
        obtain ⟨hk14, h⟩ := h
        have h1 := h
        refine va_callq (va_runV (As := [.int v5]) (rest := []) ⟨hx, hb, hml, hown, hts⟩ (m_Jx4a65c_get_915e3 (l := l) h1) (cwV 1 hts gX2_wayFor_Jx4a65c_get_915e3 rfl rfl rfl (by decide +kernel) ⟨Nat.le_trans (Nat.le_of_ble_eq_true rfl) hRf, Nat.le_trans (Nat.le_of_ble_eq_true rfl) hRl⟩) (r_pV hB hw hS (ce_1 (S := S10) hk14) rfl) rfl rfl hl.1 rfl (lv_room (Nat.le_of_ble_eq_true rfl)) dX2_wayFor_52 ⟨Nat.zero_le _, Nat.zero_le _⟩) hS (fun _ _ h => h) (fun _ h => h) (fun r15 S16 t H1 locs ht _ h hw1 _ _ hS => ?_)
        subst ht
        have hw : wd D y z S16 A t.heap := hw1
        clear hw1 h1
        obtain ⟨b17, rfl, h⟩ := h
        refine W.eq (g2 := F0 m 55 ls [.ref b17]) rfl ?_
        obtain ⟨hk19, h⟩ := h
        refine r_cast hx hb hown (hts (.classLink RX2 37 "TubePost$Tube") (by decide +kernel)) hK hw (ce_6 hk19) rfl dX2_wayFor_55 ?_
        refine lv_astore hx hb dX2_wayFor_58 hl (by decide) rfl (fun ls hl => ?_)
        have hl : lv_has ls 8 [(6, .ref b17), (1, .ref v1), (2, .ref v2), (3, .int v3), (4, .int v4), (5, .int v5)] := hl
        refine lv_aload hx hb dX2_wayFor_60 (lv_at hl 0 rfl) ?_
        refine lv_aload_n hx hb dX2_wayFor_62 rfl (lv_at hl 2 rfl) ?_
        refine lv_aload_n hx hb dX2_wayFor_63 rfl (lv_at hl 2 rfl) ?_
        refine lv_aload hx hb dX2_wayFor_64 (lv_at hl 0 rfl) ?_
        obtain ⟨b20, hb21, h⟩ := h
        refine r_getN (ci := 5) (v := .ref b20) (C := RX4) (T := TX4) (N := 11) hx hb hts hiX4 hown hK hw (ce_6 (S := S16) hk19) rfl 2 (by decide) (hNw _ (bNw_39)) (fun _ h9 => h9) (congrArg (fun q => some (va_rf q)) hb21) dX2_wayFor_66 ?_
        obtain ⟨hk22, h⟩ := h
        have h1 := h
        refine va_calli (va_runVN (As := [.ref b20]) (rest := [.ref v2, .ref b17]) ⟨hx, hb, hml, hown, hts⟩ (m_X3_timeFrom (l := l) h1) ⟨va_cnB 1 hts gX2_wayFor_X3_timeFrom_n68 rfl rfl rfl (hNw _ bNw_71) (hts (.initialized RX3) (by decide +kernel)) ⟨by decide +kernel, by decide +kernel, by decide +kernel⟩ ⟨Nat.le_trans (Nat.le_of_ble_eq_true rfl) hRf, Nat.le_trans (Nat.le_of_ble_eq_true rfl) hRl⟩, (hts (.instanceMethod yX3_timeFrom) (by decide +kernel)), hts (.selects RX3 yX3_timeFrom yX3_timeFrom) (by decide +kernel)⟩ (r_pV hB hw hS (ce_5 (S := S16) hk22) rfl) rfl rfl hl.1 rfl (lv_room (Nat.le_of_ble_eq_true rfl)) dX2_wayFor_69 ⟨Nat.zero_le _, Nat.zero_le _⟩) hS (fun _ _ h => h) (fun _ h => h) (fun r23 S24 t H1 locs ht _ h hw1 _ _ hS => ?_)
        subst ht
        have hw : wd D y z S24 A t.heap := hw1
        clear hw1 h1
        have h1 := h
        refine va_calli (va_runS (As := [.ref b17, .ref v2, .int r23]) (rest := []) ⟨hx, hb, hml, hown, hts⟩ (m_X2_timeBy (l := l) h1) (cwS 3 hts gX2_wayFor_X2_timeBy rfl rfl rfl (by decide +kernel) ⟨Nat.le_trans (Nat.le_of_ble_eq_true rfl) hRf, Nat.le_trans (Nat.le_of_ble_eq_true rfl) hRl⟩) (r_pS hB hw hS) rfl rfl hl.1 rfl (lv_room (Nat.le_of_ble_eq_true rfl)) dX2_wayFor_72 ⟨Nat.zero_le _, Nat.zero_le _⟩) hS (fun _ _ h => h) (fun _ h => h) (fun r25 S26 t H1 locs ht _ h hw1 _ _ hS => ?_)
        subst ht
        have hw : wd D y z S26 A t.heap := hw1
        clear hw1 h1
        refine lv_istore hx hb dX2_wayFor_75 hl (by decide) rfl (fun ls hl => ?_)
        have hl : lv_has ls 8 [(7, .int r25), (6, .ref b17), (1, .ref v1), (2, .ref v2), (3, .int v3), (4, .int v4), (5, .int v5)] := hl
        refine lv_iload hx hb dX2_wayFor_77 (lv_at hl 0 rfl) ?_
        refine lv_iload hx hb dX2_wayFor_79 (lv_at hl 5 rfl) ?_
        refine lv_icmp_ge (tgt := 91) hx hb dX2_wayFor_81 (by decide) (fun hc => ?_) (fun hc => ?_)
        · have h := h.1 hc
          exact hB91 _ _ _ _ _ _ _ _ _ h hw hS (lv_sub hl [2, 3, 4, 5, 6] rfl)
        · have h := h.2 hc
          refine lv_iload hx hb dX2_wayFor_84 (lv_at hl 0 rfl) ?_
          refine lv_istore hx hb dX2_wayFor_86 hl (by decide) rfl (fun ls hl => ?_)
          have hl : lv_has ls 8 [(4, .int r25), (7, .int r25), (6, .ref b17), (1, .ref v1), (2, .ref v2), (3, .int v3), (5, .int v5)] := hl
          refine lv_iload hx hb dX2_wayFor_88 (lv_at hl 6 rfl) ?_
          refine lv_istore_n hx hb dX2_wayFor_90 rfl hl (by decide) rfl (fun ls hl => ?_)
          have hl : lv_has ls 8 [(3, .int v5), (4, .int r25), (7, .int r25), (6, .ref b17), (1, .ref v1), (2, .ref v2), (5, .int v5)] := hl
          exact hB91 _ _ _ _ _ _ _ _ _ h hw hS (lv_sub hl [4, 5, 0, 1, 6] rfl)
  unfold wp_X2_wayFor at h
  refine lv_aload_n hx hb dX2_wayFor_0 rfl (lv_at hl 1 rfl) ?_
  refine lv_aload_n hx hb dX2_wayFor_1 rfl (lv_at hl 2 rfl) ?_
  refine lv_acmp_ne (rx := (some p1)) (ry := (some p2)) (tgt := 7) hx hb dX2_wayFor_2 (by decide) (fun hc => ?_) (fun hc => ?_)
  · have h := h.1 hc
    refine lv_aload_n hx hb dX2_wayFor_7 rfl (lv_at hl 1 rfl) ?_
    obtain ⟨hk1, h⟩ := h
    refine r_getN (ci := 4) (v := .int (gV S 5 p1 8)) (C := RX3) (T := TX3) (N := 10) hx hb hts hiX3 hown hK hw (ce_5 (S := S) hk1) rfl 8 (by decide) (hNw _ (bNw_38)) (fun _ h9 => h9) rfl dX2_wayFor_8 ?_
    refine lv_iconst (v := (-1 : Int32)) hx hb dX2_wayFor_11 (by decide) ?_
    refine lv_icmp_eq (tgt := 20) hx hb dX2_wayFor_12 (by decide) (fun hc => ?_) (fun hc => ?_)
    · have h := h.1 hc
      refine lv_aload_n hx hb dX2_wayFor_20 rfl (lv_at hl 0 rfl) ?_
      refine lv_aload_n hx hb dX2_wayFor_21 rfl (lv_at hl 2 rfl) ?_
      obtain ⟨hk2, h⟩ := h
      have h1 := h
      refine va_callv (va_runV (As := [.ref p2]) (rest := []) ⟨hx, hb, hml, hown, hts⟩ (m_X2_reckonTimesTo (l := l) h1) (cwV 1 hts gX2_wayFor_X2_reckonTimesTo rfl rfl rfl (by decide +kernel) ⟨Nat.le_trans (Nat.le_of_ble_eq_true rfl) hRf, Nat.le_trans (Nat.le_of_ble_eq_true rfl) hRl⟩) (r_pV hB hw hS (ce_4 (S := S) hk2) rfl) rfl rfl hl.1 rfl (lv_room (Nat.le_of_ble_eq_true rfl)) dX2_wayFor_22 ⟨Nat.zero_le _, Nat.zero_le _⟩) hS (fun _ _ h => h) (fun _ h => h) (fun S4 t H1 locs ht _ h hw1 _ _ hS => ?_)
      subst ht
      have hw : wd D y z S4 A t.heap := hw1
      clear hw1 h1
      refine lv_iconst (v := (-1 : Int32)) hx hb dX2_wayFor_25 (by decide) ?_
      refine lv_istore_n hx hb dX2_wayFor_26 rfl hl (by decide) rfl (fun ls hl => ?_)
      have hl : lv_has ls 8 [(3, .int (-1 : Int32)), (0, .ref this), (1, .ref p1), (2, .ref p2)] := hl
      refine lv_ldc (v := (1000000 : Int32)) hx hb hown (hts (.constant RX2 75 (1000000 : Int32)) (by decide +kernel)) dX2_wayFor_27 ?_
      refine lv_istore hx hb dX2_wayFor_29 hl (by decide) rfl (fun ls hl => ?_)
      have hl : lv_has ls 8 [(4, .int (1000000 : Int32)), (3, .int (-1 : Int32)), (0, .ref this), (1, .ref p1), (2, .ref p2)] := hl
      refine lv_iconst (v := (0 : Int32)) hx hb dX2_wayFor_31 (by decide) ?_
      refine lv_istore hx hb dX2_wayFor_32 hl (by decide) rfl (fun ls hl => ?_)
      have hl : lv_has ls 8 [(5, .int (0 : Int32)), (4, .int (1000000 : Int32)), (3, .int (-1 : Int32)), (0, .ref this), (1, .ref p1), (2, .ref p2)] := hl
      obtain ⟨n34, h⟩ := h
      exact hB34 n34 _ _ _ _ _ _ _ _ _ h hw hS (lv_sub hl [4, 5, 2, 1, 0] rfl)
    · have h := h.2 hc
      refine lv_aload_n hx hb dX2_wayFor_15 rfl (lv_at hl 1 rfl) ?_
      refine r_getN (ci := 4) (v := .int (gV S 5 p1 8)) (C := RX3) (T := TX3) (N := 10) hx hb hts hiX3 hown hK hw (ce_5 (S := S) hk1) rfl 8 (by decide) (hNw _ (bNw_38)) (fun _ h9 => h9) rfl dX2_wayFor_16 ?_
      exact hret (gV S 5 p1 8) _ _ _ _ _ h hw hS dX2_wayFor_19
  · have h := h.2 hc
    refine lv_iconst (v := (-1 : Int32)) hx hb dX2_wayFor_5 (by decide) ?_
    exact hret (-1 : Int32) _ _ _ _ _ h hw hS dX2_wayFor_6
def wb_X2_reckonReach_180 (post : bS → Prop) (rec102 : Nat → Int32 → bS → Prop) (rec131 : Nat → Int32 → Int32 → Int32 → bS → Prop) (v0 : Nat) (v2 : Int32) (v3 : Int32) (v4 : Int32) (S : bS) : Prop := rec131 v0 v2 v3 (v4 + (1 : Int32)) S
def wb_X2_reckonReach_131 (post : bS → Prop) (rec102 : Nat → Int32 → bS → Prop) : Nat → Nat → Int32 → Int32 → Int32 → bS → Prop
  | 0, _, _, _, _, _ => False
  | n + 1, v0, v2, v3, v4, S => gK S v0 = 4 ∧ (∃ b53, gQ S 4 v0 0 = some b53 ∧ (gK S b53 = 1 ∧ (wp_Jx4a65c_size_8abf5 (fun r56 S57 => (r56 ≤ v4 → rec102 v0 (v2 + (1 : Int32)) S57) ∧ (¬ (r56 ≤ v4) → gK S57 v0 = 4 ∧ (∃ b59, gQ S57 4 v0 0 = some b59 ∧ (gK S57 b59 = 1 ∧ (wp_Jx4a65c_get_915e3 (fun r62 S63 => ∃ b64, r62 = some b64 ∧ (gK S63 b64 = 5 ∧ ((((gV S63 5 b64 7) &&& ((1 : Int32) <<< (v2 &&& 31))) = (0 : Int32) → wb_X2_reckonReach_180 post rec102 (wb_X2_reckonReach_131 post rec102 n) v0 v2 v3 v4 S63) ∧ (¬ (((gV S63 5 b64 7) &&& ((1 : Int32) <<< (v2 &&& 31))) = (0 : Int32)) → wb_X2_reckonReach_180 post rec102 (wb_X2_reckonReach_131 post rec102 n) v0 v2 v3 v4 (sV S63 5 b64 7 ((gV S63 5 b64 7) ||| v3)))))) b59 v4 S57))))) b53 S)))
def wb_X2_reckonReach_102 (post : bS → Prop) : Nat → Nat → Int32 → bS → Prop
  | 0, _, _, _ => False
  | n + 1, v0, v2, S => gK S v0 = 4 ∧ (∃ b38, gQ S 4 v0 0 = some b38 ∧ (gK S b38 = 1 ∧ (wp_Jx4a65c_size_8abf5 (fun r41 S42 => (r41 ≤ v2 → post S42) ∧ (¬ (r41 ≤ v2) → gK S42 v0 = 4 ∧ (∃ b44, gQ S42 4 v0 0 = some b44 ∧ (gK S42 b44 = 1 ∧ (wp_Jx4a65c_get_915e3 (fun r47 S48 => ∃ b49, r47 = some b49 ∧ (gK S48 b49 = 5 ∧ (∃ n131, wb_X2_reckonReach_131 post (wb_X2_reckonReach_102 post n) n131 v0 v2 (gV S48 5 b49 7) (0 : Int32) S48))) b44 v2 S42))))) b38 S)))
def wb_X2_reckonReach_94 (post : bS → Prop) (rec38 : Nat → Int32 → Int32 → bS → Prop) (v0 : Nat) (v1 : Int32) (v2 : Int32) (S : bS) : Prop := rec38 v0 v1 (v2 + (1 : Int32)) S
def wb_X2_reckonReach_38 (post : bS → Prop) : Nat → Nat → Int32 → Int32 → bS → Prop
  | 0, _, _, _, _ => False
  | n + 1, v0, v1, v2, S => gK S v0 = 4 ∧ (∃ b17, gQ S 4 v0 1 = some b17 ∧ (gK S b17 = 1 ∧ (wp_Jx4a65c_size_8abf5 (fun r20 S21 => (r20 ≤ v2 → ∃ n102, wb_X2_reckonReach_102 post n102 v0 (0 : Int32) S21) ∧ (¬ (r20 ≤ v2) → gK S21 v0 = 4 ∧ (∃ b23, gQ S21 4 v0 1 = some b23 ∧ (gK S21 b23 = 1 ∧ (wp_Jx4a65c_get_915e3 (fun r26 S27 => ∃ b28, r26 = some b28 ∧ (gK S27 b28 = 6 ∧ (((gV S27 6 b28 8) = (0 : Int32) → wb_X2_reckonReach_94 post (wb_X2_reckonReach_38 post n) v0 v1 v2 S27) ∧ (¬ ((gV S27 6 b28 8) = (0 : Int32)) → (v2 = v1 → wb_X2_reckonReach_94 post (wb_X2_reckonReach_38 post n) v0 v1 v2 S27) ∧ (¬ (v2 = v1) → ∃ b31, gQ S27 6 b28 1 = some b31 ∧ (gK S27 b31 = 5 ∧ (∃ b34, gQ S27 6 b28 2 = some b34 ∧ (gK S27 b34 = 5 ∧ (wb_X2_reckonReach_94 post (wb_X2_reckonReach_38 post n) v0 v1 v2 (sV S27 5 b31 7 ((gV S27 5 b31 7) ||| ((1 : Int32) <<< ((gV S27 5 b34 0) &&& 31))))))))))))) b23 v2 S21))))) b17 S)))
def wb_X2_reckonReach_2 (post : bS → Prop) : Nat → Nat → Int32 → Int32 → bS → Prop
  | 0, _, _, _, _ => False
  | n + 1, v0, v1, v2, S => gK S v0 = 4 ∧ (∃ b2, gQ S 4 v0 0 = some b2 ∧ (gK S b2 = 1 ∧ (wp_Jx4a65c_size_8abf5 (fun r5 S6 => (r5 ≤ v2 → ∃ n38, wb_X2_reckonReach_38 post n38 v0 v1 (0 : Int32) S6) ∧ (¬ (r5 ≤ v2) → gK S6 v0 = 4 ∧ (∃ b8, gQ S6 4 v0 0 = some b8 ∧ (gK S6 b8 = 1 ∧ (wp_Jx4a65c_get_915e3 (fun r11 S12 => ∃ b13, r11 = some b13 ∧ (gK S12 b13 = 5 ∧ ((wb_X2_reckonReach_2 post n) v0 v1 (v2 + (1 : Int32)) (sV S12 5 b13 7 ((1 : Int32) <<< (v2 &&& 31)))))) b8 v2 S6))))) b2 S)))
def wp_X2_reckonReach (post : bS → Prop) (this : Nat) (p1 : Int32) (S : bS) : Prop := ∃ n2, wb_X2_reckonReach_2 post n2 this p1 (0 : Int32) S
set_option maxHeartbeats 4000000 in
set_option maxRecDepth 100000 in
theorem m_X2_reckonReach {l : Launch} {D : va_G} {y : Nat → ClassId} {z : Nat} {A : Nat → Prop} {S : bS} {post : bS → Prop} {this : Nat} {p1 : Int32} (h : wp_X2_reckonReach post this p1 S) : Met l yX2_reckonReach wsX2_reckonReach ({ frames := 3, cells := 0, slots := 0, locals := 64 } : Room) (va_Pc ([Value.ref this, Value.int p1] : List Value) (bP D y z S A)) (va_Qv post (fun S' t => wd D y z S' A t.heap) A) 0 0 A := by
  refine Met.ofW (cc := cX2_reckonReach) (maxL := 6) (ret := none) (by decide) rfl ?_
  intro p e s m args below meth c s₁ B hml hv
  obtain ⟨rfl, hB⟩ := hv
  have hx := B.exec
  have hb := B.bytes
  have hr := B.returns
  have hts := atoms_spec (ws := wsX2_reckonReach) B.pre
  have hown : s.vm.findClass RX2 = some m.cls := findClass_of_methodNamed B.named
  have hlocks := B.notSynchronized
  have hw : wd D y z S A s.heap := hB.1
  have hK : va_K D bCl (bT y) s := hB.2.1
  have hNw := hB.2.2.1
  have hAn : ∀ q : Nat, s.heap.size ≤ q → A q := hB.2.2.2.1
  have hAz : ¬ A z := hB.2.2.2.2.1
  have hO := hB.2.2.2.2.2.1
  have hS : va_S A s.heap s.heap [] := va_S.rf
  have hiX2 : ∀ w ∈ u_ws RX2 TX2 2, w ∈ wsX2_reckonReach := by decide +kernel
  have hiX3 : ∀ w ∈ u_ws RX3 TX3 10, w ∈ wsX2_reckonReach := by decide +kernel
  have hiX4 : ∀ w ∈ u_ws RX4 TX4 11, w ∈ wsX2_reckonReach := by decide +kernel
  have hl := lv_entry ([Value.ref this, Value.int p1] : List Value) (n := 6) (Nat.le_of_ble_eq_true rfl)
  rw [lg_entry_eq]
  generalize (lg_sl ([Value.ref this, Value.int p1] : List Value) ++ List.replicate (6 - (lg_sl ([Value.ref this, Value.int p1] : List Value)).length) Slot.unset).toArray = ls at hl ⊢
  have hl : lv_has ls 6 [(0, .ref this), (1, .int p1)] := hl
  obtain ⟨Q, hQ⟩ : ∃ Q, Q = MQ below (va_Qv post (fun S' t => wd D y z S' A t.heap) A) (([Value.ref this, Value.int p1] : List Value).toArray) s 0 0 A := ⟨_, rfl⟩
  rw [← hQ]
  generalize hR : (headSpec wsX2_reckonReach ({ frames := 3, cells := 0, slots := 0, locals := 64 } : Room)).room = R
  have hRf : 3 ≤ R.frames := by rw [← hR]; exact Nat.le_refl _
  have hRl : 64 ≤ R.locals := by rw [← hR]; exact Nat.le_refl _
  have hret : ∀ (S : bS) (H : Heap) (locs : List Loc) (pc : Nat) (ls : Array Slot) , post S → wd D y z S A H → va_S A s.heap H locs → decode cX2_reckonReach pc = .ok (.return_, 1) → W p l e R s m (([Value.ref this, Value.int p1] : List Value).toArray) below meth c H locs 0 0 Q (F0 m pc ls []) := by
    intro S H locs pc ls h hw hS d0
    rw [hQ]; exact W.vret hx hb hr (fun t ht hW => ⟨⟨S, rfl, h, by show wd D y z S A t.heap; rw [ht]; exact hw⟩, hS.F ht⟩) hS.2.2 d0 hlocks
  have hB102 : ∀ (n102 : Nat) (S : bS) (H : Heap) (locs : List Loc) (ls : Array Slot) (v0 : Nat) (v2 : Int32), wb_X2_reckonReach_102 post n102 v0 v2 S → wd D y z S A H → va_S A s.heap H locs → lv_has ls 6 [(0, .ref v0), (2, .int v2)] → W p l e R s m (([Value.ref this, Value.int p1] : List Value).toArray) below meth c H locs 0 0 Q (F0 m 102 ls []) := by
    intro n102
    induction n102 with
    | zero =>
      intro S H locs ls v0 v2 h hw hS hl
      exact absurd h (by unfold wb_X2_reckonReach_102; exact id)
    | succ n102 ih102 =>
      have hB131 : ∀ (n131 : Nat) (S : bS) (H : Heap) (locs : List Loc) (ls : Array Slot) (v0 : Nat) (v2 : Int32) (v3 : Int32) (v4 : Int32), wb_X2_reckonReach_131 post (wb_X2_reckonReach_102 post n102) n131 v0 v2 v3 v4 S → wd D y z S A H → va_S A s.heap H locs → lv_has ls 6 [(0, .ref v0), (2, .int v2), (3, .int v3), (4, .int v4)] → W p l e R s m (([Value.ref this, Value.int p1] : List Value).toArray) below meth c H locs 0 0 Q (F0 m 131 ls []) := by
        intro n131
        induction n131 with
        | zero =>
          intro S H locs ls v0 v2 v3 v4 h hw hS hl
          exact absurd h (by unfold wb_X2_reckonReach_131; exact id)
        | succ n131 ih131 =>
          have hB180 : ∀ (S : bS) (H : Heap) (locs : List Loc) (ls : Array Slot) (v0 : Nat) (v2 : Int32) (v3 : Int32) (v4 : Int32), wb_X2_reckonReach_180 post (wb_X2_reckonReach_102 post n102) (wb_X2_reckonReach_131 post (wb_X2_reckonReach_102 post n102) n131) v0 v2 v3 v4 S → wd D y z S A H → va_S A s.heap H locs → lv_has ls 6 [(0, .ref v0), (2, .int v2), (3, .int v3), (4, .int v4)] → W p l e R s m (([Value.ref this, Value.int p1] : List Value).toArray) below meth c H locs 0 0 Q (F0 m 180 ls []) := by
            intro S H locs ls v0 v2 v3 v4 h hw hS hl
            unfold wb_X2_reckonReach_180 at h
            refine lv_iinc (v := (v4 + (1 : Int32))) hx hb dX2_reckonReach_180 hl (k := 3) rfl rfl (by decide) rfl (fun ls hl => ?_)
            have hl : lv_has ls 6 [(4, .int (v4 + (1 : Int32))), (0, .ref v0), (2, .int v2), (3, .int v3)] := hl
            refine lv_goto (tgt := 131) hx hb dX2_reckonReach_183 (by decide) ?_
            exact ih131 _ _ _ _ _ _ _ _ h hw hS (lv_sub hl [1, 2, 3, 0] rfl)
          intro S H locs ls v0 v2 v3 v4 h hw hS hl
          unfold wb_X2_reckonReach_131 at h
          refine lv_iload hx hb dX2_reckonReach_131 (lv_at hl 3 rfl) ?_
          refine lv_aload_n hx hb dX2_reckonReach_133 rfl (lv_at hl 0 rfl) ?_
          obtain ⟨hk52, h⟩ := h
          obtain ⟨b53, hb54, h⟩ := h
          refine r_get (ci := 3) (v := .ref b53) (C := RX2) (T := TX2) (N := 2) hx hb hts hiX2 hown hK hw (ce_4 (S := S) hk52) rfl 0 (by decide) (hts (.fieldLink RX2 12 "TubePost$Net" "stations" "Ljava/util/ArrayList;") (by decide +kernel)) (fun _ h9 => h9) (congrArg (fun q => some (va_rf q)) hb54) dX2_reckonReach_134 ?_
          obtain ⟨hk55, h⟩ := h
          have h1 := h
          refine va_calli (va_runV (As := []) (rest := [.int v4]) ⟨hx, hb, hml, hown, hts⟩ (m_Jx4a65c_size_8abf5 (l := l) h1) (cwV 0 hts gX2_reckonReach_Jx4a65c_size_8abf5 rfl rfl rfl (by decide +kernel) ⟨Nat.le_trans (Nat.le_of_ble_eq_true rfl) hRf, Nat.le_trans (Nat.le_of_ble_eq_true rfl) hRl⟩) (r_pV hB hw hS (ce_1 (S := S) hk55) rfl) rfl rfl hl.1 rfl (lv_room (Nat.le_of_ble_eq_true rfl)) dX2_reckonReach_137 ⟨Nat.zero_le _, Nat.zero_le _⟩) hS (fun _ _ h => h) (fun _ h => h) (fun r56 S57 t H1 locs ht _ h hw1 _ _ hS => ?_)
          subst ht
          have hw : wd D y z S57 A t.heap := hw1
          clear hw1 h1
          refine lv_icmp_ge (tgt := 186) hx hb dX2_reckonReach_140 (by decide) (fun hc => ?_) (fun hc => ?_)
          · have h := h.1 hc
            refine lv_iinc (v := (v2 + (1 : Int32))) hx hb dX2_reckonReach_186 hl (k := 1) rfl rfl (by decide) rfl (fun ls hl => ?_)
            have hl : lv_has ls 6 [(2, .int (v2 + (1 : Int32))), (0, .ref v0), (3, .int v3), (4, .int v4)] := hl
            refine lv_goto (tgt := 102) hx hb dX2_reckonReach_189 (by decide) ?_
            exact ih102 _ _ _ _ _ _ h hw hS (lv_sub hl [1, 0] rfl)
          · have h := h.2 hc
            refine lv_aload_n hx hb dX2_reckonReach_143 rfl (lv_at hl 0 rfl) ?_
            obtain ⟨hk58, h⟩ := h
            obtain ⟨b59, hb60, h⟩ := h
            refine r_get (ci := 3) (v := .ref b59) (C := RX2) (T := TX2) (N := 2) hx hb hts hiX2 hown hK hw (ce_4 (S := S57) hk58) rfl 0 (by decide) (hts (.fieldLink RX2 12 "TubePost$Net" "stations" "Ljava/util/ArrayList;") (by decide +kernel)) (fun _ h9 => h9) (congrArg (fun q => some (va_rf q)) hb60) dX2_reckonReach_144 ?_
            refine lv_iload hx hb dX2_reckonReach_147 (lv_at hl 3 rfl) ?_
            obtain ⟨hk61, h⟩ := h
            have h1 := h
            refine va_callq (va_runV (As := [.int v4]) (rest := []) ⟨hx, hb, hml, hown, hts⟩ (m_Jx4a65c_get_915e3 (l := l) h1) (cwV 1 hts gX2_reckonReach_Jx4a65c_get_915e3 rfl rfl rfl (by decide +kernel) ⟨Nat.le_trans (Nat.le_of_ble_eq_true rfl) hRf, Nat.le_trans (Nat.le_of_ble_eq_true rfl) hRl⟩) (r_pV hB hw hS (ce_1 (S := S57) hk61) rfl) rfl rfl hl.1 rfl (lv_room (Nat.le_of_ble_eq_true rfl)) dX2_reckonReach_149 ⟨Nat.zero_le _, Nat.zero_le _⟩) hS (fun _ _ h => h) (fun _ h => h) (fun r62 S63 t H1 locs ht _ h hw1 _ _ hS => ?_)
            subst ht
            have hw : wd D y z S63 A t.heap := hw1
            clear hw1 h1
            obtain ⟨b64, rfl, h⟩ := h
            refine W.eq (g2 := F0 m 152 ls [.ref b64]) rfl ?_
            obtain ⟨hk66, h⟩ := h
            refine r_cast hx hb hown (hts (.classLink RX2 21 "TubePost$Station") (by decide +kernel)) hK hw (ce_5 hk66) rfl dX2_reckonReach_152 ?_
            refine lv_astore hx hb dX2_reckonReach_155 hl (by decide) rfl (fun ls hl => ?_)
            have hl : lv_has ls 6 [(5, .ref b64), (0, .ref v0), (2, .int v2), (3, .int v3), (4, .int v4)] := hl
            refine lv_aload hx hb dX2_reckonReach_157 (lv_at hl 0 rfl) ?_
            refine r_getN (ci := 4) (v := .int (gV S63 5 b64 7)) (C := RX3) (T := TX3) (N := 10) hx hb hts hiX3 hown hK hw (ce_5 (S := S63) hk66) rfl 7 (by decide) (hNw _ (bNw_44)) (fun _ h9 => h9) rfl dX2_reckonReach_159 ?_
            refine lv_iconst (v := (1 : Int32)) hx hb dX2_reckonReach_162 (by decide) ?_
            refine lv_iload_n hx hb dX2_reckonReach_163 rfl (lv_at hl 2 rfl) ?_
            refine lv_ishl hx hb dX2_reckonReach_164 ?_
            refine lv_iand hx hb dX2_reckonReach_165 ?_
            refine lv_if_eq (tgt := 180) hx hb dX2_reckonReach_166 (by decide) (fun hc => ?_) (fun hc => ?_)
            · have h := h.1 hc
              exact hB180 _ _ _ _ _ _ _ _ h hw hS (lv_sub hl [1, 2, 3, 4] rfl)
            · have h := h.2 hc
              refine lv_aload hx hb dX2_reckonReach_169 (lv_at hl 0 rfl) ?_
              refine lv_dup hx hb dX2_reckonReach_171 rfl ?_
              refine r_getN (ci := 4) (v := .int (gV S63 5 b64 7)) (C := RX3) (T := TX3) (N := 10) hx hb hts hiX3 hown hK hw (ce_5 (S := S63) hk66) rfl 7 (by decide) (hNw _ (bNw_44)) (fun _ h9 => h9) rfl dX2_reckonReach_172 ?_
              refine lv_iload_n hx hb dX2_reckonReach_175 rfl (lv_at hl 3 rfl) ?_
              refine lv_ior hx hb dX2_reckonReach_176 ?_
              refine r_putIN (κ := 5) (ci := 4) (C := RX3) (T := TX3) (N := 10) (ty := .int) (x := ((gV S63 5 b64 7) ||| v3)) hx hb hts hiX3 tyX3 tyX3_ok nmX3 hown hK hw hS (ce_5 (S := S63) hk66) rfl 7 (by decide) (hNw _ (bNw_44)) (fun _ h9 => h9) rfl (by decide +kernel) rfl rfl (Nat.le_of_ble_eq_true rfl) (pu_5_7 (S := S63) hk66) dX2_reckonReach_177 (fun H locs hw hS => ?_)
              exact hB180 _ _ _ _ _ _ _ _ h hw hS (lv_sub hl [1, 2, 3, 4] rfl)
      intro S H locs ls v0 v2 h hw hS hl
      unfold wb_X2_reckonReach_102 at h
      refine lv_iload_n hx hb dX2_reckonReach_102 rfl (lv_at hl 1 rfl) ?_
      refine lv_aload_n hx hb dX2_reckonReach_103 rfl (lv_at hl 0 rfl) ?_
      obtain ⟨hk37, h⟩ := h
      obtain ⟨b38, hb39, h⟩ := h
      refine r_get (ci := 3) (v := .ref b38) (C := RX2) (T := TX2) (N := 2) hx hb hts hiX2 hown hK hw (ce_4 (S := S) hk37) rfl 0 (by decide) (hts (.fieldLink RX2 12 "TubePost$Net" "stations" "Ljava/util/ArrayList;") (by decide +kernel)) (fun _ h9 => h9) (congrArg (fun q => some (va_rf q)) hb39) dX2_reckonReach_104 ?_
      obtain ⟨hk40, h⟩ := h
      have h1 := h
      refine va_calli (va_runV (As := []) (rest := [.int v2]) ⟨hx, hb, hml, hown, hts⟩ (m_Jx4a65c_size_8abf5 (l := l) h1) (cwV 0 hts gX2_reckonReach_Jx4a65c_size_8abf5 rfl rfl rfl (by decide +kernel) ⟨Nat.le_trans (Nat.le_of_ble_eq_true rfl) hRf, Nat.le_trans (Nat.le_of_ble_eq_true rfl) hRl⟩) (r_pV hB hw hS (ce_1 (S := S) hk40) rfl) rfl rfl hl.1 rfl (lv_room (Nat.le_of_ble_eq_true rfl)) dX2_reckonReach_107 ⟨Nat.zero_le _, Nat.zero_le _⟩) hS (fun _ _ h => h) (fun _ h => h) (fun r41 S42 t H1 locs ht _ h hw1 _ _ hS => ?_)
      subst ht
      have hw : wd D y z S42 A t.heap := hw1
      clear hw1 h1
      refine lv_icmp_ge (tgt := 192) hx hb dX2_reckonReach_110 (by decide) (fun hc => ?_) (fun hc => ?_)
      · have h := h.1 hc
        exact hret _ _ _ _ _ h hw hS dX2_reckonReach_192
      · have h := h.2 hc
        refine lv_aload_n hx hb dX2_reckonReach_113 rfl (lv_at hl 0 rfl) ?_
        obtain ⟨hk43, h⟩ := h
        obtain ⟨b44, hb45, h⟩ := h
        refine r_get (ci := 3) (v := .ref b44) (C := RX2) (T := TX2) (N := 2) hx hb hts hiX2 hown hK hw (ce_4 (S := S42) hk43) rfl 0 (by decide) (hts (.fieldLink RX2 12 "TubePost$Net" "stations" "Ljava/util/ArrayList;") (by decide +kernel)) (fun _ h9 => h9) (congrArg (fun q => some (va_rf q)) hb45) dX2_reckonReach_114 ?_
        refine lv_iload_n hx hb dX2_reckonReach_117 rfl (lv_at hl 1 rfl) ?_
        obtain ⟨hk46, h⟩ := h
        have h1 := h
        refine va_callq (va_runV (As := [.int v2]) (rest := []) ⟨hx, hb, hml, hown, hts⟩ (m_Jx4a65c_get_915e3 (l := l) h1) (cwV 1 hts gX2_reckonReach_Jx4a65c_get_915e3 rfl rfl rfl (by decide +kernel) ⟨Nat.le_trans (Nat.le_of_ble_eq_true rfl) hRf, Nat.le_trans (Nat.le_of_ble_eq_true rfl) hRl⟩) (r_pV hB hw hS (ce_1 (S := S42) hk46) rfl) rfl rfl hl.1 rfl (lv_room (Nat.le_of_ble_eq_true rfl)) dX2_reckonReach_118 ⟨Nat.zero_le _, Nat.zero_le _⟩) hS (fun _ _ h => h) (fun _ h => h) (fun r47 S48 t H1 locs ht _ h hw1 _ _ hS => ?_)
        subst ht
        have hw : wd D y z S48 A t.heap := hw1
        clear hw1 h1
        obtain ⟨b49, rfl, h⟩ := h
        refine W.eq (g2 := F0 m 121 ls [.ref b49]) rfl ?_
        obtain ⟨hk51, h⟩ := h
        refine r_cast hx hb hown (hts (.classLink RX2 21 "TubePost$Station") (by decide +kernel)) hK hw (ce_5 hk51) rfl dX2_reckonReach_121 ?_
        refine r_getN (ci := 4) (v := .int (gV S48 5 b49 7)) (C := RX3) (T := TX3) (N := 10) hx hb hts hiX3 hown hK hw (ce_5 (S := S48) hk51) rfl 7 (by decide) (hNw _ (bNw_44)) (fun _ h9 => h9) rfl dX2_reckonReach_124 ?_
        refine lv_istore_n hx hb dX2_reckonReach_127 rfl hl (by decide) rfl (fun ls hl => ?_)
        have hl : lv_has ls 6 [(3, .int (gV S48 5 b49 7)), (0, .ref v0), (2, .int v2)] := hl
        refine lv_iconst (v := (0 : Int32)) hx hb dX2_reckonReach_128 (by decide) ?_
        refine lv_istore hx hb dX2_reckonReach_129 hl (by decide) rfl (fun ls hl => ?_)
        have hl : lv_has ls 6 [(4, .int (0 : Int32)), (3, .int (gV S48 5 b49 7)), (0, .ref v0), (2, .int v2)] := hl
        obtain ⟨n131, h⟩ := h
        exact hB131 n131 _ _ _ _ _ _ _ _ h hw hS (lv_sub hl [2, 3, 1, 0] rfl)
  have hB38 : ∀ (n38 : Nat) (S : bS) (H : Heap) (locs : List Loc) (ls : Array Slot) (v0 : Nat) (v1 : Int32) (v2 : Int32), wb_X2_reckonReach_38 post n38 v0 v1 v2 S → wd D y z S A H → va_S A s.heap H locs → lv_has ls 6 [(0, .ref v0), (1, .int v1), (2, .int v2)] → W p l e R s m (([Value.ref this, Value.int p1] : List Value).toArray) below meth c H locs 0 0 Q (F0 m 38 ls []) := by
    intro n38
    induction n38 with
    | zero =>
      intro S H locs ls v0 v1 v2 h hw hS hl
      exact absurd h (by unfold wb_X2_reckonReach_38; exact id)
    | succ n38 ih38 =>
      have hB94 : ∀ (S : bS) (H : Heap) (locs : List Loc) (ls : Array Slot) (v0 : Nat) (v1 : Int32) (v2 : Int32), wb_X2_reckonReach_94 post (wb_X2_reckonReach_38 post n38) v0 v1 v2 S → wd D y z S A H → va_S A s.heap H locs → lv_has ls 6 [(0, .ref v0), (1, .int v1), (2, .int v2)] → W p l e R s m (([Value.ref this, Value.int p1] : List Value).toArray) below meth c H locs 0 0 Q (F0 m 94 ls []) := by
        intro S H locs ls v0 v1 v2 h hw hS hl
        unfold wb_X2_reckonReach_94 at h
        refine lv_iinc (v := (v2 + (1 : Int32))) hx hb dX2_reckonReach_94 hl (k := 2) rfl rfl (by decide) rfl (fun ls hl => ?_)
        have hl : lv_has ls 6 [(2, .int (v2 + (1 : Int32))), (0, .ref v0), (1, .int v1)] := hl
        refine lv_goto (tgt := 38) hx hb dX2_reckonReach_97 (by decide) ?_
        exact ih38 _ _ _ _ _ _ _ h hw hS (lv_sub hl [1, 2, 0] rfl)
      intro S H locs ls v0 v1 v2 h hw hS hl
      unfold wb_X2_reckonReach_38 at h
      refine lv_iload_n hx hb dX2_reckonReach_38 rfl (lv_at hl 2 rfl) ?_
      refine lv_aload_n hx hb dX2_reckonReach_39 rfl (lv_at hl 0 rfl) ?_
      obtain ⟨hk16, h⟩ := h
      obtain ⟨b17, hb18, h⟩ := h
      refine r_get (ci := 3) (v := .ref b17) (C := RX2) (T := TX2) (N := 2) hx hb hts hiX2 hown hK hw (ce_4 (S := S) hk16) rfl 1 (by decide) (hts (.fieldLink RX2 18 "TubePost$Net" "tubes" "Ljava/util/ArrayList;") (by decide +kernel)) (fun _ h9 => h9) (congrArg (fun q => some (va_rf q)) hb18) dX2_reckonReach_40 ?_
      obtain ⟨hk19, h⟩ := h
      have h1 := h
      refine va_calli (va_runV (As := []) (rest := [.int v2]) ⟨hx, hb, hml, hown, hts⟩ (m_Jx4a65c_size_8abf5 (l := l) h1) (cwV 0 hts gX2_reckonReach_Jx4a65c_size_8abf5 rfl rfl rfl (by decide +kernel) ⟨Nat.le_trans (Nat.le_of_ble_eq_true rfl) hRf, Nat.le_trans (Nat.le_of_ble_eq_true rfl) hRl⟩) (r_pV hB hw hS (ce_1 (S := S) hk19) rfl) rfl rfl hl.1 rfl (lv_room (Nat.le_of_ble_eq_true rfl)) dX2_reckonReach_43 ⟨Nat.zero_le _, Nat.zero_le _⟩) hS (fun _ _ h => h) (fun _ h => h) (fun r20 S21 t H1 locs ht _ h hw1 _ _ hS => ?_)
      subst ht
      have hw : wd D y z S21 A t.heap := hw1
      clear hw1 h1
      refine lv_icmp_ge (tgt := 100) hx hb dX2_reckonReach_46 (by decide) (fun hc => ?_) (fun hc => ?_)
      · have h := h.1 hc
        refine lv_iconst (v := (0 : Int32)) hx hb dX2_reckonReach_100 (by decide) ?_
        refine lv_istore_n hx hb dX2_reckonReach_101 rfl hl (by decide) rfl (fun ls hl => ?_)
        have hl : lv_has ls 6 [(2, .int (0 : Int32)), (0, .ref v0), (1, .int v1)] := hl
        obtain ⟨n102, h⟩ := h
        exact hB102 n102 _ _ _ _ _ _ h hw hS (lv_sub hl [1, 0] rfl)
      · have h := h.2 hc
        refine lv_aload_n hx hb dX2_reckonReach_49 rfl (lv_at hl 0 rfl) ?_
        obtain ⟨hk22, h⟩ := h
        obtain ⟨b23, hb24, h⟩ := h
        refine r_get (ci := 3) (v := .ref b23) (C := RX2) (T := TX2) (N := 2) hx hb hts hiX2 hown hK hw (ce_4 (S := S21) hk22) rfl 1 (by decide) (hts (.fieldLink RX2 18 "TubePost$Net" "tubes" "Ljava/util/ArrayList;") (by decide +kernel)) (fun _ h9 => h9) (congrArg (fun q => some (va_rf q)) hb24) dX2_reckonReach_50 ?_
        refine lv_iload_n hx hb dX2_reckonReach_53 rfl (lv_at hl 2 rfl) ?_
        obtain ⟨hk25, h⟩ := h
        have h1 := h
        refine va_callq (va_runV (As := [.int v2]) (rest := []) ⟨hx, hb, hml, hown, hts⟩ (m_Jx4a65c_get_915e3 (l := l) h1) (cwV 1 hts gX2_reckonReach_Jx4a65c_get_915e3 rfl rfl rfl (by decide +kernel) ⟨Nat.le_trans (Nat.le_of_ble_eq_true rfl) hRf, Nat.le_trans (Nat.le_of_ble_eq_true rfl) hRl⟩) (r_pV hB hw hS (ce_1 (S := S21) hk25) rfl) rfl rfl hl.1 rfl (lv_room (Nat.le_of_ble_eq_true rfl)) dX2_reckonReach_54 ⟨Nat.zero_le _, Nat.zero_le _⟩) hS (fun _ _ h => h) (fun _ h => h) (fun r26 S27 t H1 locs ht _ h hw1 _ _ hS => ?_)
        subst ht
        have hw : wd D y z S27 A t.heap := hw1
        clear hw1 h1
        obtain ⟨b28, rfl, h⟩ := h
        refine W.eq (g2 := F0 m 57 ls [.ref b28]) rfl ?_
        obtain ⟨hk30, h⟩ := h
        refine r_cast hx hb hown (hts (.classLink RX2 37 "TubePost$Tube") (by decide +kernel)) hK hw (ce_6 hk30) rfl dX2_reckonReach_57 ?_
        refine lv_astore_n hx hb dX2_reckonReach_60 rfl hl (by decide) rfl (fun ls hl => ?_)
        have hl : lv_has ls 6 [(3, .ref b28), (0, .ref v0), (1, .int v1), (2, .int v2)] := hl
        refine lv_aload_n hx hb dX2_reckonReach_61 rfl (lv_at hl 0 rfl) ?_
        refine r_getN (ci := 5) (v := .int (gV S27 6 b28 8)) (C := RX4) (T := TX4) (N := 11) hx hb hts hiX4 hown hK hw (ce_6 (S := S27) hk30) rfl 8 (by decide) (hNw _ (bNw_36)) (fun _ h9 => h9) rfl dX2_reckonReach_62 ?_
        refine lv_if_eq (tgt := 94) hx hb dX2_reckonReach_65 (by decide) (fun hc => ?_) (fun hc => ?_)
        · have h := h.1 hc
          exact hB94 _ _ _ _ _ _ _ h hw hS (lv_sub hl [1, 2, 3] rfl)
        · have h := h.2 hc
          refine lv_iload_n hx hb dX2_reckonReach_68 rfl (lv_at hl 3 rfl) ?_
          refine lv_iload_n hx hb dX2_reckonReach_69 rfl (lv_at hl 2 rfl) ?_
          refine lv_icmp_eq (tgt := 94) hx hb dX2_reckonReach_70 (by decide) (fun hc => ?_) (fun hc => ?_)
          · have h := h.1 hc
            exact hB94 _ _ _ _ _ _ _ h hw hS (lv_sub hl [1, 2, 3] rfl)
          · have h := h.2 hc
            refine lv_aload_n hx hb dX2_reckonReach_73 rfl (lv_at hl 0 rfl) ?_
            obtain ⟨b31, hb32, h⟩ := h
            refine r_getN (ci := 5) (v := .ref b31) (C := RX4) (T := TX4) (N := 11) hx hb hts hiX4 hown hK hw (ce_6 (S := S27) hk30) rfl 1 (by decide) (hNw _ (bNw_41)) (fun _ h9 => h9) (congrArg (fun q => some (va_rf q)) hb32) dX2_reckonReach_74 ?_
            refine lv_dup hx hb dX2_reckonReach_77 rfl ?_
            obtain ⟨hk33, h⟩ := h
            refine r_getN (ci := 4) (v := .int (gV S27 5 b31 7)) (C := RX3) (T := TX3) (N := 10) hx hb hts hiX3 hown hK hw (ce_5 (S := S27) hk33) rfl 7 (by decide) (hNw _ (bNw_44)) (fun _ h9 => h9) rfl dX2_reckonReach_78 ?_
            refine lv_iconst (v := (1 : Int32)) hx hb dX2_reckonReach_81 (by decide) ?_
            refine lv_aload_n hx hb dX2_reckonReach_82 rfl (lv_at hl 0 rfl) ?_
            obtain ⟨b34, hb35, h⟩ := h
            refine r_getN (ci := 5) (v := .ref b34) (C := RX4) (T := TX4) (N := 11) hx hb hts hiX4 hown hK hw (ce_6 (S := S27) hk30) rfl 2 (by decide) (hNw _ (bNw_39)) (fun _ h9 => h9) (congrArg (fun q => some (va_rf q)) hb35) dX2_reckonReach_83 ?_
            obtain ⟨hk36, h⟩ := h
            refine r_getN (ci := 4) (v := .int (gV S27 5 b34 0)) (C := RX3) (T := TX3) (N := 10) hx hb hts hiX3 hown hK hw (ce_5 (S := S27) hk36) rfl 0 (by decide) (hNw _ (bNw_45)) (fun _ h9 => h9) rfl dX2_reckonReach_86 ?_
            refine lv_ishl hx hb dX2_reckonReach_89 ?_
            refine lv_ior hx hb dX2_reckonReach_90 ?_
            refine r_putIN (κ := 5) (ci := 4) (C := RX3) (T := TX3) (N := 10) (ty := .int) (x := ((gV S27 5 b31 7) ||| ((1 : Int32) <<< ((gV S27 5 b34 0) &&& 31)))) hx hb hts hiX3 tyX3 tyX3_ok nmX3 hown hK hw hS (ce_5 (S := S27) hk33) rfl 7 (by decide) (hNw _ (bNw_44)) (fun _ h9 => h9) rfl (by decide +kernel) rfl rfl (Nat.le_of_ble_eq_true rfl) (pu_5_7 (S := S27) hk33) dX2_reckonReach_91 (fun H locs hw hS => ?_)
            exact hB94 _ _ _ _ _ _ _ h hw hS (lv_sub hl [1, 2, 3] rfl)
  have hB2 : ∀ (n2 : Nat) (S : bS) (H : Heap) (locs : List Loc) (ls : Array Slot) (v0 : Nat) (v1 : Int32) (v2 : Int32), wb_X2_reckonReach_2 post n2 v0 v1 v2 S → wd D y z S A H → va_S A s.heap H locs → lv_has ls 6 [(0, .ref v0), (1, .int v1), (2, .int v2)] → W p l e R s m (([Value.ref this, Value.int p1] : List Value).toArray) below meth c H locs 0 0 Q (F0 m 2 ls []) := by
    intro n2
    induction n2 with
    | zero =>
      intro S H locs ls v0 v1 v2 h hw hS hl
      exact absurd h (by unfold wb_X2_reckonReach_2; exact id)
    | succ n2 ih2 =>
      intro S H locs ls v0 v1 v2 h hw hS hl
      unfold wb_X2_reckonReach_2 at h
      refine lv_iload_n hx hb dX2_reckonReach_2 rfl (lv_at hl 2 rfl) ?_
      refine lv_aload_n hx hb dX2_reckonReach_3 rfl (lv_at hl 0 rfl) ?_
      obtain ⟨hk1, h⟩ := h
      obtain ⟨b2, hb3, h⟩ := h
      refine r_get (ci := 3) (v := .ref b2) (C := RX2) (T := TX2) (N := 2) hx hb hts hiX2 hown hK hw (ce_4 (S := S) hk1) rfl 0 (by decide) (hts (.fieldLink RX2 12 "TubePost$Net" "stations" "Ljava/util/ArrayList;") (by decide +kernel)) (fun _ h9 => h9) (congrArg (fun q => some (va_rf q)) hb3) dX2_reckonReach_4 ?_
      obtain ⟨hk4, h⟩ := h
      have h1 := h
      refine va_calli (va_runV (As := []) (rest := [.int v2]) ⟨hx, hb, hml, hown, hts⟩ (m_Jx4a65c_size_8abf5 (l := l) h1) (cwV 0 hts gX2_reckonReach_Jx4a65c_size_8abf5 rfl rfl rfl (by decide +kernel) ⟨Nat.le_trans (Nat.le_of_ble_eq_true rfl) hRf, Nat.le_trans (Nat.le_of_ble_eq_true rfl) hRl⟩) (r_pV hB hw hS (ce_1 (S := S) hk4) rfl) rfl rfl hl.1 rfl (lv_room (Nat.le_of_ble_eq_true rfl)) dX2_reckonReach_7 ⟨Nat.zero_le _, Nat.zero_le _⟩) hS (fun _ _ h => h) (fun _ h => h) (fun r5 S6 t H1 locs ht _ h hw1 _ _ hS => ?_)
      subst ht
      have hw : wd D y z S6 A t.heap := hw1
      clear hw1 h1
      refine lv_icmp_ge (tgt := 36) hx hb dX2_reckonReach_10 (by decide) (fun hc => ?_) (fun hc => ?_)
      · have h := h.1 hc
        refine lv_iconst (v := (0 : Int32)) hx hb dX2_reckonReach_36 (by decide) ?_
        refine lv_istore_n hx hb dX2_reckonReach_37 rfl hl (by decide) rfl (fun ls hl => ?_)
        have hl : lv_has ls 6 [(2, .int (0 : Int32)), (0, .ref v0), (1, .int v1)] := hl
        obtain ⟨n38, h⟩ := h
        exact hB38 n38 _ _ _ _ _ _ _ h hw hS (lv_sub hl [1, 2, 0] rfl)
      · have h := h.2 hc
        refine lv_aload_n hx hb dX2_reckonReach_13 rfl (lv_at hl 0 rfl) ?_
        obtain ⟨hk7, h⟩ := h
        obtain ⟨b8, hb9, h⟩ := h
        refine r_get (ci := 3) (v := .ref b8) (C := RX2) (T := TX2) (N := 2) hx hb hts hiX2 hown hK hw (ce_4 (S := S6) hk7) rfl 0 (by decide) (hts (.fieldLink RX2 12 "TubePost$Net" "stations" "Ljava/util/ArrayList;") (by decide +kernel)) (fun _ h9 => h9) (congrArg (fun q => some (va_rf q)) hb9) dX2_reckonReach_14 ?_
        refine lv_iload_n hx hb dX2_reckonReach_17 rfl (lv_at hl 2 rfl) ?_
        obtain ⟨hk10, h⟩ := h
        have h1 := h
        refine va_callq (va_runV (As := [.int v2]) (rest := []) ⟨hx, hb, hml, hown, hts⟩ (m_Jx4a65c_get_915e3 (l := l) h1) (cwV 1 hts gX2_reckonReach_Jx4a65c_get_915e3 rfl rfl rfl (by decide +kernel) ⟨Nat.le_trans (Nat.le_of_ble_eq_true rfl) hRf, Nat.le_trans (Nat.le_of_ble_eq_true rfl) hRl⟩) (r_pV hB hw hS (ce_1 (S := S6) hk10) rfl) rfl rfl hl.1 rfl (lv_room (Nat.le_of_ble_eq_true rfl)) dX2_reckonReach_18 ⟨Nat.zero_le _, Nat.zero_le _⟩) hS (fun _ _ h => h) (fun _ h => h) (fun r11 S12 t H1 locs ht _ h hw1 _ _ hS => ?_)
        subst ht
        have hw : wd D y z S12 A t.heap := hw1
        clear hw1 h1
        obtain ⟨b13, rfl, h⟩ := h
        refine W.eq (g2 := F0 m 21 ls [.ref b13]) rfl ?_
        obtain ⟨hk15, h⟩ := h
        refine r_cast hx hb hown (hts (.classLink RX2 21 "TubePost$Station") (by decide +kernel)) hK hw (ce_5 hk15) rfl dX2_reckonReach_21 ?_
        refine lv_iconst (v := (1 : Int32)) hx hb dX2_reckonReach_24 (by decide) ?_
        refine lv_iload_n hx hb dX2_reckonReach_25 rfl (lv_at hl 2 rfl) ?_
        refine lv_ishl hx hb dX2_reckonReach_26 ?_
        refine r_putIN (κ := 5) (ci := 4) (C := RX3) (T := TX3) (N := 10) (ty := .int) (x := ((1 : Int32) <<< (v2 &&& 31))) hx hb hts hiX3 tyX3 tyX3_ok nmX3 hown hK hw hS (ce_5 (S := S12) hk15) rfl 7 (by decide) (hNw _ (bNw_44)) (fun _ h9 => h9) rfl (by decide +kernel) rfl rfl (Nat.le_of_ble_eq_true rfl) (pu_5_7 (S := S12) hk15) dX2_reckonReach_27 (fun H locs hw hS => ?_)
        refine lv_iinc (v := (v2 + (1 : Int32))) hx hb dX2_reckonReach_30 hl (k := 2) rfl rfl (by decide) rfl (fun ls hl => ?_)
        have hl : lv_has ls 6 [(2, .int (v2 + (1 : Int32))), (0, .ref v0), (1, .int v1)] := hl
        refine lv_goto (tgt := 2) hx hb dX2_reckonReach_33 (by decide) ?_
        exact ih2 _ _ _ _ _ _ _ h hw hS (lv_sub hl [1, 2, 0] rfl)
  unfold wp_X2_reckonReach at h
  refine lv_iconst (v := (0 : Int32)) hx hb dX2_reckonReach_0 (by decide) ?_
  refine lv_istore_n hx hb dX2_reckonReach_1 rfl hl (by decide) rfl (fun ls hl => ?_)
  have hl : lv_has ls 6 [(2, .int (0 : Int32)), (0, .ref this), (1, .int p1)] := hl
  obtain ⟨n2, h⟩ := h
  exact hB2 n2 _ _ _ _ _ _ _ h hw hS (lv_sub hl [1, 2, 0] rfl)
def wb_X2_pairsWithAWay_9 (post : Int32 → bS → Prop) : Nat → Nat → Int32 → Int32 → bS → Prop
  | 0, _, _, _, _ => False
  | n + 1, v0, v2, v3, S => gK S v0 = 4 ∧ (∃ b5, gQ S 4 v0 0 = some b5 ∧ (gK S b5 = 1 ∧ (wp_Jx4a65c_size_8abf5 (fun r8 S9 => (r8 ≤ v3 → post v2 S9) ∧ (¬ (r8 ≤ v3) → gK S9 v0 = 4 ∧ (∃ b11, gQ S9 4 v0 0 = some b11 ∧ (gK S9 b11 = 1 ∧ (wp_Jx4a65c_get_915e3 (fun r14 S15 => ∃ b16, r14 = some b16 ∧ (gK S15 b16 = 5 ∧ (wp_J6_bitCount_0f7a4 (fun r19 S20 => (wb_X2_pairsWithAWay_9 post n) v0 (v2 + r19) (v3 + (1 : Int32)) S20) (gV S15 5 b16 7) S15))) b11 v3 S9))))) b5 S)))
def wp_X2_pairsWithAWay (post : Int32 → bS → Prop) (this : Nat) (p1 : Int32) (S : bS) : Prop := gK S this = 4 ∧ (wp_X2_reckonReach (fun S3 => ∃ n9, wb_X2_pairsWithAWay_9 post n9 this (0 : Int32) (0 : Int32) S3) this p1 S)
set_option maxHeartbeats 4000000 in
set_option maxRecDepth 100000 in
theorem m_X2_pairsWithAWay {l : Launch} {D : va_G} {y : Nat → ClassId} {z : Nat} {A : Nat → Prop} {S : bS} {post : Int32 → bS → Prop} {this : Nat} {p1 : Int32} (h : wp_X2_pairsWithAWay post this p1 S) : Met l yX2_pairsWithAWay wsX2_pairsWithAWay ({ frames := 4, cells := 0, slots := 0, locals := 89 } : Room) (va_Pc ([Value.ref this, Value.int p1] : List Value) (bP D y z S A)) (va_Qi post (fun S' t => wd D y z S' A t.heap) A) 0 0 A := by
  refine Met.ofW (cc := cX2_pairsWithAWay) (maxL := 4) (ret := (some .int)) (by decide) rfl ?_
  intro p e s m args below meth c s₁ B hml hv
  obtain ⟨rfl, hB⟩ := hv
  have hx := B.exec
  have hb := B.bytes
  have hr := B.returns
  have hts := atoms_spec (ws := wsX2_pairsWithAWay) B.pre
  have hown : s.vm.findClass RX2 = some m.cls := findClass_of_methodNamed B.named
  have hlocks := B.notSynchronized
  have hw : wd D y z S A s.heap := hB.1
  have hK : va_K D bCl (bT y) s := hB.2.1
  have hNw := hB.2.2.1
  have hAn : ∀ q : Nat, s.heap.size ≤ q → A q := hB.2.2.2.1
  have hAz : ¬ A z := hB.2.2.2.2.1
  have hO := hB.2.2.2.2.2.1
  have hS : va_S A s.heap s.heap [] := va_S.rf
  have hiX2 : ∀ w ∈ u_ws RX2 TX2 2, w ∈ wsX2_pairsWithAWay := by decide +kernel
  have hiX3 : ∀ w ∈ u_ws RX3 TX3 10, w ∈ wsX2_pairsWithAWay := by decide +kernel
  have hl := lv_entry ([Value.ref this, Value.int p1] : List Value) (n := 4) (Nat.le_of_ble_eq_true rfl)
  rw [lg_entry_eq]
  generalize (lg_sl ([Value.ref this, Value.int p1] : List Value) ++ List.replicate (4 - (lg_sl ([Value.ref this, Value.int p1] : List Value)).length) Slot.unset).toArray = ls at hl ⊢
  have hl : lv_has ls 4 [(0, .ref this), (1, .int p1)] := hl
  obtain ⟨Q, hQ⟩ : ∃ Q, Q = MQ below (va_Qi post (fun S' t => wd D y z S' A t.heap) A) (([Value.ref this, Value.int p1] : List Value).toArray) s 0 0 A := ⟨_, rfl⟩
  rw [← hQ]
  generalize hR : (headSpec wsX2_pairsWithAWay ({ frames := 4, cells := 0, slots := 0, locals := 89 } : Room)).room = R
  have hRf : 4 ≤ R.frames := by rw [← hR]; exact Nat.le_refl _
  have hRl : 89 ≤ R.locals := by rw [← hR]; exact Nat.le_refl _
  have hret : ∀ (v : Int32) (S : bS) (H : Heap) (locs : List Loc) (pc : Nat) (ls : Array Slot) , post v S → wd D y z S A H → va_S A s.heap H locs → decode cX2_pairsWithAWay pc = .ok (.ireturn, 1) → W p l e R s m (([Value.ref this, Value.int p1] : List Value).toArray) below meth c H locs 0 0 Q (F0 m pc ls [.int v]) := by
    intro v S H locs pc ls h hw hS d0
    rw [hQ]; exact W.iret hx hb hr (fun t ht hW => ⟨⟨v, S, rfl, h, by show wd D y z S A t.heap; rw [ht]; exact hw⟩, hS.F ht⟩) hS.2.2 d0 hlocks
  have hB9 : ∀ (n9 : Nat) (S : bS) (H : Heap) (locs : List Loc) (ls : Array Slot) (v0 : Nat) (v2 : Int32) (v3 : Int32), wb_X2_pairsWithAWay_9 post n9 v0 v2 v3 S → wd D y z S A H → va_S A s.heap H locs → lv_has ls 4 [(0, .ref v0), (2, .int v2), (3, .int v3)] → W p l e R s m (([Value.ref this, Value.int p1] : List Value).toArray) below meth c H locs 0 0 Q (F0 m 9 ls []) := by
    intro n9
    induction n9 with
    | zero =>
      intro S H locs ls v0 v2 v3 h hw hS hl
      exact absurd h (by unfold wb_X2_pairsWithAWay_9; exact id)
    | succ n9 ih9 =>
      intro S H locs ls v0 v2 v3 h hw hS hl
      unfold wb_X2_pairsWithAWay_9 at h
      refine lv_iload_n hx hb dX2_pairsWithAWay_9 rfl (lv_at hl 2 rfl) ?_
      refine lv_aload_n hx hb dX2_pairsWithAWay_10 rfl (lv_at hl 0 rfl) ?_
      obtain ⟨hk4, h⟩ := h
      obtain ⟨b5, hb6, h⟩ := h
      refine r_get (ci := 3) (v := .ref b5) (C := RX2) (T := TX2) (N := 2) hx hb hts hiX2 hown hK hw (ce_4 (S := S) hk4) rfl 0 (by decide) (hts (.fieldLink RX2 12 "TubePost$Net" "stations" "Ljava/util/ArrayList;") (by decide +kernel)) (fun _ h9 => h9) (congrArg (fun q => some (va_rf q)) hb6) dX2_pairsWithAWay_11 ?_
      obtain ⟨hk7, h⟩ := h
      have h1 := h
      refine va_calli (va_runV (As := []) (rest := [.int v3]) ⟨hx, hb, hml, hown, hts⟩ (m_Jx4a65c_size_8abf5 (l := l) h1) (cwV 0 hts gX2_pairsWithAWay_Jx4a65c_size_8abf5 rfl rfl rfl (by decide +kernel) ⟨Nat.le_trans (Nat.le_of_ble_eq_true rfl) hRf, Nat.le_trans (Nat.le_of_ble_eq_true rfl) hRl⟩) (r_pV hB hw hS (ce_1 (S := S) hk7) rfl) rfl rfl hl.1 rfl (lv_room (Nat.le_of_ble_eq_true rfl)) dX2_pairsWithAWay_14 ⟨Nat.zero_le _, Nat.zero_le _⟩) hS (fun _ _ h => h) (fun _ h => h) (fun r8 S9 t H1 locs ht _ h hw1 _ _ hS => ?_)
      subst ht
      have hw : wd D y z S9 A t.heap := hw1
      clear hw1 h1
      refine lv_icmp_ge (tgt := 46) hx hb dX2_pairsWithAWay_17 (by decide) (fun hc => ?_) (fun hc => ?_)
      · have h := h.1 hc
        refine lv_iload_n hx hb dX2_pairsWithAWay_46 rfl (lv_at hl 1 rfl) ?_
        exact hret v2 _ _ _ _ _ h hw hS dX2_pairsWithAWay_47
      · have h := h.2 hc
        refine lv_iload_n hx hb dX2_pairsWithAWay_20 rfl (lv_at hl 1 rfl) ?_
        refine lv_aload_n hx hb dX2_pairsWithAWay_21 rfl (lv_at hl 0 rfl) ?_
        obtain ⟨hk10, h⟩ := h
        obtain ⟨b11, hb12, h⟩ := h
        refine r_get (ci := 3) (v := .ref b11) (C := RX2) (T := TX2) (N := 2) hx hb hts hiX2 hown hK hw (ce_4 (S := S9) hk10) rfl 0 (by decide) (hts (.fieldLink RX2 12 "TubePost$Net" "stations" "Ljava/util/ArrayList;") (by decide +kernel)) (fun _ h9 => h9) (congrArg (fun q => some (va_rf q)) hb12) dX2_pairsWithAWay_22 ?_
        refine lv_iload_n hx hb dX2_pairsWithAWay_25 rfl (lv_at hl 2 rfl) ?_
        obtain ⟨hk13, h⟩ := h
        have h1 := h
        refine va_callq (va_runV (As := [.int v3]) (rest := [.int v2]) ⟨hx, hb, hml, hown, hts⟩ (m_Jx4a65c_get_915e3 (l := l) h1) (cwV 1 hts gX2_pairsWithAWay_Jx4a65c_get_915e3 rfl rfl rfl (by decide +kernel) ⟨Nat.le_trans (Nat.le_of_ble_eq_true rfl) hRf, Nat.le_trans (Nat.le_of_ble_eq_true rfl) hRl⟩) (r_pV hB hw hS (ce_1 (S := S9) hk13) rfl) rfl rfl hl.1 rfl (lv_room (Nat.le_of_ble_eq_true rfl)) dX2_pairsWithAWay_26 ⟨Nat.zero_le _, Nat.zero_le _⟩) hS (fun _ _ h => h) (fun _ h => h) (fun r14 S15 t H1 locs ht _ h hw1 _ _ hS => ?_)
        subst ht
        have hw : wd D y z S15 A t.heap := hw1
        clear hw1 h1
        obtain ⟨b16, rfl, h⟩ := h
        refine W.eq (g2 := F0 m 29 ls [.ref b16, .int v2]) rfl ?_
        obtain ⟨hk18, h⟩ := h
        refine r_cast hx hb hown (hts (.classLink RX2 21 "TubePost$Station") (by decide +kernel)) hK hw (ce_5 hk18) rfl dX2_pairsWithAWay_29 ?_
        refine r_getN (ci := 4) (v := .int (gV S15 5 b16 7)) (C := RX3) (T := TX3) (N := 10) hx hb hts hiX3 hown hK hw (ce_5 (S := S15) hk18) rfl 7 (by decide) (hNw _ (bNw_44)) (fun _ h9 => h9) rfl dX2_pairsWithAWay_32 ?_
        have h1 := h
        refine va_calli (va_runS (As := [.int (gV S15 5 b16 7)]) (rest := [.int v2]) ⟨hx, hb, hml, hown, hts⟩ (m_J6_bitCount_0f7a4 (l := l) h1) (va_cwS 1 hts gX2_pairsWithAWay_J6_bitCount_0f7a4 rfl rfl rfl (by decide +kernel) ⟨Nat.le_trans (Nat.le_of_ble_eq_true rfl) hRf, Nat.le_trans (Nat.le_of_ble_eq_true rfl) hRl⟩) (r_pS hB hw hS) rfl rfl hl.1 rfl (lv_room (Nat.le_of_ble_eq_true rfl)) dX2_pairsWithAWay_35 ⟨Nat.zero_le _, Nat.zero_le _⟩) hS (fun _ _ h => h) (fun _ h => h) (fun r19 S20 t H1 locs ht _ h hw1 _ _ hS => ?_)
        subst ht
        have hw : wd D y z S20 A t.heap := hw1
        clear hw1 h1
        refine lv_iadd hx hb dX2_pairsWithAWay_38 ?_
        refine lv_istore_n hx hb dX2_pairsWithAWay_39 rfl hl (by decide) rfl (fun ls hl => ?_)
        have hl : lv_has ls 4 [(2, .int (v2 + r19)), (0, .ref v0), (3, .int v3)] := hl
        refine lv_iinc (v := (v3 + (1 : Int32))) hx hb dX2_pairsWithAWay_40 hl (k := 2) rfl rfl (by decide) rfl (fun ls hl => ?_)
        have hl : lv_has ls 4 [(3, .int (v3 + (1 : Int32))), (2, .int (v2 + r19)), (0, .ref v0)] := hl
        refine lv_goto (tgt := 9) hx hb dX2_pairsWithAWay_43 (by decide) ?_
        exact ih9 _ _ _ _ _ _ _ h hw hS (lv_sub hl [2, 1, 0] rfl)
  unfold wp_X2_pairsWithAWay at h
  refine lv_aload_n hx hb dX2_pairsWithAWay_0 rfl (lv_at hl 0 rfl) ?_
  refine lv_iload_n hx hb dX2_pairsWithAWay_1 rfl (lv_at hl 1 rfl) ?_
  obtain ⟨hk1, h⟩ := h
  have h1 := h
  refine va_callv (va_runV (As := [.int p1]) (rest := []) ⟨hx, hb, hml, hown, hts⟩ (m_X2_reckonReach (l := l) h1) (cwV 1 hts gX2_pairsWithAWay_X2_reckonReach rfl rfl rfl (by decide +kernel) ⟨Nat.le_trans (Nat.le_of_ble_eq_true rfl) hRf, Nat.le_trans (Nat.le_of_ble_eq_true rfl) hRl⟩) (r_pV hB hw hS (ce_4 (S := S) hk1) rfl) rfl rfl hl.1 rfl (lv_room (Nat.le_of_ble_eq_true rfl)) dX2_pairsWithAWay_2 ⟨Nat.zero_le _, Nat.zero_le _⟩) hS (fun _ _ h => h) (fun _ h => h) (fun S3 t H1 locs ht _ h hw1 _ _ hS => ?_)
  subst ht
  have hw : wd D y z S3 A t.heap := hw1
  clear hw1 h1
  refine lv_iconst (v := (0 : Int32)) hx hb dX2_pairsWithAWay_5 (by decide) ?_
  refine lv_istore_n hx hb dX2_pairsWithAWay_6 rfl hl (by decide) rfl (fun ls hl => ?_)
  have hl : lv_has ls 4 [(2, .int (0 : Int32)), (0, .ref this), (1, .int p1)] := hl
  refine lv_iconst (v := (0 : Int32)) hx hb dX2_pairsWithAWay_7 (by decide) ?_
  refine lv_istore_n hx hb dX2_pairsWithAWay_8 rfl hl (by decide) rfl (fun ls hl => ?_)
  have hl : lv_has ls 4 [(3, .int (0 : Int32)), (2, .int (0 : Int32)), (0, .ref this), (1, .int p1)] := hl
  obtain ⟨n9, h⟩ := h
  exact hB9 n9 _ _ _ _ _ _ _ h hw hS (lv_sub hl [2, 1, 0] rfl)
def wp_X2_pairsPartedWithout (post : Int32 → bS → Prop) (this : Nat) (p1 : Nat) (S : bS) : Prop := gK S this = 4 ∧ (wp_X2_pairsWithAWay (fun r2 S3 => gK S3 p1 = 6 ∧ (gK S3 this = 4 ∧ (wp_X2_pairsWithAWay (fun r6 S7 => post (r2 - r6) S7) this (gV S3 6 p1 0) S3))) this (-1 : Int32) S)
set_option maxHeartbeats 4000000 in
set_option maxRecDepth 100000 in
theorem m_X2_pairsPartedWithout {l : Launch} {D : va_G} {y : Nat → ClassId} {z : Nat} {A : Nat → Prop} {S : bS} {post : Int32 → bS → Prop} {this : Nat} {p1 : Nat} (h : wp_X2_pairsPartedWithout post this p1 S) : Met l yX2_pairsPartedWithout wsX2_pairsPartedWithout ({ frames := 5, cells := 0, slots := 0, locals := 112 } : Room) (va_Pc ([Value.ref this, Value.ref p1] : List Value) (bP D y z S A)) (va_Qi post (fun S' t => wd D y z S' A t.heap) A) 0 0 A := by
  refine Met.ofW (cc := cX2_pairsPartedWithout) (maxL := 2) (ret := (some .int)) (by decide) rfl ?_
  intro p e s m args below meth c s₁ B hml hv
  obtain ⟨rfl, hB⟩ := hv
  have hx := B.exec
  have hb := B.bytes
  have hr := B.returns
  have hts := atoms_spec (ws := wsX2_pairsPartedWithout) B.pre
  have hown : s.vm.findClass RX2 = some m.cls := findClass_of_methodNamed B.named
  have hlocks := B.notSynchronized
  have hw : wd D y z S A s.heap := hB.1
  have hK : va_K D bCl (bT y) s := hB.2.1
  have hNw := hB.2.2.1
  have hAn : ∀ q : Nat, s.heap.size ≤ q → A q := hB.2.2.2.1
  have hAz : ¬ A z := hB.2.2.2.2.1
  have hO := hB.2.2.2.2.2.1
  have hS : va_S A s.heap s.heap [] := va_S.rf
  have hiX4 : ∀ w ∈ u_ws RX4 TX4 11, w ∈ wsX2_pairsPartedWithout := by decide +kernel
  have hl := lv_entry ([Value.ref this, Value.ref p1] : List Value) (n := 2) (Nat.le_of_ble_eq_true rfl)
  rw [lg_entry_eq]
  generalize (lg_sl ([Value.ref this, Value.ref p1] : List Value) ++ List.replicate (2 - (lg_sl ([Value.ref this, Value.ref p1] : List Value)).length) Slot.unset).toArray = ls at hl ⊢
  have hl : lv_has ls 2 [(0, .ref this), (1, .ref p1)] := hl
  obtain ⟨Q, hQ⟩ : ∃ Q, Q = MQ below (va_Qi post (fun S' t => wd D y z S' A t.heap) A) (([Value.ref this, Value.ref p1] : List Value).toArray) s 0 0 A := ⟨_, rfl⟩
  rw [← hQ]
  generalize hR : (headSpec wsX2_pairsPartedWithout ({ frames := 5, cells := 0, slots := 0, locals := 112 } : Room)).room = R
  have hRf : 5 ≤ R.frames := by rw [← hR]; exact Nat.le_refl _
  have hRl : 112 ≤ R.locals := by rw [← hR]; exact Nat.le_refl _
  have hret : ∀ (v : Int32) (S : bS) (H : Heap) (locs : List Loc) (pc : Nat) (ls : Array Slot) , post v S → wd D y z S A H → va_S A s.heap H locs → decode cX2_pairsPartedWithout pc = .ok (.ireturn, 1) → W p l e R s m (([Value.ref this, Value.ref p1] : List Value).toArray) below meth c H locs 0 0 Q (F0 m pc ls [.int v]) := by
    intro v S H locs pc ls h hw hS d0
    rw [hQ]; exact W.iret hx hb hr (fun t ht hW => ⟨⟨v, S, rfl, h, by show wd D y z S A t.heap; rw [ht]; exact hw⟩, hS.F ht⟩) hS.2.2 d0 hlocks
  unfold wp_X2_pairsPartedWithout at h
  refine lv_aload_n hx hb dX2_pairsPartedWithout_0 rfl (lv_at hl 0 rfl) ?_
  refine lv_iconst (v := (-1 : Int32)) hx hb dX2_pairsPartedWithout_1 (by decide) ?_
  obtain ⟨hk1, h⟩ := h
  have h1 := h
  refine va_calli (va_runV (As := [.int (-1 : Int32)]) (rest := []) ⟨hx, hb, hml, hown, hts⟩ (m_X2_pairsWithAWay (l := l) h1) (cwV 1 hts gX2_pairsPartedWithout_X2_pairsWithAWay rfl rfl rfl (by decide +kernel) ⟨Nat.le_trans (Nat.le_of_ble_eq_true rfl) hRf, Nat.le_trans (Nat.le_of_ble_eq_true rfl) hRl⟩) (r_pV hB hw hS (ce_4 (S := S) hk1) rfl) rfl rfl hl.1 rfl (lv_room (Nat.le_of_ble_eq_true rfl)) dX2_pairsPartedWithout_2 ⟨Nat.zero_le _, Nat.zero_le _⟩) hS (fun _ _ h => h) (fun _ h => h) (fun r2 S3 t H1 locs ht _ h hw1 _ _ hS => ?_)
  subst ht
  have hw : wd D y z S3 A t.heap := hw1
  clear hw1 h1
  refine lv_aload_n hx hb dX2_pairsPartedWithout_5 rfl (lv_at hl 0 rfl) ?_
  refine lv_aload_n hx hb dX2_pairsPartedWithout_6 rfl (lv_at hl 1 rfl) ?_
  obtain ⟨hk4, h⟩ := h
  refine r_getN (ci := 5) (v := .int (gV S3 6 p1 0)) (C := RX4) (T := TX4) (N := 11) hx hb hts hiX4 hown hK hw (ce_6 (S := S3) hk4) rfl 0 (by decide) (hNw _ (bNw_35)) (fun _ h9 => h9) rfl dX2_pairsPartedWithout_7 ?_
  obtain ⟨hk5, h⟩ := h
  have h1 := h
  refine va_calli (va_runV (As := [.int (gV S3 6 p1 0)]) (rest := [.int r2]) ⟨hx, hb, hml, hown, hts⟩ (m_X2_pairsWithAWay (l := l) h1) (cwV 1 hts gX2_pairsPartedWithout_X2_pairsWithAWay rfl rfl rfl (by decide +kernel) ⟨Nat.le_trans (Nat.le_of_ble_eq_true rfl) hRf, Nat.le_trans (Nat.le_of_ble_eq_true rfl) hRl⟩) (r_pV hB hw hS (ce_4 (S := S3) hk5) rfl) rfl rfl hl.1 rfl (lv_room (Nat.le_of_ble_eq_true rfl)) dX2_pairsPartedWithout_10 ⟨Nat.zero_le _, Nat.zero_le _⟩) hS (fun _ _ h => h) (fun _ h => h) (fun r6 S7 t H1 locs ht _ h hw1 _ _ hS => ?_)
  subst ht
  have hw : wd D y z S7 A t.heap := hw1
  clear hw1 h1
  refine lv_isub hx hb dX2_pairsPartedWithout_13 ?_
  exact hret (r2 - r6) _ _ _ _ _ h hw hS dX2_pairsPartedWithout_14
def wb_X3_hasRoom_19 (post : Int32 → bS → Prop) (s0 : Int32) (S : bS) : Prop := (s0 = 0 ∨ s0 = 1) ∧ post s0 S
def wp_X3_hasRoom (post : Int32 → bS → Prop) (this : Nat) (S : bS) : Prop := gK S this = 5 ∧ (∃ b2, gQ S 5 this 4 = some b2 ∧ (gK S b2 = 1 ∧ (wp_Jx4a65c_size_8abf5 (fun r5 S6 => gK S6 this = 5 ∧ (((gV S6 5 this 1) ≤ r5 → wb_X3_hasRoom_19 post (0 : Int32) S6) ∧ (¬ ((gV S6 5 this 1) ≤ r5) → wb_X3_hasRoom_19 post (1 : Int32) S6))) b2 S)))
set_option maxHeartbeats 4000000 in
set_option maxRecDepth 100000 in
theorem m_X3_hasRoom {l : Launch} {D : va_G} {y : Nat → ClassId} {z : Nat} {A : Nat → Prop} {S : bS} {post : Int32 → bS → Prop} {this : Nat} (h : wp_X3_hasRoom post this S) : Met l yX3_hasRoom wsX3_hasRoom ({ frames := 1, cells := 0, slots := 0, locals := 20 } : Room) (va_Pc ([Value.ref this] : List Value) (bP D y z S A)) (va_Qi post (fun S' t => wd D y z S' A t.heap) A) 0 0 A := by
  refine Met.ofW (cc := cX3_hasRoom) (maxL := 1) (ret := (some .boolean)) (by decide) rfl ?_
  intro p e s m args below meth c s₁ B hml hv
  obtain ⟨rfl, hB⟩ := hv
  have hx := B.exec
  have hb := B.bytes
  have hr := B.returns
  have hts := atoms_spec (ws := wsX3_hasRoom) B.pre
  have hown : s.vm.findClass RX3 = some m.cls := findClass_of_methodNamed B.named
  have hlocks := B.notSynchronized
  have hw : wd D y z S A s.heap := hB.1
  have hK : va_K D bCl (bT y) s := hB.2.1
  have hNw := hB.2.2.1
  have hAn : ∀ q : Nat, s.heap.size ≤ q → A q := hB.2.2.2.1
  have hAz : ¬ A z := hB.2.2.2.2.1
  have hO := hB.2.2.2.2.2.1
  have hS : va_S A s.heap s.heap [] := va_S.rf
  have hiX3 : ∀ w ∈ u_ws RX3 TX3 10, w ∈ wsX3_hasRoom := by decide +kernel
  have hl := lv_entry ([Value.ref this] : List Value) (n := 1) (Nat.le_of_ble_eq_true rfl)
  rw [lg_entry_eq]
  generalize (lg_sl ([Value.ref this] : List Value) ++ List.replicate (1 - (lg_sl ([Value.ref this] : List Value)).length) Slot.unset).toArray = ls at hl ⊢
  have hl : lv_has ls 1 [(0, .ref this)] := hl
  obtain ⟨Q, hQ⟩ : ∃ Q, Q = MQ below (va_Qi post (fun S' t => wd D y z S' A t.heap) A) (([Value.ref this] : List Value).toArray) s 0 0 A := ⟨_, rfl⟩
  rw [← hQ]
  generalize hR : (headSpec wsX3_hasRoom ({ frames := 1, cells := 0, slots := 0, locals := 20 } : Room)).room = R
  have hRf : 1 ≤ R.frames := by rw [← hR]; exact Nat.le_refl _
  have hRl : 20 ≤ R.locals := by rw [← hR]; exact Nat.le_refl _
  have hret : ∀ (v : Int32) (S : bS) (H : Heap) (locs : List Loc) (pc : Nat) (ls : Array Slot) , (v = 0 ∨ v = 1) → post v S → wd D y z S A H → va_S A s.heap H locs → decode cX3_hasRoom pc = .ok (.ireturn, 1) → W p l e R s m (([Value.ref this] : List Value).toArray) below meth c H locs 0 0 Q (F0 m pc ls [.int v]) := by
    intro v S H locs pc ls hz h hw hS d0
    rw [hQ]; exact W.zret hx hb hr (b_nz hz) (fun t ht hW => ⟨⟨v, S, rfl, h, by show wd D y z S A t.heap; rw [ht]; exact hw⟩, hS.F ht⟩) hS.2.2 d0 hlocks
  have hB19 : ∀ (S : bS) (H : Heap) (locs : List Loc) (ls : Array Slot) (s0 : Int32), wb_X3_hasRoom_19 post s0 S → wd D y z S A H → va_S A s.heap H locs → lv_has ls 1 [] → W p l e R s m (([Value.ref this] : List Value).toArray) below meth c H locs 0 0 Q (F0 m 19 ls [.int s0]) := by
    intro S H locs ls s0 h hw hS hl
    unfold wb_X3_hasRoom_19 at h
    obtain ⟨hz, h⟩ := h
    exact hret _ _ _ _ _ _ hz h hw hS dX3_hasRoom_19
  unfold wp_X3_hasRoom at h
  refine lv_aload_n hx hb dX3_hasRoom_0 rfl (lv_at hl 0 rfl) ?_
  obtain ⟨hk1, h⟩ := h
  obtain ⟨b2, hb3, h⟩ := h
  refine r_get (ci := 4) (v := .ref b2) (C := RX3) (T := TX3) (N := 10) hx hb hts hiX3 hown hK hw (ce_5 (S := S) hk1) rfl 4 (by decide) (hts (.fieldLink RX3 28 "TubePost$Station" "line" "Ljava/util/ArrayList;") (by decide +kernel)) (fun _ h9 => h9) (congrArg (fun q => some (va_rf q)) hb3) dX3_hasRoom_1 ?_
  obtain ⟨hk4, h⟩ := h
  have h1 := h
  refine va_calli (va_runV (As := []) (rest := []) ⟨hx, hb, hml, hown, hts⟩ (m_Jx4a65c_size_8abf5 (l := l) h1) (cwV 0 hts gX3_hasRoom_Jx4a65c_size_8abf5 rfl rfl rfl (by decide +kernel) ⟨Nat.le_trans (Nat.le_of_ble_eq_true rfl) hRf, Nat.le_trans (Nat.le_of_ble_eq_true rfl) hRl⟩) (r_pV hB hw hS (ce_1 (S := S) hk4) rfl) rfl rfl hl.1 rfl (lv_room (Nat.le_of_ble_eq_true rfl)) dX3_hasRoom_4 ⟨Nat.zero_le _, Nat.zero_le _⟩) hS (fun _ _ h => h) (fun _ h => h) (fun r5 S6 t H1 locs ht _ h hw1 _ _ hS => ?_)
  subst ht
  have hw : wd D y z S6 A t.heap := hw1
  clear hw1 h1
  refine lv_aload_n hx hb dX3_hasRoom_7 rfl (lv_at hl 0 rfl) ?_
  obtain ⟨hk7, h⟩ := h
  refine r_get (ci := 4) (v := .int (gV S6 5 this 1)) (C := RX3) (T := TX3) (N := 10) hx hb hts hiX3 hown hK hw (ce_5 (S := S6) hk7) rfl 1 (by decide) (hts (.fieldLink RX3 15 "TubePost$Station" "room" "I") (by decide +kernel)) (fun _ h9 => h9) rfl dX3_hasRoom_8 ?_
  refine lv_icmp_ge (tgt := 18) hx hb dX3_hasRoom_11 (by decide) (fun hc => ?_) (fun hc => ?_)
  · have h := h.1 hc
    refine lv_iconst (v := (0 : Int32)) hx hb dX3_hasRoom_18 (by decide) ?_
    exact hB19 _ _ _ _ _ h hw hS (lv_sub hl [] rfl)
  · have h := h.2 hc
    refine lv_iconst (v := (1 : Int32)) hx hb dX3_hasRoom_14 (by decide) ?_
    refine lv_goto (tgt := 19) hx hb dX3_hasRoom_15 (by decide) ?_
    exact hB19 _ _ _ _ _ h hw hS (lv_sub hl [] rfl)
def wb_X3_hasSwitchFor_21 (post : Int32 → bS → Prop) (s0 : Int32) (S : bS) : Prop := (s0 = 0 ∨ s0 = 1) ∧ post s0 S
def wb_X3_hasSwitchFor_20 (post : Int32 → bS → Prop) (S : bS) : Prop := wb_X3_hasSwitchFor_21 post (0 : Int32) S
def wp_X3_hasSwitchFor (post : Int32 → bS → Prop) (this : Nat) (p1 : Int32) (S : bS) : Prop := (p1 < (-1 : Int32) → wb_X3_hasSwitchFor_20 post S) ∧ (¬ (p1 < (-1 : Int32)) → gK S this = 5 ∧ (∃ b2, gQ S 5 this 3 = some b2 ∧ (gK S b2 = 1 ∧ (wp_Jx4a65c_size_8abf5 (fun r5 S6 => (r5 ≤ p1 → wb_X3_hasSwitchFor_20 post S6) ∧ (¬ (r5 ≤ p1) → wb_X3_hasSwitchFor_21 post (1 : Int32) S6)) b2 S))))
set_option maxHeartbeats 4000000 in
set_option maxRecDepth 100000 in
theorem m_X3_hasSwitchFor {l : Launch} {D : va_G} {y : Nat → ClassId} {z : Nat} {A : Nat → Prop} {S : bS} {post : Int32 → bS → Prop} {this : Nat} {p1 : Int32} (h : wp_X3_hasSwitchFor post this p1 S) : Met l yX3_hasSwitchFor wsX3_hasSwitchFor ({ frames := 1, cells := 0, slots := 0, locals := 20 } : Room) (va_Pc ([Value.ref this, Value.int p1] : List Value) (bP D y z S A)) (va_Qi post (fun S' t => wd D y z S' A t.heap) A) 0 0 A := by
  refine Met.ofW (cc := cX3_hasSwitchFor) (maxL := 2) (ret := (some .boolean)) (by decide) rfl ?_
  intro p e s m args below meth c s₁ B hml hv
  obtain ⟨rfl, hB⟩ := hv
  have hx := B.exec
  have hb := B.bytes
  have hr := B.returns
  have hts := atoms_spec (ws := wsX3_hasSwitchFor) B.pre
  have hown : s.vm.findClass RX3 = some m.cls := findClass_of_methodNamed B.named
  have hlocks := B.notSynchronized
  have hw : wd D y z S A s.heap := hB.1
  have hK : va_K D bCl (bT y) s := hB.2.1
  have hNw := hB.2.2.1
  have hAn : ∀ q : Nat, s.heap.size ≤ q → A q := hB.2.2.2.1
  have hAz : ¬ A z := hB.2.2.2.2.1
  have hO := hB.2.2.2.2.2.1
  have hS : va_S A s.heap s.heap [] := va_S.rf
  have hiX3 : ∀ w ∈ u_ws RX3 TX3 10, w ∈ wsX3_hasSwitchFor := by decide +kernel
  have hl := lv_entry ([Value.ref this, Value.int p1] : List Value) (n := 2) (Nat.le_of_ble_eq_true rfl)
  rw [lg_entry_eq]
  generalize (lg_sl ([Value.ref this, Value.int p1] : List Value) ++ List.replicate (2 - (lg_sl ([Value.ref this, Value.int p1] : List Value)).length) Slot.unset).toArray = ls at hl ⊢
  have hl : lv_has ls 2 [(0, .ref this), (1, .int p1)] := hl
  obtain ⟨Q, hQ⟩ : ∃ Q, Q = MQ below (va_Qi post (fun S' t => wd D y z S' A t.heap) A) (([Value.ref this, Value.int p1] : List Value).toArray) s 0 0 A := ⟨_, rfl⟩
  rw [← hQ]
  generalize hR : (headSpec wsX3_hasSwitchFor ({ frames := 1, cells := 0, slots := 0, locals := 20 } : Room)).room = R
  have hRf : 1 ≤ R.frames := by rw [← hR]; exact Nat.le_refl _
  have hRl : 20 ≤ R.locals := by rw [← hR]; exact Nat.le_refl _
  have hret : ∀ (v : Int32) (S : bS) (H : Heap) (locs : List Loc) (pc : Nat) (ls : Array Slot) , (v = 0 ∨ v = 1) → post v S → wd D y z S A H → va_S A s.heap H locs → decode cX3_hasSwitchFor pc = .ok (.ireturn, 1) → W p l e R s m (([Value.ref this, Value.int p1] : List Value).toArray) below meth c H locs 0 0 Q (F0 m pc ls [.int v]) := by
    intro v S H locs pc ls hz h hw hS d0
    rw [hQ]; exact W.zret hx hb hr (b_nz hz) (fun t ht hW => ⟨⟨v, S, rfl, h, by show wd D y z S A t.heap; rw [ht]; exact hw⟩, hS.F ht⟩) hS.2.2 d0 hlocks
  have hB21 : ∀ (S : bS) (H : Heap) (locs : List Loc) (ls : Array Slot) (s0 : Int32), wb_X3_hasSwitchFor_21 post s0 S → wd D y z S A H → va_S A s.heap H locs → lv_has ls 2 [] → W p l e R s m (([Value.ref this, Value.int p1] : List Value).toArray) below meth c H locs 0 0 Q (F0 m 21 ls [.int s0]) := by
    intro S H locs ls s0 h hw hS hl
    unfold wb_X3_hasSwitchFor_21 at h
    obtain ⟨hz, h⟩ := h
    exact hret _ _ _ _ _ _ hz h hw hS dX3_hasSwitchFor_21
  have hB20 : ∀ (S : bS) (H : Heap) (locs : List Loc) (ls : Array Slot) , wb_X3_hasSwitchFor_20 post S → wd D y z S A H → va_S A s.heap H locs → lv_has ls 2 [] → W p l e R s m (([Value.ref this, Value.int p1] : List Value).toArray) below meth c H locs 0 0 Q (F0 m 20 ls []) := by
    intro S H locs ls  h hw hS hl
    unfold wb_X3_hasSwitchFor_20 at h
    refine lv_iconst (v := (0 : Int32)) hx hb dX3_hasSwitchFor_20 (by decide) ?_
    exact hB21 _ _ _ _ _ h hw hS (lv_sub hl [] rfl)
  unfold wp_X3_hasSwitchFor at h
  refine lv_iload_n hx hb dX3_hasSwitchFor_0 rfl (lv_at hl 1 rfl) ?_
  refine lv_iconst (v := (-1 : Int32)) hx hb dX3_hasSwitchFor_1 (by decide) ?_
  refine lv_icmp_lt (tgt := 20) hx hb dX3_hasSwitchFor_2 (by decide) (fun hc => ?_) (fun hc => ?_)
  · have h := h.1 hc
    exact hB20 _ _ _ _ h hw hS (lv_sub hl [] rfl)
  · have h := h.2 hc
    refine lv_iload_n hx hb dX3_hasSwitchFor_5 rfl (lv_at hl 1 rfl) ?_
    refine lv_aload_n hx hb dX3_hasSwitchFor_6 rfl (lv_at hl 0 rfl) ?_
    obtain ⟨hk1, h⟩ := h
    obtain ⟨b2, hb3, h⟩ := h
    refine r_get (ci := 4) (v := .ref b2) (C := RX3) (T := TX3) (N := 10) hx hb hts hiX3 hown hK hw (ce_5 (S := S) hk1) rfl 3 (by decide) (hts (.fieldLink RX3 24 "TubePost$Station" "ways" "Ljava/util/ArrayList;") (by decide +kernel)) (fun _ h9 => h9) (congrArg (fun q => some (va_rf q)) hb3) dX3_hasSwitchFor_7 ?_
    obtain ⟨hk4, h⟩ := h
    have h1 := h
    refine va_calli (va_runV (As := []) (rest := [.int p1]) ⟨hx, hb, hml, hown, hts⟩ (m_Jx4a65c_size_8abf5 (l := l) h1) (cwV 0 hts gX3_hasSwitchFor_Jx4a65c_size_8abf5 rfl rfl rfl (by decide +kernel) ⟨Nat.le_trans (Nat.le_of_ble_eq_true rfl) hRf, Nat.le_trans (Nat.le_of_ble_eq_true rfl) hRl⟩) (r_pV hB hw hS (ce_1 (S := S) hk4) rfl) rfl rfl hl.1 rfl (lv_room (Nat.le_of_ble_eq_true rfl)) dX3_hasSwitchFor_10 ⟨Nat.zero_le _, Nat.zero_le _⟩) hS (fun _ _ h => h) (fun _ h => h) (fun r5 S6 t H1 locs ht _ h hw1 _ _ hS => ?_)
    subst ht
    have hw : wd D y z S6 A t.heap := hw1
    clear hw1 h1
    refine lv_icmp_ge (tgt := 20) hx hb dX3_hasSwitchFor_13 (by decide) (fun hc => ?_) (fun hc => ?_)
    · have h := h.1 hc
      exact hB20 _ _ _ _ h hw hS (lv_sub hl [] rfl)
    · have h := h.2 hc
      refine lv_iconst (v := (1 : Int32)) hx hb dX3_hasSwitchFor_16 (by decide) ?_
      refine lv_goto (tgt := 21) hx hb dX3_hasSwitchFor_17 (by decide) ?_
      exact hB21 _ _ _ _ _ h hw hS (lv_sub hl [] rfl)
def wb_X4_canBeEnteredAt_34 (post : Int32 → bS → Prop) (s0 : Int32) (S : bS) : Prop := (s0 = 0 ∨ s0 = 1) ∧ post s0 S
def wb_X4_canBeEnteredAt_33 (post : Int32 → bS → Prop) (S : bS) : Prop := wb_X4_canBeEnteredAt_34 post (0 : Int32) S
def wp_X4_canBeEnteredAt (post : Int32 → bS → Prop) (this : Nat) (p1 : Int32) (S : bS) : Prop := gK S this = 6 ∧ (((gV S 6 this 8) = (0 : Int32) → wb_X4_canBeEnteredAt_33 post S) ∧ (¬ ((gV S 6 this 8) = (0 : Int32)) → ∃ b2, gQ S 6 this 5 = some b2 ∧ (gK S b2 = 1 ∧ (wp_Jx4a65c_size_8abf5 (fun r5 S6 => gK S6 this = 6 ∧ (((gV S6 6 this 4) ≤ r5 → wb_X4_canBeEnteredAt_33 post S6) ∧ (¬ ((gV S6 6 this 4) ≤ r5) → ((gV S6 6 this 10) = p1 → wb_X4_canBeEnteredAt_33 post S6) ∧ (¬ ((gV S6 6 this 10) = p1) → wb_X4_canBeEnteredAt_34 post (1 : Int32) S6)))) b2 S))))
set_option maxHeartbeats 4000000 in
set_option maxRecDepth 100000 in
theorem m_X4_canBeEnteredAt {l : Launch} {D : va_G} {y : Nat → ClassId} {z : Nat} {A : Nat → Prop} {S : bS} {post : Int32 → bS → Prop} {this : Nat} {p1 : Int32} (h : wp_X4_canBeEnteredAt post this p1 S) : Met l yX4_canBeEnteredAt wsX4_canBeEnteredAt ({ frames := 1, cells := 0, slots := 0, locals := 20 } : Room) (va_Pc ([Value.ref this, Value.int p1] : List Value) (bP D y z S A)) (va_Qi post (fun S' t => wd D y z S' A t.heap) A) 0 0 A := by
  refine Met.ofW (cc := cX4_canBeEnteredAt) (maxL := 2) (ret := (some .boolean)) (by decide) rfl ?_
  intro p e s m args below meth c s₁ B hml hv
  obtain ⟨rfl, hB⟩ := hv
  have hx := B.exec
  have hb := B.bytes
  have hr := B.returns
  have hts := atoms_spec (ws := wsX4_canBeEnteredAt) B.pre
  have hown : s.vm.findClass RX4 = some m.cls := findClass_of_methodNamed B.named
  have hlocks := B.notSynchronized
  have hw : wd D y z S A s.heap := hB.1
  have hK : va_K D bCl (bT y) s := hB.2.1
  have hNw := hB.2.2.1
  have hAn : ∀ q : Nat, s.heap.size ≤ q → A q := hB.2.2.2.1
  have hAz : ¬ A z := hB.2.2.2.2.1
  have hO := hB.2.2.2.2.2.1
  have hS : va_S A s.heap s.heap [] := va_S.rf
  have hiX4 : ∀ w ∈ u_ws RX4 TX4 11, w ∈ wsX4_canBeEnteredAt := by decide +kernel
  have hl := lv_entry ([Value.ref this, Value.int p1] : List Value) (n := 2) (Nat.le_of_ble_eq_true rfl)
  rw [lg_entry_eq]
  generalize (lg_sl ([Value.ref this, Value.int p1] : List Value) ++ List.replicate (2 - (lg_sl ([Value.ref this, Value.int p1] : List Value)).length) Slot.unset).toArray = ls at hl ⊢
  have hl : lv_has ls 2 [(0, .ref this), (1, .int p1)] := hl
  obtain ⟨Q, hQ⟩ : ∃ Q, Q = MQ below (va_Qi post (fun S' t => wd D y z S' A t.heap) A) (([Value.ref this, Value.int p1] : List Value).toArray) s 0 0 A := ⟨_, rfl⟩
  rw [← hQ]
  generalize hR : (headSpec wsX4_canBeEnteredAt ({ frames := 1, cells := 0, slots := 0, locals := 20 } : Room)).room = R
  have hRf : 1 ≤ R.frames := by rw [← hR]; exact Nat.le_refl _
  have hRl : 20 ≤ R.locals := by rw [← hR]; exact Nat.le_refl _
  have hret : ∀ (v : Int32) (S : bS) (H : Heap) (locs : List Loc) (pc : Nat) (ls : Array Slot) , (v = 0 ∨ v = 1) → post v S → wd D y z S A H → va_S A s.heap H locs → decode cX4_canBeEnteredAt pc = .ok (.ireturn, 1) → W p l e R s m (([Value.ref this, Value.int p1] : List Value).toArray) below meth c H locs 0 0 Q (F0 m pc ls [.int v]) := by
    intro v S H locs pc ls hz h hw hS d0
    rw [hQ]; exact W.zret hx hb hr (b_nz hz) (fun t ht hW => ⟨⟨v, S, rfl, h, by show wd D y z S A t.heap; rw [ht]; exact hw⟩, hS.F ht⟩) hS.2.2 d0 hlocks
  have hB34 : ∀ (S : bS) (H : Heap) (locs : List Loc) (ls : Array Slot) (s0 : Int32), wb_X4_canBeEnteredAt_34 post s0 S → wd D y z S A H → va_S A s.heap H locs → lv_has ls 2 [] → W p l e R s m (([Value.ref this, Value.int p1] : List Value).toArray) below meth c H locs 0 0 Q (F0 m 34 ls [.int s0]) := by
    intro S H locs ls s0 h hw hS hl
    unfold wb_X4_canBeEnteredAt_34 at h
    obtain ⟨hz, h⟩ := h
    exact hret _ _ _ _ _ _ hz h hw hS dX4_canBeEnteredAt_34
  have hB33 : ∀ (S : bS) (H : Heap) (locs : List Loc) (ls : Array Slot) , wb_X4_canBeEnteredAt_33 post S → wd D y z S A H → va_S A s.heap H locs → lv_has ls 2 [] → W p l e R s m (([Value.ref this, Value.int p1] : List Value).toArray) below meth c H locs 0 0 Q (F0 m 33 ls []) := by
    intro S H locs ls  h hw hS hl
    unfold wb_X4_canBeEnteredAt_33 at h
    refine lv_iconst (v := (0 : Int32)) hx hb dX4_canBeEnteredAt_33 (by decide) ?_
    exact hB34 _ _ _ _ _ h hw hS (lv_sub hl [] rfl)
  unfold wp_X4_canBeEnteredAt at h
  refine lv_aload_n hx hb dX4_canBeEnteredAt_0 rfl (lv_at hl 0 rfl) ?_
  obtain ⟨hk1, h⟩ := h
  refine r_get (ci := 5) (v := .int (gV S 6 this 8)) (C := RX4) (T := TX4) (N := 11) hx hb hts hiX4 hown hK hw (ce_6 (S := S) hk1) rfl 8 (by decide) (hts (.fieldLink RX4 45 "TubePost$Tube" "isOpen" "Z") (by decide +kernel)) (fun _ h9 => h9) rfl dX4_canBeEnteredAt_1 ?_
  refine lv_if_eq (tgt := 33) hx hb dX4_canBeEnteredAt_4 (by decide) (fun hc => ?_) (fun hc => ?_)
  · have h := h.1 hc
    exact hB33 _ _ _ _ h hw hS (lv_sub hl [] rfl)
  · have h := h.2 hc
    refine lv_aload_n hx hb dX4_canBeEnteredAt_7 rfl (lv_at hl 0 rfl) ?_
    obtain ⟨b2, hb3, h⟩ := h
    refine r_get (ci := 5) (v := .ref b2) (C := RX4) (T := TX4) (N := 11) hx hb hts hiX4 hown hK hw (ce_6 (S := S) hk1) rfl 5 (by decide) (hts (.fieldLink RX4 41 "TubePost$Tube" "inside" "Ljava/util/ArrayList;") (by decide +kernel)) (fun _ h9 => h9) (congrArg (fun q => some (va_rf q)) hb3) dX4_canBeEnteredAt_8 ?_
    obtain ⟨hk4, h⟩ := h
    have h1 := h
    refine va_calli (va_runV (As := []) (rest := []) ⟨hx, hb, hml, hown, hts⟩ (m_Jx4a65c_size_8abf5 (l := l) h1) (cwV 0 hts gX4_canBeEnteredAt_Jx4a65c_size_8abf5 rfl rfl rfl (by decide +kernel) ⟨Nat.le_trans (Nat.le_of_ble_eq_true rfl) hRf, Nat.le_trans (Nat.le_of_ble_eq_true rfl) hRl⟩) (r_pV hB hw hS (ce_1 (S := S) hk4) rfl) rfl rfl hl.1 rfl (lv_room (Nat.le_of_ble_eq_true rfl)) dX4_canBeEnteredAt_11 ⟨Nat.zero_le _, Nat.zero_le _⟩) hS (fun _ _ h => h) (fun _ h => h) (fun r5 S6 t H1 locs ht _ h hw1 _ _ hS => ?_)
    subst ht
    have hw : wd D y z S6 A t.heap := hw1
    clear hw1 h1
    refine lv_aload_n hx hb dX4_canBeEnteredAt_14 rfl (lv_at hl 0 rfl) ?_
    obtain ⟨hk7, h⟩ := h
    refine r_get (ci := 5) (v := .int (gV S6 6 this 4)) (C := RX4) (T := TX4) (N := 11) hx hb hts hiX4 hown hK hw (ce_6 (S := S6) hk7) rfl 4 (by decide) (hts (.fieldLink RX4 25 "TubePost$Tube" "bore" "I") (by decide +kernel)) (fun _ h9 => h9) rfl dX4_canBeEnteredAt_15 ?_
    refine lv_icmp_ge (tgt := 33) hx hb dX4_canBeEnteredAt_18 (by decide) (fun hc => ?_) (fun hc => ?_)
    · have h := h.1 hc
      exact hB33 _ _ _ _ h hw hS (lv_sub hl [] rfl)
    · have h := h.2 hc
      refine lv_aload_n hx hb dX4_canBeEnteredAt_21 rfl (lv_at hl 0 rfl) ?_
      refine r_get (ci := 5) (v := .int (gV S6 6 this 10)) (C := RX4) (T := TX4) (N := 11) hx hb hts hiX4 hown hK hw (ce_6 (S := S6) hk7) rfl 10 (by decide) (hts (.fieldLink RX4 52 "TubePost$Tube" "lastEntryAt" "I") (by decide +kernel)) (fun _ h9 => h9) rfl dX4_canBeEnteredAt_22 ?_
      refine lv_iload_n hx hb dX4_canBeEnteredAt_25 rfl (lv_at hl 1 rfl) ?_
      refine lv_icmp_eq (tgt := 33) hx hb dX4_canBeEnteredAt_26 (by decide) (fun hc => ?_) (fun hc => ?_)
      · have h := h.1 hc
        exact hB33 _ _ _ _ h hw hS (lv_sub hl [] rfl)
      · have h := h.2 hc
        refine lv_iconst (v := (1 : Int32)) hx hb dX4_canBeEnteredAt_29 (by decide) ?_
        refine lv_goto (tgt := 34) hx hb dX4_canBeEnteredAt_30 (by decide) ?_
        exact hB34 _ _ _ _ _ h hw hS (lv_sub hl [] rfl)
def wb_X4_isFirstAtEnd_42 (post : Int32 → bS → Prop) (s0 : Int32) (S : bS) : Prop := (s0 = 0 ∨ s0 = 1) ∧ post s0 S
def wp_X4_isFirstAtEnd (post : Int32 → bS → Prop) (this : Nat) (p1 : Int32) (S : bS) : Prop := gK S this = 6 ∧ (∃ b2, gQ S 6 this 5 = some b2 ∧ (gK S b2 = 1 ∧ (wp_Jx4a65c_isEmpty_aae02 (fun r5 S6 => (r5 = (0 : Int32) → gK S6 this = 6 ∧ (∃ b8, gQ S6 6 this 5 = some b8 ∧ (gK S6 b8 = 1 ∧ (wp_Jx4a65c_get_915e3 (fun r11 S12 => ∃ b13, r11 = some b13 ∧ (gK S12 b13 = 2 ∧ (((p1 - (gV S12 2 b13 6)) < (gV S12 2 b13 7) → wb_X4_isFirstAtEnd_42 post (0 : Int32) S12) ∧ (¬ ((p1 - (gV S12 2 b13 6)) < (gV S12 2 b13 7)) → wb_X4_isFirstAtEnd_42 post (1 : Int32) S12)))) b8 (0 : Int32) S6)))) ∧ (¬ (r5 = (0 : Int32)) → post (0 : Int32) S6)) b2 S)))
set_option maxHeartbeats 4000000 in
set_option maxRecDepth 100000 in
theorem m_X4_isFirstAtEnd {l : Launch} {D : va_G} {y : Nat → ClassId} {z : Nat} {A : Nat → Prop} {S : bS} {post : Int32 → bS → Prop} {this : Nat} {p1 : Int32} (h : wp_X4_isFirstAtEnd post this p1 S) : Met l yX4_isFirstAtEnd wsX4_isFirstAtEnd ({ frames := 3, cells := 0, slots := 0, locals := 64 } : Room) (va_Pc ([Value.ref this, Value.int p1] : List Value) (bP D y z S A)) (va_Qi post (fun S' t => wd D y z S' A t.heap) A) 0 0 A := by
  refine Met.ofW (cc := cX4_isFirstAtEnd) (maxL := 3) (ret := (some .boolean)) (by decide) rfl ?_
  intro p e s m args below meth c s₁ B hml hv
  obtain ⟨rfl, hB⟩ := hv
  have hx := B.exec
  have hb := B.bytes
  have hr := B.returns
  have hts := atoms_spec (ws := wsX4_isFirstAtEnd) B.pre
  have hown : s.vm.findClass RX4 = some m.cls := findClass_of_methodNamed B.named
  have hlocks := B.notSynchronized
  have hw : wd D y z S A s.heap := hB.1
  have hK : va_K D bCl (bT y) s := hB.2.1
  have hNw := hB.2.2.1
  have hAn : ∀ q : Nat, s.heap.size ≤ q → A q := hB.2.2.2.1
  have hAz : ¬ A z := hB.2.2.2.2.1
  have hO := hB.2.2.2.2.2.1
  have hS : va_S A s.heap s.heap [] := va_S.rf
  have hiX0 : ∀ w ∈ u_ws RX0 TX0 9, w ∈ wsX4_isFirstAtEnd := by decide +kernel
  have hiX4 : ∀ w ∈ u_ws RX4 TX4 11, w ∈ wsX4_isFirstAtEnd := by decide +kernel
  have hl := lv_entry ([Value.ref this, Value.int p1] : List Value) (n := 3) (Nat.le_of_ble_eq_true rfl)
  rw [lg_entry_eq]
  generalize (lg_sl ([Value.ref this, Value.int p1] : List Value) ++ List.replicate (3 - (lg_sl ([Value.ref this, Value.int p1] : List Value)).length) Slot.unset).toArray = ls at hl ⊢
  have hl : lv_has ls 3 [(0, .ref this), (1, .int p1)] := hl
  obtain ⟨Q, hQ⟩ : ∃ Q, Q = MQ below (va_Qi post (fun S' t => wd D y z S' A t.heap) A) (([Value.ref this, Value.int p1] : List Value).toArray) s 0 0 A := ⟨_, rfl⟩
  rw [← hQ]
  generalize hR : (headSpec wsX4_isFirstAtEnd ({ frames := 3, cells := 0, slots := 0, locals := 64 } : Room)).room = R
  have hRf : 3 ≤ R.frames := by rw [← hR]; exact Nat.le_refl _
  have hRl : 64 ≤ R.locals := by rw [← hR]; exact Nat.le_refl _
  have hret : ∀ (v : Int32) (S : bS) (H : Heap) (locs : List Loc) (pc : Nat) (ls : Array Slot) , (v = 0 ∨ v = 1) → post v S → wd D y z S A H → va_S A s.heap H locs → decode cX4_isFirstAtEnd pc = .ok (.ireturn, 1) → W p l e R s m (([Value.ref this, Value.int p1] : List Value).toArray) below meth c H locs 0 0 Q (F0 m pc ls [.int v]) := by
    intro v S H locs pc ls hz h hw hS d0
    rw [hQ]; exact W.zret hx hb hr (b_nz hz) (fun t ht hW => ⟨⟨v, S, rfl, h, by show wd D y z S A t.heap; rw [ht]; exact hw⟩, hS.F ht⟩) hS.2.2 d0 hlocks
  have hB42 : ∀ (S : bS) (H : Heap) (locs : List Loc) (ls : Array Slot) (s0 : Int32), wb_X4_isFirstAtEnd_42 post s0 S → wd D y z S A H → va_S A s.heap H locs → lv_has ls 3 [] → W p l e R s m (([Value.ref this, Value.int p1] : List Value).toArray) below meth c H locs 0 0 Q (F0 m 42 ls [.int s0]) := by
    intro S H locs ls s0 h hw hS hl
    unfold wb_X4_isFirstAtEnd_42 at h
    obtain ⟨hz, h⟩ := h
    exact hret _ _ _ _ _ _ hz h hw hS dX4_isFirstAtEnd_42
  unfold wp_X4_isFirstAtEnd at h
  refine lv_aload_n hx hb dX4_isFirstAtEnd_0 rfl (lv_at hl 0 rfl) ?_
  obtain ⟨hk1, h⟩ := h
  obtain ⟨b2, hb3, h⟩ := h
  refine r_get (ci := 5) (v := .ref b2) (C := RX4) (T := TX4) (N := 11) hx hb hts hiX4 hown hK hw (ce_6 (S := S) hk1) rfl 5 (by decide) (hts (.fieldLink RX4 41 "TubePost$Tube" "inside" "Ljava/util/ArrayList;") (by decide +kernel)) (fun _ h9 => h9) (congrArg (fun q => some (va_rf q)) hb3) dX4_isFirstAtEnd_1 ?_
  obtain ⟨hk4, h⟩ := h
  have h1 := h
  refine va_calli (va_runV (As := []) (rest := []) ⟨hx, hb, hml, hown, hts⟩ (m_Jx4a65c_isEmpty_aae02 (l := l) h1) (cwV 0 hts gX4_isFirstAtEnd_Jx4a65c_isEmpty_aae02 rfl rfl rfl (by decide +kernel) ⟨Nat.le_trans (Nat.le_of_ble_eq_true rfl) hRf, Nat.le_trans (Nat.le_of_ble_eq_true rfl) hRl⟩) (r_pV hB hw hS (ce_1 (S := S) hk4) rfl) rfl rfl hl.1 rfl (lv_room (Nat.le_of_ble_eq_true rfl)) dX4_isFirstAtEnd_4 ⟨Nat.zero_le _, Nat.zero_le _⟩) hS (fun _ _ h => h) (fun _ h => h) (fun r5 S6 t H1 locs ht _ h hw1 _ _ hS => ?_)
  subst ht
  have hw : wd D y z S6 A t.heap := hw1
  clear hw1 h1
  refine lv_if_eq (tgt := 12) hx hb dX4_isFirstAtEnd_7 (by decide) (fun hc => ?_) (fun hc => ?_)
  · have h := h.1 hc
    refine lv_aload_n hx hb dX4_isFirstAtEnd_12 rfl (lv_at hl 0 rfl) ?_
    obtain ⟨hk7, h⟩ := h
    obtain ⟨b8, hb9, h⟩ := h
    refine r_get (ci := 5) (v := .ref b8) (C := RX4) (T := TX4) (N := 11) hx hb hts hiX4 hown hK hw (ce_6 (S := S6) hk7) rfl 5 (by decide) (hts (.fieldLink RX4 41 "TubePost$Tube" "inside" "Ljava/util/ArrayList;") (by decide +kernel)) (fun _ h9 => h9) (congrArg (fun q => some (va_rf q)) hb9) dX4_isFirstAtEnd_13 ?_
    refine lv_iconst (v := (0 : Int32)) hx hb dX4_isFirstAtEnd_16 (by decide) ?_
    obtain ⟨hk10, h⟩ := h
    have h1 := h
    refine va_callq (va_runV (As := [.int (0 : Int32)]) (rest := []) ⟨hx, hb, hml, hown, hts⟩ (m_Jx4a65c_get_915e3 (l := l) h1) (cwV 1 hts gX4_isFirstAtEnd_Jx4a65c_get_915e3 rfl rfl rfl (by decide +kernel) ⟨Nat.le_trans (Nat.le_of_ble_eq_true rfl) hRf, Nat.le_trans (Nat.le_of_ble_eq_true rfl) hRl⟩) (r_pV hB hw hS (ce_1 (S := S6) hk10) rfl) rfl rfl hl.1 rfl (lv_room (Nat.le_of_ble_eq_true rfl)) dX4_isFirstAtEnd_17 ⟨Nat.zero_le _, Nat.zero_le _⟩) hS (fun _ _ h => h) (fun _ h => h) (fun r11 S12 t H1 locs ht _ h hw1 _ _ hS => ?_)
    subst ht
    have hw : wd D y z S12 A t.heap := hw1
    clear hw1 h1
    obtain ⟨b13, rfl, h⟩ := h
    refine W.eq (g2 := F0 m 20 ls [.ref b13]) rfl ?_
    obtain ⟨hk15, h⟩ := h
    refine r_cast hx hb hown (hts (.classLink RX4 68 "TubePost$Carrier") (by decide +kernel)) hK hw (ce_2 hk15) rfl dX4_isFirstAtEnd_20 ?_
    refine lv_astore_n hx hb dX4_isFirstAtEnd_23 rfl hl (by decide) rfl (fun ls hl => ?_)
    have hl : lv_has ls 3 [(2, .ref b13), (0, .ref this), (1, .int p1)] := hl
    refine lv_iload_n hx hb dX4_isFirstAtEnd_24 rfl (lv_at hl 2 rfl) ?_
    refine lv_aload_n hx hb dX4_isFirstAtEnd_25 rfl (lv_at hl 0 rfl) ?_
    refine r_getN (ci := 1) (v := .int (gV S12 2 b13 6)) (C := RX0) (T := TX0) (N := 9) hx hb hts hiX0 hown hK hw (ce_2 (S := S12) hk15) rfl 6 (by decide) (hNw _ (bNw_47)) (fun _ h9 => h9) rfl dX4_isFirstAtEnd_26 ?_
    refine lv_isub hx hb dX4_isFirstAtEnd_29 ?_
    refine lv_aload_n hx hb dX4_isFirstAtEnd_30 rfl (lv_at hl 0 rfl) ?_
    refine r_getN (ci := 1) (v := .int (gV S12 2 b13 7)) (C := RX0) (T := TX0) (N := 9) hx hb hts hiX0 hown hK hw (ce_2 (S := S12) hk15) rfl 7 (by decide) (hNw _ (bNw_48)) (fun _ h9 => h9) rfl dX4_isFirstAtEnd_31 ?_
    refine lv_icmp_lt (tgt := 41) hx hb dX4_isFirstAtEnd_34 (by decide) (fun hc => ?_) (fun hc => ?_)
    · have h := h.1 hc
      refine lv_iconst (v := (0 : Int32)) hx hb dX4_isFirstAtEnd_41 (by decide) ?_
      exact hB42 _ _ _ _ _ h hw hS (lv_sub hl [] rfl)
    · have h := h.2 hc
      refine lv_iconst (v := (1 : Int32)) hx hb dX4_isFirstAtEnd_37 (by decide) ?_
      refine lv_goto (tgt := 42) hx hb dX4_isFirstAtEnd_38 (by decide) ?_
      exact hB42 _ _ _ _ _ h hw hS (lv_sub hl [] rfl)
  · have h := h.2 hc
    refine lv_iconst (v := (0 : Int32)) hx hb dX4_isFirstAtEnd_10 (by decide) ?_
    exact hret _ _ _ _ _ _ (Or.inl rfl) h hw hS dX4_isFirstAtEnd_11
def wp_X5_init (post : bS → Prop) (MC MS : Nat) (this : Nat) (S : bS) : Prop := 1 ≤ MC ∧ 2 ≤ MS ∧ (∀ q1, gK S q1 = 0 → (∃ k6 n7, k6 ≤ (MC - 1) ∧ n7 ≤ (MS - 2) ∧ (wp_X2_init (fun S5 => gK S5 this = 7 ∧ (1 ≤ ((MC - 1) - k6) ∧ 3 ≤ ((MS - 2) - n7) ∧ (∀ q9, gK (sQ S5 7 this 0 (some q1)) q9 = 0 → (wp_Jx4a65c_init_da8c8 (fun S14 => gK S14 this = 7 ∧ (1 ≤ (((MC - 1) - k6) - 1) ∧ 3 ≤ (((MS - 2) - n7) - 3) ∧ (∀ q16, gK (sQ S14 7 this 1 (some q9)) q16 = 0 → (wp_Jx4a65c_init_da8c8 (fun S21 => gK S21 this = 7 ∧ (post (sV (sV (sV (sQ S21 7 this 2 (some q16)) 7 this 3 (0 : Int32)) 7 this 4 (0 : Int32)) 7 this 5 (0 : Int32)))) q16 (sNew (sQ S14 7 this 1 (some q9)) q16 1 0))))) q9 (sNew (sQ S5 7 this 0 (some q1)) q9 1 0))))) k6 n7 q1 (sNew S q1 4 0))))
set_option maxHeartbeats 4000000 in
set_option maxRecDepth 100000 in
theorem m_X5_init {l : Launch} {D : va_G} {y : Nat → ClassId} {z : Nat} {A : Nat → Prop} {S : bS} {post : bS → Prop} {MC MS : Nat} {this : Nat} (h : wp_X5_init post MC MS this S) : Met l yX5_init wsX5_init ({ frames := 5, cells := MC, slots := MS, locals := 100 } : Room) (va_Pc ([Value.ref this] : List Value) (bP D y z S A)) (va_Qv post (fun S' t => wd D y z S' A t.heap) A) MC MS A := by
  refine Met.ofW (cc := cX5_init) (maxL := 1) (ret := none) (by decide) rfl ?_
  intro p e s m args below meth c s₁ B hml hv
  obtain ⟨rfl, hB⟩ := hv
  have hx := B.exec
  have hb := B.bytes
  have hr := B.returns
  have hts := atoms_spec (ws := wsX5_init) B.pre
  have hown : s.vm.findClass RX5 = some m.cls := findClass_of_methodNamed B.named
  have hlocks := B.notSynchronized
  have hin : meth.name = "<init>" := (name_of_methodNamed B.named B.method).1
  have hw : wd D y z S A s.heap := hB.1
  have hK : va_K D bCl (bT y) s := hB.2.1
  have hNw := hB.2.2.1
  have hAn : ∀ q : Nat, s.heap.size ≤ q → A q := hB.2.2.2.1
  have hAz : ¬ A z := hB.2.2.2.2.1
  have hO := hB.2.2.2.2.2.1
  have hS : va_S A s.heap s.heap [] := va_S.rf
  have hiJx4a65c : ∀ w ∈ u_ws RJx4a65c TJx4a65c 3, w ∈ wsX5_init := by decide +kernel
  have hiX2 : ∀ w ∈ u_ws RX2 TX2 2, w ∈ wsX5_init := by decide +kernel
  have hiX5 : ∀ w ∈ u_ws RX5 TX5 6, w ∈ wsX5_init := by decide +kernel
  have hl := lv_entry ([Value.ref this] : List Value) (n := 1) (Nat.le_of_ble_eq_true rfl)
  rw [lg_entry_eq]
  generalize (lg_sl ([Value.ref this] : List Value) ++ List.replicate (1 - (lg_sl ([Value.ref this] : List Value)).length) Slot.unset).toArray = ls at hl ⊢
  have hl : lv_has ls 1 [(0, .ref this)] := hl
  obtain ⟨Q, hQ⟩ : ∃ Q, Q = MQ below (va_Qv post (fun S' t => wd D y z S' A t.heap) A) (([Value.ref this] : List Value).toArray) s MC MS A := ⟨_, rfl⟩
  rw [← hQ]
  generalize hR : (headSpec wsX5_init ({ frames := 5, cells := MC, slots := MS, locals := 100 } : Room)).room = R
  have hRf : 5 ≤ R.frames := by rw [← hR]; exact Nat.le_refl _
  have hRl : 100 ≤ R.locals := by rw [← hR]; exact Nat.le_refl _
  have hRc : R.cells = MC := by rw [← hR]; rfl
  have hRs : R.slots = MS := by rw [← hR]; rfl
  have hret : ∀ (S : bS) (H : Heap) (locs : List Loc) (pc : Nat) (ls : Array Slot) (cu su : Nat) , post S → wd D y z S A H → va_S A s.heap H locs → cu ≤ MC → su ≤ MS → decode cX5_init pc = .ok (.return_, 1) → W p l e R s m (([Value.ref this] : List Value).toArray) below meth c H locs cu su Q (F0 m pc ls []) := by
    intro S H locs pc ls cu su h hw hS hcu hsu d0
    rw [hQ]; refine W.widen hcu hsu ?_; exact W.vret hx hb hr (fun t ht hW => ⟨⟨S, rfl, h, by show wd D y z S A t.heap; rw [ht]; exact hw⟩, hS.F ht⟩) hS.2.2 d0 hlocks
  unfold wp_X5_init at h
  have hcu : 0 + MC ≤ MC := by omega
  have hsu : 0 + MS ≤ MS := by omega
  refine lv_aload_n hx hb dX5_init_0 rfl (lv_at hl 0 rfl) ?_
  refine W.objInit hx hb hown (hts (.methodLink RX5 1 objectInit) (by decide +kernel)) (hts (.instanceMethod objectInit) (by decide +kernel)) (hts (.code objectInit ⟨#[0xb1]⟩ 1 none) (by decide +kernel)) rfl (by rw [hml]; exact hl.1) rfl dX5_init_1 (Nat.le_trans (Nat.le_of_ble_eq_true rfl) hRf) (Nat.le_trans (Nat.le_of_ble_eq_true rfl) hRl) ?_
  refine W.eq (g2 := F0 m 4 ls []) rfl ?_
  refine lv_aload_n hx hb dX5_init_4 rfl (lv_at hl 0 rfl) ?_
  obtain ⟨hbg1, hbg2, h⟩ := h
  refine r_new (ci := 3) (C := RX2) (T := TX2) (N := 2) (κ := 4) (nn := 0) hx hb hts hiX2 tyX2 tyX2_ok hown (hts (.classLink RX5 7 RX2) (by decide +kernel)) (hts (.instantiable RX2 2) (by decide +kernel)) (hts (.initialized RX2) (by decide +kernel)) hK hw hS hAn hAz rfl pn_4 (Nat.le_of_ble_eq_true rfl) b_fs4 (by omega) (by omega) dX5_init_5 (fun q1 H hq2 hw hS => ?_)
  have h := h q1 hq2
  have hk3 : gK (sNew S q1 4 0) q1 = 4 := if_pos rfl
  have hcu : (0 + 1) + (MC - 1) ≤ MC := by omega
  have hsu : (0 + 2) + (MS - 2) ≤ MS := by omega
  refine lv_dup hx hb dX5_init_8 rfl ?_
  obtain ⟨k6, n7, hbg1, hbg2, h⟩ := h
  have h1 := h
  refine va_callv (va_runIN (As := []) (rest := [.ref q1, .ref this]) ⟨hx, hb, hml, hown, hts⟩ (m_X2_init (l := l) h1) ⟨va_cnB 0 hts gX5_init_X2_init_n9 rfl rfl rfl (hNw _ bNw_49) (hts (.initialized RX2) (by decide +kernel)) ⟨by decide +kernel, by decide +kernel, by decide +kernel⟩ ⟨Nat.le_trans (Nat.le_of_ble_eq_true rfl) hRf, Nat.le_trans (Nat.le_of_ble_eq_true rfl) hRl⟩, rfl, (hts (.instanceMethod yX2_init) (by decide +kernel))⟩ (r_pS hB hw hS) rfl rfl hl.1 rfl (lv_room (Nat.le_of_ble_eq_true rfl)) dX5_init_9 ⟨by omega, by omega⟩) hS (fun _ _ h => h) (fun _ h => h) (fun S5 t H1 locs ht _ h hw1 _ _ hS => ?_)
  subst ht
  have hw : wd D y z S5 A t.heap := hw1
  clear hw1 h1
  have hcu : ((0 + 1) + k6) + ((MC - 1) - k6) ≤ MC := by omega
  have hsu : ((0 + 2) + n7) + ((MS - 2) - n7) ≤ MS := by omega
  obtain ⟨hk8, h⟩ := h
  refine r_putQF (κ := 7) (ci := 6) (C := RX5) (T := TX5) (N := 6) (ty := (tyX5 0)) (x := (some q1)) hx hb hts hiX5 tyX5 tyX5_ok nmX5 hown hK hw hS (ce_7 (S := S5) hk8) rfl 0 (by decide) (hts (.fieldLink RX5 10 "TubePost" "net" "LTubePost$Net;") (by decide +kernel)) (fun _ h9 => h9) rfl hin rfl (by decide +kernel) rfl rfl (Nat.le_of_ble_eq_true rfl) (pu_7_0 (S := S5) hk8) dX5_init_12 (fun H locs hw hS => ?_)
  refine lv_aload_n hx hb dX5_init_15 rfl (lv_at hl 0 rfl) ?_
  obtain ⟨hbg1, hbg2, h⟩ := h
  refine r_new (ci := 0) (C := RJx4a65c) (T := TJx4a65c) (N := 3) (κ := 1) (nn := 0) hx hb hts hiJx4a65c tyJx4a65c tyJx4a65c_ok hown (hts (.classLink RX5 16 RJx4a65c) (by decide +kernel)) (hts (.instantiable RJx4a65c 3) (by decide +kernel)) (hts (.initialized RJx4a65c) (by decide +kernel)) hK hw hS hAn hAz rfl pn_1 (Nat.le_of_ble_eq_true rfl) b_fs1 (by omega) (by omega) dX5_init_16 (fun q9 H hq10 hw hS => ?_)
  have h := h q9 hq10
  have hk11 : gK (sNew (sQ S5 7 this 0 (some q1)) q9 1 0) this = 7 := b_old hk8 hq10 (by decide)
  have hk12 : gK (sNew (sQ S5 7 this 0 (some q1)) q9 1 0) q9 = 1 := if_pos rfl
  have hcu : (((0 + 1) + k6) + 1) + (((MC - 1) - k6) - 1) ≤ MC := by omega
  have hsu : (((0 + 2) + n7) + 3) + (((MS - 2) - n7) - 3) ≤ MS := by omega
  refine lv_dup hx hb dX5_init_19 rfl ?_
  have h1 := h
  refine va_callv (va_runI (As := []) (rest := [.ref q9, .ref this]) ⟨hx, hb, hml, hown, hts⟩ (m_Jx4a65c_init_da8c8 (l := l) h1) (cwI 0 hts gX5_init_Jx4a65c_init_da8c8 rfl rfl rfl (hts (.initialized RJx4a65c) (by decide +kernel)) (hts (.methodLink RX5 18 yJx4a65c_init_da8c8) (by decide +kernel)) (hts (.instanceMethod yJx4a65c_init_da8c8) (by decide +kernel)) rfl (by decide +kernel) ⟨Nat.le_trans (Nat.le_of_ble_eq_true rfl) hRf, Nat.le_trans (Nat.le_of_ble_eq_true rfl) hRl⟩) (r_pS hB hw hS) rfl rfl hl.1 rfl (lv_room (Nat.le_of_ble_eq_true rfl)) dX5_init_20 ⟨by omega, by omega⟩) hS (fun _ _ h => h) (fun _ h => h) (fun S14 t H1 locs ht _ h hw1 _ _ hS => ?_)
  subst ht
  have hw : wd D y z S14 A t.heap := hw1
  clear hw1 h1
  obtain ⟨hk15, h⟩ := h
  refine r_putQF (κ := 7) (ci := 6) (C := RX5) (T := TX5) (N := 6) (ty := (tyX5 1)) (x := (some q9)) hx hb hts hiX5 tyX5 tyX5_ok nmX5 hown hK hw hS (ce_7 (S := S14) hk15) rfl 1 (by decide) (hts (.fieldLink RX5 19 "TubePost" "entries" "Ljava/util/ArrayList;") (by decide +kernel)) (fun _ h9 => h9) rfl hin rfl (by decide +kernel) rfl rfl (Nat.le_of_ble_eq_true rfl) (pu_7_1 (S := S14) hk15) dX5_init_23 (fun H locs hw hS => ?_)
  refine lv_aload_n hx hb dX5_init_26 rfl (lv_at hl 0 rfl) ?_
  obtain ⟨hbg1, hbg2, h⟩ := h
  refine r_new (ci := 0) (C := RJx4a65c) (T := TJx4a65c) (N := 3) (κ := 1) (nn := 0) hx hb hts hiJx4a65c tyJx4a65c tyJx4a65c_ok hown (hts (.classLink RX5 16 RJx4a65c) (by decide +kernel)) (hts (.instantiable RJx4a65c 3) (by decide +kernel)) (hts (.initialized RJx4a65c) (by decide +kernel)) hK hw hS hAn hAz rfl pn_1 (Nat.le_of_ble_eq_true rfl) b_fs1 (by omega) (by omega) dX5_init_27 (fun q16 H hq17 hw hS => ?_)
  have h := h q16 hq17
  have hk18 : gK (sNew (sQ S14 7 this 1 (some q9)) q16 1 0) this = 7 := b_old hk15 hq17 (by decide)
  have hk19 : gK (sNew (sQ S14 7 this 1 (some q9)) q16 1 0) q16 = 1 := if_pos rfl
  have hcu : ((((0 + 1) + k6) + 1) + 1) + ((((MC - 1) - k6) - 1) - 1) ≤ MC := by omega
  have hsu : ((((0 + 2) + n7) + 3) + 3) + ((((MS - 2) - n7) - 3) - 3) ≤ MS := by omega
  refine lv_dup hx hb dX5_init_30 rfl ?_
  have h1 := h
  refine va_callv (va_runI (As := []) (rest := [.ref q16, .ref this]) ⟨hx, hb, hml, hown, hts⟩ (m_Jx4a65c_init_da8c8 (l := l) h1) (cwI 0 hts gX5_init_Jx4a65c_init_da8c8 rfl rfl rfl (hts (.initialized RJx4a65c) (by decide +kernel)) (hts (.methodLink RX5 18 yJx4a65c_init_da8c8) (by decide +kernel)) (hts (.instanceMethod yJx4a65c_init_da8c8) (by decide +kernel)) rfl (by decide +kernel) ⟨Nat.le_trans (Nat.le_of_ble_eq_true rfl) hRf, Nat.le_trans (Nat.le_of_ble_eq_true rfl) hRl⟩) (r_pS hB hw hS) rfl rfl hl.1 rfl (lv_room (Nat.le_of_ble_eq_true rfl)) dX5_init_31 ⟨by omega, by omega⟩) hS (fun _ _ h => h) (fun _ h => h) (fun S21 t H1 locs ht _ h hw1 _ _ hS => ?_)
  subst ht
  have hw : wd D y z S21 A t.heap := hw1
  clear hw1 h1
  obtain ⟨hk22, h⟩ := h
  refine r_putQF (κ := 7) (ci := 6) (C := RX5) (T := TX5) (N := 6) (ty := (tyX5 2)) (x := (some q16)) hx hb hts hiX5 tyX5 tyX5_ok nmX5 hown hK hw hS (ce_7 (S := S21) hk22) rfl 2 (by decide) (hts (.fieldLink RX5 23 "TubePost" "carriers" "Ljava/util/ArrayList;") (by decide +kernel)) (fun _ h9 => h9) rfl hin rfl (by decide +kernel) rfl rfl (Nat.le_of_ble_eq_true rfl) (pu_7_2 (S := S21) hk22) dX5_init_34 (fun H locs hw hS => ?_)
  refine lv_aload_n hx hb dX5_init_37 rfl (lv_at hl 0 rfl) ?_
  refine lv_iconst (v := (0 : Int32)) hx hb dX5_init_38 (by decide) ?_
  refine r_putI (κ := 7) (ci := 6) (C := RX5) (T := TX5) (N := 6) (ty := .int) (x := (0 : Int32)) hx hb hts hiX5 tyX5 tyX5_ok nmX5 hown hK hw hS (ce_7 (S := (sQ S21 7 this 2 (some q16))) hk22) rfl 3 (by decide) (hts (.fieldLink RX5 26 "TubePost" "tick" "I") (by decide +kernel)) (fun _ h9 => h9) rfl (by decide +kernel) rfl rfl (Nat.le_of_ble_eq_true rfl) (pu_7_3 (S := (sQ S21 7 this 2 (some q16))) hk22) dX5_init_39 (fun H locs hw hS => ?_)
  refine lv_aload_n hx hb dX5_init_42 rfl (lv_at hl 0 rfl) ?_
  refine lv_iconst (v := (0 : Int32)) hx hb dX5_init_43 (by decide) ?_
  refine r_putI (κ := 7) (ci := 6) (C := RX5) (T := TX5) (N := 6) (ty := .int) (x := (0 : Int32)) hx hb hts hiX5 tyX5 tyX5_ok nmX5 hown hK hw hS (ce_7 (S := (sV (sQ S21 7 this 2 (some q16)) 7 this 3 (0 : Int32))) hk22) rfl 4 (by decide) (hts (.fieldLink RX5 30 "TubePost" "delivered" "I") (by decide +kernel)) (fun _ h9 => h9) rfl (by decide +kernel) rfl rfl (Nat.le_of_ble_eq_true rfl) (pu_7_4 (S := (sV (sQ S21 7 this 2 (some q16)) 7 this 3 (0 : Int32))) hk22) dX5_init_44 (fun H locs hw hS => ?_)
  refine lv_aload_n hx hb dX5_init_47 rfl (lv_at hl 0 rfl) ?_
  refine lv_iconst (v := (0 : Int32)) hx hb dX5_init_48 (by decide) ?_
  refine r_putI (κ := 7) (ci := 6) (C := RX5) (T := TX5) (N := 6) (ty := .int) (x := (0 : Int32)) hx hb hts hiX5 tyX5 tyX5_ok nmX5 hown hK hw hS (ce_7 (S := (sV (sV (sQ S21 7 this 2 (some q16)) 7 this 3 (0 : Int32)) 7 this 4 (0 : Int32))) hk22) rfl 5 (by decide) (hts (.fieldLink RX5 33 "TubePost" "ticksUnderWay" "I") (by decide +kernel)) (fun _ h9 => h9) rfl (by decide +kernel) rfl rfl (Nat.le_of_ble_eq_true rfl) (pu_7_5 (S := (sV (sV (sQ S21 7 this 2 (some q16)) 7 this 3 (0 : Int32)) 7 this 4 (0 : Int32))) hk22) dX5_init_49 (fun H locs hw hS => ?_)
  exact hret _ _ _ _ _ _ _ h hw hS (by omega) (by omega) dX5_init_52
def wb_X5_isOutside_15 (post : Int32 → bS → Prop) (s0 : Int32) (S : bS) : Prop := (s0 = 0 ∨ s0 = 1) ∧ post s0 S
def wb_X5_isOutside_10 (post : Int32 → bS → Prop) (S : bS) : Prop := wb_X5_isOutside_15 post (1 : Int32) S
def wp_X5_isOutside (post : Int32 → bS → Prop) (p1 : Int32) (p2 : Int32) (p3 : Int32) (S : bS) : Prop := (p1 < p2 → wb_X5_isOutside_10 post S) ∧ (¬ (p1 < p2) → (p1 ≤ p3 → wb_X5_isOutside_15 post (0 : Int32) S) ∧ (¬ (p1 ≤ p3) → wb_X5_isOutside_10 post S))
set_option maxHeartbeats 4000000 in
set_option maxRecDepth 100000 in
theorem m_X5_isOutside {l : Launch} {D : va_G} {y : Nat → ClassId} {z : Nat} {A : Nat → Prop} {S : bS} {post : Int32 → bS → Prop} {p1 : Int32} {p2 : Int32} {p3 : Int32} (h : wp_X5_isOutside post p1 p2 p3 S) : Met l yX5_isOutside wsX5_isOutside ({ frames := 0, cells := 0, slots := 0, locals := 0 } : Room) (va_Pc ([Value.int p1, Value.int p2, Value.int p3] : List Value) (bP D y z S A)) (va_Qi post (fun S' t => wd D y z S' A t.heap) A) 0 0 A := by
  refine Met.ofW (cc := cX5_isOutside) (maxL := 3) (ret := (some .boolean)) (by decide) rfl ?_
  intro p e s m args below meth c s₁ B hml hv
  obtain ⟨rfl, hB⟩ := hv
  have hx := B.exec
  have hb := B.bytes
  have hr := B.returns
  have hts := atoms_spec (ws := wsX5_isOutside) B.pre
  have hown : s.vm.findClass RX5 = some m.cls := findClass_of_methodNamed B.named
  have hlocks := B.notSynchronized
  have hw : wd D y z S A s.heap := hB.1
  have hK : va_K D bCl (bT y) s := hB.2.1
  have hNw := hB.2.2.1
  have hAn : ∀ q : Nat, s.heap.size ≤ q → A q := hB.2.2.2.1
  have hAz : ¬ A z := hB.2.2.2.2.1
  have hO := hB.2.2.2.2.2.1
  have hS : va_S A s.heap s.heap [] := va_S.rf
  have hl := lv_entry ([Value.int p1, Value.int p2, Value.int p3] : List Value) (n := 3) (Nat.le_of_ble_eq_true rfl)
  rw [lg_entry_eq]
  generalize (lg_sl ([Value.int p1, Value.int p2, Value.int p3] : List Value) ++ List.replicate (3 - (lg_sl ([Value.int p1, Value.int p2, Value.int p3] : List Value)).length) Slot.unset).toArray = ls at hl ⊢
  have hl : lv_has ls 3 [(0, .int p1), (1, .int p2), (2, .int p3)] := hl
  obtain ⟨Q, hQ⟩ : ∃ Q, Q = MQ below (va_Qi post (fun S' t => wd D y z S' A t.heap) A) (([Value.int p1, Value.int p2, Value.int p3] : List Value).toArray) s 0 0 A := ⟨_, rfl⟩
  rw [← hQ]
  generalize hR : (headSpec wsX5_isOutside ({ frames := 0, cells := 0, slots := 0, locals := 0 } : Room)).room = R
  have hRf : 0 ≤ R.frames := by rw [← hR]; exact Nat.le_refl _
  have hRl : 0 ≤ R.locals := by rw [← hR]; exact Nat.le_refl _
  have hret : ∀ (v : Int32) (S : bS) (H : Heap) (locs : List Loc) (pc : Nat) (ls : Array Slot) , (v = 0 ∨ v = 1) → post v S → wd D y z S A H → va_S A s.heap H locs → decode cX5_isOutside pc = .ok (.ireturn, 1) → W p l e R s m (([Value.int p1, Value.int p2, Value.int p3] : List Value).toArray) below meth c H locs 0 0 Q (F0 m pc ls [.int v]) := by
    intro v S H locs pc ls hz h hw hS d0
    rw [hQ]; exact W.zret hx hb hr (b_nz hz) (fun t ht hW => ⟨⟨v, S, rfl, h, by show wd D y z S A t.heap; rw [ht]; exact hw⟩, hS.F ht⟩) hS.2.2 d0 hlocks
  have hB15 : ∀ (S : bS) (H : Heap) (locs : List Loc) (ls : Array Slot) (s0 : Int32), wb_X5_isOutside_15 post s0 S → wd D y z S A H → va_S A s.heap H locs → lv_has ls 3 [] → W p l e R s m (([Value.int p1, Value.int p2, Value.int p3] : List Value).toArray) below meth c H locs 0 0 Q (F0 m 15 ls [.int s0]) := by
    intro S H locs ls s0 h hw hS hl
    unfold wb_X5_isOutside_15 at h
    obtain ⟨hz, h⟩ := h
    exact hret _ _ _ _ _ _ hz h hw hS dX5_isOutside_15
  have hB10 : ∀ (S : bS) (H : Heap) (locs : List Loc) (ls : Array Slot) , wb_X5_isOutside_10 post S → wd D y z S A H → va_S A s.heap H locs → lv_has ls 3 [] → W p l e R s m (([Value.int p1, Value.int p2, Value.int p3] : List Value).toArray) below meth c H locs 0 0 Q (F0 m 10 ls []) := by
    intro S H locs ls  h hw hS hl
    unfold wb_X5_isOutside_10 at h
    refine lv_iconst (v := (1 : Int32)) hx hb dX5_isOutside_10 (by decide) ?_
    refine lv_goto (tgt := 15) hx hb dX5_isOutside_11 (by decide) ?_
    exact hB15 _ _ _ _ _ h hw hS (lv_sub hl [] rfl)
  unfold wp_X5_isOutside at h
  refine lv_iload_n hx hb dX5_isOutside_0 rfl (lv_at hl 0 rfl) ?_
  refine lv_iload_n hx hb dX5_isOutside_1 rfl (lv_at hl 1 rfl) ?_
  refine lv_icmp_lt (tgt := 10) hx hb dX5_isOutside_2 (by decide) (fun hc => ?_) (fun hc => ?_)
  · have h := h.1 hc
    exact hB10 _ _ _ _ h hw hS (lv_sub hl [] rfl)
  · have h := h.2 hc
    refine lv_iload_n hx hb dX5_isOutside_5 rfl (lv_at hl 0 rfl) ?_
    refine lv_iload_n hx hb dX5_isOutside_6 rfl (lv_at hl 2 rfl) ?_
    refine lv_icmp_le (tgt := 14) hx hb dX5_isOutside_7 (by decide) (fun hc => ?_) (fun hc => ?_)
    · have h := h.1 hc
      refine lv_iconst (v := (0 : Int32)) hx hb dX5_isOutside_14 (by decide) ?_
      exact hB15 _ _ _ _ _ h hw hS (lv_sub hl [] rfl)
    · have h := h.2 hc
      exact hB10 _ _ _ _ h hw hS (lv_sub hl [] rfl)
def wb_X5_addStation_20 (post : Int32 → bS → Prop) (xp : String → bS → Prop) (mc ms : Nat) (S : bS) : Prop := 1 ≤ mc ∧ 6 ≤ ms ∧ xp "java/lang/IllegalArgumentException" S
def wp_X5_addStation (post : Int32 → bS → Prop) (xp : String → bS → Prop) (MC MS : Nat) (this : Nat) (p1 : Int32) (p2 : Int32) (S : bS) : Prop := wp_X5_isOutside (fun r1 S2 => (r1 ≠ (0 : Int32) → wb_X5_addStation_20 post xp MC MS S2) ∧ (r1 = (0 : Int32) → wp_X5_isOutside (fun r3 S4 => (r3 = (0 : Int32) → gK S4 this = 7 ∧ (∃ b6, gQ S4 7 this 0 = some b6 ∧ (gK S4 b6 = 4 ∧ (∃ b9, gQ S4 4 b6 0 = some b9 ∧ (gK S4 b9 = 1 ∧ (wp_Jx4a65c_size_8abf5 (fun r12 S13 => (r12 < (14 : Int32) → gK S13 this = 7 ∧ (∃ b15, gQ S13 7 this 0 = some b15 ∧ (gK S13 b15 = 4 ∧ (∃ k20 n21, k20 ≤ MC ∧ n21 ≤ MS ∧ (wp_X2_build (fun r18 S19 => post r18 S19) k20 n21 b15 p1 p2 S13))))) ∧ (¬ (r12 < (14 : Int32)) → 1 ≤ MC ∧ 6 ≤ MS ∧ xp "java/lang/IllegalStateException" S13)) b9 S4)))))) ∧ (¬ (r3 = (0 : Int32)) → wb_X5_addStation_20 post xp MC MS S4)) p2 (0 : Int32) (20 : Int32) S2)) p1 (1 : Int32) (9 : Int32) S
set_option maxHeartbeats 4000000 in
set_option maxRecDepth 100000 in
theorem m_X5_addStation {l : Launch} {D : va_G} {y : Nat → ClassId} {z : Nat} {A : Nat → Prop} {S : bS} {post : Int32 → bS → Prop} {xp : String → bS → Prop} (hl0 : l.stackTraces = false) {MC MS : Nat} {this : Nat} {p1 : Int32} {p2 : Int32} (h : wp_X5_addStation post xp MC MS this p1 p2 S) : vx_Met l yX5_addStation wsX5_addStation ({ frames := 8, cells := MC, slots := MS, locals := 400 } : Room) (va_Pc ([Value.ref this, Value.int p1, Value.int p2] : List Value) (bP D y z S A)) (va_Qi post (fun S' t => wd D y z S' A t.heap) A) (bX D y z A xp) MC MS A := by
  refine vx_ofW (cc := cX5_addStation) (maxL := 3) (ret := (some .int)) (by decide) rfl ?_
  intro p e s m args below meth c s₁ B hml hex hv
  obtain ⟨rfl, hB⟩ := hv
  have hx := B.exec
  have hb := B.bytes
  have hr := B.returns
  have hts := atoms_spec (ws := wsX5_addStation) B.pre
  have hown : s.vm.findClass RX5 = some m.cls := findClass_of_methodNamed B.named
  have hlocks := B.notSynchronized
  have hw : wd D y z S A s.heap := hB.1
  have hK : va_K D bCl (bT y) s := hB.2.1
  have hNw := hB.2.2.1
  have hAn : ∀ q : Nat, s.heap.size ≤ q → A q := hB.2.2.2.1
  have hAz : ¬ A z := hB.2.2.2.2.1
  have hO := hB.2.2.2.2.2.1
  have hS : va_S A s.heap s.heap [] := va_S.rf
  have hiX2 : ∀ w ∈ u_ws RX2 TX2 2, w ∈ wsX5_addStation := by decide +kernel
  have hiX5 : ∀ w ∈ u_ws RX5 TX5 6, w ∈ wsX5_addStation := by decide +kernel
  have hl := lv_entry ([Value.ref this, Value.int p1, Value.int p2] : List Value) (n := 3) (Nat.le_of_ble_eq_true rfl)
  rw [lg_entry_eq]
  generalize (lg_sl ([Value.ref this, Value.int p1, Value.int p2] : List Value) ++ List.replicate (3 - (lg_sl ([Value.ref this, Value.int p1, Value.int p2] : List Value)).length) Slot.unset).toArray = ls at hl ⊢
  have hl : lv_has ls 3 [(0, .ref this), (1, .int p1), (2, .int p2)] := hl
  obtain ⟨Q, hQ⟩ : ∃ Q, Q = vx_MQ below (va_Qi post (fun S' t => wd D y z S' A t.heap) A) (bX D y z A xp) (([Value.ref this, Value.int p1, Value.int p2] : List Value).toArray) s MC MS A := ⟨_, rfl⟩
  rw [← hQ]
  generalize hR : (headSpec wsX5_addStation ({ frames := 8, cells := MC, slots := MS, locals := 400 } : Room)).room = R
  have hRf : 8 ≤ R.frames := by rw [← hR]; exact Nat.le_refl _
  have hRl : 400 ≤ R.locals := by rw [← hR]; exact Nat.le_refl _
  have hRc : R.cells = MC := by rw [← hR]; rfl
  have hRs : R.slots = MS := by rw [← hR]; rfl
  have hret : ∀ (v : Int32) (S : bS) (H : Heap) (locs : List Loc) (pc : Nat) (ls : Array Slot) (cu su : Nat) , post v S → wd D y z S A H → va_S A s.heap H locs → cu ≤ MC → su ≤ MS → decode cX5_addStation pc = .ok (.ireturn, 1) → W p l e R s m (([Value.ref this, Value.int p1, Value.int p2] : List Value).toArray) below meth c H locs cu su Q (F0 m pc ls [.int v]) := by
    intro v S H locs pc ls cu su h hw hS hcu hsu d0
    rw [hQ]; refine vx_ret ?_; refine W.widen hcu hsu ?_; exact W.iret hx hb hr (fun t ht hW => ⟨⟨v, S, rfl, h, by show wd D y z S A t.heap; rw [ht]; exact hw⟩, hS.F ht⟩) hS.2.2 d0 hlocks
  have hB20 : ∀ (S : bS) (H : Heap) (locs : List Loc) (ls : Array Slot) (mc ms cu su : Nat) , wb_X5_addStation_20 post xp mc ms S → wd D y z S A H → va_S A s.heap H locs → lv_has ls 3 [] → cu + mc ≤ MC → su + ms ≤ MS → W p l e R s m (([Value.ref this, Value.int p1, Value.int p2] : List Value).toArray) below meth c H locs cu su Q (F0 m 20 ls []) := by
    intro S H locs ls mc ms cu su  h hw hS hl hcu hsu
    unfold wb_X5_addStation_20 at h
    obtain ⟨hbg1, hbg2, h⟩ := h
    obtain ⟨sa9, hsa9⟩ := b_str hB 7 rfl
    rw [hQ]
    exact vx_throwS (names := ["java/lang/RuntimeException", "java/lang/Exception"]) hx hb hl0 hown (by decide +kernel) (by decide +kernel) (hts (.classLink RX5 40 "java/lang/IllegalArgumentException") (by decide +kernel)) (hts (.initialized "java/lang/IllegalArgumentException") (by decide +kernel)) hsa9 (b_hat (fun w hw9 => hts w ((by decide +kernel : ∀ w ∈ (vx_atS RX5 44 "java/lang/IllegalArgumentException" ["java/lang/RuntimeException", "java/lang/Exception"]).filter goodWord, w ∈ wsX5_addStation) w hw9)) (by decide +kernel) hB) (by decide +kernel) (b_U hB) (b_N hB) hS (by rw [hml]; exact hl.1) dX5_addStation_20 dX5_addStation_23 dX5_addStation_24 dX5_addStation_26 dX5_addStation_29 (fun x hx => (hex x hx).elim) (Nat.lt_of_lt_of_le (by decide) hRf) (Nat.le_trans (Nat.le_of_ble_eq_true rfl) hRl) (by omega) (by omega) hlocks (fun t9 ha9 hz9 hk9 => ⟨S, trivial, ⟨h, b_grow hw hz9 hk9⟩, b_growF hS hz9 hk9⟩) hS.2.2 (by omega) (by omega)
  unfold wp_X5_addStation at h
  have hcu : 0 + MC ≤ MC := by omega
  have hsu : 0 + MS ≤ MS := by omega
  refine lv_iload_n hx hb dX5_addStation_0 rfl (lv_at hl 1 rfl) ?_
  refine lv_iconst (v := (1 : Int32)) hx hb dX5_addStation_1 (by decide) ?_
  refine lv_bipush (v := (9 : Int32)) hx hb dX5_addStation_2 (by decide) ?_
  have h1 := h
  refine va_calli (va_runS (As := [.int p1, .int (1 : Int32), .int (9 : Int32)]) (rest := []) ⟨hx, hb, hml, hown, hts⟩ (m_X5_isOutside (l := l) h1) (cwS 3 hts gX5_addStation_X5_isOutside rfl rfl rfl (by decide +kernel) ⟨Nat.le_trans (Nat.le_of_ble_eq_true rfl) hRf, Nat.le_trans (Nat.le_of_ble_eq_true rfl) hRl⟩) (r_pS hB hw hS) rfl rfl hl.1 rfl (lv_room (Nat.le_of_ble_eq_true rfl)) dX5_addStation_4 ⟨by omega, by omega⟩) hS (fun _ _ h => h) (fun _ h => h) (fun r1 S2 t H1 locs ht _ h hw1 _ _ hS => ?_)
  subst ht
  have hw : wd D y z S2 A t.heap := hw1
  clear hw1 h1
  refine lv_if_ne (tgt := 20) hx hb dX5_addStation_7 (by decide) (fun hc => ?_) (fun hc => ?_)
  · have h := h.1 hc
    exact hB20 _ _ _ _ _ _ _ _ h hw hS (lv_sub hl [] rfl) hcu hsu
  · have h := h.2 hc
    refine lv_iload_n hx hb dX5_addStation_10 rfl (lv_at hl 2 rfl) ?_
    refine lv_iconst (v := (0 : Int32)) hx hb dX5_addStation_11 (by decide) ?_
    refine lv_bipush (v := (20 : Int32)) hx hb dX5_addStation_12 (by decide) ?_
    have h1 := h
    refine va_calli (va_runS (As := [.int p2, .int (0 : Int32), .int (20 : Int32)]) (rest := []) ⟨hx, hb, hml, hown, hts⟩ (m_X5_isOutside (l := l) h1) (cwS 3 hts gX5_addStation_X5_isOutside rfl rfl rfl (by decide +kernel) ⟨Nat.le_trans (Nat.le_of_ble_eq_true rfl) hRf, Nat.le_trans (Nat.le_of_ble_eq_true rfl) hRl⟩) (r_pS hB hw hS) rfl rfl hl.1 rfl (lv_room (Nat.le_of_ble_eq_true rfl)) dX5_addStation_14 ⟨by omega, by omega⟩) hS (fun _ _ h => h) (fun _ h => h) (fun r3 S4 t H1 locs ht _ h hw1 _ _ hS => ?_)
    subst ht
    have hw : wd D y z S4 A t.heap := hw1
    clear hw1 h1
    refine lv_if_eq (tgt := 30) hx hb dX5_addStation_17 (by decide) (fun hc => ?_) (fun hc => ?_)
    · have h := h.1 hc
      refine lv_aload_n hx hb dX5_addStation_30 rfl (lv_at hl 0 rfl) ?_
      obtain ⟨hk5, h⟩ := h
      obtain ⟨b6, hb7, h⟩ := h
      refine r_get (ci := 6) (v := .ref b6) (C := RX5) (T := TX5) (N := 6) hx hb hts hiX5 hown hK hw (ce_7 (S := S4) hk5) rfl 0 (by decide) (hts (.fieldLink RX5 10 "TubePost" "net" "LTubePost$Net;") (by decide +kernel)) (fun _ h9 => h9) (congrArg (fun q => some (va_rf q)) hb7) dX5_addStation_31 ?_
      obtain ⟨hk8, h⟩ := h
      obtain ⟨b9, hb10, h⟩ := h
      refine r_getN (ci := 3) (v := .ref b9) (C := RX2) (T := TX2) (N := 2) hx hb hts hiX2 hown hK hw (ce_4 (S := S4) hk8) rfl 0 (by decide) (hNw _ (bNw_0)) (fun _ h9 => h9) (congrArg (fun q => some (va_rf q)) hb10) dX5_addStation_34 ?_
      obtain ⟨hk11, h⟩ := h
      have h1 := h
      refine va_calli (va_runV (As := []) (rest := []) ⟨hx, hb, hml, hown, hts⟩ (m_Jx4a65c_size_8abf5 (l := l) h1) (cwV 0 hts gX5_addStation_Jx4a65c_size_8abf5 rfl rfl rfl (by decide +kernel) ⟨Nat.le_trans (Nat.le_of_ble_eq_true rfl) hRf, Nat.le_trans (Nat.le_of_ble_eq_true rfl) hRl⟩) (r_pV hB hw hS (ce_1 (S := S4) hk11) rfl) rfl rfl hl.1 rfl (lv_room (Nat.le_of_ble_eq_true rfl)) dX5_addStation_37 ⟨by omega, by omega⟩) hS (fun _ _ h => h) (fun _ h => h) (fun r12 S13 t H1 locs ht _ h hw1 _ _ hS => ?_)
      subst ht
      have hw : wd D y z S13 A t.heap := hw1
      clear hw1 h1
      refine lv_bipush (v := (14 : Int32)) hx hb dX5_addStation_40 (by decide) ?_
      refine lv_icmp_lt (tgt := 55) hx hb dX5_addStation_42 (by decide) (fun hc => ?_) (fun hc => ?_)
      · have h := h.1 hc
        refine lv_aload_n hx hb dX5_addStation_55 rfl (lv_at hl 0 rfl) ?_
        obtain ⟨hk14, h⟩ := h
        obtain ⟨b15, hb16, h⟩ := h
        refine r_get (ci := 6) (v := .ref b15) (C := RX5) (T := TX5) (N := 6) hx hb hts hiX5 hown hK hw (ce_7 (S := S13) hk14) rfl 0 (by decide) (hts (.fieldLink RX5 10 "TubePost" "net" "LTubePost$Net;") (by decide +kernel)) (fun _ h9 => h9) (congrArg (fun q => some (va_rf q)) hb16) dX5_addStation_56 ?_
        refine lv_iload_n hx hb dX5_addStation_59 rfl (lv_at hl 1 rfl) ?_
        refine lv_iload_n hx hb dX5_addStation_60 rfl (lv_at hl 2 rfl) ?_
        obtain ⟨hk17, h⟩ := h
        obtain ⟨k20, n21, hbg1, hbg2, h⟩ := h
        have h1 := h
        refine va_calli (va_runVN (As := [.int p1, .int p2]) (rest := []) ⟨hx, hb, hml, hown, hts⟩ (m_X2_build (l := l) h1) ⟨va_cnB 2 hts gX5_addStation_X2_build_n59 rfl rfl rfl (hNw _ bNw_50) (hts (.initialized RX2) (by decide +kernel)) ⟨by decide +kernel, by decide +kernel, by decide +kernel⟩ ⟨Nat.le_trans (Nat.le_of_ble_eq_true rfl) hRf, Nat.le_trans (Nat.le_of_ble_eq_true rfl) hRl⟩, (hts (.instanceMethod yX2_build) (by decide +kernel)), hts (.selects RX2 yX2_build yX2_build) (by decide +kernel)⟩ (r_pV hB hw hS (ce_4 (S := S13) hk17) rfl) rfl rfl hl.1 rfl (lv_room (Nat.le_of_ble_eq_true rfl)) dX5_addStation_61 ⟨by omega, by omega⟩) hS (fun _ _ h => h) (fun _ h => h) (fun r18 S19 t H1 locs ht _ h hw1 _ _ hS => ?_)
        subst ht
        have hw : wd D y z S19 A t.heap := hw1
        clear hw1 h1
        have hcu : (0 + k20) + (MC - k20) ≤ MC := by omega
        have hsu : (0 + n21) + (MS - n21) ≤ MS := by omega
        exact hret r18 _ _ _ _ _ _ _ h hw hS (by omega) (by omega) dX5_addStation_64
      · have h := h.2 hc
        obtain ⟨hbg1, hbg2, h⟩ := h
        obtain ⟨sa9, hsa9⟩ := b_str hB 8 rfl
        rw [hQ]
        exact vx_throwS (names := ["java/lang/RuntimeException", "java/lang/Exception"]) hx hb hl0 hown (by decide +kernel) (by decide +kernel) (hts (.classLink RX5 54 "java/lang/IllegalStateException") (by decide +kernel)) (hts (.initialized "java/lang/IllegalStateException") (by decide +kernel)) hsa9 (b_hat (fun w hw9 => hts w ((by decide +kernel : ∀ w ∈ (vx_atS RX5 58 "java/lang/IllegalStateException" ["java/lang/RuntimeException", "java/lang/Exception"]).filter goodWord, w ∈ wsX5_addStation) w hw9)) (by decide +kernel) hB) (by decide +kernel) (b_U hB) (b_N hB) hS (by rw [hml]; exact hl.1) dX5_addStation_45 dX5_addStation_48 dX5_addStation_49 dX5_addStation_51 dX5_addStation_54 (fun x hx => (hex x hx).elim) (Nat.lt_of_lt_of_le (by decide) hRf) (Nat.le_trans (Nat.le_of_ble_eq_true rfl) hRl) (by omega) (by omega) hlocks (fun t9 ha9 hz9 hk9 => ⟨S13, trivial, ⟨h, b_grow hw hz9 hk9⟩, b_growF hS hz9 hk9⟩) hS.2.2 (by omega) (by omega)
    · have h := h.2 hc
      exact hB20 _ _ _ _ _ _ _ _ h hw hS (lv_sub hl [] rfl) hcu hsu
def wp_X5_knownStation (post : Option Nat → bS → Prop) (xp : String → bS → Prop) (MC MS : Nat) (this : Nat) (p1 : Int32) (S : bS) : Prop := gK S this = 7 ∧ (∃ b2, gQ S 7 this 0 = some b2 ∧ (gK S b2 = 4 ∧ (wp_X2_hasStation (fun r5 S6 => (r5 ≠ (0 : Int32) → gK S6 this = 7 ∧ (∃ b8, gQ S6 7 this 0 = some b8 ∧ (gK S6 b8 = 4 ∧ (∃ b11, gQ S6 4 b8 0 = some b11 ∧ (gK S6 b11 = 1 ∧ (wp_Jx4a65c_get_915e3 (fun r14 S15 => ∃ b16, r14 = some b16 ∧ (gK S15 b16 = 5 ∧ (post (some b16) S15))) b11 p1 S6)))))) ∧ (r5 = (0 : Int32) → 1 ≤ MC ∧ 6 ≤ MS ∧ xp "java/lang/IndexOutOfBoundsException" S6)) b2 p1 S)))
set_option maxHeartbeats 4000000 in
set_option maxRecDepth 100000 in
theorem m_X5_knownStation {l : Launch} {D : va_G} {y : Nat → ClassId} {z : Nat} {A : Nat → Prop} {S : bS} {post : Option Nat → bS → Prop} {xp : String → bS → Prop} (hl0 : l.stackTraces = false) {MC MS : Nat} {this : Nat} {p1 : Int32} (h : wp_X5_knownStation post xp MC MS this p1 S) : vx_Met l yX5_knownStation wsX5_knownStation ({ frames := 8, cells := MC, slots := MS, locals := 400 } : Room) (va_Pc ([Value.ref this, Value.int p1] : List Value) (bP D y z S A)) (va_Qq post (fun S' t => wd D y z S' A t.heap) A) (bX D y z A xp) MC MS A := by
  refine vx_ofW (cc := cX5_knownStation) (maxL := 2) (ret := (some (.object "TubePost$Station"))) (by decide) rfl ?_
  intro p e s m args below meth c s₁ B hml hex hv
  obtain ⟨rfl, hB⟩ := hv
  have hx := B.exec
  have hb := B.bytes
  have hr := B.returns
  have hts := atoms_spec (ws := wsX5_knownStation) B.pre
  have hown : s.vm.findClass RX5 = some m.cls := findClass_of_methodNamed B.named
  have hlocks := B.notSynchronized
  have hw : wd D y z S A s.heap := hB.1
  have hK : va_K D bCl (bT y) s := hB.2.1
  have hNw := hB.2.2.1
  have hAn : ∀ q : Nat, s.heap.size ≤ q → A q := hB.2.2.2.1
  have hAz : ¬ A z := hB.2.2.2.2.1
  have hO := hB.2.2.2.2.2.1
  have hS : va_S A s.heap s.heap [] := va_S.rf
  have hiX2 : ∀ w ∈ u_ws RX2 TX2 2, w ∈ wsX5_knownStation := by decide +kernel
  have hiX5 : ∀ w ∈ u_ws RX5 TX5 6, w ∈ wsX5_knownStation := by decide +kernel
  have hl := lv_entry ([Value.ref this, Value.int p1] : List Value) (n := 2) (Nat.le_of_ble_eq_true rfl)
  rw [lg_entry_eq]
  generalize (lg_sl ([Value.ref this, Value.int p1] : List Value) ++ List.replicate (2 - (lg_sl ([Value.ref this, Value.int p1] : List Value)).length) Slot.unset).toArray = ls at hl ⊢
  have hl : lv_has ls 2 [(0, .ref this), (1, .int p1)] := hl
  obtain ⟨Q, hQ⟩ : ∃ Q, Q = vx_MQ below (va_Qq post (fun S' t => wd D y z S' A t.heap) A) (bX D y z A xp) (([Value.ref this, Value.int p1] : List Value).toArray) s MC MS A := ⟨_, rfl⟩
  rw [← hQ]
  generalize hR : (headSpec wsX5_knownStation ({ frames := 8, cells := MC, slots := MS, locals := 400 } : Room)).room = R
  have hRf : 8 ≤ R.frames := by rw [← hR]; exact Nat.le_refl _
  have hRl : 400 ≤ R.locals := by rw [← hR]; exact Nat.le_refl _
  have hRc : R.cells = MC := by rw [← hR]; rfl
  have hRs : R.slots = MS := by rw [← hR]; rfl
  have hret : ∀ (v : Option Nat) (S : bS) (H : Heap) (locs : List Loc) (pc : Nat) (ls : Array Slot) (cu su : Nat) , post v S → wd D y z S A H → va_S A s.heap H locs → cu ≤ MC → su ≤ MS → decode cX5_knownStation pc = .ok (.areturn, 1) → W p l e R s m (([Value.ref this, Value.int p1] : List Value).toArray) below meth c H locs cu su Q (F0 m pc ls [va_rf v]) := by
    intro v S H locs pc ls cu su h hw hS hcu hsu d0
    rw [hQ]; refine vx_ret ?_; refine W.widen hcu hsu ?_; exact W.aret hx hb hr (by first | exact Or.inl ⟨_, rfl⟩ | exact Or.inr ⟨_, rfl⟩) (by cases v with | none => exact Or.inl rfl | some a => exact Or.inr ⟨a, rfl⟩) (fun t ht hW => ⟨⟨v, S, rfl, h, by show wd D y z S A t.heap; rw [ht]; exact hw⟩, hS.F ht⟩) hS.2.2 d0 hlocks
  unfold wp_X5_knownStation at h
  have hcu : 0 + MC ≤ MC := by omega
  have hsu : 0 + MS ≤ MS := by omega
  refine lv_aload_n hx hb dX5_knownStation_0 rfl (lv_at hl 0 rfl) ?_
  obtain ⟨hk1, h⟩ := h
  obtain ⟨b2, hb3, h⟩ := h
  refine r_get (ci := 6) (v := .ref b2) (C := RX5) (T := TX5) (N := 6) hx hb hts hiX5 hown hK hw (ce_7 (S := S) hk1) rfl 0 (by decide) (hts (.fieldLink RX5 10 "TubePost" "net" "LTubePost$Net;") (by decide +kernel)) (fun _ h9 => h9) (congrArg (fun q => some (va_rf q)) hb3) dX5_knownStation_1 ?_
  refine lv_iload_n hx hb dX5_knownStation_4 rfl (lv_at hl 1 rfl) ?_
  obtain ⟨hk4, h⟩ := h
  have h1 := h
  refine va_calli (va_runVN (As := [.int p1]) (rest := []) ⟨hx, hb, hml, hown, hts⟩ (m_X2_hasStation (l := l) h1) ⟨va_cnB 1 hts gX5_knownStation_X2_hasStation_n278 rfl rfl rfl (hNw _ bNw_59) (hts (.initialized RX2) (by decide +kernel)) ⟨by decide +kernel, by decide +kernel, by decide +kernel⟩ ⟨Nat.le_trans (Nat.le_of_ble_eq_true rfl) hRf, Nat.le_trans (Nat.le_of_ble_eq_true rfl) hRl⟩, (hts (.instanceMethod yX2_hasStation) (by decide +kernel)), hts (.selects RX2 yX2_hasStation yX2_hasStation) (by decide +kernel)⟩ (r_pV hB hw hS (ce_4 (S := S) hk4) rfl) rfl rfl hl.1 rfl (lv_room (Nat.le_of_ble_eq_true rfl)) dX5_knownStation_5 ⟨by omega, by omega⟩) hS (fun _ _ h => h) (fun _ h => h) (fun r5 S6 t H1 locs ht _ h hw1 _ _ hS => ?_)
  subst ht
  have hw : wd D y z S6 A t.heap := hw1
  clear hw1 h1
  refine lv_if_ne (tgt := 22) hx hb dX5_knownStation_8 (by decide) (fun hc => ?_) (fun hc => ?_)
  · have h := h.1 hc
    refine lv_aload_n hx hb dX5_knownStation_22 rfl (lv_at hl 0 rfl) ?_
    obtain ⟨hk7, h⟩ := h
    obtain ⟨b8, hb9, h⟩ := h
    refine r_get (ci := 6) (v := .ref b8) (C := RX5) (T := TX5) (N := 6) hx hb hts hiX5 hown hK hw (ce_7 (S := S6) hk7) rfl 0 (by decide) (hts (.fieldLink RX5 10 "TubePost" "net" "LTubePost$Net;") (by decide +kernel)) (fun _ h9 => h9) (congrArg (fun q => some (va_rf q)) hb9) dX5_knownStation_23 ?_
    obtain ⟨hk10, h⟩ := h
    obtain ⟨b11, hb12, h⟩ := h
    refine r_getN (ci := 3) (v := .ref b11) (C := RX2) (T := TX2) (N := 2) hx hb hts hiX2 hown hK hw (ce_4 (S := S6) hk10) rfl 0 (by decide) (hNw _ (bNw_0)) (fun _ h9 => h9) (congrArg (fun q => some (va_rf q)) hb12) dX5_knownStation_26 ?_
    refine lv_iload_n hx hb dX5_knownStation_29 rfl (lv_at hl 1 rfl) ?_
    obtain ⟨hk13, h⟩ := h
    have h1 := h
    refine va_callq (va_runV (As := [.int p1]) (rest := []) ⟨hx, hb, hml, hown, hts⟩ (m_Jx4a65c_get_915e3 (l := l) h1) (cwV 1 hts gX5_knownStation_Jx4a65c_get_915e3 rfl rfl rfl (by decide +kernel) ⟨Nat.le_trans (Nat.le_of_ble_eq_true rfl) hRf, Nat.le_trans (Nat.le_of_ble_eq_true rfl) hRl⟩) (r_pV hB hw hS (ce_1 (S := S6) hk13) rfl) rfl rfl hl.1 rfl (lv_room (Nat.le_of_ble_eq_true rfl)) dX5_knownStation_30 ⟨by omega, by omega⟩) hS (fun _ _ h => h) (fun _ h => h) (fun r14 S15 t H1 locs ht _ h hw1 _ _ hS => ?_)
    subst ht
    have hw : wd D y z S15 A t.heap := hw1
    clear hw1 h1
    obtain ⟨b16, rfl, h⟩ := h
    refine W.eq (g2 := F0 m 33 ls [.ref b16]) rfl ?_
    obtain ⟨hk18, h⟩ := h
    refine r_cast hx hb hown (hts (.classLink RX5 77 "TubePost$Station") (by decide +kernel)) hK hw (ce_5 hk18) rfl dX5_knownStation_33 ?_
    exact hret (some b16) _ _ _ _ _ _ _ h hw hS (by omega) (by omega) dX5_knownStation_36
  · have h := h.2 hc
    obtain ⟨hbg1, hbg2, h⟩ := h
    obtain ⟨sa9, hsa9⟩ := b_str hB 1 rfl
    rw [hQ]
    exact vx_throwSW (names := ["java/lang/RuntimeException", "java/lang/Exception"]) hx hb hl0 hown (by decide +kernel) (by decide +kernel) (hts (.classLink RX5 127 "java/lang/IndexOutOfBoundsException") (by decide +kernel)) (hts (.initialized "java/lang/IndexOutOfBoundsException") (by decide +kernel)) hsa9 (b_hat (fun w hw9 => hts w ((by decide +kernel : ∀ w ∈ (vx_atS RX5 131 "java/lang/IndexOutOfBoundsException" ["java/lang/RuntimeException", "java/lang/Exception"]).filter goodWord, w ∈ wsX5_knownStation) w hw9)) (by decide +kernel) hB) (by decide +kernel) (b_U hB) (b_N hB) hS (by rw [hml]; exact hl.1) dX5_knownStation_11 dX5_knownStation_14 dX5_knownStation_15 dX5_knownStation_18 dX5_knownStation_21 (fun x hx => (hex x hx).elim) (Nat.lt_of_lt_of_le (by decide) hRf) (Nat.le_trans (Nat.le_of_ble_eq_true rfl) hRl) (by omega) (by omega) hlocks (fun t9 ha9 hz9 hk9 => ⟨S6, trivial, ⟨h, b_grow hw hz9 hk9⟩, b_growF hS hz9 hk9⟩) hS.2.2 (by omega) (by omega)
def wp_X5_refuseWrongSpeed (post : bS → Prop) (xp : String → bS → Prop) (MC MS : Nat) (p1 : Int32) (S : bS) : Prop := wp_X5_isOutside (fun r1 S2 => (r1 = (0 : Int32) → post S2) ∧ (¬ (r1 = (0 : Int32)) → 1 ≤ MC ∧ 6 ≤ MS ∧ xp "java/lang/IllegalArgumentException" S2)) p1 (1 : Int32) (6 : Int32) S
set_option maxHeartbeats 4000000 in
set_option maxRecDepth 100000 in
theorem m_X5_refuseWrongSpeed {l : Launch} {D : va_G} {y : Nat → ClassId} {z : Nat} {A : Nat → Prop} {S : bS} {post : bS → Prop} {xp : String → bS → Prop} (hl0 : l.stackTraces = false) {MC MS : Nat} {p1 : Int32} (h : wp_X5_refuseWrongSpeed post xp MC MS p1 S) : vx_Met l yX5_refuseWrongSpeed wsX5_refuseWrongSpeed ({ frames := 8, cells := MC, slots := MS, locals := 400 } : Room) (va_Pc ([Value.int p1] : List Value) (bP D y z S A)) (va_Qv post (fun S' t => wd D y z S' A t.heap) A) (bX D y z A xp) MC MS A := by
  refine vx_ofW (cc := cX5_refuseWrongSpeed) (maxL := 1) (ret := none) (by decide) rfl ?_
  intro p e s m args below meth c s₁ B hml hex hv
  obtain ⟨rfl, hB⟩ := hv
  have hx := B.exec
  have hb := B.bytes
  have hr := B.returns
  have hts := atoms_spec (ws := wsX5_refuseWrongSpeed) B.pre
  have hown : s.vm.findClass RX5 = some m.cls := findClass_of_methodNamed B.named
  have hlocks := B.notSynchronized
  have hw : wd D y z S A s.heap := hB.1
  have hK : va_K D bCl (bT y) s := hB.2.1
  have hNw := hB.2.2.1
  have hAn : ∀ q : Nat, s.heap.size ≤ q → A q := hB.2.2.2.1
  have hAz : ¬ A z := hB.2.2.2.2.1
  have hO := hB.2.2.2.2.2.1
  have hS : va_S A s.heap s.heap [] := va_S.rf
  have hl := lv_entry ([Value.int p1] : List Value) (n := 1) (Nat.le_of_ble_eq_true rfl)
  rw [lg_entry_eq]
  generalize (lg_sl ([Value.int p1] : List Value) ++ List.replicate (1 - (lg_sl ([Value.int p1] : List Value)).length) Slot.unset).toArray = ls at hl ⊢
  have hl : lv_has ls 1 [(0, .int p1)] := hl
  obtain ⟨Q, hQ⟩ : ∃ Q, Q = vx_MQ below (va_Qv post (fun S' t => wd D y z S' A t.heap) A) (bX D y z A xp) (([Value.int p1] : List Value).toArray) s MC MS A := ⟨_, rfl⟩
  rw [← hQ]
  generalize hR : (headSpec wsX5_refuseWrongSpeed ({ frames := 8, cells := MC, slots := MS, locals := 400 } : Room)).room = R
  have hRf : 8 ≤ R.frames := by rw [← hR]; exact Nat.le_refl _
  have hRl : 400 ≤ R.locals := by rw [← hR]; exact Nat.le_refl _
  have hRc : R.cells = MC := by rw [← hR]; rfl
  have hRs : R.slots = MS := by rw [← hR]; rfl
  have hret : ∀ (S : bS) (H : Heap) (locs : List Loc) (pc : Nat) (ls : Array Slot) (cu su : Nat) , post S → wd D y z S A H → va_S A s.heap H locs → cu ≤ MC → su ≤ MS → decode cX5_refuseWrongSpeed pc = .ok (.return_, 1) → W p l e R s m (([Value.int p1] : List Value).toArray) below meth c H locs cu su Q (F0 m pc ls []) := by
    intro S H locs pc ls cu su h hw hS hcu hsu d0
    rw [hQ]; refine vx_ret ?_; refine W.widen hcu hsu ?_; exact W.vret hx hb hr (fun t ht hW => ⟨⟨S, rfl, h, by show wd D y z S A t.heap; rw [ht]; exact hw⟩, hS.F ht⟩) hS.2.2 d0 hlocks
  unfold wp_X5_refuseWrongSpeed at h
  have hcu : 0 + MC ≤ MC := by omega
  have hsu : 0 + MS ≤ MS := by omega
  refine lv_iload_n hx hb dX5_refuseWrongSpeed_0 rfl (lv_at hl 0 rfl) ?_
  refine lv_iconst (v := (1 : Int32)) hx hb dX5_refuseWrongSpeed_1 (by decide) ?_
  refine lv_bipush (v := (6 : Int32)) hx hb dX5_refuseWrongSpeed_2 (by decide) ?_
  have h1 := h
  refine va_calli (va_runS (As := [.int p1, .int (1 : Int32), .int (6 : Int32)]) (rest := []) ⟨hx, hb, hml, hown, hts⟩ (m_X5_isOutside (l := l) h1) (cwS 3 hts gX5_refuseWrongSpeed_X5_isOutside rfl rfl rfl (by decide +kernel) ⟨Nat.le_trans (Nat.le_of_ble_eq_true rfl) hRf, Nat.le_trans (Nat.le_of_ble_eq_true rfl) hRl⟩) (r_pS hB hw hS) rfl rfl hl.1 rfl (lv_room (Nat.le_of_ble_eq_true rfl)) dX5_refuseWrongSpeed_4 ⟨by omega, by omega⟩) hS (fun _ _ h => h) (fun _ h => h) (fun r1 S2 t H1 locs ht _ h hw1 _ _ hS => ?_)
  subst ht
  have hw : wd D y z S2 A t.heap := hw1
  clear hw1 h1
  refine lv_if_eq (tgt := 21) hx hb dX5_refuseWrongSpeed_7 (by decide) (fun hc => ?_) (fun hc => ?_)
  · have h := h.1 hc
    exact hret _ _ _ _ _ _ _ h hw hS (by omega) (by omega) dX5_refuseWrongSpeed_21
  · have h := h.2 hc
    obtain ⟨hbg1, hbg2, h⟩ := h
    obtain ⟨sa9, hsa9⟩ := b_str hB 10 rfl
    rw [hQ]
    exact vx_throwSW (names := ["java/lang/RuntimeException", "java/lang/Exception"]) hx hb hl0 hown (by decide +kernel) (by decide +kernel) (hts (.classLink RX5 40 "java/lang/IllegalArgumentException") (by decide +kernel)) (hts (.initialized "java/lang/IllegalArgumentException") (by decide +kernel)) hsa9 (b_hat (fun w hw9 => hts w ((by decide +kernel : ∀ w ∈ (vx_atS RX5 44 "java/lang/IllegalArgumentException" ["java/lang/RuntimeException", "java/lang/Exception"]).filter goodWord, w ∈ wsX5_refuseWrongSpeed) w hw9)) (by decide +kernel) hB) (by decide +kernel) (b_U hB) (b_N hB) hS (by rw [hml]; exact hl.1) dX5_refuseWrongSpeed_10 dX5_refuseWrongSpeed_13 dX5_refuseWrongSpeed_14 dX5_refuseWrongSpeed_17 dX5_refuseWrongSpeed_20 (fun x hx => (hex x hx).elim) (Nat.lt_of_lt_of_le (by decide) hRf) (Nat.le_trans (Nat.le_of_ble_eq_true rfl) hRl) (by omega) (by omega) hlocks (fun t9 ha9 hz9 hk9 => ⟨S2, trivial, ⟨h, b_grow hw hz9 hk9⟩, b_growF hS hz9 hk9⟩) hS.2.2 (by omega) (by omega)
def wb_X5_addTube_42 (post : Int32 → bS → Prop) (xp : String → bS → Prop) (mc ms : Nat) (S : bS) : Prop := 1 ≤ mc ∧ 6 ≤ ms ∧ xp "java/lang/IllegalArgumentException" S
def wb_X5_addTube_84 (post : Int32 → bS → Prop) (xp : String → bS → Prop) (mc ms : Nat) (S : bS) : Prop := 1 ≤ mc ∧ 6 ≤ ms ∧ xp "java/lang/IllegalStateException" S
def wp_X5_addTube (post : Int32 → bS → Prop) (xp : String → bS → Prop) (MC MS : Nat) (this : Nat) (p1 : Int32) (p2 : Int32) (p3 : Int32) (p4 : Int32) (p5 : Int32) (S : bS) : Prop := gK S this = 7 ∧ (∃ k6 n7, k6 ≤ MC ∧ n7 ≤ MS ∧ (wp_X5_knownStation (fun r2 S3 => ∃ b4, r2 = some b4 ∧ (gK S3 this = 7 ∧ (∃ k13 n14, k13 ≤ (MC - k6) ∧ n14 ≤ (MS - n7) ∧ (wp_X5_knownStation (fun r9 S10 => ∃ b11, r9 = some b11 ∧ (((some b4) = (some b11) → wb_X5_addTube_42 post xp ((MC - k6) - k13) ((MS - n7) - n14) S10) ∧ (¬ ((some b4) = (some b11)) → wp_X5_isOutside (fun r15 S16 => (r15 ≠ (0 : Int32) → wb_X5_addTube_42 post xp ((MC - k6) - k13) ((MS - n7) - n14) S16) ∧ (r15 = (0 : Int32) → wp_X5_isOutside (fun r17 S18 => (r17 = (0 : Int32) → ∃ k21 n22, k21 ≤ ((MC - k6) - k13) ∧ n22 ≤ ((MS - n7) - n14) ∧ (wp_X5_refuseWrongSpeed (fun S20 => gK S20 this = 7 ∧ (∃ b24, gQ S20 7 this 0 = some b24 ∧ (gK S20 b24 = 4 ∧ (∃ b27, gQ S20 4 b24 1 = some b27 ∧ (gK S20 b27 = 1 ∧ (wp_Jx4a65c_size_8abf5 (fun r30 S31 => ((30 : Int32) ≤ r30 → wb_X5_addTube_84 post xp (((MC - k6) - k13) - k21) (((MS - n7) - n14) - n22) S31) ∧ (¬ ((30 : Int32) ≤ r30) → gK S31 b4 = 5 ∧ (∃ b33, gQ S31 5 b4 3 = some b33 ∧ (gK S31 b33 = 1 ∧ (wp_Jx4a65c_size_8abf5 (fun r36 S37 => (r36 < (4 : Int32) → gK S37 this = 7 ∧ (∃ b39, gQ S37 7 this 0 = some b39 ∧ (gK S37 b39 = 4 ∧ (∃ k44 n45, k44 ≤ (((MC - k6) - k13) - k21) ∧ n45 ≤ (((MS - n7) - n14) - n22) ∧ (wp_X2_lay (fun r42 S43 => post r42 S43) k44 n45 b39 b4 b11 p3 p4 p5 S37))))) ∧ (¬ (r36 < (4 : Int32)) → wb_X5_addTube_84 post xp (((MC - k6) - k13) - k21) (((MS - n7) - n14) - n22) S37)) b33 S31))))) b27 S20)))))) xp k21 n22 p4 S18)) ∧ (¬ (r17 = (0 : Int32)) → wb_X5_addTube_42 post xp ((MC - k6) - k13) ((MS - n7) - n14) S18)) p5 (1 : Int32) (8 : Int32) S16)) p3 (1 : Int32) (60 : Int32) S10))) xp k13 n14 this p2 S3)))) xp k6 n7 this p1 S))
set_option maxHeartbeats 4000000 in
set_option maxRecDepth 100000 in
theorem m_X5_addTube {l : Launch} {D : va_G} {y : Nat → ClassId} {z : Nat} {A : Nat → Prop} {S : bS} {post : Int32 → bS → Prop} {xp : String → bS → Prop} (hl0 : l.stackTraces = false) {MC MS : Nat} {this : Nat} {p1 : Int32} {p2 : Int32} {p3 : Int32} {p4 : Int32} {p5 : Int32} (h : wp_X5_addTube post xp MC MS this p1 p2 p3 p4 p5 S) : vx_Met l yX5_addTube wsX5_addTube ({ frames := 9, cells := MC, slots := MS, locals := 421 } : Room) (va_Pc ([Value.ref this, Value.int p1, Value.int p2, Value.int p3, Value.int p4, Value.int p5] : List Value) (bP D y z S A)) (va_Qi post (fun S' t => wd D y z S' A t.heap) A) (bX D y z A xp) MC MS A := by
  refine vx_ofW (cc := cX5_addTube) (maxL := 8) (ret := (some .int)) (by decide) rfl ?_
  intro p e s m args below meth c s₁ B hml hex hv
  obtain ⟨rfl, hB⟩ := hv
  have hx := B.exec
  have hb := B.bytes
  have hr := B.returns
  have hts := atoms_spec (ws := wsX5_addTube) B.pre
  have hown : s.vm.findClass RX5 = some m.cls := findClass_of_methodNamed B.named
  have hlocks := B.notSynchronized
  have hw : wd D y z S A s.heap := hB.1
  have hK : va_K D bCl (bT y) s := hB.2.1
  have hNw := hB.2.2.1
  have hAn : ∀ q : Nat, s.heap.size ≤ q → A q := hB.2.2.2.1
  have hAz : ¬ A z := hB.2.2.2.2.1
  have hO := hB.2.2.2.2.2.1
  have hS : va_S A s.heap s.heap [] := va_S.rf
  have hiX2 : ∀ w ∈ u_ws RX2 TX2 2, w ∈ wsX5_addTube := by decide +kernel
  have hiX3 : ∀ w ∈ u_ws RX3 TX3 10, w ∈ wsX5_addTube := by decide +kernel
  have hiX5 : ∀ w ∈ u_ws RX5 TX5 6, w ∈ wsX5_addTube := by decide +kernel
  have hl := lv_entry ([Value.ref this, Value.int p1, Value.int p2, Value.int p3, Value.int p4, Value.int p5] : List Value) (n := 8) (Nat.le_of_ble_eq_true rfl)
  rw [lg_entry_eq]
  generalize (lg_sl ([Value.ref this, Value.int p1, Value.int p2, Value.int p3, Value.int p4, Value.int p5] : List Value) ++ List.replicate (8 - (lg_sl ([Value.ref this, Value.int p1, Value.int p2, Value.int p3, Value.int p4, Value.int p5] : List Value)).length) Slot.unset).toArray = ls at hl ⊢
  have hl : lv_has ls 8 [(0, .ref this), (1, .int p1), (2, .int p2), (3, .int p3), (4, .int p4), (5, .int p5)] := hl
  obtain ⟨Q, hQ⟩ : ∃ Q, Q = vx_MQ below (va_Qi post (fun S' t => wd D y z S' A t.heap) A) (bX D y z A xp) (([Value.ref this, Value.int p1, Value.int p2, Value.int p3, Value.int p4, Value.int p5] : List Value).toArray) s MC MS A := ⟨_, rfl⟩
  rw [← hQ]
  generalize hR : (headSpec wsX5_addTube ({ frames := 9, cells := MC, slots := MS, locals := 421 } : Room)).room = R
  have hRf : 9 ≤ R.frames := by rw [← hR]; exact Nat.le_refl _
  have hRl : 421 ≤ R.locals := by rw [← hR]; exact Nat.le_refl _
  have hRc : R.cells = MC := by rw [← hR]; rfl
  have hRs : R.slots = MS := by rw [← hR]; rfl
  have hret : ∀ (v : Int32) (S : bS) (H : Heap) (locs : List Loc) (pc : Nat) (ls : Array Slot) (cu su : Nat) , post v S → wd D y z S A H → va_S A s.heap H locs → cu ≤ MC → su ≤ MS → decode cX5_addTube pc = .ok (.ireturn, 1) → W p l e R s m (([Value.ref this, Value.int p1, Value.int p2, Value.int p3, Value.int p4, Value.int p5] : List Value).toArray) below meth c H locs cu su Q (F0 m pc ls [.int v]) := by
    intro v S H locs pc ls cu su h hw hS hcu hsu d0
    rw [hQ]; refine vx_ret ?_; refine W.widen hcu hsu ?_; exact W.iret hx hb hr (fun t ht hW => ⟨⟨v, S, rfl, h, by show wd D y z S A t.heap; rw [ht]; exact hw⟩, hS.F ht⟩) hS.2.2 d0 hlocks
  have hB42 : ∀ (S : bS) (H : Heap) (locs : List Loc) (ls : Array Slot) (mc ms cu su : Nat) , wb_X5_addTube_42 post xp mc ms S → wd D y z S A H → va_S A s.heap H locs → lv_has ls 8 [] → cu + mc ≤ MC → su + ms ≤ MS → W p l e R s m (([Value.ref this, Value.int p1, Value.int p2, Value.int p3, Value.int p4, Value.int p5] : List Value).toArray) below meth c H locs cu su Q (F0 m 42 ls []) := by
    intro S H locs ls mc ms cu su  h hw hS hl hcu hsu
    unfold wb_X5_addTube_42 at h
    obtain ⟨hbg1, hbg2, h⟩ := h
    obtain ⟨sa9, hsa9⟩ := b_str hB 9 rfl
    rw [hQ]
    exact vx_throwS (names := ["java/lang/RuntimeException", "java/lang/Exception"]) hx hb hl0 hown (by decide +kernel) (by decide +kernel) (hts (.classLink RX5 40 "java/lang/IllegalArgumentException") (by decide +kernel)) (hts (.initialized "java/lang/IllegalArgumentException") (by decide +kernel)) hsa9 (b_hat (fun w hw9 => hts w ((by decide +kernel : ∀ w ∈ (vx_atS RX5 44 "java/lang/IllegalArgumentException" ["java/lang/RuntimeException", "java/lang/Exception"]).filter goodWord, w ∈ wsX5_addTube) w hw9)) (by decide +kernel) hB) (by decide +kernel) (b_U hB) (b_N hB) hS (by rw [hml]; exact hl.1) dX5_addTube_42 dX5_addTube_45 dX5_addTube_46 dX5_addTube_48 dX5_addTube_51 (fun x hx => (hex x hx).elim) (Nat.lt_of_lt_of_le (by decide) hRf) (Nat.le_trans (Nat.le_of_ble_eq_true rfl) hRl) (by omega) (by omega) hlocks (fun t9 ha9 hz9 hk9 => ⟨S, trivial, ⟨h, b_grow hw hz9 hk9⟩, b_growF hS hz9 hk9⟩) hS.2.2 (by omega) (by omega)
  have hB84 : ∀ (S : bS) (H : Heap) (locs : List Loc) (ls : Array Slot) (mc ms cu su : Nat) , wb_X5_addTube_84 post xp mc ms S → wd D y z S A H → va_S A s.heap H locs → lv_has ls 8 [] → cu + mc ≤ MC → su + ms ≤ MS → W p l e R s m (([Value.ref this, Value.int p1, Value.int p2, Value.int p3, Value.int p4, Value.int p5] : List Value).toArray) below meth c H locs cu su Q (F0 m 84 ls []) := by
    intro S H locs ls mc ms cu su  h hw hS hl hcu hsu
    unfold wb_X5_addTube_84 at h
    obtain ⟨hbg1, hbg2, h⟩ := h
    obtain ⟨sa9, hsa9⟩ := b_str hB 11 rfl
    rw [hQ]
    exact vx_throwS (names := ["java/lang/RuntimeException", "java/lang/Exception"]) hx hb hl0 hown (by decide +kernel) (by decide +kernel) (hts (.classLink RX5 54 "java/lang/IllegalStateException") (by decide +kernel)) (hts (.initialized "java/lang/IllegalStateException") (by decide +kernel)) hsa9 (b_hat (fun w hw9 => hts w ((by decide +kernel : ∀ w ∈ (vx_atS RX5 58 "java/lang/IllegalStateException" ["java/lang/RuntimeException", "java/lang/Exception"]).filter goodWord, w ∈ wsX5_addTube) w hw9)) (by decide +kernel) hB) (by decide +kernel) (b_U hB) (b_N hB) hS (by rw [hml]; exact hl.1) dX5_addTube_84 dX5_addTube_87 dX5_addTube_88 dX5_addTube_90 dX5_addTube_93 (fun x hx => (hex x hx).elim) (Nat.lt_of_lt_of_le (by decide) hRf) (Nat.le_trans (Nat.le_of_ble_eq_true rfl) hRl) (by omega) (by omega) hlocks (fun t9 ha9 hz9 hk9 => ⟨S, trivial, ⟨h, b_grow hw hz9 hk9⟩, b_growF hS hz9 hk9⟩) hS.2.2 (by omega) (by omega)
  unfold wp_X5_addTube at h
  have hcu : 0 + MC ≤ MC := by omega
  have hsu : 0 + MS ≤ MS := by omega
  refine lv_aload_n hx hb dX5_addTube_0 rfl (lv_at hl 0 rfl) ?_
  refine lv_iload_n hx hb dX5_addTube_1 rfl (lv_at hl 1 rfl) ?_
  obtain ⟨hk1, h⟩ := h
  obtain ⟨k6, n7, hbg1, hbg2, h⟩ := h
  have h1 := h
  refine vx_callq (vx_runV (As := [.int p1]) (rest := []) ⟨hx, hb, hml, hown, hts⟩ (m_X5_knownStation (l := l) hl0 h1) (cwV 1 hts gX5_addTube_X5_knownStation rfl rfl rfl (by decide +kernel) ⟨Nat.le_trans (Nat.le_of_ble_eq_true rfl) hRf, Nat.le_trans (Nat.le_of_ble_eq_true rfl) hRl⟩) (r_pV hB hw hS (ce_7 (S := S) hk1) rfl) rfl rfl hl.1 rfl (lv_room (Nat.le_of_ble_eq_true rfl)) dX5_addTube_2 ⟨by omega, by omega⟩) hS (fun _ _ h => h) (fun _ h => h) (fun _ _ h => h) (fun E ce q9 S3 t H1 locs ht hal _ hq hz9 hk9 hS hq9 hvm9 hfc9 => by rw [hQ]; exact vx_out (fun x hx => (hex x hx).elim) hlocks hq9 hvm9 hfc9 (fun t9 ht9 _ => ⟨S3, trivial, ⟨hq.1, by rw [ht9, ← ht]; exact hq.2⟩, hS.F ht9⟩) hS.2.2 (by omega) (by omega)) (fun r2 S3 t H1 locs ht _ h hw1 _ _ hS => ?_)
  subst ht
  have hw : wd D y z S3 A t.heap := hw1
  clear hw1 h1
  have hcu : (0 + k6) + (MC - k6) ≤ MC := by omega
  have hsu : (0 + n7) + (MS - n7) ≤ MS := by omega
  obtain ⟨b4, rfl, h⟩ := h
  refine W.eq (g2 := F0 m 5 ls [.ref b4]) rfl ?_
  refine lv_astore hx hb dX5_addTube_5 hl (by decide) rfl (fun ls hl => ?_)
  have hl : lv_has ls 8 [(6, .ref b4), (0, .ref this), (1, .int p1), (2, .int p2), (3, .int p3), (4, .int p4), (5, .int p5)] := hl
  refine lv_aload_n hx hb dX5_addTube_7 rfl (lv_at hl 1 rfl) ?_
  refine lv_iload_n hx hb dX5_addTube_8 rfl (lv_at hl 3 rfl) ?_
  obtain ⟨hk8, h⟩ := h
  obtain ⟨k13, n14, hbg1, hbg2, h⟩ := h
  have h1 := h
  refine vx_callq (vx_runV (As := [.int p2]) (rest := []) ⟨hx, hb, hml, hown, hts⟩ (m_X5_knownStation (l := l) hl0 h1) (cwV 1 hts gX5_addTube_X5_knownStation rfl rfl rfl (by decide +kernel) ⟨Nat.le_trans (Nat.le_of_ble_eq_true rfl) hRf, Nat.le_trans (Nat.le_of_ble_eq_true rfl) hRl⟩) (r_pV hB hw hS (ce_7 (S := S3) hk8) rfl) rfl rfl hl.1 rfl (lv_room (Nat.le_of_ble_eq_true rfl)) dX5_addTube_9 ⟨by omega, by omega⟩) hS (fun _ _ h => h) (fun _ h => h) (fun _ _ h => h) (fun E ce q9 S10 t H1 locs ht hal _ hq hz9 hk9 hS hq9 hvm9 hfc9 => by rw [hQ]; exact vx_out (fun x hx => (hex x hx).elim) hlocks hq9 hvm9 hfc9 (fun t9 ht9 _ => ⟨S10, trivial, ⟨hq.1, by rw [ht9, ← ht]; exact hq.2⟩, hS.F ht9⟩) hS.2.2 (by omega) (by omega)) (fun r9 S10 t H1 locs ht _ h hw1 _ _ hS => ?_)
  subst ht
  have hw : wd D y z S10 A t.heap := hw1
  clear hw1 h1
  have hcu : ((0 + k6) + k13) + ((MC - k6) - k13) ≤ MC := by omega
  have hsu : ((0 + n7) + n14) + ((MS - n7) - n14) ≤ MS := by omega
  obtain ⟨b11, rfl, h⟩ := h
  refine W.eq (g2 := F0 m 12 ls [.ref b11]) rfl ?_
  refine lv_astore hx hb dX5_addTube_12 hl (by decide) rfl (fun ls hl => ?_)
  have hl : lv_has ls 8 [(7, .ref b11), (6, .ref b4), (0, .ref this), (1, .int p1), (2, .int p2), (3, .int p3), (4, .int p4), (5, .int p5)] := hl
  refine lv_aload hx hb dX5_addTube_14 (lv_at hl 1 rfl) ?_
  refine lv_aload hx hb dX5_addTube_16 (lv_at hl 0 rfl) ?_
  refine lv_acmp_eq (rx := (some b4)) (ry := (some b11)) (tgt := 42) hx hb dX5_addTube_18 (by decide) (fun hc => ?_) (fun hc => ?_)
  · have h := h.1 hc
    exact hB42 _ _ _ _ _ _ _ _ h hw hS (lv_sub hl [] rfl) hcu hsu
  · have h := h.2 hc
    refine lv_iload_n hx hb dX5_addTube_21 rfl (lv_at hl 5 rfl) ?_
    refine lv_iconst (v := (1 : Int32)) hx hb dX5_addTube_22 (by decide) ?_
    refine lv_bipush (v := (60 : Int32)) hx hb dX5_addTube_23 (by decide) ?_
    have h1 := h
    refine va_calli (va_runS (As := [.int p3, .int (1 : Int32), .int (60 : Int32)]) (rest := []) ⟨hx, hb, hml, hown, hts⟩ (m_X5_isOutside (l := l) h1) (cwS 3 hts gX5_addTube_X5_isOutside rfl rfl rfl (by decide +kernel) ⟨Nat.le_trans (Nat.le_of_ble_eq_true rfl) hRf, Nat.le_trans (Nat.le_of_ble_eq_true rfl) hRl⟩) (r_pS hB hw hS) rfl rfl hl.1 rfl (lv_room (Nat.le_of_ble_eq_true rfl)) dX5_addTube_25 ⟨by omega, by omega⟩) hS (fun _ _ h => h) (fun _ h => h) (fun r15 S16 t H1 locs ht _ h hw1 _ _ hS => ?_)
    subst ht
    have hw : wd D y z S16 A t.heap := hw1
    clear hw1 h1
    refine lv_if_ne (tgt := 42) hx hb dX5_addTube_28 (by decide) (fun hc => ?_) (fun hc => ?_)
    · have h := h.1 hc
      exact hB42 _ _ _ _ _ _ _ _ h hw hS (lv_sub hl [] rfl) hcu hsu
    · have h := h.2 hc
      refine lv_iload hx hb dX5_addTube_31 (lv_at hl 7 rfl) ?_
      refine lv_iconst (v := (1 : Int32)) hx hb dX5_addTube_33 (by decide) ?_
      refine lv_bipush (v := (8 : Int32)) hx hb dX5_addTube_34 (by decide) ?_
      have h1 := h
      refine va_calli (va_runS (As := [.int p5, .int (1 : Int32), .int (8 : Int32)]) (rest := []) ⟨hx, hb, hml, hown, hts⟩ (m_X5_isOutside (l := l) h1) (cwS 3 hts gX5_addTube_X5_isOutside rfl rfl rfl (by decide +kernel) ⟨Nat.le_trans (Nat.le_of_ble_eq_true rfl) hRf, Nat.le_trans (Nat.le_of_ble_eq_true rfl) hRl⟩) (r_pS hB hw hS) rfl rfl hl.1 rfl (lv_room (Nat.le_of_ble_eq_true rfl)) dX5_addTube_36 ⟨by omega, by omega⟩) hS (fun _ _ h => h) (fun _ h => h) (fun r17 S18 t H1 locs ht _ h hw1 _ _ hS => ?_)
      subst ht
      have hw : wd D y z S18 A t.heap := hw1
      clear hw1 h1
      refine lv_if_eq (tgt := 52) hx hb dX5_addTube_39 (by decide) (fun hc => ?_) (fun hc => ?_)
      · have h := h.1 hc
        refine lv_iload hx hb dX5_addTube_52 (lv_at hl 6 rfl) ?_
        obtain ⟨k21, n22, hbg1, hbg2, h⟩ := h
        have h1 := h
        refine vx_callv (vx_runS (As := [.int p4]) (rest := []) ⟨hx, hb, hml, hown, hts⟩ (m_X5_refuseWrongSpeed (l := l) hl0 h1) (cwS 1 hts gX5_addTube_X5_refuseWrongSpeed rfl rfl rfl (by decide +kernel) ⟨Nat.le_trans (Nat.le_of_ble_eq_true rfl) hRf, Nat.le_trans (Nat.le_of_ble_eq_true rfl) hRl⟩) (r_pS hB hw hS) rfl rfl hl.1 rfl (lv_room (Nat.le_of_ble_eq_true rfl)) dX5_addTube_54 ⟨by omega, by omega⟩) hS (fun _ _ h => h) (fun _ h => h) (fun _ _ h => h) (fun E ce q9 S20 t H1 locs ht hal _ hq hz9 hk9 hS hq9 hvm9 hfc9 => by rw [hQ]; exact vx_out (fun x hx => (hex x hx).elim) hlocks hq9 hvm9 hfc9 (fun t9 ht9 _ => ⟨S20, trivial, ⟨hq.1, by rw [ht9, ← ht]; exact hq.2⟩, hS.F ht9⟩) hS.2.2 (by omega) (by omega)) (fun S20 t H1 locs ht _ h hw1 _ _ hS => ?_)
        subst ht
        have hw : wd D y z S20 A t.heap := hw1
        clear hw1 h1
        have hcu : (((0 + k6) + k13) + k21) + (((MC - k6) - k13) - k21) ≤ MC := by omega
        have hsu : (((0 + n7) + n14) + n22) + (((MS - n7) - n14) - n22) ≤ MS := by omega
        refine lv_aload_n hx hb dX5_addTube_57 rfl (lv_at hl 2 rfl) ?_
        obtain ⟨hk23, h⟩ := h
        obtain ⟨b24, hb25, h⟩ := h
        refine r_get (ci := 6) (v := .ref b24) (C := RX5) (T := TX5) (N := 6) hx hb hts hiX5 hown hK hw (ce_7 (S := S20) hk23) rfl 0 (by decide) (hts (.fieldLink RX5 10 "TubePost" "net" "LTubePost$Net;") (by decide +kernel)) (fun _ h9 => h9) (congrArg (fun q => some (va_rf q)) hb25) dX5_addTube_58 ?_
        obtain ⟨hk26, h⟩ := h
        obtain ⟨b27, hb28, h⟩ := h
        refine r_getN (ci := 3) (v := .ref b27) (C := RX2) (T := TX2) (N := 2) hx hb hts hiX2 hown hK hw (ce_4 (S := S20) hk26) rfl 1 (by decide) (hNw _ (bNw_1)) (fun _ h9 => h9) (congrArg (fun q => some (va_rf q)) hb28) dX5_addTube_61 ?_
        obtain ⟨hk29, h⟩ := h
        have h1 := h
        refine va_calli (va_runV (As := []) (rest := []) ⟨hx, hb, hml, hown, hts⟩ (m_Jx4a65c_size_8abf5 (l := l) h1) (cwV 0 hts gX5_addTube_Jx4a65c_size_8abf5 rfl rfl rfl (by decide +kernel) ⟨Nat.le_trans (Nat.le_of_ble_eq_true rfl) hRf, Nat.le_trans (Nat.le_of_ble_eq_true rfl) hRl⟩) (r_pV hB hw hS (ce_1 (S := S20) hk29) rfl) rfl rfl hl.1 rfl (lv_room (Nat.le_of_ble_eq_true rfl)) dX5_addTube_64 ⟨by omega, by omega⟩) hS (fun _ _ h => h) (fun _ h => h) (fun r30 S31 t H1 locs ht _ h hw1 _ _ hS => ?_)
        subst ht
        have hw : wd D y z S31 A t.heap := hw1
        clear hw1 h1
        refine lv_bipush (v := (30 : Int32)) hx hb dX5_addTube_67 (by decide) ?_
        refine lv_icmp_ge (tgt := 84) hx hb dX5_addTube_69 (by decide) (fun hc => ?_) (fun hc => ?_)
        · have h := h.1 hc
          exact hB84 _ _ _ _ _ _ _ _ h hw hS (lv_sub hl [] rfl) hcu hsu
        · have h := h.2 hc
          refine lv_aload hx hb dX5_addTube_72 (lv_at hl 1 rfl) ?_
          obtain ⟨hk32, h⟩ := h
          obtain ⟨b33, hb34, h⟩ := h
          refine r_getN (ci := 4) (v := .ref b33) (C := RX3) (T := TX3) (N := 10) hx hb hts hiX3 hown hK hw (ce_5 (S := S31) hk32) rfl 3 (by decide) (hNw _ (bNw_2)) (fun _ h9 => h9) (congrArg (fun q => some (va_rf q)) hb34) dX5_addTube_74 ?_
          obtain ⟨hk35, h⟩ := h
          have h1 := h
          refine va_calli (va_runV (As := []) (rest := []) ⟨hx, hb, hml, hown, hts⟩ (m_Jx4a65c_size_8abf5 (l := l) h1) (cwV 0 hts gX5_addTube_Jx4a65c_size_8abf5 rfl rfl rfl (by decide +kernel) ⟨Nat.le_trans (Nat.le_of_ble_eq_true rfl) hRf, Nat.le_trans (Nat.le_of_ble_eq_true rfl) hRl⟩) (r_pV hB hw hS (ce_1 (S := S31) hk35) rfl) rfl rfl hl.1 rfl (lv_room (Nat.le_of_ble_eq_true rfl)) dX5_addTube_77 ⟨by omega, by omega⟩) hS (fun _ _ h => h) (fun _ h => h) (fun r36 S37 t H1 locs ht _ h hw1 _ _ hS => ?_)
          subst ht
          have hw : wd D y z S37 A t.heap := hw1
          clear hw1 h1
          refine lv_iconst (v := (4 : Int32)) hx hb dX5_addTube_80 (by decide) ?_
          refine lv_icmp_lt (tgt := 94) hx hb dX5_addTube_81 (by decide) (fun hc => ?_) (fun hc => ?_)
          · have h := h.1 hc
            refine lv_aload_n hx hb dX5_addTube_94 rfl (lv_at hl 2 rfl) ?_
            obtain ⟨hk38, h⟩ := h
            obtain ⟨b39, hb40, h⟩ := h
            refine r_get (ci := 6) (v := .ref b39) (C := RX5) (T := TX5) (N := 6) hx hb hts hiX5 hown hK hw (ce_7 (S := S37) hk38) rfl 0 (by decide) (hts (.fieldLink RX5 10 "TubePost" "net" "LTubePost$Net;") (by decide +kernel)) (fun _ h9 => h9) (congrArg (fun q => some (va_rf q)) hb40) dX5_addTube_95 ?_
            refine lv_aload hx hb dX5_addTube_98 (lv_at hl 1 rfl) ?_
            refine lv_aload hx hb dX5_addTube_100 (lv_at hl 0 rfl) ?_
            refine lv_iload_n hx hb dX5_addTube_102 rfl (lv_at hl 5 rfl) ?_
            refine lv_iload hx hb dX5_addTube_103 (lv_at hl 6 rfl) ?_
            refine lv_iload hx hb dX5_addTube_105 (lv_at hl 7 rfl) ?_
            obtain ⟨hk41, h⟩ := h
            obtain ⟨k44, n45, hbg1, hbg2, h⟩ := h
            have h1 := h
            refine va_calli (va_runVN (As := [.ref b4, .ref b11, .int p3, .int p4, .int p5]) (rest := []) ⟨hx, hb, hml, hown, hts⟩ (m_X2_lay (l := l) h1) ⟨va_cnB 5 hts gX5_addTube_X2_lay_n83 rfl rfl rfl (hNw _ bNw_51) (hts (.initialized RX2) (by decide +kernel)) ⟨by decide +kernel, by decide +kernel, by decide +kernel⟩ ⟨Nat.le_trans (Nat.le_of_ble_eq_true rfl) hRf, Nat.le_trans (Nat.le_of_ble_eq_true rfl) hRl⟩, (hts (.instanceMethod yX2_lay) (by decide +kernel)), hts (.selects RX2 yX2_lay yX2_lay) (by decide +kernel)⟩ (r_pV hB hw hS (ce_4 (S := S37) hk41) rfl) rfl rfl hl.1 rfl (lv_room (Nat.le_of_ble_eq_true rfl)) dX5_addTube_107 ⟨by omega, by omega⟩) hS (fun _ _ h => h) (fun _ h => h) (fun r42 S43 t H1 locs ht _ h hw1 _ _ hS => ?_)
            subst ht
            have hw : wd D y z S43 A t.heap := hw1
            clear hw1 h1
            have hcu : ((((0 + k6) + k13) + k21) + k44) + ((((MC - k6) - k13) - k21) - k44) ≤ MC := by omega
            have hsu : ((((0 + n7) + n14) + n22) + n45) + ((((MS - n7) - n14) - n22) - n45) ≤ MS := by omega
            exact hret r42 _ _ _ _ _ _ _ h hw hS (by omega) (by omega) dX5_addTube_110
          · have h := h.2 hc
            exact hB84 _ _ _ _ _ _ _ _ h hw hS (lv_sub hl [] rfl) hcu hsu
      · have h := h.2 hc
        exact hB42 _ _ _ _ _ _ _ _ h hw hS (lv_sub hl [] rfl) hcu hsu
def wp_X5_turn (post : Int32 → bS → Prop) (xp : String → bS → Prop) (MC MS : Nat) (this : Nat) (p1 : Int32) (p2 : Int32) (S : bS) : Prop := gK S this = 7 ∧ (∃ k6 n7, k6 ≤ MC ∧ n7 ≤ MS ∧ (wp_X5_knownStation (fun r2 S3 => ∃ b4, r2 = some b4 ∧ (gK S3 b4 = 5 ∧ (wp_X3_hasSwitchFor (fun r9 S10 => (r9 ≠ (0 : Int32) → gK S10 b4 = 5 ∧ (post (gV S10 5 b4 8) (sV S10 5 b4 8 p2))) ∧ (r9 = (0 : Int32) → 1 ≤ (MC - k6) ∧ 6 ≤ (MS - n7) ∧ xp "java/lang/IllegalArgumentException" S10)) b4 p2 S3))) xp k6 n7 this p1 S))
set_option maxHeartbeats 4000000 in
set_option maxRecDepth 100000 in
theorem m_X5_turn {l : Launch} {D : va_G} {y : Nat → ClassId} {z : Nat} {A : Nat → Prop} {S : bS} {post : Int32 → bS → Prop} {xp : String → bS → Prop} (hl0 : l.stackTraces = false) {MC MS : Nat} {this : Nat} {p1 : Int32} {p2 : Int32} (h : wp_X5_turn post xp MC MS this p1 p2 S) : vx_Met l yX5_turn wsX5_turn ({ frames := 9, cells := MC, slots := MS, locals := 421 } : Room) (va_Pc ([Value.ref this, Value.int p1, Value.int p2] : List Value) (bP D y z S A)) (va_Qi post (fun S' t => wd D y z S' A t.heap) A) (bX D y z A xp) MC MS A := by
  refine vx_ofW (cc := cX5_turn) (maxL := 5) (ret := (some .int)) (by decide) rfl ?_
  intro p e s m args below meth c s₁ B hml hex hv
  obtain ⟨rfl, hB⟩ := hv
  have hx := B.exec
  have hb := B.bytes
  have hr := B.returns
  have hts := atoms_spec (ws := wsX5_turn) B.pre
  have hown : s.vm.findClass RX5 = some m.cls := findClass_of_methodNamed B.named
  have hlocks := B.notSynchronized
  have hw : wd D y z S A s.heap := hB.1
  have hK : va_K D bCl (bT y) s := hB.2.1
  have hNw := hB.2.2.1
  have hAn : ∀ q : Nat, s.heap.size ≤ q → A q := hB.2.2.2.1
  have hAz : ¬ A z := hB.2.2.2.2.1
  have hO := hB.2.2.2.2.2.1
  have hS : va_S A s.heap s.heap [] := va_S.rf
  have hiX3 : ∀ w ∈ u_ws RX3 TX3 10, w ∈ wsX5_turn := by decide +kernel
  have hl := lv_entry ([Value.ref this, Value.int p1, Value.int p2] : List Value) (n := 5) (Nat.le_of_ble_eq_true rfl)
  rw [lg_entry_eq]
  generalize (lg_sl ([Value.ref this, Value.int p1, Value.int p2] : List Value) ++ List.replicate (5 - (lg_sl ([Value.ref this, Value.int p1, Value.int p2] : List Value)).length) Slot.unset).toArray = ls at hl ⊢
  have hl : lv_has ls 5 [(0, .ref this), (1, .int p1), (2, .int p2)] := hl
  obtain ⟨Q, hQ⟩ : ∃ Q, Q = vx_MQ below (va_Qi post (fun S' t => wd D y z S' A t.heap) A) (bX D y z A xp) (([Value.ref this, Value.int p1, Value.int p2] : List Value).toArray) s MC MS A := ⟨_, rfl⟩
  rw [← hQ]
  generalize hR : (headSpec wsX5_turn ({ frames := 9, cells := MC, slots := MS, locals := 421 } : Room)).room = R
  have hRf : 9 ≤ R.frames := by rw [← hR]; exact Nat.le_refl _
  have hRl : 421 ≤ R.locals := by rw [← hR]; exact Nat.le_refl _
  have hRc : R.cells = MC := by rw [← hR]; rfl
  have hRs : R.slots = MS := by rw [← hR]; rfl
  have hret : ∀ (v : Int32) (S : bS) (H : Heap) (locs : List Loc) (pc : Nat) (ls : Array Slot) (cu su : Nat) , post v S → wd D y z S A H → va_S A s.heap H locs → cu ≤ MC → su ≤ MS → decode cX5_turn pc = .ok (.ireturn, 1) → W p l e R s m (([Value.ref this, Value.int p1, Value.int p2] : List Value).toArray) below meth c H locs cu su Q (F0 m pc ls [.int v]) := by
    intro v S H locs pc ls cu su h hw hS hcu hsu d0
    rw [hQ]; refine vx_ret ?_; refine W.widen hcu hsu ?_; exact W.iret hx hb hr (fun t ht hW => ⟨⟨v, S, rfl, h, by show wd D y z S A t.heap; rw [ht]; exact hw⟩, hS.F ht⟩) hS.2.2 d0 hlocks
  unfold wp_X5_turn at h
  have hcu : 0 + MC ≤ MC := by omega
  have hsu : 0 + MS ≤ MS := by omega
  refine lv_aload_n hx hb dX5_turn_0 rfl (lv_at hl 0 rfl) ?_
  refine lv_iload_n hx hb dX5_turn_1 rfl (lv_at hl 1 rfl) ?_
  obtain ⟨hk1, h⟩ := h
  obtain ⟨k6, n7, hbg1, hbg2, h⟩ := h
  have h1 := h
  refine vx_callq (vx_runV (As := [.int p1]) (rest := []) ⟨hx, hb, hml, hown, hts⟩ (m_X5_knownStation (l := l) hl0 h1) (cwV 1 hts gX5_turn_X5_knownStation rfl rfl rfl (by decide +kernel) ⟨Nat.le_trans (Nat.le_of_ble_eq_true rfl) hRf, Nat.le_trans (Nat.le_of_ble_eq_true rfl) hRl⟩) (r_pV hB hw hS (ce_7 (S := S) hk1) rfl) rfl rfl hl.1 rfl (lv_room (Nat.le_of_ble_eq_true rfl)) dX5_turn_2 ⟨by omega, by omega⟩) hS (fun _ _ h => h) (fun _ h => h) (fun _ _ h => h) (fun E ce q9 S3 t H1 locs ht hal _ hq hz9 hk9 hS hq9 hvm9 hfc9 => by rw [hQ]; exact vx_out (fun x hx => (hex x hx).elim) hlocks hq9 hvm9 hfc9 (fun t9 ht9 _ => ⟨S3, trivial, ⟨hq.1, by rw [ht9, ← ht]; exact hq.2⟩, hS.F ht9⟩) hS.2.2 (by omega) (by omega)) (fun r2 S3 t H1 locs ht _ h hw1 _ _ hS => ?_)
  subst ht
  have hw : wd D y z S3 A t.heap := hw1
  clear hw1 h1
  have hcu : (0 + k6) + (MC - k6) ≤ MC := by omega
  have hsu : (0 + n7) + (MS - n7) ≤ MS := by omega
  obtain ⟨b4, rfl, h⟩ := h
  refine W.eq (g2 := F0 m 5 ls [.ref b4]) rfl ?_
  refine lv_astore_n hx hb dX5_turn_5 rfl hl (by decide) rfl (fun ls hl => ?_)
  have hl : lv_has ls 5 [(3, .ref b4), (0, .ref this), (1, .int p1), (2, .int p2)] := hl
  refine lv_aload_n hx hb dX5_turn_6 rfl (lv_at hl 0 rfl) ?_
  refine lv_iload_n hx hb dX5_turn_7 rfl (lv_at hl 3 rfl) ?_
  obtain ⟨hk8, h⟩ := h
  have h1 := h
  refine va_calli (va_runVN (As := [.int p2]) (rest := []) ⟨hx, hb, hml, hown, hts⟩ (m_X3_hasSwitchFor (l := l) h1) ⟨va_cnB 1 hts gX5_turn_X3_hasSwitchFor_n87 rfl rfl rfl (hNw _ bNw_52) (hts (.initialized RX3) (by decide +kernel)) ⟨by decide +kernel, by decide +kernel, by decide +kernel⟩ ⟨Nat.le_trans (Nat.le_of_ble_eq_true rfl) hRf, Nat.le_trans (Nat.le_of_ble_eq_true rfl) hRl⟩, (hts (.instanceMethod yX3_hasSwitchFor) (by decide +kernel)), hts (.selects RX3 yX3_hasSwitchFor yX3_hasSwitchFor) (by decide +kernel)⟩ (r_pV hB hw hS (ce_5 (S := S3) hk8) rfl) rfl rfl hl.1 rfl (lv_room (Nat.le_of_ble_eq_true rfl)) dX5_turn_8 ⟨by omega, by omega⟩) hS (fun _ _ h => h) (fun _ h => h) (fun r9 S10 t H1 locs ht _ h hw1 _ _ hS => ?_)
  subst ht
  have hw : wd D y z S10 A t.heap := hw1
  clear hw1 h1
  refine lv_if_ne (tgt := 24) hx hb dX5_turn_11 (by decide) (fun hc => ?_) (fun hc => ?_)
  · have h := h.1 hc
    refine lv_aload_n hx hb dX5_turn_24 rfl (lv_at hl 0 rfl) ?_
    obtain ⟨hk11, h⟩ := h
    refine r_getN (ci := 4) (v := .int (gV S10 5 b4 8)) (C := RX3) (T := TX3) (N := 10) hx hb hts hiX3 hown hK hw (ce_5 (S := S10) hk11) rfl 8 (by decide) (hNw _ (bNw_3)) (fun _ h9 => h9) rfl dX5_turn_25 ?_
    refine lv_istore hx hb dX5_turn_28 hl (by decide) rfl (fun ls hl => ?_)
    have hl : lv_has ls 5 [(4, .int (gV S10 5 b4 8)), (3, .ref b4), (0, .ref this), (1, .int p1), (2, .int p2)] := hl
    refine lv_aload_n hx hb dX5_turn_30 rfl (lv_at hl 1 rfl) ?_
    refine lv_iload_n hx hb dX5_turn_31 rfl (lv_at hl 4 rfl) ?_
    refine r_putIN (κ := 5) (ci := 4) (C := RX3) (T := TX3) (N := 10) (ty := .int) (x := p2) hx hb hts hiX3 tyX3 tyX3_ok nmX3 hown hK hw hS (ce_5 (S := S10) hk11) rfl 8 (by decide) (hNw _ (bNw_3)) (fun _ h9 => h9) rfl (by decide +kernel) rfl rfl (Nat.le_of_ble_eq_true rfl) (pu_5_8 (S := S10) hk11) dX5_turn_32 (fun H locs hw hS => ?_)
    refine lv_iload hx hb dX5_turn_35 (lv_at hl 0 rfl) ?_
    exact hret (gV S10 5 b4 8) _ _ _ _ _ _ _ h hw hS (by omega) (by omega) dX5_turn_37
  · have h := h.2 hc
    obtain ⟨hbg1, hbg2, h⟩ := h
    obtain ⟨sa9, hsa9⟩ := b_str hB 12 rfl
    rw [hQ]
    exact vx_throwS (names := ["java/lang/RuntimeException", "java/lang/Exception"]) hx hb hl0 hown (by decide +kernel) (by decide +kernel) (hts (.classLink RX5 40 "java/lang/IllegalArgumentException") (by decide +kernel)) (hts (.initialized "java/lang/IllegalArgumentException") (by decide +kernel)) hsa9 (b_hat (fun w hw9 => hts w ((by decide +kernel : ∀ w ∈ (vx_atS RX5 44 "java/lang/IllegalArgumentException" ["java/lang/RuntimeException", "java/lang/Exception"]).filter goodWord, w ∈ wsX5_turn) w hw9)) (by decide +kernel) hB) (by decide +kernel) (b_U hB) (b_N hB) hS (by rw [hml]; exact hl.1) dX5_turn_14 dX5_turn_17 dX5_turn_18 dX5_turn_20 dX5_turn_23 (fun x hx => (hex x hx).elim) (Nat.lt_of_lt_of_le (by decide) hRf) (Nat.le_trans (Nat.le_of_ble_eq_true rfl) hRl) (by omega) (by omega) hlocks (fun t9 ha9 hz9 hk9 => ⟨S10, trivial, ⟨h, b_grow hw hz9 hk9⟩, b_growF hS hz9 hk9⟩) hS.2.2 (by omega) (by omega)
def wp_X5_knownTube (post : Option Nat → bS → Prop) (xp : String → bS → Prop) (MC MS : Nat) (this : Nat) (p1 : Int32) (S : bS) : Prop := gK S this = 7 ∧ (∃ b2, gQ S 7 this 0 = some b2 ∧ (gK S b2 = 4 ∧ (wp_X2_hasTube (fun r5 S6 => (r5 ≠ (0 : Int32) → gK S6 this = 7 ∧ (∃ b8, gQ S6 7 this 0 = some b8 ∧ (gK S6 b8 = 4 ∧ (∃ b11, gQ S6 4 b8 1 = some b11 ∧ (gK S6 b11 = 1 ∧ (wp_Jx4a65c_get_915e3 (fun r14 S15 => ∃ b16, r14 = some b16 ∧ (gK S15 b16 = 6 ∧ (post (some b16) S15))) b11 p1 S6)))))) ∧ (r5 = (0 : Int32) → 1 ≤ MC ∧ 6 ≤ MS ∧ xp "java/lang/IndexOutOfBoundsException" S6)) b2 p1 S)))
set_option maxHeartbeats 4000000 in
set_option maxRecDepth 100000 in
theorem m_X5_knownTube {l : Launch} {D : va_G} {y : Nat → ClassId} {z : Nat} {A : Nat → Prop} {S : bS} {post : Option Nat → bS → Prop} {xp : String → bS → Prop} (hl0 : l.stackTraces = false) {MC MS : Nat} {this : Nat} {p1 : Int32} (h : wp_X5_knownTube post xp MC MS this p1 S) : vx_Met l yX5_knownTube wsX5_knownTube ({ frames := 8, cells := MC, slots := MS, locals := 400 } : Room) (va_Pc ([Value.ref this, Value.int p1] : List Value) (bP D y z S A)) (va_Qq post (fun S' t => wd D y z S' A t.heap) A) (bX D y z A xp) MC MS A := by
  refine vx_ofW (cc := cX5_knownTube) (maxL := 2) (ret := (some (.object "TubePost$Tube"))) (by decide) rfl ?_
  intro p e s m args below meth c s₁ B hml hex hv
  obtain ⟨rfl, hB⟩ := hv
  have hx := B.exec
  have hb := B.bytes
  have hr := B.returns
  have hts := atoms_spec (ws := wsX5_knownTube) B.pre
  have hown : s.vm.findClass RX5 = some m.cls := findClass_of_methodNamed B.named
  have hlocks := B.notSynchronized
  have hw : wd D y z S A s.heap := hB.1
  have hK : va_K D bCl (bT y) s := hB.2.1
  have hNw := hB.2.2.1
  have hAn : ∀ q : Nat, s.heap.size ≤ q → A q := hB.2.2.2.1
  have hAz : ¬ A z := hB.2.2.2.2.1
  have hO := hB.2.2.2.2.2.1
  have hS : va_S A s.heap s.heap [] := va_S.rf
  have hiX2 : ∀ w ∈ u_ws RX2 TX2 2, w ∈ wsX5_knownTube := by decide +kernel
  have hiX5 : ∀ w ∈ u_ws RX5 TX5 6, w ∈ wsX5_knownTube := by decide +kernel
  have hl := lv_entry ([Value.ref this, Value.int p1] : List Value) (n := 2) (Nat.le_of_ble_eq_true rfl)
  rw [lg_entry_eq]
  generalize (lg_sl ([Value.ref this, Value.int p1] : List Value) ++ List.replicate (2 - (lg_sl ([Value.ref this, Value.int p1] : List Value)).length) Slot.unset).toArray = ls at hl ⊢
  have hl : lv_has ls 2 [(0, .ref this), (1, .int p1)] := hl
  obtain ⟨Q, hQ⟩ : ∃ Q, Q = vx_MQ below (va_Qq post (fun S' t => wd D y z S' A t.heap) A) (bX D y z A xp) (([Value.ref this, Value.int p1] : List Value).toArray) s MC MS A := ⟨_, rfl⟩
  rw [← hQ]
  generalize hR : (headSpec wsX5_knownTube ({ frames := 8, cells := MC, slots := MS, locals := 400 } : Room)).room = R
  have hRf : 8 ≤ R.frames := by rw [← hR]; exact Nat.le_refl _
  have hRl : 400 ≤ R.locals := by rw [← hR]; exact Nat.le_refl _
  have hRc : R.cells = MC := by rw [← hR]; rfl
  have hRs : R.slots = MS := by rw [← hR]; rfl
  have hret : ∀ (v : Option Nat) (S : bS) (H : Heap) (locs : List Loc) (pc : Nat) (ls : Array Slot) (cu su : Nat) , post v S → wd D y z S A H → va_S A s.heap H locs → cu ≤ MC → su ≤ MS → decode cX5_knownTube pc = .ok (.areturn, 1) → W p l e R s m (([Value.ref this, Value.int p1] : List Value).toArray) below meth c H locs cu su Q (F0 m pc ls [va_rf v]) := by
    intro v S H locs pc ls cu su h hw hS hcu hsu d0
    rw [hQ]; refine vx_ret ?_; refine W.widen hcu hsu ?_; exact W.aret hx hb hr (by first | exact Or.inl ⟨_, rfl⟩ | exact Or.inr ⟨_, rfl⟩) (by cases v with | none => exact Or.inl rfl | some a => exact Or.inr ⟨a, rfl⟩) (fun t ht hW => ⟨⟨v, S, rfl, h, by show wd D y z S A t.heap; rw [ht]; exact hw⟩, hS.F ht⟩) hS.2.2 d0 hlocks
  unfold wp_X5_knownTube at h
  have hcu : 0 + MC ≤ MC := by omega
  have hsu : 0 + MS ≤ MS := by omega
  refine lv_aload_n hx hb dX5_knownTube_0 rfl (lv_at hl 0 rfl) ?_
  obtain ⟨hk1, h⟩ := h
  obtain ⟨b2, hb3, h⟩ := h
  refine r_get (ci := 6) (v := .ref b2) (C := RX5) (T := TX5) (N := 6) hx hb hts hiX5 hown hK hw (ce_7 (S := S) hk1) rfl 0 (by decide) (hts (.fieldLink RX5 10 "TubePost" "net" "LTubePost$Net;") (by decide +kernel)) (fun _ h9 => h9) (congrArg (fun q => some (va_rf q)) hb3) dX5_knownTube_1 ?_
  refine lv_iload_n hx hb dX5_knownTube_4 rfl (lv_at hl 1 rfl) ?_
  obtain ⟨hk4, h⟩ := h
  have h1 := h
  refine va_calli (va_runVN (As := [.int p1]) (rest := []) ⟨hx, hb, hml, hown, hts⟩ (m_X2_hasTube (l := l) h1) ⟨va_cnB 1 hts gX5_knownTube_X2_hasTube_n283 rfl rfl rfl (hNw _ bNw_60) (hts (.initialized RX2) (by decide +kernel)) ⟨by decide +kernel, by decide +kernel, by decide +kernel⟩ ⟨Nat.le_trans (Nat.le_of_ble_eq_true rfl) hRf, Nat.le_trans (Nat.le_of_ble_eq_true rfl) hRl⟩, (hts (.instanceMethod yX2_hasTube) (by decide +kernel)), hts (.selects RX2 yX2_hasTube yX2_hasTube) (by decide +kernel)⟩ (r_pV hB hw hS (ce_4 (S := S) hk4) rfl) rfl rfl hl.1 rfl (lv_room (Nat.le_of_ble_eq_true rfl)) dX5_knownTube_5 ⟨by omega, by omega⟩) hS (fun _ _ h => h) (fun _ h => h) (fun r5 S6 t H1 locs ht _ h hw1 _ _ hS => ?_)
  subst ht
  have hw : wd D y z S6 A t.heap := hw1
  clear hw1 h1
  refine lv_if_ne (tgt := 22) hx hb dX5_knownTube_8 (by decide) (fun hc => ?_) (fun hc => ?_)
  · have h := h.1 hc
    refine lv_aload_n hx hb dX5_knownTube_22 rfl (lv_at hl 0 rfl) ?_
    obtain ⟨hk7, h⟩ := h
    obtain ⟨b8, hb9, h⟩ := h
    refine r_get (ci := 6) (v := .ref b8) (C := RX5) (T := TX5) (N := 6) hx hb hts hiX5 hown hK hw (ce_7 (S := S6) hk7) rfl 0 (by decide) (hts (.fieldLink RX5 10 "TubePost" "net" "LTubePost$Net;") (by decide +kernel)) (fun _ h9 => h9) (congrArg (fun q => some (va_rf q)) hb9) dX5_knownTube_23 ?_
    obtain ⟨hk10, h⟩ := h
    obtain ⟨b11, hb12, h⟩ := h
    refine r_getN (ci := 3) (v := .ref b11) (C := RX2) (T := TX2) (N := 2) hx hb hts hiX2 hown hK hw (ce_4 (S := S6) hk10) rfl 1 (by decide) (hNw _ (bNw_1)) (fun _ h9 => h9) (congrArg (fun q => some (va_rf q)) hb12) dX5_knownTube_26 ?_
    refine lv_iload_n hx hb dX5_knownTube_29 rfl (lv_at hl 1 rfl) ?_
    obtain ⟨hk13, h⟩ := h
    have h1 := h
    refine va_callq (va_runV (As := [.int p1]) (rest := []) ⟨hx, hb, hml, hown, hts⟩ (m_Jx4a65c_get_915e3 (l := l) h1) (cwV 1 hts gX5_knownTube_Jx4a65c_get_915e3 rfl rfl rfl (by decide +kernel) ⟨Nat.le_trans (Nat.le_of_ble_eq_true rfl) hRf, Nat.le_trans (Nat.le_of_ble_eq_true rfl) hRl⟩) (r_pV hB hw hS (ce_1 (S := S6) hk13) rfl) rfl rfl hl.1 rfl (lv_room (Nat.le_of_ble_eq_true rfl)) dX5_knownTube_30 ⟨by omega, by omega⟩) hS (fun _ _ h => h) (fun _ h => h) (fun r14 S15 t H1 locs ht _ h hw1 _ _ hS => ?_)
    subst ht
    have hw : wd D y z S15 A t.heap := hw1
    clear hw1 h1
    obtain ⟨b16, rfl, h⟩ := h
    refine W.eq (g2 := F0 m 33 ls [.ref b16]) rfl ?_
    obtain ⟨hk18, h⟩ := h
    refine r_cast hx hb hown (hts (.classLink RX5 101 "TubePost$Tube") (by decide +kernel)) hK hw (ce_6 hk18) rfl dX5_knownTube_33 ?_
    exact hret (some b16) _ _ _ _ _ _ _ h hw hS (by omega) (by omega) dX5_knownTube_36
  · have h := h.2 hc
    obtain ⟨hbg1, hbg2, h⟩ := h
    obtain ⟨sa9, hsa9⟩ := b_str hB 4 rfl
    rw [hQ]
    exact vx_throwSW (names := ["java/lang/RuntimeException", "java/lang/Exception"]) hx hb hl0 hown (by decide +kernel) (by decide +kernel) (hts (.classLink RX5 127 "java/lang/IndexOutOfBoundsException") (by decide +kernel)) (hts (.initialized "java/lang/IndexOutOfBoundsException") (by decide +kernel)) hsa9 (b_hat (fun w hw9 => hts w ((by decide +kernel : ∀ w ∈ (vx_atS RX5 131 "java/lang/IndexOutOfBoundsException" ["java/lang/RuntimeException", "java/lang/Exception"]).filter goodWord, w ∈ wsX5_knownTube) w hw9)) (by decide +kernel) hB) (by decide +kernel) (b_U hB) (b_N hB) hS (by rw [hml]; exact hl.1) dX5_knownTube_11 dX5_knownTube_14 dX5_knownTube_15 dX5_knownTube_18 dX5_knownTube_21 (fun x hx => (hex x hx).elim) (Nat.lt_of_lt_of_le (by decide) hRf) (Nat.le_trans (Nat.le_of_ble_eq_true rfl) hRl) (by omega) (by omega) hlocks (fun t9 ha9 hz9 hk9 => ⟨S6, trivial, ⟨h, b_grow hw hz9 hk9⟩, b_growF hS hz9 hk9⟩) hS.2.2 (by omega) (by omega)
def wp_X5_setTube (post : Int32 → bS → Prop) (xp : String → bS → Prop) (MC MS : Nat) (this : Nat) (p1 : Int32) (p2 : Int32) (p3 : Int32) (S : bS) : Prop := gK S this = 7 ∧ (∃ k6 n7, k6 ≤ MC ∧ n7 ≤ MS ∧ (wp_X5_knownTube (fun r2 S3 => ∃ b4, r2 = some b4 ∧ (∃ k10 n11, k10 ≤ (MC - k6) ∧ n11 ≤ (MS - n7) ∧ (wp_X5_refuseWrongSpeed (fun S9 => gK S9 b4 = 6 ∧ (gK S9 this = 7 ∧ (∃ b14, gQ S9 7 this 0 = some b14 ∧ (gK S9 b14 = 4 ∧ (wp_X2_set (fun S18 => post (gV S9 6 b4 6) S18) b14 b4 p2 p3 S9))))) xp k10 n11 p2 S3))) xp k6 n7 this p1 S))
set_option maxHeartbeats 4000000 in
set_option maxRecDepth 100000 in
theorem m_X5_setTube {l : Launch} {D : va_G} {y : Nat → ClassId} {z : Nat} {A : Nat → Prop} {S : bS} {post : Int32 → bS → Prop} {xp : String → bS → Prop} (hl0 : l.stackTraces = false) {MC MS : Nat} {this : Nat} {p1 : Int32} {p2 : Int32} {p3 : Int32} (h : wp_X5_setTube post xp MC MS this p1 p2 p3 S) : vx_Met l yX5_setTube wsX5_setTube ({ frames := 9, cells := MC, slots := MS, locals := 421 } : Room) (va_Pc ([Value.ref this, Value.int p1, Value.int p2, Value.int p3] : List Value) (bP D y z S A)) (va_Qi post (fun S' t => wd D y z S' A t.heap) A) (bX D y z A xp) MC MS A := by
  refine vx_ofW (cc := cX5_setTube) (maxL := 6) (ret := (some .int)) (by decide) rfl ?_
  intro p e s m args below meth c s₁ B hml hex hv
  obtain ⟨rfl, hB⟩ := hv
  have hx := B.exec
  have hb := B.bytes
  have hr := B.returns
  have hts := atoms_spec (ws := wsX5_setTube) B.pre
  have hown : s.vm.findClass RX5 = some m.cls := findClass_of_methodNamed B.named
  have hlocks := B.notSynchronized
  have hw : wd D y z S A s.heap := hB.1
  have hK : va_K D bCl (bT y) s := hB.2.1
  have hNw := hB.2.2.1
  have hAn : ∀ q : Nat, s.heap.size ≤ q → A q := hB.2.2.2.1
  have hAz : ¬ A z := hB.2.2.2.2.1
  have hO := hB.2.2.2.2.2.1
  have hS : va_S A s.heap s.heap [] := va_S.rf
  have hiX4 : ∀ w ∈ u_ws RX4 TX4 11, w ∈ wsX5_setTube := by decide +kernel
  have hiX5 : ∀ w ∈ u_ws RX5 TX5 6, w ∈ wsX5_setTube := by decide +kernel
  have hl := lv_entry ([Value.ref this, Value.int p1, Value.int p2, Value.int p3] : List Value) (n := 6) (Nat.le_of_ble_eq_true rfl)
  rw [lg_entry_eq]
  generalize (lg_sl ([Value.ref this, Value.int p1, Value.int p2, Value.int p3] : List Value) ++ List.replicate (6 - (lg_sl ([Value.ref this, Value.int p1, Value.int p2, Value.int p3] : List Value)).length) Slot.unset).toArray = ls at hl ⊢
  have hl : lv_has ls 6 [(0, .ref this), (1, .int p1), (2, .int p2), (3, .int p3)] := hl
  obtain ⟨Q, hQ⟩ : ∃ Q, Q = vx_MQ below (va_Qi post (fun S' t => wd D y z S' A t.heap) A) (bX D y z A xp) (([Value.ref this, Value.int p1, Value.int p2, Value.int p3] : List Value).toArray) s MC MS A := ⟨_, rfl⟩
  rw [← hQ]
  generalize hR : (headSpec wsX5_setTube ({ frames := 9, cells := MC, slots := MS, locals := 421 } : Room)).room = R
  have hRf : 9 ≤ R.frames := by rw [← hR]; exact Nat.le_refl _
  have hRl : 421 ≤ R.locals := by rw [← hR]; exact Nat.le_refl _
  have hRc : R.cells = MC := by rw [← hR]; rfl
  have hRs : R.slots = MS := by rw [← hR]; rfl
  have hret : ∀ (v : Int32) (S : bS) (H : Heap) (locs : List Loc) (pc : Nat) (ls : Array Slot) (cu su : Nat) , post v S → wd D y z S A H → va_S A s.heap H locs → cu ≤ MC → su ≤ MS → decode cX5_setTube pc = .ok (.ireturn, 1) → W p l e R s m (([Value.ref this, Value.int p1, Value.int p2, Value.int p3] : List Value).toArray) below meth c H locs cu su Q (F0 m pc ls [.int v]) := by
    intro v S H locs pc ls cu su h hw hS hcu hsu d0
    rw [hQ]; refine vx_ret ?_; refine W.widen hcu hsu ?_; exact W.iret hx hb hr (fun t ht hW => ⟨⟨v, S, rfl, h, by show wd D y z S A t.heap; rw [ht]; exact hw⟩, hS.F ht⟩) hS.2.2 d0 hlocks
  unfold wp_X5_setTube at h
  have hcu : 0 + MC ≤ MC := by omega
  have hsu : 0 + MS ≤ MS := by omega
  refine lv_aload_n hx hb dX5_setTube_0 rfl (lv_at hl 0 rfl) ?_
  refine lv_iload_n hx hb dX5_setTube_1 rfl (lv_at hl 1 rfl) ?_
  obtain ⟨hk1, h⟩ := h
  obtain ⟨k6, n7, hbg1, hbg2, h⟩ := h
  have h1 := h
  refine vx_callq (vx_runV (As := [.int p1]) (rest := []) ⟨hx, hb, hml, hown, hts⟩ (m_X5_knownTube (l := l) hl0 h1) (cwV 1 hts gX5_setTube_X5_knownTube rfl rfl rfl (by decide +kernel) ⟨Nat.le_trans (Nat.le_of_ble_eq_true rfl) hRf, Nat.le_trans (Nat.le_of_ble_eq_true rfl) hRl⟩) (r_pV hB hw hS (ce_7 (S := S) hk1) rfl) rfl rfl hl.1 rfl (lv_room (Nat.le_of_ble_eq_true rfl)) dX5_setTube_2 ⟨by omega, by omega⟩) hS (fun _ _ h => h) (fun _ h => h) (fun _ _ h => h) (fun E ce q9 S3 t H1 locs ht hal _ hq hz9 hk9 hS hq9 hvm9 hfc9 => by rw [hQ]; exact vx_out (fun x hx => (hex x hx).elim) hlocks hq9 hvm9 hfc9 (fun t9 ht9 _ => ⟨S3, trivial, ⟨hq.1, by rw [ht9, ← ht]; exact hq.2⟩, hS.F ht9⟩) hS.2.2 (by omega) (by omega)) (fun r2 S3 t H1 locs ht _ h hw1 _ _ hS => ?_)
  subst ht
  have hw : wd D y z S3 A t.heap := hw1
  clear hw1 h1
  have hcu : (0 + k6) + (MC - k6) ≤ MC := by omega
  have hsu : (0 + n7) + (MS - n7) ≤ MS := by omega
  obtain ⟨b4, rfl, h⟩ := h
  refine W.eq (g2 := F0 m 5 ls [.ref b4]) rfl ?_
  refine lv_astore hx hb dX5_setTube_5 hl (by decide) rfl (fun ls hl => ?_)
  have hl : lv_has ls 6 [(4, .ref b4), (0, .ref this), (1, .int p1), (2, .int p2), (3, .int p3)] := hl
  refine lv_iload_n hx hb dX5_setTube_7 rfl (lv_at hl 3 rfl) ?_
  obtain ⟨k10, n11, hbg1, hbg2, h⟩ := h
  have h1 := h
  refine vx_callv (vx_runS (As := [.int p2]) (rest := []) ⟨hx, hb, hml, hown, hts⟩ (m_X5_refuseWrongSpeed (l := l) hl0 h1) (cwS 1 hts gX5_setTube_X5_refuseWrongSpeed rfl rfl rfl (by decide +kernel) ⟨Nat.le_trans (Nat.le_of_ble_eq_true rfl) hRf, Nat.le_trans (Nat.le_of_ble_eq_true rfl) hRl⟩) (r_pS hB hw hS) rfl rfl hl.1 rfl (lv_room (Nat.le_of_ble_eq_true rfl)) dX5_setTube_8 ⟨by omega, by omega⟩) hS (fun _ _ h => h) (fun _ h => h) (fun _ _ h => h) (fun E ce q9 S9 t H1 locs ht hal _ hq hz9 hk9 hS hq9 hvm9 hfc9 => by rw [hQ]; exact vx_out (fun x hx => (hex x hx).elim) hlocks hq9 hvm9 hfc9 (fun t9 ht9 _ => ⟨S9, trivial, ⟨hq.1, by rw [ht9, ← ht]; exact hq.2⟩, hS.F ht9⟩) hS.2.2 (by omega) (by omega)) (fun S9 t H1 locs ht _ h hw1 _ _ hS => ?_)
  subst ht
  have hw : wd D y z S9 A t.heap := hw1
  clear hw1 h1
  have hcu : ((0 + k6) + k10) + ((MC - k6) - k10) ≤ MC := by omega
  have hsu : ((0 + n7) + n11) + ((MS - n7) - n11) ≤ MS := by omega
  refine lv_aload hx hb dX5_setTube_11 (lv_at hl 0 rfl) ?_
  obtain ⟨hk12, h⟩ := h
  refine r_getN (ci := 5) (v := .int (gV S9 6 b4 6)) (C := RX4) (T := TX4) (N := 11) hx hb hts hiX4 hown hK hw (ce_6 (S := S9) hk12) rfl 6 (by decide) (hNw _ (bNw_4)) (fun _ h9 => h9) rfl dX5_setTube_13 ?_
  refine lv_istore hx hb dX5_setTube_16 hl (by decide) rfl (fun ls hl => ?_)
  have hl : lv_has ls 6 [(5, .int (gV S9 6 b4 6)), (4, .ref b4), (0, .ref this), (1, .int p1), (2, .int p2), (3, .int p3)] := hl
  refine lv_aload_n hx hb dX5_setTube_18 rfl (lv_at hl 2 rfl) ?_
  obtain ⟨hk13, h⟩ := h
  obtain ⟨b14, hb15, h⟩ := h
  refine r_get (ci := 6) (v := .ref b14) (C := RX5) (T := TX5) (N := 6) hx hb hts hiX5 hown hK hw (ce_7 (S := S9) hk13) rfl 0 (by decide) (hts (.fieldLink RX5 10 "TubePost" "net" "LTubePost$Net;") (by decide +kernel)) (fun _ h9 => h9) (congrArg (fun q => some (va_rf q)) hb15) dX5_setTube_19 ?_
  refine lv_aload hx hb dX5_setTube_22 (lv_at hl 1 rfl) ?_
  refine lv_iload_n hx hb dX5_setTube_24 rfl (lv_at hl 4 rfl) ?_
  refine lv_iload_n hx hb dX5_setTube_25 rfl (lv_at hl 5 rfl) ?_
  obtain ⟨hk16, h⟩ := h
  have h1 := h
  refine va_callv (va_runVN (As := [.ref b4, .int p2, .int p3]) (rest := []) ⟨hx, hb, hml, hown, hts⟩ (m_X2_set (l := l) h1) ⟨va_cnB 3 hts gX5_setTube_X2_set_n105 rfl rfl rfl (hNw _ bNw_53) (hts (.initialized RX2) (by decide +kernel)) ⟨by decide +kernel, by decide +kernel, by decide +kernel⟩ ⟨Nat.le_trans (Nat.le_of_ble_eq_true rfl) hRf, Nat.le_trans (Nat.le_of_ble_eq_true rfl) hRl⟩, (hts (.instanceMethod yX2_set) (by decide +kernel)), hts (.selects RX2 yX2_set yX2_set) (by decide +kernel)⟩ (r_pV hB hw hS (ce_4 (S := S9) hk16) rfl) rfl rfl hl.1 rfl (lv_room (Nat.le_of_ble_eq_true rfl)) dX5_setTube_26 ⟨by omega, by omega⟩) hS (fun _ _ h => h) (fun _ h => h) (fun S18 t H1 locs ht _ h hw1 _ _ hS => ?_)
  subst ht
  have hw : wd D y z S18 A t.heap := hw1
  clear hw1 h1
  refine lv_iload hx hb dX5_setTube_29 (lv_at hl 0 rfl) ?_
  exact hret (gV S9 6 b4 6) _ _ _ _ _ _ _ h hw hS (by omega) (by omega) dX5_setTube_31
def wb_X5_refuseWrongDeed_71 (post : bS → Prop) (xp : String → bS → Prop) (mc ms : Nat) (S : bS) : Prop := post S
def wp_X5_refuseWrongDeed (post : bS → Prop) (xp : String → bS → Prop) (MC MS : Nat) (this : Nat) (p1 : Int32) (p2 : Int32) (p3 : Int32) (S : bS) : Prop := (p1 ≠ (1 : Int32) → gK S this = 7 ∧ (∃ k6 n7, k6 ≤ MC ∧ n7 ≤ MS ∧ (wp_X5_knownStation (fun r2 S3 => ∃ b4, r2 = some b4 ∧ ((p1 ≠ (2 : Int32) → gK S3 b4 = 5 ∧ (wp_X3_hasSwitchFor (fun r9 S10 => (r9 ≠ (0 : Int32) → wb_X5_refuseWrongDeed_71 post xp (MC - k6) (MS - n7) S10) ∧ (r9 = (0 : Int32) → 1 ≤ (MC - k6) ∧ 6 ≤ (MS - n7) ∧ xp "java/lang/IndexOutOfBoundsException" S10)) b4 p3 S3)) ∧ (p1 = (2 : Int32) → gK S3 this = 7 ∧ (∃ k16 n17, k16 ≤ (MC - k6) ∧ n17 ≤ (MS - n7) ∧ (wp_X5_knownStation (fun r12 S13 => ∃ b14, r12 = some b14 ∧ (wb_X5_refuseWrongDeed_71 post xp ((MC - k6) - k16) ((MS - n7) - n17) S13)) xp k16 n17 this p3 S3))))) xp k6 n7 this p2 S))) ∧ (p1 = (1 : Int32) → gK S this = 7 ∧ (∃ k23 n24, k23 ≤ MC ∧ n24 ≤ MS ∧ (wp_X5_knownTube (fun r19 S20 => ∃ b21, r19 = some b21 ∧ (wp_X5_isOutside (fun r25 S26 => (r25 = (0 : Int32) → post S26) ∧ (¬ (r25 = (0 : Int32)) → 1 ≤ (MC - k23) ∧ 6 ≤ (MS - n24) ∧ xp "java/lang/IndexOutOfBoundsException" S26)) p3 (0 : Int32) (1 : Int32) S20)) xp k23 n24 this p2 S)))
set_option maxHeartbeats 4000000 in
set_option maxRecDepth 100000 in
theorem m_X5_refuseWrongDeed {l : Launch} {D : va_G} {y : Nat → ClassId} {z : Nat} {A : Nat → Prop} {S : bS} {post : bS → Prop} {xp : String → bS → Prop} (hl0 : l.stackTraces = false) {MC MS : Nat} {this : Nat} {p1 : Int32} {p2 : Int32} {p3 : Int32} (h : wp_X5_refuseWrongDeed post xp MC MS this p1 p2 p3 S) : vx_Met l yX5_refuseWrongDeed wsX5_refuseWrongDeed ({ frames := 9, cells := MC, slots := MS, locals := 421 } : Room) (va_Pc ([Value.ref this, Value.int p1, Value.int p2, Value.int p3] : List Value) (bP D y z S A)) (va_Qv post (fun S' t => wd D y z S' A t.heap) A) (bX D y z A xp) MC MS A := by
  refine vx_ofW (cc := cX5_refuseWrongDeed) (maxL := 5) (ret := none) (by decide) rfl ?_
  intro p e s m args below meth c s₁ B hml hex hv
  obtain ⟨rfl, hB⟩ := hv
  have hx := B.exec
  have hb := B.bytes
  have hr := B.returns
  have hts := atoms_spec (ws := wsX5_refuseWrongDeed) B.pre
  have hown : s.vm.findClass RX5 = some m.cls := findClass_of_methodNamed B.named
  have hlocks := B.notSynchronized
  have hw : wd D y z S A s.heap := hB.1
  have hK : va_K D bCl (bT y) s := hB.2.1
  have hNw := hB.2.2.1
  have hAn : ∀ q : Nat, s.heap.size ≤ q → A q := hB.2.2.2.1
  have hAz : ¬ A z := hB.2.2.2.2.1
  have hO := hB.2.2.2.2.2.1
  have hS : va_S A s.heap s.heap [] := va_S.rf
  have hl := lv_entry ([Value.ref this, Value.int p1, Value.int p2, Value.int p3] : List Value) (n := 5) (Nat.le_of_ble_eq_true rfl)
  rw [lg_entry_eq]
  generalize (lg_sl ([Value.ref this, Value.int p1, Value.int p2, Value.int p3] : List Value) ++ List.replicate (5 - (lg_sl ([Value.ref this, Value.int p1, Value.int p2, Value.int p3] : List Value)).length) Slot.unset).toArray = ls at hl ⊢
  have hl : lv_has ls 5 [(0, .ref this), (1, .int p1), (2, .int p2), (3, .int p3)] := hl
  obtain ⟨Q, hQ⟩ : ∃ Q, Q = vx_MQ below (va_Qv post (fun S' t => wd D y z S' A t.heap) A) (bX D y z A xp) (([Value.ref this, Value.int p1, Value.int p2, Value.int p3] : List Value).toArray) s MC MS A := ⟨_, rfl⟩
  rw [← hQ]
  generalize hR : (headSpec wsX5_refuseWrongDeed ({ frames := 9, cells := MC, slots := MS, locals := 421 } : Room)).room = R
  have hRf : 9 ≤ R.frames := by rw [← hR]; exact Nat.le_refl _
  have hRl : 421 ≤ R.locals := by rw [← hR]; exact Nat.le_refl _
  have hRc : R.cells = MC := by rw [← hR]; rfl
  have hRs : R.slots = MS := by rw [← hR]; rfl
  have hret : ∀ (S : bS) (H : Heap) (locs : List Loc) (pc : Nat) (ls : Array Slot) (cu su : Nat) , post S → wd D y z S A H → va_S A s.heap H locs → cu ≤ MC → su ≤ MS → decode cX5_refuseWrongDeed pc = .ok (.return_, 1) → W p l e R s m (([Value.ref this, Value.int p1, Value.int p2, Value.int p3] : List Value).toArray) below meth c H locs cu su Q (F0 m pc ls []) := by
    intro S H locs pc ls cu su h hw hS hcu hsu d0
    rw [hQ]; refine vx_ret ?_; refine W.widen hcu hsu ?_; exact W.vret hx hb hr (fun t ht hW => ⟨⟨S, rfl, h, by show wd D y z S A t.heap; rw [ht]; exact hw⟩, hS.F ht⟩) hS.2.2 d0 hlocks
  have hB71 : ∀ (S : bS) (H : Heap) (locs : List Loc) (ls : Array Slot) (mc ms cu su : Nat) , wb_X5_refuseWrongDeed_71 post xp mc ms S → wd D y z S A H → va_S A s.heap H locs → lv_has ls 5 [] → cu + mc ≤ MC → su + ms ≤ MS → W p l e R s m (([Value.ref this, Value.int p1, Value.int p2, Value.int p3] : List Value).toArray) below meth c H locs cu su Q (F0 m 71 ls []) := by
    intro S H locs ls mc ms cu su  h hw hS hl hcu hsu
    unfold wb_X5_refuseWrongDeed_71 at h
    exact hret _ _ _ _ _ _ _ h hw hS (by omega) (by omega) dX5_refuseWrongDeed_71
  unfold wp_X5_refuseWrongDeed at h
  have hcu : 0 + MC ≤ MC := by omega
  have hsu : 0 + MS ≤ MS := by omega
  refine lv_iload_n hx hb dX5_refuseWrongDeed_0 rfl (lv_at hl 1 rfl) ?_
  refine lv_iconst (v := (1 : Int32)) hx hb dX5_refuseWrongDeed_1 (by decide) ?_
  refine lv_icmp_ne (tgt := 31) hx hb dX5_refuseWrongDeed_2 (by decide) (fun hc => ?_) (fun hc => ?_)
  · have h := h.1 hc
    refine lv_aload_n hx hb dX5_refuseWrongDeed_31 rfl (lv_at hl 0 rfl) ?_
    refine lv_iload_n hx hb dX5_refuseWrongDeed_32 rfl (lv_at hl 2 rfl) ?_
    obtain ⟨hk1, h⟩ := h
    obtain ⟨k6, n7, hbg1, hbg2, h⟩ := h
    have h1 := h
    refine vx_callq (vx_runV (As := [.int p2]) (rest := []) ⟨hx, hb, hml, hown, hts⟩ (m_X5_knownStation (l := l) hl0 h1) (cwV 1 hts gX5_refuseWrongDeed_X5_knownStation rfl rfl rfl (by decide +kernel) ⟨Nat.le_trans (Nat.le_of_ble_eq_true rfl) hRf, Nat.le_trans (Nat.le_of_ble_eq_true rfl) hRl⟩) (r_pV hB hw hS (ce_7 (S := S) hk1) rfl) rfl rfl hl.1 rfl (lv_room (Nat.le_of_ble_eq_true rfl)) dX5_refuseWrongDeed_33 ⟨by omega, by omega⟩) hS (fun _ _ h => h) (fun _ h => h) (fun _ _ h => h) (fun E ce q9 S3 t H1 locs ht hal _ hq hz9 hk9 hS hq9 hvm9 hfc9 => by rw [hQ]; exact vx_out (fun x hx => (hex x hx).elim) hlocks hq9 hvm9 hfc9 (fun t9 ht9 _ => ⟨S3, trivial, ⟨hq.1, by rw [ht9, ← ht]; exact hq.2⟩, hS.F ht9⟩) hS.2.2 (by omega) (by omega)) (fun r2 S3 t H1 locs ht _ h hw1 _ _ hS => ?_)
    subst ht
    have hw : wd D y z S3 A t.heap := hw1
    clear hw1 h1
    have hcu : (0 + k6) + (MC - k6) ≤ MC := by omega
    have hsu : (0 + n7) + (MS - n7) ≤ MS := by omega
    obtain ⟨b4, rfl, h⟩ := h
    refine W.eq (g2 := F0 m 36 ls [.ref b4]) rfl ?_
    refine lv_astore hx hb dX5_refuseWrongDeed_36 hl (by decide) rfl (fun ls hl => ?_)
    have hl : lv_has ls 5 [(4, .ref b4), (0, .ref this), (1, .int p1), (2, .int p2), (3, .int p3)] := hl
    refine lv_iload_n hx hb dX5_refuseWrongDeed_38 rfl (lv_at hl 2 rfl) ?_
    refine lv_iconst (v := (2 : Int32)) hx hb dX5_refuseWrongDeed_39 (by decide) ?_
    refine lv_icmp_ne (tgt := 52) hx hb dX5_refuseWrongDeed_40 (by decide) (fun hc => ?_) (fun hc => ?_)
    · have h := h.1 hc
      refine lv_aload hx hb dX5_refuseWrongDeed_52 (lv_at hl 0 rfl) ?_
      refine lv_iload_n hx hb dX5_refuseWrongDeed_54 rfl (lv_at hl 4 rfl) ?_
      obtain ⟨hk8, h⟩ := h
      have h1 := h
      refine va_calli (va_runVN (As := [.int p3]) (rest := []) ⟨hx, hb, hml, hown, hts⟩ (m_X3_hasSwitchFor (l := l) h1) ⟨va_cnB 1 hts gX5_refuseWrongDeed_X3_hasSwitchFor_n87 rfl rfl rfl (hNw _ bNw_52) (hts (.initialized RX3) (by decide +kernel)) ⟨by decide +kernel, by decide +kernel, by decide +kernel⟩ ⟨Nat.le_trans (Nat.le_of_ble_eq_true rfl) hRf, Nat.le_trans (Nat.le_of_ble_eq_true rfl) hRl⟩, (hts (.instanceMethod yX3_hasSwitchFor) (by decide +kernel)), hts (.selects RX3 yX3_hasSwitchFor yX3_hasSwitchFor) (by decide +kernel)⟩ (r_pV hB hw hS (ce_5 (S := S3) hk8) rfl) rfl rfl hl.1 rfl (lv_room (Nat.le_of_ble_eq_true rfl)) dX5_refuseWrongDeed_55 ⟨by omega, by omega⟩) hS (fun _ _ h => h) (fun _ h => h) (fun r9 S10 t H1 locs ht _ h hw1 _ _ hS => ?_)
      subst ht
      have hw : wd D y z S10 A t.heap := hw1
      clear hw1 h1
      refine lv_if_ne (tgt := 71) hx hb dX5_refuseWrongDeed_58 (by decide) (fun hc => ?_) (fun hc => ?_)
      · have h := h.1 hc
        exact hB71 _ _ _ _ _ _ _ _ h hw hS (lv_sub hl [] rfl) hcu hsu
      · have h := h.2 hc
        obtain ⟨hbg1, hbg2, h⟩ := h
        obtain ⟨sa9, hsa9⟩ := b_str hB 15 rfl
        rw [hQ]
        exact vx_throwS (names := ["java/lang/RuntimeException", "java/lang/Exception"]) hx hb hl0 hown (by decide +kernel) (by decide +kernel) (hts (.classLink RX5 127 "java/lang/IndexOutOfBoundsException") (by decide +kernel)) (hts (.initialized "java/lang/IndexOutOfBoundsException") (by decide +kernel)) hsa9 (b_hat (fun w hw9 => hts w ((by decide +kernel : ∀ w ∈ (vx_atS RX5 131 "java/lang/IndexOutOfBoundsException" ["java/lang/RuntimeException", "java/lang/Exception"]).filter goodWord, w ∈ wsX5_refuseWrongDeed) w hw9)) (by decide +kernel) hB) (by decide +kernel) (b_U hB) (b_N hB) hS (by rw [hml]; exact hl.1) dX5_refuseWrongDeed_61 dX5_refuseWrongDeed_64 dX5_refuseWrongDeed_65 dX5_refuseWrongDeed_67 dX5_refuseWrongDeed_70 (fun x hx => (hex x hx).elim) (Nat.lt_of_lt_of_le (by decide) hRf) (Nat.le_trans (Nat.le_of_ble_eq_true rfl) hRl) (by omega) (by omega) hlocks (fun t9 ha9 hz9 hk9 => ⟨S10, trivial, ⟨h, b_grow hw hz9 hk9⟩, b_growF hS hz9 hk9⟩) hS.2.2 (by omega) (by omega)
    · have h := h.2 hc
      refine lv_aload_n hx hb dX5_refuseWrongDeed_43 rfl (lv_at hl 1 rfl) ?_
      refine lv_iload_n hx hb dX5_refuseWrongDeed_44 rfl (lv_at hl 4 rfl) ?_
      obtain ⟨hk11, h⟩ := h
      obtain ⟨k16, n17, hbg1, hbg2, h⟩ := h
      have h1 := h
      refine vx_callq (vx_runV (As := [.int p3]) (rest := []) ⟨hx, hb, hml, hown, hts⟩ (m_X5_knownStation (l := l) hl0 h1) (cwV 1 hts gX5_refuseWrongDeed_X5_knownStation rfl rfl rfl (by decide +kernel) ⟨Nat.le_trans (Nat.le_of_ble_eq_true rfl) hRf, Nat.le_trans (Nat.le_of_ble_eq_true rfl) hRl⟩) (r_pV hB hw hS (ce_7 (S := S3) hk11) rfl) rfl rfl hl.1 rfl (lv_room (Nat.le_of_ble_eq_true rfl)) dX5_refuseWrongDeed_45 ⟨by omega, by omega⟩) hS (fun _ _ h => h) (fun _ h => h) (fun _ _ h => h) (fun E ce q9 S13 t H1 locs ht hal _ hq hz9 hk9 hS hq9 hvm9 hfc9 => by rw [hQ]; exact vx_out (fun x hx => (hex x hx).elim) hlocks hq9 hvm9 hfc9 (fun t9 ht9 _ => ⟨S13, trivial, ⟨hq.1, by rw [ht9, ← ht]; exact hq.2⟩, hS.F ht9⟩) hS.2.2 (by omega) (by omega)) (fun r12 S13 t H1 locs ht _ h hw1 _ _ hS => ?_)
      subst ht
      have hw : wd D y z S13 A t.heap := hw1
      clear hw1 h1
      have hcu : ((0 + k6) + k16) + ((MC - k6) - k16) ≤ MC := by omega
      have hsu : ((0 + n7) + n17) + ((MS - n7) - n17) ≤ MS := by omega
      obtain ⟨b14, rfl, h⟩ := h
      refine W.eq (g2 := F0 m 48 ls [.ref b14]) rfl ?_
      refine lv_pop hx hb dX5_refuseWrongDeed_48 rfl ?_
      refine lv_goto (tgt := 71) hx hb dX5_refuseWrongDeed_49 (by decide) ?_
      exact hB71 _ _ _ _ _ _ _ _ h hw hS (lv_sub hl [] rfl) hcu hsu
  · have h := h.2 hc
    refine lv_aload_n hx hb dX5_refuseWrongDeed_5 rfl (lv_at hl 0 rfl) ?_
    refine lv_iload_n hx hb dX5_refuseWrongDeed_6 rfl (lv_at hl 2 rfl) ?_
    obtain ⟨hk18, h⟩ := h
    obtain ⟨k23, n24, hbg1, hbg2, h⟩ := h
    have h1 := h
    refine vx_callq (vx_runV (As := [.int p2]) (rest := []) ⟨hx, hb, hml, hown, hts⟩ (m_X5_knownTube (l := l) hl0 h1) (cwV 1 hts gX5_refuseWrongDeed_X5_knownTube rfl rfl rfl (by decide +kernel) ⟨Nat.le_trans (Nat.le_of_ble_eq_true rfl) hRf, Nat.le_trans (Nat.le_of_ble_eq_true rfl) hRl⟩) (r_pV hB hw hS (ce_7 (S := S) hk18) rfl) rfl rfl hl.1 rfl (lv_room (Nat.le_of_ble_eq_true rfl)) dX5_refuseWrongDeed_7 ⟨by omega, by omega⟩) hS (fun _ _ h => h) (fun _ h => h) (fun _ _ h => h) (fun E ce q9 S20 t H1 locs ht hal _ hq hz9 hk9 hS hq9 hvm9 hfc9 => by rw [hQ]; exact vx_out (fun x hx => (hex x hx).elim) hlocks hq9 hvm9 hfc9 (fun t9 ht9 _ => ⟨S20, trivial, ⟨hq.1, by rw [ht9, ← ht]; exact hq.2⟩, hS.F ht9⟩) hS.2.2 (by omega) (by omega)) (fun r19 S20 t H1 locs ht _ h hw1 _ _ hS => ?_)
    subst ht
    have hw : wd D y z S20 A t.heap := hw1
    clear hw1 h1
    have hcu : (0 + k23) + (MC - k23) ≤ MC := by omega
    have hsu : (0 + n24) + (MS - n24) ≤ MS := by omega
    obtain ⟨b21, rfl, h⟩ := h
    refine W.eq (g2 := F0 m 10 ls [.ref b21]) rfl ?_
    refine lv_pop hx hb dX5_refuseWrongDeed_10 rfl ?_
    refine lv_iload_n hx hb dX5_refuseWrongDeed_11 rfl (lv_at hl 3 rfl) ?_
    refine lv_iconst (v := (0 : Int32)) hx hb dX5_refuseWrongDeed_12 (by decide) ?_
    refine lv_iconst (v := (1 : Int32)) hx hb dX5_refuseWrongDeed_13 (by decide) ?_
    have h1 := h
    refine va_calli (va_runS (As := [.int p3, .int (0 : Int32), .int (1 : Int32)]) (rest := []) ⟨hx, hb, hml, hown, hts⟩ (m_X5_isOutside (l := l) h1) (cwS 3 hts gX5_refuseWrongDeed_X5_isOutside rfl rfl rfl (by decide +kernel) ⟨Nat.le_trans (Nat.le_of_ble_eq_true rfl) hRf, Nat.le_trans (Nat.le_of_ble_eq_true rfl) hRl⟩) (r_pS hB hw hS) rfl rfl hl.1 rfl (lv_room (Nat.le_of_ble_eq_true rfl)) dX5_refuseWrongDeed_14 ⟨by omega, by omega⟩) hS (fun _ _ h => h) (fun _ h => h) (fun r25 S26 t H1 locs ht _ h hw1 _ _ hS => ?_)
    subst ht
    have hw : wd D y z S26 A t.heap := hw1
    clear hw1 h1
    refine lv_if_eq (tgt := 30) hx hb dX5_refuseWrongDeed_17 (by decide) (fun hc => ?_) (fun hc => ?_)
    · have h := h.1 hc
      exact hret _ _ _ _ _ _ _ h hw hS (by omega) (by omega) dX5_refuseWrongDeed_30
    · have h := h.2 hc
      obtain ⟨hbg1, hbg2, h⟩ := h
      obtain ⟨sa9, hsa9⟩ := b_str hB 14 rfl
      rw [hQ]
      exact vx_throwS (names := ["java/lang/RuntimeException", "java/lang/Exception"]) hx hb hl0 hown (by decide +kernel) (by decide +kernel) (hts (.classLink RX5 127 "java/lang/IndexOutOfBoundsException") (by decide +kernel)) (hts (.initialized "java/lang/IndexOutOfBoundsException") (by decide +kernel)) hsa9 (b_hat (fun w hw9 => hts w ((by decide +kernel : ∀ w ∈ (vx_atS RX5 131 "java/lang/IndexOutOfBoundsException" ["java/lang/RuntimeException", "java/lang/Exception"]).filter goodWord, w ∈ wsX5_refuseWrongDeed) w hw9)) (by decide +kernel) hB) (by decide +kernel) (b_U hB) (b_N hB) hS (by rw [hml]; exact hl.1) dX5_refuseWrongDeed_20 dX5_refuseWrongDeed_23 dX5_refuseWrongDeed_24 dX5_refuseWrongDeed_26 dX5_refuseWrongDeed_29 (fun x hx => (hex x hx).elim) (Nat.lt_of_lt_of_le (by decide) hRf) (Nat.le_trans (Nat.le_of_ble_eq_true rfl) hRl) (by omega) (by omega) hlocks (fun t9 ha9 hz9 hk9 => ⟨S26, trivial, ⟨h, b_grow hw hz9 hk9⟩, b_growF hS hz9 hk9⟩) hS.2.2 (by omega) (by omega)
def wb_X5_addEntry_34 (post : Int32 → bS → Prop) (xp : String → bS → Prop) (mc ms : Nat) (S : bS) : Prop := 1 ≤ mc ∧ 6 ≤ ms ∧ xp "java/lang/IllegalArgumentException" S
def wp_X5_addEntry (post : Int32 → bS → Prop) (xp : String → bS → Prop) (MC MS : Nat) (this : Nat) (p1 : Int32) (p2 : Int32) (p3 : Int32) (p4 : Int32) (p5 : Int32) (S : bS) : Prop := gK S this = 7 ∧ ((p1 ≤ (gV S 7 this 3) → wb_X5_addEntry_34 post xp MC MS S) ∧ (¬ (p1 ≤ (gV S 7 this 3)) → ((100000 : Int32) < p1 → wb_X5_addEntry_34 post xp MC MS S) ∧ (¬ ((100000 : Int32) < p1) → wp_X5_isOutside (fun r2 S3 => (r2 ≠ (0 : Int32) → wb_X5_addEntry_34 post xp MC MS S3) ∧ (r2 = (0 : Int32) → wp_X5_isOutside (fun r4 S5 => (r4 = (0 : Int32) → gK S5 this = 7 ∧ (∃ k9 n10, k9 ≤ MC ∧ n10 ≤ MS ∧ (wp_X5_refuseWrongDeed (fun S8 => gK S8 this = 7 ∧ (∃ b12, gQ S8 7 this 1 = some b12 ∧ (gK S8 b12 = 1 ∧ (wp_Jx4a65c_size_8abf5 (fun r15 S16 => (r15 < (12 : Int32) → gK S16 this = 7 ∧ (∃ b18, gQ S16 7 this 1 = some b18 ∧ (1 ≤ (MC - k9) ∧ 5 ≤ (MS - n10) ∧ (∀ q20, gK S16 q20 = 0 → (wp_X1_init (fun S25 => gK S25 b18 = 1 ∧ (∃ k29 n30, k29 ≤ ((MC - k9) - 1) ∧ n30 ≤ ((MS - n10) - 5) ∧ (wp_Jx4a65c_add_9ea2d (fun r27 S28 => gK S28 this = 7 ∧ (∃ b32, gQ S28 7 this 1 = some b32 ∧ (gK S28 b32 = 1 ∧ (wp_Jx4a65c_size_8abf5 (fun r35 S36 => post (r35 - (1 : Int32)) S36) b32 S28)))) k29 n30 b18 q20 S25))) q20 p1 p2 p3 p4 p5 (sNew S16 q20 3 0)))))) ∧ (¬ (r15 < (12 : Int32)) → 1 ≤ (MC - k9) ∧ 6 ≤ (MS - n10) ∧ xp "java/lang/IllegalStateException" S16)) b12 S8)))) xp k9 n10 this p3 p4 p5 S5))) ∧ (¬ (r4 = (0 : Int32)) → wb_X5_addEntry_34 post xp MC MS S5)) p3 (0 : Int32) (2 : Int32) S3)) p2 (0 : Int32) (500 : Int32) S)))
set_option maxHeartbeats 4000000 in
set_option maxRecDepth 100000 in
theorem m_X5_addEntry {l : Launch} {D : va_G} {y : Nat → ClassId} {z : Nat} {A : Nat → Prop} {S : bS} {post : Int32 → bS → Prop} {xp : String → bS → Prop} (hl0 : l.stackTraces = false) {MC MS : Nat} {this : Nat} {p1 : Int32} {p2 : Int32} {p3 : Int32} {p4 : Int32} {p5 : Int32} (h : wp_X5_addEntry post xp MC MS this p1 p2 p3 p4 p5 S) : vx_Met l yX5_addEntry wsX5_addEntry ({ frames := 10, cells := MC, slots := MS, locals := 445 } : Room) (va_Pc ([Value.ref this, Value.int p1, Value.int p2, Value.int p3, Value.int p4, Value.int p5] : List Value) (bP D y z S A)) (va_Qi post (fun S' t => wd D y z S' A t.heap) A) (bX D y z A xp) MC MS A := by
  refine vx_ofW (cc := cX5_addEntry) (maxL := 6) (ret := (some .int)) (by decide) rfl ?_
  intro p e s m args below meth c s₁ B hml hex hv
  obtain ⟨rfl, hB⟩ := hv
  have hx := B.exec
  have hb := B.bytes
  have hr := B.returns
  have hts := atoms_spec (ws := wsX5_addEntry) B.pre
  have hown : s.vm.findClass RX5 = some m.cls := findClass_of_methodNamed B.named
  have hlocks := B.notSynchronized
  have hw : wd D y z S A s.heap := hB.1
  have hK : va_K D bCl (bT y) s := hB.2.1
  have hNw := hB.2.2.1
  have hAn : ∀ q : Nat, s.heap.size ≤ q → A q := hB.2.2.2.1
  have hAz : ¬ A z := hB.2.2.2.2.1
  have hO := hB.2.2.2.2.2.1
  have hS : va_S A s.heap s.heap [] := va_S.rf
  have hiX1 : ∀ w ∈ u_ws RX1 TX1 5, w ∈ wsX5_addEntry := by decide +kernel
  have hiX5 : ∀ w ∈ u_ws RX5 TX5 6, w ∈ wsX5_addEntry := by decide +kernel
  have hl := lv_entry ([Value.ref this, Value.int p1, Value.int p2, Value.int p3, Value.int p4, Value.int p5] : List Value) (n := 6) (Nat.le_of_ble_eq_true rfl)
  rw [lg_entry_eq]
  generalize (lg_sl ([Value.ref this, Value.int p1, Value.int p2, Value.int p3, Value.int p4, Value.int p5] : List Value) ++ List.replicate (6 - (lg_sl ([Value.ref this, Value.int p1, Value.int p2, Value.int p3, Value.int p4, Value.int p5] : List Value)).length) Slot.unset).toArray = ls at hl ⊢
  have hl : lv_has ls 6 [(0, .ref this), (1, .int p1), (2, .int p2), (3, .int p3), (4, .int p4), (5, .int p5)] := hl
  obtain ⟨Q, hQ⟩ : ∃ Q, Q = vx_MQ below (va_Qi post (fun S' t => wd D y z S' A t.heap) A) (bX D y z A xp) (([Value.ref this, Value.int p1, Value.int p2, Value.int p3, Value.int p4, Value.int p5] : List Value).toArray) s MC MS A := ⟨_, rfl⟩
  rw [← hQ]
  generalize hR : (headSpec wsX5_addEntry ({ frames := 10, cells := MC, slots := MS, locals := 445 } : Room)).room = R
  have hRf : 10 ≤ R.frames := by rw [← hR]; exact Nat.le_refl _
  have hRl : 445 ≤ R.locals := by rw [← hR]; exact Nat.le_refl _
  have hRc : R.cells = MC := by rw [← hR]; rfl
  have hRs : R.slots = MS := by rw [← hR]; rfl
  have hret : ∀ (v : Int32) (S : bS) (H : Heap) (locs : List Loc) (pc : Nat) (ls : Array Slot) (cu su : Nat) , post v S → wd D y z S A H → va_S A s.heap H locs → cu ≤ MC → su ≤ MS → decode cX5_addEntry pc = .ok (.ireturn, 1) → W p l e R s m (([Value.ref this, Value.int p1, Value.int p2, Value.int p3, Value.int p4, Value.int p5] : List Value).toArray) below meth c H locs cu su Q (F0 m pc ls [.int v]) := by
    intro v S H locs pc ls cu su h hw hS hcu hsu d0
    rw [hQ]; refine vx_ret ?_; refine W.widen hcu hsu ?_; exact W.iret hx hb hr (fun t ht hW => ⟨⟨v, S, rfl, h, by show wd D y z S A t.heap; rw [ht]; exact hw⟩, hS.F ht⟩) hS.2.2 d0 hlocks
  have hB34 : ∀ (S : bS) (H : Heap) (locs : List Loc) (ls : Array Slot) (mc ms cu su : Nat) , wb_X5_addEntry_34 post xp mc ms S → wd D y z S A H → va_S A s.heap H locs → lv_has ls 6 [] → cu + mc ≤ MC → su + ms ≤ MS → W p l e R s m (([Value.ref this, Value.int p1, Value.int p2, Value.int p3, Value.int p4, Value.int p5] : List Value).toArray) below meth c H locs cu su Q (F0 m 34 ls []) := by
    intro S H locs ls mc ms cu su  h hw hS hl hcu hsu
    unfold wb_X5_addEntry_34 at h
    obtain ⟨hbg1, hbg2, h⟩ := h
    obtain ⟨sa9, hsa9⟩ := b_str hB 13 rfl
    rw [hQ]
    exact vx_throwS (names := ["java/lang/RuntimeException", "java/lang/Exception"]) hx hb hl0 hown (by decide +kernel) (by decide +kernel) (hts (.classLink RX5 40 "java/lang/IllegalArgumentException") (by decide +kernel)) (hts (.initialized "java/lang/IllegalArgumentException") (by decide +kernel)) hsa9 (b_hat (fun w hw9 => hts w ((by decide +kernel : ∀ w ∈ (vx_atS RX5 44 "java/lang/IllegalArgumentException" ["java/lang/RuntimeException", "java/lang/Exception"]).filter goodWord, w ∈ wsX5_addEntry) w hw9)) (by decide +kernel) hB) (by decide +kernel) (b_U hB) (b_N hB) hS (by rw [hml]; exact hl.1) dX5_addEntry_34 dX5_addEntry_37 dX5_addEntry_38 dX5_addEntry_40 dX5_addEntry_43 (fun x hx => (hex x hx).elim) (Nat.lt_of_lt_of_le (by decide) hRf) (Nat.le_trans (Nat.le_of_ble_eq_true rfl) hRl) (by omega) (by omega) hlocks (fun t9 ha9 hz9 hk9 => ⟨S, trivial, ⟨h, b_grow hw hz9 hk9⟩, b_growF hS hz9 hk9⟩) hS.2.2 (by omega) (by omega)
  unfold wp_X5_addEntry at h
  have hcu : 0 + MC ≤ MC := by omega
  have hsu : 0 + MS ≤ MS := by omega
  refine lv_iload_n hx hb dX5_addEntry_0 rfl (lv_at hl 1 rfl) ?_
  refine lv_aload_n hx hb dX5_addEntry_1 rfl (lv_at hl 0 rfl) ?_
  obtain ⟨hk1, h⟩ := h
  refine r_get (ci := 6) (v := .int (gV S 7 this 3)) (C := RX5) (T := TX5) (N := 6) hx hb hts hiX5 hown hK hw (ce_7 (S := S) hk1) rfl 3 (by decide) (hts (.fieldLink RX5 26 "TubePost" "tick" "I") (by decide +kernel)) (fun _ h9 => h9) rfl dX5_addEntry_2 ?_
  refine lv_icmp_le (tgt := 34) hx hb dX5_addEntry_5 (by decide) (fun hc => ?_) (fun hc => ?_)
  · have h := h.1 hc
    exact hB34 _ _ _ _ _ _ _ _ h hw hS (lv_sub hl [] rfl) hcu hsu
  · have h := h.2 hc
    refine lv_iload_n hx hb dX5_addEntry_8 rfl (lv_at hl 1 rfl) ?_
    refine lv_ldc (v := (100000 : Int32)) hx hb hown (hts (.constant RX5 109 (100000 : Int32)) (by decide +kernel)) dX5_addEntry_9 ?_
    refine lv_icmp_gt (tgt := 34) hx hb dX5_addEntry_11 (by decide) (fun hc => ?_) (fun hc => ?_)
    · have h := h.1 hc
      exact hB34 _ _ _ _ _ _ _ _ h hw hS (lv_sub hl [] rfl) hcu hsu
    · have h := h.2 hc
      refine lv_iload_n hx hb dX5_addEntry_14 rfl (lv_at hl 2 rfl) ?_
      refine lv_iconst (v := (0 : Int32)) hx hb dX5_addEntry_15 (by decide) ?_
      refine lv_sipush (v := (500 : Int32)) hx hb dX5_addEntry_16 (by decide) ?_
      have h1 := h
      refine va_calli (va_runS (As := [.int p2, .int (0 : Int32), .int (500 : Int32)]) (rest := []) ⟨hx, hb, hml, hown, hts⟩ (m_X5_isOutside (l := l) h1) (cwS 3 hts gX5_addEntry_X5_isOutside rfl rfl rfl (by decide +kernel) ⟨Nat.le_trans (Nat.le_of_ble_eq_true rfl) hRf, Nat.le_trans (Nat.le_of_ble_eq_true rfl) hRl⟩) (r_pS hB hw hS) rfl rfl hl.1 rfl (lv_room (Nat.le_of_ble_eq_true rfl)) dX5_addEntry_19 ⟨by omega, by omega⟩) hS (fun _ _ h => h) (fun _ h => h) (fun r2 S3 t H1 locs ht _ h hw1 _ _ hS => ?_)
      subst ht
      have hw : wd D y z S3 A t.heap := hw1
      clear hw1 h1
      refine lv_if_ne (tgt := 34) hx hb dX5_addEntry_22 (by decide) (fun hc => ?_) (fun hc => ?_)
      · have h := h.1 hc
        exact hB34 _ _ _ _ _ _ _ _ h hw hS (lv_sub hl [] rfl) hcu hsu
      · have h := h.2 hc
        refine lv_iload_n hx hb dX5_addEntry_25 rfl (lv_at hl 3 rfl) ?_
        refine lv_iconst (v := (0 : Int32)) hx hb dX5_addEntry_26 (by decide) ?_
        refine lv_iconst (v := (2 : Int32)) hx hb dX5_addEntry_27 (by decide) ?_
        have h1 := h
        refine va_calli (va_runS (As := [.int p3, .int (0 : Int32), .int (2 : Int32)]) (rest := []) ⟨hx, hb, hml, hown, hts⟩ (m_X5_isOutside (l := l) h1) (cwS 3 hts gX5_addEntry_X5_isOutside rfl rfl rfl (by decide +kernel) ⟨Nat.le_trans (Nat.le_of_ble_eq_true rfl) hRf, Nat.le_trans (Nat.le_of_ble_eq_true rfl) hRl⟩) (r_pS hB hw hS) rfl rfl hl.1 rfl (lv_room (Nat.le_of_ble_eq_true rfl)) dX5_addEntry_28 ⟨by omega, by omega⟩) hS (fun _ _ h => h) (fun _ h => h) (fun r4 S5 t H1 locs ht _ h hw1 _ _ hS => ?_)
        subst ht
        have hw : wd D y z S5 A t.heap := hw1
        clear hw1 h1
        refine lv_if_eq (tgt := 44) hx hb dX5_addEntry_31 (by decide) (fun hc => ?_) (fun hc => ?_)
        · have h := h.1 hc
          refine lv_aload_n hx hb dX5_addEntry_44 rfl (lv_at hl 0 rfl) ?_
          refine lv_iload_n hx hb dX5_addEntry_45 rfl (lv_at hl 3 rfl) ?_
          refine lv_iload hx hb dX5_addEntry_46 (lv_at hl 4 rfl) ?_
          refine lv_iload hx hb dX5_addEntry_48 (lv_at hl 5 rfl) ?_
          obtain ⟨hk6, h⟩ := h
          obtain ⟨k9, n10, hbg1, hbg2, h⟩ := h
          have h1 := h
          refine vx_callv (vx_runV (As := [.int p3, .int p4, .int p5]) (rest := []) ⟨hx, hb, hml, hown, hts⟩ (m_X5_refuseWrongDeed (l := l) hl0 h1) (cwV 3 hts gX5_addEntry_X5_refuseWrongDeed rfl rfl rfl (by decide +kernel) ⟨Nat.le_trans (Nat.le_of_ble_eq_true rfl) hRf, Nat.le_trans (Nat.le_of_ble_eq_true rfl) hRl⟩) (r_pV hB hw hS (ce_7 (S := S5) hk6) rfl) rfl rfl hl.1 rfl (lv_room (Nat.le_of_ble_eq_true rfl)) dX5_addEntry_50 ⟨by omega, by omega⟩) hS (fun _ _ h => h) (fun _ h => h) (fun _ _ h => h) (fun E ce q9 S8 t H1 locs ht hal _ hq hz9 hk9 hS hq9 hvm9 hfc9 => by rw [hQ]; exact vx_out (fun x hx => (hex x hx).elim) hlocks hq9 hvm9 hfc9 (fun t9 ht9 _ => ⟨S8, trivial, ⟨hq.1, by rw [ht9, ← ht]; exact hq.2⟩, hS.F ht9⟩) hS.2.2 (by omega) (by omega)) (fun S8 t H1 locs ht _ h hw1 _ _ hS => ?_)
          subst ht
          have hw : wd D y z S8 A t.heap := hw1
          clear hw1 h1
          have hcu : (0 + k9) + (MC - k9) ≤ MC := by omega
          have hsu : (0 + n10) + (MS - n10) ≤ MS := by omega
          refine lv_aload_n hx hb dX5_addEntry_53 rfl (lv_at hl 0 rfl) ?_
          obtain ⟨hk11, h⟩ := h
          obtain ⟨b12, hb13, h⟩ := h
          refine r_get (ci := 6) (v := .ref b12) (C := RX5) (T := TX5) (N := 6) hx hb hts hiX5 hown hK hw (ce_7 (S := S8) hk11) rfl 1 (by decide) (hts (.fieldLink RX5 19 "TubePost" "entries" "Ljava/util/ArrayList;") (by decide +kernel)) (fun _ h9 => h9) (congrArg (fun q => some (va_rf q)) hb13) dX5_addEntry_54 ?_
          obtain ⟨hk14, h⟩ := h
          have h1 := h
          refine va_calli (va_runV (As := []) (rest := []) ⟨hx, hb, hml, hown, hts⟩ (m_Jx4a65c_size_8abf5 (l := l) h1) (cwV 0 hts gX5_addEntry_Jx4a65c_size_8abf5 rfl rfl rfl (by decide +kernel) ⟨Nat.le_trans (Nat.le_of_ble_eq_true rfl) hRf, Nat.le_trans (Nat.le_of_ble_eq_true rfl) hRl⟩) (r_pV hB hw hS (ce_1 (S := S8) hk14) rfl) rfl rfl hl.1 rfl (lv_room (Nat.le_of_ble_eq_true rfl)) dX5_addEntry_57 ⟨by omega, by omega⟩) hS (fun _ _ h => h) (fun _ h => h) (fun r15 S16 t H1 locs ht _ h hw1 _ _ hS => ?_)
          subst ht
          have hw : wd D y z S16 A t.heap := hw1
          clear hw1 h1
          refine lv_bipush (v := (12 : Int32)) hx hb dX5_addEntry_60 (by decide) ?_
          refine lv_icmp_lt (tgt := 75) hx hb dX5_addEntry_62 (by decide) (fun hc => ?_) (fun hc => ?_)
          · have h := h.1 hc
            refine lv_aload_n hx hb dX5_addEntry_75 rfl (lv_at hl 0 rfl) ?_
            obtain ⟨hk17, h⟩ := h
            obtain ⟨b18, hb19, h⟩ := h
            refine r_get (ci := 6) (v := .ref b18) (C := RX5) (T := TX5) (N := 6) hx hb hts hiX5 hown hK hw (ce_7 (S := S16) hk17) rfl 1 (by decide) (hts (.fieldLink RX5 19 "TubePost" "entries" "Ljava/util/ArrayList;") (by decide +kernel)) (fun _ h9 => h9) (congrArg (fun q => some (va_rf q)) hb19) dX5_addEntry_76 ?_
            obtain ⟨hbg1, hbg2, h⟩ := h
            refine r_new (ci := 2) (C := RX1) (T := TX1) (N := 5) (κ := 3) (nn := 0) hx hb hts hiX1 tyX1 tyX1_ok hown (hts (.classLink RX5 118 RX1) (by decide +kernel)) (hts (.instantiable RX1 5) (by decide +kernel)) (hts (.initialized RX1) (by decide +kernel)) hK hw hS hAn hAz rfl pn_3 (Nat.le_of_ble_eq_true rfl) b_fs3 (by omega) (by omega) dX5_addEntry_79 (fun q20 H hq21 hw hS => ?_)
            have h := h q20 hq21
            have hk22 : gK (sNew S16 q20 3 0) this = 7 := b_old hk17 hq21 (by decide)
            have hk23 : gK (sNew S16 q20 3 0) q20 = 3 := if_pos rfl
            have hcu : ((0 + k9) + 1) + ((MC - k9) - 1) ≤ MC := by omega
            have hsu : ((0 + n10) + 5) + ((MS - n10) - 5) ≤ MS := by omega
            refine lv_dup hx hb dX5_addEntry_82 rfl ?_
            refine lv_iload_n hx hb dX5_addEntry_83 rfl (lv_at hl 1 rfl) ?_
            refine lv_iload_n hx hb dX5_addEntry_84 rfl (lv_at hl 2 rfl) ?_
            refine lv_iload_n hx hb dX5_addEntry_85 rfl (lv_at hl 3 rfl) ?_
            refine lv_iload hx hb dX5_addEntry_86 (lv_at hl 4 rfl) ?_
            refine lv_iload hx hb dX5_addEntry_88 (lv_at hl 5 rfl) ?_
            have h1 := h
            refine va_callv (va_runIN (As := [.int p1, .int p2, .int p3, .int p4, .int p5]) (rest := [.ref q20, .ref b18]) ⟨hx, hb, hml, hown, hts⟩ (m_X1_init (l := l) h1) ⟨va_cnB 5 hts gX5_addEntry_X1_init_n120 rfl rfl rfl (hNw _ bNw_54) (hts (.initialized RX1) (by decide +kernel)) ⟨by decide +kernel, by decide +kernel, by decide +kernel⟩ ⟨Nat.le_trans (Nat.le_of_ble_eq_true rfl) hRf, Nat.le_trans (Nat.le_of_ble_eq_true rfl) hRl⟩, rfl, (hts (.instanceMethod yX1_init) (by decide +kernel))⟩ (r_pS hB hw hS) rfl rfl hl.1 rfl (lv_room (Nat.le_of_ble_eq_true rfl)) dX5_addEntry_90 ⟨by omega, by omega⟩) hS (fun _ _ h => h) (fun _ h => h) (fun S25 t H1 locs ht _ h hw1 _ _ hS => ?_)
            subst ht
            have hw : wd D y z S25 A t.heap := hw1
            clear hw1 h1
            obtain ⟨hk26, h⟩ := h
            obtain ⟨k29, n30, hbg1, hbg2, h⟩ := h
            have h1 := h
            refine va_calli (va_runV (As := [.ref q20]) (rest := []) ⟨hx, hb, hml, hown, hts⟩ (m_Jx4a65c_add_9ea2d (l := l) h1) (cwV 1 hts gX5_addEntry_Jx4a65c_add_9ea2d rfl rfl rfl (by decide +kernel) ⟨Nat.le_trans (Nat.le_of_ble_eq_true rfl) hRf, Nat.le_trans (Nat.le_of_ble_eq_true rfl) hRl⟩) (r_pV hB hw hS (ce_1 (S := S25) hk26) rfl) rfl rfl hl.1 rfl (lv_room (Nat.le_of_ble_eq_true rfl)) dX5_addEntry_93 ⟨by omega, by omega⟩) hS (fun _ _ h => h) (fun _ h => h) (fun r27 S28 t H1 locs ht _ h hw1 _ _ hS => ?_)
            subst ht
            have hw : wd D y z S28 A t.heap := hw1
            clear hw1 h1
            have hcu : (((0 + k9) + 1) + k29) + (((MC - k9) - 1) - k29) ≤ MC := by omega
            have hsu : (((0 + n10) + 5) + n30) + (((MS - n10) - 5) - n30) ≤ MS := by omega
            refine lv_pop hx hb dX5_addEntry_96 rfl ?_
            refine lv_aload_n hx hb dX5_addEntry_97 rfl (lv_at hl 0 rfl) ?_
            obtain ⟨hk31, h⟩ := h
            obtain ⟨b32, hb33, h⟩ := h
            refine r_get (ci := 6) (v := .ref b32) (C := RX5) (T := TX5) (N := 6) hx hb hts hiX5 hown hK hw (ce_7 (S := S28) hk31) rfl 1 (by decide) (hts (.fieldLink RX5 19 "TubePost" "entries" "Ljava/util/ArrayList;") (by decide +kernel)) (fun _ h9 => h9) (congrArg (fun q => some (va_rf q)) hb33) dX5_addEntry_98 ?_
            obtain ⟨hk34, h⟩ := h
            have h1 := h
            refine va_calli (va_runV (As := []) (rest := []) ⟨hx, hb, hml, hown, hts⟩ (m_Jx4a65c_size_8abf5 (l := l) h1) (cwV 0 hts gX5_addEntry_Jx4a65c_size_8abf5 rfl rfl rfl (by decide +kernel) ⟨Nat.le_trans (Nat.le_of_ble_eq_true rfl) hRf, Nat.le_trans (Nat.le_of_ble_eq_true rfl) hRl⟩) (r_pV hB hw hS (ce_1 (S := S28) hk34) rfl) rfl rfl hl.1 rfl (lv_room (Nat.le_of_ble_eq_true rfl)) dX5_addEntry_101 ⟨by omega, by omega⟩) hS (fun _ _ h => h) (fun _ h => h) (fun r35 S36 t H1 locs ht _ h hw1 _ _ hS => ?_)
            subst ht
            have hw : wd D y z S36 A t.heap := hw1
            clear hw1 h1
            refine lv_iconst (v := (1 : Int32)) hx hb dX5_addEntry_104 (by decide) ?_
            refine lv_isub hx hb dX5_addEntry_105 ?_
            exact hret (r35 - (1 : Int32)) _ _ _ _ _ _ _ h hw hS (by omega) (by omega) dX5_addEntry_106
          · have h := h.2 hc
            obtain ⟨hbg1, hbg2, h⟩ := h
            obtain ⟨sa9, hsa9⟩ := b_str hB 16 rfl
            rw [hQ]
            exact vx_throwS (names := ["java/lang/RuntimeException", "java/lang/Exception"]) hx hb hl0 hown (by decide +kernel) (by decide +kernel) (hts (.classLink RX5 54 "java/lang/IllegalStateException") (by decide +kernel)) (hts (.initialized "java/lang/IllegalStateException") (by decide +kernel)) hsa9 (b_hat (fun w hw9 => hts w ((by decide +kernel : ∀ w ∈ (vx_atS RX5 58 "java/lang/IllegalStateException" ["java/lang/RuntimeException", "java/lang/Exception"]).filter goodWord, w ∈ wsX5_addEntry) w hw9)) (by decide +kernel) hB) (by decide +kernel) (b_U hB) (b_N hB) hS (by rw [hml]; exact hl.1) dX5_addEntry_65 dX5_addEntry_68 dX5_addEntry_69 dX5_addEntry_71 dX5_addEntry_74 (fun x hx => (hex x hx).elim) (Nat.lt_of_lt_of_le (by decide) hRf) (Nat.le_trans (Nat.le_of_ble_eq_true rfl) hRl) (by omega) (by omega) hlocks (fun t9 ha9 hz9 hk9 => ⟨S16, trivial, ⟨h, b_grow hw hz9 hk9⟩, b_growF hS hz9 hk9⟩) hS.2.2 (by omega) (by omega)
        · have h := h.2 hc
          exact hB34 _ _ _ _ _ _ _ _ h hw hS (lv_sub hl [] rfl) hcu hsu
def wp_X5_underWay (post : Int32 → bS → Prop) (this : Nat) (S : bS) : Prop := gK S this = 7 ∧ (∃ b2, gQ S 7 this 2 = some b2 ∧ (gK S b2 = 1 ∧ (wp_Jx4a65c_size_8abf5 (fun r5 S6 => gK S6 this = 7 ∧ (post (r5 - (gV S6 7 this 4)) S6)) b2 S)))
set_option maxHeartbeats 4000000 in
set_option maxRecDepth 100000 in
theorem m_X5_underWay {l : Launch} {D : va_G} {y : Nat → ClassId} {z : Nat} {A : Nat → Prop} {S : bS} {post : Int32 → bS → Prop} {this : Nat} (h : wp_X5_underWay post this S) : Met l yX5_underWay wsX5_underWay ({ frames := 1, cells := 0, slots := 0, locals := 20 } : Room) (va_Pc ([Value.ref this] : List Value) (bP D y z S A)) (va_Qi post (fun S' t => wd D y z S' A t.heap) A) 0 0 A := by
  refine Met.ofW (cc := cX5_underWay) (maxL := 1) (ret := (some .int)) (by decide) rfl ?_
  intro p e s m args below meth c s₁ B hml hv
  obtain ⟨rfl, hB⟩ := hv
  have hx := B.exec
  have hb := B.bytes
  have hr := B.returns
  have hts := atoms_spec (ws := wsX5_underWay) B.pre
  have hown : s.vm.findClass RX5 = some m.cls := findClass_of_methodNamed B.named
  have hlocks := B.notSynchronized
  have hw : wd D y z S A s.heap := hB.1
  have hK : va_K D bCl (bT y) s := hB.2.1
  have hNw := hB.2.2.1
  have hAn : ∀ q : Nat, s.heap.size ≤ q → A q := hB.2.2.2.1
  have hAz : ¬ A z := hB.2.2.2.2.1
  have hO := hB.2.2.2.2.2.1
  have hS : va_S A s.heap s.heap [] := va_S.rf
  have hiX5 : ∀ w ∈ u_ws RX5 TX5 6, w ∈ wsX5_underWay := by decide +kernel
  have hl := lv_entry ([Value.ref this] : List Value) (n := 1) (Nat.le_of_ble_eq_true rfl)
  rw [lg_entry_eq]
  generalize (lg_sl ([Value.ref this] : List Value) ++ List.replicate (1 - (lg_sl ([Value.ref this] : List Value)).length) Slot.unset).toArray = ls at hl ⊢
  have hl : lv_has ls 1 [(0, .ref this)] := hl
  obtain ⟨Q, hQ⟩ : ∃ Q, Q = MQ below (va_Qi post (fun S' t => wd D y z S' A t.heap) A) (([Value.ref this] : List Value).toArray) s 0 0 A := ⟨_, rfl⟩
  rw [← hQ]
  generalize hR : (headSpec wsX5_underWay ({ frames := 1, cells := 0, slots := 0, locals := 20 } : Room)).room = R
  have hRf : 1 ≤ R.frames := by rw [← hR]; exact Nat.le_refl _
  have hRl : 20 ≤ R.locals := by rw [← hR]; exact Nat.le_refl _
  have hret : ∀ (v : Int32) (S : bS) (H : Heap) (locs : List Loc) (pc : Nat) (ls : Array Slot) , post v S → wd D y z S A H → va_S A s.heap H locs → decode cX5_underWay pc = .ok (.ireturn, 1) → W p l e R s m (([Value.ref this] : List Value).toArray) below meth c H locs 0 0 Q (F0 m pc ls [.int v]) := by
    intro v S H locs pc ls h hw hS d0
    rw [hQ]; exact W.iret hx hb hr (fun t ht hW => ⟨⟨v, S, rfl, h, by show wd D y z S A t.heap; rw [ht]; exact hw⟩, hS.F ht⟩) hS.2.2 d0 hlocks
  unfold wp_X5_underWay at h
  refine lv_aload_n hx hb dX5_underWay_0 rfl (lv_at hl 0 rfl) ?_
  obtain ⟨hk1, h⟩ := h
  obtain ⟨b2, hb3, h⟩ := h
  refine r_get (ci := 6) (v := .ref b2) (C := RX5) (T := TX5) (N := 6) hx hb hts hiX5 hown hK hw (ce_7 (S := S) hk1) rfl 2 (by decide) (hts (.fieldLink RX5 23 "TubePost" "carriers" "Ljava/util/ArrayList;") (by decide +kernel)) (fun _ h9 => h9) (congrArg (fun q => some (va_rf q)) hb3) dX5_underWay_1 ?_
  obtain ⟨hk4, h⟩ := h
  have h1 := h
  refine va_calli (va_runV (As := []) (rest := []) ⟨hx, hb, hml, hown, hts⟩ (m_Jx4a65c_size_8abf5 (l := l) h1) (cwV 0 hts gX5_underWay_Jx4a65c_size_8abf5 rfl rfl rfl (by decide +kernel) ⟨Nat.le_trans (Nat.le_of_ble_eq_true rfl) hRf, Nat.le_trans (Nat.le_of_ble_eq_true rfl) hRl⟩) (r_pV hB hw hS (ce_1 (S := S) hk4) rfl) rfl rfl hl.1 rfl (lv_room (Nat.le_of_ble_eq_true rfl)) dX5_underWay_4 ⟨Nat.zero_le _, Nat.zero_le _⟩) hS (fun _ _ h => h) (fun _ h => h) (fun r5 S6 t H1 locs ht _ h hw1 _ _ hS => ?_)
  subst ht
  have hw : wd D y z S6 A t.heap := hw1
  clear hw1 h1
  refine lv_aload_n hx hb dX5_underWay_7 rfl (lv_at hl 0 rfl) ?_
  obtain ⟨hk7, h⟩ := h
  refine r_get (ci := 6) (v := .int (gV S6 7 this 4)) (C := RX5) (T := TX5) (N := 6) hx hb hts hiX5 hown hK hw (ce_7 (S := S6) hk7) rfl 4 (by decide) (hts (.fieldLink RX5 30 "TubePost" "delivered" "I") (by decide +kernel)) (fun _ h9 => h9) rfl dX5_underWay_8 ?_
  refine lv_isub hx hb dX5_underWay_11 ?_
  exact hret (r5 - (gV S6 7 this 4)) _ _ _ _ _ h hw hS dX5_underWay_12
