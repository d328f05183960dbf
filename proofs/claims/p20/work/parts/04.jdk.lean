def wp_J3_checkIndex_8e157 (post : Int32 → bS → Prop) (p1 : Int32) (p2 : Int32) (S : bS) : Prop := (p1 < (0 : Int32) → False) ∧ (¬ (p1 < (0 : Int32)) → (p1 < p2 → post p1 S) ∧ (¬ (p1 < p2) → False))
set_option maxHeartbeats 4000000 in
set_option maxRecDepth 100000 in
theorem m_J3_checkIndex_8e157 {l : Launch} {D : va_G} {y : Nat → ClassId} {z : Nat} {A : Nat → Prop} {S : bS} {post : Int32 → bS → Prop} {p1 : Int32} {p2 : Int32} (h : wp_J3_checkIndex_8e157 post p1 p2 S) : Met l yJ3_checkIndex_8e157 wsJ3_checkIndex_8e157 ({ frames := 0, cells := 0, slots := 0, locals := 0 } : Room) (va_Pc ([Value.int p1, Value.int p2, Value.null] : List Value) (bP D y z S A)) (va_Qi post (fun S' t => wd D y z S' A t.heap) A) 0 0 A := by
  refine Met.ofW (cc := cJ3_checkIndex_8e157) (maxL := 3) (ret := (some .int)) (by decide) rfl ?_
  intro p e s m args below meth c s₁ B hml hv
  obtain ⟨rfl, hB⟩ := hv
  have hx := B.exec
  have hb := B.bytes
  have hr := B.returns
  have hts := atoms_spec (ws := wsJ3_checkIndex_8e157) B.pre
  have hown : s.vm.findClass RJ3 = some m.cls := findClass_of_methodNamed B.named
  have hlocks := B.notSynchronized
  have hw : wd D y z S A s.heap := hB.1
  have hK : va_K D bCl (bT y) s := hB.2.1
  have hNw := hB.2.2.1
  have hAn : ∀ q : Nat, s.heap.size ≤ q → A q := hB.2.2.2.1
  have hAz : ¬ A z := hB.2.2.2.2.1
  have hO := hB.2.2.2.2.2.1
  have hS : va_S A s.heap s.heap [] := va_S.rf
  have hl := lv_entry ([Value.int p1, Value.int p2, Value.null] : List Value) (n := 3) (Nat.le_of_ble_eq_true rfl)
  rw [lg_entry_eq]
  generalize (lg_sl ([Value.int p1, Value.int p2, Value.null] : List Value) ++ List.replicate (3 - (lg_sl ([Value.int p1, Value.int p2, Value.null] : List Value)).length) Slot.unset).toArray = ls at hl ⊢
  have hl : lv_has ls 3 [(0, .int p1), (1, .int p2), (2, .null)] := hl
  obtain ⟨Q, hQ⟩ : ∃ Q, Q = MQ below (va_Qi post (fun S' t => wd D y z S' A t.heap) A) (([Value.int p1, Value.int p2, Value.null] : List Value).toArray) s 0 0 A := ⟨_, rfl⟩
  rw [← hQ]
  generalize hR : (headSpec wsJ3_checkIndex_8e157 ({ frames := 0, cells := 0, slots := 0, locals := 0 } : Room)).room = R
  have hRf : 0 ≤ R.frames := by rw [← hR]; exact Nat.le_refl _
  have hRl : 0 ≤ R.locals := by rw [← hR]; exact Nat.le_refl _
  have hret : ∀ (v : Int32) (S : bS) (H : Heap) (locs : List Loc) (pc : Nat) (ls : Array Slot) , post v S → wd D y z S A H → va_S A s.heap H locs → decode cJ3_checkIndex_8e157 pc = .ok (.ireturn, 1) → W p l e R s m (([Value.int p1, Value.int p2, Value.null] : List Value).toArray) below meth c H locs 0 0 Q (F0 m pc ls [.int v]) := by
    intro v S H locs pc ls h hw hS d0
    rw [hQ]; exact W.iret hx hb hr (fun t ht hW => ⟨⟨v, S, rfl, h, by show wd D y z S A t.heap; rw [ht]; exact hw⟩, hS.F ht⟩) hS.2.2 d0 hlocks
  unfold wp_J3_checkIndex_8e157 at h
  refine lv_iload_n hx hb dJ3_checkIndex_8e157_0 rfl (lv_at hl 0 rfl) ?_
  refine lv_if_lt (tgt := 9) hx hb dJ3_checkIndex_8e157_1 (by decide) (fun hc => ?_) (fun hc => ?_)
  · have h := h.1 hc
    exact h.elim
  · have h := h.2 hc
    refine lv_iload_n hx hb dJ3_checkIndex_8e157_4 rfl (lv_at hl 0 rfl) ?_
    refine lv_iload_n hx hb dJ3_checkIndex_8e157_5 rfl (lv_at hl 1 rfl) ?_
    refine lv_icmp_lt (tgt := 16) hx hb dJ3_checkIndex_8e157_6 (by decide) (fun hc => ?_) (fun hc => ?_)
    · have h := h.1 hc
      refine lv_iload_n hx hb dJ3_checkIndex_8e157_16 rfl (lv_at hl 0 rfl) ?_
      exact hret p1 _ _ _ _ _ h hw hS dJ3_checkIndex_8e157_17
    · have h := h.2 hc
      exact h.elim
def wp_J15_checkIndex_7cf53 (post : Int32 → bS → Prop) (p1 : Int32) (p2 : Int32) (S : bS) : Prop := wp_J3_checkIndex_8e157 (fun r1 S2 => post r1 S2) p1 p2 S
set_option maxHeartbeats 4000000 in
set_option maxRecDepth 100000 in
theorem m_J15_checkIndex_7cf53 {l : Launch} {D : va_G} {y : Nat → ClassId} {z : Nat} {A : Nat → Prop} {S : bS} {post : Int32 → bS → Prop} {p1 : Int32} {p2 : Int32} (h : wp_J15_checkIndex_7cf53 post p1 p2 S) : Met l yJ15_checkIndex_7cf53 wsJ15_checkIndex_7cf53 ({ frames := 1, cells := 0, slots := 0, locals := 22 } : Room) (va_Pc ([Value.int p1, Value.int p2] : List Value) (bP D y z S A)) (va_Qi post (fun S' t => wd D y z S' A t.heap) A) 0 0 A := by
  refine Met.ofW (cc := cJ15_checkIndex_7cf53) (maxL := 2) (ret := (some .int)) (by decide) rfl ?_
  intro p e s m args below meth c s₁ B hml hv
  obtain ⟨rfl, hB⟩ := hv
  have hx := B.exec
  have hb := B.bytes
  have hr := B.returns
  have hts := atoms_spec (ws := wsJ15_checkIndex_7cf53) B.pre
  have hown : s.vm.findClass RJ15 = some m.cls := findClass_of_methodNamed B.named
  have hlocks := B.notSynchronized
  have hw : wd D y z S A s.heap := hB.1
  have hK : va_K D bCl (bT y) s := hB.2.1
  have hNw := hB.2.2.1
  have hAn : ∀ q : Nat, s.heap.size ≤ q → A q := hB.2.2.2.1
  have hAz : ¬ A z := hB.2.2.2.2.1
  have hO := hB.2.2.2.2.2.1
  have hS : va_S A s.heap s.heap [] := va_S.rf
  have hl := lv_entry ([Value.int p1, Value.int p2] : List Value) (n := 2) (Nat.le_of_ble_eq_true rfl)
  rw [lg_entry_eq]
  generalize (lg_sl ([Value.int p1, Value.int p2] : List Value) ++ List.replicate (2 - (lg_sl ([Value.int p1, Value.int p2] : List Value)).length) Slot.unset).toArray = ls at hl ⊢
  have hl : lv_has ls 2 [(0, .int p1), (1, .int p2)] := hl
  obtain ⟨Q, hQ⟩ : ∃ Q, Q = MQ below (va_Qi post (fun S' t => wd D y z S' A t.heap) A) (([Value.int p1, Value.int p2] : List Value).toArray) s 0 0 A := ⟨_, rfl⟩
  rw [← hQ]
  generalize hR : (headSpec wsJ15_checkIndex_7cf53 ({ frames := 1, cells := 0, slots := 0, locals := 22 } : Room)).room = R
  have hRf : 1 ≤ R.frames := by rw [← hR]; exact Nat.le_refl _
  have hRl : 22 ≤ R.locals := by rw [← hR]; exact Nat.le_refl _
  have hret : ∀ (v : Int32) (S : bS) (H : Heap) (locs : List Loc) (pc : Nat) (ls : Array Slot) , post v S → wd D y z S A H → va_S A s.heap H locs → decode cJ15_checkIndex_7cf53 pc = .ok (.ireturn, 1) → W p l e R s m (([Value.int p1, Value.int p2] : List Value).toArray) below meth c H locs 0 0 Q (F0 m pc ls [.int v]) := by
    intro v S H locs pc ls h hw hS d0
    rw [hQ]; exact W.iret hx hb hr (fun t ht hW => ⟨⟨v, S, rfl, h, by show wd D y z S A t.heap; rw [ht]; exact hw⟩, hS.F ht⟩) hS.2.2 d0 hlocks
  unfold wp_J15_checkIndex_7cf53 at h
  refine lv_iload_n hx hb dJ15_checkIndex_7cf53_0 rfl (lv_at hl 0 rfl) ?_
  refine lv_iload_n hx hb dJ15_checkIndex_7cf53_1 rfl (lv_at hl 1 rfl) ?_
  refine lv_null hx hb dJ15_checkIndex_7cf53_2 ?_
  have h1 := h
  refine va_calli (va_runS (As := [.int p1, .int p2, .null]) (rest := []) ⟨hx, hb, hml, hown, hts⟩ (m_J3_checkIndex_8e157 (l := l) h1) (va_cwS 3 hts gJ15_checkIndex_7cf53_J3_checkIndex_8e157 rfl rfl rfl (by decide +kernel) ⟨Nat.le_trans (Nat.le_of_ble_eq_true rfl) hRf, Nat.le_trans (Nat.le_of_ble_eq_true rfl) hRl⟩) (r_pS hB hw hS) rfl rfl hl.1 rfl (lv_room (Nat.le_of_ble_eq_true rfl)) dJ15_checkIndex_7cf53_3 ⟨Nat.zero_le _, Nat.zero_le _⟩) hS (fun _ _ h => h) (fun _ h => h) (fun r1 S2 t H1 locs ht _ h hw1 _ _ hS => ?_)
  subst ht
  have hw : wd D y z S2 A t.heap := hw1
  clear hw1 h1
  exact hret r1 _ _ _ _ _ h hw hS dJ15_checkIndex_7cf53_6
def wp_Jx4a65c_size_8abf5 (post : Int32 → bS → Prop) (this : Nat) (S : bS) : Prop := gK S this = 1 ∧ (post (gV S 1 this 2) S)
set_option maxHeartbeats 4000000 in
set_option maxRecDepth 100000 in
theorem m_Jx4a65c_size_8abf5 {l : Launch} {D : va_G} {y : Nat → ClassId} {z : Nat} {A : Nat → Prop} {S : bS} {post : Int32 → bS → Prop} {this : Nat} (h : wp_Jx4a65c_size_8abf5 post this S) : Met l yJx4a65c_size_8abf5 wsJx4a65c_size_8abf5 ({ frames := 0, cells := 0, slots := 0, locals := 0 } : Room) (va_Pc ([Value.ref this] : List Value) (bP D y z S A)) (va_Qi post (fun S' t => wd D y z S' A t.heap) A) 0 0 A := by
  refine Met.ofW (cc := cJx4a65c_size_8abf5) (maxL := 1) (ret := (some .int)) (by decide) rfl ?_
  intro p e s m args below meth c s₁ B hml hv
  obtain ⟨rfl, hB⟩ := hv
  have hx := B.exec
  have hb := B.bytes
  have hr := B.returns
  have hts := atoms_spec (ws := wsJx4a65c_size_8abf5) B.pre
  have hown : s.vm.findClass RJx4a65c = some m.cls := findClass_of_methodNamed B.named
  have hlocks := B.notSynchronized
  have hw : wd D y z S A s.heap := hB.1
  have hK : va_K D bCl (bT y) s := hB.2.1
  have hNw := hB.2.2.1
  have hAn : ∀ q : Nat, s.heap.size ≤ q → A q := hB.2.2.2.1
  have hAz : ¬ A z := hB.2.2.2.2.1
  have hO := hB.2.2.2.2.2.1
  have hS : va_S A s.heap s.heap [] := va_S.rf
  have hiJx4a65c : ∀ w ∈ u_ws RJx4a65c TJx4a65c 3, w ∈ wsJx4a65c_size_8abf5 := by decide +kernel
  have hl := lv_entry ([Value.ref this] : List Value) (n := 1) (Nat.le_of_ble_eq_true rfl)
  rw [lg_entry_eq]
  generalize (lg_sl ([Value.ref this] : List Value) ++ List.replicate (1 - (lg_sl ([Value.ref this] : List Value)).length) Slot.unset).toArray = ls at hl ⊢
  have hl : lv_has ls 1 [(0, .ref this)] := hl
  obtain ⟨Q, hQ⟩ : ∃ Q, Q = MQ below (va_Qi post (fun S' t => wd D y z S' A t.heap) A) (([Value.ref this] : List Value).toArray) s 0 0 A := ⟨_, rfl⟩
  rw [← hQ]
  generalize hR : (headSpec wsJx4a65c_size_8abf5 ({ frames := 0, cells := 0, slots := 0, locals := 0 } : Room)).room = R
  have hRf : 0 ≤ R.frames := by rw [← hR]; exact Nat.le_refl _
  have hRl : 0 ≤ R.locals := by rw [← hR]; exact Nat.le_refl _
  have hret : ∀ (v : Int32) (S : bS) (H : Heap) (locs : List Loc) (pc : Nat) (ls : Array Slot) , post v S → wd D y z S A H → va_S A s.heap H locs → decode cJx4a65c_size_8abf5 pc = .ok (.ireturn, 1) → W p l e R s m (([Value.ref this] : List Value).toArray) below meth c H locs 0 0 Q (F0 m pc ls [.int v]) := by
    intro v S H locs pc ls h hw hS d0
    rw [hQ]; exact W.iret hx hb hr (fun t ht hW => ⟨⟨v, S, rfl, h, by show wd D y z S A t.heap; rw [ht]; exact hw⟩, hS.F ht⟩) hS.2.2 d0 hlocks
  unfold wp_Jx4a65c_size_8abf5 at h
  refine lv_aload_n hx hb dJx4a65c_size_8abf5_0 rfl (lv_at hl 0 rfl) ?_
  obtain ⟨hk1, h⟩ := h
  refine r_get (ci := 0) (v := .int (gV S 1 this 2)) (C := RJx4a65c) (T := TJx4a65c) (N := 3) hx hb hts hiJx4a65c hown hK hw (ce_1 (S := S) hk1) rfl 2 (by decide) (hts (.fieldLink RJx4a65c 48 "java/util/ArrayList" "size" "I") (by decide +kernel)) (fun _ h9 => h9) rfl dJx4a65c_size_8abf5_1 ?_
  exact hret (gV S 1 this 2) _ _ _ _ _ h hw hS dJx4a65c_size_8abf5_4
def wb_Jx4a65c_isEmpty_aae02_12 (post : Int32 → bS → Prop) (s0 : Int32) (S : bS) : Prop := (s0 = 0 ∨ s0 = 1) ∧ post s0 S
def wp_Jx4a65c_isEmpty_aae02 (post : Int32 → bS → Prop) (this : Nat) (S : bS) : Prop := gK S this = 1 ∧ (((gV S 1 this 2) ≠ (0 : Int32) → wb_Jx4a65c_isEmpty_aae02_12 post (0 : Int32) S) ∧ ((gV S 1 this 2) = (0 : Int32) → wb_Jx4a65c_isEmpty_aae02_12 post (1 : Int32) S))
set_option maxHeartbeats 4000000 in
set_option maxRecDepth 100000 in
theorem m_Jx4a65c_isEmpty_aae02 {l : Launch} {D : va_G} {y : Nat → ClassId} {z : Nat} {A : Nat → Prop} {S : bS} {post : Int32 → bS → Prop} {this : Nat} (h : wp_Jx4a65c_isEmpty_aae02 post this S) : Met l yJx4a65c_isEmpty_aae02 wsJx4a65c_isEmpty_aae02 ({ frames := 0, cells := 0, slots := 0, locals := 0 } : Room) (va_Pc ([Value.ref this] : List Value) (bP D y z S A)) (va_Qi post (fun S' t => wd D y z S' A t.heap) A) 0 0 A := by
  refine Met.ofW (cc := cJx4a65c_isEmpty_aae02) (maxL := 1) (ret := (some .boolean)) (by decide) rfl ?_
  intro p e s m args below meth c s₁ B hml hv
  obtain ⟨rfl, hB⟩ := hv
  have hx := B.exec
  have hb := B.bytes
  have hr := B.returns
  have hts := atoms_spec (ws := wsJx4a65c_isEmpty_aae02) B.pre
  have hown : s.vm.findClass RJx4a65c = some m.cls := findClass_of_methodNamed B.named
  have hlocks := B.notSynchronized
  have hw : wd D y z S A s.heap := hB.1
  have hK : va_K D bCl (bT y) s := hB.2.1
  have hNw := hB.2.2.1
  have hAn : ∀ q : Nat, s.heap.size ≤ q → A q := hB.2.2.2.1
  have hAz : ¬ A z := hB.2.2.2.2.1
  have hO := hB.2.2.2.2.2.1
  have hS : va_S A s.heap s.heap [] := va_S.rf
  have hiJx4a65c : ∀ w ∈ u_ws RJx4a65c TJx4a65c 3, w ∈ wsJx4a65c_isEmpty_aae02 := by decide +kernel
  have hl := lv_entry ([Value.ref this] : List Value) (n := 1) (Nat.le_of_ble_eq_true rfl)
  rw [lg_entry_eq]
  generalize (lg_sl ([Value.ref this] : List Value) ++ List.replicate (1 - (lg_sl ([Value.ref this] : List Value)).length) Slot.unset).toArray = ls at hl ⊢
  have hl : lv_has ls 1 [(0, .ref this)] := hl
  obtain ⟨Q, hQ⟩ : ∃ Q, Q = MQ below (va_Qi post (fun S' t => wd D y z S' A t.heap) A) (([Value.ref this] : List Value).toArray) s 0 0 A := ⟨_, rfl⟩
  rw [← hQ]
  generalize hR : (headSpec wsJx4a65c_isEmpty_aae02 ({ frames := 0, cells := 0, slots := 0, locals := 0 } : Room)).room = R
  have hRf : 0 ≤ R.frames := by rw [← hR]; exact Nat.le_refl _
  have hRl : 0 ≤ R.locals := by rw [← hR]; exact Nat.le_refl _
  have hret : ∀ (v : Int32) (S : bS) (H : Heap) (locs : List Loc) (pc : Nat) (ls : Array Slot) , (v = 0 ∨ v = 1) → post v S → wd D y z S A H → va_S A s.heap H locs → decode cJx4a65c_isEmpty_aae02 pc = .ok (.ireturn, 1) → W p l e R s m (([Value.ref this] : List Value).toArray) below meth c H locs 0 0 Q (F0 m pc ls [.int v]) := by
    intro v S H locs pc ls hz h hw hS d0
    rw [hQ]; exact W.zret hx hb hr (b_nz hz) (fun t ht hW => ⟨⟨v, S, rfl, h, by show wd D y z S A t.heap; rw [ht]; exact hw⟩, hS.F ht⟩) hS.2.2 d0 hlocks
  have hB12 : ∀ (S : bS) (H : Heap) (locs : List Loc) (ls : Array Slot) (s0 : Int32), wb_Jx4a65c_isEmpty_aae02_12 post s0 S → wd D y z S A H → va_S A s.heap H locs → lv_has ls 1 [] → W p l e R s m (([Value.ref this] : List Value).toArray) below meth c H locs 0 0 Q (F0 m 12 ls [.int s0]) := by
    intro S H locs ls s0 h hw hS hl
    unfold wb_Jx4a65c_isEmpty_aae02_12 at h
    obtain ⟨hz, h⟩ := h
    exact hret _ _ _ _ _ _ hz h hw hS dJx4a65c_isEmpty_aae02_12
  unfold wp_Jx4a65c_isEmpty_aae02 at h
  refine lv_aload_n hx hb dJx4a65c_isEmpty_aae02_0 rfl (lv_at hl 0 rfl) ?_
  obtain ⟨hk1, h⟩ := h
  refine r_get (ci := 0) (v := .int (gV S 1 this 2)) (C := RJx4a65c) (T := TJx4a65c) (N := 3) hx hb hts hiJx4a65c hown hK hw (ce_1 (S := S) hk1) rfl 2 (by decide) (hts (.fieldLink RJx4a65c 48 "java/util/ArrayList" "size" "I") (by decide +kernel)) (fun _ h9 => h9) rfl dJx4a65c_isEmpty_aae02_1 ?_
  refine lv_if_ne (tgt := 11) hx hb dJx4a65c_isEmpty_aae02_4 (by decide) (fun hc => ?_) (fun hc => ?_)
  · have h := h.1 hc
    refine lv_iconst (v := (0 : Int32)) hx hb dJx4a65c_isEmpty_aae02_11 (by decide) ?_
    exact hB12 _ _ _ _ _ h hw hS (lv_sub hl [] rfl)
  · have h := h.2 hc
    refine lv_iconst (v := (1 : Int32)) hx hb dJx4a65c_isEmpty_aae02_7 (by decide) ?_
    refine lv_goto (tgt := 12) hx hb dJx4a65c_isEmpty_aae02_8 (by decide) ?_
    exact hB12 _ _ _ _ _ h hw hS (lv_sub hl [] rfl)
def wp_Jx4a65c_elementData_915e3 (post : Option Nat → bS → Prop) (this : Nat) (p1 : Int32) (S : bS) : Prop := gK S this = 1 ∧ (∃ b2, gQ S 1 this 1 = some b2 ∧ (gK S b2 = 11 ∧ (vp_in p1 (gN S b2) ∧ (∃ b6, gQ S 11 b2 (Int32.toNatClampNeg p1) = some b6 ∧ (post (some b6) S)))))
set_option maxHeartbeats 4000000 in
set_option maxRecDepth 100000 in
theorem m_Jx4a65c_elementData_915e3 {l : Launch} {D : va_G} {y : Nat → ClassId} {z : Nat} {A : Nat → Prop} {S : bS} {post : Option Nat → bS → Prop} {this : Nat} {p1 : Int32} (h : wp_Jx4a65c_elementData_915e3 post this p1 S) : Met l yJx4a65c_elementData_915e3 wsJx4a65c_elementData_915e3 ({ frames := 0, cells := 0, slots := 0, locals := 0 } : Room) (va_Pc ([Value.ref this, Value.int p1] : List Value) (bP D y z S A)) (va_Qq post (fun S' t => wd D y z S' A t.heap) A) 0 0 A := by
  refine Met.ofW (cc := cJx4a65c_elementData_915e3) (maxL := 2) (ret := (some (.object "java/lang/Object"))) (by decide) rfl ?_
  intro p e s m args below meth c s₁ B hml hv
  obtain ⟨rfl, hB⟩ := hv
  have hx := B.exec
  have hb := B.bytes
  have hr := B.returns
  have hts := atoms_spec (ws := wsJx4a65c_elementData_915e3) B.pre
  have hown : s.vm.findClass RJx4a65c = some m.cls := findClass_of_methodNamed B.named
  have hlocks := B.notSynchronized
  have hw : wd D y z S A s.heap := hB.1
  have hK : va_K D bCl (bT y) s := hB.2.1
  have hNw := hB.2.2.1
  have hAn : ∀ q : Nat, s.heap.size ≤ q → A q := hB.2.2.2.1
  have hAz : ¬ A z := hB.2.2.2.2.1
  have hO := hB.2.2.2.2.2.1
  have hS : va_S A s.heap s.heap [] := va_S.rf
  have hiJx4a65c : ∀ w ∈ u_ws RJx4a65c TJx4a65c 3, w ∈ wsJx4a65c_elementData_915e3 := by decide +kernel
  have hl := lv_entry ([Value.ref this, Value.int p1] : List Value) (n := 2) (Nat.le_of_ble_eq_true rfl)
  rw [lg_entry_eq]
  generalize (lg_sl ([Value.ref this, Value.int p1] : List Value) ++ List.replicate (2 - (lg_sl ([Value.ref this, Value.int p1] : List Value)).length) Slot.unset).toArray = ls at hl ⊢
  have hl : lv_has ls 2 [(0, .ref this), (1, .int p1)] := hl
  obtain ⟨Q, hQ⟩ : ∃ Q, Q = MQ below (va_Qq post (fun S' t => wd D y z S' A t.heap) A) (([Value.ref this, Value.int p1] : List Value).toArray) s 0 0 A := ⟨_, rfl⟩
  rw [← hQ]
  generalize hR : (headSpec wsJx4a65c_elementData_915e3 ({ frames := 0, cells := 0, slots := 0, locals := 0 } : Room)).room = R
  have hRf : 0 ≤ R.frames := by rw [← hR]; exact Nat.le_refl _
  have hRl : 0 ≤ R.locals := by rw [← hR]; exact Nat.le_refl _
  have hret : ∀ (v : Option Nat) (S : bS) (H : Heap) (locs : List Loc) (pc : Nat) (ls : Array Slot) , post v S → wd D y z S A H → va_S A s.heap H locs → decode cJx4a65c_elementData_915e3 pc = .ok (.areturn, 1) → W p l e R s m (([Value.ref this, Value.int p1] : List Value).toArray) below meth c H locs 0 0 Q (F0 m pc ls [va_rf v]) := by
    intro v S H locs pc ls h hw hS d0
    rw [hQ]; exact W.aret hx hb hr (by first | exact Or.inl ⟨_, rfl⟩ | exact Or.inr ⟨_, rfl⟩) (by cases v with | none => exact Or.inl rfl | some a => exact Or.inr ⟨a, rfl⟩) (fun t ht hW => ⟨⟨v, S, rfl, h, by show wd D y z S A t.heap; rw [ht]; exact hw⟩, hS.F ht⟩) hS.2.2 d0 hlocks
  unfold wp_Jx4a65c_elementData_915e3 at h
  refine lv_aload_n hx hb dJx4a65c_elementData_915e3_0 rfl (lv_at hl 0 rfl) ?_
  obtain ⟨hk1, h⟩ := h
  obtain ⟨b2, hb3, h⟩ := h
  refine r_get (ci := 0) (v := .ref b2) (C := RJx4a65c) (T := TJx4a65c) (N := 3) hx hb hts hiJx4a65c hown hK hw (ce_1 (S := S) hk1) rfl 1 (by decide) (hts (.fieldLink RJx4a65c 9 "java/util/ArrayList" "elementData" "[Ljava/lang/Object;") (by decide +kernel)) (fun _ h9 => h9) (congrArg (fun q => some (va_rf q)) hb3) dJx4a65c_elementData_915e3_1 ?_
  refine lv_iload_n hx hb dJx4a65c_elementData_915e3_4 rfl (lv_at hl 1 rfl) ?_
  obtain ⟨hk4, h⟩ := h
  obtain ⟨hin5, h⟩ := h
  obtain ⟨b6, hb7, h⟩ := h
  refine r_aald hx hb hK hw hk4 hin5 dJx4a65c_elementData_915e3_5 ?_
  rw [hb7]
  refine W.eq (g2 := F0 m 6 ls [.ref b6]) rfl ?_
  exact hret (some b6) _ _ _ _ _ h hw hS dJx4a65c_elementData_915e3_6
def wp_Jx4a65c_get_915e3 (post : Option Nat → bS → Prop) (this : Nat) (p1 : Int32) (S : bS) : Prop := gK S this = 1 ∧ (wp_J15_checkIndex_7cf53 (fun r2 S3 => gK S3 this = 1 ∧ (wp_Jx4a65c_elementData_915e3 (fun r5 S6 => ∃ b7, r5 = some b7 ∧ (post (some b7) S6)) this p1 S3)) p1 (gV S 1 this 2) S)
set_option maxHeartbeats 4000000 in
set_option maxRecDepth 100000 in
theorem m_Jx4a65c_get_915e3 {l : Launch} {D : va_G} {y : Nat → ClassId} {z : Nat} {A : Nat → Prop} {S : bS} {post : Option Nat → bS → Prop} {this : Nat} {p1 : Int32} (h : wp_Jx4a65c_get_915e3 post this p1 S) : Met l yJx4a65c_get_915e3 wsJx4a65c_get_915e3 ({ frames := 2, cells := 0, slots := 0, locals := 43 } : Room) (va_Pc ([Value.ref this, Value.int p1] : List Value) (bP D y z S A)) (va_Qq post (fun S' t => wd D y z S' A t.heap) A) 0 0 A := by
  refine Met.ofW (cc := cJx4a65c_get_915e3) (maxL := 2) (ret := (some (.object "java/lang/Object"))) (by decide) rfl ?_
  intro p e s m args below meth c s₁ B hml hv
  obtain ⟨rfl, hB⟩ := hv
  have hx := B.exec
  have hb := B.bytes
  have hr := B.returns
  have hts := atoms_spec (ws := wsJx4a65c_get_915e3) B.pre
  have hown : s.vm.findClass RJx4a65c = some m.cls := findClass_of_methodNamed B.named
  have hlocks := B.notSynchronized
  have hw : wd D y z S A s.heap := hB.1
  have hK : va_K D bCl (bT y) s := hB.2.1
  have hNw := hB.2.2.1
  have hAn : ∀ q : Nat, s.heap.size ≤ q → A q := hB.2.2.2.1
  have hAz : ¬ A z := hB.2.2.2.2.1
  have hO := hB.2.2.2.2.2.1
  have hS : va_S A s.heap s.heap [] := va_S.rf
  have hiJx4a65c : ∀ w ∈ u_ws RJx4a65c TJx4a65c 3, w ∈ wsJx4a65c_get_915e3 := by decide +kernel
  have hl := lv_entry ([Value.ref this, Value.int p1] : List Value) (n := 2) (Nat.le_of_ble_eq_true rfl)
  rw [lg_entry_eq]
  generalize (lg_sl ([Value.ref this, Value.int p1] : List Value) ++ List.replicate (2 - (lg_sl ([Value.ref this, Value.int p1] : List Value)).length) Slot.unset).toArray = ls at hl ⊢
  have hl : lv_has ls 2 [(0, .ref this), (1, .int p1)] := hl
  obtain ⟨Q, hQ⟩ : ∃ Q, Q = MQ below (va_Qq post (fun S' t => wd D y z S' A t.heap) A) (([Value.ref this, Value.int p1] : List Value).toArray) s 0 0 A := ⟨_, rfl⟩
  rw [← hQ]
  generalize hR : (headSpec wsJx4a65c_get_915e3 ({ frames := 2, cells := 0, slots := 0, locals := 43 } : Room)).room = R
  have hRf : 2 ≤ R.frames := by rw [← hR]; exact Nat.le_refl _
  have hRl : 43 ≤ R.locals := by rw [← hR]; exact Nat.le_refl _
  have hret : ∀ (v : Option Nat) (S : bS) (H : Heap) (locs : List Loc) (pc : Nat) (ls : Array Slot) , post v S → wd D y z S A H → va_S A s.heap H locs → decode cJx4a65c_get_915e3 pc = .ok (.areturn, 1) → W p l e R s m (([Value.ref this, Value.int p1] : List Value).toArray) below meth c H locs 0 0 Q (F0 m pc ls [va_rf v]) := by
    intro v S H locs pc ls h hw hS d0
    rw [hQ]; exact W.aret hx hb hr (by first | exact Or.inl ⟨_, rfl⟩ | exact Or.inr ⟨_, rfl⟩) (by cases v with | none => exact Or.inl rfl | some a => exact Or.inr ⟨a, rfl⟩) (fun t ht hW => ⟨⟨v, S, rfl, h, by show wd D y z S A t.heap; rw [ht]; exact hw⟩, hS.F ht⟩) hS.2.2 d0 hlocks
  unfold wp_Jx4a65c_get_915e3 at h
  refine lv_iload_n hx hb dJx4a65c_get_915e3_0 rfl (lv_at hl 1 rfl) ?_
  refine lv_aload_n hx hb dJx4a65c_get_915e3_1 rfl (lv_at hl 0 rfl) ?_
  obtain ⟨hk1, h⟩ := h
  refine r_get (ci := 0) (v := .int (gV S 1 this 2)) (C := RJx4a65c) (T := TJx4a65c) (N := 3) hx hb hts hiJx4a65c hown hK hw (ce_1 (S := S) hk1) rfl 2 (by decide) (hts (.fieldLink RJx4a65c 48 "java/util/ArrayList" "size" "I") (by decide +kernel)) (fun _ h9 => h9) rfl dJx4a65c_get_915e3_2 ?_
  have h1 := h
  refine va_calli (va_runS (As := [.int p1, .int (gV S 1 this 2)]) (rest := []) ⟨hx, hb, hml, hown, hts⟩ (m_J15_checkIndex_7cf53 (l := l) h1) (va_cwS 2 hts gJx4a65c_get_915e3_J15_checkIndex_7cf53 rfl rfl rfl (by decide +kernel) ⟨Nat.le_trans (Nat.le_of_ble_eq_true rfl) hRf, Nat.le_trans (Nat.le_of_ble_eq_true rfl) hRl⟩) (r_pS hB hw hS) rfl rfl hl.1 rfl (lv_room (Nat.le_of_ble_eq_true rfl)) dJx4a65c_get_915e3_5 ⟨Nat.zero_le _, Nat.zero_le _⟩) hS (fun _ _ h => h) (fun _ h => h) (fun r2 S3 t H1 locs ht _ h hw1 _ _ hS => ?_)
  subst ht
  have hw : wd D y z S3 A t.heap := hw1
  clear hw1 h1
  refine lv_pop hx hb dJx4a65c_get_915e3_8 rfl ?_
  refine lv_aload_n hx hb dJx4a65c_get_915e3_9 rfl (lv_at hl 0 rfl) ?_
  refine lv_iload_n hx hb dJx4a65c_get_915e3_10 rfl (lv_at hl 1 rfl) ?_
  obtain ⟨hk4, h⟩ := h
  have h1 := h
  refine va_callq (va_runV (As := [.int p1]) (rest := []) ⟨hx, hb, hml, hown, hts⟩ (m_Jx4a65c_elementData_915e3 (l := l) h1) (cwV 1 hts gJx4a65c_get_915e3_Jx4a65c_elementData_915e3 rfl rfl rfl (by decide +kernel) ⟨Nat.le_trans (Nat.le_of_ble_eq_true rfl) hRf, Nat.le_trans (Nat.le_of_ble_eq_true rfl) hRl⟩) (r_pV hB hw hS (ce_1 (S := S3) hk4) rfl) rfl rfl hl.1 rfl (lv_room (Nat.le_of_ble_eq_true rfl)) dJx4a65c_get_915e3_11 ⟨Nat.zero_le _, Nat.zero_le _⟩) hS (fun _ _ h => h) (fun _ h => h) (fun r5 S6 t H1 locs ht _ h hw1 _ _ hS => ?_)
  subst ht
  have hw : wd D y z S6 A t.heap := hw1
  clear hw1 h1
  obtain ⟨b7, rfl, h⟩ := h
  refine W.eq (g2 := F0 m 14 ls [.ref b7]) rfl ?_
  exact hret (some b7) _ _ _ _ _ h hw hS dJx4a65c_get_915e3_14
def wp_Jx4a65c_rangeCheckForAdd_d00df (post : bS → Prop) (this : Nat) (p1 : Int32) (S : bS) : Prop := gK S this = 1 ∧ (((gV S 1 this 2) < p1 → False) ∧ (¬ ((gV S 1 this 2) < p1) → ((0 : Int32) ≤ p1 → post S) ∧ (¬ ((0 : Int32) ≤ p1) → False)))
set_option maxHeartbeats 4000000 in
set_option maxRecDepth 100000 in
theorem m_Jx4a65c_rangeCheckForAdd_d00df {l : Launch} {D : va_G} {y : Nat → ClassId} {z : Nat} {A : Nat → Prop} {S : bS} {post : bS → Prop} {this : Nat} {p1 : Int32} (h : wp_Jx4a65c_rangeCheckForAdd_d00df post this p1 S) : Met l yJx4a65c_rangeCheckForAdd_d00df wsJx4a65c_rangeCheckForAdd_d00df ({ frames := 0, cells := 0, slots := 0, locals := 0 } : Room) (va_Pc ([Value.ref this, Value.int p1] : List Value) (bP D y z S A)) (va_Qv post (fun S' t => wd D y z S' A t.heap) A) 0 0 A := by
  refine Met.ofW (cc := cJx4a65c_rangeCheckForAdd_d00df) (maxL := 2) (ret := none) (by decide) rfl ?_
  intro p e s m args below meth c s₁ B hml hv
  obtain ⟨rfl, hB⟩ := hv
  have hx := B.exec
  have hb := B.bytes
  have hr := B.returns
  have hts := atoms_spec (ws := wsJx4a65c_rangeCheckForAdd_d00df) B.pre
  have hown : s.vm.findClass RJx4a65c = some m.cls := findClass_of_methodNamed B.named
  have hlocks := B.notSynchronized
  have hw : wd D y z S A s.heap := hB.1
  have hK : va_K D bCl (bT y) s := hB.2.1
  have hNw := hB.2.2.1
  have hAn : ∀ q : Nat, s.heap.size ≤ q → A q := hB.2.2.2.1
  have hAz : ¬ A z := hB.2.2.2.2.1
  have hO := hB.2.2.2.2.2.1
  have hS : va_S A s.heap s.heap [] := va_S.rf
  have hiJx4a65c : ∀ w ∈ u_ws RJx4a65c TJx4a65c 3, w ∈ wsJx4a65c_rangeCheckForAdd_d00df := by decide +kernel
  have hl := lv_entry ([Value.ref this, Value.int p1] : List Value) (n := 2) (Nat.le_of_ble_eq_true rfl)
  rw [lg_entry_eq]
  generalize (lg_sl ([Value.ref this, Value.int p1] : List Value) ++ List.replicate (2 - (lg_sl ([Value.ref this, Value.int p1] : List Value)).length) Slot.unset).toArray = ls at hl ⊢
  have hl : lv_has ls 2 [(0, .ref this), (1, .int p1)] := hl
  obtain ⟨Q, hQ⟩ : ∃ Q, Q = MQ below (va_Qv post (fun S' t => wd D y z S' A t.heap) A) (([Value.ref this, Value.int p1] : List Value).toArray) s 0 0 A := ⟨_, rfl⟩
  rw [← hQ]
  generalize hR : (headSpec wsJx4a65c_rangeCheckForAdd_d00df ({ frames := 0, cells := 0, slots := 0, locals := 0 } : Room)).room = R
  have hRf : 0 ≤ R.frames := by rw [← hR]; exact Nat.le_refl _
  have hRl : 0 ≤ R.locals := by rw [← hR]; exact Nat.le_refl _
  have hret : ∀ (S : bS) (H : Heap) (locs : List Loc) (pc : Nat) (ls : Array Slot) , post S → wd D y z S A H → va_S A s.heap H locs → decode cJx4a65c_rangeCheckForAdd_d00df pc = .ok (.return_, 1) → W p l e R s m (([Value.ref this, Value.int p1] : List Value).toArray) below meth c H locs 0 0 Q (F0 m pc ls []) := by
    intro S H locs pc ls h hw hS d0
    rw [hQ]; exact W.vret hx hb hr (fun t ht hW => ⟨⟨S, rfl, h, by show wd D y z S A t.heap; rw [ht]; exact hw⟩, hS.F ht⟩) hS.2.2 d0 hlocks
  unfold wp_Jx4a65c_rangeCheckForAdd_d00df at h
  refine lv_iload_n hx hb dJx4a65c_rangeCheckForAdd_d00df_0 rfl (lv_at hl 1 rfl) ?_
  refine lv_aload_n hx hb dJx4a65c_rangeCheckForAdd_d00df_1 rfl (lv_at hl 0 rfl) ?_
  obtain ⟨hk1, h⟩ := h
  refine r_get (ci := 0) (v := .int (gV S 1 this 2)) (C := RJx4a65c) (T := TJx4a65c) (N := 3) hx hb hts hiJx4a65c hown hK hw (ce_1 (S := S) hk1) rfl 2 (by decide) (hts (.fieldLink RJx4a65c 48 "java/util/ArrayList" "size" "I") (by decide +kernel)) (fun _ h9 => h9) rfl dJx4a65c_rangeCheckForAdd_d00df_2 ?_
  refine lv_icmp_gt (tgt := 12) hx hb dJx4a65c_rangeCheckForAdd_d00df_5 (by decide) (fun hc => ?_) (fun hc => ?_)
  · have h := h.1 hc
    exact h.elim
  · have h := h.2 hc
    refine lv_iload_n hx hb dJx4a65c_rangeCheckForAdd_d00df_8 rfl (lv_at hl 1 rfl) ?_
    refine lv_if_ge (tgt := 25) hx hb dJx4a65c_rangeCheckForAdd_d00df_9 (by decide) (fun hc => ?_) (fun hc => ?_)
    · have h := h.1 hc
      exact hret _ _ _ _ _ h hw hS dJx4a65c_rangeCheckForAdd_d00df_25
    · have h := h.2 hc
      exact h.elim
def wp_J8_newLength_cabcc (post : Int32 → bS → Prop) (p1 : Int32) (p2 : Int32) (p3 : Int32) (S : bS) : Prop := ((p1 + (if p2 < p3 then p3 else p2)) ≤ (0 : Int32) → False) ∧ (¬ ((p1 + (if p2 < p3 then p3 else p2)) ≤ (0 : Int32)) → ((2147483639 : Int32) < (p1 + (if p2 < p3 then p3 else p2)) → False) ∧ (¬ ((2147483639 : Int32) < (p1 + (if p2 < p3 then p3 else p2))) → post (p1 + (if p2 < p3 then p3 else p2)) S))
set_option maxHeartbeats 4000000 in
set_option maxRecDepth 100000 in
theorem m_J8_newLength_cabcc {l : Launch} {D : va_G} {y : Nat → ClassId} {z : Nat} {A : Nat → Prop} {S : bS} {post : Int32 → bS → Prop} {p1 : Int32} {p2 : Int32} {p3 : Int32} (h : wp_J8_newLength_cabcc post p1 p2 p3 S) : Met l yJ8_newLength_cabcc wsJ8_newLength_cabcc ({ frames := 1, cells := 0, slots := 0, locals := 60 } : Room) (va_Pc ([Value.int p1, Value.int p2, Value.int p3] : List Value) (bP D y z S A)) (va_Qi post (fun S' t => wd D y z S' A t.heap) A) 0 0 A := by
  refine Met.ofW (cc := cJ8_newLength_cabcc) (maxL := 4) (ret := (some .int)) (by decide) rfl ?_
  intro p e s m args below meth c s₁ B hml hv
  obtain ⟨rfl, hB⟩ := hv
  have hx := B.exec
  have hb := B.bytes
  have hr := B.returns
  have hts := atoms_spec (ws := wsJ8_newLength_cabcc) B.pre
  have hown : s.vm.findClass RJ8 = some m.cls := findClass_of_methodNamed B.named
  have hlocks := B.notSynchronized
  have hw : wd D y z S A s.heap := hB.1
  have hK : va_K D bCl (bT y) s := hB.2.1
  have hNw := hB.2.2.1
  have hAn : ∀ q : Nat, s.heap.size ≤ q → A q := hB.2.2.2.1
  have hAz : ¬ A z := hB.2.2.2.2.1
  have hO := hB.2.2.2.2.2.1
  have hS : va_S A s.heap s.heap [] := va_S.rf
  have hl := lv_entry ([Value.int p1, Value.int p2, Value.int p3] : List Value) (n := 4) (Nat.le_of_ble_eq_true rfl)
  rw [lg_entry_eq]
  generalize (lg_sl ([Value.int p1, Value.int p2, Value.int p3] : List Value) ++ List.replicate (4 - (lg_sl ([Value.int p1, Value.int p2, Value.int p3] : List Value)).length) Slot.unset).toArray = ls at hl ⊢
  have hl : lv_has ls 4 [(0, .int p1), (1, .int p2), (2, .int p3)] := hl
  obtain ⟨Q, hQ⟩ : ∃ Q, Q = MQ below (va_Qi post (fun S' t => wd D y z S' A t.heap) A) (([Value.int p1, Value.int p2, Value.int p3] : List Value).toArray) s 0 0 A := ⟨_, rfl⟩
  rw [← hQ]
  generalize hR : (headSpec wsJ8_newLength_cabcc ({ frames := 1, cells := 0, slots := 0, locals := 60 } : Room)).room = R
  have hRf : 1 ≤ R.frames := by rw [← hR]; exact Nat.le_refl _
  have hRl : 60 ≤ R.locals := by rw [← hR]; exact Nat.le_refl _
  have hret : ∀ (v : Int32) (S : bS) (H : Heap) (locs : List Loc) (pc : Nat) (ls : Array Slot) , post v S → wd D y z S A H → va_S A s.heap H locs → decode cJ8_newLength_cabcc pc = .ok (.ireturn, 1) → W p l e R s m (([Value.int p1, Value.int p2, Value.int p3] : List Value).toArray) below meth c H locs 0 0 Q (F0 m pc ls [.int v]) := by
    intro v S H locs pc ls h hw hS d0
    rw [hQ]; exact W.iret hx hb hr (fun t ht hW => ⟨⟨v, S, rfl, h, by show wd D y z S A t.heap; rw [ht]; exact hw⟩, hS.F ht⟩) hS.2.2 d0 hlocks
  unfold wp_J8_newLength_cabcc at h
  refine lv_iload_n hx hb dJ8_newLength_cabcc_0 rfl (lv_at hl 0 rfl) ?_
  refine lv_iload_n hx hb dJ8_newLength_cabcc_1 rfl (lv_at hl 1 rfl) ?_
  refine lv_iload_n hx hb dJ8_newLength_cabcc_2 rfl (lv_at hl 2 rfl) ?_
  refine va_mmax hx hb (by rw [hml]; exact hl.1.symm) hown (hts (.methodLink RJ8 194 Lib.Math.max.name) (by decide +kernel)) (hts (.static Lib.Math.max.name) (by decide +kernel)) (hts (.initialized "java/lang/Math") (by decide +kernel)) (hts (.code Lib.Math.max.name Lib.Math.max.code 2 (some .int)) (by decide +kernel)) (Nat.le_trans (Nat.le_of_ble_eq_true rfl) hRf) (Nat.le_trans (Nat.le_of_ble_eq_true rfl) hRl) (Nat.zero_le _) (Nat.zero_le _) dJ8_newLength_cabcc_3 ?_
  refine lv_iadd hx hb dJ8_newLength_cabcc_6 ?_
  refine lv_istore_n hx hb dJ8_newLength_cabcc_7 rfl hl (by decide) rfl (fun ls hl => ?_)
  have hl : lv_has ls 4 [(3, .int (p1 + (if p2 < p3 then p3 else p2))), (0, .int p1), (1, .int p2), (2, .int p3)] := hl
  refine lv_iconst (v := (0 : Int32)) hx hb dJ8_newLength_cabcc_8 (by decide) ?_
  refine lv_iload_n hx hb dJ8_newLength_cabcc_9 rfl (lv_at hl 0 rfl) ?_
  refine lv_icmp_ge (tgt := 21) hx hb dJ8_newLength_cabcc_10 (by decide) (fun hc => ?_) (fun hc => ?_)
  · have h := h.1 hc
    exact h.elim
  · have h := h.2 hc
    refine lv_iload_n hx hb dJ8_newLength_cabcc_13 rfl (lv_at hl 0 rfl) ?_
    refine lv_ldc (v := (2147483639 : Int32)) hx hb hown (hts (.constant RJ8 200 (2147483639 : Int32)) (by decide +kernel)) dJ8_newLength_cabcc_14 ?_
    refine lv_icmp_gt (tgt := 21) hx hb dJ8_newLength_cabcc_16 (by decide) (fun hc => ?_) (fun hc => ?_)
    · have h := h.1 hc
      exact h.elim
    · have h := h.2 hc
      refine lv_iload_n hx hb dJ8_newLength_cabcc_19 rfl (lv_at hl 0 rfl) ?_
      exact hret (p1 + (if p2 < p3 then p3 else p2)) _ _ _ _ _ h hw hS dJ8_newLength_cabcc_20
def wp_J7_copyOf_6403c (post : Option Nat → bS → Prop) (MC MS : Nat) (p1 : Nat) (p2 : Int32) (p3 : Nat) (S : bS) : Prop := ((some p3) ≠ (some p3) → False) ∧ ((some p3) = (some p3) → ¬ p2 < 0 ∧ (Int32.toNatClampNeg p2) * 4 ≤ 536870912 ∧ 1 ≤ MC ∧ (Int32.toNatClampNeg p2) ≤ MS ∧ (∀ q1, gK S q1 = 0 → ((gK (sNew S q1 11 (Int32.toNatClampNeg p2)) p1 = 11 ∨ gK (sNew S q1 11 (Int32.toNatClampNeg p2)) p1 = 14) ∧ (gK (sNew S q1 11 (Int32.toNatClampNeg p2)) p1 = 11 ∧ ((¬ (0 : Int32) < 0 ∧ ¬ (0 : Int32) < 0 ∧ ¬ (if p2 < (Int32.ofNat (gN (sNew S q1 11 (Int32.toNatClampNeg p2)) p1)) then p2 else (Int32.ofNat (gN (sNew S q1 11 (Int32.toNatClampNeg p2)) p1))) < 0 ∧ (Int32.toNatClampNeg (0 : Int32)) + (Int32.toNatClampNeg (if p2 < (Int32.ofNat (gN (sNew S q1 11 (Int32.toNatClampNeg p2)) p1)) then p2 else (Int32.ofNat (gN (sNew S q1 11 (Int32.toNatClampNeg p2)) p1)))) ≤ gN (sNew S q1 11 (Int32.toNatClampNeg p2)) p1 ∧ (Int32.toNatClampNeg (0 : Int32)) + (Int32.toNatClampNeg (if p2 < (Int32.ofNat (gN (sNew S q1 11 (Int32.toNatClampNeg p2)) p1)) then p2 else (Int32.ofNat (gN (sNew S q1 11 (Int32.toNatClampNeg p2)) p1)))) ≤ gN (sNew S q1 11 (Int32.toNatClampNeg p2)) q1) ∧ ((∀ i, i < (Int32.toNatClampNeg (if p2 < (Int32.ofNat (gN (sNew S q1 11 (Int32.toNatClampNeg p2)) p1)) then p2 else (Int32.ofNat (gN (sNew S q1 11 (Int32.toNatClampNeg p2)) p1)))) → ∀ b, gQ (sNew S q1 11 (Int32.toNatClampNeg p2)) 11 p1 ((Int32.toNatClampNeg (0 : Int32)) + i) = some b → 2 ≤ gK (sNew S q1 11 (Int32.toNatClampNeg p2)) b ∧ gK (sNew S q1 11 (Int32.toNatClampNeg p2)) b ≤ 6) ∧ (post (some q1) (sG (sNew S q1 11 (Int32.toNatClampNeg p2)) 11 q1 (va_cpy (gQ (sNew S q1 11 (Int32.toNatClampNeg p2)) 11 p1) (gQ (sNew S q1 11 (Int32.toNatClampNeg p2)) 11 q1) (Int32.toNatClampNeg (0 : Int32)) (Int32.toNatClampNeg (0 : Int32)) (Int32.toNatClampNeg (if p2 < (Int32.ofNat (gN (sNew S q1 11 (Int32.toNatClampNeg p2)) p1)) then p2 else (Int32.ofNat (gN (sNew S q1 11 (Int32.toNatClampNeg p2)) p1)))))))))))))
set_option maxHeartbeats 4000000 in
set_option maxRecDepth 100000 in
theorem m_J7_copyOf_6403c {l : Launch} {D : va_G} {y : Nat → ClassId} {z : Nat} {A : Nat → Prop} {S : bS} {post : Option Nat → bS → Prop} {MC MS : Nat} {p1 : Nat} {p2 : Int32} {p3 : Nat} (h : wp_J7_copyOf_6403c post MC MS p1 p2 p3 S) : Met l yJ7_copyOf_6403c wsJ7_copyOf_6403c ({ frames := 1, cells := MC, slots := MS, locals := 60 } : Room) (va_Pc ([Value.ref p1, Value.int p2, Value.ref p3] : List Value) (fun U => bP D y z S A U ∧ va_Mi "[Ljava/lang/Object;" p3 U)) (va_Qq post (fun S' t => wd D y z S' A t.heap) A) MC MS A := by
  refine Met.ofW (cc := cJ7_copyOf_6403c) (maxL := 4) (ret := (some (.array (.object "java/lang/Object")))) (by decide) rfl ?_
  intro p e s m args below meth c s₁ B hml hv
  obtain ⟨rfl, hB, hMi⟩ := hv
  have hx := B.exec
  have hb := B.bytes
  have hr := B.returns
  have hts := atoms_spec (ws := wsJ7_copyOf_6403c) B.pre
  have hown : s.vm.findClass RJ7 = some m.cls := findClass_of_methodNamed B.named
  have hlocks := B.notSynchronized
  have hw : wd D y z S A s.heap := hB.1
  have hK : va_K D bCl (bT y) s := hB.2.1
  have hNw := hB.2.2.1
  have hAn : ∀ q : Nat, s.heap.size ≤ q → A q := hB.2.2.2.1
  have hAz : ¬ A z := hB.2.2.2.2.1
  have hO := hB.2.2.2.2.2.1
  have hS : va_S A s.heap s.heap [] := va_S.rf
  have hl := lv_entry ([Value.ref p1, Value.int p2, Value.ref p3] : List Value) (n := 4) (Nat.le_of_ble_eq_true rfl)
  rw [lg_entry_eq]
  generalize (lg_sl ([Value.ref p1, Value.int p2, Value.ref p3] : List Value) ++ List.replicate (4 - (lg_sl ([Value.ref p1, Value.int p2, Value.ref p3] : List Value)).length) Slot.unset).toArray = ls at hl ⊢
  have hl : lv_has ls 4 [(0, .ref p1), (1, .int p2), (2, .ref p3)] := hl
  obtain ⟨Q, hQ⟩ : ∃ Q, Q = MQ below (va_Qq post (fun S' t => wd D y z S' A t.heap) A) (([Value.ref p1, Value.int p2, Value.ref p3] : List Value).toArray) s MC MS A := ⟨_, rfl⟩
  rw [← hQ]
  generalize hR : (headSpec wsJ7_copyOf_6403c ({ frames := 1, cells := MC, slots := MS, locals := 60 } : Room)).room = R
  have hRf : 1 ≤ R.frames := by rw [← hR]; exact Nat.le_refl _
  have hRl : 60 ≤ R.locals := by rw [← hR]; exact Nat.le_refl _
  have hRc : R.cells = MC := by rw [← hR]; rfl
  have hRs : R.slots = MS := by rw [← hR]; rfl
  have hret : ∀ (v : Option Nat) (S : bS) (H : Heap) (locs : List Loc) (pc : Nat) (ls : Array Slot) (cu su : Nat) , post v S → wd D y z S A H → va_S A s.heap H locs → cu ≤ MC → su ≤ MS → decode cJ7_copyOf_6403c pc = .ok (.areturn, 1) → W p l e R s m (([Value.ref p1, Value.int p2, Value.ref p3] : List Value).toArray) below meth c H locs cu su Q (F0 m pc ls [va_rf v]) := by
    intro v S H locs pc ls cu su h hw hS hcu hsu d0
    rw [hQ]; refine W.widen hcu hsu ?_; exact W.aret hx hb hr (by first | exact Or.inl ⟨_, rfl⟩ | exact Or.inr ⟨_, rfl⟩) (by cases v with | none => exact Or.inl rfl | some a => exact Or.inr ⟨a, rfl⟩) (fun t ht hW => ⟨⟨v, S, rfl, h, by show wd D y z S A t.heap; rw [ht]; exact hw⟩, hS.F ht⟩) hS.2.2 d0 hlocks
  unfold wp_J7_copyOf_6403c at h
  have hcu : 0 + MC ≤ MC := by omega
  have hsu : 0 + MS ≤ MS := by omega
  refine lv_aload_n hx hb dJ7_copyOf_6403c_0 rfl (lv_at hl 2 rfl) ?_
  refine va_ldcM (mi := p3) hx hb hown (hts (.classLink RJ7 110 "[Ljava/lang/Object;") (by decide +kernel)) hMi dJ7_copyOf_6403c_1 ?_
  refine lv_acmp_ne (rx := (some p3)) (ry := (some p3)) (tgt := 13) hx hb dJ7_copyOf_6403c_3 (by decide) (fun hc => ?_) (fun hc => ?_)
  · have h := h.1 hc
    exact h.elim
  · have h := h.2 hc
    refine lv_iload_n hx hb dJ7_copyOf_6403c_6 rfl (lv_at hl 1 rfl) ?_
    obtain ⟨hn0, hn1, hbg1, hbg2, h⟩ := h
    refine r_newq hx hb hown (hts (.classLink RJ7 2 "java/lang/Object") (by decide +kernel)) hO hK hw hS hAn hAz hn0 rfl hn1 (by omega) (by omega) dJ7_copyOf_6403c_7 (fun q1 H hq2 hw hS => ?_)
    have h := h q1 hq2
    have hk3 : gK (sNew S q1 11 (Int32.toNatClampNeg p2)) q1 = 11 := if_pos rfl
    have hcu : (0 + 1) + (MC - 1) ≤ MC := by omega
    have hsu : (0 + (Int32.toNatClampNeg p2)) + (MS - (Int32.toNatClampNeg p2)) ≤ MS := by omega
    refine lv_goto (tgt := 24) hx hb dJ7_copyOf_6403c_10 (by decide) ?_
    refine lv_astore_n hx hb dJ7_copyOf_6403c_24 rfl hl (by decide) rfl (fun ls hl => ?_)
    have hl : lv_has ls 4 [(3, .ref q1), (0, .ref p1), (1, .int p2), (2, .ref p3)] := hl
    refine lv_aload_n hx hb dJ7_copyOf_6403c_25 rfl (lv_at hl 1 rfl) ?_
    refine lv_iconst (v := (0 : Int32)) hx hb dJ7_copyOf_6403c_26 (by decide) ?_
    refine lv_aload_n hx hb dJ7_copyOf_6403c_27 rfl (lv_at hl 0 rfl) ?_
    refine lv_iconst (v := (0 : Int32)) hx hb dJ7_copyOf_6403c_28 (by decide) ?_
    refine lv_aload_n hx hb dJ7_copyOf_6403c_29 rfl (lv_at hl 1 rfl) ?_
    obtain ⟨hq4, h⟩ := h
    refine r_alenq hx hb hK hw (bTz hB) hS hq4 dJ7_copyOf_6403c_30 ?_
    refine lv_iload_n hx hb dJ7_copyOf_6403c_31 rfl (lv_at hl 2 rfl) ?_
    refine va_mmin hx hb (by rw [hml]; exact hl.1.symm) hown (hts (.methodLink RJ7 304 Lib.Math.min.name) (by decide +kernel)) (hts (.static Lib.Math.min.name) (by decide +kernel)) (hts (.initialized "java/lang/Math") (by decide +kernel)) (hts (.code Lib.Math.min.name Lib.Math.min.code 2 (some .int)) (by decide +kernel)) (Nat.le_trans (Nat.le_of_ble_eq_true rfl) hRf) (Nat.le_trans (Nat.le_of_ble_eq_true rfl) hRl) (by omega) (by omega) dJ7_copyOf_6403c_32 ?_
    obtain ⟨hk5, h⟩ := h
    obtain ⟨hc6, h⟩ := h
    obtain ⟨he7, h⟩ := h
    refine r_copyq hx hb (by rw [hml]; exact hl.1.symm) hown (hts (.methodLink RJ7 150 arraycopyName) (by decide +kernel)) (hts (.native arraycopyName) (by decide +kernel)) (hts (.static arraycopyName) (by decide +kernel)) (hts (.initialized "java/lang/System") (by decide +kernel)) hK hw hS hk5 hk3 hc6 hO he7 (Nat.le_trans (Nat.le_of_ble_eq_true rfl) hRf) (Nat.le_trans (by decide) hRl) dJ7_copyOf_6403c_35 (fun H locs hw hS => ?_)
    refine lv_aload_n hx hb dJ7_copyOf_6403c_38 rfl (lv_at hl 0 rfl) ?_
    exact hret (some q1) _ _ _ _ _ _ _ h hw hS (by omega) (by omega) dJ7_copyOf_6403c_39
def wp_J7_copyOf_1904c (post : Option Nat → bS → Prop) (MC MS : Nat) (p1 : Nat) (p2 : Int32) (S : bS) : Prop := gK S p1 = 11 ∧ ((∀ mi : Nat, ∃ k6 n7, k6 ≤ MC ∧ n7 ≤ MS ∧ (wp_J7_copyOf_6403c (fun r2 S3 => ∃ b4, r2 = some b4 ∧ (post (some b4) S3)) k6 n7 p1 p2 mi S)))
set_option maxHeartbeats 4000000 in
set_option maxRecDepth 100000 in
theorem m_J7_copyOf_1904c {l : Launch} {D : va_G} {y : Nat → ClassId} {z : Nat} {A : Nat → Prop} {S : bS} {post : Option Nat → bS → Prop} {MC MS : Nat} {p1 : Nat} {p2 : Int32} (h : wp_J7_copyOf_1904c post MC MS p1 p2 S) : Met l yJ7_copyOf_1904c wsJ7_copyOf_1904c ({ frames := 2, cells := MC, slots := MS, locals := 83 } : Room) (va_Pc ([Value.ref p1, Value.int p2] : List Value) (bP D y z S A)) (va_Qq post (fun S' t => wd D y z S' A t.heap) A) MC MS A := by
  refine Met.ofW (cc := cJ7_copyOf_1904c) (maxL := 2) (ret := (some (.array (.object "java/lang/Object")))) (by decide) rfl ?_
  intro p e s m args below meth c s₁ B hml hv
  obtain ⟨rfl, hB⟩ := hv
  have hx := B.exec
  have hb := B.bytes
  have hr := B.returns
  have hts := atoms_spec (ws := wsJ7_copyOf_1904c) B.pre
  have hown : s.vm.findClass RJ7 = some m.cls := findClass_of_methodNamed B.named
  have hlocks := B.notSynchronized
  have hw : wd D y z S A s.heap := hB.1
  have hK : va_K D bCl (bT y) s := hB.2.1
  have hNw := hB.2.2.1
  have hAn : ∀ q : Nat, s.heap.size ≤ q → A q := hB.2.2.2.1
  have hAz : ¬ A z := hB.2.2.2.2.1
  have hO := hB.2.2.2.2.2.1
  have hS : va_S A s.heap s.heap [] := va_S.rf
  have hl := lv_entry ([Value.ref p1, Value.int p2] : List Value) (n := 2) (Nat.le_of_ble_eq_true rfl)
  rw [lg_entry_eq]
  generalize (lg_sl ([Value.ref p1, Value.int p2] : List Value) ++ List.replicate (2 - (lg_sl ([Value.ref p1, Value.int p2] : List Value)).length) Slot.unset).toArray = ls at hl ⊢
  have hl : lv_has ls 2 [(0, .ref p1), (1, .int p2)] := hl
  obtain ⟨Q, hQ⟩ : ∃ Q, Q = MQ below (va_Qq post (fun S' t => wd D y z S' A t.heap) A) (([Value.ref p1, Value.int p2] : List Value).toArray) s MC MS A := ⟨_, rfl⟩
  rw [← hQ]
  generalize hR : (headSpec wsJ7_copyOf_1904c ({ frames := 2, cells := MC, slots := MS, locals := 83 } : Room)).room = R
  have hRf : 2 ≤ R.frames := by rw [← hR]; exact Nat.le_refl _
  have hRl : 83 ≤ R.locals := by rw [← hR]; exact Nat.le_refl _
  have hRc : R.cells = MC := by rw [← hR]; rfl
  have hRs : R.slots = MS := by rw [← hR]; rfl
  have hret : ∀ (v : Option Nat) (S : bS) (H : Heap) (locs : List Loc) (pc : Nat) (ls : Array Slot) (cu su : Nat) , post v S → wd D y z S A H → va_S A s.heap H locs → cu ≤ MC → su ≤ MS → decode cJ7_copyOf_1904c pc = .ok (.areturn, 1) → W p l e R s m (([Value.ref p1, Value.int p2] : List Value).toArray) below meth c H locs cu su Q (F0 m pc ls [va_rf v]) := by
    intro v S H locs pc ls cu su h hw hS hcu hsu d0
    rw [hQ]; refine W.widen hcu hsu ?_; exact W.aret hx hb hr (by first | exact Or.inl ⟨_, rfl⟩ | exact Or.inr ⟨_, rfl⟩) (by cases v with | none => exact Or.inl rfl | some a => exact Or.inr ⟨a, rfl⟩) (fun t ht hW => ⟨⟨v, S, rfl, h, by show wd D y z S A t.heap; rw [ht]; exact hw⟩, hS.F ht⟩) hS.2.2 d0 hlocks
  unfold wp_J7_copyOf_1904c at h
  have hcu : 0 + MC ≤ MC := by omega
  have hsu : 0 + MS ≤ MS := by omega
  refine lv_aload_n hx hb dJ7_copyOf_1904c_0 rfl (lv_at hl 0 rfl) ?_
  refine lv_iload_n hx hb dJ7_copyOf_1904c_1 rfl (lv_at hl 1 rfl) ?_
  refine lv_aload_n hx hb dJ7_copyOf_1904c_2 rfl (lv_at hl 0 rfl) ?_
  obtain ⟨hk1, h⟩ := h
  obtain ⟨mi, hMi⟩ := b_Mi hB
  have h := h mi
  refine va_getC (C := "[Ljava/lang/Object;") hx hb (by rw [hml]; exact hl.1.symm) hown (hts (.methodLink RJ7 86 ⟨"java/lang/Object", "getClass", "()Ljava/lang/Class;"⟩) (by decide +kernel)) (va_Dc.use (b_Dc hB)) (hts (.selects "[Ljava/lang/Object;" ⟨"java/lang/Object", "getClass", "()Ljava/lang/Class;"⟩ ⟨"java/lang/Object", "getClass", "()Ljava/lang/Class;"⟩) (by decide +kernel)) (hts (.instanceMethod ⟨"java/lang/Object", "getClass", "()Ljava/lang/Class;"⟩) (by decide +kernel)) (hts (.native ⟨"java/lang/Object", "getClass", "()Ljava/lang/Class;"⟩) (by decide +kernel)) hMi (wd_recvO hK hw hk1) (Nat.le_trans (Nat.le_of_ble_eq_true rfl) hRf) (Nat.le_trans (Nat.le_of_ble_eq_true rfl) hRl) dJ7_copyOf_1904c_3 ?_
  obtain ⟨k6, n7, hbg1, hbg2, h⟩ := h
  have h1 := h
  refine va_callq (va_runS (As := [.ref p1, .int p2, .ref mi]) (rest := []) ⟨hx, hb, hml, hown, hts⟩ (m_J7_copyOf_6403c (l := l) h1) (cwS 3 hts gJ7_copyOf_1904c_J7_copyOf_6403c rfl rfl rfl (by decide +kernel) ⟨Nat.le_trans (Nat.le_of_ble_eq_true rfl) hRf, Nat.le_trans (Nat.le_of_ble_eq_true rfl) hRl⟩) (r_pSM hB hw hS hMi) rfl rfl hl.1 rfl (lv_room (Nat.le_of_ble_eq_true rfl)) dJ7_copyOf_1904c_6 ⟨by omega, by omega⟩) hS (fun _ _ h => h) (fun _ h => h) (fun r2 S3 t H1 locs ht _ h hw1 _ _ hS => ?_)
  subst ht
  have hw : wd D y z S3 A t.heap := hw1
  clear hw1 h1
  have hcu : (0 + k6) + (MC - k6) ≤ MC := by omega
  have hsu : (0 + n7) + (MS - n7) ≤ MS := by omega
  obtain ⟨b4, rfl, h⟩ := h
  refine W.eq (g2 := F0 m 9 ls [.ref b4]) rfl ?_
  exact hret (some b4) _ _ _ _ _ _ _ h hw hS (by omega) (by omega) dJ7_copyOf_1904c_9
def wb_Jx4a65c_grow_92f84_20 (post : Option Nat → bS → Prop) (mc ms : Nat) (v0 : Nat) (v1 : Int32) (v2 : Int32) (S : bS) : Prop := wp_J8_newLength_cabcc (fun r11 S12 => gK S12 v0 = 1 ∧ (∃ b14, gQ S12 1 v0 1 = some b14 ∧ (∃ k20 n21, k20 ≤ mc ∧ n21 ≤ ms ∧ (wp_J7_copyOf_1904c (fun r16 S17 => ∃ b18, r16 = some b18 ∧ (gK S17 v0 = 1 ∧ (post (some b18) (sQ S17 1 v0 1 (some b18))))) k20 n21 b14 r11 S12)))) v2 (v1 - v2) (v2 >>> ((1 : Int32) &&& 31)) S
def wp_Jx4a65c_grow_92f84 (post : Option Nat → bS → Prop) (MC MS : Nat) (this : Nat) (p1 : Int32) (S : bS) : Prop := gK S this = 1 ∧ (∃ b2, gQ S 1 this 1 = some b2 ∧ ((gK S b2 = 11 ∨ gK S b2 = 14) ∧ (((0 : Int32) < (Int32.ofNat (gN S b2)) → wb_Jx4a65c_grow_92f84_20 post MC MS this p1 (Int32.ofNat (gN S b2)) S) ∧ (¬ ((0 : Int32) < (Int32.ofNat (gN S b2))) → ∃ b5, gQ S 1 this 1 = some b5 ∧ ((∀ z, gK S z = 14 → (((some b5) = (some z) → ¬ (if (10 : Int32) < p1 then p1 else (10 : Int32)) < 0 ∧ (Int32.toNatClampNeg (if (10 : Int32) < p1 then p1 else (10 : Int32))) * 4 ≤ 536870912 ∧ 1 ≤ MC ∧ (Int32.toNatClampNeg (if (10 : Int32) < p1 then p1 else (10 : Int32))) ≤ MS ∧ (∀ q7, gK S q7 = 0 → (post (some q7) (sQ (sNew S q7 11 (Int32.toNatClampNeg (if (10 : Int32) < p1 then p1 else (10 : Int32)))) 1 this 1 (some q7))))) ∧ (¬ ((some b5) = (some z)) → wb_Jx4a65c_grow_92f84_20 post MC MS this p1 (Int32.ofNat (gN S b2)) S))))))))
set_option maxHeartbeats 4000000 in
set_option maxRecDepth 100000 in
theorem m_Jx4a65c_grow_92f84 {l : Launch} {D : va_G} {y : Nat → ClassId} {z : Nat} {A : Nat → Prop} {S : bS} {post : Option Nat → bS → Prop} {MC MS : Nat} {this : Nat} {p1 : Int32} (h : wp_Jx4a65c_grow_92f84 post MC MS this p1 S) : Met l yJx4a65c_grow_92f84 wsJx4a65c_grow_92f84 ({ frames := 3, cells := MC, slots := MS, locals := 104 } : Room) (va_Pc ([Value.ref this, Value.int p1] : List Value) (bP D y z S A)) (va_Qq post (fun S' t => wd D y z S' A t.heap) A) MC MS A := by
  refine Met.ofW (cc := cJx4a65c_grow_92f84) (maxL := 4) (ret := (some (.array (.object "java/lang/Object")))) (by decide) rfl ?_
  intro p e s m args below meth c s₁ B hml hv
  obtain ⟨rfl, hB⟩ := hv
  have hx := B.exec
  have hb := B.bytes
  have hr := B.returns
  have hts := atoms_spec (ws := wsJx4a65c_grow_92f84) B.pre
  have hown : s.vm.findClass RJx4a65c = some m.cls := findClass_of_methodNamed B.named
  have hlocks := B.notSynchronized
  have hw : wd D y z S A s.heap := hB.1
  have hK : va_K D bCl (bT y) s := hB.2.1
  have hNw := hB.2.2.1
  have hAn : ∀ q : Nat, s.heap.size ≤ q → A q := hB.2.2.2.1
  have hAz : ¬ A z := hB.2.2.2.2.1
  have hO := hB.2.2.2.2.2.1
  have hS : va_S A s.heap s.heap [] := va_S.rf
  have hiJx4a65c : ∀ w ∈ u_ws RJx4a65c TJx4a65c 3, w ∈ wsJx4a65c_grow_92f84 := by decide +kernel
  have hl := lv_entry ([Value.ref this, Value.int p1] : List Value) (n := 4) (Nat.le_of_ble_eq_true rfl)
  rw [lg_entry_eq]
  generalize (lg_sl ([Value.ref this, Value.int p1] : List Value) ++ List.replicate (4 - (lg_sl ([Value.ref this, Value.int p1] : List Value)).length) Slot.unset).toArray = ls at hl ⊢
  have hl : lv_has ls 4 [(0, .ref this), (1, .int p1)] := hl
  obtain ⟨Q, hQ⟩ : ∃ Q, Q = MQ below (va_Qq post (fun S' t => wd D y z S' A t.heap) A) (([Value.ref this, Value.int p1] : List Value).toArray) s MC MS A := ⟨_, rfl⟩
  rw [← hQ]
  generalize hR : (headSpec wsJx4a65c_grow_92f84 ({ frames := 3, cells := MC, slots := MS, locals := 104 } : Room)).room = R
  have hRf : 3 ≤ R.frames := by rw [← hR]; exact Nat.le_refl _
  have hRl : 104 ≤ R.locals := by rw [← hR]; exact Nat.le_refl _
  have hRc : R.cells = MC := by rw [← hR]; rfl
  have hRs : R.slots = MS := by rw [← hR]; rfl
  have hret : ∀ (v : Option Nat) (S : bS) (H : Heap) (locs : List Loc) (pc : Nat) (ls : Array Slot) (cu su : Nat) , post v S → wd D y z S A H → va_S A s.heap H locs → cu ≤ MC → su ≤ MS → decode cJx4a65c_grow_92f84 pc = .ok (.areturn, 1) → W p l e R s m (([Value.ref this, Value.int p1] : List Value).toArray) below meth c H locs cu su Q (F0 m pc ls [va_rf v]) := by
    intro v S H locs pc ls cu su h hw hS hcu hsu d0
    rw [hQ]; refine W.widen hcu hsu ?_; exact W.aret hx hb hr (by first | exact Or.inl ⟨_, rfl⟩ | exact Or.inr ⟨_, rfl⟩) (by cases v with | none => exact Or.inl rfl | some a => exact Or.inr ⟨a, rfl⟩) (fun t ht hW => ⟨⟨v, S, rfl, h, by show wd D y z S A t.heap; rw [ht]; exact hw⟩, hS.F ht⟩) hS.2.2 d0 hlocks
  have hB20 : ∀ (S : bS) (H : Heap) (locs : List Loc) (ls : Array Slot) (mc ms cu su : Nat) (v0 : Nat) (v1 : Int32) (v2 : Int32), wb_Jx4a65c_grow_92f84_20 post mc ms v0 v1 v2 S → wd D y z S A H → va_S A s.heap H locs → lv_has ls 4 [(0, .ref v0), (1, .int v1), (2, .int v2)] → cu + mc ≤ MC → su + ms ≤ MS → W p l e R s m (([Value.ref this, Value.int p1] : List Value).toArray) below meth c H locs cu su Q (F0 m 20 ls []) := by
    intro S H locs ls mc ms cu su v0 v1 v2 h hw hS hl hcu hsu
    unfold wb_Jx4a65c_grow_92f84_20 at h
    refine lv_iload_n hx hb dJx4a65c_grow_92f84_20 rfl (lv_at hl 2 rfl) ?_
    refine lv_iload_n hx hb dJx4a65c_grow_92f84_21 rfl (lv_at hl 1 rfl) ?_
    refine lv_iload_n hx hb dJx4a65c_grow_92f84_22 rfl (lv_at hl 2 rfl) ?_
    refine lv_isub hx hb dJx4a65c_grow_92f84_23 ?_
    refine lv_iload_n hx hb dJx4a65c_grow_92f84_24 rfl (lv_at hl 2 rfl) ?_
    refine lv_iconst (v := (1 : Int32)) hx hb dJx4a65c_grow_92f84_25 (by decide) ?_
    refine lv_ishr hx hb dJx4a65c_grow_92f84_26 ?_
    have h1 := h
    refine va_calli (va_runS (As := [.int v2, .int (v1 - v2), .int (v2 >>> ((1 : Int32) &&& 31))]) (rest := []) ⟨hx, hb, hml, hown, hts⟩ (m_J8_newLength_cabcc (l := l) h1) (va_cwS 3 hts gJx4a65c_grow_92f84_J8_newLength_cabcc rfl rfl rfl (by decide +kernel) ⟨Nat.le_trans (Nat.le_of_ble_eq_true rfl) hRf, Nat.le_trans (Nat.le_of_ble_eq_true rfl) hRl⟩) (r_pS hB hw hS) rfl rfl hl.1 rfl (lv_room (Nat.le_of_ble_eq_true rfl)) dJx4a65c_grow_92f84_27 ⟨by omega, by omega⟩) hS (fun _ _ h => h) (fun _ h => h) (fun r11 S12 t H1 locs ht _ h hw1 _ _ hS => ?_)
    subst ht
    have hw : wd D y z S12 A t.heap := hw1
    clear hw1 h1
    refine lv_istore_n hx hb dJx4a65c_grow_92f84_30 rfl hl (by decide) rfl (fun ls hl => ?_)
    have hl : lv_has ls 4 [(3, .int r11), (0, .ref v0), (1, .int v1), (2, .int v2)] := hl
    refine lv_aload_n hx hb dJx4a65c_grow_92f84_31 rfl (lv_at hl 1 rfl) ?_
    refine lv_aload_n hx hb dJx4a65c_grow_92f84_32 rfl (lv_at hl 1 rfl) ?_
    obtain ⟨hk13, h⟩ := h
    obtain ⟨b14, hb15, h⟩ := h
    refine r_get (ci := 0) (v := .ref b14) (C := RJx4a65c) (T := TJx4a65c) (N := 3) hx hb hts hiJx4a65c hown hK hw (ce_1 (S := S12) hk13) rfl 1 (by decide) (hts (.fieldLink RJx4a65c 9 "java/util/ArrayList" "elementData" "[Ljava/lang/Object;") (by decide +kernel)) (fun _ h9 => h9) (congrArg (fun q => some (va_rf q)) hb15) dJx4a65c_grow_92f84_33 ?_
    refine lv_iload_n hx hb dJx4a65c_grow_92f84_36 rfl (lv_at hl 0 rfl) ?_
    obtain ⟨k20, n21, hbg1, hbg2, h⟩ := h
    have h1 := h
    refine va_callq (va_runS (As := [.ref b14, .int r11]) (rest := [.ref v0]) ⟨hx, hb, hml, hown, hts⟩ (m_J7_copyOf_1904c (l := l) h1) (va_cwS 2 hts gJx4a65c_grow_92f84_J7_copyOf_1904c rfl rfl rfl (by decide +kernel) ⟨Nat.le_trans (Nat.le_of_ble_eq_true rfl) hRf, Nat.le_trans (Nat.le_of_ble_eq_true rfl) hRl⟩) (r_pS hB hw hS) rfl rfl hl.1 rfl (lv_room (Nat.le_of_ble_eq_true rfl)) dJx4a65c_grow_92f84_37 ⟨by omega, by omega⟩) hS (fun _ _ h => h) (fun _ h => h) (fun r16 S17 t H1 locs ht _ h hw1 _ _ hS => ?_)
    subst ht
    have hw : wd D y z S17 A t.heap := hw1
    clear hw1 h1
    have hcu : (cu + k20) + (mc - k20) ≤ MC := by omega
    have hsu : (su + n21) + (ms - n21) ≤ MS := by omega
    obtain ⟨b18, rfl, h⟩ := h
    refine W.eq (g2 := F0 m 40 ls [.ref b18, .ref v0]) rfl ?_
    refine lv_dup_x1 hx hb dJx4a65c_grow_92f84_40 rfl rfl ?_
    obtain ⟨hk22, h⟩ := h
    refine r_putQ (κ := 1) (ci := 0) (C := RJx4a65c) (T := TJx4a65c) (N := 3) (ty := (tyJx4a65c 1)) (x := (some b18)) hx hb hts hiJx4a65c tyJx4a65c tyJx4a65c_ok nmJx4a65c hown hK hw hS (ce_1 (S := S17) hk22) rfl 1 (by decide) (hts (.fieldLink RJx4a65c 9 "java/util/ArrayList" "elementData" "[Ljava/lang/Object;") (by decide +kernel)) (fun _ h9 => h9) rfl (by decide +kernel) rfl rfl (Nat.le_of_ble_eq_true rfl) (pu_1_1 (S := S17) hk22) dJx4a65c_grow_92f84_41 (fun H locs hw hS => ?_)
    exact hret (some b18) _ _ _ _ _ _ _ h hw hS (by omega) (by omega) dJx4a65c_grow_92f84_44
  unfold wp_Jx4a65c_grow_92f84 at h
  have hcu : 0 + MC ≤ MC := by omega
  have hsu : 0 + MS ≤ MS := by omega
  refine lv_aload_n hx hb dJx4a65c_grow_92f84_0 rfl (lv_at hl 0 rfl) ?_
  obtain ⟨hk1, h⟩ := h
  obtain ⟨b2, hb3, h⟩ := h
  refine r_get (ci := 0) (v := .ref b2) (C := RJx4a65c) (T := TJx4a65c) (N := 3) hx hb hts hiJx4a65c hown hK hw (ce_1 (S := S) hk1) rfl 1 (by decide) (hts (.fieldLink RJx4a65c 9 "java/util/ArrayList" "elementData" "[Ljava/lang/Object;") (by decide +kernel)) (fun _ h9 => h9) (congrArg (fun q => some (va_rf q)) hb3) dJx4a65c_grow_92f84_1 ?_
  obtain ⟨hq4, h⟩ := h
  refine r_alenq hx hb hK hw (bTz hB) hS hq4 dJx4a65c_grow_92f84_4 ?_
  refine lv_istore_n hx hb dJx4a65c_grow_92f84_5 rfl hl (by decide) rfl (fun ls hl => ?_)
  have hl : lv_has ls 4 [(2, .int (Int32.ofNat (gN S b2))), (0, .ref this), (1, .int p1)] := hl
  refine lv_iload_n hx hb dJx4a65c_grow_92f84_6 rfl (lv_at hl 0 rfl) ?_
  refine lv_if_gt (tgt := 20) hx hb dJx4a65c_grow_92f84_7 (by decide) (fun hc => ?_) (fun hc => ?_)
  · have h := h.1 hc
    exact hB20 _ _ _ _ _ _ _ _ _ _ _ h hw hS (lv_sub hl [1, 2, 0] rfl) hcu hsu
  · have h := h.2 hc
    refine lv_aload_n hx hb dJx4a65c_grow_92f84_10 rfl (lv_at hl 1 rfl) ?_
    obtain ⟨b5, hb6, h⟩ := h
    refine r_get (ci := 0) (v := .ref b5) (C := RJx4a65c) (T := TJx4a65c) (N := 3) hx hb hts hiJx4a65c hown hK hw (ce_1 (S := S) hk1) rfl 1 (by decide) (hts (.fieldLink RJx4a65c 9 "java/util/ArrayList" "elementData" "[Ljava/lang/Object;") (by decide +kernel)) (fun _ h9 => h9) (congrArg (fun q => some (va_rf q)) hb6) dJx4a65c_grow_92f84_11 ?_
    have h := h z hw.kz
    refine va_gets (v := .ref z) hx hb (bZ hB) hS hown (hts (.fieldLink RJx4a65c 39 "java/util/ArrayList" "DEFAULTCAPACITY_EMPTY_ELEMENTDATA" "[Ljava/lang/Object;") (by decide +kernel)) (fun _ h9 => h9) dJx4a65c_grow_92f84_14 ?_
    refine lv_acmp_eq (rx := (some b5)) (ry := (some z)) (tgt := 45) hx hb dJx4a65c_grow_92f84_17 (by decide) (fun hc => ?_) (fun hc => ?_)
    · have h := h.1 hc
      refine lv_aload_n hx hb dJx4a65c_grow_92f84_45 rfl (lv_at hl 1 rfl) ?_
      refine lv_bipush (v := (10 : Int32)) hx hb dJx4a65c_grow_92f84_46 (by decide) ?_
      refine lv_iload_n hx hb dJx4a65c_grow_92f84_48 rfl (lv_at hl 2 rfl) ?_
      refine va_mmax hx hb (by rw [hml]; exact hl.1.symm) hown (hts (.methodLink RJx4a65c 79 Lib.Math.max.name) (by decide +kernel)) (hts (.static Lib.Math.max.name) (by decide +kernel)) (hts (.initialized "java/lang/Math") (by decide +kernel)) (hts (.code Lib.Math.max.name Lib.Math.max.code 2 (some .int)) (by decide +kernel)) (Nat.le_trans (Nat.le_of_ble_eq_true rfl) hRf) (Nat.le_trans (Nat.le_of_ble_eq_true rfl) hRl) (by omega) (by omega) dJx4a65c_grow_92f84_49 ?_
      obtain ⟨hn0, hn1, hbg1, hbg2, h⟩ := h
      refine r_newq hx hb hown (hts (.classLink RJx4a65c 7 "java/lang/Object") (by decide +kernel)) hO hK hw hS hAn hAz hn0 rfl hn1 (by omega) (by omega) dJx4a65c_grow_92f84_52 (fun q7 H hq8 hw hS => ?_)
      have h := h q7 hq8
      have hk9 : gK (sNew S q7 11 (Int32.toNatClampNeg (if (10 : Int32) < p1 then p1 else (10 : Int32)))) this = 1 := b_old hk1 hq8 (by decide)
      have hk10 : gK (sNew S q7 11 (Int32.toNatClampNeg (if (10 : Int32) < p1 then p1 else (10 : Int32)))) q7 = 11 := if_pos rfl
      have hcu : (0 + 1) + (MC - 1) ≤ MC := by omega
      have hsu : (0 + (Int32.toNatClampNeg (if (10 : Int32) < p1 then p1 else (10 : Int32)))) + (MS - (Int32.toNatClampNeg (if (10 : Int32) < p1 then p1 else (10 : Int32)))) ≤ MS := by omega
      refine lv_dup_x1 hx hb dJx4a65c_grow_92f84_55 rfl rfl ?_
      refine r_putQ (κ := 1) (ci := 0) (C := RJx4a65c) (T := TJx4a65c) (N := 3) (ty := (tyJx4a65c 1)) (x := (some q7)) hx hb hts hiJx4a65c tyJx4a65c tyJx4a65c_ok nmJx4a65c hown hK hw hS (ce_1 (S := (sNew S q7 11 (Int32.toNatClampNeg (if (10 : Int32) < p1 then p1 else (10 : Int32))))) hk9) rfl 1 (by decide) (hts (.fieldLink RJx4a65c 9 "java/util/ArrayList" "elementData" "[Ljava/lang/Object;") (by decide +kernel)) (fun _ h9 => h9) rfl (by decide +kernel) rfl rfl (Nat.le_of_ble_eq_true rfl) (pu_1_1 (S := (sNew S q7 11 (Int32.toNatClampNeg (if (10 : Int32) < p1 then p1 else (10 : Int32))))) hk9) dJx4a65c_grow_92f84_56 (fun H locs hw hS => ?_)
      exact hret (some q7) _ _ _ _ _ _ _ h hw hS (by omega) (by omega) dJx4a65c_grow_92f84_59
    · have h := h.2 hc
      exact hB20 _ _ _ _ _ _ _ _ _ _ _ h hw hS (lv_sub hl [1, 2, 0] rfl) hcu hsu
def wp_Jx4a65c_grow_d5877 (post : Option Nat → bS → Prop) (MC MS : Nat) (this : Nat) (S : bS) : Prop := gK S this = 1 ∧ (∃ k6 n7, k6 ≤ MC ∧ n7 ≤ MS ∧ (wp_Jx4a65c_grow_92f84 (fun r2 S3 => ∃ b4, r2 = some b4 ∧ (post (some b4) S3)) k6 n7 this ((gV S 1 this 2) + (1 : Int32)) S))
set_option maxHeartbeats 4000000 in
set_option maxRecDepth 100000 in
theorem m_Jx4a65c_grow_d5877 {l : Launch} {D : va_G} {y : Nat → ClassId} {z : Nat} {A : Nat → Prop} {S : bS} {post : Option Nat → bS → Prop} {MC MS : Nat} {this : Nat} (h : wp_Jx4a65c_grow_d5877 post MC MS this S) : Met l yJx4a65c_grow_d5877 wsJx4a65c_grow_d5877 ({ frames := 4, cells := MC, slots := MS, locals := 127 } : Room) (va_Pc ([Value.ref this] : List Value) (bP D y z S A)) (va_Qq post (fun S' t => wd D y z S' A t.heap) A) MC MS A := by
  refine Met.ofW (cc := cJx4a65c_grow_d5877) (maxL := 1) (ret := (some (.array (.object "java/lang/Object")))) (by decide) rfl ?_
  intro p e s m args below meth c s₁ B hml hv
  obtain ⟨rfl, hB⟩ := hv
  have hx := B.exec
  have hb := B.bytes
  have hr := B.returns
  have hts := atoms_spec (ws := wsJx4a65c_grow_d5877) B.pre
  have hown : s.vm.findClass RJx4a65c = some m.cls := findClass_of_methodNamed B.named
  have hlocks := B.notSynchronized
  have hw : wd D y z S A s.heap := hB.1
  have hK : va_K D bCl (bT y) s := hB.2.1
  have hNw := hB.2.2.1
  have hAn : ∀ q : Nat, s.heap.size ≤ q → A q := hB.2.2.2.1
  have hAz : ¬ A z := hB.2.2.2.2.1
  have hO := hB.2.2.2.2.2.1
  have hS : va_S A s.heap s.heap [] := va_S.rf
  have hiJx4a65c : ∀ w ∈ u_ws RJx4a65c TJx4a65c 3, w ∈ wsJx4a65c_grow_d5877 := by decide +kernel
  have hl := lv_entry ([Value.ref this] : List Value) (n := 1) (Nat.le_of_ble_eq_true rfl)
  rw [lg_entry_eq]
  generalize (lg_sl ([Value.ref this] : List Value) ++ List.replicate (1 - (lg_sl ([Value.ref this] : List Value)).length) Slot.unset).toArray = ls at hl ⊢
  have hl : lv_has ls 1 [(0, .ref this)] := hl
  obtain ⟨Q, hQ⟩ : ∃ Q, Q = MQ below (va_Qq post (fun S' t => wd D y z S' A t.heap) A) (([Value.ref this] : List Value).toArray) s MC MS A := ⟨_, rfl⟩
  rw [← hQ]
  generalize hR : (headSpec wsJx4a65c_grow_d5877 ({ frames := 4, cells := MC, slots := MS, locals := 127 } : Room)).room = R
  have hRf : 4 ≤ R.frames := by rw [← hR]; exact Nat.le_refl _
  have hRl : 127 ≤ R.locals := by rw [← hR]; exact Nat.le_refl _
  have hRc : R.cells = MC := by rw [← hR]; rfl
  have hRs : R.slots = MS := by rw [← hR]; rfl
  have hret : ∀ (v : Option Nat) (S : bS) (H : Heap) (locs : List Loc) (pc : Nat) (ls : Array Slot) (cu su : Nat) , post v S → wd D y z S A H → va_S A s.heap H locs → cu ≤ MC → su ≤ MS → decode cJx4a65c_grow_d5877 pc = .ok (.areturn, 1) → W p l e R s m (([Value.ref this] : List Value).toArray) below meth c H locs cu su Q (F0 m pc ls [va_rf v]) := by
    intro v S H locs pc ls cu su h hw hS hcu hsu d0
    rw [hQ]; refine W.widen hcu hsu ?_; exact W.aret hx hb hr (by first | exact Or.inl ⟨_, rfl⟩ | exact Or.inr ⟨_, rfl⟩) (by cases v with | none => exact Or.inl rfl | some a => exact Or.inr ⟨a, rfl⟩) (fun t ht hW => ⟨⟨v, S, rfl, h, by show wd D y z S A t.heap; rw [ht]; exact hw⟩, hS.F ht⟩) hS.2.2 d0 hlocks
  unfold wp_Jx4a65c_grow_d5877 at h
  have hcu : 0 + MC ≤ MC := by omega
  have hsu : 0 + MS ≤ MS := by omega
  refine lv_aload_n hx hb dJx4a65c_grow_d5877_0 rfl (lv_at hl 0 rfl) ?_
  refine lv_aload_n hx hb dJx4a65c_grow_d5877_1 rfl (lv_at hl 0 rfl) ?_
  obtain ⟨hk1, h⟩ := h
  refine r_get (ci := 0) (v := .int (gV S 1 this 2)) (C := RJx4a65c) (T := TJx4a65c) (N := 3) hx hb hts hiJx4a65c hown hK hw (ce_1 (S := S) hk1) rfl 2 (by decide) (hts (.fieldLink RJx4a65c 48 "java/util/ArrayList" "size" "I") (by decide +kernel)) (fun _ h9 => h9) rfl dJx4a65c_grow_d5877_2 ?_
  refine lv_iconst (v := (1 : Int32)) hx hb dJx4a65c_grow_d5877_5 (by decide) ?_
  refine lv_iadd hx hb dJx4a65c_grow_d5877_6 ?_
  obtain ⟨k6, n7, hbg1, hbg2, h⟩ := h
  have h1 := h
  refine va_callq (va_runV (As := [.int ((gV S 1 this 2) + (1 : Int32))]) (rest := []) ⟨hx, hb, hml, hown, hts⟩ (m_Jx4a65c_grow_92f84 (l := l) h1) (cwV 1 hts gJx4a65c_grow_d5877_Jx4a65c_grow_92f84 rfl rfl rfl (by decide +kernel) ⟨Nat.le_trans (Nat.le_of_ble_eq_true rfl) hRf, Nat.le_trans (Nat.le_of_ble_eq_true rfl) hRl⟩) (r_pV hB hw hS (ce_1 (S := S) hk1) rfl) rfl rfl hl.1 rfl (lv_room (Nat.le_of_ble_eq_true rfl)) dJx4a65c_grow_d5877_7 ⟨by omega, by omega⟩) hS (fun _ _ h => h) (fun _ h => h) (fun r2 S3 t H1 locs ht _ h hw1 _ _ hS => ?_)
  subst ht
  have hw : wd D y z S3 A t.heap := hw1
  clear hw1 h1
  have hcu : (0 + k6) + (MC - k6) ≤ MC := by omega
  have hsu : (0 + n7) + (MS - n7) ≤ MS := by omega
  obtain ⟨b4, rfl, h⟩ := h
  refine W.eq (g2 := F0 m 10 ls [.ref b4]) rfl ?_
  exact hret (some b4) _ _ _ _ _ _ _ h hw hS (by omega) (by omega) dJx4a65c_grow_d5877_10
def wb_Jx4a65c_add_72be8_11 (post : bS → Prop) (mc ms : Nat) (v0 : Nat) (v1 : Nat) (v2 : Nat) (v3 : Int32) (S : bS) : Prop := gK S v2 = 11 ∧ (vp_in v3 (gN S v2) ∧ ((2 ≤ gK S v1 ∧ gK S v1 ≤ 6) ∧ (gK (sQ S 11 v2 (Int32.toNatClampNeg v3) (some v1)) v0 = 1 ∧ (post (sV (sQ S 11 v2 (Int32.toNatClampNeg v3) (some v1)) 1 v0 2 (v3 + (1 : Int32)))))))
def wp_Jx4a65c_add_72be8 (post : bS → Prop) (MC MS : Nat) (this : Nat) (p1 : Nat) (p2 : Nat) (p3 : Int32) (S : bS) : Prop := (gK S p2 = 11 ∨ gK S p2 = 14) ∧ ((p3 ≠ (Int32.ofNat (gN S p2)) → wb_Jx4a65c_add_72be8_11 post MC MS this p1 p2 p3 S) ∧ (p3 = (Int32.ofNat (gN S p2)) → gK S this = 1 ∧ (∃ k7 n8, k7 ≤ MC ∧ n8 ≤ MS ∧ (wp_Jx4a65c_grow_d5877 (fun r3 S4 => ∃ b5, r3 = some b5 ∧ (wb_Jx4a65c_add_72be8_11 post (MC - k7) (MS - n8) this p1 b5 p3 S4)) k7 n8 this S))))
set_option maxHeartbeats 4000000 in
set_option maxRecDepth 100000 in
theorem m_Jx4a65c_add_72be8 {l : Launch} {D : va_G} {y : Nat → ClassId} {z : Nat} {A : Nat → Prop} {S : bS} {post : bS → Prop} {MC MS : Nat} {this : Nat} {p1 : Nat} {p2 : Nat} {p3 : Int32} (h : wp_Jx4a65c_add_72be8 post MC MS this p1 p2 p3 S) : Met l yJx4a65c_add_72be8 wsJx4a65c_add_72be8 ({ frames := 5, cells := MC, slots := MS, locals := 147 } : Room) (va_Pc ([Value.ref this, Value.ref p1, Value.ref p2, Value.int p3] : List Value) (bP D y z S A)) (va_Qv post (fun S' t => wd D y z S' A t.heap) A) MC MS A := by
  refine Met.ofW (cc := cJx4a65c_add_72be8) (maxL := 4) (ret := none) (by decide) rfl ?_
  intro p e s m args below meth c s₁ B hml hv
  obtain ⟨rfl, hB⟩ := hv
  have hx := B.exec
  have hb := B.bytes
  have hr := B.returns
  have hts := atoms_spec (ws := wsJx4a65c_add_72be8) B.pre
  have hown : s.vm.findClass RJx4a65c = some m.cls := findClass_of_methodNamed B.named
  have hlocks := B.notSynchronized
  have hw : wd D y z S A s.heap := hB.1
  have hK : va_K D bCl (bT y) s := hB.2.1
  have hNw := hB.2.2.1
  have hAn : ∀ q : Nat, s.heap.size ≤ q → A q := hB.2.2.2.1
  have hAz : ¬ A z := hB.2.2.2.2.1
  have hO := hB.2.2.2.2.2.1
  have hS : va_S A s.heap s.heap [] := va_S.rf
  have hiJx4a65c : ∀ w ∈ u_ws RJx4a65c TJx4a65c 3, w ∈ wsJx4a65c_add_72be8 := by decide +kernel
  have hl := lv_entry ([Value.ref this, Value.ref p1, Value.ref p2, Value.int p3] : List Value) (n := 4) (Nat.le_of_ble_eq_true rfl)
  rw [lg_entry_eq]
  generalize (lg_sl ([Value.ref this, Value.ref p1, Value.ref p2, Value.int p3] : List Value) ++ List.replicate (4 - (lg_sl ([Value.ref this, Value.ref p1, Value.ref p2, Value.int p3] : List Value)).length) Slot.unset).toArray = ls at hl ⊢
  have hl : lv_has ls 4 [(0, .ref this), (1, .ref p1), (2, .ref p2), (3, .int p3)] := hl
  obtain ⟨Q, hQ⟩ : ∃ Q, Q = MQ below (va_Qv post (fun S' t => wd D y z S' A t.heap) A) (([Value.ref this, Value.ref p1, Value.ref p2, Value.int p3] : List Value).toArray) s MC MS A := ⟨_, rfl⟩
  rw [← hQ]
  generalize hR : (headSpec wsJx4a65c_add_72be8 ({ frames := 5, cells := MC, slots := MS, locals := 147 } : Room)).room = R
  have hRf : 5 ≤ R.frames := by rw [← hR]; exact Nat.le_refl _
  have hRl : 147 ≤ R.locals := by rw [← hR]; exact Nat.le_refl _
  have hRc : R.cells = MC := by rw [← hR]; rfl
  have hRs : R.slots = MS := by rw [← hR]; rfl
  have hret : ∀ (S : bS) (H : Heap) (locs : List Loc) (pc : Nat) (ls : Array Slot) (cu su : Nat) , post S → wd D y z S A H → va_S A s.heap H locs → cu ≤ MC → su ≤ MS → decode cJx4a65c_add_72be8 pc = .ok (.return_, 1) → W p l e R s m (([Value.ref this, Value.ref p1, Value.ref p2, Value.int p3] : List Value).toArray) below meth c H locs cu su Q (F0 m pc ls []) := by
    intro S H locs pc ls cu su h hw hS hcu hsu d0
    rw [hQ]; refine W.widen hcu hsu ?_; exact W.vret hx hb hr (fun t ht hW => ⟨⟨S, rfl, h, by show wd D y z S A t.heap; rw [ht]; exact hw⟩, hS.F ht⟩) hS.2.2 d0 hlocks
  have hB11 : ∀ (S : bS) (H : Heap) (locs : List Loc) (ls : Array Slot) (mc ms cu su : Nat) (v0 : Nat) (v1 : Nat) (v2 : Nat) (v3 : Int32), wb_Jx4a65c_add_72be8_11 post mc ms v0 v1 v2 v3 S → wd D y z S A H → va_S A s.heap H locs → lv_has ls 4 [(0, .ref v0), (1, .ref v1), (2, .ref v2), (3, .int v3)] → cu + mc ≤ MC → su + ms ≤ MS → W p l e R s m (([Value.ref this, Value.ref p1, Value.ref p2, Value.int p3] : List Value).toArray) below meth c H locs cu su Q (F0 m 11 ls []) := by
    intro S H locs ls mc ms cu su v0 v1 v2 v3 h hw hS hl hcu hsu
    unfold wb_Jx4a65c_add_72be8_11 at h
    refine lv_aload_n hx hb dJx4a65c_add_72be8_11 rfl (lv_at hl 2 rfl) ?_
    refine lv_iload_n hx hb dJx4a65c_add_72be8_12 rfl (lv_at hl 3 rfl) ?_
    refine lv_aload_n hx hb dJx4a65c_add_72be8_13 rfl (lv_at hl 1 rfl) ?_
    obtain ⟨hk9, h⟩ := h
    obtain ⟨hin10, h⟩ := h
    obtain ⟨hv11, h⟩ := h
    refine r_aast hx hb hK hO hw hS hk9 hv11 hin10 dJx4a65c_add_72be8_14 (fun H locs hw hS => ?_)
    refine lv_aload_n hx hb dJx4a65c_add_72be8_15 rfl (lv_at hl 0 rfl) ?_
    refine lv_iload_n hx hb dJx4a65c_add_72be8_16 rfl (lv_at hl 3 rfl) ?_
    refine lv_iconst (v := (1 : Int32)) hx hb dJx4a65c_add_72be8_17 (by decide) ?_
    refine lv_iadd hx hb dJx4a65c_add_72be8_18 ?_
    obtain ⟨hk12, h⟩ := h
    refine r_putI (κ := 1) (ci := 0) (C := RJx4a65c) (T := TJx4a65c) (N := 3) (ty := .int) (x := (v3 + (1 : Int32))) hx hb hts hiJx4a65c tyJx4a65c tyJx4a65c_ok nmJx4a65c hown hK hw hS (ce_1 (S := (sQ S 11 v2 (Int32.toNatClampNeg v3) (some v1))) hk12) rfl 2 (by decide) (hts (.fieldLink RJx4a65c 48 "java/util/ArrayList" "size" "I") (by decide +kernel)) (fun _ h9 => h9) rfl (by decide +kernel) rfl rfl (Nat.le_of_ble_eq_true rfl) (pu_1_2 (S := (sQ S 11 v2 (Int32.toNatClampNeg v3) (some v1))) hk12) dJx4a65c_add_72be8_19 (fun H locs hw hS => ?_)
    exact hret _ _ _ _ _ _ _ h hw hS (by omega) (by omega) dJx4a65c_add_72be8_22
  unfold wp_Jx4a65c_add_72be8 at h
  have hcu : 0 + MC ≤ MC := by omega
  have hsu : 0 + MS ≤ MS := by omega
  refine lv_iload_n hx hb dJx4a65c_add_72be8_0 rfl (lv_at hl 3 rfl) ?_
  refine lv_aload_n hx hb dJx4a65c_add_72be8_1 rfl (lv_at hl 2 rfl) ?_
  obtain ⟨hq1, h⟩ := h
  refine r_alenq hx hb hK hw (bTz hB) hS hq1 dJx4a65c_add_72be8_2 ?_
  refine lv_icmp_ne (tgt := 11) hx hb dJx4a65c_add_72be8_3 (by decide) (fun hc => ?_) (fun hc => ?_)
  · have h := h.1 hc
    exact hB11 _ _ _ _ _ _ _ _ _ _ _ _ h hw hS (lv_sub hl [0, 1, 2, 3] rfl) hcu hsu
  · have h := h.2 hc
    refine lv_aload_n hx hb dJx4a65c_add_72be8_6 rfl (lv_at hl 0 rfl) ?_
    obtain ⟨hk2, h⟩ := h
    obtain ⟨k7, n8, hbg1, hbg2, h⟩ := h
    have h1 := h
    refine va_callq (va_runV (As := []) (rest := []) ⟨hx, hb, hml, hown, hts⟩ (m_Jx4a65c_grow_d5877 (l := l) h1) (cwV 0 hts gJx4a65c_add_72be8_Jx4a65c_grow_d5877 rfl rfl rfl (by decide +kernel) ⟨Nat.le_trans (Nat.le_of_ble_eq_true rfl) hRf, Nat.le_trans (Nat.le_of_ble_eq_true rfl) hRl⟩) (r_pV hB hw hS (ce_1 (S := S) hk2) rfl) rfl rfl hl.1 rfl (lv_room (Nat.le_of_ble_eq_true rfl)) dJx4a65c_add_72be8_7 ⟨by omega, by omega⟩) hS (fun _ _ h => h) (fun _ h => h) (fun r3 S4 t H1 locs ht _ h hw1 _ _ hS => ?_)
    subst ht
    have hw : wd D y z S4 A t.heap := hw1
    clear hw1 h1
    have hcu : (0 + k7) + (MC - k7) ≤ MC := by omega
    have hsu : (0 + n8) + (MS - n8) ≤ MS := by omega
    obtain ⟨b5, rfl, h⟩ := h
    refine W.eq (g2 := F0 m 10 ls [.ref b5]) rfl ?_
    refine lv_astore_n hx hb dJx4a65c_add_72be8_10 rfl hl (by decide) rfl (fun ls hl => ?_)
    have hl : lv_has ls 4 [(2, .ref b5), (0, .ref this), (1, .ref p1), (3, .int p3)] := hl
    exact hB11 _ _ _ _ _ _ _ _ _ _ _ _ h hw hS (lv_sub hl [1, 2, 0, 3] rfl) hcu hsu
def wp_Jx4a65c_add_9ea2d (post : Int32 → bS → Prop) (MC MS : Nat) (this : Nat) (p1 : Nat) (S : bS) : Prop := gK S this = 1 ∧ (∃ b2, gQ (sV S 1 this 0 ((gV S 1 this 0) + (1 : Int32))) 1 this 1 = some b2 ∧ (∃ k6 n7, k6 ≤ MC ∧ n7 ≤ MS ∧ (wp_Jx4a65c_add_72be8 (fun S5 => post (1 : Int32) S5) k6 n7 this p1 b2 (gV (sV S 1 this 0 ((gV S 1 this 0) + (1 : Int32))) 1 this 2) (sV S 1 this 0 ((gV S 1 this 0) + (1 : Int32))))))
set_option maxHeartbeats 4000000 in
set_option maxRecDepth 100000 in
theorem m_Jx4a65c_add_9ea2d {l : Launch} {D : va_G} {y : Nat → ClassId} {z : Nat} {A : Nat → Prop} {S : bS} {post : Int32 → bS → Prop} {MC MS : Nat} {this : Nat} {p1 : Nat} (h : wp_Jx4a65c_add_9ea2d post MC MS this p1 S) : Met l yJx4a65c_add_9ea2d wsJx4a65c_add_9ea2d ({ frames := 6, cells := MC, slots := MS, locals := 170 } : Room) (va_Pc ([Value.ref this, Value.ref p1] : List Value) (bP D y z S A)) (va_Qi post (fun S' t => wd D y z S' A t.heap) A) MC MS A := by
  refine Met.ofW (cc := cJx4a65c_add_9ea2d) (maxL := 2) (ret := (some .boolean)) (by decide) rfl ?_
  intro p e s m args below meth c s₁ B hml hv
  obtain ⟨rfl, hB⟩ := hv
  have hx := B.exec
  have hb := B.bytes
  have hr := B.returns
  have hts := atoms_spec (ws := wsJx4a65c_add_9ea2d) B.pre
  have hown : s.vm.findClass RJx4a65c = some m.cls := findClass_of_methodNamed B.named
  have hlocks := B.notSynchronized
  have hw : wd D y z S A s.heap := hB.1
  have hK : va_K D bCl (bT y) s := hB.2.1
  have hNw := hB.2.2.1
  have hAn : ∀ q : Nat, s.heap.size ≤ q → A q := hB.2.2.2.1
  have hAz : ¬ A z := hB.2.2.2.2.1
  have hO := hB.2.2.2.2.2.1
  have hS : va_S A s.heap s.heap [] := va_S.rf
  have hiJx4a65c : ∀ w ∈ u_ws RJx4a65c TJx4a65c 3, w ∈ wsJx4a65c_add_9ea2d := by decide +kernel
  have hl := lv_entry ([Value.ref this, Value.ref p1] : List Value) (n := 2) (Nat.le_of_ble_eq_true rfl)
  rw [lg_entry_eq]
  generalize (lg_sl ([Value.ref this, Value.ref p1] : List Value) ++ List.replicate (2 - (lg_sl ([Value.ref this, Value.ref p1] : List Value)).length) Slot.unset).toArray = ls at hl ⊢
  have hl : lv_has ls 2 [(0, .ref this), (1, .ref p1)] := hl
  obtain ⟨Q, hQ⟩ : ∃ Q, Q = MQ below (va_Qi post (fun S' t => wd D y z S' A t.heap) A) (([Value.ref this, Value.ref p1] : List Value).toArray) s MC MS A := ⟨_, rfl⟩
  rw [← hQ]
  generalize hR : (headSpec wsJx4a65c_add_9ea2d ({ frames := 6, cells := MC, slots := MS, locals := 170 } : Room)).room = R
  have hRf : 6 ≤ R.frames := by rw [← hR]; exact Nat.le_refl _
  have hRl : 170 ≤ R.locals := by rw [← hR]; exact Nat.le_refl _
  have hRc : R.cells = MC := by rw [← hR]; rfl
  have hRs : R.slots = MS := by rw [← hR]; rfl
  have hret : ∀ (v : Int32) (S : bS) (H : Heap) (locs : List Loc) (pc : Nat) (ls : Array Slot) (cu su : Nat) , (v = 0 ∨ v = 1) → post v S → wd D y z S A H → va_S A s.heap H locs → cu ≤ MC → su ≤ MS → decode cJx4a65c_add_9ea2d pc = .ok (.ireturn, 1) → W p l e R s m (([Value.ref this, Value.ref p1] : List Value).toArray) below meth c H locs cu su Q (F0 m pc ls [.int v]) := by
    intro v S H locs pc ls cu su hz h hw hS hcu hsu d0
    rw [hQ]; refine W.widen hcu hsu ?_; exact W.zret hx hb hr (b_nz hz) (fun t ht hW => ⟨⟨v, S, rfl, h, by show wd D y z S A t.heap; rw [ht]; exact hw⟩, hS.F ht⟩) hS.2.2 d0 hlocks
  unfold wp_Jx4a65c_add_9ea2d at h
  have hcu : 0 + MC ≤ MC := by omega
  have hsu : 0 + MS ≤ MS := by omega
  refine lv_aload_n hx hb dJx4a65c_add_9ea2d_0 rfl (lv_at hl 0 rfl) ?_
  refine lv_dup hx hb dJx4a65c_add_9ea2d_1 rfl ?_
  obtain ⟨hk1, h⟩ := h
  refine r_get (ci := 0) (v := .int (gV S 1 this 0)) (C := RJx4a65c) (T := TJx4a65c) (N := 3) hx hb hts hiJx4a65c hown hK hw (ce_1 (S := S) hk1) rfl 0 (by decide) (hts (.fieldLink RJx4a65c 63 "java/util/ArrayList" "modCount" "I") (by decide +kernel)) (u_same (hts (.sameField "java/util/ArrayList" "java/util/AbstractList" "modCount" "I") (by decide +kernel))) rfl dJx4a65c_add_9ea2d_2 ?_
  refine lv_iconst (v := (1 : Int32)) hx hb dJx4a65c_add_9ea2d_5 (by decide) ?_
  refine lv_iadd hx hb dJx4a65c_add_9ea2d_6 ?_
  refine r_putI (κ := 1) (ci := 0) (C := RJx4a65c) (T := TJx4a65c) (N := 3) (ty := .int) (x := ((gV S 1 this 0) + (1 : Int32))) hx hb hts hiJx4a65c tyJx4a65c tyJx4a65c_ok nmJx4a65c hown hK hw hS (ce_1 (S := S) hk1) rfl 0 (by decide) (hts (.fieldLink RJx4a65c 63 "java/util/ArrayList" "modCount" "I") (by decide +kernel)) (u_same (hts (.sameField "java/util/ArrayList" "java/util/AbstractList" "modCount" "I") (by decide +kernel))) rfl (by decide +kernel) rfl rfl (Nat.le_of_ble_eq_true rfl) (pu_1_0 (S := S) hk1) dJx4a65c_add_9ea2d_7 (fun H locs hw hS => ?_)
  refine lv_aload_n hx hb dJx4a65c_add_9ea2d_10 rfl (lv_at hl 0 rfl) ?_
  refine lv_aload_n hx hb dJx4a65c_add_9ea2d_11 rfl (lv_at hl 1 rfl) ?_
  refine lv_aload_n hx hb dJx4a65c_add_9ea2d_12 rfl (lv_at hl 0 rfl) ?_
  obtain ⟨b2, hb3, h⟩ := h
  refine r_get (ci := 0) (v := .ref b2) (C := RJx4a65c) (T := TJx4a65c) (N := 3) hx hb hts hiJx4a65c hown hK hw (ce_1 (S := (sV S 1 this 0 ((gV S 1 this 0) + (1 : Int32)))) hk1) rfl 1 (by decide) (hts (.fieldLink RJx4a65c 9 "java/util/ArrayList" "elementData" "[Ljava/lang/Object;") (by decide +kernel)) (fun _ h9 => h9) (congrArg (fun q => some (va_rf q)) hb3) dJx4a65c_add_9ea2d_13 ?_
  refine lv_aload_n hx hb dJx4a65c_add_9ea2d_16 rfl (lv_at hl 0 rfl) ?_
  refine r_get (ci := 0) (v := .int (gV (sV S 1 this 0 ((gV S 1 this 0) + (1 : Int32))) 1 this 2)) (C := RJx4a65c) (T := TJx4a65c) (N := 3) hx hb hts hiJx4a65c hown hK hw (ce_1 (S := (sV S 1 this 0 ((gV S 1 this 0) + (1 : Int32)))) hk1) rfl 2 (by decide) (hts (.fieldLink RJx4a65c 48 "java/util/ArrayList" "size" "I") (by decide +kernel)) (fun _ h9 => h9) rfl dJx4a65c_add_9ea2d_17 ?_
  obtain ⟨k6, n7, hbg1, hbg2, h⟩ := h
  have h1 := h
  refine va_callv (va_runV (As := [.ref p1, .ref b2, .int (gV (sV S 1 this 0 ((gV S 1 this 0) + (1 : Int32))) 1 this 2)]) (rest := []) ⟨hx, hb, hml, hown, hts⟩ (m_Jx4a65c_add_72be8 (l := l) h1) (cwV 3 hts gJx4a65c_add_9ea2d_Jx4a65c_add_72be8 rfl rfl rfl (by decide +kernel) ⟨Nat.le_trans (Nat.le_of_ble_eq_true rfl) hRf, Nat.le_trans (Nat.le_of_ble_eq_true rfl) hRl⟩) (r_pV hB hw hS (ce_1 (S := (sV S 1 this 0 ((gV S 1 this 0) + (1 : Int32)))) hk1) rfl) rfl rfl hl.1 rfl (lv_room (Nat.le_of_ble_eq_true rfl)) dJx4a65c_add_9ea2d_20 ⟨by omega, by omega⟩) hS (fun _ _ h => h) (fun _ h => h) (fun S5 t H1 locs ht _ h hw1 _ _ hS => ?_)
  subst ht
  have hw : wd D y z S5 A t.heap := hw1
  clear hw1 h1
  have hcu : (0 + k6) + (MC - k6) ≤ MC := by omega
  have hsu : (0 + n7) + (MS - n7) ≤ MS := by omega
  refine lv_iconst (v := (1 : Int32)) hx hb dJx4a65c_add_9ea2d_23 (by decide) ?_
  exact hret _ _ _ _ _ _ _ _ (Or.inr rfl) h hw hS (by omega) (by omega) dJx4a65c_add_9ea2d_24
def wb_Jx4a65c_add_7a177_38 (post : bS → Prop) (mc ms : Nat) (v0 : Nat) (v1 : Int32) (v2 : Nat) (v3 : Int32) (v4 : Nat) (S : bS) : Prop := gK S v4 = 11 ∧ ((¬ v1 < 0 ∧ ¬ (v1 + (1 : Int32)) < 0 ∧ ¬ (v3 - v1) < 0 ∧ (Int32.toNatClampNeg v1) + (Int32.toNatClampNeg (v3 - v1)) ≤ gN S v4 ∧ (Int32.toNatClampNeg (v1 + (1 : Int32))) + (Int32.toNatClampNeg (v3 - v1)) ≤ gN S v4) ∧ ((∀ i, i < (Int32.toNatClampNeg (v3 - v1)) → ∀ b, gQ S 11 v4 ((Int32.toNatClampNeg v1) + i) = some b → 2 ≤ gK S b ∧ gK S b ≤ 6) ∧ (vp_in v1 (gN (sG S 11 v4 (va_cpy (gQ S 11 v4) (gQ S 11 v4) (Int32.toNatClampNeg v1) (Int32.toNatClampNeg (v1 + (1 : Int32))) (Int32.toNatClampNeg (v3 - v1)))) v4) ∧ ((2 ≤ gK (sG S 11 v4 (va_cpy (gQ S 11 v4) (gQ S 11 v4) (Int32.toNatClampNeg v1) (Int32.toNatClampNeg (v1 + (1 : Int32))) (Int32.toNatClampNeg (v3 - v1)))) v2 ∧ gK (sG S 11 v4 (va_cpy (gQ S 11 v4) (gQ S 11 v4) (Int32.toNatClampNeg v1) (Int32.toNatClampNeg (v1 + (1 : Int32))) (Int32.toNatClampNeg (v3 - v1)))) v2 ≤ 6) ∧ (gK (sQ (sG S 11 v4 (va_cpy (gQ S 11 v4) (gQ S 11 v4) (Int32.toNatClampNeg v1) (Int32.toNatClampNeg (v1 + (1 : Int32))) (Int32.toNatClampNeg (v3 - v1)))) 11 v4 (Int32.toNatClampNeg v1) (some v2)) v0 = 1 ∧ (post (sV (sQ (sG S 11 v4 (va_cpy (gQ S 11 v4) (gQ S 11 v4) (Int32.toNatClampNeg v1) (Int32.toNatClampNeg (v1 + (1 : Int32))) (Int32.toNatClampNeg (v3 - v1)))) 11 v4 (Int32.toNatClampNeg v1) (some v2)) 1 v0 2 (v3 + (1 : Int32)))))))))
def wp_Jx4a65c_add_7a177 (post : bS → Prop) (MC MS : Nat) (this : Nat) (p1 : Int32) (p2 : Nat) (S : bS) : Prop := gK S this = 1 ∧ (wp_Jx4a65c_rangeCheckForAdd_d00df (fun S3 => gK S3 this = 1 ∧ (∃ b5, gQ (sV S3 1 this 0 ((gV S3 1 this 0) + (1 : Int32))) 1 this 1 = some b5 ∧ ((gK (sV S3 1 this 0 ((gV S3 1 this 0) + (1 : Int32))) b5 = 11 ∨ gK (sV S3 1 this 0 ((gV S3 1 this 0) + (1 : Int32))) b5 = 14) ∧ (((gV (sV S3 1 this 0 ((gV S3 1 this 0) + (1 : Int32))) 1 this 2) ≠ (Int32.ofNat (gN (sV S3 1 this 0 ((gV S3 1 this 0) + (1 : Int32))) b5)) → wb_Jx4a65c_add_7a177_38 post MC MS this p1 p2 (gV (sV S3 1 this 0 ((gV S3 1 this 0) + (1 : Int32))) 1 this 2) b5 (sV S3 1 this 0 ((gV S3 1 this 0) + (1 : Int32)))) ∧ ((gV (sV S3 1 this 0 ((gV S3 1 this 0) + (1 : Int32))) 1 this 2) = (Int32.ofNat (gN (sV S3 1 this 0 ((gV S3 1 this 0) + (1 : Int32))) b5)) → ∃ k12 n13, k12 ≤ MC ∧ n13 ≤ MS ∧ (wp_Jx4a65c_grow_d5877 (fun r8 S9 => ∃ b10, r8 = some b10 ∧ (wb_Jx4a65c_add_7a177_38 post (MC - k12) (MS - n13) this p1 p2 (gV (sV S3 1 this 0 ((gV S3 1 this 0) + (1 : Int32))) 1 this 2) b10 S9)) k12 n13 this (sV S3 1 this 0 ((gV S3 1 this 0) + (1 : Int32))))))))) this p1 S)
set_option maxHeartbeats 4000000 in
set_option maxRecDepth 100000 in
theorem m_Jx4a65c_add_7a177 {l : Launch} {D : va_G} {y : Nat → ClassId} {z : Nat} {A : Nat → Prop} {S : bS} {post : bS → Prop} {MC MS : Nat} {this : Nat} {p1 : Int32} {p2 : Nat} (h : wp_Jx4a65c_add_7a177 post MC MS this p1 p2 S) : Met l yJx4a65c_add_7a177 wsJx4a65c_add_7a177 ({ frames := 5, cells := MC, slots := MS, locals := 147 } : Room) (va_Pc ([Value.ref this, Value.int p1, Value.ref p2] : List Value) (bP D y z S A)) (va_Qv post (fun S' t => wd D y z S' A t.heap) A) MC MS A := by
  refine Met.ofW (cc := cJx4a65c_add_7a177) (maxL := 5) (ret := none) (by decide) rfl ?_
  intro p e s m args below meth c s₁ B hml hv
  obtain ⟨rfl, hB⟩ := hv
  have hx := B.exec
  have hb := B.bytes
  have hr := B.returns
  have hts := atoms_spec (ws := wsJx4a65c_add_7a177) B.pre
  have hown : s.vm.findClass RJx4a65c = some m.cls := findClass_of_methodNamed B.named
  have hlocks := B.notSynchronized
  have hw : wd D y z S A s.heap := hB.1
  have hK : va_K D bCl (bT y) s := hB.2.1
  have hNw := hB.2.2.1
  have hAn : ∀ q : Nat, s.heap.size ≤ q → A q := hB.2.2.2.1
  have hAz : ¬ A z := hB.2.2.2.2.1
  have hO := hB.2.2.2.2.2.1
  have hS : va_S A s.heap s.heap [] := va_S.rf
  have hiJx4a65c : ∀ w ∈ u_ws RJx4a65c TJx4a65c 3, w ∈ wsJx4a65c_add_7a177 := by decide +kernel
  have hl := lv_entry ([Value.ref this, Value.int p1, Value.ref p2] : List Value) (n := 5) (Nat.le_of_ble_eq_true rfl)
  rw [lg_entry_eq]
  generalize (lg_sl ([Value.ref this, Value.int p1, Value.ref p2] : List Value) ++ List.replicate (5 - (lg_sl ([Value.ref this, Value.int p1, Value.ref p2] : List Value)).length) Slot.unset).toArray = ls at hl ⊢
  have hl : lv_has ls 5 [(0, .ref this), (1, .int p1), (2, .ref p2)] := hl
  obtain ⟨Q, hQ⟩ : ∃ Q, Q = MQ below (va_Qv post (fun S' t => wd D y z S' A t.heap) A) (([Value.ref this, Value.int p1, Value.ref p2] : List Value).toArray) s MC MS A := ⟨_, rfl⟩
  rw [← hQ]
  generalize hR : (headSpec wsJx4a65c_add_7a177 ({ frames := 5, cells := MC, slots := MS, locals := 147 } : Room)).room = R
  have hRf : 5 ≤ R.frames := by rw [← hR]; exact Nat.le_refl _
  have hRl : 147 ≤ R.locals := by rw [← hR]; exact Nat.le_refl _
  have hRc : R.cells = MC := by rw [← hR]; rfl
  have hRs : R.slots = MS := by rw [← hR]; rfl
  have hret : ∀ (S : bS) (H : Heap) (locs : List Loc) (pc : Nat) (ls : Array Slot) (cu su : Nat) , post S → wd D y z S A H → va_S A s.heap H locs → cu ≤ MC → su ≤ MS → decode cJx4a65c_add_7a177 pc = .ok (.return_, 1) → W p l e R s m (([Value.ref this, Value.int p1, Value.ref p2] : List Value).toArray) below meth c H locs cu su Q (F0 m pc ls []) := by
    intro S H locs pc ls cu su h hw hS hcu hsu d0
    rw [hQ]; refine W.widen hcu hsu ?_; exact W.vret hx hb hr (fun t ht hW => ⟨⟨S, rfl, h, by show wd D y z S A t.heap; rw [ht]; exact hw⟩, hS.F ht⟩) hS.2.2 d0 hlocks
  have hB38 : ∀ (S : bS) (H : Heap) (locs : List Loc) (ls : Array Slot) (mc ms cu su : Nat) (v0 : Nat) (v1 : Int32) (v2 : Nat) (v3 : Int32) (v4 : Nat), wb_Jx4a65c_add_7a177_38 post mc ms v0 v1 v2 v3 v4 S → wd D y z S A H → va_S A s.heap H locs → lv_has ls 5 [(0, .ref v0), (1, .int v1), (2, .ref v2), (3, .int v3), (4, .ref v4)] → cu + mc ≤ MC → su + ms ≤ MS → W p l e R s m (([Value.ref this, Value.int p1, Value.ref p2] : List Value).toArray) below meth c H locs cu su Q (F0 m 38 ls []) := by
    intro S H locs ls mc ms cu su v0 v1 v2 v3 v4 h hw hS hl hcu hsu
    unfold wb_Jx4a65c_add_7a177_38 at h
    refine lv_aload hx hb dJx4a65c_add_7a177_38 (lv_at hl 4 rfl) ?_
    refine lv_iload_n hx hb dJx4a65c_add_7a177_40 rfl (lv_at hl 1 rfl) ?_
    refine lv_aload hx hb dJx4a65c_add_7a177_41 (lv_at hl 4 rfl) ?_
    refine lv_iload_n hx hb dJx4a65c_add_7a177_43 rfl (lv_at hl 1 rfl) ?_
    refine lv_iconst (v := (1 : Int32)) hx hb dJx4a65c_add_7a177_44 (by decide) ?_
    refine lv_iadd hx hb dJx4a65c_add_7a177_45 ?_
    refine lv_iload_n hx hb dJx4a65c_add_7a177_46 rfl (lv_at hl 3 rfl) ?_
    refine lv_iload_n hx hb dJx4a65c_add_7a177_47 rfl (lv_at hl 1 rfl) ?_
    refine lv_isub hx hb dJx4a65c_add_7a177_48 ?_
    obtain ⟨hk14, h⟩ := h
    obtain ⟨hc15, h⟩ := h
    obtain ⟨he16, h⟩ := h
    refine r_copyq hx hb (by rw [hml]; exact hl.1.symm) hown (hts (.methodLink RJx4a65c 112 arraycopyName) (by decide +kernel)) (hts (.native arraycopyName) (by decide +kernel)) (hts (.static arraycopyName) (by decide +kernel)) (hts (.initialized "java/lang/System") (by decide +kernel)) hK hw hS hk14 hk14 hc15 hO he16 (Nat.le_trans (Nat.le_of_ble_eq_true rfl) hRf) (Nat.le_trans (by decide) hRl) dJx4a65c_add_7a177_49 (fun H locs hw hS => ?_)
    refine lv_aload hx hb dJx4a65c_add_7a177_52 (lv_at hl 4 rfl) ?_
    refine lv_iload_n hx hb dJx4a65c_add_7a177_54 rfl (lv_at hl 1 rfl) ?_
    refine lv_aload_n hx hb dJx4a65c_add_7a177_55 rfl (lv_at hl 2 rfl) ?_
    obtain ⟨hin17, h⟩ := h
    obtain ⟨hv18, h⟩ := h
    refine r_aast hx hb hK hO hw hS hk14 hv18 hin17 dJx4a65c_add_7a177_56 (fun H locs hw hS => ?_)
    refine lv_aload_n hx hb dJx4a65c_add_7a177_57 rfl (lv_at hl 0 rfl) ?_
    refine lv_iload_n hx hb dJx4a65c_add_7a177_58 rfl (lv_at hl 3 rfl) ?_
    refine lv_iconst (v := (1 : Int32)) hx hb dJx4a65c_add_7a177_59 (by decide) ?_
    refine lv_iadd hx hb dJx4a65c_add_7a177_60 ?_
    obtain ⟨hk19, h⟩ := h
    refine r_putI (κ := 1) (ci := 0) (C := RJx4a65c) (T := TJx4a65c) (N := 3) (ty := .int) (x := (v3 + (1 : Int32))) hx hb hts hiJx4a65c tyJx4a65c tyJx4a65c_ok nmJx4a65c hown hK hw hS (ce_1 (S := (sQ (sG S 11 v4 (va_cpy (gQ S 11 v4) (gQ S 11 v4) (Int32.toNatClampNeg v1) (Int32.toNatClampNeg (v1 + (1 : Int32))) (Int32.toNatClampNeg (v3 - v1)))) 11 v4 (Int32.toNatClampNeg v1) (some v2))) hk19) rfl 2 (by decide) (hts (.fieldLink RJx4a65c 48 "java/util/ArrayList" "size" "I") (by decide +kernel)) (fun _ h9 => h9) rfl (by decide +kernel) rfl rfl (Nat.le_of_ble_eq_true rfl) (pu_1_2 (S := (sQ (sG S 11 v4 (va_cpy (gQ S 11 v4) (gQ S 11 v4) (Int32.toNatClampNeg v1) (Int32.toNatClampNeg (v1 + (1 : Int32))) (Int32.toNatClampNeg (v3 - v1)))) 11 v4 (Int32.toNatClampNeg v1) (some v2))) hk19) dJx4a65c_add_7a177_61 (fun H locs hw hS => ?_)
    exact hret _ _ _ _ _ _ _ h hw hS (by omega) (by omega) dJx4a65c_add_7a177_64
  unfold wp_Jx4a65c_add_7a177 at h
  have hcu : 0 + MC ≤ MC := by omega
  have hsu : 0 + MS ≤ MS := by omega
  refine lv_aload_n hx hb dJx4a65c_add_7a177_0 rfl (lv_at hl 0 rfl) ?_
  refine lv_iload_n hx hb dJx4a65c_add_7a177_1 rfl (lv_at hl 1 rfl) ?_
  obtain ⟨hk1, h⟩ := h
  have h1 := h
  refine va_callv (va_runV (As := [.int p1]) (rest := []) ⟨hx, hb, hml, hown, hts⟩ (m_Jx4a65c_rangeCheckForAdd_d00df (l := l) h1) (cwV 1 hts gJx4a65c_add_7a177_Jx4a65c_rangeCheckForAdd_d00df rfl rfl rfl (by decide +kernel) ⟨Nat.le_trans (Nat.le_of_ble_eq_true rfl) hRf, Nat.le_trans (Nat.le_of_ble_eq_true rfl) hRl⟩) (r_pV hB hw hS (ce_1 (S := S) hk1) rfl) rfl rfl hl.1 rfl (lv_room (Nat.le_of_ble_eq_true rfl)) dJx4a65c_add_7a177_2 ⟨by omega, by omega⟩) hS (fun _ _ h => h) (fun _ h => h) (fun S3 t H1 locs ht _ h hw1 _ _ hS => ?_)
  subst ht
  have hw : wd D y z S3 A t.heap := hw1
  clear hw1 h1
  refine lv_aload_n hx hb dJx4a65c_add_7a177_5 rfl (lv_at hl 0 rfl) ?_
  refine lv_dup hx hb dJx4a65c_add_7a177_6 rfl ?_
  obtain ⟨hk4, h⟩ := h
  refine r_get (ci := 0) (v := .int (gV S3 1 this 0)) (C := RJx4a65c) (T := TJx4a65c) (N := 3) hx hb hts hiJx4a65c hown hK hw (ce_1 (S := S3) hk4) rfl 0 (by decide) (hts (.fieldLink RJx4a65c 63 "java/util/ArrayList" "modCount" "I") (by decide +kernel)) (u_same (hts (.sameField "java/util/ArrayList" "java/util/AbstractList" "modCount" "I") (by decide +kernel))) rfl dJx4a65c_add_7a177_7 ?_
  refine lv_iconst (v := (1 : Int32)) hx hb dJx4a65c_add_7a177_10 (by decide) ?_
  refine lv_iadd hx hb dJx4a65c_add_7a177_11 ?_
  refine r_putI (κ := 1) (ci := 0) (C := RJx4a65c) (T := TJx4a65c) (N := 3) (ty := .int) (x := ((gV S3 1 this 0) + (1 : Int32))) hx hb hts hiJx4a65c tyJx4a65c tyJx4a65c_ok nmJx4a65c hown hK hw hS (ce_1 (S := S3) hk4) rfl 0 (by decide) (hts (.fieldLink RJx4a65c 63 "java/util/ArrayList" "modCount" "I") (by decide +kernel)) (u_same (hts (.sameField "java/util/ArrayList" "java/util/AbstractList" "modCount" "I") (by decide +kernel))) rfl (by decide +kernel) rfl rfl (Nat.le_of_ble_eq_true rfl) (pu_1_0 (S := S3) hk4) dJx4a65c_add_7a177_12 (fun H locs hw hS => ?_)
  refine lv_aload_n hx hb dJx4a65c_add_7a177_15 rfl (lv_at hl 0 rfl) ?_
  refine r_get (ci := 0) (v := .int (gV (sV S3 1 this 0 ((gV S3 1 this 0) + (1 : Int32))) 1 this 2)) (C := RJx4a65c) (T := TJx4a65c) (N := 3) hx hb hts hiJx4a65c hown hK hw (ce_1 (S := (sV S3 1 this 0 ((gV S3 1 this 0) + (1 : Int32)))) hk4) rfl 2 (by decide) (hts (.fieldLink RJx4a65c 48 "java/util/ArrayList" "size" "I") (by decide +kernel)) (fun _ h9 => h9) rfl dJx4a65c_add_7a177_16 ?_
  refine lv_dup hx hb dJx4a65c_add_7a177_19 rfl ?_
  refine lv_istore_n hx hb dJx4a65c_add_7a177_20 rfl hl (by decide) rfl (fun ls hl => ?_)
  have hl : lv_has ls 5 [(3, .int (gV (sV S3 1 this 0 ((gV S3 1 this 0) + (1 : Int32))) 1 this 2)), (0, .ref this), (1, .int p1), (2, .ref p2)] := hl
  refine lv_aload_n hx hb dJx4a65c_add_7a177_21 rfl (lv_at hl 1 rfl) ?_
  obtain ⟨b5, hb6, h⟩ := h
  refine r_get (ci := 0) (v := .ref b5) (C := RJx4a65c) (T := TJx4a65c) (N := 3) hx hb hts hiJx4a65c hown hK hw (ce_1 (S := (sV S3 1 this 0 ((gV S3 1 this 0) + (1 : Int32)))) hk4) rfl 1 (by decide) (hts (.fieldLink RJx4a65c 9 "java/util/ArrayList" "elementData" "[Ljava/lang/Object;") (by decide +kernel)) (fun _ h9 => h9) (congrArg (fun q => some (va_rf q)) hb6) dJx4a65c_add_7a177_22 ?_
  refine lv_dup hx hb dJx4a65c_add_7a177_25 rfl ?_
  refine lv_astore hx hb dJx4a65c_add_7a177_26 hl (by decide) rfl (fun ls hl => ?_)
  have hl : lv_has ls 5 [(4, .ref b5), (3, .int (gV (sV S3 1 this 0 ((gV S3 1 this 0) + (1 : Int32))) 1 this 2)), (0, .ref this), (1, .int p1), (2, .ref p2)] := hl
  obtain ⟨hq7, h⟩ := h
  refine r_alenq hx hb hK hw (bTz hB) hS hq7 dJx4a65c_add_7a177_28 ?_
  refine lv_icmp_ne (tgt := 38) hx hb dJx4a65c_add_7a177_29 (by decide) (fun hc => ?_) (fun hc => ?_)
  · have h := h.1 hc
    exact hB38 _ _ _ _ _ _ _ _ _ _ _ _ _ h hw hS (lv_sub hl [2, 3, 4, 1, 0] rfl) hcu hsu
  · have h := h.2 hc
    refine lv_aload_n hx hb dJx4a65c_add_7a177_32 rfl (lv_at hl 2 rfl) ?_
    obtain ⟨k12, n13, hbg1, hbg2, h⟩ := h
    have h1 := h
    refine va_callq (va_runV (As := []) (rest := []) ⟨hx, hb, hml, hown, hts⟩ (m_Jx4a65c_grow_d5877 (l := l) h1) (cwV 0 hts gJx4a65c_add_7a177_Jx4a65c_grow_d5877 rfl rfl rfl (by decide +kernel) ⟨Nat.le_trans (Nat.le_of_ble_eq_true rfl) hRf, Nat.le_trans (Nat.le_of_ble_eq_true rfl) hRl⟩) (r_pV hB hw hS (ce_1 (S := (sV S3 1 this 0 ((gV S3 1 this 0) + (1 : Int32)))) hk4) rfl) rfl rfl hl.1 rfl (lv_room (Nat.le_of_ble_eq_true rfl)) dJx4a65c_add_7a177_33 ⟨by omega, by omega⟩) hS (fun _ _ h => h) (fun _ h => h) (fun r8 S9 t H1 locs ht _ h hw1 _ _ hS => ?_)
    subst ht
    have hw : wd D y z S9 A t.heap := hw1
    clear hw1 h1
    have hcu : (0 + k12) + (MC - k12) ≤ MC := by omega
    have hsu : (0 + n13) + (MS - n13) ≤ MS := by omega
    obtain ⟨b10, rfl, h⟩ := h
    refine W.eq (g2 := F0 m 36 ls [.ref b10]) rfl ?_
    refine lv_astore hx hb dJx4a65c_add_7a177_36 hl (by decide) rfl (fun ls hl => ?_)
    have hl : lv_has ls 5 [(4, .ref b10), (3, .int (gV (sV S3 1 this 0 ((gV S3 1 this 0) + (1 : Int32))) 1 this 2)), (0, .ref this), (1, .int p1), (2, .ref p2)] := hl
    exact hB38 _ _ _ _ _ _ _ _ _ _ _ _ _ h hw hS (lv_sub hl [2, 3, 4, 1, 0] rfl) hcu hsu
def wb_Jx4a65c_fastRemove_b59b0_34 (post : bS → Prop) (v0 : Nat) (v1 : Nat) (v3 : Int32) (S : bS) : Prop := gK S v0 = 1 ∧ (gK (sV S 1 v0 2 v3) v1 = 11 ∧ (vp_in v3 (gN (sV S 1 v0 2 v3) v1) ∧ (post (sQ (sV S 1 v0 2 v3) 11 v1 (Int32.toNatClampNeg v3) none))))
def wp_Jx4a65c_fastRemove_b59b0 (post : bS → Prop) (this : Nat) (p1 : Nat) (p2 : Int32) (S : bS) : Prop := gK S this = 1 ∧ ((((gV (sV S 1 this 0 ((gV S 1 this 0) + (1 : Int32))) 1 this 2) - (1 : Int32)) ≤ p2 → wb_Jx4a65c_fastRemove_b59b0_34 post this p1 ((gV (sV S 1 this 0 ((gV S 1 this 0) + (1 : Int32))) 1 this 2) - (1 : Int32)) (sV S 1 this 0 ((gV S 1 this 0) + (1 : Int32)))) ∧ (¬ (((gV (sV S 1 this 0 ((gV S 1 this 0) + (1 : Int32))) 1 this 2) - (1 : Int32)) ≤ p2) → gK (sV S 1 this 0 ((gV S 1 this 0) + (1 : Int32))) p1 = 11 ∧ ((¬ (p2 + (1 : Int32)) < 0 ∧ ¬ p2 < 0 ∧ ¬ (((gV (sV S 1 this 0 ((gV S 1 this 0) + (1 : Int32))) 1 this 2) - (1 : Int32)) - p2) < 0 ∧ (Int32.toNatClampNeg (p2 + (1 : Int32))) + (Int32.toNatClampNeg (((gV (sV S 1 this 0 ((gV S 1 this 0) + (1 : Int32))) 1 this 2) - (1 : Int32)) - p2)) ≤ gN (sV S 1 this 0 ((gV S 1 this 0) + (1 : Int32))) p1 ∧ (Int32.toNatClampNeg p2) + (Int32.toNatClampNeg (((gV (sV S 1 this 0 ((gV S 1 this 0) + (1 : Int32))) 1 this 2) - (1 : Int32)) - p2)) ≤ gN (sV S 1 this 0 ((gV S 1 this 0) + (1 : Int32))) p1) ∧ ((∀ i, i < (Int32.toNatClampNeg (((gV (sV S 1 this 0 ((gV S 1 this 0) + (1 : Int32))) 1 this 2) - (1 : Int32)) - p2)) → ∀ b, gQ (sV S 1 this 0 ((gV S 1 this 0) + (1 : Int32))) 11 p1 ((Int32.toNatClampNeg (p2 + (1 : Int32))) + i) = some b → 2 ≤ gK (sV S 1 this 0 ((gV S 1 this 0) + (1 : Int32))) b ∧ gK (sV S 1 this 0 ((gV S 1 this 0) + (1 : Int32))) b ≤ 6) ∧ (wb_Jx4a65c_fastRemove_b59b0_34 post this p1 ((gV (sV S 1 this 0 ((gV S 1 this 0) + (1 : Int32))) 1 this 2) - (1 : Int32)) (sG (sV S 1 this 0 ((gV S 1 this 0) + (1 : Int32))) 11 p1 (va_cpy (gQ (sV S 1 this 0 ((gV S 1 this 0) + (1 : Int32))) 11 p1) (gQ (sV S 1 this 0 ((gV S 1 this 0) + (1 : Int32))) 11 p1) (Int32.toNatClampNeg (p2 + (1 : Int32))) (Int32.toNatClampNeg p2) (Int32.toNatClampNeg (((gV (sV S 1 this 0 ((gV S 1 this 0) + (1 : Int32))) 1 this 2) - (1 : Int32)) - p2)))))))))
set_option maxHeartbeats 4000000 in
set_option maxRecDepth 100000 in
theorem m_Jx4a65c_fastRemove_b59b0 {l : Launch} {D : va_G} {y : Nat → ClassId} {z : Nat} {A : Nat → Prop} {S : bS} {post : bS → Prop} {this : Nat} {p1 : Nat} {p2 : Int32} (h : wp_Jx4a65c_fastRemove_b59b0 post this p1 p2 S) : Met l yJx4a65c_fastRemove_b59b0 wsJx4a65c_fastRemove_b59b0 ({ frames := 1, cells := 0, slots := 0, locals := 60 } : Room) (va_Pc ([Value.ref this, Value.ref p1, Value.int p2] : List Value) (bP D y z S A)) (va_Qv post (fun S' t => wd D y z S' A t.heap) A) 0 0 A := by
  refine Met.ofW (cc := cJx4a65c_fastRemove_b59b0) (maxL := 4) (ret := none) (by decide) rfl ?_
  intro p e s m args below meth c s₁ B hml hv
  obtain ⟨rfl, hB⟩ := hv
  have hx := B.exec
  have hb := B.bytes
  have hr := B.returns
  have hts := atoms_spec (ws := wsJx4a65c_fastRemove_b59b0) B.pre
  have hown : s.vm.findClass RJx4a65c = some m.cls := findClass_of_methodNamed B.named
  have hlocks := B.notSynchronized
  have hw : wd D y z S A s.heap := hB.1
  have hK : va_K D bCl (bT y) s := hB.2.1
  have hNw := hB.2.2.1
  have hAn : ∀ q : Nat, s.heap.size ≤ q → A q := hB.2.2.2.1
  have hAz : ¬ A z := hB.2.2.2.2.1
  have hO := hB.2.2.2.2.2.1
  have hS : va_S A s.heap s.heap [] := va_S.rf
  have hiJx4a65c : ∀ w ∈ u_ws RJx4a65c TJx4a65c 3, w ∈ wsJx4a65c_fastRemove_b59b0 := by decide +kernel
  have hl := lv_entry ([Value.ref this, Value.ref p1, Value.int p2] : List Value) (n := 4) (Nat.le_of_ble_eq_true rfl)
  rw [lg_entry_eq]
  generalize (lg_sl ([Value.ref this, Value.ref p1, Value.int p2] : List Value) ++ List.replicate (4 - (lg_sl ([Value.ref this, Value.ref p1, Value.int p2] : List Value)).length) Slot.unset).toArray = ls at hl ⊢
  have hl : lv_has ls 4 [(0, .ref this), (1, .ref p1), (2, .int p2)] := hl
  obtain ⟨Q, hQ⟩ : ∃ Q, Q = MQ below (va_Qv post (fun S' t => wd D y z S' A t.heap) A) (([Value.ref this, Value.ref p1, Value.int p2] : List Value).toArray) s 0 0 A := ⟨_, rfl⟩
  rw [← hQ]
  generalize hR : (headSpec wsJx4a65c_fastRemove_b59b0 ({ frames := 1, cells := 0, slots := 0, locals := 60 } : Room)).room = R
  have hRf : 1 ≤ R.frames := by rw [← hR]; exact Nat.le_refl _
  have hRl : 60 ≤ R.locals := by rw [← hR]; exact Nat.le_refl _
  have hret : ∀ (S : bS) (H : Heap) (locs : List Loc) (pc : Nat) (ls : Array Slot) , post S → wd D y z S A H → va_S A s.heap H locs → decode cJx4a65c_fastRemove_b59b0 pc = .ok (.return_, 1) → W p l e R s m (([Value.ref this, Value.ref p1, Value.int p2] : List Value).toArray) below meth c H locs 0 0 Q (F0 m pc ls []) := by
    intro S H locs pc ls h hw hS d0
    rw [hQ]; exact W.vret hx hb hr (fun t ht hW => ⟨⟨S, rfl, h, by show wd D y z S A t.heap; rw [ht]; exact hw⟩, hS.F ht⟩) hS.2.2 d0 hlocks
  have hB34 : ∀ (S : bS) (H : Heap) (locs : List Loc) (ls : Array Slot) (v0 : Nat) (v1 : Nat) (v3 : Int32), wb_Jx4a65c_fastRemove_b59b0_34 post v0 v1 v3 S → wd D y z S A H → va_S A s.heap H locs → lv_has ls 4 [(0, .ref v0), (1, .ref v1), (3, .int v3)] → W p l e R s m (([Value.ref this, Value.ref p1, Value.int p2] : List Value).toArray) below meth c H locs 0 0 Q (F0 m 34 ls []) := by
    intro S H locs ls v0 v1 v3 h hw hS hl
    unfold wb_Jx4a65c_fastRemove_b59b0_34 at h
    refine lv_aload_n hx hb dJx4a65c_fastRemove_b59b0_34 rfl (lv_at hl 1 rfl) ?_
    refine lv_aload_n hx hb dJx4a65c_fastRemove_b59b0_35 rfl (lv_at hl 0 rfl) ?_
    refine lv_iload_n hx hb dJx4a65c_fastRemove_b59b0_36 rfl (lv_at hl 2 rfl) ?_
    refine lv_dup_x1 hx hb dJx4a65c_fastRemove_b59b0_37 rfl rfl ?_
    obtain ⟨hk5, h⟩ := h
    refine r_putI (κ := 1) (ci := 0) (C := RJx4a65c) (T := TJx4a65c) (N := 3) (ty := .int) (x := v3) hx hb hts hiJx4a65c tyJx4a65c tyJx4a65c_ok nmJx4a65c hown hK hw hS (ce_1 (S := S) hk5) rfl 2 (by decide) (hts (.fieldLink RJx4a65c 48 "java/util/ArrayList" "size" "I") (by decide +kernel)) (fun _ h9 => h9) rfl (by decide +kernel) rfl rfl (Nat.le_of_ble_eq_true rfl) (pu_1_2 (S := S) hk5) dJx4a65c_fastRemove_b59b0_38 (fun H locs hw hS => ?_)
    refine lv_null hx hb dJx4a65c_fastRemove_b59b0_41 ?_
    obtain ⟨hk6, h⟩ := h
    obtain ⟨hin7, h⟩ := h
    refine r_aastN hx hb hK hw hS hk6 hin7 dJx4a65c_fastRemove_b59b0_42 (fun H locs hw hS => ?_)
    exact hret _ _ _ _ _ h hw hS dJx4a65c_fastRemove_b59b0_43
  unfold wp_Jx4a65c_fastRemove_b59b0 at h
  refine lv_aload_n hx hb dJx4a65c_fastRemove_b59b0_0 rfl (lv_at hl 0 rfl) ?_
  refine lv_dup hx hb dJx4a65c_fastRemove_b59b0_1 rfl ?_
  obtain ⟨hk1, h⟩ := h
  refine r_get (ci := 0) (v := .int (gV S 1 this 0)) (C := RJx4a65c) (T := TJx4a65c) (N := 3) hx hb hts hiJx4a65c hown hK hw (ce_1 (S := S) hk1) rfl 0 (by decide) (hts (.fieldLink RJx4a65c 63 "java/util/ArrayList" "modCount" "I") (by decide +kernel)) (u_same (hts (.sameField "java/util/ArrayList" "java/util/AbstractList" "modCount" "I") (by decide +kernel))) rfl dJx4a65c_fastRemove_b59b0_2 ?_
  refine lv_iconst (v := (1 : Int32)) hx hb dJx4a65c_fastRemove_b59b0_5 (by decide) ?_
  refine lv_iadd hx hb dJx4a65c_fastRemove_b59b0_6 ?_
  refine r_putI (κ := 1) (ci := 0) (C := RJx4a65c) (T := TJx4a65c) (N := 3) (ty := .int) (x := ((gV S 1 this 0) + (1 : Int32))) hx hb hts hiJx4a65c tyJx4a65c tyJx4a65c_ok nmJx4a65c hown hK hw hS (ce_1 (S := S) hk1) rfl 0 (by decide) (hts (.fieldLink RJx4a65c 63 "java/util/ArrayList" "modCount" "I") (by decide +kernel)) (u_same (hts (.sameField "java/util/ArrayList" "java/util/AbstractList" "modCount" "I") (by decide +kernel))) rfl (by decide +kernel) rfl rfl (Nat.le_of_ble_eq_true rfl) (pu_1_0 (S := S) hk1) dJx4a65c_fastRemove_b59b0_7 (fun H locs hw hS => ?_)
  refine lv_aload_n hx hb dJx4a65c_fastRemove_b59b0_10 rfl (lv_at hl 0 rfl) ?_
  refine r_get (ci := 0) (v := .int (gV (sV S 1 this 0 ((gV S 1 this 0) + (1 : Int32))) 1 this 2)) (C := RJx4a65c) (T := TJx4a65c) (N := 3) hx hb hts hiJx4a65c hown hK hw (ce_1 (S := (sV S 1 this 0 ((gV S 1 this 0) + (1 : Int32)))) hk1) rfl 2 (by decide) (hts (.fieldLink RJx4a65c 48 "java/util/ArrayList" "size" "I") (by decide +kernel)) (fun _ h9 => h9) rfl dJx4a65c_fastRemove_b59b0_11 ?_
  refine lv_iconst (v := (1 : Int32)) hx hb dJx4a65c_fastRemove_b59b0_14 (by decide) ?_
  refine lv_isub hx hb dJx4a65c_fastRemove_b59b0_15 ?_
  refine lv_dup hx hb dJx4a65c_fastRemove_b59b0_16 rfl ?_
  refine lv_istore_n hx hb dJx4a65c_fastRemove_b59b0_17 rfl hl (by decide) rfl (fun ls hl => ?_)
  have hl : lv_has ls 4 [(3, .int ((gV (sV S 1 this 0 ((gV S 1 this 0) + (1 : Int32))) 1 this 2) - (1 : Int32))), (0, .ref this), (1, .ref p1), (2, .int p2)] := hl
  refine lv_iload_n hx hb dJx4a65c_fastRemove_b59b0_18 rfl (lv_at hl 3 rfl) ?_
  refine lv_icmp_le (tgt := 34) hx hb dJx4a65c_fastRemove_b59b0_19 (by decide) (fun hc => ?_) (fun hc => ?_)
  · have h := h.1 hc
    exact hB34 _ _ _ _ _ _ _ h hw hS (lv_sub hl [1, 2, 0] rfl)
  · have h := h.2 hc
    refine lv_aload_n hx hb dJx4a65c_fastRemove_b59b0_22 rfl (lv_at hl 2 rfl) ?_
    refine lv_iload_n hx hb dJx4a65c_fastRemove_b59b0_23 rfl (lv_at hl 3 rfl) ?_
    refine lv_iconst (v := (1 : Int32)) hx hb dJx4a65c_fastRemove_b59b0_24 (by decide) ?_
    refine lv_iadd hx hb dJx4a65c_fastRemove_b59b0_25 ?_
    refine lv_aload_n hx hb dJx4a65c_fastRemove_b59b0_26 rfl (lv_at hl 2 rfl) ?_
    refine lv_iload_n hx hb dJx4a65c_fastRemove_b59b0_27 rfl (lv_at hl 3 rfl) ?_
    refine lv_iload_n hx hb dJx4a65c_fastRemove_b59b0_28 rfl (lv_at hl 0 rfl) ?_
    refine lv_iload_n hx hb dJx4a65c_fastRemove_b59b0_29 rfl (lv_at hl 3 rfl) ?_
    refine lv_isub hx hb dJx4a65c_fastRemove_b59b0_30 ?_
    obtain ⟨hk2, h⟩ := h
    obtain ⟨hc3, h⟩ := h
    obtain ⟨he4, h⟩ := h
    refine r_copyq hx hb (by rw [hml]; exact hl.1.symm) hown (hts (.methodLink RJx4a65c 112 arraycopyName) (by decide +kernel)) (hts (.native arraycopyName) (by decide +kernel)) (hts (.static arraycopyName) (by decide +kernel)) (hts (.initialized "java/lang/System") (by decide +kernel)) hK hw hS hk2 hk2 hc3 hO he4 (Nat.le_trans (Nat.le_of_ble_eq_true rfl) hRf) (Nat.le_trans (by decide) hRl) dJx4a65c_fastRemove_b59b0_31 (fun H locs hw hS => ?_)
    exact hB34 _ _ _ _ _ _ _ h hw hS (lv_sub hl [1, 2, 0] rfl)
def wp_Jx4a65c_remove_915e3 (post : Option Nat → bS → Prop) (this : Nat) (p1 : Int32) (S : bS) : Prop := gK S this = 1 ∧ (wp_J15_checkIndex_7cf53 (fun r2 S3 => gK S3 this = 1 ∧ (∃ b5, gQ S3 1 this 1 = some b5 ∧ (gK S3 b5 = 11 ∧ (vp_in p1 (gN S3 b5) ∧ (∃ b9, gQ S3 11 b5 (Int32.toNatClampNeg p1) = some b9 ∧ (wp_Jx4a65c_fastRemove_b59b0 (fun S12 => post (some b9) S12) this b5 p1 S3)))))) p1 (gV S 1 this 2) S)
set_option maxHeartbeats 4000000 in
set_option maxRecDepth 100000 in
theorem m_Jx4a65c_remove_915e3 {l : Launch} {D : va_G} {y : Nat → ClassId} {z : Nat} {A : Nat → Prop} {S : bS} {post : Option Nat → bS → Prop} {this : Nat} {p1 : Int32} (h : wp_Jx4a65c_remove_915e3 post this p1 S) : Met l yJx4a65c_remove_915e3 wsJx4a65c_remove_915e3 ({ frames := 2, cells := 0, slots := 0, locals := 83 } : Room) (va_Pc ([Value.ref this, Value.int p1] : List Value) (bP D y z S A)) (va_Qq post (fun S' t => wd D y z S' A t.heap) A) 0 0 A := by
  refine Met.ofW (cc := cJx4a65c_remove_915e3) (maxL := 4) (ret := (some (.object "java/lang/Object"))) (by decide) rfl ?_
  intro p e s m args below meth c s₁ B hml hv
  obtain ⟨rfl, hB⟩ := hv
  have hx := B.exec
  have hb := B.bytes
  have hr := B.returns
  have hts := atoms_spec (ws := wsJx4a65c_remove_915e3) B.pre
  have hown : s.vm.findClass RJx4a65c = some m.cls := findClass_of_methodNamed B.named
  have hlocks := B.notSynchronized
  have hw : wd D y z S A s.heap := hB.1
  have hK : va_K D bCl (bT y) s := hB.2.1
  have hNw := hB.2.2.1
  have hAn : ∀ q : Nat, s.heap.size ≤ q → A q := hB.2.2.2.1
  have hAz : ¬ A z := hB.2.2.2.2.1
  have hO := hB.2.2.2.2.2.1
  have hS : va_S A s.heap s.heap [] := va_S.rf
  have hiJx4a65c : ∀ w ∈ u_ws RJx4a65c TJx4a65c 3, w ∈ wsJx4a65c_remove_915e3 := by decide +kernel
  have hl := lv_entry ([Value.ref this, Value.int p1] : List Value) (n := 4) (Nat.le_of_ble_eq_true rfl)
  rw [lg_entry_eq]
  generalize (lg_sl ([Value.ref this, Value.int p1] : List Value) ++ List.replicate (4 - (lg_sl ([Value.ref this, Value.int p1] : List Value)).length) Slot.unset).toArray = ls at hl ⊢
  have hl : lv_has ls 4 [(0, .ref this), (1, .int p1)] := hl
  obtain ⟨Q, hQ⟩ : ∃ Q, Q = MQ below (va_Qq post (fun S' t => wd D y z S' A t.heap) A) (([Value.ref this, Value.int p1] : List Value).toArray) s 0 0 A := ⟨_, rfl⟩
  rw [← hQ]
  generalize hR : (headSpec wsJx4a65c_remove_915e3 ({ frames := 2, cells := 0, slots := 0, locals := 83 } : Room)).room = R
  have hRf : 2 ≤ R.frames := by rw [← hR]; exact Nat.le_refl _
  have hRl : 83 ≤ R.locals := by rw [← hR]; exact Nat.le_refl _
  have hret : ∀ (v : Option Nat) (S : bS) (H : Heap) (locs : List Loc) (pc : Nat) (ls : Array Slot) , post v S → wd D y z S A H → va_S A s.heap H locs → decode cJx4a65c_remove_915e3 pc = .ok (.areturn, 1) → W p l e R s m (([Value.ref this, Value.int p1] : List Value).toArray) below meth c H locs 0 0 Q (F0 m pc ls [va_rf v]) := by
    intro v S H locs pc ls h hw hS d0
    rw [hQ]; exact W.aret hx hb hr (by first | exact Or.inl ⟨_, rfl⟩ | exact Or.inr ⟨_, rfl⟩) (by cases v with | none => exact Or.inl rfl | some a => exact Or.inr ⟨a, rfl⟩) (fun t ht hW => ⟨⟨v, S, rfl, h, by show wd D y z S A t.heap; rw [ht]; exact hw⟩, hS.F ht⟩) hS.2.2 d0 hlocks
  unfold wp_Jx4a65c_remove_915e3 at h
  refine lv_iload_n hx hb dJx4a65c_remove_915e3_0 rfl (lv_at hl 1 rfl) ?_
  refine lv_aload_n hx hb dJx4a65c_remove_915e3_1 rfl (lv_at hl 0 rfl) ?_
  obtain ⟨hk1, h⟩ := h
  refine r_get (ci := 0) (v := .int (gV S 1 this 2)) (C := RJx4a65c) (T := TJx4a65c) (N := 3) hx hb hts hiJx4a65c hown hK hw (ce_1 (S := S) hk1) rfl 2 (by decide) (hts (.fieldLink RJx4a65c 48 "java/util/ArrayList" "size" "I") (by decide +kernel)) (fun _ h9 => h9) rfl dJx4a65c_remove_915e3_2 ?_
  have h1 := h
  refine va_calli (va_runS (As := [.int p1, .int (gV S 1 this 2)]) (rest := []) ⟨hx, hb, hml, hown, hts⟩ (m_J15_checkIndex_7cf53 (l := l) h1) (va_cwS 2 hts gJx4a65c_remove_915e3_J15_checkIndex_7cf53 rfl rfl rfl (by decide +kernel) ⟨Nat.le_trans (Nat.le_of_ble_eq_true rfl) hRf, Nat.le_trans (Nat.le_of_ble_eq_true rfl) hRl⟩) (r_pS hB hw hS) rfl rfl hl.1 rfl (lv_room (Nat.le_of_ble_eq_true rfl)) dJx4a65c_remove_915e3_5 ⟨Nat.zero_le _, Nat.zero_le _⟩) hS (fun _ _ h => h) (fun _ h => h) (fun r2 S3 t H1 locs ht _ h hw1 _ _ hS => ?_)
  subst ht
  have hw : wd D y z S3 A t.heap := hw1
  clear hw1 h1
  refine lv_pop hx hb dJx4a65c_remove_915e3_8 rfl ?_
  refine lv_aload_n hx hb dJx4a65c_remove_915e3_9 rfl (lv_at hl 0 rfl) ?_
  obtain ⟨hk4, h⟩ := h
  obtain ⟨b5, hb6, h⟩ := h
  refine r_get (ci := 0) (v := .ref b5) (C := RJx4a65c) (T := TJx4a65c) (N := 3) hx hb hts hiJx4a65c hown hK hw (ce_1 (S := S3) hk4) rfl 1 (by decide) (hts (.fieldLink RJx4a65c 9 "java/util/ArrayList" "elementData" "[Ljava/lang/Object;") (by decide +kernel)) (fun _ h9 => h9) (congrArg (fun q => some (va_rf q)) hb6) dJx4a65c_remove_915e3_10 ?_
  refine lv_astore_n hx hb dJx4a65c_remove_915e3_13 rfl hl (by decide) rfl (fun ls hl => ?_)
  have hl : lv_has ls 4 [(2, .ref b5), (0, .ref this), (1, .int p1)] := hl
  refine lv_aload_n hx hb dJx4a65c_remove_915e3_14 rfl (lv_at hl 0 rfl) ?_
  refine lv_iload_n hx hb dJx4a65c_remove_915e3_15 rfl (lv_at hl 2 rfl) ?_
  obtain ⟨hk7, h⟩ := h
  obtain ⟨hin8, h⟩ := h
  obtain ⟨b9, hb10, h⟩ := h
  refine r_aald hx hb hK hw hk7 hin8 dJx4a65c_remove_915e3_16 ?_
  rw [hb10]
  refine W.eq (g2 := F0 m 17 ls [.ref b9]) rfl ?_
  refine lv_astore_n hx hb dJx4a65c_remove_915e3_17 rfl hl (by decide) rfl (fun ls hl => ?_)
  have hl : lv_has ls 4 [(3, .ref b9), (2, .ref b5), (0, .ref this), (1, .int p1)] := hl
  refine lv_aload_n hx hb dJx4a65c_remove_915e3_18 rfl (lv_at hl 2 rfl) ?_
  refine lv_aload_n hx hb dJx4a65c_remove_915e3_19 rfl (lv_at hl 1 rfl) ?_
  refine lv_iload_n hx hb dJx4a65c_remove_915e3_20 rfl (lv_at hl 3 rfl) ?_
  have h1 := h
  refine va_callv (va_runV (As := [.ref b5, .int p1]) (rest := []) ⟨hx, hb, hml, hown, hts⟩ (m_Jx4a65c_fastRemove_b59b0 (l := l) h1) (cwV 2 hts gJx4a65c_remove_915e3_Jx4a65c_fastRemove_b59b0 rfl rfl rfl (by decide +kernel) ⟨Nat.le_trans (Nat.le_of_ble_eq_true rfl) hRf, Nat.le_trans (Nat.le_of_ble_eq_true rfl) hRl⟩) (r_pV hB hw hS (ce_1 (S := S3) hk4) rfl) rfl rfl hl.1 rfl (lv_room (Nat.le_of_ble_eq_true rfl)) dJx4a65c_remove_915e3_21 ⟨Nat.zero_le _, Nat.zero_le _⟩) hS (fun _ _ h => h) (fun _ h => h) (fun S12 t H1 locs ht _ h hw1 _ _ hS => ?_)
  subst ht
  have hw : wd D y z S12 A t.heap := hw1
  clear hw1 h1
  refine lv_aload_n hx hb dJx4a65c_remove_915e3_24 rfl (lv_at hl 0 rfl) ?_
  exact hret (some b9) _ _ _ _ _ h hw hS dJx4a65c_remove_915e3_25
def wb_J7_fill_53178_5 (post : bS → Prop) : Nat → Nat → Int32 → Int32 → Int32 → bS → Prop
  | 0, _, _, _, _, _ => False
  | n + 1, v0, v1, v2, v3, S => (v3 ≤ v2 → post S) ∧ (¬ (v3 ≤ v2) → gK S v0 = 9 ∧ (vp_in v2 (gN S v0) ∧ ((wb_J7_fill_53178_5 post n) v0 v1 (v2 + (1 : Int32)) v3 (sV S 9 v0 (Int32.toNatClampNeg v2) v1))))
def wp_J7_fill_53178 (post : bS → Prop) (p1 : Nat) (p2 : Int32) (S : bS) : Prop := gK S p1 = 9 ∧ (∃ n5, wb_J7_fill_53178_5 post n5 p1 p2 (0 : Int32) (Int32.ofNat (gN S p1)) S)
set_option maxHeartbeats 4000000 in
set_option maxRecDepth 100000 in
theorem m_J7_fill_53178 {l : Launch} {D : va_G} {y : Nat → ClassId} {z : Nat} {A : Nat → Prop} {S : bS} {post : bS → Prop} {p1 : Nat} {p2 : Int32} (h : wp_J7_fill_53178 post p1 p2 S) : Met l yJ7_fill_53178 wsJ7_fill_53178 ({ frames := 0, cells := 0, slots := 0, locals := 0 } : Room) (va_Pc ([Value.ref p1, Value.int p2] : List Value) (bP D y z S A)) (va_Qv post (fun S' t => wd D y z S' A t.heap) A) 0 0 A := by
  refine Met.ofW (cc := cJ7_fill_53178) (maxL := 4) (ret := none) (by decide) rfl ?_
  intro p e s m args below meth c s₁ B hml hv
  obtain ⟨rfl, hB⟩ := hv
  have hx := B.exec
  have hb := B.bytes
  have hr := B.returns
  have hts := atoms_spec (ws := wsJ7_fill_53178) B.pre
  have hown : s.vm.findClass RJ7 = some m.cls := findClass_of_methodNamed B.named
  have hlocks := B.notSynchronized
  have hw : wd D y z S A s.heap := hB.1
  have hK : va_K D bCl (bT y) s := hB.2.1
  have hNw := hB.2.2.1
  have hAn : ∀ q : Nat, s.heap.size ≤ q → A q := hB.2.2.2.1
  have hAz : ¬ A z := hB.2.2.2.2.1
  have hO := hB.2.2.2.2.2.1
  have hS : va_S A s.heap s.heap [] := va_S.rf
  have hl := lv_entry ([Value.ref p1, Value.int p2] : List Value) (n := 4) (Nat.le_of_ble_eq_true rfl)
  rw [lg_entry_eq]
  generalize (lg_sl ([Value.ref p1, Value.int p2] : List Value) ++ List.replicate (4 - (lg_sl ([Value.ref p1, Value.int p2] : List Value)).length) Slot.unset).toArray = ls at hl ⊢
  have hl : lv_has ls 4 [(0, .ref p1), (1, .int p2)] := hl
  obtain ⟨Q, hQ⟩ : ∃ Q, Q = MQ below (va_Qv post (fun S' t => wd D y z S' A t.heap) A) (([Value.ref p1, Value.int p2] : List Value).toArray) s 0 0 A := ⟨_, rfl⟩
  rw [← hQ]
  generalize hR : (headSpec wsJ7_fill_53178 ({ frames := 0, cells := 0, slots := 0, locals := 0 } : Room)).room = R
  have hRf : 0 ≤ R.frames := by rw [← hR]; exact Nat.le_refl _
  have hRl : 0 ≤ R.locals := by rw [← hR]; exact Nat.le_refl _
  have hret : ∀ (S : bS) (H : Heap) (locs : List Loc) (pc : Nat) (ls : Array Slot) , post S → wd D y z S A H → va_S A s.heap H locs → decode cJ7_fill_53178 pc = .ok (.return_, 1) → W p l e R s m (([Value.ref p1, Value.int p2] : List Value).toArray) below meth c H locs 0 0 Q (F0 m pc ls []) := by
    intro S H locs pc ls h hw hS d0
    rw [hQ]; exact W.vret hx hb hr (fun t ht hW => ⟨⟨S, rfl, h, by show wd D y z S A t.heap; rw [ht]; exact hw⟩, hS.F ht⟩) hS.2.2 d0 hlocks
  have hB5 : ∀ (n5 : Nat) (S : bS) (H : Heap) (locs : List Loc) (ls : Array Slot) (v0 : Nat) (v1 : Int32) (v2 : Int32) (v3 : Int32), wb_J7_fill_53178_5 post n5 v0 v1 v2 v3 S → wd D y z S A H → va_S A s.heap H locs → lv_has ls 4 [(0, .ref v0), (1, .int v1), (2, .int v2), (3, .int v3)] → W p l e R s m (([Value.ref p1, Value.int p2] : List Value).toArray) below meth c H locs 0 0 Q (F0 m 5 ls []) := by
    intro n5
    induction n5 with
    | zero =>
      intro S H locs ls v0 v1 v2 v3 h hw hS hl
      exact absurd h (by unfold wb_J7_fill_53178_5; exact id)
    | succ n5 ih5 =>
      intro S H locs ls v0 v1 v2 v3 h hw hS hl
      unfold wb_J7_fill_53178_5 at h
      refine lv_iload_n hx hb dJ7_fill_53178_5 rfl (lv_at hl 2 rfl) ?_
      refine lv_iload_n hx hb dJ7_fill_53178_6 rfl (lv_at hl 3 rfl) ?_
      refine lv_icmp_ge (tgt := 20) hx hb dJ7_fill_53178_7 (by decide) (fun hc => ?_) (fun hc => ?_)
      · have h := h.1 hc
        exact hret _ _ _ _ _ h hw hS dJ7_fill_53178_20
      · have h := h.2 hc
        refine lv_aload_n hx hb dJ7_fill_53178_10 rfl (lv_at hl 0 rfl) ?_
        refine lv_iload_n hx hb dJ7_fill_53178_11 rfl (lv_at hl 2 rfl) ?_
        refine lv_iload_n hx hb dJ7_fill_53178_12 rfl (lv_at hl 1 rfl) ?_
        obtain ⟨hk2, h⟩ := h
        obtain ⟨hin3, h⟩ := h
        refine r_iast hx hb hK hw hS hk2 hin3 dJ7_fill_53178_13 (fun H locs hw hS => ?_)
        refine lv_iinc (v := (v2 + (1 : Int32))) hx hb dJ7_fill_53178_14 hl (k := 2) rfl rfl (by decide) rfl (fun ls hl => ?_)
        have hl : lv_has ls 4 [(2, .int (v2 + (1 : Int32))), (0, .ref v0), (1, .int v1), (3, .int v3)] := hl
        refine lv_goto (tgt := 5) hx hb dJ7_fill_53178_17 (by decide) ?_
        exact ih5 _ _ _ _ _ _ _ _ h hw hS (lv_sub hl [1, 2, 0, 3] rfl)
  unfold wp_J7_fill_53178 at h
  refine lv_iconst (v := (0 : Int32)) hx hb dJ7_fill_53178_0 (by decide) ?_
  refine lv_istore_n hx hb dJ7_fill_53178_1 rfl hl (by decide) rfl (fun ls hl => ?_)
  have hl : lv_has ls 4 [(2, .int (0 : Int32)), (0, .ref p1), (1, .int p2)] := hl
  refine lv_aload_n hx hb dJ7_fill_53178_2 rfl (lv_at hl 1 rfl) ?_
  obtain ⟨hk1, h⟩ := h
  refine r_alen hx hb hK hw (S := S) (by rw [show gK S p1 = 9 from hk1]; decide) rfl dJ7_fill_53178_3 ?_
  refine lv_istore_n hx hb dJ7_fill_53178_4 rfl hl (by decide) rfl (fun ls hl => ?_)
  have hl : lv_has ls 4 [(3, .int (Int32.ofNat (gN S p1))), (2, .int (0 : Int32)), (0, .ref p1), (1, .int p2)] := hl
  obtain ⟨n5, h⟩ := h
  exact hB5 n5 _ _ _ _ _ _ _ _ h hw hS (lv_sub hl [2, 3, 1, 0] rfl)
def wp_Jxa1e45_init_da8c8 (post : bS → Prop) (this : Nat) (S : bS) : Prop := post S
set_option maxHeartbeats 4000000 in
set_option maxRecDepth 100000 in
theorem m_Jxa1e45_init_da8c8 {l : Launch} {D : va_G} {y : Nat → ClassId} {z : Nat} {A : Nat → Prop} {S : bS} {post : bS → Prop} {this : Nat} (h : wp_Jxa1e45_init_da8c8 post this S) : Met l yJxa1e45_init_da8c8 wsJxa1e45_init_da8c8 ({ frames := 1, cells := 0, slots := 0, locals := 20 } : Room) (va_Pc ([Value.ref this] : List Value) (bP D y z S A)) (va_Qv post (fun S' t => wd D y z S' A t.heap) A) 0 0 A := by
  refine Met.ofW (cc := cJxa1e45_init_da8c8) (maxL := 1) (ret := none) (by decide) rfl ?_
  intro p e s m args below meth c s₁ B hml hv
  obtain ⟨rfl, hB⟩ := hv
  have hx := B.exec
  have hb := B.bytes
  have hr := B.returns
  have hts := atoms_spec (ws := wsJxa1e45_init_da8c8) B.pre
  have hown : s.vm.findClass RJxa1e45 = some m.cls := findClass_of_methodNamed B.named
  have hlocks := B.notSynchronized
  have hin : meth.name = "<init>" := (name_of_methodNamed B.named B.method).1
  have hw : wd D y z S A s.heap := hB.1
  have hK : va_K D bCl (bT y) s := hB.2.1
  have hNw := hB.2.2.1
  have hAn : ∀ q : Nat, s.heap.size ≤ q → A q := hB.2.2.2.1
  have hAz : ¬ A z := hB.2.2.2.2.1
  have hO := hB.2.2.2.2.2.1
  have hS : va_S A s.heap s.heap [] := va_S.rf
  have hl := lv_entry ([Value.ref this] : List Value) (n := 1) (Nat.le_of_ble_eq_true rfl)
  rw [lg_entry_eq]
  generalize (lg_sl ([Value.ref this] : List Value) ++ List.replicate (1 - (lg_sl ([Value.ref this] : List Value)).length) Slot.unset).toArray = ls at hl ⊢
  have hl : lv_has ls 1 [(0, .ref this)] := hl
  obtain ⟨Q, hQ⟩ : ∃ Q, Q = MQ below (va_Qv post (fun S' t => wd D y z S' A t.heap) A) (([Value.ref this] : List Value).toArray) s 0 0 A := ⟨_, rfl⟩
  rw [← hQ]
  generalize hR : (headSpec wsJxa1e45_init_da8c8 ({ frames := 1, cells := 0, slots := 0, locals := 20 } : Room)).room = R
  have hRf : 1 ≤ R.frames := by rw [← hR]; exact Nat.le_refl _
  have hRl : 20 ≤ R.locals := by rw [← hR]; exact Nat.le_refl _
  have hret : ∀ (S : bS) (H : Heap) (locs : List Loc) (pc : Nat) (ls : Array Slot) , post S → wd D y z S A H → va_S A s.heap H locs → decode cJxa1e45_init_da8c8 pc = .ok (.return_, 1) → W p l e R s m (([Value.ref this] : List Value).toArray) below meth c H locs 0 0 Q (F0 m pc ls []) := by
    intro S H locs pc ls h hw hS d0
    rw [hQ]; exact W.vret hx hb hr (fun t ht hW => ⟨⟨S, rfl, h, by show wd D y z S A t.heap; rw [ht]; exact hw⟩, hS.F ht⟩) hS.2.2 d0 hlocks
  unfold wp_Jxa1e45_init_da8c8 at h
  refine lv_aload_n hx hb dJxa1e45_init_da8c8_0 rfl (lv_at hl 0 rfl) ?_
  refine W.objInit hx hb hown (hts (.methodLink RJxa1e45 1 objectInit) (by decide +kernel)) (hts (.instanceMethod objectInit) (by decide +kernel)) (hts (.code objectInit ⟨#[0xb1]⟩ 1 none) (by decide +kernel)) rfl (by rw [hml]; exact hl.1) rfl dJxa1e45_init_da8c8_1 (Nat.le_trans (Nat.le_of_ble_eq_true rfl) hRf) (Nat.le_trans (Nat.le_of_ble_eq_true rfl) hRl) ?_
  refine W.eq (g2 := F0 m 4 ls []) rfl ?_
  exact hret _ _ _ _ _ h hw hS dJxa1e45_init_da8c8_4
def wp_Jxc12de_init_da8c8 (post : bS → Prop) (this : Nat) (S : bS) : Prop := wp_Jxa1e45_init_da8c8 (fun S2 => gK S2 this = 1 ∧ (post (sV S2 1 this 0 (0 : Int32)))) this S
set_option maxHeartbeats 4000000 in
set_option maxRecDepth 100000 in
theorem m_Jxc12de_init_da8c8 {l : Launch} {D : va_G} {y : Nat → ClassId} {z : Nat} {A : Nat → Prop} {S : bS} {post : bS → Prop} {this : Nat} (h : wp_Jxc12de_init_da8c8 post this S) : Met l yJxc12de_init_da8c8 wsJxc12de_init_da8c8 ({ frames := 2, cells := 0, slots := 0, locals := 40 } : Room) (va_Pc ([Value.ref this] : List Value) (bP D y z S A)) (va_Qv post (fun S' t => wd D y z S' A t.heap) A) 0 0 A := by
  refine Met.ofW (cc := cJxc12de_init_da8c8) (maxL := 1) (ret := none) (by decide) rfl ?_
  intro p e s m args below meth c s₁ B hml hv
  obtain ⟨rfl, hB⟩ := hv
  have hx := B.exec
  have hb := B.bytes
  have hr := B.returns
  have hts := atoms_spec (ws := wsJxc12de_init_da8c8) B.pre
  have hown : s.vm.findClass RJxc12de = some m.cls := findClass_of_methodNamed B.named
  have hlocks := B.notSynchronized
  have hin : meth.name = "<init>" := (name_of_methodNamed B.named B.method).1
  have hw : wd D y z S A s.heap := hB.1
  have hK : va_K D bCl (bT y) s := hB.2.1
  have hNw := hB.2.2.1
  have hAn : ∀ q : Nat, s.heap.size ≤ q → A q := hB.2.2.2.1
  have hAz : ¬ A z := hB.2.2.2.2.1
  have hO := hB.2.2.2.2.2.1
  have hS : va_S A s.heap s.heap [] := va_S.rf
  have hiJx4a65c : ∀ w ∈ u_ws RJx4a65c TJx4a65c 3, w ∈ wsJxc12de_init_da8c8 := by decide +kernel
  have hl := lv_entry ([Value.ref this] : List Value) (n := 1) (Nat.le_of_ble_eq_true rfl)
  rw [lg_entry_eq]
  generalize (lg_sl ([Value.ref this] : List Value) ++ List.replicate (1 - (lg_sl ([Value.ref this] : List Value)).length) Slot.unset).toArray = ls at hl ⊢
  have hl : lv_has ls 1 [(0, .ref this)] := hl
  obtain ⟨Q, hQ⟩ : ∃ Q, Q = MQ below (va_Qv post (fun S' t => wd D y z S' A t.heap) A) (([Value.ref this] : List Value).toArray) s 0 0 A := ⟨_, rfl⟩
  rw [← hQ]
  generalize hR : (headSpec wsJxc12de_init_da8c8 ({ frames := 2, cells := 0, slots := 0, locals := 40 } : Room)).room = R
  have hRf : 2 ≤ R.frames := by rw [← hR]; exact Nat.le_refl _
  have hRl : 40 ≤ R.locals := by rw [← hR]; exact Nat.le_refl _
  have hret : ∀ (S : bS) (H : Heap) (locs : List Loc) (pc : Nat) (ls : Array Slot) , post S → wd D y z S A H → va_S A s.heap H locs → decode cJxc12de_init_da8c8 pc = .ok (.return_, 1) → W p l e R s m (([Value.ref this] : List Value).toArray) below meth c H locs 0 0 Q (F0 m pc ls []) := by
    intro S H locs pc ls h hw hS d0
    rw [hQ]; exact W.vret hx hb hr (fun t ht hW => ⟨⟨S, rfl, h, by show wd D y z S A t.heap; rw [ht]; exact hw⟩, hS.F ht⟩) hS.2.2 d0 hlocks
  unfold wp_Jxc12de_init_da8c8 at h
  refine lv_aload_n hx hb dJxc12de_init_da8c8_0 rfl (lv_at hl 0 rfl) ?_
  have h1 := h
  refine va_callv (va_runI (As := []) (rest := []) ⟨hx, hb, hml, hown, hts⟩ (m_Jxa1e45_init_da8c8 (l := l) h1) (cwI 0 hts gJxc12de_init_da8c8_Jxa1e45_init_da8c8 rfl rfl rfl (hts (.initialized RJxa1e45) (by decide +kernel)) (hts (.methodLink RJxc12de 1 yJxa1e45_init_da8c8) (by decide +kernel)) (hts (.instanceMethod yJxa1e45_init_da8c8) (by decide +kernel)) rfl (by decide +kernel) ⟨Nat.le_trans (Nat.le_of_ble_eq_true rfl) hRf, Nat.le_trans (Nat.le_of_ble_eq_true rfl) hRl⟩) (r_pS hB hw hS) rfl rfl hl.1 rfl (lv_room (Nat.le_of_ble_eq_true rfl)) dJxc12de_init_da8c8_1 ⟨Nat.zero_le _, Nat.zero_le _⟩) hS (fun _ _ h => h) (fun _ h => h) (fun S2 t H1 locs ht _ h hw1 _ _ hS => ?_)
  subst ht
  have hw : wd D y z S2 A t.heap := hw1
  clear hw1 h1
  refine lv_aload_n hx hb dJxc12de_init_da8c8_4 rfl (lv_at hl 0 rfl) ?_
  refine lv_iconst (v := (0 : Int32)) hx hb dJxc12de_init_da8c8_5 (by decide) ?_
  obtain ⟨hk3, h⟩ := h
  refine r_putI (κ := 1) (ci := 0) (C := RJx4a65c) (T := TJx4a65c) (N := 3) (ty := .int) (x := (0 : Int32)) hx hb hts hiJx4a65c tyJx4a65c tyJx4a65c_ok nmJx4a65c hown hK hw hS (ce_1 (S := S2) hk3) rfl 0 (by decide) (hts (.fieldLink RJxc12de 7 "java/util/AbstractList" "modCount" "I") (by decide +kernel)) (fun _ h9 => h9) rfl (by decide +kernel) rfl rfl (Nat.le_of_ble_eq_true rfl) (pu_1_0 (S := S2) hk3) dJxc12de_init_da8c8_6 (fun H locs hw hS => ?_)
  exact hret _ _ _ _ _ h hw hS dJxc12de_init_da8c8_9
def wp_Jx4a65c_init_da8c8 (post : bS → Prop) (this : Nat) (S : bS) : Prop := wp_Jxc12de_init_da8c8 (fun S2 => (∀ z, gK S2 z = 14 → (gK S2 this = 1 ∧ (post (sQ S2 1 this 1 (some z)))))) this S
set_option maxHeartbeats 4000000 in
set_option maxRecDepth 100000 in
theorem m_Jx4a65c_init_da8c8 {l : Launch} {D : va_G} {y : Nat → ClassId} {z : Nat} {A : Nat → Prop} {S : bS} {post : bS → Prop} {this : Nat} (h : wp_Jx4a65c_init_da8c8 post this S) : Met l yJx4a65c_init_da8c8 wsJx4a65c_init_da8c8 ({ frames := 3, cells := 0, slots := 0, locals := 60 } : Room) (va_Pc ([Value.ref this] : List Value) (bP D y z S A)) (va_Qv post (fun S' t => wd D y z S' A t.heap) A) 0 0 A := by
  refine Met.ofW (cc := cJx4a65c_init_da8c8) (maxL := 1) (ret := none) (by decide) rfl ?_
  intro p e s m args below meth c s₁ B hml hv
  obtain ⟨rfl, hB⟩ := hv
  have hx := B.exec
  have hb := B.bytes
  have hr := B.returns
  have hts := atoms_spec (ws := wsJx4a65c_init_da8c8) B.pre
  have hown : s.vm.findClass RJx4a65c = some m.cls := findClass_of_methodNamed B.named
  have hlocks := B.notSynchronized
  have hin : meth.name = "<init>" := (name_of_methodNamed B.named B.method).1
  have hw : wd D y z S A s.heap := hB.1
  have hK : va_K D bCl (bT y) s := hB.2.1
  have hNw := hB.2.2.1
  have hAn : ∀ q : Nat, s.heap.size ≤ q → A q := hB.2.2.2.1
  have hAz : ¬ A z := hB.2.2.2.2.1
  have hO := hB.2.2.2.2.2.1
  have hS : va_S A s.heap s.heap [] := va_S.rf
  have hiJx4a65c : ∀ w ∈ u_ws RJx4a65c TJx4a65c 3, w ∈ wsJx4a65c_init_da8c8 := by decide +kernel
  have hl := lv_entry ([Value.ref this] : List Value) (n := 1) (Nat.le_of_ble_eq_true rfl)
  rw [lg_entry_eq]
  generalize (lg_sl ([Value.ref this] : List Value) ++ List.replicate (1 - (lg_sl ([Value.ref this] : List Value)).length) Slot.unset).toArray = ls at hl ⊢
  have hl : lv_has ls 1 [(0, .ref this)] := hl
  obtain ⟨Q, hQ⟩ : ∃ Q, Q = MQ below (va_Qv post (fun S' t => wd D y z S' A t.heap) A) (([Value.ref this] : List Value).toArray) s 0 0 A := ⟨_, rfl⟩
  rw [← hQ]
  generalize hR : (headSpec wsJx4a65c_init_da8c8 ({ frames := 3, cells := 0, slots := 0, locals := 60 } : Room)).room = R
  have hRf : 3 ≤ R.frames := by rw [← hR]; exact Nat.le_refl _
  have hRl : 60 ≤ R.locals := by rw [← hR]; exact Nat.le_refl _
  have hret : ∀ (S : bS) (H : Heap) (locs : List Loc) (pc : Nat) (ls : Array Slot) , post S → wd D y z S A H → va_S A s.heap H locs → decode cJx4a65c_init_da8c8 pc = .ok (.return_, 1) → W p l e R s m (([Value.ref this] : List Value).toArray) below meth c H locs 0 0 Q (F0 m pc ls []) := by
    intro S H locs pc ls h hw hS d0
    rw [hQ]; exact W.vret hx hb hr (fun t ht hW => ⟨⟨S, rfl, h, by show wd D y z S A t.heap; rw [ht]; exact hw⟩, hS.F ht⟩) hS.2.2 d0 hlocks
  unfold wp_Jx4a65c_init_da8c8 at h
  refine lv_aload_n hx hb dJx4a65c_init_da8c8_0 rfl (lv_at hl 0 rfl) ?_
  have h1 := h
  refine va_callv (va_runI (As := []) (rest := []) ⟨hx, hb, hml, hown, hts⟩ (m_Jxc12de_init_da8c8 (l := l) h1) (cwI 0 hts gJx4a65c_init_da8c8_Jxc12de_init_da8c8 rfl rfl rfl (hts (.initialized RJxc12de) (by decide +kernel)) (hts (.methodLink RJx4a65c 1 yJxc12de_init_da8c8) (by decide +kernel)) (hts (.instanceMethod yJxc12de_init_da8c8) (by decide +kernel)) rfl (by decide +kernel) ⟨Nat.le_trans (Nat.le_of_ble_eq_true rfl) hRf, Nat.le_trans (Nat.le_of_ble_eq_true rfl) hRl⟩) (r_pS hB hw hS) rfl rfl hl.1 rfl (lv_room (Nat.le_of_ble_eq_true rfl)) dJx4a65c_init_da8c8_1 ⟨Nat.zero_le _, Nat.zero_le _⟩) hS (fun _ _ h => h) (fun _ h => h) (fun S2 t H1 locs ht _ h hw1 _ _ hS => ?_)
  subst ht
  have hw : wd D y z S2 A t.heap := hw1
  clear hw1 h1
  refine lv_aload_n hx hb dJx4a65c_init_da8c8_4 rfl (lv_at hl 0 rfl) ?_
  have h := h z hw.kz
  refine va_gets (v := .ref z) hx hb (bZ hB) hS hown (hts (.fieldLink RJx4a65c 39 "java/util/ArrayList" "DEFAULTCAPACITY_EMPTY_ELEMENTDATA" "[Ljava/lang/Object;") (by decide +kernel)) (fun _ h9 => h9) dJx4a65c_init_da8c8_5 ?_
  obtain ⟨hk3, h⟩ := h
  refine r_putQ (κ := 1) (ci := 0) (C := RJx4a65c) (T := TJx4a65c) (N := 3) (ty := (tyJx4a65c 1)) (x := (some z)) hx hb hts hiJx4a65c tyJx4a65c tyJx4a65c_ok nmJx4a65c hown hK hw hS (ce_1 (S := S2) hk3) rfl 1 (by decide) (hts (.fieldLink RJx4a65c 9 "java/util/ArrayList" "elementData" "[Ljava/lang/Object;") (by decide +kernel)) (fun _ h9 => h9) rfl (by decide +kernel) rfl rfl (Nat.le_of_ble_eq_true rfl) (pu_1_1 (S := S2) hk3) dJx4a65c_init_da8c8_8 (fun H locs hw hS => ?_)
  exact hret _ _ _ _ _ h hw hS dJx4a65c_init_da8c8_11
