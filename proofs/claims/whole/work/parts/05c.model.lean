def wb_X6_counted_111 (post : Int32 → bS → Prop) (rec85 : Nat → Int32 → Int32 → bS → Prop) (v0 : Nat) (v3 : Int32) (s0 : Int32) (s1 : Int32) (S : bS) : Prop := rec85 v0 (s1 + s0) (v3 + (1 : Int32)) S
def wb_X6_counted_85 (post : Int32 → bS → Prop) : Nat → Nat → Int32 → Int32 → bS → Prop
  | 0, _, _, _, _ => False
  | n + 1, v0, v2, v3, S => gK S v0 = 8 ∧ (((gV S 8 v0 3) ≤ v3 → post v2 S) ∧ (¬ ((gV S 8 v0 3) ≤ v3) → wp_X6_firstIn (fun r10 S11 => gK S11 v0 = 8 ∧ (wp_X6_isDue (fun r13 S14 => (r13 = (0 : Int32) → wb_X6_counted_111 post (wb_X6_counted_85 post n) v0 v3 (0 : Int32) v2 S14) ∧ (¬ (r13 = (0 : Int32)) → wb_X6_counted_111 post (wb_X6_counted_85 post n) v0 v3 (1 : Int32) v2 S14)) v0 r10 S11)) v0 v3 S))
def wp_X6_counted (post : Int32 → bS → Prop) (this : Nat) (p1 : Int32) (S : bS) : Prop := (p1 = (0 : Int32) → gK S this = 8 ∧ (post (gV S 8 this 1) S)) ∧ (p1 = (1 : Int32) → gK S this = 8 ∧ (post (gV S 8 this 2) S)) ∧ (p1 = (2 : Int32) → gK S this = 8 ∧ (post (gV S 8 this 3) S)) ∧ (p1 = (3 : Int32) → gK S this = 8 ∧ (post (gV S 8 this 4) S)) ∧ (p1 = (4 : Int32) → gK S this = 8 ∧ (post (gV S 8 this 5) S)) ∧ (p1 = (5 : Int32) → gK S this = 8 ∧ (post (gV S 8 this 14) S)) ∧ (p1 = (6 : Int32) → gK S this = 8 ∧ (post (gV S 8 this 6) S)) ∧ (p1 = (7 : Int32) → ∃ n85, wb_X6_counted_85 post n85 this (0 : Int32) (0 : Int32) S) ∧ (¬ p1 = (0 : Int32) → ¬ p1 = (1 : Int32) → ¬ p1 = (2 : Int32) → ¬ p1 = (3 : Int32) → ¬ p1 = (4 : Int32) → ¬ p1 = (5 : Int32) → ¬ p1 = (6 : Int32) → ¬ p1 = (7 : Int32) → gK S this = 8 ∧ (post (gV S 8 this 7) S))
set_option maxHeartbeats 4000000 in
set_option maxRecDepth 100000 in
theorem m_X6_counted {l : Launch} {D : va_G} {y : Nat → ClassId} {z : Nat} {A : Nat → Prop} {S : bS} {post : Int32 → bS → Prop} {this : Nat} {p1 : Int32} (h : wp_X6_counted post this p1 S) : Met l yX6_counted wsX6_counted ({ frames := 2, cells := 0, slots := 0, locals := 46 } : Room) (va_Pc ([Value.ref this, Value.int p1] : List Value) (bP D y z S A)) (va_Qi post (fun S' t => wd D y z S' A t.heap) A) 0 0 A := by
  refine Met.ofW (cc := cX6_counted) (maxL := 4) (ret := (some .int)) (by decide) rfl ?_
  intro p e s m args below meth c s₁ B hml hv
  obtain ⟨rfl, hB⟩ := hv
  have hx := B.exec
  have hb := B.bytes
  have hr := B.returns
  have hts := atoms_spec (ws := wsX6_counted) B.pre
  have hown : s.vm.findClass RX6 = some m.cls := findClass_of_methodNamed B.named
  have hlocks := B.notSynchronized
  have hw : wd D y z S A s.heap := hB.1
  have hK : va_K D bCl (bT y) s := hB.2.1
  have hNw := hB.2.2.1
  have hAn : ∀ q : Nat, s.heap.size ≤ q → A q := hB.2.2.2.1
  have hAz : ¬ A z := hB.2.2.2.2.1
  have hO := hB.2.2.2.2.2.1
  have hS : va_S A s.heap s.heap [] := va_S.rf
  have hiX6 : ∀ w ∈ u_ws RX6 TX6 17, w ∈ wsX6_counted := by decide +kernel
  have hl := lv_entry ([Value.ref this, Value.int p1] : List Value) (n := 4) (Nat.le_of_ble_eq_true rfl)
  rw [lg_entry_eq]
  generalize (lg_sl ([Value.ref this, Value.int p1] : List Value) ++ List.replicate (4 - (lg_sl ([Value.ref this, Value.int p1] : List Value)).length) Slot.unset).toArray = ls at hl ⊢
  have hl : lv_has ls 4 [(0, .ref this), (1, .int p1)] := hl
  obtain ⟨Q, hQ⟩ : ∃ Q, Q = MQ below (va_Qi post (fun S' t => wd D y z S' A t.heap) A) (([Value.ref this, Value.int p1] : List Value).toArray) s 0 0 A := ⟨_, rfl⟩
  rw [← hQ]
  generalize hR : (headSpec wsX6_counted ({ frames := 2, cells := 0, slots := 0, locals := 46 } : Room)).room = R
  have hRf : 2 ≤ R.frames := by rw [← hR]; exact Nat.le_refl _
  have hRl : 46 ≤ R.locals := by rw [← hR]; exact Nat.le_refl _
  have hret : ∀ (v : Int32) (S : bS) (H : Heap) (locs : List Loc) (pc : Nat) (ls : Array Slot) , post v S → wd D y z S A H → va_S A s.heap H locs → decode cX6_counted pc = .ok (.ireturn, 1) → W p l e R s m (([Value.ref this, Value.int p1] : List Value).toArray) below meth c H locs 0 0 Q (F0 m pc ls [.int v]) := by
    intro v S H locs pc ls h hw hS d0
    rw [hQ]; exact W.iret hx hb hr (fun t ht hW => ⟨⟨v, S, rfl, h, by show wd D y z S A t.heap; rw [ht]; exact hw⟩, hS.F ht⟩) hS.2.2 d0 hlocks
  have hB85 : ∀ (n85 : Nat) (S : bS) (H : Heap) (locs : List Loc) (ls : Array Slot) (v0 : Nat) (v2 : Int32) (v3 : Int32), wb_X6_counted_85 post n85 v0 v2 v3 S → wd D y z S A H → va_S A s.heap H locs → lv_has ls 4 [(0, .ref v0), (2, .int v2), (3, .int v3)] → W p l e R s m (([Value.ref this, Value.int p1] : List Value).toArray) below meth c H locs 0 0 Q (F0 m 85 ls []) := by
    intro n85
    induction n85 with
    | zero =>
      intro S H locs ls v0 v2 v3 h hw hS hl
      exact absurd h (by unfold wb_X6_counted_85; exact id)
    | succ n85 ih85 =>
      have hB111 : ∀ (S : bS) (H : Heap) (locs : List Loc) (ls : Array Slot) (v0 : Nat) (v3 : Int32) (s0 : Int32) (s1 : Int32), wb_X6_counted_111 post (wb_X6_counted_85 post n85) v0 v3 s0 s1 S → wd D y z S A H → va_S A s.heap H locs → lv_has ls 4 [(0, .ref v0), (3, .int v3)] → W p l e R s m (([Value.ref this, Value.int p1] : List Value).toArray) below meth c H locs 0 0 Q (F0 m 111 ls [.int s0, .int s1]) := by
        intro S H locs ls v0 v3 s0 s1 h hw hS hl
        unfold wb_X6_counted_111 at h
        refine lv_iadd hx hb dX6_counted_111 ?_
        refine lv_istore_n hx hb dX6_counted_112 rfl hl (by decide) rfl (fun ls hl => ?_)
        have hl : lv_has ls 4 [(2, .int (s1 + s0)), (0, .ref v0), (3, .int v3)] := hl
        refine lv_iinc (v := (v3 + (1 : Int32))) hx hb dX6_counted_113 hl (k := 2) rfl rfl (by decide) rfl (fun ls hl => ?_)
        have hl : lv_has ls 4 [(3, .int (v3 + (1 : Int32))), (2, .int (s1 + s0)), (0, .ref v0)] := hl
        refine lv_goto (tgt := 85) hx hb dX6_counted_116 (by decide) ?_
        exact ih85 _ _ _ _ _ _ _ h hw hS (lv_sub hl [2, 1, 0] rfl)
      intro S H locs ls v0 v2 v3 h hw hS hl
      unfold wb_X6_counted_85 at h
      refine lv_iload_n hx hb dX6_counted_85 rfl (lv_at hl 2 rfl) ?_
      refine lv_aload_n hx hb dX6_counted_86 rfl (lv_at hl 0 rfl) ?_
      obtain ⟨hk9, h⟩ := h
      refine r_get (ci := 7) (v := .int (gV S 8 v0 3)) (C := RX6) (T := TX6) (N := 17) hx hb hts hiX6 hown hK hw (ce_8 (S := S) hk9) rfl 3 (by decide) (hts (.fieldLink RX6 42 "TubePostModel" "tubes" "I") (by decide +kernel)) (fun _ h9 => h9) rfl dX6_counted_87 ?_
      refine lv_icmp_ge (tgt := 119) hx hb dX6_counted_90 (by decide) (fun hc => ?_) (fun hc => ?_)
      · have h := h.1 hc
        refine lv_iload_n hx hb dX6_counted_119 rfl (lv_at hl 1 rfl) ?_
        exact hret v2 _ _ _ _ _ h hw hS dX6_counted_120
      · have h := h.2 hc
        refine lv_iload_n hx hb dX6_counted_93 rfl (lv_at hl 1 rfl) ?_
        refine lv_aload_n hx hb dX6_counted_94 rfl (lv_at hl 0 rfl) ?_
        refine lv_aload_n hx hb dX6_counted_95 rfl (lv_at hl 0 rfl) ?_
        refine lv_iload_n hx hb dX6_counted_96 rfl (lv_at hl 2 rfl) ?_
        have h1 := h
        refine va_calli (va_runV (As := [.int v3]) (rest := [.ref v0, .int v2]) ⟨hx, hb, hml, hown, hts⟩ (m_X6_firstIn (l := l) h1) (cwV 1 hts gX6_counted_X6_firstIn rfl rfl rfl (by decide +kernel) ⟨Nat.le_trans (Nat.le_of_ble_eq_true rfl) hRf, Nat.le_trans (Nat.le_of_ble_eq_true rfl) hRl⟩) (r_pV hB hw hS (ce_8 (S := S) hk9) rfl) rfl rfl hl.1 rfl (lv_room (Nat.le_of_ble_eq_true rfl)) dX6_counted_97 ⟨Nat.zero_le _, Nat.zero_le _⟩) hS (fun _ _ h => h) (fun _ h => h) (fun r10 S11 t H1 locs ht _ h hw1 _ _ hS => ?_)
        subst ht
        have hw : wd D y z S11 A t.heap := hw1
        clear hw1 h1
        obtain ⟨hk12, h⟩ := h
        have h1 := h
        refine va_calli (va_runV (As := [.int r10]) (rest := [.int v2]) ⟨hx, hb, hml, hown, hts⟩ (m_X6_isDue (l := l) h1) (cwV 1 hts gX6_counted_X6_isDue rfl rfl rfl (by decide +kernel) ⟨Nat.le_trans (Nat.le_of_ble_eq_true rfl) hRf, Nat.le_trans (Nat.le_of_ble_eq_true rfl) hRl⟩) (r_pV hB hw hS (ce_8 (S := S11) hk12) rfl) rfl rfl hl.1 rfl (lv_room (Nat.le_of_ble_eq_true rfl)) dX6_counted_100 ⟨Nat.zero_le _, Nat.zero_le _⟩) hS (fun _ _ h => h) (fun _ h => h) (fun r13 S14 t H1 locs ht _ h hw1 _ _ hS => ?_)
        subst ht
        have hw : wd D y z S14 A t.heap := hw1
        clear hw1 h1
        refine lv_if_eq (tgt := 110) hx hb dX6_counted_103 (by decide) (fun hc => ?_) (fun hc => ?_)
        · have h := h.1 hc
          refine lv_iconst (v := (0 : Int32)) hx hb dX6_counted_110 (by decide) ?_
          exact hB111 _ _ _ _ _ _ _ _ h hw hS (lv_sub hl [0, 2] rfl)
        · have h := h.2 hc
          refine lv_iconst (v := (1 : Int32)) hx hb dX6_counted_106 (by decide) ?_
          refine lv_goto (tgt := 111) hx hb dX6_counted_107 (by decide) ?_
          exact hB111 _ _ _ _ _ _ _ _ h hw hS (lv_sub hl [0, 2] rfl)
  unfold wp_X6_counted at h
  refine lv_iconst (v := (0 : Int32)) hx hb dX6_counted_0 (by decide) ?_
  refine lv_istore_n hx hb dX6_counted_1 rfl hl (by decide) rfl (fun ls hl => ?_)
  have hl : lv_has ls 4 [(2, .int (0 : Int32)), (0, .ref this), (1, .int p1)] := hl
  refine lv_iload_n hx hb dX6_counted_2 rfl (lv_at hl 2 rfl) ?_
  by_cases hq0 : p1 = (0 : Int32)
  · have h := h.1 hq0
    refine lv_tableIn (off := 45) (tgt := 48) hx hb dX6_counted_3 (by rw [hq0]; decide) (by rw [hq0]; decide) (by rw [hq0]; decide) (by decide) ?_
    refine lv_aload_n hx hb dX6_counted_48 rfl (lv_at hl 1 rfl) ?_
    obtain ⟨hk1, h⟩ := h
    refine r_get (ci := 7) (v := .int (gV S 8 this 1)) (C := RX6) (T := TX6) (N := 17) hx hb hts hiX6 hown hK hw (ce_8 (S := S) hk1) rfl 1 (by decide) (hts (.fieldLink RX6 69 "TubePostModel" "tick" "I") (by decide +kernel)) (fun _ h9 => h9) rfl dX6_counted_49 ?_
    exact hret (gV S 8 this 1) _ _ _ _ _ h hw hS dX6_counted_52
  by_cases hq1 : p1 = (1 : Int32)
  · have h := h.2.1 hq1
    refine lv_tableIn (off := 50) (tgt := 53) hx hb dX6_counted_3 (by rw [hq1]; decide) (by rw [hq1]; decide) (by rw [hq1]; decide) (by decide) ?_
    refine lv_aload_n hx hb dX6_counted_53 rfl (lv_at hl 1 rfl) ?_
    obtain ⟨hk2, h⟩ := h
    refine r_get (ci := 7) (v := .int (gV S 8 this 2)) (C := RX6) (T := TX6) (N := 17) hx hb hts hiX6 hown hK hw (ce_8 (S := S) hk2) rfl 2 (by decide) (hts (.fieldLink RX6 35 "TubePostModel" "stations" "I") (by decide +kernel)) (fun _ h9 => h9) rfl dX6_counted_54 ?_
    exact hret (gV S 8 this 2) _ _ _ _ _ h hw hS dX6_counted_57
  by_cases hq2 : p1 = (2 : Int32)
  · have h := h.2.2.1 hq2
    refine lv_tableIn (off := 55) (tgt := 58) hx hb dX6_counted_3 (by rw [hq2]; decide) (by rw [hq2]; decide) (by rw [hq2]; decide) (by decide) ?_
    refine lv_aload_n hx hb dX6_counted_58 rfl (lv_at hl 1 rfl) ?_
    obtain ⟨hk3, h⟩ := h
    refine r_get (ci := 7) (v := .int (gV S 8 this 3)) (C := RX6) (T := TX6) (N := 17) hx hb hts hiX6 hown hK hw (ce_8 (S := S) hk3) rfl 3 (by decide) (hts (.fieldLink RX6 42 "TubePostModel" "tubes" "I") (by decide +kernel)) (fun _ h9 => h9) rfl dX6_counted_59 ?_
    exact hret (gV S 8 this 3) _ _ _ _ _ h hw hS dX6_counted_62
  by_cases hq3 : p1 = (3 : Int32)
  · have h := h.2.2.2.1 hq3
    refine lv_tableIn (off := 60) (tgt := 63) hx hb dX6_counted_3 (by rw [hq3]; decide) (by rw [hq3]; decide) (by rw [hq3]; decide) (by decide) ?_
    refine lv_aload_n hx hb dX6_counted_63 rfl (lv_at hl 1 rfl) ?_
    obtain ⟨hk4, h⟩ := h
    refine r_get (ci := 7) (v := .int (gV S 8 this 4)) (C := RX6) (T := TX6) (N := 17) hx hb hts hiX6 hown hK hw (ce_8 (S := S) hk4) rfl 4 (by decide) (hts (.fieldLink RX6 73 "TubePostModel" "entries" "I") (by decide +kernel)) (fun _ h9 => h9) rfl dX6_counted_64 ?_
    exact hret (gV S 8 this 4) _ _ _ _ _ h hw hS dX6_counted_67
  by_cases hq4 : p1 = (4 : Int32)
  · have h := h.2.2.2.2.1 hq4
    refine lv_tableIn (off := 65) (tgt := 68) hx hb dX6_counted_3 (by rw [hq4]; decide) (by rw [hq4]; decide) (by rw [hq4]; decide) (by decide) ?_
    refine lv_aload_n hx hb dX6_counted_68 rfl (lv_at hl 1 rfl) ?_
    obtain ⟨hk5, h⟩ := h
    refine r_get (ci := 7) (v := .int (gV S 8 this 5)) (C := RX6) (T := TX6) (N := 17) hx hb hts hiX6 hown hK hw (ce_8 (S := S) hk5) rfl 5 (by decide) (hts (.fieldLink RX6 92 "TubePostModel" "sent" "I") (by decide +kernel)) (fun _ h9 => h9) rfl dX6_counted_69 ?_
    exact hret (gV S 8 this 5) _ _ _ _ _ h hw hS dX6_counted_72
  by_cases hq5 : p1 = (5 : Int32)
  · have h := h.2.2.2.2.2.1 hq5
    refine lv_tableIn (off := 70) (tgt := 73) hx hb dX6_counted_3 (by rw [hq5]; decide) (by rw [hq5]; decide) (by rw [hq5]; decide) (by decide) ?_
    refine lv_aload_n hx hb dX6_counted_73 rfl (lv_at hl 1 rfl) ?_
    obtain ⟨hk6, h⟩ := h
    refine r_get (ci := 7) (v := .int (gV S 8 this 14)) (C := RX6) (T := TX6) (N := 17) hx hb hts hiX6 hown hK hw (ce_8 (S := S) hk6) rfl 14 (by decide) (hts (.fieldLink RX6 76 "TubePostModel" "actives" "I") (by decide +kernel)) (fun _ h9 => h9) rfl dX6_counted_74 ?_
    exact hret (gV S 8 this 14) _ _ _ _ _ h hw hS dX6_counted_77
  by_cases hq6 : p1 = (6 : Int32)
  · have h := h.2.2.2.2.2.2.1 hq6
    refine lv_tableIn (off := 75) (tgt := 78) hx hb dX6_counted_3 (by rw [hq6]; decide) (by rw [hq6]; decide) (by rw [hq6]; decide) (by decide) ?_
    refine lv_aload_n hx hb dX6_counted_78 rfl (lv_at hl 1 rfl) ?_
    obtain ⟨hk7, h⟩ := h
    refine r_get (ci := 7) (v := .int (gV S 8 this 6)) (C := RX6) (T := TX6) (N := 17) hx hb hts hiX6 hown hK hw (ce_8 (S := S) hk7) rfl 6 (by decide) (hts (.fieldLink RX6 114 "TubePostModel" "delivered" "I") (by decide +kernel)) (fun _ h9 => h9) rfl dX6_counted_79 ?_
    exact hret (gV S 8 this 6) _ _ _ _ _ h hw hS dX6_counted_82
  by_cases hq7 : p1 = (7 : Int32)
  · have h := h.2.2.2.2.2.2.2.1 hq7
    refine lv_tableIn (off := 80) (tgt := 83) hx hb dX6_counted_3 (by rw [hq7]; decide) (by rw [hq7]; decide) (by rw [hq7]; decide) (by decide) ?_
    refine lv_iconst (v := (0 : Int32)) hx hb dX6_counted_83 (by decide) ?_
    refine lv_istore_n hx hb dX6_counted_84 rfl hl (by decide) rfl (fun ls hl => ?_)
    have hl : lv_has ls 4 [(3, .int (0 : Int32)), (2, .int (0 : Int32)), (0, .ref this), (1, .int p1)] := hl
    obtain ⟨n85, h⟩ := h
    exact hB85 n85 _ _ _ _ _ _ _ h hw hS (lv_sub hl [2, 1, 0] rfl)
  have h := h.2.2.2.2.2.2.2.2 hq0 hq1 hq2 hq3 hq4 hq5 hq6 hq7
  have ht0 : Int32.toInt p1 ≠ (0 : Int) := fun q => hq0 (b_ti q rfl)
  have ht1 : Int32.toInt p1 ≠ (1 : Int) := fun q => hq1 (b_ti q rfl)
  have ht2 : Int32.toInt p1 ≠ (2 : Int) := fun q => hq2 (b_ti q rfl)
  have ht3 : Int32.toInt p1 ≠ (3 : Int) := fun q => hq3 (b_ti q rfl)
  have ht4 : Int32.toInt p1 ≠ (4 : Int) := fun q => hq4 (b_ti q rfl)
  have ht5 : Int32.toInt p1 ≠ (5 : Int) := fun q => hq5 (b_ti q rfl)
  have ht6 : Int32.toInt p1 ≠ (6 : Int) := fun q => hq6 (b_ti q rfl)
  have ht7 : Int32.toInt p1 ≠ (7 : Int) := fun q => hq7 (b_ti q rfl)
  refine lv_tableOut (tgt := 121) hx hb dX6_counted_3 (by omega) (by decide) ?_
  refine lv_aload_n hx hb dX6_counted_121 rfl (lv_at hl 1 rfl) ?_
  obtain ⟨hk8, h⟩ := h
  refine r_get (ci := 7) (v := .int (gV S 8 this 7)) (C := RX6) (T := TX6) (N := 17) hx hb hts hiX6 hown hK hw (ce_8 (S := S) hk8) rfl 7 (by decide) (hts (.fieldLink RX6 117 "TubePostModel" "all" "I") (by decide +kernel)) (fun _ h9 => h9) rfl dX6_counted_122 ?_
  exact hret (gV S 8 this 7) _ _ _ _ _ h hw hS dX6_counted_125
def wb_X6_count_28 (post : Int32 → bS → Prop) (s0 : Int32) (S : bS) : Prop := post s0 S
def wp_X6_count (post : Int32 → bS → Prop) (this : Nat) (p1 : Int32) (S : bS) : Prop := gK S this = 8 ∧ (wp_X6_isIn (fun r2 S3 => (r2 = (0 : Int32) → gK S3 this = 8 ∧ (wp_X6_fail (fun r5 S6 => wb_X6_count_28 post r5 S6) this (1 : Int32) S3)) ∧ (¬ (r2 = (0 : Int32)) → gK S3 this = 8 ∧ (wp_X6_counted (fun r8 S9 => wb_X6_count_28 post r8 S9) this p1 S3))) p1 (0 : Int32) (8 : Int32) (sV S 8 this 0 (0 : Int32)))
set_option maxHeartbeats 4000000 in
set_option maxRecDepth 100000 in
theorem m_X6_count {l : Launch} {D : va_G} {y : Nat → ClassId} {z : Nat} {A : Nat → Prop} {S : bS} {post : Int32 → bS → Prop} {this : Nat} {p1 : Int32} (h : wp_X6_count post this p1 S) : Met l yX6_count wsX6_count ({ frames := 3, cells := 0, slots := 0, locals := 69 } : Room) (va_Pc ([Value.ref this, Value.int p1] : List Value) (bP D y z S A)) (va_Qi post (fun S' t => wd D y z S' A t.heap) A) 0 0 A := by
  refine Met.ofW (cc := cX6_count) (maxL := 2) (ret := (some .int)) (by decide) rfl ?_
  intro p e s m args below meth c s₁ B hml hv
  obtain ⟨rfl, hB⟩ := hv
  have hx := B.exec
  have hb := B.bytes
  have hr := B.returns
  have hts := atoms_spec (ws := wsX6_count) B.pre
  have hown : s.vm.findClass RX6 = some m.cls := findClass_of_methodNamed B.named
  have hlocks := B.notSynchronized
  have hw : wd D y z S A s.heap := hB.1
  have hK : va_K D bCl (bT y) s := hB.2.1
  have hNw := hB.2.2.1
  have hAn : ∀ q : Nat, s.heap.size ≤ q → A q := hB.2.2.2.1
  have hAz : ¬ A z := hB.2.2.2.2.1
  have hO := hB.2.2.2.2.2.1
  have hS : va_S A s.heap s.heap [] := va_S.rf
  have hiX6 : ∀ w ∈ u_ws RX6 TX6 17, w ∈ wsX6_count := by decide +kernel
  have hl := lv_entry ([Value.ref this, Value.int p1] : List Value) (n := 2) (Nat.le_of_ble_eq_true rfl)
  rw [lg_entry_eq]
  generalize (lg_sl ([Value.ref this, Value.int p1] : List Value) ++ List.replicate (2 - (lg_sl ([Value.ref this, Value.int p1] : List Value)).length) Slot.unset).toArray = ls at hl ⊢
  have hl : lv_has ls 2 [(0, .ref this), (1, .int p1)] := hl
  obtain ⟨Q, hQ⟩ : ∃ Q, Q = MQ below (va_Qi post (fun S' t => wd D y z S' A t.heap) A) (([Value.ref this, Value.int p1] : List Value).toArray) s 0 0 A := ⟨_, rfl⟩
  rw [← hQ]
  generalize hR : (headSpec wsX6_count ({ frames := 3, cells := 0, slots := 0, locals := 69 } : Room)).room = R
  have hRf : 3 ≤ R.frames := by rw [← hR]; exact Nat.le_refl _
  have hRl : 69 ≤ R.locals := by rw [← hR]; exact Nat.le_refl _
  have hret : ∀ (v : Int32) (S : bS) (H : Heap) (locs : List Loc) (pc : Nat) (ls : Array Slot) , post v S → wd D y z S A H → va_S A s.heap H locs → decode cX6_count pc = .ok (.ireturn, 1) → W p l e R s m (([Value.ref this, Value.int p1] : List Value).toArray) below meth c H locs 0 0 Q (F0 m pc ls [.int v]) := by
    intro v S H locs pc ls h hw hS d0
    rw [hQ]; exact W.iret hx hb hr (fun t ht hW => ⟨⟨v, S, rfl, h, by show wd D y z S A t.heap; rw [ht]; exact hw⟩, hS.F ht⟩) hS.2.2 d0 hlocks
  have hB28 : ∀ (S : bS) (H : Heap) (locs : List Loc) (ls : Array Slot) (s0 : Int32), wb_X6_count_28 post s0 S → wd D y z S A H → va_S A s.heap H locs → lv_has ls 2 [] → W p l e R s m (([Value.ref this, Value.int p1] : List Value).toArray) below meth c H locs 0 0 Q (F0 m 28 ls [.int s0]) := by
    intro S H locs ls s0 h hw hS hl
    unfold wb_X6_count_28 at h
    exact hret s0 _ _ _ _ _ h hw hS dX6_count_28
  unfold wp_X6_count at h
  refine lv_aload_n hx hb dX6_count_0 rfl (lv_at hl 0 rfl) ?_
  refine lv_iconst (v := (0 : Int32)) hx hb dX6_count_1 (by decide) ?_
  obtain ⟨hk1, h⟩ := h
  refine r_putI (κ := 8) (ci := 7) (C := RX6) (T := TX6) (N := 17) (ty := .int) (x := (0 : Int32)) hx hb hts hiX6 tyX6 tyX6_ok nmX6 hown hK hw hS (ce_8 (S := S) hk1) rfl 0 (by decide) (hts (.fieldLink RX6 31 "TubePostModel" "thrown" "I") (by decide +kernel)) (fun _ h9 => h9) rfl (by decide +kernel) rfl rfl (Nat.le_of_ble_eq_true rfl) (pu_8_0 (S := S) hk1) dX6_count_2 (fun H locs hw hS => ?_)
  refine lv_iload_n hx hb dX6_count_5 rfl (lv_at hl 1 rfl) ?_
  refine lv_iconst (v := (0 : Int32)) hx hb dX6_count_6 (by decide) ?_
  refine lv_bipush (v := (8 : Int32)) hx hb dX6_count_7 (by decide) ?_
  have h1 := h
  refine va_calli (va_runS (As := [.int p1, .int (0 : Int32), .int (8 : Int32)]) (rest := []) ⟨hx, hb, hml, hown, hts⟩ (m_X6_isIn (l := l) h1) (cwS 3 hts gX6_count_X6_isIn rfl rfl rfl (by decide +kernel) ⟨Nat.le_trans (Nat.le_of_ble_eq_true rfl) hRf, Nat.le_trans (Nat.le_of_ble_eq_true rfl) hRl⟩) (r_pS hB hw hS) rfl rfl hl.1 rfl (lv_room (Nat.le_of_ble_eq_true rfl)) dX6_count_9 ⟨Nat.zero_le _, Nat.zero_le _⟩) hS (fun _ _ h => h) (fun _ h => h) (fun r2 S3 t H1 locs ht _ h hw1 _ _ hS => ?_)
  subst ht
  have hw : wd D y z S3 A t.heap := hw1
  clear hw1 h1
  refine lv_if_eq (tgt := 23) hx hb dX6_count_12 (by decide) (fun hc => ?_) (fun hc => ?_)
  · have h := h.1 hc
    refine lv_aload_n hx hb dX6_count_23 rfl (lv_at hl 0 rfl) ?_
    refine lv_iconst (v := (1 : Int32)) hx hb dX6_count_24 (by decide) ?_
    obtain ⟨hk4, h⟩ := h
    have h1 := h
    refine va_calli (va_runV (As := [.int (1 : Int32)]) (rest := []) ⟨hx, hb, hml, hown, hts⟩ (m_X6_fail (l := l) h1) (cwV 1 hts gX6_count_X6_fail rfl rfl rfl (by decide +kernel) ⟨Nat.le_trans (Nat.le_of_ble_eq_true rfl) hRf, Nat.le_trans (Nat.le_of_ble_eq_true rfl) hRl⟩) (r_pV hB hw hS (ce_8 (S := S3) hk4) rfl) rfl rfl hl.1 rfl (lv_room (Nat.le_of_ble_eq_true rfl)) dX6_count_25 ⟨Nat.zero_le _, Nat.zero_le _⟩) hS (fun _ _ h => h) (fun _ h => h) (fun r5 S6 t H1 locs ht _ h hw1 _ _ hS => ?_)
    subst ht
    have hw : wd D y z S6 A t.heap := hw1
    clear hw1 h1
    exact hB28 _ _ _ _ _ h hw hS (lv_sub hl [] rfl)
  · have h := h.2 hc
    refine lv_aload_n hx hb dX6_count_15 rfl (lv_at hl 0 rfl) ?_
    refine lv_iload_n hx hb dX6_count_16 rfl (lv_at hl 1 rfl) ?_
    obtain ⟨hk7, h⟩ := h
    have h1 := h
    refine va_calli (va_runV (As := [.int p1]) (rest := []) ⟨hx, hb, hml, hown, hts⟩ (m_X6_counted (l := l) h1) (cwV 1 hts gX6_count_X6_counted rfl rfl rfl (by decide +kernel) ⟨Nat.le_trans (Nat.le_of_ble_eq_true rfl) hRf, Nat.le_trans (Nat.le_of_ble_eq_true rfl) hRl⟩) (r_pV hB hw hS (ce_8 (S := S3) hk7) rfl) rfl rfl hl.1 rfl (lv_room (Nat.le_of_ble_eq_true rfl)) dX6_count_17 ⟨Nat.zero_le _, Nat.zero_le _⟩) hS (fun _ _ h => h) (fun _ h => h) (fun r8 S9 t H1 locs ht _ h hw1 _ _ hS => ?_)
    subst ht
    have hw : wd D y z S9 A t.heap := hw1
    clear hw1 h1
    refine lv_goto (tgt := 28) hx hb dX6_count_20 (by decide) ?_
    exact hB28 _ _ _ _ _ h hw hS (lv_sub hl [] rfl)
def wb_X6_stationTold_34 (post : Int32 → bS → Prop) (s0 : Int32) (S : bS) : Prop := post s0 S
def wp_X6_stationTold (post : Int32 → bS → Prop) (this : Nat) (p1 : Int32) (p2 : Int32) (S : bS) : Prop := ((4 : Int32) ≤ p2 → (p2 ≠ (4 : Int32) → gK S this = 8 ∧ (wp_X6_st (fun r2 S3 => wb_X6_stationTold_34 post r2 S3) this p1 (4 : Int32) S)) ∧ (p2 = (4 : Int32) → gK S this = 8 ∧ (wp_X6_manyAt (fun r5 S6 => wb_X6_stationTold_34 post r5 S6) this (1 : Int32) p1 S))) ∧ (¬ ((4 : Int32) ≤ p2) → gK S this = 8 ∧ (wp_X6_st (fun r8 S9 => wb_X6_stationTold_34 post r8 S9) this p1 p2 S))
set_option maxHeartbeats 4000000 in
set_option maxRecDepth 100000 in
theorem m_X6_stationTold {l : Launch} {D : va_G} {y : Nat → ClassId} {z : Nat} {A : Nat → Prop} {S : bS} {post : Int32 → bS → Prop} {this : Nat} {p1 : Int32} {p2 : Int32} (h : wp_X6_stationTold post this p1 p2 S) : Met l yX6_stationTold wsX6_stationTold ({ frames := 2, cells := 0, slots := 0, locals := 46 } : Room) (va_Pc ([Value.ref this, Value.int p1, Value.int p2] : List Value) (bP D y z S A)) (va_Qi post (fun S' t => wd D y z S' A t.heap) A) 0 0 A := by
  refine Met.ofW (cc := cX6_stationTold) (maxL := 3) (ret := (some .int)) (by decide) rfl ?_
  intro p e s m args below meth c s₁ B hml hv
  obtain ⟨rfl, hB⟩ := hv
  have hx := B.exec
  have hb := B.bytes
  have hr := B.returns
  have hts := atoms_spec (ws := wsX6_stationTold) B.pre
  have hown : s.vm.findClass RX6 = some m.cls := findClass_of_methodNamed B.named
  have hlocks := B.notSynchronized
  have hw : wd D y z S A s.heap := hB.1
  have hK : va_K D bCl (bT y) s := hB.2.1
  have hNw := hB.2.2.1
  have hAn : ∀ q : Nat, s.heap.size ≤ q → A q := hB.2.2.2.1
  have hAz : ¬ A z := hB.2.2.2.2.1
  have hO := hB.2.2.2.2.2.1
  have hS : va_S A s.heap s.heap [] := va_S.rf
  have hl := lv_entry ([Value.ref this, Value.int p1, Value.int p2] : List Value) (n := 3) (Nat.le_of_ble_eq_true rfl)
  rw [lg_entry_eq]
  generalize (lg_sl ([Value.ref this, Value.int p1, Value.int p2] : List Value) ++ List.replicate (3 - (lg_sl ([Value.ref this, Value.int p1, Value.int p2] : List Value)).length) Slot.unset).toArray = ls at hl ⊢
  have hl : lv_has ls 3 [(0, .ref this), (1, .int p1), (2, .int p2)] := hl
  obtain ⟨Q, hQ⟩ : ∃ Q, Q = MQ below (va_Qi post (fun S' t => wd D y z S' A t.heap) A) (([Value.ref this, Value.int p1, Value.int p2] : List Value).toArray) s 0 0 A := ⟨_, rfl⟩
  rw [← hQ]
  generalize hR : (headSpec wsX6_stationTold ({ frames := 2, cells := 0, slots := 0, locals := 46 } : Room)).room = R
  have hRf : 2 ≤ R.frames := by rw [← hR]; exact Nat.le_refl _
  have hRl : 46 ≤ R.locals := by rw [← hR]; exact Nat.le_refl _
  have hret : ∀ (v : Int32) (S : bS) (H : Heap) (locs : List Loc) (pc : Nat) (ls : Array Slot) , post v S → wd D y z S A H → va_S A s.heap H locs → decode cX6_stationTold pc = .ok (.ireturn, 1) → W p l e R s m (([Value.ref this, Value.int p1, Value.int p2] : List Value).toArray) below meth c H locs 0 0 Q (F0 m pc ls [.int v]) := by
    intro v S H locs pc ls h hw hS d0
    rw [hQ]; exact W.iret hx hb hr (fun t ht hW => ⟨⟨v, S, rfl, h, by show wd D y z S A t.heap; rw [ht]; exact hw⟩, hS.F ht⟩) hS.2.2 d0 hlocks
  have hB34 : ∀ (S : bS) (H : Heap) (locs : List Loc) (ls : Array Slot) (s0 : Int32), wb_X6_stationTold_34 post s0 S → wd D y z S A H → va_S A s.heap H locs → lv_has ls 3 [] → W p l e R s m (([Value.ref this, Value.int p1, Value.int p2] : List Value).toArray) below meth c H locs 0 0 Q (F0 m 34 ls [.int s0]) := by
    intro S H locs ls s0 h hw hS hl
    unfold wb_X6_stationTold_34 at h
    exact hret s0 _ _ _ _ _ h hw hS dX6_stationTold_34
  unfold wp_X6_stationTold at h
  refine lv_iload_n hx hb dX6_stationTold_0 rfl (lv_at hl 2 rfl) ?_
  refine lv_iconst (v := (4 : Int32)) hx hb dX6_stationTold_1 (by decide) ?_
  refine lv_icmp_ge (tgt := 14) hx hb dX6_stationTold_2 (by decide) (fun hc => ?_) (fun hc => ?_)
  · have h := h.1 hc
    refine lv_iload_n hx hb dX6_stationTold_14 rfl (lv_at hl 2 rfl) ?_
    refine lv_iconst (v := (4 : Int32)) hx hb dX6_stationTold_15 (by decide) ?_
    refine lv_icmp_ne (tgt := 28) hx hb dX6_stationTold_16 (by decide) (fun hc => ?_) (fun hc => ?_)
    · have h := h.1 hc
      refine lv_aload_n hx hb dX6_stationTold_28 rfl (lv_at hl 0 rfl) ?_
      refine lv_iload_n hx hb dX6_stationTold_29 rfl (lv_at hl 1 rfl) ?_
      refine lv_iconst (v := (4 : Int32)) hx hb dX6_stationTold_30 (by decide) ?_
      obtain ⟨hk1, h⟩ := h
      have h1 := h
      refine va_calli (va_runV (As := [.int p1, .int (4 : Int32)]) (rest := []) ⟨hx, hb, hml, hown, hts⟩ (m_X6_st (l := l) h1) (cwV 2 hts gX6_stationTold_X6_st rfl rfl rfl (by decide +kernel) ⟨Nat.le_trans (Nat.le_of_ble_eq_true rfl) hRf, Nat.le_trans (Nat.le_of_ble_eq_true rfl) hRl⟩) (r_pV hB hw hS (ce_8 (S := S) hk1) rfl) rfl rfl hl.1 rfl (lv_room (Nat.le_of_ble_eq_true rfl)) dX6_stationTold_31 ⟨Nat.zero_le _, Nat.zero_le _⟩) hS (fun _ _ h => h) (fun _ h => h) (fun r2 S3 t H1 locs ht _ h hw1 _ _ hS => ?_)
      subst ht
      have hw : wd D y z S3 A t.heap := hw1
      clear hw1 h1
      exact hB34 _ _ _ _ _ h hw hS (lv_sub hl [] rfl)
    · have h := h.2 hc
      refine lv_aload_n hx hb dX6_stationTold_19 rfl (lv_at hl 0 rfl) ?_
      refine lv_iconst (v := (1 : Int32)) hx hb dX6_stationTold_20 (by decide) ?_
      refine lv_iload_n hx hb dX6_stationTold_21 rfl (lv_at hl 1 rfl) ?_
      obtain ⟨hk4, h⟩ := h
      have h1 := h
      refine va_calli (va_runV (As := [.int (1 : Int32), .int p1]) (rest := []) ⟨hx, hb, hml, hown, hts⟩ (m_X6_manyAt (l := l) h1) (cwV 2 hts gX6_stationTold_X6_manyAt rfl rfl rfl (by decide +kernel) ⟨Nat.le_trans (Nat.le_of_ble_eq_true rfl) hRf, Nat.le_trans (Nat.le_of_ble_eq_true rfl) hRl⟩) (r_pV hB hw hS (ce_8 (S := S) hk4) rfl) rfl rfl hl.1 rfl (lv_room (Nat.le_of_ble_eq_true rfl)) dX6_stationTold_22 ⟨Nat.zero_le _, Nat.zero_le _⟩) hS (fun _ _ h => h) (fun _ h => h) (fun r5 S6 t H1 locs ht _ h hw1 _ _ hS => ?_)
      subst ht
      have hw : wd D y z S6 A t.heap := hw1
      clear hw1 h1
      refine lv_goto (tgt := 34) hx hb dX6_stationTold_25 (by decide) ?_
      exact hB34 _ _ _ _ _ h hw hS (lv_sub hl [] rfl)
  · have h := h.2 hc
    refine lv_aload_n hx hb dX6_stationTold_5 rfl (lv_at hl 0 rfl) ?_
    refine lv_iload_n hx hb dX6_stationTold_6 rfl (lv_at hl 1 rfl) ?_
    refine lv_iload_n hx hb dX6_stationTold_7 rfl (lv_at hl 2 rfl) ?_
    obtain ⟨hk7, h⟩ := h
    have h1 := h
    refine va_calli (va_runV (As := [.int p1, .int p2]) (rest := []) ⟨hx, hb, hml, hown, hts⟩ (m_X6_st (l := l) h1) (cwV 2 hts gX6_stationTold_X6_st rfl rfl rfl (by decide +kernel) ⟨Nat.le_trans (Nat.le_of_ble_eq_true rfl) hRf, Nat.le_trans (Nat.le_of_ble_eq_true rfl) hRl⟩) (r_pV hB hw hS (ce_8 (S := S) hk7) rfl) rfl rfl hl.1 rfl (lv_room (Nat.le_of_ble_eq_true rfl)) dX6_stationTold_8 ⟨Nat.zero_le _, Nat.zero_le _⟩) hS (fun _ _ h => h) (fun _ h => h) (fun r8 S9 t H1 locs ht _ h hw1 _ _ hS => ?_)
    subst ht
    have hw : wd D y z S9 A t.heap := hw1
    clear hw1 h1
    refine lv_goto (tgt := 34) hx hb dX6_stationTold_11 (by decide) ?_
    exact hB34 _ _ _ _ _ h hw hS (lv_sub hl [] rfl)
def wb_X6_station_36 (post : Int32 → bS → Prop) (s0 : Int32) (S : bS) : Prop := post s0 S
def wb_X6_station_31 (post : Int32 → bS → Prop) (v0 : Nat) (S : bS) : Prop := gK S v0 = 8 ∧ (wp_X6_fail (fun r10 S11 => wb_X6_station_36 post r10 S11) v0 (1 : Int32) S)
def wp_X6_station (post : Int32 → bS → Prop) (this : Nat) (p1 : Int32) (p2 : Int32) (S : bS) : Prop := gK S this = 8 ∧ (wp_X6_isStation (fun r2 S3 => (r2 = (0 : Int32) → wb_X6_station_31 post this S3) ∧ (¬ (r2 = (0 : Int32)) → wp_X6_isIn (fun r4 S5 => (r4 = (0 : Int32) → wb_X6_station_31 post this S5) ∧ (¬ (r4 = (0 : Int32)) → gK S5 this = 8 ∧ (wp_X6_stationTold (fun r7 S8 => wb_X6_station_36 post r7 S8) this p1 p2 S5))) p2 (0 : Int32) (5 : Int32) S3)) this p1 (sV S 8 this 0 (0 : Int32)))
set_option maxHeartbeats 4000000 in
set_option maxRecDepth 100000 in
theorem m_X6_station {l : Launch} {D : va_G} {y : Nat → ClassId} {z : Nat} {A : Nat → Prop} {S : bS} {post : Int32 → bS → Prop} {this : Nat} {p1 : Int32} {p2 : Int32} (h : wp_X6_station post this p1 p2 S) : Met l yX6_station wsX6_station ({ frames := 3, cells := 0, slots := 0, locals := 68 } : Room) (va_Pc ([Value.ref this, Value.int p1, Value.int p2] : List Value) (bP D y z S A)) (va_Qi post (fun S' t => wd D y z S' A t.heap) A) 0 0 A := by
  refine Met.ofW (cc := cX6_station) (maxL := 3) (ret := (some .int)) (by decide) rfl ?_
  intro p e s m args below meth c s₁ B hml hv
  obtain ⟨rfl, hB⟩ := hv
  have hx := B.exec
  have hb := B.bytes
  have hr := B.returns
  have hts := atoms_spec (ws := wsX6_station) B.pre
  have hown : s.vm.findClass RX6 = some m.cls := findClass_of_methodNamed B.named
  have hlocks := B.notSynchronized
  have hw : wd D y z S A s.heap := hB.1
  have hK : va_K D bCl (bT y) s := hB.2.1
  have hNw := hB.2.2.1
  have hAn : ∀ q : Nat, s.heap.size ≤ q → A q := hB.2.2.2.1
  have hAz : ¬ A z := hB.2.2.2.2.1
  have hO := hB.2.2.2.2.2.1
  have hS : va_S A s.heap s.heap [] := va_S.rf
  have hiX6 : ∀ w ∈ u_ws RX6 TX6 17, w ∈ wsX6_station := by decide +kernel
  have hl := lv_entry ([Value.ref this, Value.int p1, Value.int p2] : List Value) (n := 3) (Nat.le_of_ble_eq_true rfl)
  rw [lg_entry_eq]
  generalize (lg_sl ([Value.ref this, Value.int p1, Value.int p2] : List Value) ++ List.replicate (3 - (lg_sl ([Value.ref this, Value.int p1, Value.int p2] : List Value)).length) Slot.unset).toArray = ls at hl ⊢
  have hl : lv_has ls 3 [(0, .ref this), (1, .int p1), (2, .int p2)] := hl
  obtain ⟨Q, hQ⟩ : ∃ Q, Q = MQ below (va_Qi post (fun S' t => wd D y z S' A t.heap) A) (([Value.ref this, Value.int p1, Value.int p2] : List Value).toArray) s 0 0 A := ⟨_, rfl⟩
  rw [← hQ]
  generalize hR : (headSpec wsX6_station ({ frames := 3, cells := 0, slots := 0, locals := 68 } : Room)).room = R
  have hRf : 3 ≤ R.frames := by rw [← hR]; exact Nat.le_refl _
  have hRl : 68 ≤ R.locals := by rw [← hR]; exact Nat.le_refl _
  have hret : ∀ (v : Int32) (S : bS) (H : Heap) (locs : List Loc) (pc : Nat) (ls : Array Slot) , post v S → wd D y z S A H → va_S A s.heap H locs → decode cX6_station pc = .ok (.ireturn, 1) → W p l e R s m (([Value.ref this, Value.int p1, Value.int p2] : List Value).toArray) below meth c H locs 0 0 Q (F0 m pc ls [.int v]) := by
    intro v S H locs pc ls h hw hS d0
    rw [hQ]; exact W.iret hx hb hr (fun t ht hW => ⟨⟨v, S, rfl, h, by show wd D y z S A t.heap; rw [ht]; exact hw⟩, hS.F ht⟩) hS.2.2 d0 hlocks
  have hB36 : ∀ (S : bS) (H : Heap) (locs : List Loc) (ls : Array Slot) (s0 : Int32), wb_X6_station_36 post s0 S → wd D y z S A H → va_S A s.heap H locs → lv_has ls 3 [] → W p l e R s m (([Value.ref this, Value.int p1, Value.int p2] : List Value).toArray) below meth c H locs 0 0 Q (F0 m 36 ls [.int s0]) := by
    intro S H locs ls s0 h hw hS hl
    unfold wb_X6_station_36 at h
    exact hret s0 _ _ _ _ _ h hw hS dX6_station_36
  have hB31 : ∀ (S : bS) (H : Heap) (locs : List Loc) (ls : Array Slot) (v0 : Nat), wb_X6_station_31 post v0 S → wd D y z S A H → va_S A s.heap H locs → lv_has ls 3 [(0, .ref v0)] → W p l e R s m (([Value.ref this, Value.int p1, Value.int p2] : List Value).toArray) below meth c H locs 0 0 Q (F0 m 31 ls []) := by
    intro S H locs ls v0 h hw hS hl
    unfold wb_X6_station_31 at h
    refine lv_aload_n hx hb dX6_station_31 rfl (lv_at hl 0 rfl) ?_
    refine lv_iconst (v := (1 : Int32)) hx hb dX6_station_32 (by decide) ?_
    obtain ⟨hk9, h⟩ := h
    have h1 := h
    refine va_calli (va_runV (As := [.int (1 : Int32)]) (rest := []) ⟨hx, hb, hml, hown, hts⟩ (m_X6_fail (l := l) h1) (cwV 1 hts gX6_station_X6_fail rfl rfl rfl (by decide +kernel) ⟨Nat.le_trans (Nat.le_of_ble_eq_true rfl) hRf, Nat.le_trans (Nat.le_of_ble_eq_true rfl) hRl⟩) (r_pV hB hw hS (ce_8 (S := S) hk9) rfl) rfl rfl hl.1 rfl (lv_room (Nat.le_of_ble_eq_true rfl)) dX6_station_33 ⟨Nat.zero_le _, Nat.zero_le _⟩) hS (fun _ _ h => h) (fun _ h => h) (fun r10 S11 t H1 locs ht _ h hw1 _ _ hS => ?_)
    subst ht
    have hw : wd D y z S11 A t.heap := hw1
    clear hw1 h1
    exact hB36 _ _ _ _ _ h hw hS (lv_sub hl [] rfl)
  unfold wp_X6_station at h
  refine lv_aload_n hx hb dX6_station_0 rfl (lv_at hl 0 rfl) ?_
  refine lv_iconst (v := (0 : Int32)) hx hb dX6_station_1 (by decide) ?_
  obtain ⟨hk1, h⟩ := h
  refine r_putI (κ := 8) (ci := 7) (C := RX6) (T := TX6) (N := 17) (ty := .int) (x := (0 : Int32)) hx hb hts hiX6 tyX6 tyX6_ok nmX6 hown hK hw hS (ce_8 (S := S) hk1) rfl 0 (by decide) (hts (.fieldLink RX6 31 "TubePostModel" "thrown" "I") (by decide +kernel)) (fun _ h9 => h9) rfl (by decide +kernel) rfl rfl (Nat.le_of_ble_eq_true rfl) (pu_8_0 (S := S) hk1) dX6_station_2 (fun H locs hw hS => ?_)
  refine lv_aload_n hx hb dX6_station_5 rfl (lv_at hl 0 rfl) ?_
  refine lv_iload_n hx hb dX6_station_6 rfl (lv_at hl 1 rfl) ?_
  have h1 := h
  refine va_calli (va_runV (As := [.int p1]) (rest := []) ⟨hx, hb, hml, hown, hts⟩ (m_X6_isStation (l := l) h1) (cwV 1 hts gX6_station_X6_isStation rfl rfl rfl (by decide +kernel) ⟨Nat.le_trans (Nat.le_of_ble_eq_true rfl) hRf, Nat.le_trans (Nat.le_of_ble_eq_true rfl) hRl⟩) (r_pV hB hw hS (ce_8 (S := (sV S 8 this 0 (0 : Int32))) hk1) rfl) rfl rfl hl.1 rfl (lv_room (Nat.le_of_ble_eq_true rfl)) dX6_station_7 ⟨Nat.zero_le _, Nat.zero_le _⟩) hS (fun _ _ h => h) (fun _ h => h) (fun r2 S3 t H1 locs ht _ h hw1 _ _ hS => ?_)
  subst ht
  have hw : wd D y z S3 A t.heap := hw1
  clear hw1 h1
  refine lv_if_eq (tgt := 31) hx hb dX6_station_10 (by decide) (fun hc => ?_) (fun hc => ?_)
  · have h := h.1 hc
    exact hB31 _ _ _ _ _ h hw hS (lv_sub hl [0] rfl)
  · have h := h.2 hc
    refine lv_iload_n hx hb dX6_station_13 rfl (lv_at hl 2 rfl) ?_
    refine lv_iconst (v := (0 : Int32)) hx hb dX6_station_14 (by decide) ?_
    refine lv_iconst (v := (5 : Int32)) hx hb dX6_station_15 (by decide) ?_
    have h1 := h
    refine va_calli (va_runS (As := [.int p2, .int (0 : Int32), .int (5 : Int32)]) (rest := []) ⟨hx, hb, hml, hown, hts⟩ (m_X6_isIn (l := l) h1) (cwS 3 hts gX6_station_X6_isIn rfl rfl rfl (by decide +kernel) ⟨Nat.le_trans (Nat.le_of_ble_eq_true rfl) hRf, Nat.le_trans (Nat.le_of_ble_eq_true rfl) hRl⟩) (r_pS hB hw hS) rfl rfl hl.1 rfl (lv_room (Nat.le_of_ble_eq_true rfl)) dX6_station_16 ⟨Nat.zero_le _, Nat.zero_le _⟩) hS (fun _ _ h => h) (fun _ h => h) (fun r4 S5 t H1 locs ht _ h hw1 _ _ hS => ?_)
    subst ht
    have hw : wd D y z S5 A t.heap := hw1
    clear hw1 h1
    refine lv_if_eq (tgt := 31) hx hb dX6_station_19 (by decide) (fun hc => ?_) (fun hc => ?_)
    · have h := h.1 hc
      exact hB31 _ _ _ _ _ h hw hS (lv_sub hl [0] rfl)
    · have h := h.2 hc
      refine lv_aload_n hx hb dX6_station_22 rfl (lv_at hl 0 rfl) ?_
      refine lv_iload_n hx hb dX6_station_23 rfl (lv_at hl 1 rfl) ?_
      refine lv_iload_n hx hb dX6_station_24 rfl (lv_at hl 2 rfl) ?_
      obtain ⟨hk6, h⟩ := h
      have h1 := h
      refine va_calli (va_runV (As := [.int p1, .int p2]) (rest := []) ⟨hx, hb, hml, hown, hts⟩ (m_X6_stationTold (l := l) h1) (cwV 2 hts gX6_station_X6_stationTold rfl rfl rfl (by decide +kernel) ⟨Nat.le_trans (Nat.le_of_ble_eq_true rfl) hRf, Nat.le_trans (Nat.le_of_ble_eq_true rfl) hRl⟩) (r_pV hB hw hS (ce_8 (S := S5) hk6) rfl) rfl rfl hl.1 rfl (lv_room (Nat.le_of_ble_eq_true rfl)) dX6_station_25 ⟨Nat.zero_le _, Nat.zero_le _⟩) hS (fun _ _ h => h) (fun _ h => h) (fun r7 S8 t H1 locs ht _ h hw1 _ _ hS => ?_)
      subst ht
      have hw : wd D y z S8 A t.heap := hw1
      clear hw1 h1
      refine lv_goto (tgt := 36) hx hb dX6_station_28 (by decide) ?_
      exact hB36 _ _ _ _ _ h hw hS (lv_sub hl [] rfl)
def wb_X6_tubeTold_61 (post : Int32 → bS → Prop) (s0 : Int32) (S : bS) : Prop := post s0 S
def wp_X6_tubeTold (post : Int32 → bS → Prop) (this : Nat) (p1 : Int32) (p2 : Int32) (S : bS) : Prop := ((6 : Int32) ≤ p2 → (p2 ≠ (6 : Int32) → (p2 ≠ (7 : Int32) → gK S this = 8 ∧ (wp_X6_tu (fun r2 S3 => wb_X6_tubeTold_61 post r2 S3) this p1 (6 : Int32) S)) ∧ (p2 = (7 : Int32) → gK S this = 8 ∧ (wp_X6_firstIn (fun r5 S6 => gK S6 this = 8 ∧ (wp_X6_isDue (fun r8 S9 => (r8 = (0 : Int32) → wb_X6_tubeTold_61 post (0 : Int32) S9) ∧ (¬ (r8 = (0 : Int32)) → wb_X6_tubeTold_61 post (1 : Int32) S9)) this r5 S6)) this p1 S))) ∧ (p2 = (6 : Int32) → gK S this = 8 ∧ (wp_X6_manyAt (fun r11 S12 => wb_X6_tubeTold_61 post r11 S12) this (2 : Int32) p1 S))) ∧ (¬ ((6 : Int32) ≤ p2) → gK S this = 8 ∧ (wp_X6_tu (fun r14 S15 => post r14 S15) this p1 p2 S))
set_option maxHeartbeats 4000000 in
set_option maxRecDepth 100000 in
theorem m_X6_tubeTold {l : Launch} {D : va_G} {y : Nat → ClassId} {z : Nat} {A : Nat → Prop} {S : bS} {post : Int32 → bS → Prop} {this : Nat} {p1 : Int32} {p2 : Int32} (h : wp_X6_tubeTold post this p1 p2 S) : Met l yX6_tubeTold wsX6_tubeTold ({ frames := 2, cells := 0, slots := 0, locals := 46 } : Room) (va_Pc ([Value.ref this, Value.int p1, Value.int p2] : List Value) (bP D y z S A)) (va_Qi post (fun S' t => wd D y z S' A t.heap) A) 0 0 A := by
  refine Met.ofW (cc := cX6_tubeTold) (maxL := 3) (ret := (some .int)) (by decide) rfl ?_
  intro p e s m args below meth c s₁ B hml hv
  obtain ⟨rfl, hB⟩ := hv
  have hx := B.exec
  have hb := B.bytes
  have hr := B.returns
  have hts := atoms_spec (ws := wsX6_tubeTold) B.pre
  have hown : s.vm.findClass RX6 = some m.cls := findClass_of_methodNamed B.named
  have hlocks := B.notSynchronized
  have hw : wd D y z S A s.heap := hB.1
  have hK : va_K D bCl (bT y) s := hB.2.1
  have hNw := hB.2.2.1
  have hAn : ∀ q : Nat, s.heap.size ≤ q → A q := hB.2.2.2.1
  have hAz : ¬ A z := hB.2.2.2.2.1
  have hO := hB.2.2.2.2.2.1
  have hS : va_S A s.heap s.heap [] := va_S.rf
  have hl := lv_entry ([Value.ref this, Value.int p1, Value.int p2] : List Value) (n := 3) (Nat.le_of_ble_eq_true rfl)
  rw [lg_entry_eq]
  generalize (lg_sl ([Value.ref this, Value.int p1, Value.int p2] : List Value) ++ List.replicate (3 - (lg_sl ([Value.ref this, Value.int p1, Value.int p2] : List Value)).length) Slot.unset).toArray = ls at hl ⊢
  have hl : lv_has ls 3 [(0, .ref this), (1, .int p1), (2, .int p2)] := hl
  obtain ⟨Q, hQ⟩ : ∃ Q, Q = MQ below (va_Qi post (fun S' t => wd D y z S' A t.heap) A) (([Value.ref this, Value.int p1, Value.int p2] : List Value).toArray) s 0 0 A := ⟨_, rfl⟩
  rw [← hQ]
  generalize hR : (headSpec wsX6_tubeTold ({ frames := 2, cells := 0, slots := 0, locals := 46 } : Room)).room = R
  have hRf : 2 ≤ R.frames := by rw [← hR]; exact Nat.le_refl _
  have hRl : 46 ≤ R.locals := by rw [← hR]; exact Nat.le_refl _
  have hret : ∀ (v : Int32) (S : bS) (H : Heap) (locs : List Loc) (pc : Nat) (ls : Array Slot) , post v S → wd D y z S A H → va_S A s.heap H locs → decode cX6_tubeTold pc = .ok (.ireturn, 1) → W p l e R s m (([Value.ref this, Value.int p1, Value.int p2] : List Value).toArray) below meth c H locs 0 0 Q (F0 m pc ls [.int v]) := by
    intro v S H locs pc ls h hw hS d0
    rw [hQ]; exact W.iret hx hb hr (fun t ht hW => ⟨⟨v, S, rfl, h, by show wd D y z S A t.heap; rw [ht]; exact hw⟩, hS.F ht⟩) hS.2.2 d0 hlocks
  have hB61 : ∀ (S : bS) (H : Heap) (locs : List Loc) (ls : Array Slot) (s0 : Int32), wb_X6_tubeTold_61 post s0 S → wd D y z S A H → va_S A s.heap H locs → lv_has ls 3 [] → W p l e R s m (([Value.ref this, Value.int p1, Value.int p2] : List Value).toArray) below meth c H locs 0 0 Q (F0 m 61 ls [.int s0]) := by
    intro S H locs ls s0 h hw hS hl
    unfold wb_X6_tubeTold_61 at h
    exact hret s0 _ _ _ _ _ h hw hS dX6_tubeTold_61
  unfold wp_X6_tubeTold at h
  refine lv_iload_n hx hb dX6_tubeTold_0 rfl (lv_at hl 2 rfl) ?_
  refine lv_bipush (v := (6 : Int32)) hx hb dX6_tubeTold_1 (by decide) ?_
  refine lv_icmp_ge (tgt := 13) hx hb dX6_tubeTold_3 (by decide) (fun hc => ?_) (fun hc => ?_)
  · have h := h.1 hc
    refine lv_iload_n hx hb dX6_tubeTold_13 rfl (lv_at hl 2 rfl) ?_
    refine lv_bipush (v := (6 : Int32)) hx hb dX6_tubeTold_14 (by decide) ?_
    refine lv_icmp_ne (tgt := 28) hx hb dX6_tubeTold_16 (by decide) (fun hc => ?_) (fun hc => ?_)
    · have h := h.1 hc
      refine lv_iload_n hx hb dX6_tubeTold_28 rfl (lv_at hl 2 rfl) ?_
      refine lv_bipush (v := (7 : Int32)) hx hb dX6_tubeTold_29 (by decide) ?_
      refine lv_icmp_ne (tgt := 54) hx hb dX6_tubeTold_31 (by decide) (fun hc => ?_) (fun hc => ?_)
      · have h := h.1 hc
        refine lv_aload_n hx hb dX6_tubeTold_54 rfl (lv_at hl 0 rfl) ?_
        refine lv_iload_n hx hb dX6_tubeTold_55 rfl (lv_at hl 1 rfl) ?_
        refine lv_bipush (v := (6 : Int32)) hx hb dX6_tubeTold_56 (by decide) ?_
        obtain ⟨hk1, h⟩ := h
        have h1 := h
        refine va_calli (va_runV (As := [.int p1, .int (6 : Int32)]) (rest := []) ⟨hx, hb, hml, hown, hts⟩ (m_X6_tu (l := l) h1) (cwV 2 hts gX6_tubeTold_X6_tu rfl rfl rfl (by decide +kernel) ⟨Nat.le_trans (Nat.le_of_ble_eq_true rfl) hRf, Nat.le_trans (Nat.le_of_ble_eq_true rfl) hRl⟩) (r_pV hB hw hS (ce_8 (S := S) hk1) rfl) rfl rfl hl.1 rfl (lv_room (Nat.le_of_ble_eq_true rfl)) dX6_tubeTold_58 ⟨Nat.zero_le _, Nat.zero_le _⟩) hS (fun _ _ h => h) (fun _ h => h) (fun r2 S3 t H1 locs ht _ h hw1 _ _ hS => ?_)
        subst ht
        have hw : wd D y z S3 A t.heap := hw1
        clear hw1 h1
        exact hB61 _ _ _ _ _ h hw hS (lv_sub hl [] rfl)
      · have h := h.2 hc
        refine lv_aload_n hx hb dX6_tubeTold_34 rfl (lv_at hl 0 rfl) ?_
        refine lv_aload_n hx hb dX6_tubeTold_35 rfl (lv_at hl 0 rfl) ?_
        refine lv_iload_n hx hb dX6_tubeTold_36 rfl (lv_at hl 1 rfl) ?_
        obtain ⟨hk4, h⟩ := h
        have h1 := h
        refine va_calli (va_runV (As := [.int p1]) (rest := [.ref this]) ⟨hx, hb, hml, hown, hts⟩ (m_X6_firstIn (l := l) h1) (cwV 1 hts gX6_tubeTold_X6_firstIn rfl rfl rfl (by decide +kernel) ⟨Nat.le_trans (Nat.le_of_ble_eq_true rfl) hRf, Nat.le_trans (Nat.le_of_ble_eq_true rfl) hRl⟩) (r_pV hB hw hS (ce_8 (S := S) hk4) rfl) rfl rfl hl.1 rfl (lv_room (Nat.le_of_ble_eq_true rfl)) dX6_tubeTold_37 ⟨Nat.zero_le _, Nat.zero_le _⟩) hS (fun _ _ h => h) (fun _ h => h) (fun r5 S6 t H1 locs ht _ h hw1 _ _ hS => ?_)
        subst ht
        have hw : wd D y z S6 A t.heap := hw1
        clear hw1 h1
        obtain ⟨hk7, h⟩ := h
        have h1 := h
        refine va_calli (va_runV (As := [.int r5]) (rest := []) ⟨hx, hb, hml, hown, hts⟩ (m_X6_isDue (l := l) h1) (cwV 1 hts gX6_tubeTold_X6_isDue rfl rfl rfl (by decide +kernel) ⟨Nat.le_trans (Nat.le_of_ble_eq_true rfl) hRf, Nat.le_trans (Nat.le_of_ble_eq_true rfl) hRl⟩) (r_pV hB hw hS (ce_8 (S := S6) hk7) rfl) rfl rfl hl.1 rfl (lv_room (Nat.le_of_ble_eq_true rfl)) dX6_tubeTold_40 ⟨Nat.zero_le _, Nat.zero_le _⟩) hS (fun _ _ h => h) (fun _ h => h) (fun r8 S9 t H1 locs ht _ h hw1 _ _ hS => ?_)
        subst ht
        have hw : wd D y z S9 A t.heap := hw1
        clear hw1 h1
        refine lv_if_eq (tgt := 50) hx hb dX6_tubeTold_43 (by decide) (fun hc => ?_) (fun hc => ?_)
        · have h := h.1 hc
          refine lv_iconst (v := (0 : Int32)) hx hb dX6_tubeTold_50 (by decide) ?_
          refine lv_goto (tgt := 61) hx hb dX6_tubeTold_51 (by decide) ?_
          exact hB61 _ _ _ _ _ h hw hS (lv_sub hl [] rfl)
        · have h := h.2 hc
          refine lv_iconst (v := (1 : Int32)) hx hb dX6_tubeTold_46 (by decide) ?_
          refine lv_goto (tgt := 61) hx hb dX6_tubeTold_47 (by decide) ?_
          exact hB61 _ _ _ _ _ h hw hS (lv_sub hl [] rfl)
    · have h := h.2 hc
      refine lv_aload_n hx hb dX6_tubeTold_19 rfl (lv_at hl 0 rfl) ?_
      refine lv_iconst (v := (2 : Int32)) hx hb dX6_tubeTold_20 (by decide) ?_
      refine lv_iload_n hx hb dX6_tubeTold_21 rfl (lv_at hl 1 rfl) ?_
      obtain ⟨hk10, h⟩ := h
      have h1 := h
      refine va_calli (va_runV (As := [.int (2 : Int32), .int p1]) (rest := []) ⟨hx, hb, hml, hown, hts⟩ (m_X6_manyAt (l := l) h1) (cwV 2 hts gX6_tubeTold_X6_manyAt rfl rfl rfl (by decide +kernel) ⟨Nat.le_trans (Nat.le_of_ble_eq_true rfl) hRf, Nat.le_trans (Nat.le_of_ble_eq_true rfl) hRl⟩) (r_pV hB hw hS (ce_8 (S := S) hk10) rfl) rfl rfl hl.1 rfl (lv_room (Nat.le_of_ble_eq_true rfl)) dX6_tubeTold_22 ⟨Nat.zero_le _, Nat.zero_le _⟩) hS (fun _ _ h => h) (fun _ h => h) (fun r11 S12 t H1 locs ht _ h hw1 _ _ hS => ?_)
      subst ht
      have hw : wd D y z S12 A t.heap := hw1
      clear hw1 h1
      refine lv_goto (tgt := 61) hx hb dX6_tubeTold_25 (by decide) ?_
      exact hB61 _ _ _ _ _ h hw hS (lv_sub hl [] rfl)
  · have h := h.2 hc
    refine lv_aload_n hx hb dX6_tubeTold_6 rfl (lv_at hl 0 rfl) ?_
    refine lv_iload_n hx hb dX6_tubeTold_7 rfl (lv_at hl 1 rfl) ?_
    refine lv_iload_n hx hb dX6_tubeTold_8 rfl (lv_at hl 2 rfl) ?_
    obtain ⟨hk13, h⟩ := h
    have h1 := h
    refine va_calli (va_runV (As := [.int p1, .int p2]) (rest := []) ⟨hx, hb, hml, hown, hts⟩ (m_X6_tu (l := l) h1) (cwV 2 hts gX6_tubeTold_X6_tu rfl rfl rfl (by decide +kernel) ⟨Nat.le_trans (Nat.le_of_ble_eq_true rfl) hRf, Nat.le_trans (Nat.le_of_ble_eq_true rfl) hRl⟩) (r_pV hB hw hS (ce_8 (S := S) hk13) rfl) rfl rfl hl.1 rfl (lv_room (Nat.le_of_ble_eq_true rfl)) dX6_tubeTold_9 ⟨Nat.zero_le _, Nat.zero_le _⟩) hS (fun _ _ h => h) (fun _ h => h) (fun r14 S15 t H1 locs ht _ h hw1 _ _ hS => ?_)
    subst ht
    have hw : wd D y z S15 A t.heap := hw1
    clear hw1 h1
    exact hret r14 _ _ _ _ _ h hw hS dX6_tubeTold_12
def wb_X6_tube_37 (post : Int32 → bS → Prop) (s0 : Int32) (S : bS) : Prop := post s0 S
def wb_X6_tube_32 (post : Int32 → bS → Prop) (v0 : Nat) (S : bS) : Prop := gK S v0 = 8 ∧ (wp_X6_fail (fun r10 S11 => wb_X6_tube_37 post r10 S11) v0 (1 : Int32) S)
def wp_X6_tube (post : Int32 → bS → Prop) (this : Nat) (p1 : Int32) (p2 : Int32) (S : bS) : Prop := gK S this = 8 ∧ (wp_X6_isTube (fun r2 S3 => (r2 = (0 : Int32) → wb_X6_tube_32 post this S3) ∧ (¬ (r2 = (0 : Int32)) → wp_X6_isIn (fun r4 S5 => (r4 = (0 : Int32) → wb_X6_tube_32 post this S5) ∧ (¬ (r4 = (0 : Int32)) → gK S5 this = 8 ∧ (wp_X6_tubeTold (fun r7 S8 => wb_X6_tube_37 post r7 S8) this p1 p2 S5))) p2 (0 : Int32) (8 : Int32) S3)) this p1 (sV S 8 this 0 (0 : Int32)))
set_option maxHeartbeats 4000000 in
set_option maxRecDepth 100000 in
theorem m_X6_tube {l : Launch} {D : va_G} {y : Nat → ClassId} {z : Nat} {A : Nat → Prop} {S : bS} {post : Int32 → bS → Prop} {this : Nat} {p1 : Int32} {p2 : Int32} (h : wp_X6_tube post this p1 p2 S) : Met l yX6_tube wsX6_tube ({ frames := 3, cells := 0, slots := 0, locals := 68 } : Room) (va_Pc ([Value.ref this, Value.int p1, Value.int p2] : List Value) (bP D y z S A)) (va_Qi post (fun S' t => wd D y z S' A t.heap) A) 0 0 A := by
  refine Met.ofW (cc := cX6_tube) (maxL := 3) (ret := (some .int)) (by decide) rfl ?_
  intro p e s m args below meth c s₁ B hml hv
  obtain ⟨rfl, hB⟩ := hv
  have hx := B.exec
  have hb := B.bytes
  have hr := B.returns
  have hts := atoms_spec (ws := wsX6_tube) B.pre
  have hown : s.vm.findClass RX6 = some m.cls := findClass_of_methodNamed B.named
  have hlocks := B.notSynchronized
  have hw : wd D y z S A s.heap := hB.1
  have hK : va_K D bCl (bT y) s := hB.2.1
  have hNw := hB.2.2.1
  have hAn : ∀ q : Nat, s.heap.size ≤ q → A q := hB.2.2.2.1
  have hAz : ¬ A z := hB.2.2.2.2.1
  have hO := hB.2.2.2.2.2.1
  have hS : va_S A s.heap s.heap [] := va_S.rf
  have hiX6 : ∀ w ∈ u_ws RX6 TX6 17, w ∈ wsX6_tube := by decide +kernel
  have hl := lv_entry ([Value.ref this, Value.int p1, Value.int p2] : List Value) (n := 3) (Nat.le_of_ble_eq_true rfl)
  rw [lg_entry_eq]
  generalize (lg_sl ([Value.ref this, Value.int p1, Value.int p2] : List Value) ++ List.replicate (3 - (lg_sl ([Value.ref this, Value.int p1, Value.int p2] : List Value)).length) Slot.unset).toArray = ls at hl ⊢
  have hl : lv_has ls 3 [(0, .ref this), (1, .int p1), (2, .int p2)] := hl
  obtain ⟨Q, hQ⟩ : ∃ Q, Q = MQ below (va_Qi post (fun S' t => wd D y z S' A t.heap) A) (([Value.ref this, Value.int p1, Value.int p2] : List Value).toArray) s 0 0 A := ⟨_, rfl⟩
  rw [← hQ]
  generalize hR : (headSpec wsX6_tube ({ frames := 3, cells := 0, slots := 0, locals := 68 } : Room)).room = R
  have hRf : 3 ≤ R.frames := by rw [← hR]; exact Nat.le_refl _
  have hRl : 68 ≤ R.locals := by rw [← hR]; exact Nat.le_refl _
  have hret : ∀ (v : Int32) (S : bS) (H : Heap) (locs : List Loc) (pc : Nat) (ls : Array Slot) , post v S → wd D y z S A H → va_S A s.heap H locs → decode cX6_tube pc = .ok (.ireturn, 1) → W p l e R s m (([Value.ref this, Value.int p1, Value.int p2] : List Value).toArray) below meth c H locs 0 0 Q (F0 m pc ls [.int v]) := by
    intro v S H locs pc ls h hw hS d0
    rw [hQ]; exact W.iret hx hb hr (fun t ht hW => ⟨⟨v, S, rfl, h, by show wd D y z S A t.heap; rw [ht]; exact hw⟩, hS.F ht⟩) hS.2.2 d0 hlocks
  have hB37 : ∀ (S : bS) (H : Heap) (locs : List Loc) (ls : Array Slot) (s0 : Int32), wb_X6_tube_37 post s0 S → wd D y z S A H → va_S A s.heap H locs → lv_has ls 3 [] → W p l e R s m (([Value.ref this, Value.int p1, Value.int p2] : List Value).toArray) below meth c H locs 0 0 Q (F0 m 37 ls [.int s0]) := by
    intro S H locs ls s0 h hw hS hl
    unfold wb_X6_tube_37 at h
    exact hret s0 _ _ _ _ _ h hw hS dX6_tube_37
  have hB32 : ∀ (S : bS) (H : Heap) (locs : List Loc) (ls : Array Slot) (v0 : Nat), wb_X6_tube_32 post v0 S → wd D y z S A H → va_S A s.heap H locs → lv_has ls 3 [(0, .ref v0)] → W p l e R s m (([Value.ref this, Value.int p1, Value.int p2] : List Value).toArray) below meth c H locs 0 0 Q (F0 m 32 ls []) := by
    intro S H locs ls v0 h hw hS hl
    unfold wb_X6_tube_32 at h
    refine lv_aload_n hx hb dX6_tube_32 rfl (lv_at hl 0 rfl) ?_
    refine lv_iconst (v := (1 : Int32)) hx hb dX6_tube_33 (by decide) ?_
    obtain ⟨hk9, h⟩ := h
    have h1 := h
    refine va_calli (va_runV (As := [.int (1 : Int32)]) (rest := []) ⟨hx, hb, hml, hown, hts⟩ (m_X6_fail (l := l) h1) (cwV 1 hts gX6_tube_X6_fail rfl rfl rfl (by decide +kernel) ⟨Nat.le_trans (Nat.le_of_ble_eq_true rfl) hRf, Nat.le_trans (Nat.le_of_ble_eq_true rfl) hRl⟩) (r_pV hB hw hS (ce_8 (S := S) hk9) rfl) rfl rfl hl.1 rfl (lv_room (Nat.le_of_ble_eq_true rfl)) dX6_tube_34 ⟨Nat.zero_le _, Nat.zero_le _⟩) hS (fun _ _ h => h) (fun _ h => h) (fun r10 S11 t H1 locs ht _ h hw1 _ _ hS => ?_)
    subst ht
    have hw : wd D y z S11 A t.heap := hw1
    clear hw1 h1
    exact hB37 _ _ _ _ _ h hw hS (lv_sub hl [] rfl)
  unfold wp_X6_tube at h
  refine lv_aload_n hx hb dX6_tube_0 rfl (lv_at hl 0 rfl) ?_
  refine lv_iconst (v := (0 : Int32)) hx hb dX6_tube_1 (by decide) ?_
  obtain ⟨hk1, h⟩ := h
  refine r_putI (κ := 8) (ci := 7) (C := RX6) (T := TX6) (N := 17) (ty := .int) (x := (0 : Int32)) hx hb hts hiX6 tyX6 tyX6_ok nmX6 hown hK hw hS (ce_8 (S := S) hk1) rfl 0 (by decide) (hts (.fieldLink RX6 31 "TubePostModel" "thrown" "I") (by decide +kernel)) (fun _ h9 => h9) rfl (by decide +kernel) rfl rfl (Nat.le_of_ble_eq_true rfl) (pu_8_0 (S := S) hk1) dX6_tube_2 (fun H locs hw hS => ?_)
  refine lv_aload_n hx hb dX6_tube_5 rfl (lv_at hl 0 rfl) ?_
  refine lv_iload_n hx hb dX6_tube_6 rfl (lv_at hl 1 rfl) ?_
  have h1 := h
  refine va_calli (va_runV (As := [.int p1]) (rest := []) ⟨hx, hb, hml, hown, hts⟩ (m_X6_isTube (l := l) h1) (cwV 1 hts gX6_tube_X6_isTube rfl rfl rfl (by decide +kernel) ⟨Nat.le_trans (Nat.le_of_ble_eq_true rfl) hRf, Nat.le_trans (Nat.le_of_ble_eq_true rfl) hRl⟩) (r_pV hB hw hS (ce_8 (S := (sV S 8 this 0 (0 : Int32))) hk1) rfl) rfl rfl hl.1 rfl (lv_room (Nat.le_of_ble_eq_true rfl)) dX6_tube_7 ⟨Nat.zero_le _, Nat.zero_le _⟩) hS (fun _ _ h => h) (fun _ h => h) (fun r2 S3 t H1 locs ht _ h hw1 _ _ hS => ?_)
  subst ht
  have hw : wd D y z S3 A t.heap := hw1
  clear hw1 h1
  refine lv_if_eq (tgt := 32) hx hb dX6_tube_10 (by decide) (fun hc => ?_) (fun hc => ?_)
  · have h := h.1 hc
    exact hB32 _ _ _ _ _ h hw hS (lv_sub hl [0] rfl)
  · have h := h.2 hc
    refine lv_iload_n hx hb dX6_tube_13 rfl (lv_at hl 2 rfl) ?_
    refine lv_iconst (v := (0 : Int32)) hx hb dX6_tube_14 (by decide) ?_
    refine lv_bipush (v := (8 : Int32)) hx hb dX6_tube_15 (by decide) ?_
    have h1 := h
    refine va_calli (va_runS (As := [.int p2, .int (0 : Int32), .int (8 : Int32)]) (rest := []) ⟨hx, hb, hml, hown, hts⟩ (m_X6_isIn (l := l) h1) (cwS 3 hts gX6_tube_X6_isIn rfl rfl rfl (by decide +kernel) ⟨Nat.le_trans (Nat.le_of_ble_eq_true rfl) hRf, Nat.le_trans (Nat.le_of_ble_eq_true rfl) hRl⟩) (r_pS hB hw hS) rfl rfl hl.1 rfl (lv_room (Nat.le_of_ble_eq_true rfl)) dX6_tube_17 ⟨Nat.zero_le _, Nat.zero_le _⟩) hS (fun _ _ h => h) (fun _ h => h) (fun r4 S5 t H1 locs ht _ h hw1 _ _ hS => ?_)
    subst ht
    have hw : wd D y z S5 A t.heap := hw1
    clear hw1 h1
    refine lv_if_eq (tgt := 32) hx hb dX6_tube_20 (by decide) (fun hc => ?_) (fun hc => ?_)
    · have h := h.1 hc
      exact hB32 _ _ _ _ _ h hw hS (lv_sub hl [0] rfl)
    · have h := h.2 hc
      refine lv_aload_n hx hb dX6_tube_23 rfl (lv_at hl 0 rfl) ?_
      refine lv_iload_n hx hb dX6_tube_24 rfl (lv_at hl 1 rfl) ?_
      refine lv_iload_n hx hb dX6_tube_25 rfl (lv_at hl 2 rfl) ?_
      obtain ⟨hk6, h⟩ := h
      have h1 := h
      refine va_calli (va_runV (As := [.int p1, .int p2]) (rest := []) ⟨hx, hb, hml, hown, hts⟩ (m_X6_tubeTold (l := l) h1) (cwV 2 hts gX6_tube_X6_tubeTold rfl rfl rfl (by decide +kernel) ⟨Nat.le_trans (Nat.le_of_ble_eq_true rfl) hRf, Nat.le_trans (Nat.le_of_ble_eq_true rfl) hRl⟩) (r_pV hB hw hS (ce_8 (S := S5) hk6) rfl) rfl rfl hl.1 rfl (lv_room (Nat.le_of_ble_eq_true rfl)) dX6_tube_26 ⟨Nat.zero_le _, Nat.zero_le _⟩) hS (fun _ _ h => h) (fun _ h => h) (fun r7 S8 t H1 locs ht _ h hw1 _ _ hS => ?_)
      subst ht
      have hw : wd D y z S8 A t.heap := hw1
      clear hw1 h1
      refine lv_goto (tgt := 37) hx hb dX6_tube_29 (by decide) ?_
      exact hB37 _ _ _ _ _ h hw hS (lv_sub hl [] rfl)
def wb_X6_there_42 (post : Int32 → bS → Prop) (s0 : Int32) (S : bS) : Prop := post s0 S
def wb_X6_there_37 (post : Int32 → bS → Prop) (v0 : Nat) (S : bS) : Prop := gK S v0 = 8 ∧ (wp_X6_fail (fun r15 S16 => wb_X6_there_42 post r15 S16) v0 (1 : Int32) S)
def wp_X6_there (post : Int32 → bS → Prop) (this : Nat) (p1 : Int32) (p2 : Int32) (S : bS) : Prop := gK S this = 8 ∧ (wp_X6_isStation (fun r2 S3 => (r2 = (0 : Int32) → wb_X6_there_37 post this S3) ∧ (¬ (r2 = (0 : Int32)) → gK S3 this = 8 ∧ (wp_X6_line (fun r5 S6 => wp_X6_isIn (fun r7 S8 => (r7 = (0 : Int32) → wb_X6_there_37 post this S8) ∧ (¬ (r7 = (0 : Int32)) → gK S8 this = 8 ∧ (∃ b10, gQ S8 8 this 16 = some b10 ∧ (gK S8 b10 = 9 ∧ (vp_in p2 (gN S8 b10) ∧ (wb_X6_there_42 post (gV S8 9 b10 (Int32.toNatClampNeg p2)) S8)))))) p2 (0 : Int32) (r5 - (1 : Int32)) S6) this p1 S3))) this p1 (sV S 8 this 0 (0 : Int32)))
set_option maxHeartbeats 4000000 in
set_option maxRecDepth 100000 in
theorem m_X6_there {l : Launch} {D : va_G} {y : Nat → ClassId} {z : Nat} {A : Nat → Prop} {S : bS} {post : Int32 → bS → Prop} {this : Nat} {p1 : Int32} {p2 : Int32} (h : wp_X6_there post this p1 p2 S) : Met l yX6_there wsX6_there ({ frames := 3, cells := 0, slots := 0, locals := 69 } : Room) (va_Pc ([Value.ref this, Value.int p1, Value.int p2] : List Value) (bP D y z S A)) (va_Qi post (fun S' t => wd D y z S' A t.heap) A) 0 0 A := by
  refine Met.ofW (cc := cX6_there) (maxL := 3) (ret := (some .int)) (by decide) rfl ?_
  intro p e s m args below meth c s₁ B hml hv
  obtain ⟨rfl, hB⟩ := hv
  have hx := B.exec
  have hb := B.bytes
  have hr := B.returns
  have hts := atoms_spec (ws := wsX6_there) B.pre
  have hown : s.vm.findClass RX6 = some m.cls := findClass_of_methodNamed B.named
  have hlocks := B.notSynchronized
  have hw : wd D y z S A s.heap := hB.1
  have hK : va_K D bCl (bT y) s := hB.2.1
  have hNw := hB.2.2.1
  have hAn : ∀ q : Nat, s.heap.size ≤ q → A q := hB.2.2.2.1
  have hAz : ¬ A z := hB.2.2.2.2.1
  have hO := hB.2.2.2.2.2.1
  have hS : va_S A s.heap s.heap [] := va_S.rf
  have hiX6 : ∀ w ∈ u_ws RX6 TX6 17, w ∈ wsX6_there := by decide +kernel
  have hl := lv_entry ([Value.ref this, Value.int p1, Value.int p2] : List Value) (n := 3) (Nat.le_of_ble_eq_true rfl)
  rw [lg_entry_eq]
  generalize (lg_sl ([Value.ref this, Value.int p1, Value.int p2] : List Value) ++ List.replicate (3 - (lg_sl ([Value.ref this, Value.int p1, Value.int p2] : List Value)).length) Slot.unset).toArray = ls at hl ⊢
  have hl : lv_has ls 3 [(0, .ref this), (1, .int p1), (2, .int p2)] := hl
  obtain ⟨Q, hQ⟩ : ∃ Q, Q = MQ below (va_Qi post (fun S' t => wd D y z S' A t.heap) A) (([Value.ref this, Value.int p1, Value.int p2] : List Value).toArray) s 0 0 A := ⟨_, rfl⟩
  rw [← hQ]
  generalize hR : (headSpec wsX6_there ({ frames := 3, cells := 0, slots := 0, locals := 69 } : Room)).room = R
  have hRf : 3 ≤ R.frames := by rw [← hR]; exact Nat.le_refl _
  have hRl : 69 ≤ R.locals := by rw [← hR]; exact Nat.le_refl _
  have hret : ∀ (v : Int32) (S : bS) (H : Heap) (locs : List Loc) (pc : Nat) (ls : Array Slot) , post v S → wd D y z S A H → va_S A s.heap H locs → decode cX6_there pc = .ok (.ireturn, 1) → W p l e R s m (([Value.ref this, Value.int p1, Value.int p2] : List Value).toArray) below meth c H locs 0 0 Q (F0 m pc ls [.int v]) := by
    intro v S H locs pc ls h hw hS d0
    rw [hQ]; exact W.iret hx hb hr (fun t ht hW => ⟨⟨v, S, rfl, h, by show wd D y z S A t.heap; rw [ht]; exact hw⟩, hS.F ht⟩) hS.2.2 d0 hlocks
  have hB42 : ∀ (S : bS) (H : Heap) (locs : List Loc) (ls : Array Slot) (s0 : Int32), wb_X6_there_42 post s0 S → wd D y z S A H → va_S A s.heap H locs → lv_has ls 3 [] → W p l e R s m (([Value.ref this, Value.int p1, Value.int p2] : List Value).toArray) below meth c H locs 0 0 Q (F0 m 42 ls [.int s0]) := by
    intro S H locs ls s0 h hw hS hl
    unfold wb_X6_there_42 at h
    exact hret s0 _ _ _ _ _ h hw hS dX6_there_42
  have hB37 : ∀ (S : bS) (H : Heap) (locs : List Loc) (ls : Array Slot) (v0 : Nat), wb_X6_there_37 post v0 S → wd D y z S A H → va_S A s.heap H locs → lv_has ls 3 [(0, .ref v0)] → W p l e R s m (([Value.ref this, Value.int p1, Value.int p2] : List Value).toArray) below meth c H locs 0 0 Q (F0 m 37 ls []) := by
    intro S H locs ls v0 h hw hS hl
    unfold wb_X6_there_37 at h
    refine lv_aload_n hx hb dX6_there_37 rfl (lv_at hl 0 rfl) ?_
    refine lv_iconst (v := (1 : Int32)) hx hb dX6_there_38 (by decide) ?_
    obtain ⟨hk14, h⟩ := h
    have h1 := h
    refine va_calli (va_runV (As := [.int (1 : Int32)]) (rest := []) ⟨hx, hb, hml, hown, hts⟩ (m_X6_fail (l := l) h1) (cwV 1 hts gX6_there_X6_fail rfl rfl rfl (by decide +kernel) ⟨Nat.le_trans (Nat.le_of_ble_eq_true rfl) hRf, Nat.le_trans (Nat.le_of_ble_eq_true rfl) hRl⟩) (r_pV hB hw hS (ce_8 (S := S) hk14) rfl) rfl rfl hl.1 rfl (lv_room (Nat.le_of_ble_eq_true rfl)) dX6_there_39 ⟨Nat.zero_le _, Nat.zero_le _⟩) hS (fun _ _ h => h) (fun _ h => h) (fun r15 S16 t H1 locs ht _ h hw1 _ _ hS => ?_)
    subst ht
    have hw : wd D y z S16 A t.heap := hw1
    clear hw1 h1
    exact hB42 _ _ _ _ _ h hw hS (lv_sub hl [] rfl)
  unfold wp_X6_there at h
  refine lv_aload_n hx hb dX6_there_0 rfl (lv_at hl 0 rfl) ?_
  refine lv_iconst (v := (0 : Int32)) hx hb dX6_there_1 (by decide) ?_
  obtain ⟨hk1, h⟩ := h
  refine r_putI (κ := 8) (ci := 7) (C := RX6) (T := TX6) (N := 17) (ty := .int) (x := (0 : Int32)) hx hb hts hiX6 tyX6 tyX6_ok nmX6 hown hK hw hS (ce_8 (S := S) hk1) rfl 0 (by decide) (hts (.fieldLink RX6 31 "TubePostModel" "thrown" "I") (by decide +kernel)) (fun _ h9 => h9) rfl (by decide +kernel) rfl rfl (Nat.le_of_ble_eq_true rfl) (pu_8_0 (S := S) hk1) dX6_there_2 (fun H locs hw hS => ?_)
  refine lv_aload_n hx hb dX6_there_5 rfl (lv_at hl 0 rfl) ?_
  refine lv_iload_n hx hb dX6_there_6 rfl (lv_at hl 1 rfl) ?_
  have h1 := h
  refine va_calli (va_runV (As := [.int p1]) (rest := []) ⟨hx, hb, hml, hown, hts⟩ (m_X6_isStation (l := l) h1) (cwV 1 hts gX6_there_X6_isStation rfl rfl rfl (by decide +kernel) ⟨Nat.le_trans (Nat.le_of_ble_eq_true rfl) hRf, Nat.le_trans (Nat.le_of_ble_eq_true rfl) hRl⟩) (r_pV hB hw hS (ce_8 (S := (sV S 8 this 0 (0 : Int32))) hk1) rfl) rfl rfl hl.1 rfl (lv_room (Nat.le_of_ble_eq_true rfl)) dX6_there_7 ⟨Nat.zero_le _, Nat.zero_le _⟩) hS (fun _ _ h => h) (fun _ h => h) (fun r2 S3 t H1 locs ht _ h hw1 _ _ hS => ?_)
  subst ht
  have hw : wd D y z S3 A t.heap := hw1
  clear hw1 h1
  refine lv_if_eq (tgt := 37) hx hb dX6_there_10 (by decide) (fun hc => ?_) (fun hc => ?_)
  · have h := h.1 hc
    exact hB37 _ _ _ _ _ h hw hS (lv_sub hl [0] rfl)
  · have h := h.2 hc
    refine lv_iload_n hx hb dX6_there_13 rfl (lv_at hl 2 rfl) ?_
    refine lv_iconst (v := (0 : Int32)) hx hb dX6_there_14 (by decide) ?_
    refine lv_aload_n hx hb dX6_there_15 rfl (lv_at hl 0 rfl) ?_
    refine lv_iload_n hx hb dX6_there_16 rfl (lv_at hl 1 rfl) ?_
    obtain ⟨hk4, h⟩ := h
    have h1 := h
    refine va_calli (va_runV (As := [.int p1]) (rest := [.int (0 : Int32), .int p2]) ⟨hx, hb, hml, hown, hts⟩ (m_X6_line (l := l) h1) (cwV 1 hts gX6_there_X6_line rfl rfl rfl (by decide +kernel) ⟨Nat.le_trans (Nat.le_of_ble_eq_true rfl) hRf, Nat.le_trans (Nat.le_of_ble_eq_true rfl) hRl⟩) (r_pV hB hw hS (ce_8 (S := S3) hk4) rfl) rfl rfl hl.1 rfl (lv_room (Nat.le_of_ble_eq_true rfl)) dX6_there_17 ⟨Nat.zero_le _, Nat.zero_le _⟩) hS (fun _ _ h => h) (fun _ h => h) (fun r5 S6 t H1 locs ht _ h hw1 _ _ hS => ?_)
    subst ht
    have hw : wd D y z S6 A t.heap := hw1
    clear hw1 h1
    refine lv_iconst (v := (1 : Int32)) hx hb dX6_there_20 (by decide) ?_
    refine lv_isub hx hb dX6_there_21 ?_
    have h1 := h
    refine va_calli (va_runS (As := [.int p2, .int (0 : Int32), .int (r5 - (1 : Int32))]) (rest := []) ⟨hx, hb, hml, hown, hts⟩ (m_X6_isIn (l := l) h1) (cwS 3 hts gX6_there_X6_isIn rfl rfl rfl (by decide +kernel) ⟨Nat.le_trans (Nat.le_of_ble_eq_true rfl) hRf, Nat.le_trans (Nat.le_of_ble_eq_true rfl) hRl⟩) (r_pS hB hw hS) rfl rfl hl.1 rfl (lv_room (Nat.le_of_ble_eq_true rfl)) dX6_there_22 ⟨Nat.zero_le _, Nat.zero_le _⟩) hS (fun _ _ h => h) (fun _ h => h) (fun r7 S8 t H1 locs ht _ h hw1 _ _ hS => ?_)
    subst ht
    have hw : wd D y z S8 A t.heap := hw1
    clear hw1 h1
    refine lv_if_eq (tgt := 37) hx hb dX6_there_25 (by decide) (fun hc => ?_) (fun hc => ?_)
    · have h := h.1 hc
      exact hB37 _ _ _ _ _ h hw hS (lv_sub hl [0] rfl)
    · have h := h.2 hc
      refine lv_aload_n hx hb dX6_there_28 rfl (lv_at hl 0 rfl) ?_
      obtain ⟨hk9, h⟩ := h
      obtain ⟨b10, hb11, h⟩ := h
      refine r_get (ci := 7) (v := .ref b10) (C := RX6) (T := TX6) (N := 17) hx hb hts hiX6 hown hK hw (ce_8 (S := S8) hk9) rfl 16 (by decide) (hts (.fieldLink RX6 28 "TubePostModel" "queue" "[I") (by decide +kernel)) (fun _ h9 => h9) (congrArg (fun q => some (va_rf q)) hb11) dX6_there_29 ?_
      refine lv_iload_n hx hb dX6_there_32 rfl (lv_at hl 2 rfl) ?_
      obtain ⟨hk12, h⟩ := h
      obtain ⟨hin13, h⟩ := h
      refine r_iald hx hb hK hw hk12 hin13 dX6_there_33 ?_
      refine lv_goto (tgt := 42) hx hb dX6_there_34 (by decide) ?_
      exact hB42 _ _ _ _ _ h hw hS (lv_sub hl [] rfl)
def wb_X6_time_21 (post : Int32 → bS → Prop) (v0 : Nat) (S : bS) : Prop := gK S v0 = 8 ∧ (wp_X6_fail (fun r16 S17 => post r16 S17) v0 (1 : Int32) S)
def wp_X6_time (post : Int32 → bS → Prop) (this : Nat) (p1 : Int32) (p2 : Int32) (S : bS) : Prop := gK S this = 8 ∧ (wp_X6_isStation (fun r2 S3 => (r2 = (0 : Int32) → wb_X6_time_21 post this S3) ∧ (¬ (r2 = (0 : Int32)) → gK S3 this = 8 ∧ (wp_X6_isStation (fun r5 S6 => (r5 ≠ (0 : Int32) → gK S6 this = 8 ∧ (wp_X6_findTimes (fun S9 => gK S9 this = 8 ∧ (∃ b11, gQ S9 8 this 15 = some b11 ∧ (gK S9 b11 = 9 ∧ (vp_in p1 (gN S9 b11) ∧ (post (gV S9 9 b11 (Int32.toNatClampNeg p1)) S9))))) this p2 S6)) ∧ (r5 = (0 : Int32) → wb_X6_time_21 post this S6)) this p2 S3))) this p1 (sV S 8 this 0 (0 : Int32)))
set_option maxHeartbeats 4000000 in
set_option maxRecDepth 100000 in
theorem m_X6_time {l : Launch} {D : va_G} {y : Nat → ClassId} {z : Nat} {A : Nat → Prop} {S : bS} {post : Int32 → bS → Prop} {this : Nat} {p1 : Int32} {p2 : Int32} (h : wp_X6_time post this p1 p2 S) : Met l yX6_time wsX6_time ({ frames := 4, cells := 0, slots := 0, locals := 91 } : Room) (va_Pc ([Value.ref this, Value.int p1, Value.int p2] : List Value) (bP D y z S A)) (va_Qi post (fun S' t => wd D y z S' A t.heap) A) 0 0 A := by
  refine Met.ofW (cc := cX6_time) (maxL := 3) (ret := (some .int)) (by decide) rfl ?_
  intro p e s m args below meth c s₁ B hml hv
  obtain ⟨rfl, hB⟩ := hv
  have hx := B.exec
  have hb := B.bytes
  have hr := B.returns
  have hts := atoms_spec (ws := wsX6_time) B.pre
  have hown : s.vm.findClass RX6 = some m.cls := findClass_of_methodNamed B.named
  have hlocks := B.notSynchronized
  have hw : wd D y z S A s.heap := hB.1
  have hK : va_K D bCl (bT y) s := hB.2.1
  have hNw := hB.2.2.1
  have hAn : ∀ q : Nat, s.heap.size ≤ q → A q := hB.2.2.2.1
  have hAz : ¬ A z := hB.2.2.2.2.1
  have hO := hB.2.2.2.2.2.1
  have hS : va_S A s.heap s.heap [] := va_S.rf
  have hiX6 : ∀ w ∈ u_ws RX6 TX6 17, w ∈ wsX6_time := by decide +kernel
  have hl := lv_entry ([Value.ref this, Value.int p1, Value.int p2] : List Value) (n := 3) (Nat.le_of_ble_eq_true rfl)
  rw [lg_entry_eq]
  generalize (lg_sl ([Value.ref this, Value.int p1, Value.int p2] : List Value) ++ List.replicate (3 - (lg_sl ([Value.ref this, Value.int p1, Value.int p2] : List Value)).length) Slot.unset).toArray = ls at hl ⊢
  have hl : lv_has ls 3 [(0, .ref this), (1, .int p1), (2, .int p2)] := hl
  obtain ⟨Q, hQ⟩ : ∃ Q, Q = MQ below (va_Qi post (fun S' t => wd D y z S' A t.heap) A) (([Value.ref this, Value.int p1, Value.int p2] : List Value).toArray) s 0 0 A := ⟨_, rfl⟩
  rw [← hQ]
  generalize hR : (headSpec wsX6_time ({ frames := 4, cells := 0, slots := 0, locals := 91 } : Room)).room = R
  have hRf : 4 ≤ R.frames := by rw [← hR]; exact Nat.le_refl _
  have hRl : 91 ≤ R.locals := by rw [← hR]; exact Nat.le_refl _
  have hret : ∀ (v : Int32) (S : bS) (H : Heap) (locs : List Loc) (pc : Nat) (ls : Array Slot) , post v S → wd D y z S A H → va_S A s.heap H locs → decode cX6_time pc = .ok (.ireturn, 1) → W p l e R s m (([Value.ref this, Value.int p1, Value.int p2] : List Value).toArray) below meth c H locs 0 0 Q (F0 m pc ls [.int v]) := by
    intro v S H locs pc ls h hw hS d0
    rw [hQ]; exact W.iret hx hb hr (fun t ht hW => ⟨⟨v, S, rfl, h, by show wd D y z S A t.heap; rw [ht]; exact hw⟩, hS.F ht⟩) hS.2.2 d0 hlocks
  have hB21 : ∀ (S : bS) (H : Heap) (locs : List Loc) (ls : Array Slot) (v0 : Nat), wb_X6_time_21 post v0 S → wd D y z S A H → va_S A s.heap H locs → lv_has ls 3 [(0, .ref v0)] → W p l e R s m (([Value.ref this, Value.int p1, Value.int p2] : List Value).toArray) below meth c H locs 0 0 Q (F0 m 21 ls []) := by
    intro S H locs ls v0 h hw hS hl
    unfold wb_X6_time_21 at h
    refine lv_aload_n hx hb dX6_time_21 rfl (lv_at hl 0 rfl) ?_
    refine lv_iconst (v := (1 : Int32)) hx hb dX6_time_22 (by decide) ?_
    obtain ⟨hk15, h⟩ := h
    have h1 := h
    refine va_calli (va_runV (As := [.int (1 : Int32)]) (rest := []) ⟨hx, hb, hml, hown, hts⟩ (m_X6_fail (l := l) h1) (cwV 1 hts gX6_time_X6_fail rfl rfl rfl (by decide +kernel) ⟨Nat.le_trans (Nat.le_of_ble_eq_true rfl) hRf, Nat.le_trans (Nat.le_of_ble_eq_true rfl) hRl⟩) (r_pV hB hw hS (ce_8 (S := S) hk15) rfl) rfl rfl hl.1 rfl (lv_room (Nat.le_of_ble_eq_true rfl)) dX6_time_23 ⟨Nat.zero_le _, Nat.zero_le _⟩) hS (fun _ _ h => h) (fun _ h => h) (fun r16 S17 t H1 locs ht _ h hw1 _ _ hS => ?_)
    subst ht
    have hw : wd D y z S17 A t.heap := hw1
    clear hw1 h1
    exact hret r16 _ _ _ _ _ h hw hS dX6_time_26
  unfold wp_X6_time at h
  refine lv_aload_n hx hb dX6_time_0 rfl (lv_at hl 0 rfl) ?_
  refine lv_iconst (v := (0 : Int32)) hx hb dX6_time_1 (by decide) ?_
  obtain ⟨hk1, h⟩ := h
  refine r_putI (κ := 8) (ci := 7) (C := RX6) (T := TX6) (N := 17) (ty := .int) (x := (0 : Int32)) hx hb hts hiX6 tyX6 tyX6_ok nmX6 hown hK hw hS (ce_8 (S := S) hk1) rfl 0 (by decide) (hts (.fieldLink RX6 31 "TubePostModel" "thrown" "I") (by decide +kernel)) (fun _ h9 => h9) rfl (by decide +kernel) rfl rfl (Nat.le_of_ble_eq_true rfl) (pu_8_0 (S := S) hk1) dX6_time_2 (fun H locs hw hS => ?_)
  refine lv_aload_n hx hb dX6_time_5 rfl (lv_at hl 0 rfl) ?_
  refine lv_iload_n hx hb dX6_time_6 rfl (lv_at hl 1 rfl) ?_
  have h1 := h
  refine va_calli (va_runV (As := [.int p1]) (rest := []) ⟨hx, hb, hml, hown, hts⟩ (m_X6_isStation (l := l) h1) (cwV 1 hts gX6_time_X6_isStation rfl rfl rfl (by decide +kernel) ⟨Nat.le_trans (Nat.le_of_ble_eq_true rfl) hRf, Nat.le_trans (Nat.le_of_ble_eq_true rfl) hRl⟩) (r_pV hB hw hS (ce_8 (S := (sV S 8 this 0 (0 : Int32))) hk1) rfl) rfl rfl hl.1 rfl (lv_room (Nat.le_of_ble_eq_true rfl)) dX6_time_7 ⟨Nat.zero_le _, Nat.zero_le _⟩) hS (fun _ _ h => h) (fun _ h => h) (fun r2 S3 t H1 locs ht _ h hw1 _ _ hS => ?_)
  subst ht
  have hw : wd D y z S3 A t.heap := hw1
  clear hw1 h1
  refine lv_if_eq (tgt := 21) hx hb dX6_time_10 (by decide) (fun hc => ?_) (fun hc => ?_)
  · have h := h.1 hc
    exact hB21 _ _ _ _ _ h hw hS (lv_sub hl [0] rfl)
  · have h := h.2 hc
    refine lv_aload_n hx hb dX6_time_13 rfl (lv_at hl 0 rfl) ?_
    refine lv_iload_n hx hb dX6_time_14 rfl (lv_at hl 2 rfl) ?_
    obtain ⟨hk4, h⟩ := h
    have h1 := h
    refine va_calli (va_runV (As := [.int p2]) (rest := []) ⟨hx, hb, hml, hown, hts⟩ (m_X6_isStation (l := l) h1) (cwV 1 hts gX6_time_X6_isStation rfl rfl rfl (by decide +kernel) ⟨Nat.le_trans (Nat.le_of_ble_eq_true rfl) hRf, Nat.le_trans (Nat.le_of_ble_eq_true rfl) hRl⟩) (r_pV hB hw hS (ce_8 (S := S3) hk4) rfl) rfl rfl hl.1 rfl (lv_room (Nat.le_of_ble_eq_true rfl)) dX6_time_15 ⟨Nat.zero_le _, Nat.zero_le _⟩) hS (fun _ _ h => h) (fun _ h => h) (fun r5 S6 t H1 locs ht _ h hw1 _ _ hS => ?_)
    subst ht
    have hw : wd D y z S6 A t.heap := hw1
    clear hw1 h1
    refine lv_if_ne (tgt := 27) hx hb dX6_time_18 (by decide) (fun hc => ?_) (fun hc => ?_)
    · have h := h.1 hc
      refine lv_aload_n hx hb dX6_time_27 rfl (lv_at hl 0 rfl) ?_
      refine lv_iload_n hx hb dX6_time_28 rfl (lv_at hl 2 rfl) ?_
      obtain ⟨hk7, h⟩ := h
      have h1 := h
      refine va_callv (va_runV (As := [.int p2]) (rest := []) ⟨hx, hb, hml, hown, hts⟩ (m_X6_findTimes (l := l) h1) (cwV 1 hts gX6_time_X6_findTimes rfl rfl rfl (by decide +kernel) ⟨Nat.le_trans (Nat.le_of_ble_eq_true rfl) hRf, Nat.le_trans (Nat.le_of_ble_eq_true rfl) hRl⟩) (r_pV hB hw hS (ce_8 (S := S6) hk7) rfl) rfl rfl hl.1 rfl (lv_room (Nat.le_of_ble_eq_true rfl)) dX6_time_29 ⟨Nat.zero_le _, Nat.zero_le _⟩) hS (fun _ _ h => h) (fun _ h => h) (fun S9 t H1 locs ht _ h hw1 _ _ hS => ?_)
      subst ht
      have hw : wd D y z S9 A t.heap := hw1
      clear hw1 h1
      refine lv_aload_n hx hb dX6_time_32 rfl (lv_at hl 0 rfl) ?_
      obtain ⟨hk10, h⟩ := h
      obtain ⟨b11, hb12, h⟩ := h
      refine r_get (ci := 7) (v := .ref b11) (C := RX6) (T := TX6) (N := 17) hx hb hts hiX6 hown hK hw (ce_8 (S := S9) hk10) rfl 15 (by decide) (hts (.fieldLink RX6 25 "TubePostModel" "times" "[I") (by decide +kernel)) (fun _ h9 => h9) (congrArg (fun q => some (va_rf q)) hb12) dX6_time_33 ?_
      refine lv_iload_n hx hb dX6_time_36 rfl (lv_at hl 1 rfl) ?_
      obtain ⟨hk13, h⟩ := h
      obtain ⟨hin14, h⟩ := h
      refine r_iald hx hb hK hw hk13 hin14 dX6_time_37 ?_
      exact hret (gV S9 9 b11 (Int32.toNatClampNeg p1)) _ _ _ _ _ h hw hS dX6_time_38
    · have h := h.2 hc
      exact hB21 _ _ _ _ _ h hw hS (lv_sub hl [0] rfl)
def wb_X6_next_21 (post : Int32 → bS → Prop) (v0 : Nat) (S : bS) : Prop := gK S v0 = 8 ∧ (wp_X6_fail (fun r11 S12 => post r11 S12) v0 (1 : Int32) S)
def wb_X6_next_42 (post : Int32 → bS → Prop) (s0 : Int32) (S : bS) : Prop := post s0 S
def wp_X6_next (post : Int32 → bS → Prop) (this : Nat) (p1 : Int32) (p2 : Int32) (S : bS) : Prop := gK S this = 8 ∧ (wp_X6_isStation (fun r2 S3 => (r2 = (0 : Int32) → wb_X6_next_21 post this S3) ∧ (¬ (r2 = (0 : Int32)) → gK S3 this = 8 ∧ (wp_X6_isStation (fun r5 S6 => (r5 ≠ (0 : Int32) → (p1 ≠ p2 → gK S6 this = 8 ∧ (wp_X6_chosen (fun r8 S9 => wb_X6_next_42 post r8 S9) this p1 p2 S6)) ∧ (p1 = p2 → wb_X6_next_42 post (-1 : Int32) S6)) ∧ (r5 = (0 : Int32) → wb_X6_next_21 post this S6)) this p2 S3))) this p1 (sV S 8 this 0 (0 : Int32)))
set_option maxHeartbeats 4000000 in
set_option maxRecDepth 100000 in
theorem m_X6_next {l : Launch} {D : va_G} {y : Nat → ClassId} {z : Nat} {A : Nat → Prop} {S : bS} {post : Int32 → bS → Prop} {this : Nat} {p1 : Int32} {p2 : Int32} (h : wp_X6_next post this p1 p2 S) : Met l yX6_next wsX6_next ({ frames := 5, cells := 0, slots := 0, locals := 117 } : Room) (va_Pc ([Value.ref this, Value.int p1, Value.int p2] : List Value) (bP D y z S A)) (va_Qi post (fun S' t => wd D y z S' A t.heap) A) 0 0 A := by
  refine Met.ofW (cc := cX6_next) (maxL := 3) (ret := (some .int)) (by decide) rfl ?_
  intro p e s m args below meth c s₁ B hml hv
  obtain ⟨rfl, hB⟩ := hv
  have hx := B.exec
  have hb := B.bytes
  have hr := B.returns
  have hts := atoms_spec (ws := wsX6_next) B.pre
  have hown : s.vm.findClass RX6 = some m.cls := findClass_of_methodNamed B.named
  have hlocks := B.notSynchronized
  have hw : wd D y z S A s.heap := hB.1
  have hK : va_K D bCl (bT y) s := hB.2.1
  have hNw := hB.2.2.1
  have hAn : ∀ q : Nat, s.heap.size ≤ q → A q := hB.2.2.2.1
  have hAz : ¬ A z := hB.2.2.2.2.1
  have hO := hB.2.2.2.2.2.1
  have hS : va_S A s.heap s.heap [] := va_S.rf
  have hiX6 : ∀ w ∈ u_ws RX6 TX6 17, w ∈ wsX6_next := by decide +kernel
  have hl := lv_entry ([Value.ref this, Value.int p1, Value.int p2] : List Value) (n := 3) (Nat.le_of_ble_eq_true rfl)
  rw [lg_entry_eq]
  generalize (lg_sl ([Value.ref this, Value.int p1, Value.int p2] : List Value) ++ List.replicate (3 - (lg_sl ([Value.ref this, Value.int p1, Value.int p2] : List Value)).length) Slot.unset).toArray = ls at hl ⊢
  have hl : lv_has ls 3 [(0, .ref this), (1, .int p1), (2, .int p2)] := hl
  obtain ⟨Q, hQ⟩ : ∃ Q, Q = MQ below (va_Qi post (fun S' t => wd D y z S' A t.heap) A) (([Value.ref this, Value.int p1, Value.int p2] : List Value).toArray) s 0 0 A := ⟨_, rfl⟩
  rw [← hQ]
  generalize hR : (headSpec wsX6_next ({ frames := 5, cells := 0, slots := 0, locals := 117 } : Room)).room = R
  have hRf : 5 ≤ R.frames := by rw [← hR]; exact Nat.le_refl _
  have hRl : 117 ≤ R.locals := by rw [← hR]; exact Nat.le_refl _
  have hret : ∀ (v : Int32) (S : bS) (H : Heap) (locs : List Loc) (pc : Nat) (ls : Array Slot) , post v S → wd D y z S A H → va_S A s.heap H locs → decode cX6_next pc = .ok (.ireturn, 1) → W p l e R s m (([Value.ref this, Value.int p1, Value.int p2] : List Value).toArray) below meth c H locs 0 0 Q (F0 m pc ls [.int v]) := by
    intro v S H locs pc ls h hw hS d0
    rw [hQ]; exact W.iret hx hb hr (fun t ht hW => ⟨⟨v, S, rfl, h, by show wd D y z S A t.heap; rw [ht]; exact hw⟩, hS.F ht⟩) hS.2.2 d0 hlocks
  have hB21 : ∀ (S : bS) (H : Heap) (locs : List Loc) (ls : Array Slot) (v0 : Nat), wb_X6_next_21 post v0 S → wd D y z S A H → va_S A s.heap H locs → lv_has ls 3 [(0, .ref v0)] → W p l e R s m (([Value.ref this, Value.int p1, Value.int p2] : List Value).toArray) below meth c H locs 0 0 Q (F0 m 21 ls []) := by
    intro S H locs ls v0 h hw hS hl
    unfold wb_X6_next_21 at h
    refine lv_aload_n hx hb dX6_next_21 rfl (lv_at hl 0 rfl) ?_
    refine lv_iconst (v := (1 : Int32)) hx hb dX6_next_22 (by decide) ?_
    obtain ⟨hk10, h⟩ := h
    have h1 := h
    refine va_calli (va_runV (As := [.int (1 : Int32)]) (rest := []) ⟨hx, hb, hml, hown, hts⟩ (m_X6_fail (l := l) h1) (cwV 1 hts gX6_next_X6_fail rfl rfl rfl (by decide +kernel) ⟨Nat.le_trans (Nat.le_of_ble_eq_true rfl) hRf, Nat.le_trans (Nat.le_of_ble_eq_true rfl) hRl⟩) (r_pV hB hw hS (ce_8 (S := S) hk10) rfl) rfl rfl hl.1 rfl (lv_room (Nat.le_of_ble_eq_true rfl)) dX6_next_23 ⟨Nat.zero_le _, Nat.zero_le _⟩) hS (fun _ _ h => h) (fun _ h => h) (fun r11 S12 t H1 locs ht _ h hw1 _ _ hS => ?_)
    subst ht
    have hw : wd D y z S12 A t.heap := hw1
    clear hw1 h1
    exact hret r11 _ _ _ _ _ h hw hS dX6_next_26
  have hB42 : ∀ (S : bS) (H : Heap) (locs : List Loc) (ls : Array Slot) (s0 : Int32), wb_X6_next_42 post s0 S → wd D y z S A H → va_S A s.heap H locs → lv_has ls 3 [] → W p l e R s m (([Value.ref this, Value.int p1, Value.int p2] : List Value).toArray) below meth c H locs 0 0 Q (F0 m 42 ls [.int s0]) := by
    intro S H locs ls s0 h hw hS hl
    unfold wb_X6_next_42 at h
    exact hret s0 _ _ _ _ _ h hw hS dX6_next_42
  unfold wp_X6_next at h
  refine lv_aload_n hx hb dX6_next_0 rfl (lv_at hl 0 rfl) ?_
  refine lv_iconst (v := (0 : Int32)) hx hb dX6_next_1 (by decide) ?_
  obtain ⟨hk1, h⟩ := h
  refine r_putI (κ := 8) (ci := 7) (C := RX6) (T := TX6) (N := 17) (ty := .int) (x := (0 : Int32)) hx hb hts hiX6 tyX6 tyX6_ok nmX6 hown hK hw hS (ce_8 (S := S) hk1) rfl 0 (by decide) (hts (.fieldLink RX6 31 "TubePostModel" "thrown" "I") (by decide +kernel)) (fun _ h9 => h9) rfl (by decide +kernel) rfl rfl (Nat.le_of_ble_eq_true rfl) (pu_8_0 (S := S) hk1) dX6_next_2 (fun H locs hw hS => ?_)
  refine lv_aload_n hx hb dX6_next_5 rfl (lv_at hl 0 rfl) ?_
  refine lv_iload_n hx hb dX6_next_6 rfl (lv_at hl 1 rfl) ?_
  have h1 := h
  refine va_calli (va_runV (As := [.int p1]) (rest := []) ⟨hx, hb, hml, hown, hts⟩ (m_X6_isStation (l := l) h1) (cwV 1 hts gX6_next_X6_isStation rfl rfl rfl (by decide +kernel) ⟨Nat.le_trans (Nat.le_of_ble_eq_true rfl) hRf, Nat.le_trans (Nat.le_of_ble_eq_true rfl) hRl⟩) (r_pV hB hw hS (ce_8 (S := (sV S 8 this 0 (0 : Int32))) hk1) rfl) rfl rfl hl.1 rfl (lv_room (Nat.le_of_ble_eq_true rfl)) dX6_next_7 ⟨Nat.zero_le _, Nat.zero_le _⟩) hS (fun _ _ h => h) (fun _ h => h) (fun r2 S3 t H1 locs ht _ h hw1 _ _ hS => ?_)
  subst ht
  have hw : wd D y z S3 A t.heap := hw1
  clear hw1 h1
  refine lv_if_eq (tgt := 21) hx hb dX6_next_10 (by decide) (fun hc => ?_) (fun hc => ?_)
  · have h := h.1 hc
    exact hB21 _ _ _ _ _ h hw hS (lv_sub hl [0] rfl)
  · have h := h.2 hc
    refine lv_aload_n hx hb dX6_next_13 rfl (lv_at hl 0 rfl) ?_
    refine lv_iload_n hx hb dX6_next_14 rfl (lv_at hl 2 rfl) ?_
    obtain ⟨hk4, h⟩ := h
    have h1 := h
    refine va_calli (va_runV (As := [.int p2]) (rest := []) ⟨hx, hb, hml, hown, hts⟩ (m_X6_isStation (l := l) h1) (cwV 1 hts gX6_next_X6_isStation rfl rfl rfl (by decide +kernel) ⟨Nat.le_trans (Nat.le_of_ble_eq_true rfl) hRf, Nat.le_trans (Nat.le_of_ble_eq_true rfl) hRl⟩) (r_pV hB hw hS (ce_8 (S := S3) hk4) rfl) rfl rfl hl.1 rfl (lv_room (Nat.le_of_ble_eq_true rfl)) dX6_next_15 ⟨Nat.zero_le _, Nat.zero_le _⟩) hS (fun _ _ h => h) (fun _ h => h) (fun r5 S6 t H1 locs ht _ h hw1 _ _ hS => ?_)
    subst ht
    have hw : wd D y z S6 A t.heap := hw1
    clear hw1 h1
    refine lv_if_ne (tgt := 27) hx hb dX6_next_18 (by decide) (fun hc => ?_) (fun hc => ?_)
    · have h := h.1 hc
      refine lv_iload_n hx hb dX6_next_27 rfl (lv_at hl 1 rfl) ?_
      refine lv_iload_n hx hb dX6_next_28 rfl (lv_at hl 2 rfl) ?_
      refine lv_icmp_ne (tgt := 36) hx hb dX6_next_29 (by decide) (fun hc => ?_) (fun hc => ?_)
      · have h := h.1 hc
        refine lv_aload_n hx hb dX6_next_36 rfl (lv_at hl 0 rfl) ?_
        refine lv_iload_n hx hb dX6_next_37 rfl (lv_at hl 1 rfl) ?_
        refine lv_iload_n hx hb dX6_next_38 rfl (lv_at hl 2 rfl) ?_
        obtain ⟨hk7, h⟩ := h
        have h1 := h
        refine va_calli (va_runV (As := [.int p1, .int p2]) (rest := []) ⟨hx, hb, hml, hown, hts⟩ (m_X6_chosen (l := l) h1) (cwV 2 hts gX6_next_X6_chosen rfl rfl rfl (by decide +kernel) ⟨Nat.le_trans (Nat.le_of_ble_eq_true rfl) hRf, Nat.le_trans (Nat.le_of_ble_eq_true rfl) hRl⟩) (r_pV hB hw hS (ce_8 (S := S6) hk7) rfl) rfl rfl hl.1 rfl (lv_room (Nat.le_of_ble_eq_true rfl)) dX6_next_39 ⟨Nat.zero_le _, Nat.zero_le _⟩) hS (fun _ _ h => h) (fun _ h => h) (fun r8 S9 t H1 locs ht _ h hw1 _ _ hS => ?_)
        subst ht
        have hw : wd D y z S9 A t.heap := hw1
        clear hw1 h1
        exact hB42 _ _ _ _ _ h hw hS (lv_sub hl [] rfl)
      · have h := h.2 hc
        refine lv_iconst (v := (-1 : Int32)) hx hb dX6_next_32 (by decide) ?_
        refine lv_goto (tgt := 42) hx hb dX6_next_33 (by decide) ?_
        exact hB42 _ _ _ _ _ h hw hS (lv_sub hl [] rfl)
    · have h := h.2 hc
      exact hB21 _ _ _ _ _ h hw hS (lv_sub hl [0] rfl)
def wb_X6_pairs_48 (post : Int32 → bS → Prop) (rec4 : Nat → Int32 → Int32 → bS → Prop) (rec19 : Nat → Int32 → Int32 → Int32 → bS → Prop) (v0 : Nat) (v2 : Int32) (v3 : Int32) (s0 : Int32) (s1 : Int32) (S : bS) : Prop := rec19 v0 (s1 + s0) v2 (v3 + (1 : Int32)) S
def wb_X6_pairs_47 (post : Int32 → bS → Prop) (rec4 : Nat → Int32 → Int32 → bS → Prop) (rec19 : Nat → Int32 → Int32 → Int32 → bS → Prop) (v0 : Nat) (v2 : Int32) (v3 : Int32) (s0 : Int32) (S : bS) : Prop := wb_X6_pairs_48 post rec4 rec19 v0 v2 v3 (0 : Int32) s0 S
def wb_X6_pairs_19 (post : Int32 → bS → Prop) (rec4 : Nat → Int32 → Int32 → bS → Prop) : Nat → Nat → Int32 → Int32 → Int32 → bS → Prop
  | 0, _, _, _, _, _ => False
  | n + 1, v0, v1, v2, v3, S => gK S v0 = 8 ∧ (((gV S 8 v0 2) ≤ v3 → rec4 v0 v1 (v2 + (1 : Int32)) S) ∧ (¬ ((gV S 8 v0 2) ≤ v3) → (v3 = v2 → wb_X6_pairs_47 post rec4 (wb_X6_pairs_19 post rec4 n) v0 v2 v3 v1 S) ∧ (¬ (v3 = v2) → ∃ b5, gQ S 8 v0 15 = some b5 ∧ (gK S b5 = 9 ∧ (vp_in v3 (gN S b5) ∧ (((gV S 9 b5 (Int32.toNatClampNeg v3)) = (-1 : Int32) → wb_X6_pairs_47 post rec4 (wb_X6_pairs_19 post rec4 n) v0 v2 v3 v1 S) ∧ (¬ ((gV S 9 b5 (Int32.toNatClampNeg v3)) = (-1 : Int32)) → wb_X6_pairs_48 post rec4 (wb_X6_pairs_19 post rec4 n) v0 v2 v3 (1 : Int32) v1 S)))))))
def wb_X6_pairs_4 (post : Int32 → bS → Prop) : Nat → Nat → Int32 → Int32 → bS → Prop
  | 0, _, _, _, _ => False
  | n + 1, v0, v1, v2, S => gK S v0 = 8 ∧ (((gV S 8 v0 2) ≤ v2 → post v1 S) ∧ (¬ ((gV S 8 v0 2) ≤ v2) → wp_X6_findTimes (fun S3 => ∃ n19, wb_X6_pairs_19 post (wb_X6_pairs_4 post n) n19 v0 v1 v2 (0 : Int32) S3) v0 v2 S))
def wp_X6_pairs (post : Int32 → bS → Prop) (this : Nat) (S : bS) : Prop := ∃ n4, wb_X6_pairs_4 post n4 this (0 : Int32) (0 : Int32) S
set_option maxHeartbeats 4000000 in
set_option maxRecDepth 100000 in
theorem m_X6_pairs {l : Launch} {D : va_G} {y : Nat → ClassId} {z : Nat} {A : Nat → Prop} {S : bS} {post : Int32 → bS → Prop} {this : Nat} (h : wp_X6_pairs post this S) : Met l yX6_pairs wsX6_pairs ({ frames := 4, cells := 0, slots := 0, locals := 91 } : Room) (va_Pc ([Value.ref this] : List Value) (bP D y z S A)) (va_Qi post (fun S' t => wd D y z S' A t.heap) A) 0 0 A := by
  refine Met.ofW (cc := cX6_pairs) (maxL := 4) (ret := (some .int)) (by decide) rfl ?_
  intro p e s m args below meth c s₁ B hml hv
  obtain ⟨rfl, hB⟩ := hv
  have hx := B.exec
  have hb := B.bytes
  have hr := B.returns
  have hts := atoms_spec (ws := wsX6_pairs) B.pre
  have hown : s.vm.findClass RX6 = some m.cls := findClass_of_methodNamed B.named
  have hlocks := B.notSynchronized
  have hw : wd D y z S A s.heap := hB.1
  have hK : va_K D bCl (bT y) s := hB.2.1
  have hNw := hB.2.2.1
  have hAn : ∀ q : Nat, s.heap.size ≤ q → A q := hB.2.2.2.1
  have hAz : ¬ A z := hB.2.2.2.2.1
  have hO := hB.2.2.2.2.2.1
  have hS : va_S A s.heap s.heap [] := va_S.rf
  have hiX6 : ∀ w ∈ u_ws RX6 TX6 17, w ∈ wsX6_pairs := by decide +kernel
  have hl := lv_entry ([Value.ref this] : List Value) (n := 4) (Nat.le_of_ble_eq_true rfl)
  rw [lg_entry_eq]
  generalize (lg_sl ([Value.ref this] : List Value) ++ List.replicate (4 - (lg_sl ([Value.ref this] : List Value)).length) Slot.unset).toArray = ls at hl ⊢
  have hl : lv_has ls 4 [(0, .ref this)] := hl
  obtain ⟨Q, hQ⟩ : ∃ Q, Q = MQ below (va_Qi post (fun S' t => wd D y z S' A t.heap) A) (([Value.ref this] : List Value).toArray) s 0 0 A := ⟨_, rfl⟩
  rw [← hQ]
  generalize hR : (headSpec wsX6_pairs ({ frames := 4, cells := 0, slots := 0, locals := 91 } : Room)).room = R
  have hRf : 4 ≤ R.frames := by rw [← hR]; exact Nat.le_refl _
  have hRl : 91 ≤ R.locals := by rw [← hR]; exact Nat.le_refl _
  have hret : ∀ (v : Int32) (S : bS) (H : Heap) (locs : List Loc) (pc : Nat) (ls : Array Slot) , post v S → wd D y z S A H → va_S A s.heap H locs → decode cX6_pairs pc = .ok (.ireturn, 1) → W p l e R s m (([Value.ref this] : List Value).toArray) below meth c H locs 0 0 Q (F0 m pc ls [.int v]) := by
    intro v S H locs pc ls h hw hS d0
    rw [hQ]; exact W.iret hx hb hr (fun t ht hW => ⟨⟨v, S, rfl, h, by show wd D y z S A t.heap; rw [ht]; exact hw⟩, hS.F ht⟩) hS.2.2 d0 hlocks
  have hB4 : ∀ (n4 : Nat) (S : bS) (H : Heap) (locs : List Loc) (ls : Array Slot) (v0 : Nat) (v1 : Int32) (v2 : Int32), wb_X6_pairs_4 post n4 v0 v1 v2 S → wd D y z S A H → va_S A s.heap H locs → lv_has ls 4 [(0, .ref v0), (1, .int v1), (2, .int v2)] → W p l e R s m (([Value.ref this] : List Value).toArray) below meth c H locs 0 0 Q (F0 m 4 ls []) := by
    intro n4
    induction n4 with
    | zero =>
      intro S H locs ls v0 v1 v2 h hw hS hl
      exact absurd h (by unfold wb_X6_pairs_4; exact id)
    | succ n4 ih4 =>
      have hB19 : ∀ (n19 : Nat) (S : bS) (H : Heap) (locs : List Loc) (ls : Array Slot) (v0 : Nat) (v1 : Int32) (v2 : Int32) (v3 : Int32), wb_X6_pairs_19 post (wb_X6_pairs_4 post n4) n19 v0 v1 v2 v3 S → wd D y z S A H → va_S A s.heap H locs → lv_has ls 4 [(0, .ref v0), (1, .int v1), (2, .int v2), (3, .int v3)] → W p l e R s m (([Value.ref this] : List Value).toArray) below meth c H locs 0 0 Q (F0 m 19 ls []) := by
        intro n19
        induction n19 with
        | zero =>
          intro S H locs ls v0 v1 v2 v3 h hw hS hl
          exact absurd h (by unfold wb_X6_pairs_19; exact id)
        | succ n19 ih19 =>
          have hB48 : ∀ (S : bS) (H : Heap) (locs : List Loc) (ls : Array Slot) (v0 : Nat) (v2 : Int32) (v3 : Int32) (s0 : Int32) (s1 : Int32), wb_X6_pairs_48 post (wb_X6_pairs_4 post n4) (wb_X6_pairs_19 post (wb_X6_pairs_4 post n4) n19) v0 v2 v3 s0 s1 S → wd D y z S A H → va_S A s.heap H locs → lv_has ls 4 [(0, .ref v0), (2, .int v2), (3, .int v3)] → W p l e R s m (([Value.ref this] : List Value).toArray) below meth c H locs 0 0 Q (F0 m 48 ls [.int s0, .int s1]) := by
            intro S H locs ls v0 v2 v3 s0 s1 h hw hS hl
            unfold wb_X6_pairs_48 at h
            refine lv_iadd hx hb dX6_pairs_48 ?_
            refine lv_istore_n hx hb dX6_pairs_49 rfl hl (by decide) rfl (fun ls hl => ?_)
            have hl : lv_has ls 4 [(1, .int (s1 + s0)), (0, .ref v0), (2, .int v2), (3, .int v3)] := hl
            refine lv_iinc (v := (v3 + (1 : Int32))) hx hb dX6_pairs_50 hl (k := 3) rfl rfl (by decide) rfl (fun ls hl => ?_)
            have hl : lv_has ls 4 [(3, .int (v3 + (1 : Int32))), (1, .int (s1 + s0)), (0, .ref v0), (2, .int v2)] := hl
            refine lv_goto (tgt := 19) hx hb dX6_pairs_53 (by decide) ?_
            exact ih19 _ _ _ _ _ _ _ _ h hw hS (lv_sub hl [2, 1, 3, 0] rfl)
          have hB47 : ∀ (S : bS) (H : Heap) (locs : List Loc) (ls : Array Slot) (v0 : Nat) (v2 : Int32) (v3 : Int32) (s0 : Int32), wb_X6_pairs_47 post (wb_X6_pairs_4 post n4) (wb_X6_pairs_19 post (wb_X6_pairs_4 post n4) n19) v0 v2 v3 s0 S → wd D y z S A H → va_S A s.heap H locs → lv_has ls 4 [(0, .ref v0), (2, .int v2), (3, .int v3)] → W p l e R s m (([Value.ref this] : List Value).toArray) below meth c H locs 0 0 Q (F0 m 47 ls [.int s0]) := by
            intro S H locs ls v0 v2 v3 s0 h hw hS hl
            unfold wb_X6_pairs_47 at h
            refine lv_iconst (v := (0 : Int32)) hx hb dX6_pairs_47 (by decide) ?_
            exact hB48 _ _ _ _ _ _ _ _ _ h hw hS (lv_sub hl [0, 1, 2] rfl)
          intro S H locs ls v0 v1 v2 v3 h hw hS hl
          unfold wb_X6_pairs_19 at h
          refine lv_iload_n hx hb dX6_pairs_19 rfl (lv_at hl 3 rfl) ?_
          refine lv_aload_n hx hb dX6_pairs_20 rfl (lv_at hl 0 rfl) ?_
          obtain ⟨hk4, h⟩ := h
          refine r_get (ci := 7) (v := .int (gV S 8 v0 2)) (C := RX6) (T := TX6) (N := 17) hx hb hts hiX6 hown hK hw (ce_8 (S := S) hk4) rfl 2 (by decide) (hts (.fieldLink RX6 35 "TubePostModel" "stations" "I") (by decide +kernel)) (fun _ h9 => h9) rfl dX6_pairs_21 ?_
          refine lv_icmp_ge (tgt := 56) hx hb dX6_pairs_24 (by decide) (fun hc => ?_) (fun hc => ?_)
          · have h := h.1 hc
            refine lv_iinc (v := (v2 + (1 : Int32))) hx hb dX6_pairs_56 hl (k := 2) rfl rfl (by decide) rfl (fun ls hl => ?_)
            have hl : lv_has ls 4 [(2, .int (v2 + (1 : Int32))), (0, .ref v0), (1, .int v1), (3, .int v3)] := hl
            refine lv_goto (tgt := 4) hx hb dX6_pairs_59 (by decide) ?_
            exact ih4 _ _ _ _ _ _ _ h hw hS (lv_sub hl [1, 2, 0] rfl)
          · have h := h.2 hc
            refine lv_iload_n hx hb dX6_pairs_27 rfl (lv_at hl 1 rfl) ?_
            refine lv_iload_n hx hb dX6_pairs_28 rfl (lv_at hl 3 rfl) ?_
            refine lv_iload_n hx hb dX6_pairs_29 rfl (lv_at hl 2 rfl) ?_
            refine lv_icmp_eq (tgt := 47) hx hb dX6_pairs_30 (by decide) (fun hc => ?_) (fun hc => ?_)
            · have h := h.1 hc
              exact hB47 _ _ _ _ _ _ _ _ h hw hS (lv_sub hl [0, 2, 3] rfl)
            · have h := h.2 hc
              refine lv_aload_n hx hb dX6_pairs_33 rfl (lv_at hl 0 rfl) ?_
              obtain ⟨b5, hb6, h⟩ := h
              refine r_get (ci := 7) (v := .ref b5) (C := RX6) (T := TX6) (N := 17) hx hb hts hiX6 hown hK hw (ce_8 (S := S) hk4) rfl 15 (by decide) (hts (.fieldLink RX6 25 "TubePostModel" "times" "[I") (by decide +kernel)) (fun _ h9 => h9) (congrArg (fun q => some (va_rf q)) hb6) dX6_pairs_34 ?_
              refine lv_iload_n hx hb dX6_pairs_37 rfl (lv_at hl 3 rfl) ?_
              obtain ⟨hk7, h⟩ := h
              obtain ⟨hin8, h⟩ := h
              refine r_iald hx hb hK hw hk7 hin8 dX6_pairs_38 ?_
              refine lv_iconst (v := (-1 : Int32)) hx hb dX6_pairs_39 (by decide) ?_
              refine lv_icmp_eq (tgt := 47) hx hb dX6_pairs_40 (by decide) (fun hc => ?_) (fun hc => ?_)
              · have h := h.1 hc
                exact hB47 _ _ _ _ _ _ _ _ h hw hS (lv_sub hl [0, 2, 3] rfl)
              · have h := h.2 hc
                refine lv_iconst (v := (1 : Int32)) hx hb dX6_pairs_43 (by decide) ?_
                refine lv_goto (tgt := 48) hx hb dX6_pairs_44 (by decide) ?_
                exact hB48 _ _ _ _ _ _ _ _ _ h hw hS (lv_sub hl [0, 2, 3] rfl)
      intro S H locs ls v0 v1 v2 h hw hS hl
      unfold wb_X6_pairs_4 at h
      refine lv_iload_n hx hb dX6_pairs_4 rfl (lv_at hl 2 rfl) ?_
      refine lv_aload_n hx hb dX6_pairs_5 rfl (lv_at hl 0 rfl) ?_
      obtain ⟨hk1, h⟩ := h
      refine r_get (ci := 7) (v := .int (gV S 8 v0 2)) (C := RX6) (T := TX6) (N := 17) hx hb hts hiX6 hown hK hw (ce_8 (S := S) hk1) rfl 2 (by decide) (hts (.fieldLink RX6 35 "TubePostModel" "stations" "I") (by decide +kernel)) (fun _ h9 => h9) rfl dX6_pairs_6 ?_
      refine lv_icmp_ge (tgt := 62) hx hb dX6_pairs_9 (by decide) (fun hc => ?_) (fun hc => ?_)
      · have h := h.1 hc
        refine lv_iload_n hx hb dX6_pairs_62 rfl (lv_at hl 1 rfl) ?_
        exact hret v1 _ _ _ _ _ h hw hS dX6_pairs_63
      · have h := h.2 hc
        refine lv_aload_n hx hb dX6_pairs_12 rfl (lv_at hl 0 rfl) ?_
        refine lv_iload_n hx hb dX6_pairs_13 rfl (lv_at hl 2 rfl) ?_
        have h1 := h
        refine va_callv (va_runV (As := [.int v2]) (rest := []) ⟨hx, hb, hml, hown, hts⟩ (m_X6_findTimes (l := l) h1) (cwV 1 hts gX6_pairs_X6_findTimes rfl rfl rfl (by decide +kernel) ⟨Nat.le_trans (Nat.le_of_ble_eq_true rfl) hRf, Nat.le_trans (Nat.le_of_ble_eq_true rfl) hRl⟩) (r_pV hB hw hS (ce_8 (S := S) hk1) rfl) rfl rfl hl.1 rfl (lv_room (Nat.le_of_ble_eq_true rfl)) dX6_pairs_14 ⟨Nat.zero_le _, Nat.zero_le _⟩) hS (fun _ _ h => h) (fun _ h => h) (fun S3 t H1 locs ht _ h hw1 _ _ hS => ?_)
        subst ht
        have hw : wd D y z S3 A t.heap := hw1
        clear hw1 h1
        refine lv_iconst (v := (0 : Int32)) hx hb dX6_pairs_17 (by decide) ?_
        refine lv_istore_n hx hb dX6_pairs_18 rfl hl (by decide) rfl (fun ls hl => ?_)
        have hl : lv_has ls 4 [(3, .int (0 : Int32)), (0, .ref v0), (1, .int v1), (2, .int v2)] := hl
        obtain ⟨n19, h⟩ := h
        exact hB19 n19 _ _ _ _ _ _ _ _ h hw hS (lv_sub hl [1, 2, 3, 0] rfl)
  unfold wp_X6_pairs at h
  refine lv_iconst (v := (0 : Int32)) hx hb dX6_pairs_0 (by decide) ?_
  refine lv_istore_n hx hb dX6_pairs_1 rfl hl (by decide) rfl (fun ls hl => ?_)
  have hl : lv_has ls 4 [(1, .int (0 : Int32)), (0, .ref this)] := hl
  refine lv_iconst (v := (0 : Int32)) hx hb dX6_pairs_2 (by decide) ?_
  refine lv_istore_n hx hb dX6_pairs_3 rfl hl (by decide) rfl (fun ls hl => ?_)
  have hl : lv_has ls 4 [(2, .int (0 : Int32)), (1, .int (0 : Int32)), (0, .ref this)] := hl
  obtain ⟨n4, h⟩ := h
  exact hB4 n4 _ _ _ _ _ _ _ h hw hS (lv_sub hl [2, 1, 0] rfl)
def wp_X6_parts (post : Int32 → bS → Prop) (this : Nat) (p1 : Int32) (S : bS) : Prop := gK S this = 8 ∧ (wp_X6_isTube (fun r2 S3 => (r2 ≠ (0 : Int32) → gK S3 this = 8 ∧ (wp_X6_pairs (fun r5 S6 => gK S6 this = 8 ∧ (wp_X6_tu (fun r8 S9 => gK S9 this = 8 ∧ (∃ b11, gQ S9 8 this 10 = some b11 ∧ (gK S9 b11 = 9 ∧ (vp_in (((8 : Int32) * p1) + (5 : Int32)) (gN S9 b11) ∧ (wp_X6_pairs (fun r15 S16 => gK S16 this = 8 ∧ (∃ b18, gQ S16 8 this 10 = some b18 ∧ (gK S16 b18 = 9 ∧ (vp_in (((8 : Int32) * p1) + (5 : Int32)) (gN S16 b18) ∧ (post (r5 - r15) (sV S16 9 b18 (Int32.toNatClampNeg (((8 : Int32) * p1) + (5 : Int32))) r8)))))) this (sV S9 9 b11 (Int32.toNatClampNeg (((8 : Int32) * p1) + (5 : Int32))) (0 : Int32))))))) this p1 (5 : Int32) S6)) this S3)) ∧ (r2 = (0 : Int32) → gK S3 this = 8 ∧ (wp_X6_fail (fun r23 S24 => post r23 S24) this (1 : Int32) S3))) this p1 (sV S 8 this 0 (0 : Int32)))
set_option maxHeartbeats 4000000 in
set_option maxRecDepth 100000 in
theorem m_X6_parts {l : Launch} {D : va_G} {y : Nat → ClassId} {z : Nat} {A : Nat → Prop} {S : bS} {post : Int32 → bS → Prop} {this : Nat} {p1 : Int32} (h : wp_X6_parts post this p1 S) : Met l yX6_parts wsX6_parts ({ frames := 5, cells := 0, slots := 0, locals := 114 } : Room) (va_Pc ([Value.ref this, Value.int p1] : List Value) (bP D y z S A)) (va_Qi post (fun S' t => wd D y z S' A t.heap) A) 0 0 A := by
  refine Met.ofW (cc := cX6_parts) (maxL := 5) (ret := (some .int)) (by decide) rfl ?_
  intro p e s m args below meth c s₁ B hml hv
  obtain ⟨rfl, hB⟩ := hv
  have hx := B.exec
  have hb := B.bytes
  have hr := B.returns
  have hts := atoms_spec (ws := wsX6_parts) B.pre
  have hown : s.vm.findClass RX6 = some m.cls := findClass_of_methodNamed B.named
  have hlocks := B.notSynchronized
  have hw : wd D y z S A s.heap := hB.1
  have hK : va_K D bCl (bT y) s := hB.2.1
  have hNw := hB.2.2.1
  have hAn : ∀ q : Nat, s.heap.size ≤ q → A q := hB.2.2.2.1
  have hAz : ¬ A z := hB.2.2.2.2.1
  have hO := hB.2.2.2.2.2.1
  have hS : va_S A s.heap s.heap [] := va_S.rf
  have hiX6 : ∀ w ∈ u_ws RX6 TX6 17, w ∈ wsX6_parts := by decide +kernel
  have hl := lv_entry ([Value.ref this, Value.int p1] : List Value) (n := 5) (Nat.le_of_ble_eq_true rfl)
  rw [lg_entry_eq]
  generalize (lg_sl ([Value.ref this, Value.int p1] : List Value) ++ List.replicate (5 - (lg_sl ([Value.ref this, Value.int p1] : List Value)).length) Slot.unset).toArray = ls at hl ⊢
  have hl : lv_has ls 5 [(0, .ref this), (1, .int p1)] := hl
  obtain ⟨Q, hQ⟩ : ∃ Q, Q = MQ below (va_Qi post (fun S' t => wd D y z S' A t.heap) A) (([Value.ref this, Value.int p1] : List Value).toArray) s 0 0 A := ⟨_, rfl⟩
  rw [← hQ]
  generalize hR : (headSpec wsX6_parts ({ frames := 5, cells := 0, slots := 0, locals := 114 } : Room)).room = R
  have hRf : 5 ≤ R.frames := by rw [← hR]; exact Nat.le_refl _
  have hRl : 114 ≤ R.locals := by rw [← hR]; exact Nat.le_refl _
  have hret : ∀ (v : Int32) (S : bS) (H : Heap) (locs : List Loc) (pc : Nat) (ls : Array Slot) , post v S → wd D y z S A H → va_S A s.heap H locs → decode cX6_parts pc = .ok (.ireturn, 1) → W p l e R s m (([Value.ref this, Value.int p1] : List Value).toArray) below meth c H locs 0 0 Q (F0 m pc ls [.int v]) := by
    intro v S H locs pc ls h hw hS d0
    rw [hQ]; exact W.iret hx hb hr (fun t ht hW => ⟨⟨v, S, rfl, h, by show wd D y z S A t.heap; rw [ht]; exact hw⟩, hS.F ht⟩) hS.2.2 d0 hlocks
  unfold wp_X6_parts at h
  refine lv_aload_n hx hb dX6_parts_0 rfl (lv_at hl 0 rfl) ?_
  refine lv_iconst (v := (0 : Int32)) hx hb dX6_parts_1 (by decide) ?_
  obtain ⟨hk1, h⟩ := h
  refine r_putI (κ := 8) (ci := 7) (C := RX6) (T := TX6) (N := 17) (ty := .int) (x := (0 : Int32)) hx hb hts hiX6 tyX6 tyX6_ok nmX6 hown hK hw hS (ce_8 (S := S) hk1) rfl 0 (by decide) (hts (.fieldLink RX6 31 "TubePostModel" "thrown" "I") (by decide +kernel)) (fun _ h9 => h9) rfl (by decide +kernel) rfl rfl (Nat.le_of_ble_eq_true rfl) (pu_8_0 (S := S) hk1) dX6_parts_2 (fun H locs hw hS => ?_)
  refine lv_aload_n hx hb dX6_parts_5 rfl (lv_at hl 0 rfl) ?_
  refine lv_iload_n hx hb dX6_parts_6 rfl (lv_at hl 1 rfl) ?_
  have h1 := h
  refine va_calli (va_runV (As := [.int p1]) (rest := []) ⟨hx, hb, hml, hown, hts⟩ (m_X6_isTube (l := l) h1) (cwV 1 hts gX6_parts_X6_isTube rfl rfl rfl (by decide +kernel) ⟨Nat.le_trans (Nat.le_of_ble_eq_true rfl) hRf, Nat.le_trans (Nat.le_of_ble_eq_true rfl) hRl⟩) (r_pV hB hw hS (ce_8 (S := (sV S 8 this 0 (0 : Int32))) hk1) rfl) rfl rfl hl.1 rfl (lv_room (Nat.le_of_ble_eq_true rfl)) dX6_parts_7 ⟨Nat.zero_le _, Nat.zero_le _⟩) hS (fun _ _ h => h) (fun _ h => h) (fun r2 S3 t H1 locs ht _ h hw1 _ _ hS => ?_)
  subst ht
  have hw : wd D y z S3 A t.heap := hw1
  clear hw1 h1
  refine lv_if_ne (tgt := 19) hx hb dX6_parts_10 (by decide) (fun hc => ?_) (fun hc => ?_)
  · have h := h.1 hc
    refine lv_aload_n hx hb dX6_parts_19 rfl (lv_at hl 0 rfl) ?_
    obtain ⟨hk4, h⟩ := h
    have h1 := h
    refine va_calli (va_runV (As := []) (rest := []) ⟨hx, hb, hml, hown, hts⟩ (m_X6_pairs (l := l) h1) (cwV 0 hts gX6_parts_X6_pairs rfl rfl rfl (by decide +kernel) ⟨Nat.le_trans (Nat.le_of_ble_eq_true rfl) hRf, Nat.le_trans (Nat.le_of_ble_eq_true rfl) hRl⟩) (r_pV hB hw hS (ce_8 (S := S3) hk4) rfl) rfl rfl hl.1 rfl (lv_room (Nat.le_of_ble_eq_true rfl)) dX6_parts_20 ⟨Nat.zero_le _, Nat.zero_le _⟩) hS (fun _ _ h => h) (fun _ h => h) (fun r5 S6 t H1 locs ht _ h hw1 _ _ hS => ?_)
    subst ht
    have hw : wd D y z S6 A t.heap := hw1
    clear hw1 h1
    refine lv_istore_n hx hb dX6_parts_23 rfl hl (by decide) rfl (fun ls hl => ?_)
    have hl : lv_has ls 5 [(2, .int r5), (0, .ref this), (1, .int p1)] := hl
    refine lv_aload_n hx hb dX6_parts_24 rfl (lv_at hl 1 rfl) ?_
    refine lv_iload_n hx hb dX6_parts_25 rfl (lv_at hl 2 rfl) ?_
    refine lv_iconst (v := (5 : Int32)) hx hb dX6_parts_26 (by decide) ?_
    obtain ⟨hk7, h⟩ := h
    have h1 := h
    refine va_calli (va_runV (As := [.int p1, .int (5 : Int32)]) (rest := []) ⟨hx, hb, hml, hown, hts⟩ (m_X6_tu (l := l) h1) (cwV 2 hts gX6_parts_X6_tu rfl rfl rfl (by decide +kernel) ⟨Nat.le_trans (Nat.le_of_ble_eq_true rfl) hRf, Nat.le_trans (Nat.le_of_ble_eq_true rfl) hRl⟩) (r_pV hB hw hS (ce_8 (S := S6) hk7) rfl) rfl rfl hl.1 rfl (lv_room (Nat.le_of_ble_eq_true rfl)) dX6_parts_27 ⟨Nat.zero_le _, Nat.zero_le _⟩) hS (fun _ _ h => h) (fun _ h => h) (fun r8 S9 t H1 locs ht _ h hw1 _ _ hS => ?_)
    subst ht
    have hw : wd D y z S9 A t.heap := hw1
    clear hw1 h1
    refine lv_istore_n hx hb dX6_parts_30 rfl hl (by decide) rfl (fun ls hl => ?_)
    have hl : lv_has ls 5 [(3, .int r8), (2, .int r5), (0, .ref this), (1, .int p1)] := hl
    refine lv_aload_n hx hb dX6_parts_31 rfl (lv_at hl 2 rfl) ?_
    obtain ⟨hk10, h⟩ := h
    obtain ⟨b11, hb12, h⟩ := h
    refine r_get (ci := 7) (v := .ref b11) (C := RX6) (T := TX6) (N := 17) hx hb hts hiX6 hown hK hw (ce_8 (S := S9) hk10) rfl 10 (by decide) (hts (.fieldLink RX6 13 "TubePostModel" "tubeTable" "[I") (by decide +kernel)) (fun _ h9 => h9) (congrArg (fun q => some (va_rf q)) hb12) dX6_parts_32 ?_
    refine lv_bipush (v := (8 : Int32)) hx hb dX6_parts_35 (by decide) ?_
    refine lv_iload_n hx hb dX6_parts_37 rfl (lv_at hl 3 rfl) ?_
    refine lv_imul hx hb dX6_parts_38 ?_
    refine lv_iconst (v := (5 : Int32)) hx hb dX6_parts_39 (by decide) ?_
    refine lv_iadd hx hb dX6_parts_40 ?_
    refine lv_iconst (v := (0 : Int32)) hx hb dX6_parts_41 (by decide) ?_
    obtain ⟨hk13, h⟩ := h
    obtain ⟨hin14, h⟩ := h
    refine r_iast hx hb hK hw hS hk13 hin14 dX6_parts_42 (fun H locs hw hS => ?_)
    refine lv_iload_n hx hb dX6_parts_43 rfl (lv_at hl 1 rfl) ?_
    refine lv_aload_n hx hb dX6_parts_44 rfl (lv_at hl 2 rfl) ?_
    have h1 := h
    refine va_calli (va_runV (As := []) (rest := [.int r5]) ⟨hx, hb, hml, hown, hts⟩ (m_X6_pairs (l := l) h1) (cwV 0 hts gX6_parts_X6_pairs rfl rfl rfl (by decide +kernel) ⟨Nat.le_trans (Nat.le_of_ble_eq_true rfl) hRf, Nat.le_trans (Nat.le_of_ble_eq_true rfl) hRl⟩) (r_pV hB hw hS (ce_8 (S := (sV S9 9 b11 (Int32.toNatClampNeg (((8 : Int32) * p1) + (5 : Int32))) (0 : Int32))) hk10) rfl) rfl rfl hl.1 rfl (lv_room (Nat.le_of_ble_eq_true rfl)) dX6_parts_45 ⟨Nat.zero_le _, Nat.zero_le _⟩) hS (fun _ _ h => h) (fun _ h => h) (fun r15 S16 t H1 locs ht _ h hw1 _ _ hS => ?_)
    subst ht
    have hw : wd D y z S16 A t.heap := hw1
    clear hw1 h1
    refine lv_isub hx hb dX6_parts_48 ?_
    refine lv_istore hx hb dX6_parts_49 hl (by decide) rfl (fun ls hl => ?_)
    have hl : lv_has ls 5 [(4, .int (r5 - r15)), (3, .int r8), (2, .int r5), (0, .ref this), (1, .int p1)] := hl
    refine lv_aload_n hx hb dX6_parts_51 rfl (lv_at hl 3 rfl) ?_
    obtain ⟨hk17, h⟩ := h
    obtain ⟨b18, hb19, h⟩ := h
    refine r_get (ci := 7) (v := .ref b18) (C := RX6) (T := TX6) (N := 17) hx hb hts hiX6 hown hK hw (ce_8 (S := S16) hk17) rfl 10 (by decide) (hts (.fieldLink RX6 13 "TubePostModel" "tubeTable" "[I") (by decide +kernel)) (fun _ h9 => h9) (congrArg (fun q => some (va_rf q)) hb19) dX6_parts_52 ?_
    refine lv_bipush (v := (8 : Int32)) hx hb dX6_parts_55 (by decide) ?_
    refine lv_iload_n hx hb dX6_parts_57 rfl (lv_at hl 4 rfl) ?_
    refine lv_imul hx hb dX6_parts_58 ?_
    refine lv_iconst (v := (5 : Int32)) hx hb dX6_parts_59 (by decide) ?_
    refine lv_iadd hx hb dX6_parts_60 ?_
    refine lv_iload_n hx hb dX6_parts_61 rfl (lv_at hl 1 rfl) ?_
    obtain ⟨hk20, h⟩ := h
    obtain ⟨hin21, h⟩ := h
    refine r_iast hx hb hK hw hS hk20 hin21 dX6_parts_62 (fun H locs hw hS => ?_)
    refine lv_iload hx hb dX6_parts_63 (lv_at hl 0 rfl) ?_
    exact hret (r5 - r15) _ _ _ _ _ h hw hS dX6_parts_65
  · have h := h.2 hc
    refine lv_aload_n hx hb dX6_parts_13 rfl (lv_at hl 0 rfl) ?_
    refine lv_iconst (v := (1 : Int32)) hx hb dX6_parts_14 (by decide) ?_
    obtain ⟨hk22, h⟩ := h
    have h1 := h
    refine va_calli (va_runV (As := [.int (1 : Int32)]) (rest := []) ⟨hx, hb, hml, hown, hts⟩ (m_X6_fail (l := l) h1) (cwV 1 hts gX6_parts_X6_fail rfl rfl rfl (by decide +kernel) ⟨Nat.le_trans (Nat.le_of_ble_eq_true rfl) hRf, Nat.le_trans (Nat.le_of_ble_eq_true rfl) hRl⟩) (r_pV hB hw hS (ce_8 (S := S3) hk22) rfl) rfl rfl hl.1 rfl (lv_room (Nat.le_of_ble_eq_true rfl)) dX6_parts_15 ⟨Nat.zero_le _, Nat.zero_le _⟩) hS (fun _ _ h => h) (fun _ h => h) (fun r23 S24 t H1 locs ht _ h hw1 _ _ hS => ?_)
    subst ht
    have hw : wd D y z S24 A t.heap := hw1
    clear hw1 h1
    exact hret r23 _ _ _ _ _ h hw hS dX6_parts_18
def wp_X6_mean (post : UInt64 → bS → Prop) (this : Nat) (S : bS) : Prop := gK S this = 8 ∧ (((gV (sV S 8 this 0 (0 : Int32)) 8 this 6) ≠ (0 : Int32) → (∀ r2 : UInt64, alike64 r2 (FP.ddiv (FP.i2d (gV (sV S 8 this 0 (0 : Int32)) 8 this 7)) (FP.i2d (gV (sV S 8 this 0 (0 : Int32)) 8 this 6))) = true → (post r2 (sV S 8 this 0 (0 : Int32))))) ∧ ((gV (sV S 8 this 0 (0 : Int32)) 8 this 6) = (0 : Int32) → post FP.dconst0 (sV S 8 this 0 (0 : Int32))))
set_option maxHeartbeats 4000000 in
set_option maxRecDepth 100000 in
theorem m_X6_mean {l : Launch} {D : va_G} {y : Nat → ClassId} {z : Nat} {A : Nat → Prop} {S : bS} {post : UInt64 → bS → Prop} {this : Nat} (h : wp_X6_mean post this S) : MetD lw_cs l yX6_mean wsX6_mean ({ frames := 0, cells := 0, slots := 0, locals := 0 } : Room) (va_Pc ([Value.ref this] : List Value) (bP D y z S A)) (va_Qd post (fun S' t => wd D y z S' A t.heap) A) 0 0 A := by
  refine MetD.ofW (cc := cX6_mean) (maxL := 1) (ret := (some .double)) (by decide) rfl ?_
  intro p e s m args below meth c s₁ B hml hv hd0
  obtain ⟨rfl, hB⟩ := hv
  have hx := B.exec
  have hb := B.bytes
  have hr := B.returns
  have hts := atoms_spec (ws := wsX6_mean) B.pre
  have hown : s.vm.findClass RX6 = some m.cls := findClass_of_methodNamed B.named
  have hlocks := B.notSynchronized
  have hw : wd D y z S A s.heap := hB.1
  have hK : va_K D bCl (bT y) s := hB.2.1
  have hNw := hB.2.2.1
  have hAn : ∀ q : Nat, s.heap.size ≤ q → A q := hB.2.2.2.1
  have hAz : ¬ A z := hB.2.2.2.2.1
  have hO := hB.2.2.2.2.2.1
  have hS : va_S A s.heap s.heap [] := va_S.rf
  have hiX6 : ∀ w ∈ u_ws RX6 TX6 17, w ∈ wsX6_mean := by decide +kernel
  have hl := lv_entry ([Value.ref this] : List Value) (n := 1) (Nat.le_of_ble_eq_true rfl)
  rw [lg_entry_eq]
  generalize (lg_sl ([Value.ref this] : List Value) ++ List.replicate (1 - (lg_sl ([Value.ref this] : List Value)).length) Slot.unset).toArray = ls at hl ⊢
  have hl : lv_has ls 1 [(0, .ref this)] := hl
  have hts0 := hts
  have hts := dr_words hts0 s.drawn
  unfold wp_X6_mean at h
  refine lv_aload_n hx hb dX6_mean_0 rfl (lv_at hl 0 rfl) ?_
  refine lv_iconst (v := (0 : Int32)) hx hb dX6_mean_1 (by decide) ?_
  obtain ⟨hk1, h⟩ := h
  refine r_putI (κ := 8) (ci := 7) (C := RX6) (T := TX6) (N := 17) (ty := .int) (x := (0 : Int32)) hx hb hts hiX6 tyX6 tyX6_ok nmX6 hown hK hw hS (ce_8 (S := S) hk1) rfl 0 (by decide) (hts (.fieldLink RX6 31 "TubePostModel" "thrown" "I") (by decide +kernel)) (fun _ h9 => h9) rfl (by decide +kernel) rfl rfl (Nat.le_of_ble_eq_true rfl) (pu_8_0 (S := S) hk1) dX6_mean_2 (fun H locs hw hS => ?_)
  refine lv_aload_n hx hb dX6_mean_5 rfl (lv_at hl 0 rfl) ?_
  refine r_get (ci := 7) (v := .int (gV (sV S 8 this 0 (0 : Int32)) 8 this 6)) (C := RX6) (T := TX6) (N := 17) hx hb hts hiX6 hown hK hw (ce_8 (S := (sV S 8 this 0 (0 : Int32))) hk1) rfl 6 (by decide) (hts (.fieldLink RX6 114 "TubePostModel" "delivered" "I") (by decide +kernel)) (fun _ h9 => h9) rfl dX6_mean_6 ?_
  refine lv_if_ne (tgt := 16) hx hb dX6_mean_9 (by decide) (fun hc => ?_) (fun hc => ?_)
  · have h := h.1 hc
    refine lv_aload_n hx hb dX6_mean_16 rfl (lv_at hl 0 rfl) ?_
    refine r_get (ci := 7) (v := .int (gV (sV S 8 this 0 (0 : Int32)) 8 this 7)) (C := RX6) (T := TX6) (N := 17) hx hb hts hiX6 hown hK hw (ce_8 (S := (sV S 8 this 0 (0 : Int32))) hk1) rfl 7 (by decide) (hts (.fieldLink RX6 117 "TubePostModel" "all" "I") (by decide +kernel)) (fun _ h9 => h9) rfl dX6_mean_17 ?_
    refine lv_i2d hx hb dX6_mean_20 ?_
    refine lv_aload_n hx hb dX6_mean_21 rfl (lv_at hl 0 rfl) ?_
    refine r_get (ci := 7) (v := .int (gV (sV S 8 this 0 (0 : Int32)) 8 this 6)) (C := RX6) (T := TX6) (N := 17) hx hb hts hiX6 hown hK hw (ce_8 (S := (sV S 8 this 0 (0 : Int32))) hk1) rfl 6 (by decide) (hts (.fieldLink RX6 114 "TubePostModel" "delivered" "I") (by decide +kernel)) (fun _ h9 => h9) rfl dX6_mean_22 ?_
    refine lv_i2d hx hb dX6_mean_25 ?_
    refine lv_ddiv_any hd0 lw_bits hx hb dX6_mean_26 (fun r2 d3 hal hd0 => ?_)
    have h := h r2 hal
    have hts := dr_words hts0 d3
    refine W.endD hd0 ?_
    exact W.dret hx hb hr (fun t ht hW => ⟨⟨r2, (sV S 8 this 0 (0 : Int32)), rfl, h, by show wd D y z (sV S 8 this 0 (0 : Int32)) A t.heap; rw [ht]; exact hw⟩, hS.F ht⟩) hS.2.2 dX6_mean_27 hlocks
  · have h := h.2 hc
    refine lv_dconst0 hx hb dX6_mean_12 ?_
    refine lv_goto (tgt := 27) hx hb dX6_mean_13 (by decide) ?_
    refine W.endD hd0 ?_
    exact W.dret hx hb hr (fun t ht hW => ⟨⟨FP.dconst0, (sV S 8 this 0 (0 : Int32)), rfl, h, by show wd D y z (sV S 8 this 0 (0 : Int32)) A t.heap; rw [ht]; exact hw⟩, hS.F ht⟩) hS.2.2 dX6_mean_27 hlocks
def wb_X6_digest_181 (post : Int64 → bS → Prop) (rec170 : Nat → Int64 → Int32 → bS → Prop) : Nat → Nat → Int64 → Int32 → Int32 → bS → Prop
  | 0, _, _, _, _, _ => False
  | n + 1, v0, v1, v3, v4, S => ((7 : Int32) ≤ v4 → rec170 v0 v1 (v3 + (1 : Int32)) S) ∧ (¬ ((7 : Int32) ≤ v4) → gK S v0 = 8 ∧ (wp_X6_get (fun r23 S24 => (wb_X6_digest_181 post rec170 n) v0 ((v1 * (31 : Int64)) + (Int32.toInt64 r23)) v3 (v4 + (1 : Int32)) S24) v0 v3 v4 S))
def wb_X6_digest_170 (post : Int64 → bS → Prop) : Nat → Nat → Int64 → Int32 → bS → Prop
  | 0, _, _, _, _ => False
  | n + 1, v0, v1, v3, S => gK S v0 = 8 ∧ (((gV S 8 v0 5) ≤ v3 → post v1 S) ∧ (¬ ((gV S 8 v0 5) ≤ v3) → ∃ n181, wb_X6_digest_181 post (wb_X6_digest_170 post n) n181 v0 v1 v3 (0 : Int32) S))
def wb_X6_digest_134 (post : Int64 → bS → Prop) (rec123 : Nat → Int64 → Int32 → bS → Prop) : Nat → Nat → Int64 → Int32 → Int32 → bS → Prop
  | 0, _, _, _, _, _ => False
  | n + 1, v0, v1, v3, v4, S => ((9 : Int32) ≤ v4 → rec123 v0 v1 (v3 + (1 : Int32)) S) ∧ (¬ ((9 : Int32) ≤ v4) → gK S v0 = 8 ∧ (wp_X6_tubeTold (fun r19 S20 => (wb_X6_digest_134 post rec123 n) v0 ((v1 * (31 : Int64)) + (Int32.toInt64 r19)) v3 (v4 + (1 : Int32)) S20) v0 v3 v4 S))
def wb_X6_digest_123 (post : Int64 → bS → Prop) : Nat → Nat → Int64 → Int32 → bS → Prop
  | 0, _, _, _, _ => False
  | n + 1, v0, v1, v3, S => gK S v0 = 8 ∧ (((gV S 8 v0 3) ≤ v3 → ∃ n170, wb_X6_digest_170 post n170 v0 v1 (0 : Int32) S) ∧ (¬ ((gV S 8 v0 3) ≤ v3) → ∃ n134, wb_X6_digest_134 post (wb_X6_digest_123 post n) n134 v0 v1 v3 (0 : Int32) S))
def wb_X6_digest_87 (post : Int64 → bS → Prop) (rec38 : Nat → Int64 → Int32 → bS → Prop) : Nat → Nat → Int64 → Int32 → Int32 → Int32 → bS → Prop
  | 0, _, _, _, _, _, _ => False
  | n + 1, v0, v1, v3, v4, v5, S => (v4 ≤ v5 → rec38 v0 v1 (v3 + (1 : Int32)) S) ∧ (¬ (v4 ≤ v5) → gK S v0 = 8 ∧ (∃ b13, gQ S 8 v0 16 = some b13 ∧ (gK S b13 = 9 ∧ (vp_in v5 (gN S b13) ∧ ((wb_X6_digest_87 post rec38 n) v0 ((v1 * (31 : Int64)) + (Int32.toInt64 (gV S 9 b13 (Int32.toNatClampNeg v5)))) v3 v4 (v5 + (1 : Int32)) S)))))
def wb_X6_digest_49 (post : Int64 → bS → Prop) (rec38 : Nat → Int64 → Int32 → bS → Prop) : Nat → Nat → Int64 → Int32 → Int32 → bS → Prop
  | 0, _, _, _, _, _ => False
  | n + 1, v0, v1, v3, v4, S => ((6 : Int32) ≤ v4 → gK S v0 = 8 ∧ (wp_X6_line (fun r7 S8 => ∃ n87, wb_X6_digest_87 post rec38 n87 v0 v1 v3 r7 (0 : Int32) S8) v0 v3 S)) ∧ (¬ ((6 : Int32) ≤ v4) → gK S v0 = 8 ∧ (wp_X6_stationTold (fun r10 S11 => (wb_X6_digest_49 post rec38 n) v0 ((v1 * (31 : Int64)) + (Int32.toInt64 r10)) v3 (v4 + (1 : Int32)) S11) v0 v3 v4 S))
def wb_X6_digest_38 (post : Int64 → bS → Prop) : Nat → Nat → Int64 → Int32 → bS → Prop
  | 0, _, _, _, _ => False
  | n + 1, v0, v1, v3, S => gK S v0 = 8 ∧ (((gV S 8 v0 2) ≤ v3 → ∃ n123, wb_X6_digest_123 post n123 v0 v1 (0 : Int32) S) ∧ (¬ ((gV S 8 v0 2) ≤ v3) → ∃ n49, wb_X6_digest_49 post (wb_X6_digest_38 post n) n49 v0 v1 v3 (0 : Int32) S))
def wb_X6_digest_11 (post : Int64 → bS → Prop) : Nat → Nat → Int64 → Int32 → bS → Prop
  | 0, _, _, _, _ => False
  | n + 1, v0, v1, v3, S => ((9 : Int32) ≤ v3 → ∃ n38, wb_X6_digest_38 post n38 v0 v1 (0 : Int32) S) ∧ (¬ ((9 : Int32) ≤ v3) → gK S v0 = 8 ∧ (wp_X6_counted (fun r3 S4 => (wb_X6_digest_11 post n) v0 ((v1 * (31 : Int64)) + (Int32.toInt64 r3)) (v3 + (1 : Int32)) S4) v0 v3 S))
def wp_X6_digest (post : Int64 → bS → Prop) (this : Nat) (S : bS) : Prop := gK S this = 8 ∧ (∃ n11, wb_X6_digest_11 post n11 this (457 : Int64) (0 : Int32) (sV S 8 this 0 (0 : Int32)))
set_option maxHeartbeats 4000000 in
set_option maxRecDepth 100000 in
theorem m_X6_digest {l : Launch} {D : va_G} {y : Nat → ClassId} {z : Nat} {A : Nat → Prop} {S : bS} {post : Int64 → bS → Prop} {this : Nat} (h : wp_X6_digest post this S) : Met l yX6_digest wsX6_digest ({ frames := 3, cells := 0, slots := 0, locals := 69 } : Room) (va_Pc ([Value.ref this] : List Value) (bP D y z S A)) (va_Ql post (fun S' t => wd D y z S' A t.heap) A) 0 0 A := by
  refine Met.ofW (cc := cX6_digest) (maxL := 6) (ret := (some .long)) (by decide) rfl ?_
  intro p e s m args below meth c s₁ B hml hv
  obtain ⟨rfl, hB⟩ := hv
  have hx := B.exec
  have hb := B.bytes
  have hr := B.returns
  have hts := atoms_spec (ws := wsX6_digest) B.pre
  have hown : s.vm.findClass RX6 = some m.cls := findClass_of_methodNamed B.named
  have hlocks := B.notSynchronized
  have hw : wd D y z S A s.heap := hB.1
  have hK : va_K D bCl (bT y) s := hB.2.1
  have hNw := hB.2.2.1
  have hAn : ∀ q : Nat, s.heap.size ≤ q → A q := hB.2.2.2.1
  have hAz : ¬ A z := hB.2.2.2.2.1
  have hO := hB.2.2.2.2.2.1
  have hS : va_S A s.heap s.heap [] := va_S.rf
  have hiX6 : ∀ w ∈ u_ws RX6 TX6 17, w ∈ wsX6_digest := by decide +kernel
  have hl := lv_entry ([Value.ref this] : List Value) (n := 6) (Nat.le_of_ble_eq_true rfl)
  rw [lg_entry_eq]
  generalize (lg_sl ([Value.ref this] : List Value) ++ List.replicate (6 - (lg_sl ([Value.ref this] : List Value)).length) Slot.unset).toArray = ls at hl ⊢
  have hl : lv_has ls 6 [(0, .ref this)] := hl
  obtain ⟨Q, hQ⟩ : ∃ Q, Q = MQ below (va_Ql post (fun S' t => wd D y z S' A t.heap) A) (([Value.ref this] : List Value).toArray) s 0 0 A := ⟨_, rfl⟩
  rw [← hQ]
  generalize hR : (headSpec wsX6_digest ({ frames := 3, cells := 0, slots := 0, locals := 69 } : Room)).room = R
  have hRf : 3 ≤ R.frames := by rw [← hR]; exact Nat.le_refl _
  have hRl : 69 ≤ R.locals := by rw [← hR]; exact Nat.le_refl _
  have hret : ∀ (v : Int64) (S : bS) (H : Heap) (locs : List Loc) (pc : Nat) (ls : Array Slot) , post v S → wd D y z S A H → va_S A s.heap H locs → decode cX6_digest pc = .ok (.lreturn, 1) → W p l e R s m (([Value.ref this] : List Value).toArray) below meth c H locs 0 0 Q (F0 m pc ls [.long v]) := by
    intro v S H locs pc ls h hw hS d0
    rw [hQ]; exact W.lret hx hb hr (fun t ht hW => ⟨⟨v, S, rfl, h, by show wd D y z S A t.heap; rw [ht]; exact hw⟩, hS.F ht⟩) hS.2.2 d0 hlocks
  have hB170 : ∀ (n170 : Nat) (S : bS) (H : Heap) (locs : List Loc) (ls : Array Slot) (v0 : Nat) (v1 : Int64) (v3 : Int32), wb_X6_digest_170 post n170 v0 v1 v3 S → wd D y z S A H → va_S A s.heap H locs → lv_has ls 6 [(0, .ref v0), (1, .long v1), (3, .int v3)] → W p l e R s m (([Value.ref this] : List Value).toArray) below meth c H locs 0 0 Q (F0 m 170 ls []) := by
    intro n170
    induction n170 with
    | zero =>
      intro S H locs ls v0 v1 v3 h hw hS hl
      exact absurd h (by unfold wb_X6_digest_170; exact id)
    | succ n170 ih170 =>
      have hB181 : ∀ (n181 : Nat) (S : bS) (H : Heap) (locs : List Loc) (ls : Array Slot) (v0 : Nat) (v1 : Int64) (v3 : Int32) (v4 : Int32), wb_X6_digest_181 post (wb_X6_digest_170 post n170) n181 v0 v1 v3 v4 S → wd D y z S A H → va_S A s.heap H locs → lv_has ls 6 [(0, .ref v0), (1, .long v1), (3, .int v3), (4, .int v4)] → W p l e R s m (([Value.ref this] : List Value).toArray) below meth c H locs 0 0 Q (F0 m 181 ls []) := by
        intro n181
        induction n181 with
        | zero =>
          intro S H locs ls v0 v1 v3 v4 h hw hS hl
          exact absurd h (by unfold wb_X6_digest_181; exact id)
        | succ n181 ih181 =>
          intro S H locs ls v0 v1 v3 v4 h hw hS hl
          unfold wb_X6_digest_181 at h
          refine lv_iload hx hb dX6_digest_181 (lv_at hl 3 rfl) ?_
          refine lv_bipush (v := (7 : Int32)) hx hb dX6_digest_183 (by decide) ?_
          refine lv_icmp_ge (tgt := 209) hx hb dX6_digest_185 (by decide) (fun hc => ?_) (fun hc => ?_)
          · have h := h.1 hc
            refine lv_iinc (v := (v3 + (1 : Int32))) hx hb dX6_digest_209 hl (k := 2) rfl rfl (by decide) rfl (fun ls hl => ?_)
            have hl : lv_has ls 6 [(3, .int (v3 + (1 : Int32))), (0, .ref v0), (1, .long v1), (4, .int v4)] := hl
            refine lv_goto (tgt := 170) hx hb dX6_digest_212 (by decide) ?_
            exact ih170 _ _ _ _ _ _ _ h hw hS (lv_sub hl [1, 2, 0] rfl)
          · have h := h.2 hc
            refine lv_lload_n hx hb dX6_digest_188 rfl (lv_at hl 1 rfl) ?_
            refine lv_ldc2 (v := (31 : Int64)) hx hb hown (hts (.constantLong RX6 163 (31 : Int64)) (by decide +kernel)) dX6_digest_189 ?_
            refine lv_lmul hx hb dX6_digest_192 ?_
            refine lv_aload_n hx hb dX6_digest_193 rfl (lv_at hl 0 rfl) ?_
            refine lv_iload_n hx hb dX6_digest_194 rfl (lv_at hl 2 rfl) ?_
            refine lv_iload hx hb dX6_digest_195 (lv_at hl 3 rfl) ?_
            obtain ⟨hk22, h⟩ := h
            have h1 := h
            refine va_calli (va_runV (As := [.int v3, .int v4]) (rest := [.long (v1 * (31 : Int64))]) ⟨hx, hb, hml, hown, hts⟩ (m_X6_get (l := l) h1) (cwV 2 hts gX6_digest_X6_get rfl rfl rfl (by decide +kernel) ⟨Nat.le_trans (Nat.le_of_ble_eq_true rfl) hRf, Nat.le_trans (Nat.le_of_ble_eq_true rfl) hRl⟩) (r_pV hB hw hS (ce_8 (S := S) hk22) rfl) rfl rfl hl.1 rfl (lv_room (Nat.le_of_ble_eq_true rfl)) dX6_digest_197 ⟨Nat.zero_le _, Nat.zero_le _⟩) hS (fun _ _ h => h) (fun _ h => h) (fun r23 S24 t H1 locs ht _ h hw1 _ _ hS => ?_)
            subst ht
            have hw : wd D y z S24 A t.heap := hw1
            clear hw1 h1
            refine lv_i2l (v := (Int32.toInt64 r23)) hx hb dX6_digest_200 rfl ?_
            refine lv_ladd hx hb dX6_digest_201 ?_
            refine lv_lstore_n hx hb dX6_digest_202 rfl hl (by decide) rfl (fun ls hl => ?_)
            have hl : lv_has ls 6 [(1, .long ((v1 * (31 : Int64)) + (Int32.toInt64 r23))), (0, .ref v0), (3, .int v3), (4, .int v4)] := hl
            refine lv_iinc (v := (v4 + (1 : Int32))) hx hb dX6_digest_203 hl (k := 3) rfl rfl (by decide) rfl (fun ls hl => ?_)
            have hl : lv_has ls 6 [(4, .int (v4 + (1 : Int32))), (1, .long ((v1 * (31 : Int64)) + (Int32.toInt64 r23))), (0, .ref v0), (3, .int v3)] := hl
            refine lv_goto (tgt := 181) hx hb dX6_digest_206 (by decide) ?_
            exact ih181 _ _ _ _ _ _ _ _ h hw hS (lv_sub hl [2, 1, 3, 0] rfl)
      intro S H locs ls v0 v1 v3 h hw hS hl
      unfold wb_X6_digest_170 at h
      refine lv_iload_n hx hb dX6_digest_170 rfl (lv_at hl 2 rfl) ?_
      refine lv_aload_n hx hb dX6_digest_171 rfl (lv_at hl 0 rfl) ?_
      obtain ⟨hk21, h⟩ := h
      refine r_get (ci := 7) (v := .int (gV S 8 v0 5)) (C := RX6) (T := TX6) (N := 17) hx hb hts hiX6 hown hK hw (ce_8 (S := S) hk21) rfl 5 (by decide) (hts (.fieldLink RX6 92 "TubePostModel" "sent" "I") (by decide +kernel)) (fun _ h9 => h9) rfl dX6_digest_172 ?_
      refine lv_icmp_ge (tgt := 215) hx hb dX6_digest_175 (by decide) (fun hc => ?_) (fun hc => ?_)
      · have h := h.1 hc
        refine lv_lload_n hx hb dX6_digest_215 rfl (lv_at hl 1 rfl) ?_
        exact hret v1 _ _ _ _ _ h hw hS dX6_digest_216
      · have h := h.2 hc
        refine lv_iconst (v := (0 : Int32)) hx hb dX6_digest_178 (by decide) ?_
        refine lv_istore hx hb dX6_digest_179 hl (by decide) rfl (fun ls hl => ?_)
        have hl : lv_has ls 6 [(4, .int (0 : Int32)), (0, .ref v0), (1, .long v1), (3, .int v3)] := hl
        obtain ⟨n181, h⟩ := h
        exact hB181 n181 _ _ _ _ _ _ _ _ h hw hS (lv_sub hl [1, 2, 3, 0] rfl)
  have hB123 : ∀ (n123 : Nat) (S : bS) (H : Heap) (locs : List Loc) (ls : Array Slot) (v0 : Nat) (v1 : Int64) (v3 : Int32), wb_X6_digest_123 post n123 v0 v1 v3 S → wd D y z S A H → va_S A s.heap H locs → lv_has ls 6 [(0, .ref v0), (1, .long v1), (3, .int v3)] → W p l e R s m (([Value.ref this] : List Value).toArray) below meth c H locs 0 0 Q (F0 m 123 ls []) := by
    intro n123
    induction n123 with
    | zero =>
      intro S H locs ls v0 v1 v3 h hw hS hl
      exact absurd h (by unfold wb_X6_digest_123; exact id)
    | succ n123 ih123 =>
      have hB134 : ∀ (n134 : Nat) (S : bS) (H : Heap) (locs : List Loc) (ls : Array Slot) (v0 : Nat) (v1 : Int64) (v3 : Int32) (v4 : Int32), wb_X6_digest_134 post (wb_X6_digest_123 post n123) n134 v0 v1 v3 v4 S → wd D y z S A H → va_S A s.heap H locs → lv_has ls 6 [(0, .ref v0), (1, .long v1), (3, .int v3), (4, .int v4)] → W p l e R s m (([Value.ref this] : List Value).toArray) below meth c H locs 0 0 Q (F0 m 134 ls []) := by
        intro n134
        induction n134 with
        | zero =>
          intro S H locs ls v0 v1 v3 v4 h hw hS hl
          exact absurd h (by unfold wb_X6_digest_134; exact id)
        | succ n134 ih134 =>
          intro S H locs ls v0 v1 v3 v4 h hw hS hl
          unfold wb_X6_digest_134 at h
          refine lv_iload hx hb dX6_digest_134 (lv_at hl 3 rfl) ?_
          refine lv_bipush (v := (9 : Int32)) hx hb dX6_digest_136 (by decide) ?_
          refine lv_icmp_ge (tgt := 162) hx hb dX6_digest_138 (by decide) (fun hc => ?_) (fun hc => ?_)
          · have h := h.1 hc
            refine lv_iinc (v := (v3 + (1 : Int32))) hx hb dX6_digest_162 hl (k := 2) rfl rfl (by decide) rfl (fun ls hl => ?_)
            have hl : lv_has ls 6 [(3, .int (v3 + (1 : Int32))), (0, .ref v0), (1, .long v1), (4, .int v4)] := hl
            refine lv_goto (tgt := 123) hx hb dX6_digest_165 (by decide) ?_
            exact ih123 _ _ _ _ _ _ _ h hw hS (lv_sub hl [1, 2, 0] rfl)
          · have h := h.2 hc
            refine lv_lload_n hx hb dX6_digest_141 rfl (lv_at hl 1 rfl) ?_
            refine lv_ldc2 (v := (31 : Int64)) hx hb hown (hts (.constantLong RX6 163 (31 : Int64)) (by decide +kernel)) dX6_digest_142 ?_
            refine lv_lmul hx hb dX6_digest_145 ?_
            refine lv_aload_n hx hb dX6_digest_146 rfl (lv_at hl 0 rfl) ?_
            refine lv_iload_n hx hb dX6_digest_147 rfl (lv_at hl 2 rfl) ?_
            refine lv_iload hx hb dX6_digest_148 (lv_at hl 3 rfl) ?_
            obtain ⟨hk18, h⟩ := h
            have h1 := h
            refine va_calli (va_runV (As := [.int v3, .int v4]) (rest := [.long (v1 * (31 : Int64))]) ⟨hx, hb, hml, hown, hts⟩ (m_X6_tubeTold (l := l) h1) (cwV 2 hts gX6_digest_X6_tubeTold rfl rfl rfl (by decide +kernel) ⟨Nat.le_trans (Nat.le_of_ble_eq_true rfl) hRf, Nat.le_trans (Nat.le_of_ble_eq_true rfl) hRl⟩) (r_pV hB hw hS (ce_8 (S := S) hk18) rfl) rfl rfl hl.1 rfl (lv_room (Nat.le_of_ble_eq_true rfl)) dX6_digest_150 ⟨Nat.zero_le _, Nat.zero_le _⟩) hS (fun _ _ h => h) (fun _ h => h) (fun r19 S20 t H1 locs ht _ h hw1 _ _ hS => ?_)
            subst ht
            have hw : wd D y z S20 A t.heap := hw1
            clear hw1 h1
            refine lv_i2l (v := (Int32.toInt64 r19)) hx hb dX6_digest_153 rfl ?_
            refine lv_ladd hx hb dX6_digest_154 ?_
            refine lv_lstore_n hx hb dX6_digest_155 rfl hl (by decide) rfl (fun ls hl => ?_)
            have hl : lv_has ls 6 [(1, .long ((v1 * (31 : Int64)) + (Int32.toInt64 r19))), (0, .ref v0), (3, .int v3), (4, .int v4)] := hl
            refine lv_iinc (v := (v4 + (1 : Int32))) hx hb dX6_digest_156 hl (k := 3) rfl rfl (by decide) rfl (fun ls hl => ?_)
            have hl : lv_has ls 6 [(4, .int (v4 + (1 : Int32))), (1, .long ((v1 * (31 : Int64)) + (Int32.toInt64 r19))), (0, .ref v0), (3, .int v3)] := hl
            refine lv_goto (tgt := 134) hx hb dX6_digest_159 (by decide) ?_
            exact ih134 _ _ _ _ _ _ _ _ h hw hS (lv_sub hl [2, 1, 3, 0] rfl)
      intro S H locs ls v0 v1 v3 h hw hS hl
      unfold wb_X6_digest_123 at h
      refine lv_iload_n hx hb dX6_digest_123 rfl (lv_at hl 2 rfl) ?_
      refine lv_aload_n hx hb dX6_digest_124 rfl (lv_at hl 0 rfl) ?_
      obtain ⟨hk17, h⟩ := h
      refine r_get (ci := 7) (v := .int (gV S 8 v0 3)) (C := RX6) (T := TX6) (N := 17) hx hb hts hiX6 hown hK hw (ce_8 (S := S) hk17) rfl 3 (by decide) (hts (.fieldLink RX6 42 "TubePostModel" "tubes" "I") (by decide +kernel)) (fun _ h9 => h9) rfl dX6_digest_125 ?_
      refine lv_icmp_ge (tgt := 168) hx hb dX6_digest_128 (by decide) (fun hc => ?_) (fun hc => ?_)
      · have h := h.1 hc
        refine lv_iconst (v := (0 : Int32)) hx hb dX6_digest_168 (by decide) ?_
        refine lv_istore_n hx hb dX6_digest_169 rfl hl (by decide) rfl (fun ls hl => ?_)
        have hl : lv_has ls 6 [(3, .int (0 : Int32)), (0, .ref v0), (1, .long v1)] := hl
        obtain ⟨n170, h⟩ := h
        exact hB170 n170 _ _ _ _ _ _ _ h hw hS (lv_sub hl [1, 2, 0] rfl)
      · have h := h.2 hc
        refine lv_iconst (v := (0 : Int32)) hx hb dX6_digest_131 (by decide) ?_
        refine lv_istore hx hb dX6_digest_132 hl (by decide) rfl (fun ls hl => ?_)
        have hl : lv_has ls 6 [(4, .int (0 : Int32)), (0, .ref v0), (1, .long v1), (3, .int v3)] := hl
        obtain ⟨n134, h⟩ := h
        exact hB134 n134 _ _ _ _ _ _ _ _ h hw hS (lv_sub hl [1, 2, 3, 0] rfl)
  have hB38 : ∀ (n38 : Nat) (S : bS) (H : Heap) (locs : List Loc) (ls : Array Slot) (v0 : Nat) (v1 : Int64) (v3 : Int32), wb_X6_digest_38 post n38 v0 v1 v3 S → wd D y z S A H → va_S A s.heap H locs → lv_has ls 6 [(0, .ref v0), (1, .long v1), (3, .int v3)] → W p l e R s m (([Value.ref this] : List Value).toArray) below meth c H locs 0 0 Q (F0 m 38 ls []) := by
    intro n38
    induction n38 with
    | zero =>
      intro S H locs ls v0 v1 v3 h hw hS hl
      exact absurd h (by unfold wb_X6_digest_38; exact id)
    | succ n38 ih38 =>
      have hB87 : ∀ (n87 : Nat) (S : bS) (H : Heap) (locs : List Loc) (ls : Array Slot) (v0 : Nat) (v1 : Int64) (v3 : Int32) (v4 : Int32) (v5 : Int32), wb_X6_digest_87 post (wb_X6_digest_38 post n38) n87 v0 v1 v3 v4 v5 S → wd D y z S A H → va_S A s.heap H locs → lv_has ls 6 [(0, .ref v0), (1, .long v1), (3, .int v3), (4, .int v4), (5, .int v5)] → W p l e R s m (([Value.ref this] : List Value).toArray) below meth c H locs 0 0 Q (F0 m 87 ls []) := by
        intro n87
        induction n87 with
        | zero =>
          intro S H locs ls v0 v1 v3 v4 v5 h hw hS hl
          exact absurd h (by unfold wb_X6_digest_87; exact id)
        | succ n87 ih87 =>
          intro S H locs ls v0 v1 v3 v4 v5 h hw hS hl
          unfold wb_X6_digest_87 at h
          refine lv_iload hx hb dX6_digest_87 (lv_at hl 4 rfl) ?_
          refine lv_iload hx hb dX6_digest_89 (lv_at hl 3 rfl) ?_
          refine lv_icmp_ge (tgt := 115) hx hb dX6_digest_91 (by decide) (fun hc => ?_) (fun hc => ?_)
          · have h := h.1 hc
            refine lv_iinc (v := (v3 + (1 : Int32))) hx hb dX6_digest_115 hl (k := 2) rfl rfl (by decide) rfl (fun ls hl => ?_)
            have hl : lv_has ls 6 [(3, .int (v3 + (1 : Int32))), (0, .ref v0), (1, .long v1), (4, .int v4), (5, .int v5)] := hl
            refine lv_goto (tgt := 38) hx hb dX6_digest_118 (by decide) ?_
            exact ih38 _ _ _ _ _ _ _ h hw hS (lv_sub hl [1, 2, 0] rfl)
          · have h := h.2 hc
            refine lv_lload_n hx hb dX6_digest_94 rfl (lv_at hl 1 rfl) ?_
            refine lv_ldc2 (v := (31 : Int64)) hx hb hown (hts (.constantLong RX6 163 (31 : Int64)) (by decide +kernel)) dX6_digest_95 ?_
            refine lv_lmul hx hb dX6_digest_98 ?_
            refine lv_aload_n hx hb dX6_digest_99 rfl (lv_at hl 0 rfl) ?_
            obtain ⟨hk12, h⟩ := h
            obtain ⟨b13, hb14, h⟩ := h
            refine r_get (ci := 7) (v := .ref b13) (C := RX6) (T := TX6) (N := 17) hx hb hts hiX6 hown hK hw (ce_8 (S := S) hk12) rfl 16 (by decide) (hts (.fieldLink RX6 28 "TubePostModel" "queue" "[I") (by decide +kernel)) (fun _ h9 => h9) (congrArg (fun q => some (va_rf q)) hb14) dX6_digest_100 ?_
            refine lv_iload hx hb dX6_digest_103 (lv_at hl 4 rfl) ?_
            obtain ⟨hk15, h⟩ := h
            obtain ⟨hin16, h⟩ := h
            refine r_iald hx hb hK hw hk15 hin16 dX6_digest_105 ?_
            refine lv_i2l (v := (Int32.toInt64 (gV S 9 b13 (Int32.toNatClampNeg v5)))) hx hb dX6_digest_106 rfl ?_
            refine lv_ladd hx hb dX6_digest_107 ?_
            refine lv_lstore_n hx hb dX6_digest_108 rfl hl (by decide) rfl (fun ls hl => ?_)
            have hl : lv_has ls 6 [(1, .long ((v1 * (31 : Int64)) + (Int32.toInt64 (gV S 9 b13 (Int32.toNatClampNeg v5))))), (0, .ref v0), (3, .int v3), (4, .int v4), (5, .int v5)] := hl
            refine lv_iinc (v := (v5 + (1 : Int32))) hx hb dX6_digest_109 hl (k := 4) rfl rfl (by decide) rfl (fun ls hl => ?_)
            have hl : lv_has ls 6 [(5, .int (v5 + (1 : Int32))), (1, .long ((v1 * (31 : Int64)) + (Int32.toInt64 (gV S 9 b13 (Int32.toNatClampNeg v5))))), (0, .ref v0), (3, .int v3), (4, .int v4)] := hl
            refine lv_goto (tgt := 87) hx hb dX6_digest_112 (by decide) ?_
            exact ih87 _ _ _ _ _ _ _ _ _ h hw hS (lv_sub hl [2, 1, 3, 4, 0] rfl)
      have hB49 : ∀ (n49 : Nat) (S : bS) (H : Heap) (locs : List Loc) (ls : Array Slot) (v0 : Nat) (v1 : Int64) (v3 : Int32) (v4 : Int32), wb_X6_digest_49 post (wb_X6_digest_38 post n38) n49 v0 v1 v3 v4 S → wd D y z S A H → va_S A s.heap H locs → lv_has ls 6 [(0, .ref v0), (1, .long v1), (3, .int v3), (4, .int v4)] → W p l e R s m (([Value.ref this] : List Value).toArray) below meth c H locs 0 0 Q (F0 m 49 ls []) := by
        intro n49
        induction n49 with
        | zero =>
          intro S H locs ls v0 v1 v3 v4 h hw hS hl
          exact absurd h (by unfold wb_X6_digest_49; exact id)
        | succ n49 ih49 =>
          intro S H locs ls v0 v1 v3 v4 h hw hS hl
          unfold wb_X6_digest_49 at h
          refine lv_iload hx hb dX6_digest_49 (lv_at hl 3 rfl) ?_
          refine lv_bipush (v := (6 : Int32)) hx hb dX6_digest_51 (by decide) ?_
          refine lv_icmp_ge (tgt := 77) hx hb dX6_digest_53 (by decide) (fun hc => ?_) (fun hc => ?_)
          · have h := h.1 hc
            refine lv_aload_n hx hb dX6_digest_77 rfl (lv_at hl 0 rfl) ?_
            refine lv_iload_n hx hb dX6_digest_78 rfl (lv_at hl 2 rfl) ?_
            obtain ⟨hk6, h⟩ := h
            have h1 := h
            refine va_calli (va_runV (As := [.int v3]) (rest := []) ⟨hx, hb, hml, hown, hts⟩ (m_X6_line (l := l) h1) (cwV 1 hts gX6_digest_X6_line rfl rfl rfl (by decide +kernel) ⟨Nat.le_trans (Nat.le_of_ble_eq_true rfl) hRf, Nat.le_trans (Nat.le_of_ble_eq_true rfl) hRl⟩) (r_pV hB hw hS (ce_8 (S := S) hk6) rfl) rfl rfl hl.1 rfl (lv_room (Nat.le_of_ble_eq_true rfl)) dX6_digest_79 ⟨Nat.zero_le _, Nat.zero_le _⟩) hS (fun _ _ h => h) (fun _ h => h) (fun r7 S8 t H1 locs ht _ h hw1 _ _ hS => ?_)
            subst ht
            have hw : wd D y z S8 A t.heap := hw1
            clear hw1 h1
            refine lv_istore hx hb dX6_digest_82 hl (by decide) rfl (fun ls hl => ?_)
            have hl : lv_has ls 6 [(4, .int r7), (0, .ref v0), (1, .long v1), (3, .int v3)] := hl
            refine lv_iconst (v := (0 : Int32)) hx hb dX6_digest_84 (by decide) ?_
            refine lv_istore hx hb dX6_digest_85 hl (by decide) rfl (fun ls hl => ?_)
            have hl : lv_has ls 6 [(5, .int (0 : Int32)), (4, .int r7), (0, .ref v0), (1, .long v1), (3, .int v3)] := hl
            obtain ⟨n87, h⟩ := h
            exact hB87 n87 _ _ _ _ _ _ _ _ _ h hw hS (lv_sub hl [2, 3, 4, 1, 0] rfl)
          · have h := h.2 hc
            refine lv_lload_n hx hb dX6_digest_56 rfl (lv_at hl 1 rfl) ?_
            refine lv_ldc2 (v := (31 : Int64)) hx hb hown (hts (.constantLong RX6 163 (31 : Int64)) (by decide +kernel)) dX6_digest_57 ?_
            refine lv_lmul hx hb dX6_digest_60 ?_
            refine lv_aload_n hx hb dX6_digest_61 rfl (lv_at hl 0 rfl) ?_
            refine lv_iload_n hx hb dX6_digest_62 rfl (lv_at hl 2 rfl) ?_
            refine lv_iload hx hb dX6_digest_63 (lv_at hl 3 rfl) ?_
            obtain ⟨hk9, h⟩ := h
            have h1 := h
            refine va_calli (va_runV (As := [.int v3, .int v4]) (rest := [.long (v1 * (31 : Int64))]) ⟨hx, hb, hml, hown, hts⟩ (m_X6_stationTold (l := l) h1) (cwV 2 hts gX6_digest_X6_stationTold rfl rfl rfl (by decide +kernel) ⟨Nat.le_trans (Nat.le_of_ble_eq_true rfl) hRf, Nat.le_trans (Nat.le_of_ble_eq_true rfl) hRl⟩) (r_pV hB hw hS (ce_8 (S := S) hk9) rfl) rfl rfl hl.1 rfl (lv_room (Nat.le_of_ble_eq_true rfl)) dX6_digest_65 ⟨Nat.zero_le _, Nat.zero_le _⟩) hS (fun _ _ h => h) (fun _ h => h) (fun r10 S11 t H1 locs ht _ h hw1 _ _ hS => ?_)
            subst ht
            have hw : wd D y z S11 A t.heap := hw1
            clear hw1 h1
            refine lv_i2l (v := (Int32.toInt64 r10)) hx hb dX6_digest_68 rfl ?_
            refine lv_ladd hx hb dX6_digest_69 ?_
            refine lv_lstore_n hx hb dX6_digest_70 rfl hl (by decide) rfl (fun ls hl => ?_)
            have hl : lv_has ls 6 [(1, .long ((v1 * (31 : Int64)) + (Int32.toInt64 r10))), (0, .ref v0), (3, .int v3), (4, .int v4)] := hl
            refine lv_iinc (v := (v4 + (1 : Int32))) hx hb dX6_digest_71 hl (k := 3) rfl rfl (by decide) rfl (fun ls hl => ?_)
            have hl : lv_has ls 6 [(4, .int (v4 + (1 : Int32))), (1, .long ((v1 * (31 : Int64)) + (Int32.toInt64 r10))), (0, .ref v0), (3, .int v3)] := hl
            refine lv_goto (tgt := 49) hx hb dX6_digest_74 (by decide) ?_
            exact ih49 _ _ _ _ _ _ _ _ h hw hS (lv_sub hl [2, 1, 3, 0] rfl)
      intro S H locs ls v0 v1 v3 h hw hS hl
      unfold wb_X6_digest_38 at h
      refine lv_iload_n hx hb dX6_digest_38 rfl (lv_at hl 2 rfl) ?_
      refine lv_aload_n hx hb dX6_digest_39 rfl (lv_at hl 0 rfl) ?_
      obtain ⟨hk5, h⟩ := h
      refine r_get (ci := 7) (v := .int (gV S 8 v0 2)) (C := RX6) (T := TX6) (N := 17) hx hb hts hiX6 hown hK hw (ce_8 (S := S) hk5) rfl 2 (by decide) (hts (.fieldLink RX6 35 "TubePostModel" "stations" "I") (by decide +kernel)) (fun _ h9 => h9) rfl dX6_digest_40 ?_
      refine lv_icmp_ge (tgt := 121) hx hb dX6_digest_43 (by decide) (fun hc => ?_) (fun hc => ?_)
      · have h := h.1 hc
        refine lv_iconst (v := (0 : Int32)) hx hb dX6_digest_121 (by decide) ?_
        refine lv_istore_n hx hb dX6_digest_122 rfl hl (by decide) rfl (fun ls hl => ?_)
        have hl : lv_has ls 6 [(3, .int (0 : Int32)), (0, .ref v0), (1, .long v1)] := hl
        obtain ⟨n123, h⟩ := h
        exact hB123 n123 _ _ _ _ _ _ _ h hw hS (lv_sub hl [1, 2, 0] rfl)
      · have h := h.2 hc
        refine lv_iconst (v := (0 : Int32)) hx hb dX6_digest_46 (by decide) ?_
        refine lv_istore hx hb dX6_digest_47 hl (by decide) rfl (fun ls hl => ?_)
        have hl : lv_has ls 6 [(4, .int (0 : Int32)), (0, .ref v0), (1, .long v1), (3, .int v3)] := hl
        obtain ⟨n49, h⟩ := h
        exact hB49 n49 _ _ _ _ _ _ _ _ h hw hS (lv_sub hl [1, 2, 3, 0] rfl)
  have hB11 : ∀ (n11 : Nat) (S : bS) (H : Heap) (locs : List Loc) (ls : Array Slot) (v0 : Nat) (v1 : Int64) (v3 : Int32), wb_X6_digest_11 post n11 v0 v1 v3 S → wd D y z S A H → va_S A s.heap H locs → lv_has ls 6 [(0, .ref v0), (1, .long v1), (3, .int v3)] → W p l e R s m (([Value.ref this] : List Value).toArray) below meth c H locs 0 0 Q (F0 m 11 ls []) := by
    intro n11
    induction n11 with
    | zero =>
      intro S H locs ls v0 v1 v3 h hw hS hl
      exact absurd h (by unfold wb_X6_digest_11; exact id)
    | succ n11 ih11 =>
      intro S H locs ls v0 v1 v3 h hw hS hl
      unfold wb_X6_digest_11 at h
      refine lv_iload_n hx hb dX6_digest_11 rfl (lv_at hl 2 rfl) ?_
      refine lv_bipush (v := (9 : Int32)) hx hb dX6_digest_12 (by decide) ?_
      refine lv_icmp_ge (tgt := 36) hx hb dX6_digest_14 (by decide) (fun hc => ?_) (fun hc => ?_)
      · have h := h.1 hc
        refine lv_iconst (v := (0 : Int32)) hx hb dX6_digest_36 (by decide) ?_
        refine lv_istore_n hx hb dX6_digest_37 rfl hl (by decide) rfl (fun ls hl => ?_)
        have hl : lv_has ls 6 [(3, .int (0 : Int32)), (0, .ref v0), (1, .long v1)] := hl
        obtain ⟨n38, h⟩ := h
        exact hB38 n38 _ _ _ _ _ _ _ h hw hS (lv_sub hl [1, 2, 0] rfl)
      · have h := h.2 hc
        refine lv_lload_n hx hb dX6_digest_17 rfl (lv_at hl 1 rfl) ?_
        refine lv_ldc2 (v := (31 : Int64)) hx hb hown (hts (.constantLong RX6 163 (31 : Int64)) (by decide +kernel)) dX6_digest_18 ?_
        refine lv_lmul hx hb dX6_digest_21 ?_
        refine lv_aload_n hx hb dX6_digest_22 rfl (lv_at hl 0 rfl) ?_
        refine lv_iload_n hx hb dX6_digest_23 rfl (lv_at hl 2 rfl) ?_
        obtain ⟨hk2, h⟩ := h
        have h1 := h
        refine va_calli (va_runV (As := [.int v3]) (rest := [.long (v1 * (31 : Int64))]) ⟨hx, hb, hml, hown, hts⟩ (m_X6_counted (l := l) h1) (cwV 1 hts gX6_digest_X6_counted rfl rfl rfl (by decide +kernel) ⟨Nat.le_trans (Nat.le_of_ble_eq_true rfl) hRf, Nat.le_trans (Nat.le_of_ble_eq_true rfl) hRl⟩) (r_pV hB hw hS (ce_8 (S := S) hk2) rfl) rfl rfl hl.1 rfl (lv_room (Nat.le_of_ble_eq_true rfl)) dX6_digest_24 ⟨Nat.zero_le _, Nat.zero_le _⟩) hS (fun _ _ h => h) (fun _ h => h) (fun r3 S4 t H1 locs ht _ h hw1 _ _ hS => ?_)
        subst ht
        have hw : wd D y z S4 A t.heap := hw1
        clear hw1 h1
        refine lv_i2l (v := (Int32.toInt64 r3)) hx hb dX6_digest_27 rfl ?_
        refine lv_ladd hx hb dX6_digest_28 ?_
        refine lv_lstore_n hx hb dX6_digest_29 rfl hl (by decide) rfl (fun ls hl => ?_)
        have hl : lv_has ls 6 [(1, .long ((v1 * (31 : Int64)) + (Int32.toInt64 r3))), (0, .ref v0), (3, .int v3)] := hl
        refine lv_iinc (v := (v3 + (1 : Int32))) hx hb dX6_digest_30 hl (k := 2) rfl rfl (by decide) rfl (fun ls hl => ?_)
        have hl : lv_has ls 6 [(3, .int (v3 + (1 : Int32))), (1, .long ((v1 * (31 : Int64)) + (Int32.toInt64 r3))), (0, .ref v0)] := hl
        refine lv_goto (tgt := 11) hx hb dX6_digest_33 (by decide) ?_
        exact ih11 _ _ _ _ _ _ _ h hw hS (lv_sub hl [2, 1, 0] rfl)
  unfold wp_X6_digest at h
  refine lv_aload_n hx hb dX6_digest_0 rfl (lv_at hl 0 rfl) ?_
  refine lv_iconst (v := (0 : Int32)) hx hb dX6_digest_1 (by decide) ?_
  obtain ⟨hk1, h⟩ := h
  refine r_putI (κ := 8) (ci := 7) (C := RX6) (T := TX6) (N := 17) (ty := .int) (x := (0 : Int32)) hx hb hts hiX6 tyX6 tyX6_ok nmX6 hown hK hw hS (ce_8 (S := S) hk1) rfl 0 (by decide) (hts (.fieldLink RX6 31 "TubePostModel" "thrown" "I") (by decide +kernel)) (fun _ h9 => h9) rfl (by decide +kernel) rfl rfl (Nat.le_of_ble_eq_true rfl) (pu_8_0 (S := S) hk1) dX6_digest_2 (fun H locs hw hS => ?_)
  refine lv_ldc2 (v := (457 : Int64)) hx hb hown (hts (.constantLong RX6 161 (457 : Int64)) (by decide +kernel)) dX6_digest_5 ?_
  refine lv_lstore_n hx hb dX6_digest_8 rfl hl (by decide) rfl (fun ls hl => ?_)
  have hl : lv_has ls 6 [(1, .long (457 : Int64)), (0, .ref this)] := hl
  refine lv_iconst (v := (0 : Int32)) hx hb dX6_digest_9 (by decide) ?_
  refine lv_istore_n hx hb dX6_digest_10 rfl hl (by decide) rfl (fun ls hl => ?_)
  have hl : lv_has ls 6 [(3, .int (0 : Int32)), (1, .long (457 : Int64)), (0, .ref this)] := hl
  obtain ⟨n11, h⟩ := h
  exact hB11 n11 _ _ _ _ _ _ _ h hw hS (lv_sub hl [2, 1, 0] rfl)
