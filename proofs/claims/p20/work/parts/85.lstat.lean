/-! ===== the law's loops: the stations ===== -/
section LSTAT
variable {S : bS} {A : Nat → Nat → Nat} {cp : Nat → Nat} {P : pP} {B K : Nat} {mc ms : Nat} {post : Int32 → bS → Prop} {xs : Nat → Int32} {LL : Nat} {F : Nat → Nat}
theorem K_line (h : cR S A cp P) (hw : wI B K P.1 P.2) (hj : jI P.1 P.2 F) (hB : B < 2 ^ 31) (hKb : K < 2 ^ 31) {rec105 : Nat → Nat → Nat → Int32 → Int32 → Nat → Nat → Int32 → Int32 → Int32 → bS → Prop} {rec542 : Nat → Nat → Nat → Int32 → Int32 → Nat → Nat → Int32 → Int32 → Int32 → Nat → Nat → Nat → Int32 → Int32 → bS → Prop} {v3 v4 v7 v8 v9 v16 : Int32} {v5 v6 v13 v14 v15 : Nat} {s : Nat} (hs : s < nS P.1) (ha : gK S v13 = 9) (hn : gN S v13 = nS P.1) (hv : gV S 9 v13 s = nI (P.2 (1 + s)).length) (hgo : rec542 mc ms (A 0 0) v3 v4 v5 v6 v7 v8 v9 v13 v14 v15 v16 (nI s + 1) S) : ∀ (n i : Nat), i + n = (P.2 (1 + s)).length → wb_L_law_598 xs LL post rec105 rec542 (n + 1) mc ms (A 0 0) v3 v4 v5 v6 v7 v8 v9 v13 v14 v15 v16 (nI s) (nI i) S := by
  have h14 := hw.1.1.2
  have hl := len_at hw (t := s) (by omega)
  have tc : Int32.toNatClampNeg (nI s) = s := u_nI (by omega)
  have hin : vp_in (nI s) (gN S v13) := by rw [hn]; exact vp_in_nI hs (by omega)
  intro n
  induction n with
  | zero =>
    intro i hi
    unfold wb_L_law_598
    refine ⟨ha, hin, fun _ => hgo, fun q => absurd ?_ q⟩
    rw [tc, hv]
    exact nI_le (by omega) (by omega)
  | succ n ih =>
    intro i hi
    have hil : i < (P.2 (1 + s)).length := by omega
    have next : wb_L_law_723 xs LL post rec105 rec542 (wb_L_law_598 xs LL post rec105 rec542 (n + 1)) mc ms (A 0 0) v3 v4 v5 v6 v7 v8 v9 v13 v14 v15 v16 (nI s) (nI i) S := by
      unfold wb_L_law_723
      rw [nI_1]
      exact ih (i + 1) (by omega)
    have gd : ∀ j, j < (P.2 (1 + s)).length → ∃ c, (P.2 (1 + s)).getD j 0 = c ∧ (P.2 (1 + s))[j]? = some c ∧ c ∈ P.2 (1 + s) := fun j hj => by
      refine ⟨(P.2 (1 + s))[j], ?_, List.getElem?_eq_getElem hj, List.getElem_mem hj⟩
      simp [List.getD, List.getElem?_eq_getElem hj]
    obtain ⟨c, ec, ci, cm⟩ := gd i hil
    obtain ⟨c0, cs1, cp1', cn, c5⟩ := w_at hw (s := s) (by omega) cm
    unfold wb_L_law_598
    refine ⟨ha, hin, fun q => absurd q ?_, fun _ => ⟨h.1.1.1, 0, 0, Nat.zero_le _, Nat.zero_le _, D_there h hw rfl hs rfl hil ?_⟩⟩
    · rw [tc, hv]
      exact nI_ge hil (by omega)
    rw [ec]
    refine ⟨h.1.1.1, 0, 0, Nat.zero_le _, Nat.zero_le _, D_carrier h hw (k := 0) rfl cn rfl (by decide) ⟨fun q => absurd cs1 q, fun _ => ⟨h.1.1.1, 0, 0, Nat.zero_le _, Nat.zero_le _, D_carrier h hw (k := 1) rfl cn rfl (by decide) ⟨fun q => absurd cp1' q, fun _ => ⟨fun _ => next, fun q0 => ?_⟩⟩⟩⟩⟩
    have hi1 : 1 ≤ i := by
      rcases Nat.eq_zero_or_pos i with e | e
      · subst e
        exact absurd (show nI 0 ≤ (0 : Int32) by decide) q0
      · exact e
    have em : nI i - 1 = nI (i - 1) := by
      have := nI_pred (i - 1)
      rw [show i - 1 + 1 = i by omega] at this
      exact this
    obtain ⟨d, ed, di, dm⟩ := gd (i - 1) (by omega)
    obtain ⟨d0, ds1, dp1, dn, d5⟩ := w_at hw (s := s) (by omega) dm
    have hahd : ahd P.1 d c := by
      have hp := (hw.2.2.2.2.2.2.1.1 s (by omega)).2
      have := List.pairwise_iff_getElem.mp hp (i - 1) i (by omega) hil (by omega)
      rw [List.getElem?_eq_getElem hil] at ci
      rw [List.getElem?_eq_getElem (by omega)] at di
      injection ci with ci
      injection di with di
      rw [ci, di] at this
      exact this
    have hr : ¬ P.1 4 (9 * d + 3) < P.1 4 (9 * c + 3) := ahd_nlt hahd
    refine ⟨h.1.1.1, 0, 0, Nat.zero_le _, Nat.zero_le _, D_carrier h hw (k := 3) rfl cn rfl (by decide) ⟨h.1.1.1, 0, 0, Nat.zero_le _, Nat.zero_le _, D_there h hw rfl hs em (by omega) ?_⟩⟩
    rw [ed]
    refine ⟨h.1.1.1, 0, 0, Nat.zero_le _, Nat.zero_le _, D_carrier h hw (k := 3) rfl dn rfl (by decide) ⟨fun q => absurd q hr, fun _ => ⟨h.1.1.1, 0, 0, Nat.zero_le _, Nat.zero_le _, D_carrier h hw (k := 3) rfl cn rfl (by decide) ⟨h.1.1.1, 0, 0, Nat.zero_le _, Nat.zero_le _, D_there h hw rfl hs em (by omega) ?_⟩⟩⟩⟩
    rw [ed]
    refine ⟨h.1.1.1, 0, 0, Nat.zero_le _, Nat.zero_le _, D_carrier h hw (k := 3) rfl dn rfl (by decide) ⟨fun _ => next, fun e3 => ⟨h.1.1.1, 0, 0, Nat.zero_le _, Nat.zero_le _, D_carrier h hw (k := 5) rfl cn rfl (by decide) ⟨h.1.1.1, 0, 0, Nat.zero_le _, Nat.zero_le _, D_there h hw rfl hs em (by omega) ?_⟩⟩⟩⟩
    rw [ed]
    refine ⟨h.1.1.1, 0, 0, Nat.zero_le _, Nat.zero_le _, D_carrier h hw (k := 5) rfl dn rfl (by decide) ⟨fun _ => next, fun q => absurd ?_ q⟩⟩
    have o7 : P.1 4 (9 * d + 7) < P.1 4 (9 * c + 7) := by
      have := hahd
      unfold ahd at this
      rw [if_pos e3.symm] at this
      exact this
    have hA8 := hw.2.2.2.2.1.2.2.2.2.2.2.2
    obtain ⟨x1, x2⟩ := hA8 d d0
    obtain ⟨y1, y2⟩ := hA8 c c0
    have h8 := (w_8 hw).2
    rw [x1, y1] at o7
    have o7 := (nI_ltI (by omega) (by omega)).mp o7
    have := hj.2.1 d c d0 c0 o7
    obtain ⟨-, -, dt, dt2, -, tB⟩ := w_c hw dn
    obtain ⟨-, -, ct, ct2, -, -⟩ := w_c hw cn
    rw [dt, ct]
    exact nI_le this (by omega)
theorem K_stats (h : cR S A cp P) (hw : wI B K P.1 P.2) (hj : jI P.1 P.2 F) (hB : B < 2 ^ 31) (hKb : K < 2 ^ 31) {rec105 : Nat → Nat → Nat → Int32 → Int32 → Nat → Nat → Int32 → Int32 → Int32 → bS → Prop} {v7 v9 : Int32} {v5 v6 v13 v14 v15 : Nat} (ha : gK S v13 = 9) (hn : gN S v13 = nS P.1) (hv : ∀ s, s < nS P.1 → gV S 9 v13 s = nI (P.2 (1 + s)).length) (ha4 : gK S v14 = 9) (hn4 : gN S v14 = nT P.1) (hv4 : ∀ t, t < nT P.1 → gV S 9 v14 t = nI (P.2 (15 + t)).length) (ha5 : gK S v15 = 9) (hn5 : gN S v15 = nS P.1) (hv5 : ∀ s, s < nS P.1 → gV S 9 v15 s = P.1 1 (9 * s + 4)) (hgo : rec105 mc ms (A 0 0) (nI (nS P.1)) (nI (nT P.1)) v5 v6 v7 (P.1 0 6) (v9 + 1) S) : ∀ (n k : Nat), k + n = nS P.1 → wb_L_law_542 xs LL post rec105 (n + 1) mc ms (A 0 0) (nI (nS P.1)) (nI (nT P.1)) v5 v6 v7 (P.1 0 6) v9 v13 v14 v15 (P.1 0 7) (nI k) S := by
  have h14 := hw.1.1.2
  intro n
  induction n with
  | zero =>
    intro k hk
    unfold wb_L_law_542
    refine ⟨fun _ => ⟨nT P.1 + 1, ?_⟩, fun q => absurd (nI_le (by omega) (by omega)) q⟩
    exact K_tubes h hw ha4 hn4 hv4 hgo (nT P.1) 0 (by omega)
  | succ n ih =>
    intro k hk
    have hkS : k < nS P.1 := by omega
    have tc : Int32.toNatClampNeg (nI k) = k := u_nI (by omega)
    have hl := len_at hw (t := k) (by omega)
    have hin : vp_in (nI k) (gN S v13) := by rw [hn]; exact vp_in_nI hkS (by omega)
    have hin5 : vp_in (nI k) (gN S v15) := by rw [hn5]; exact vp_in_nI hkS (by omega)
    unfold wb_L_law_542
    refine ⟨fun q => absurd q (nI_ge hkS (by omega)), fun _ => ⟨h.1.1.1, 0, 0, Nat.zero_le _, Nat.zero_le _, D_station h hw (s := k) (k := 4) rfl hkS rfl (by decide) ⟨ha, hin, fun q => absurd ?_ q, fun _ => ⟨hin, h.1.1.1, 0, 0, Nat.zero_le _, Nat.zero_le _, D_station h hw (s := k) (k := 0) rfl hkS rfl (by decide) ⟨fun q => absurd q ?_, fun _ => ⟨h.1.1.1, 0, 0, Nat.zero_le _, Nat.zero_le _, D_station h hw (s := k) (k := 5) rfl hkS rfl (by decide) ⟨ha5, hin5, fun _ => ⟨(P.2 (1 + k)).length + 1, ?_⟩, fun q => absurd ?_ q⟩⟩⟩⟩⟩⟩⟩
    · rw [tc, hv k hkS]
      rfl
    · rw [tc, hv k hkS]
      have hrm := (hw.2.2.1 k hkS).1
      have hlen := hw.2.2.2.2.2.2.2.1 k hkS
      show ¬ P.1 1 (9 * k + 0) < _
      rw [hrm.1]
      exact nI_nlt hlen (by omega)
    · refine K_line h hw hj hB hKb hkS ha hn (hv k hkS) ?_ _ 0 (by omega)
      rw [nI_1]
      exact ih (k + 1) (by omega)
    · rw [tc, hv5 k hkS]
      rfl
end LSTAT
