/-! ===== the law's start ===== -/
theorem sEx_BB {S X Y : bS} {q : Nat} (h : sEx S X) (h' : sExB q X Y) (hq : gK S q = 0) : sEx S Y := by
  refine ⟨fun a ha => ?_, fun a ha => h.2 a (h'.2 a ha)⟩
  obtain ⟨x1, x2, x3, x4, x5⟩ := h.1 a ha
  obtain ⟨y1, y2, y3, y4, y5⟩ := h'.1 a (by rw [x1]; exact ha) (fun e => ha (e ▸ hq))
  exact ⟨y1.trans x1, y2.trans x2, fun κ j => (y3 κ j).trans (x3 κ j), fun κ j => (y4 κ j).trans (x4 κ j), fun j => (y5 j).trans (x5 j)⟩
theorem cR_ex {S S' : bS} {A : Nat → Nat → Nat} {cp : Nat → Nat} {P : pP} (h : cR S A cp P) (hx : sEx S S') : cR S' A cp P := by
  obtain ⟨ea, hL⟩ := h.2
  exact ⟨cO_l h.1 (sEx_lF hx), ea, LSr_ex hL hx⟩
theorem potC0 : ∀ n, potC (fun _ => 0) n = 3000 * n
  | 0 => rfl
  | n + 1 => by
    show potC (fun _ => 0) n + 4 * (750 - 0) = _
    rw [potC0 n]
    omega
theorem potA0 : potA M0 (fun _ => 0) = 191400 := by
  unfold potA
  rw [potC0, nS0, nT0, nE0, nC0]
theorem mX0 : mX M0 (fun _ => 0) (fun _ => 0) = fun _ _ => 0 := by
  funext i j
  unfold mX M0
  split
  · rfl
  · split <;> rfl
theorem law_start {xs : Nat → Int32} {Ln : Nat} (hLn : Ln ≤ 3072) {S : bS} {z : Nat} (hz : gK S z = 14) (hzn : gN S z = 0) (h14 : ∀ a, gK S a = 14 → a = z) (p1 : Nat) : wp_L_law xs Ln (fun v _ => v = 1) 601024 7293034 p1 S := by
  have c1 : Int32.toNatClampNeg (1 : Int32) = 1 := by decide
  unfold wp_L_law
  rw [c1]
  refine ⟨by omega, by omega, fun q1 h1 => ⟨23, 270, by omega, by omega, ?_⟩⟩
  have E1 : sEx S (sNew S q1 7 0) := sEx_new h1 (sEx_rf S)
  have zk := E1.1 z (by rw [hz]; decide)
  refine C_init (z := z) (by rw [gK_sNew, if_pos rfl]) (zk.1.trans hz) (zk.2.1.trans hzn) (fun a ha => h14 a (E1.2 a ha)) (Nat.le_refl _) (Nat.le_refl _) (fun Y A hR hA hA6 hp7 hzY hnY hY14 => ?_)
  refine ⟨by omega, by omega, fun μ hμ => ⟨7, 5020, by omega, by omega, ?_⟩⟩
  have E2 : sEx Y (sNew Y μ 8 0) := sEx_new hμ (sEx_rf Y)
  refine M_init (by rw [gK_sNew, if_pos rfl]) (fun j => by rw [gV_sNew, if_pos rfl]) (Nat.le_refl _) (Nat.le_refl _) (fun S' r hM hW hB hr => ?_)
  have E3 : sEx Y S' := sEx_BB E2 hB hμ
  refine ⟨by decide, by decide, by omega, by omega, fun out ho => ⟨Ln / 6 + 1, ?_⟩⟩
  have E4 : sEx S' (sNew S' out 13 1) := sEx_new ho (sEx_rf S')
  have hM4 := mOK_ex hM E4
  have hR3 := cR_ex hR E3
  have hR4 := cR_ex hR3 E4
  have z3 := E3.1 z (by rw [hzY]; decide)
  have z4 := E4.1 z (by rw [z3.1, hzY]; decide)
  have key := fun {a : Nat} (ha : gK Y a = 7) (i : Nat) (hi : 1 ≤ i) (hi7 : i ≤ 7) (e : r i = a) => (show False by
    have x := hr i hi hi7
    rw [e, (E2.1 a (by rw [ha]; decide)).1, ha] at x
    cases x)
  have hj : jS (sNew S' out 13 1) A (fun _ => 0) (M0, L0) μ r out := by
    refine ⟨hR4, hM4, ⟨fun _ => 0, fun _ => 0, ?_⟩, fun i hi hi7 k => by
      rw [hA6 k]
      exact key hp7 i hi hi7, ⟨by rw [gK_sNew, if_pos rfl], by rw [gN_sNew, if_pos rfl]⟩, z, z4.1.trans (z3.1.trans hzY), z4.2.1.trans (z3.2.1.trans hnY)⟩
    show mW μ r (sNew S' out 13 1) (mX M0 (fun _ => 0) (fun _ => 0)) = _
    rw [mX0]
    refine mW_ag (fun j => ?_) (fun i j hi hi7 => ?_)
    · rw [(E4.1 μ (by rw [hM.1]; decide)).2.2.1 8 j]
      exact (congrArg (fun X => gV X 8 μ j) hW).symm.trans (mW_V0 j)
    · rw [(E4.1 (r i) (by rw [(hM.2.2.1 i hi hi7).1]; decide)).2.2.1 9 j]
      exact (congrArg (fun X => gV X 9 (r i) j) hW).symm.trans (mW_Vi hM hi hi7 j)
  have hP : potA (M0, L0).1 (fun _ => 0) = 191400 := potA0
  have := law_loop (xs := xs) hLn (Ln / 6) 0 _ A _ (M0, L0) (601024 - 1 - 23 - 1 - 7 - 1) (7293034 - 6 - 270 - 17 - 5020 - 1) (by omega) hj (fun _ _ _ => rfl) wI_start (fun s c _ hc => by cases hc) (by rw [hP]; omega) (by rw [hP]; omega)
  rw [hA] at this
  exact this
