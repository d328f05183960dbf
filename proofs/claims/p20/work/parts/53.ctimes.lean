section CTIMES
variable {S : bS} {A : Nat → Nat → Nat} {cp : Nat → Nat} {P : pP} {B K : Nat}
/-- the row of times of n stations, as the class has it -/
def encV (n : Nat) (f : Nat → Int32) (D : Nat → Option Nat) : Prop := ∀ v, v < n → f v = oV (D v)
theorem encV_upd {n : Nat} {f : Nat → Int32} {D : Nat → Option Nat} (hE : encV n f D) (v x : Nat) : encV n (upd f v (nI x)) (fun w => if w = v then some x else D w) := by
  intro w hw
  by_cases h : w = v
  · subst h
    rw [pk_us]
    show nI x = oV (if w = w then some x else D w)
    rw [if_pos rfl]
    rfl
  · rw [pk_un h]
    show f w = oV (if w = v then some x else D w)
    rw [if_neg h]
    exact hE w hw
theorem oV_lt {x : Option Nat} {z : Nat} (hx : ∀ y, x = some y → y ≤ 60000) (hz : z ≤ 60000) : ¬ oV x ≤ nI z ↔ ∀ y, x = some y → z < y := by
  cases x with
  | none =>
    refine ⟨fun _ y hy => (by cases hy), fun _ => ?_⟩
    show ¬ nI 1000000 ≤ nI z
    exact nI_ge (by omega) (by omega)
  | some y =>
    have hy := hx y rfl
    refine ⟨fun h y' hy' => ?_, fun h => ?_⟩
    · cases hy'
      have h2 : ¬ y ≤ z := fun q => h (nI_le q (by omega))
      omega
    · have := h y rfl
      exact nI_ge this (by omega)
theorem C_round (h : cR S A cp P) (hw : wI B K P.1 P.2) {row aim : Nat} (hq : gQ S 5 (A 1 aim) 5 = some row) (hr : gK S row = 9) (hrn : gN S row = 14) (haim : aim < nS P.1) {D : Nat → Option Nat} (hB : ∀ v x, D v = some x → x ≤ 45000) {post : bS → Prop} {rec : Nat → Nat → Int32 → Int32 → bS → Prop} {v4 : Int32} (hp : ∀ (b : Bool) (f : Nat → Int32), encV (nS P.1) f (rps (tFr P.1) (tTo P.1) (tOp P.1) (cst P.1 aim) D (nT P.1)) → (b = false → dSt (nT P.1) (tFr P.1) (tTo P.1) (tOp P.1) (cst P.1 aim) D) → rec (A 0 1) (A 1 aim) (if b then 1 else 0) (v4 + 1) (sF S 9 row f)) : ∀ (n t : Nat) (b : Bool) (f : Nat → Int32), t + n = nT P.1 → encV (nS P.1) f (rps (tFr P.1) (tTo P.1) (tOp P.1) (cst P.1 aim) D t) → (b = false → ∀ k, k < t → rlx (tFr P.1) (tTo P.1) (tOp P.1) (cst P.1 aim) D k = D) → wb_X2_reckonTimesTo_47 post rec (n + 1) (A 0 1) (A 1 aim) (if b then 1 else 0) v4 (nI t) (sF S 9 row f) := by
  obtain ⟨hN, hT, hS, -⟩ := hw
  have h30 := hN.2.1.2
  have h14 := hN.1.2
  obtain ⟨n0, -, n1, -⟩ := h.1.2.1
  obtain ⟨e, hL⟩ := cl_at h (i := 1) (Or.inl (by decide))
  have hLf : ∀ f, isLe (sF S 9 row f) (A 5 1) e (lsC A P.1 P.2 1) (cp 1) := fun f => hL
  intro n
  induction n with
  | zero =>
    intro t b f ht hE hb
    have ht' : t = nT P.1 := by omega
    subst ht'
    unfold wb_X2_reckonTimesTo_47
    refine ⟨n0, _, n1, hL.1, C_size (hLf f) ?_⟩
    rw [ls_1, List.length_map, List.length_range]
    exact ⟨fun _ => hp b f hE (fun q => dSt_of (hb q)), fun q => absurd (nI_le (Nat.le_refl _) (by omega)) q⟩
  | succ n ih =>
    intro t b f ht hE hb
    have htT : t < nT P.1 := by omega
    obtain ⟨h1, x2, -⟩ := hT t htT
    obtain ⟨t0, -, t1, t2, -⟩ := h.1.2.2.2.2.1 t htT
    obtain ⟨s0, s1, -⟩ := h.1.2.2.2.1 _ h1.2
    obtain ⟨z0, z1, -⟩ := h.1.2.2.2.1 _ x2.2
    obtain ⟨a0, -⟩ := h.1.2.2.2.1 _ haim
    have hBt : ∀ v x, rps (tFr P.1) (tTo P.1) (tOp P.1) (cst P.1 aim) D t v = some x → x ≤ 48000 := by
      intro v x hx
      have h2 := rps_bound (f := tFr P.1) (g := tTo P.1) (o := tOp P.1) (C := 80) hB t (fun k hk => cst_le hT hS (by omega)) v x hx
      have : t * 80 ≤ 30 * 80 := Nat.mul_le_mul_right _ (by omega)
      omega
    have hsame : (b = false) → rps (tFr P.1) (tTo P.1) (tOp P.1) (cst P.1 aim) D t = D := by
      intro q
      have h3 := hb q
      have : ∀ k, k ≤ t → rps (tFr P.1) (tTo P.1) (tOp P.1) (cst P.1 aim) D k = D := by
        intro k
        induction k with
        | zero => intro _; rfl
        | succ k ihk =>
          intro hk
          show rlx _ _ _ _ (rps _ _ _ _ D k) k = D
          rw [ihk (by omega)]
          exact h3 k (by omega)
      exact this t (Nat.le_refl _)
    generalize hDt : rps (tFr P.1) (tTo P.1) (tOp P.1) (cst P.1 aim) D t = Dt at *
    have hnext : rps (tFr P.1) (tTo P.1) (tOp P.1) (cst P.1 aim) D (t + 1) = rlx (tFr P.1) (tTo P.1) (tOp P.1) (cst P.1 aim) Dt t := by rw [← hDt]; rfl
    have keep : rlx (tFr P.1) (tTo P.1) (tOp P.1) (cst P.1 aim) Dt t = Dt → wb_X2_reckonTimesTo_117 post rec (wb_X2_reckonTimesTo_47 post rec (n + 1)) (A 0 1) (A 1 aim) (if b then 1 else 0) v4 (nI t) (sF S 9 row f) := by
      intro he
      show wb_X2_reckonTimesTo_47 post rec (n + 1) (A 0 1) (A 1 aim) (if b then 1 else 0) v4 (nI t + 1) (sF S 9 row f)
      rw [nI_1]
      refine ih (t + 1) b f (by omega) (by rw [hnext, he]; exact hE) (fun q k hk => ?_)
      by_cases hkt : k = t
      · subst hkt
        have h4 := he
        rw [hsame q] at h4
        exact h4
      · exact hb q k (by omega)
    have hEf : f (tFr P.1 t) = oV (Dt (tFr P.1 t)) := hE _ h1.2
    unfold wb_X2_reckonTimesTo_47
    refine ⟨n0, _, n1, hL.1, C_size (hLf f) ?_⟩
    rw [ls_1, List.length_map, List.length_range]
    refine ⟨fun q => absurd q (nI_ge htT (by omega)), fun _ => ⟨n0, _, n1, hL.1, C_get (a := A 2 t) (hLf f) (by rw [ls_1]; exact rng_at htT) ⟨_, rfl, t0, _, t2, a0, C_timeFrom (X := sF S 9 row f) (row := row) (n := tTo P.1 t) z0 z1 (by omega) a0 hq hr hrn ?_⟩⟩⟩
    refine C_timeBy (S := sF S 9 row f) (M := P.1) (D := Dt) h.1.2.2.2.1 h.1.2.2.2.2.1 h.1.2.2.2.2.2.2.2.1 hN hT hS (by rw [gV_sFs]; exact hE _ x2.2) hBt htT haim ?_
    refine ⟨t0, _, t1, a0, C_timeFrom (X := sF S 9 row f) (row := row) (n := tFr P.1 t) s0 s1 (by omega) a0 hq hr hrn ?_⟩
    · rw [gV_sFs, hEf]
      cases htm : tmO P.1 Dt aim t with
      | none =>
        have hk : rlx (tFr P.1) (tTo P.1) (tOp P.1) (cst P.1 aim) Dt t = Dt := by
          unfold tmO at htm
          unfold rlx
          by_cases ho : tOp P.1 t = true
          · rw [if_pos ho] at htm ⊢
            cases hy : Dt (tTo P.1 t) with
            | none => rfl
            | some y => rw [hy] at htm; cases htm
          · rw [if_neg ho]
        refine ⟨fun _ => keep hk, fun q => ?_⟩
        exfalso
        apply q
        show oV (Dt (tFr P.1 t)) ≤ 1000000
        cases hd : Dt (tFr P.1 t) with
        | none => exact Int32.le_refl _
        | some x =>
          have := hBt _ _ hd
          exact nI_le (b := 1000000) (by omega) (by omega)
      | some z =>
        have hz : z ≤ 48080 := tmO_lt hT hS hBt htT htm
        have hrl : (∃ y, tOp P.1 t = true ∧ Dt (tTo P.1 t) = some y ∧ z = cst P.1 aim t + y) := by
          unfold tmO at htm
          by_cases ho : tOp P.1 t = true
          · rw [if_pos ho] at htm
            cases hy : Dt (tTo P.1 t) with
            | none => rw [hy] at htm; cases htm
            | some y => rw [hy] at htm; cases htm; exact ⟨y, ho, rfl, rfl⟩
          · rw [if_neg ho] at htm; cases htm
        obtain ⟨y, ho, hy, ez⟩ := hrl
        have hlt := oV_lt (x := Dt (tFr P.1 t)) (z := z) (fun x hx => by have := hBt _ _ hx; omega) (by omega)
        refine ⟨fun hle => keep ?_, fun hgt => ⟨t0, _, t1, a0, C_keepFrom (X := sF S 9 row f) (row := row) (n := tFr P.1 t) s0 s1 (by omega) a0 hq hr hrn ?_⟩⟩
        · rcases rlx_cases (f := tFr P.1) (g := tTo P.1) (o := tOp P.1) (c := cst P.1 aim) Dt t with ⟨e1, -⟩ | ⟨y', -, hg, hl, -⟩
          · exact e1
          · rw [hy] at hg
            cases hg
            exact absurd hle (hlt.mpr (fun x hx => by rw [ez]; exact hl x hx))
        · have he : rlx (tFr P.1) (tTo P.1) (tOp P.1) (cst P.1 aim) Dt t = fun v => if v = tFr P.1 t then some z else Dt v := by
            rcases rlx_cases (f := tFr P.1) (g := tTo P.1) (o := tOp P.1) (c := cst P.1 aim) Dt t with ⟨-, h5⟩ | ⟨y', -, hg, -, e⟩
            · obtain ⟨x, hx, hle⟩ := h5 ho y hy
              have := hlt.mp hgt x hx
              omega
            · rw [hy] at hg
              cases hg
              rw [ez]
              exact e
          rw [sV_sF]
          show wb_X2_reckonTimesTo_47 post rec (n + 1) (A 0 1) (A 1 aim) 1 v4 (nI t + 1) _
          rw [nI_1]
          exact ih (t + 1) true _ (by omega) (by rw [hnext, he]; exact encV_upd hE _ _) (fun q => by cases q)
end CTIMES
