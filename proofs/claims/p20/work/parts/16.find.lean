/-- the rounds of the tubes for an aim -/
def dR (M : Nat → Nat → Int32) (aim K : Nat) : Nat → Option Nat := dIt (nT M) (tFr M) (tTo M) (tOp M) (cst M aim) aim K
/-- the least times to an aim -/
def dD (M : Nat → Nat → Int32) (aim : Nat) : Nat → Option Nat := dR M aim 14
theorem encD_upd {n : Nat} {f : Nat → Int32} {D : Nat → Option Nat} (hE : encD n f D) (v x : Nat) : encD n (upd f v (nI x)) (fun w => if w = v then some x else D w) := by
  intro w hw
  by_cases h : w = v
  · subst h
    rw [pk_us]
    show nI x = oN (if w = w then some x else D w)
    rw [if_pos rfl]
    rfl
  · rw [pk_un h]
    show f w = oN (if w = v then some x else D w)
    rw [if_neg h]
    exact hE w hw
theorem dR_bound {M : Nat → Nat → Int32} (hN : iN M) (hT : iT M) (hS : iS M) {aim K : Nat} (hK : K ≤ 20) : ∀ v x, dR M aim K v = some x → x ≤ 48000 := by
  intro v x h
  have h1 := dIt_bound (C := 80) (fun t ht => cst_le hT hS ht) K v x h
  have h2 : K * (nT M * 80) ≤ 20 * (30 * 80) := Nat.mul_le_mul hK (Nat.mul_le_mul_right _ hN.2.1.2)
  omega
section MODEL7
variable {μ : Nat} {r : Nat → Nat} {S : bS} {M : Nat → Nat → Int32}
/-- one round of the tubes -/
theorem M_round (hM : mOK μ r S) (hN : iN M) (hT : iT M) (hS : iS M) {g : Nat → Int32} {aim : Nat} (haim : aim < nS M) {D : Nat → Option Nat} (hB : ∀ v x, D v = some x → x ≤ 48000) {post : bS → Prop} {rec : Nat → Int32 → Int32 → bS → Prop} (h : ∀ (b : Bool) (f : Nat → Int32), encD (nS M) f (rps (tFr M) (tTo M) (tOp M) (cst M aim) D (nT M)) → (b = false → dSt (nT M) (tFr M) (tTo M) (tOp M) (cst M aim) D) → (b = true → ¬ dSt (nT M) (tFr M) (tTo M) (tOp M) (cst M aim) D) → rec μ (nI aim) (if b then 1 else 0) (mW μ r S (mX M f g))) : ∀ (n t : Nat) (b : Bool) (f : Nat → Int32), t + n = nT M → encD (nS M) f (rps (tFr M) (tTo M) (tOp M) (cst M aim) D t) → (b = false → ∀ k, k < t → rlx (tFr M) (tTo M) (tOp M) (cst M aim) D k = D) → (b = true → ¬ dSt (nT M) (tFr M) (tTo M) (tOp M) (cst M aim) D) → wb_X6_findTimes_42 post rec (n + 1) μ (nI aim) (if b then 1 else 0) (nI t) (mW μ r S (mX M f g)) := by
  have h30 := hN.2.1.2
  have h14 := hN.1.2
  intro n
  induction n with
  | zero =>
    intro t b f ht hE hb hb2
    have ht' : t = nT M := by omega
    subst ht'
    unfold wb_X6_findTimes_42
    refine ⟨m_k hM, fun _ => h b f hE (fun q => dSt_of (hb q)) hb2, fun hc => ?_⟩
    rw [mW_V0, show mX M f g 0 3 = nI (nT M) from hN.2.1.1] at hc
    exact absurd (nI_le (Nat.le_refl _) (by omega)) hc
  | succ n ih =>
    intro t b f ht hE hb hb2
    have htT : t < nT M := by omega
    obtain ⟨h1, -⟩ := hT t htT
    have hBt : ∀ v x, rps (tFr M) (tTo M) (tOp M) (cst M aim) D t v = some x → x < 2 ^ 30 := by
      intro v x hx
      have h2 := rps_bound (f := tFr M) (g := tTo M) (o := tOp M) (C := 80) hB t (fun k hk => cst_le hT hS (by omega)) v x hx
      have : t * 80 ≤ 30 * 80 := Nat.mul_le_mul_right _ (by omega)
      omega
    have hsame : (b = false) → rps (tFr M) (tTo M) (tOp M) (cst M aim) D t = D := by
      intro q
      have h3 := hb q
      have : ∀ k, k ≤ t → rps (tFr M) (tTo M) (tOp M) (cst M aim) D k = D := by
        intro k
        induction k with
        | zero => intro _; rfl
        | succ k ihk =>
          intro hk
          show rlx _ _ _ _ (rps _ _ _ _ D k) k = D
          rw [ihk (by omega)]
          exact h3 k (by omega)
      exact this t (Nat.le_refl _)
    unfold wb_X6_findTimes_42
    refine ⟨m_k hM, fun hc => ?_, fun _ => ?_⟩
    · rw [mW_V0, show mX M f g 0 3 = nI (nT M) from hN.2.1.1] at hc
      exact absurd hc (nI_ge htT (by omega))
    · refine M_tu (w := 0) hM (by omega) ⟨m_k hM, M_timeBy hM hN hT hS hE hBt htT haim ?_⟩
      have keep : rlx (tFr M) (tTo M) (tOp M) (cst M aim) (rps (tFr M) (tTo M) (tOp M) (cst M aim) D t) t = rps (tFr M) (tTo M) (tOp M) (cst M aim) D t → wb_X6_findTimes_109 post rec (wb_X6_findTimes_42 post rec (n + 1)) μ (nI aim) (if b then 1 else 0) (nI t) (mW μ r S (mX M f g)) := by
        intro he
        show wb_X6_findTimes_42 post rec (n + 1) μ (nI aim) (if b then 1 else 0) (nI t + 1) (mW μ r S (mX M f g))
        rw [nI_1]
        refine ih (t + 1) b f (by omega) (by show encD _ f (rlx _ _ _ _ (rps _ _ _ _ D t) t); rw [he]; exact hE) (fun q k hk => ?_) hb2
        by_cases hkt : k = t
        · subst hkt
          have h4 := he
          rw [hsame q] at h4
          exact h4
        · exact hb q k (by omega)
      have chg : ∀ y, tOp M t = true → rps (tFr M) (tTo M) (tOp M) (cst M aim) D t (tTo M t) = some y → (∀ x, rps (tFr M) (tTo M) (tOp M) (cst M aim) D t (tFr M t) = some x → cst M aim t + y < x) → wb_X6_findTimes_98 post rec (wb_X6_findTimes_42 post rec (n + 1)) μ (nI aim) (nI t) (nI (tFr M t)) (nI (cst M aim t + y)) (mW μ r S (mX M f g)) := by
        intro y ho hy hlt
        have he : rlx (tFr M) (tTo M) (tOp M) (cst M aim) (rps (tFr M) (tTo M) (tOp M) (cst M aim) D t) t = fun v => if v = tFr M t then some (cst M aim t + y) else rps (tFr M) (tTo M) (tOp M) (cst M aim) D t v := by
          rcases rlx_cases (f := tFr M) (g := tTo M) (o := tOp M) (c := cst M aim) (rps (tFr M) (tTo M) (tOp M) (cst M aim) D t) t with ⟨-, h5⟩ | ⟨y', -, hg, -, e⟩
          · obtain ⟨x, hx, hle⟩ := h5 ho y hy
            have := hlt x hx
            omega
          · rw [hy] at hg
            cases hg
            exact e
        have hns : ¬ dSt (nT M) (tFr M) (tTo M) (tOp M) (cst M aim) D := by
          intro q
          have h6 := rps_same q t (by omega)
          rw [h6] at hlt hy
          obtain ⟨x, hx, hle⟩ := q t htT ho y hy
          have := hlt x hx
          omega
        refine ⟨m_k hM, r 6, (m_q hM).2.2.2.2.2.1, mW_k6 hM, ?_, ?_⟩
        · rw [mW_n6 hM]
          exact vp_in_nI (by omega) (by omega)
        · rw [nI_clamp (n := tFr M t) (by omega), sW_6 hM, mX_U6]
          show wb_X6_findTimes_42 post rec (n + 1) μ (nI aim) 1 (nI t + 1) _
          rw [nI_1]
          refine ih (t + 1) true _ (by omega) (by show encD _ _ (rlx _ _ _ _ (rps _ _ _ _ D t) t); rw [he]; exact encD_upd hE _ _) (fun q => by cases q) (fun _ => hns)
      have hfr : mX M f g 2 (8 * t + 0) = nI (tFr M t) := h1.1
      have hEf : f (tFr M t) = oN (rps (tFr M) (tTo M) (tOp M) (cst M aim) D t (tFr M t)) := hE _ h1.2
      rw [hfr]
      by_cases ho : tOp M t = true
      · cases hy : rps (tFr M) (tTo M) (tOp M) (cst M aim) D t (tTo M t) with
        | none =>
          rw [show tmO M (rps (tFr M) (tTo M) (tOp M) (cst M aim) D t) aim t = none by unfold tmO; rw [if_pos ho, hy]]
          refine ⟨fun _ => keep ?_, fun q => absurd rfl q⟩
          unfold rlx
          rw [if_pos ho, hy]
        | some y =>
          have hyb := hBt _ _ hy
          have hcb := cst_le hT hS (aim := aim) htT
          rw [show tmO M (rps (tFr M) (tTo M) (tOp M) (cst M aim) D t) aim t = some (cst M aim t + y) by unfold tmO; rw [if_pos ho, hy]]
          show (nI (cst M aim t + y) = -1 → _) ∧ (¬ nI (cst M aim t + y) = -1 → _)
          refine ⟨fun q => absurd q (nI_neN1 (by omega)), fun _ => ⟨m_k hM, r 6, (m_q hM).2.2.2.2.2.1, mW_k6 hM, ?_, ?_⟩⟩
          · rw [mW_n6 hM]
            exact vp_in_nI (by omega) (by omega)
          · rw [nI_clamp (n := tFr M t) (by omega), mW_V6 hM, show mX M f g 6 (tFr M t) = _ from hEf]
            cases hx : rps (tFr M) (tTo M) (tOp M) (cst M aim) D t (tFr M t) with
            | none => exact ⟨fun _ => chg y ho hy (fun x hx' => by rw [hx] at hx'; cases hx'), fun q => absurd rfl q⟩
            | some x =>
              have hxb := hBt _ _ hx
              refine ⟨fun q => absurd q (nI_neN1 (by omega)), fun _ => ⟨r 6, (m_q hM).2.2.2.2.2.1, mW_k6 hM, ?_, ?_⟩⟩
              · rw [mW_n6 hM]
                exact vp_in_nI (by omega) (by omega)
              · rw [mW_V6 hM, show mX M f g 6 (tFr M t) = _ from hEf, hx]
                refine ⟨fun hlt => ?_, fun hlt => ?_⟩
                · have hl : cst M aim t + y < x := (nI_ltI (by omega) (by omega)).mp hlt
                  exact chg y ho hy (fun x' hx' => by rw [hx] at hx'; cases hx'; exact hl)
                · have hl : ¬ cst M aim t + y < x := fun q => hlt ((nI_ltI (by omega) (by omega)).mpr q)
                  refine keep ?_
                  unfold rlx
                  rw [if_pos ho, hy, hx]
                  exact if_neg hl
      · rw [show tmO M (rps (tFr M) (tTo M) (tOp M) (cst M aim) D t) aim t = none by unfold tmO; rw [if_neg ho]]
        refine ⟨fun _ => keep ?_, fun q => absurd rfl q⟩
        unfold rlx
        exact if_neg ho
theorem dD_fix (hN : iN M) (hT : iT M) {aim K : Nat} (hs : dSt (nT M) (tFr M) (tTo M) (tOp M) (cst M aim) (dR M aim K)) : dR M aim K = dD M aim := dIt_fix (n := nS M) (fun t ht _ => (hT t ht).1.2) (fun t ht _ => (hT t ht).2.1.2) (fun t ht _ => cst_ge hT ht) (dIt_zero K) hs (dIt_sound K) hN.1.2
theorem dR_stable (hN : iN M) (hT : iT M) {aim K : Nat} (hK : nS M ≤ K) : dSt (nT M) (tFr M) (tTo M) (tOp M) (cst M aim) (dR M aim K) := dIt_stable (n := nS M) (fun t ht _ => (hT t ht).1.2) (fun t ht _ => (hT t ht).2.1.2) (fun t ht _ => cst_ge hT ht) hK
theorem M_rounds (hM : mOK μ r S) (hN : iN M) (hT : iT M) (hS : iS M) {g : Nat → Int32} {aim : Nat} (haim : aim < nS M) {post : bS → Prop} (h : ∀ f, encD (nS M) f (dD M aim) → post (mW μ r S (mX M f g))) : ∀ (n K : Nat) (f : Nat → Int32), K + n = 15 → encD (nS M) f (dR M aim K) → wb_X6_findTimes_34 post (n + 2) μ (nI aim) 1 (mW μ r S (mX M f g)) := by
  intro n
  induction n with
  | zero =>
    intro K f hK hE
    unfold wb_X6_findTimes_34
    refine ⟨fun q => absurd q (by decide), fun _ => ⟨nT M + 1, ?_⟩⟩
    refine M_round hM hN hT hS haim (dR_bound hN hT hS (by omega)) (fun b f' hE' hf ht => ?_) (nT M) 0 false f (by omega) hE (fun _ k hk => absurd hk (Nat.not_lt_zero k)) (fun q => by cases q)
    cases b with
    | true => exact absurd (dR_stable hN hT (by have := hN.1.2; omega)) (ht rfl)
    | false =>
      unfold wb_X6_findTimes_34
      refine ⟨fun _ => h f' ?_, fun q => absurd rfl q⟩
      have hs := hf rfl
      rw [rps_same hs _ (Nat.le_refl _), dD_fix hN hT hs] at hE'
      exact hE'
  | succ n ih =>
    intro K f hK hE
    unfold wb_X6_findTimes_34
    refine ⟨fun q => absurd q (by decide), fun _ => ⟨nT M + 1, ?_⟩⟩
    refine M_round hM hN hT hS haim (dR_bound hN hT hS (by omega)) (fun b f' hE' hf ht => ?_) (nT M) 0 false f (by omega) hE (fun _ k hk => absurd hk (Nat.not_lt_zero k)) (fun q => by cases q)
    cases b with
    | true => exact ih (K + 1) f' (by omega) hE'
    | false =>
      unfold wb_X6_findTimes_34
      refine ⟨fun _ => h f' ?_, fun q => absurd rfl q⟩
      have hs := hf rfl
      rw [rps_same hs _ (Nat.le_refl _), dD_fix hN hT hs] at hE'
      exact hE'
theorem M_findTimes (hM : mOK μ r S) (hN : iN M) (hT : iT M) (hS : iS M) {f g : Nat → Int32} {aim : Nat} (haim : aim < nS M) {post : bS → Prop} (h : ∀ f, encD (nS M) f (dD M aim) → post (mW μ r S (mX M f g))) : wp_X6_findTimes post μ (nI aim) (mW μ r S (mX M f g)) := by
  have h14 := hN.1.2
  refine ⟨nS M + 1, ?_⟩
  have loop : ∀ (n k : Nat) (f : Nat → Int32), k + n = nS M → encD k f (dR M aim 0) → wb_X6_findTimes_2 post (n + 1) μ (nI aim) (nI k) (mW μ r S (mX M f g)) := by
    intro n
    induction n with
    | zero =>
      intro k f hk hE
      have hk' : k = nS M := by omega
      subst hk'
      unfold wb_X6_findTimes_2
      refine ⟨m_k hM, fun _ => ⟨17, M_rounds hM hN hT hS haim h 15 0 f rfl hE⟩, fun hc => ?_⟩
      rw [mW_V0, show mX M f g 0 2 = nI (nS M) from hN.1.1] at hc
      exact absurd (nI_le (Nat.le_refl _) (by omega)) hc
    | succ n ih =>
      intro k f hk hE
      have one : ∀ x : Option Nat, dR M aim 0 k = x → wb_X6_findTimes_25 post (wb_X6_findTimes_2 post (n + 1)) μ (nI aim) (nI k) (oN x) (nI k) (r 6) (mW μ r S (mX M f g)) := by
        intro x hx
        refine ⟨mW_k6 hM, ?_, ?_⟩
        · rw [mW_n6 hM]
          exact vp_in_nI (by omega) (by omega)
        · rw [nI_clamp (n := k) (by omega), sW_6 hM, mX_U6, nI_1]
          refine ih (k + 1) _ (by omega) (fun v hv => ?_)
          by_cases hvk : v = k
          · subst hvk
            rw [pk_us, hx]
          · rw [pk_un hvk]
            exact hE v (by omega)
      unfold wb_X6_findTimes_2
      refine ⟨m_k hM, fun hc => ?_, fun _ => ⟨r 6, (m_q hM).2.2.2.2.2.1, fun hne => ?_, fun he => ?_⟩⟩
      · rw [mW_V0, show mX M f g 0 2 = nI (nS M) from hN.1.1] at hc
        exact absurd hc (nI_ge (by omega) (by omega))
      · exact one none (if_neg (fun q => hne (by rw [q])))
      · have hka : k = aim := (nI_eq (by omega) (by omega)).mp he
        exact one (some 0) (if_pos hka)
  exact loop (nS M) 0 f (by omega) (fun v hv => absurd hv (Nat.not_lt_zero v))
end MODEL7
