/-! ===== the reference's parts and digest ===== -/
theorem prI_le (M : Nat → Nat → Int32) (aim : Nat) : ∀ k, prI M aim k ≤ k
  | 0 => Nat.le_refl _
  | k + 1 => by
    have := prI_le M aim k
    show prI M aim k + (if k ≠ aim ∧ (dD M aim k).isSome then 1 else 0) ≤ k + 1
    split <;> omega
section MODEL16
variable {μ : Nat} {r : Nat → Nat} {S : bS} {M : Nat → Nat → Int32}
theorem M_pairs (hM : mOK μ r S) (hN : iN M) (hT : iT M) (hS : iS M) {f g : Nat → Int32} {post : Int32 → bS → Prop} (hp : ∀ f, post (nI (prO M (nS M))) (mW μ r S (mX M f g))) : wp_X6_pairs post μ (mW μ r S (mX M f g)) := by
  have h14 := hN.1.2
  have inner : ∀ (a : Nat) (rec : Nat → Int32 → Int32 → bS → Prop) (f : Nat → Int32), a < nS M → encD (nS M) f (dD M a) → rec μ (nI (prO M (a + 1))) (nI a + 1) (mW μ r S (mX M f g)) → ∀ (n s : Nat), s + n = nS M → wb_X6_pairs_19 post rec (n + 1) μ (nI (prO M a + prI M a s)) (nI a) (nI s) (mW μ r S (mX M f g)) := by
    intro a rec f ha hE hr n
    induction n with
    | zero =>
      intro s hs
      have hs' : s = nS M := by omega
      subst hs'
      unfold wb_X6_pairs_19
      refine ⟨m_k hM, fun _ => hr, fun hc => ?_⟩
      rw [mW_V0, show mX M f g 0 2 = nI (nS M) from hN.1.1] at hc
      exact absurd (nI_le (Nat.le_refl _) (by omega)) hc
    | succ n ih =>
      intro s hs
      have next := ih (s + 1) (by omega)
      have e : prI M a (s + 1) = prI M a s + if s ≠ a ∧ (dD M a s).isSome then 1 else 0 := rfl
      have no : ¬ (s ≠ a ∧ (dD M a s).isSome) → wb_X6_pairs_47 post rec (wb_X6_pairs_19 post rec (n + 1)) μ (nI a) (nI s) (nI (prO M a + prI M a s)) (mW μ r S (mX M f g)) := fun hn => by
        rw [e, if_neg hn, Nat.add_zero] at next
        show wb_X6_pairs_19 post rec (n + 1) μ (nI (prO M a + prI M a s) + nI 0) (nI a) (nI s + 1) _
        rw [nI_add, Nat.add_zero, nI_1 s]
        exact next
      have yes : (s ≠ a ∧ (dD M a s).isSome) → wb_X6_pairs_48 post rec (wb_X6_pairs_19 post rec (n + 1)) μ (nI a) (nI s) 1 (nI (prO M a + prI M a s)) (mW μ r S (mX M f g)) := fun hn => by
        rw [e, if_pos hn, ← Nat.add_assoc] at next
        show wb_X6_pairs_19 post rec (n + 1) μ (nI (prO M a + prI M a s) + 1) (nI a) (nI s + 1) _
        rw [nI_1, nI_1 s]
        exact next
      unfold wb_X6_pairs_19
      refine ⟨m_k hM, fun hc => ?_, fun _ => ⟨fun he => no (fun q => q.1 ((nI_eq (by omega) (by omega)).mp he)), fun hne => ⟨r 6, (m_q hM).2.2.2.2.2.1, mW_k6 hM, ?_, ?_⟩⟩⟩
      · rw [mW_V0, show mX M f g 0 2 = nI (nS M) from hN.1.1] at hc
        exact absurd hc (nI_ge (by omega) (by omega))
      · rw [mW_n6 hM]
        exact vp_in_nI (by omega) (by omega)
      · have hsa : s ≠ a := fun q => hne (by rw [q])
        rw [nI_clamp (n := s) (by omega), mW_V6 hM, show mX M f g 6 s = oN (dD M a s) from hE s (by omega)]
        cases hd : dD M a s with
        | none =>
          refine ⟨fun _ => no (fun q => ?_), fun q => absurd rfl q⟩
          rw [hd] at q
          exact absurd q.2 (by decide)
        | some x =>
          have hx := dR_bound hN hT hS (K := 14) (by decide) s x hd
          exact ⟨fun q => absurd q (nI_neN1 (by omega)), fun _ => yes ⟨hsa, by rw [hd]; rfl⟩⟩
  have loop : ∀ (n a : Nat) (f : Nat → Int32), a + n = nS M → wb_X6_pairs_4 post (n + 1) μ (nI (prO M a)) (nI a) (mW μ r S (mX M f g)) := by
    intro n
    induction n with
    | zero =>
      intro a f ha
      have ha' : a = nS M := by omega
      subst ha'
      unfold wb_X6_pairs_4
      refine ⟨m_k hM, fun _ => hp f, fun hc => ?_⟩
      rw [mW_V0, show mX M f g 0 2 = nI (nS M) from hN.1.1] at hc
      exact absurd (nI_le (Nat.le_refl _) (by omega)) hc
    | succ n ih =>
      intro a f ha
      unfold wb_X6_pairs_4
      refine ⟨m_k hM, fun hc => ?_, fun _ => ?_⟩
      · rw [mW_V0, show mX M f g 0 2 = nI (nS M) from hN.1.1] at hc
        exact absurd hc (nI_ge (by omega) (by omega))
      · refine M_findTimes hM hN hT hS (by omega) (fun f' hE => ⟨nS M + 1, ?_⟩)
        refine inner a _ f' (by omega) hE ?_ (nS M) 0 (by omega)
        rw [nI_1]
        exact ih (a + 1) f' (by omega)
  exact ⟨nS M + 1, loop (nS M) 0 f (by omega)⟩
def qParts (P : pP) (t : Int32) : Int32 × pP := match ixO t (nT P.1) with
  | none => fl P 1
  | some i => (nI (prO (T0 P).1 (nS P.1)) - nI (prO (mU (T0 P).1 2 (8 * i + 5) 0) (nS P.1)), T0 P)
theorem M_parts (hM : mOK μ r S) {f g : Nat → Int32} {B K : Nat} {P : pP} (h : wI B K P.1 P.2) {t : Int32} {post : Int32 → bS → Prop} (hp : ∀ f g, post (qParts P t).1 (mW μ r S (mX (qParts P t).2.1 f g))) : wp_X6_parts post μ t (mW μ r S (mX P.1 f g)) := by
  have h30 := h.1.2.1.2
  have h0 := wI_T0 h
  unfold wp_X6_parts
  rw [st0]
  unfold qParts at hp
  refine ⟨m_k (M := mX P.1 f g) hM, M_isTu hM h0.1 ?_⟩
  rw [show nT (T0 P).1 = nT P.1 from rfl]
  cases hx : ixO t (nT P.1) with
  | none =>
    rw [hx] at hp
    exact ⟨fun q => absurd rfl q, fun _ => ⟨m_k hM, M_failX hM (hp f g)⟩⟩
  | some i =>
    rw [hx] at hp
    obtain ⟨e1, e2⟩ := ixO_some (by omega) hx
    refine ⟨fun _ => ⟨m_k hM, M_pairs hM h0.1 h0.2.1 h0.2.2.1 (fun f1 => ⟨m_k hM, ?_⟩)⟩, fun q => absurd (show (1 : Int32) = 0 from q) (by decide)⟩
    rw [e1]
    refine M_tu (w := 5) hM (by omega) ⟨m_k hM, r 2, (m_q hM).2.1, mW_k2 hM, ?_, ?_⟩
    · rw [show (5 : Int32) = nI 5 from rfl, i_8, mW_n2 hM]
      exact vp_in_nI (by omega) (by omega)
    · have h1 := wI_op (t := i) h0 (v := 0) (Or.inl rfl)
      rw [show (5 : Int32) = nI 5 from rfl, i_8, nI_clamp (n := 8 * i + 5) (by omega), sW_2 hM, mX_U (by decide) (by decide)]
      refine M_pairs hM h1.1 h1.2.1 h1.2.2.1 (fun f => ⟨m_k hM, r 2, (m_q hM).2.1, mW_k2 hM, ?_, ?_⟩)
      · rw [mW_n2 hM]
        exact vp_in_nI (by omega) (by omega)
      · rw [sW_2 hM, mX_U (by decide) (by decide), show mX (T0 P).1 f1 g 2 (8 * i + 5) = (T0 P).1 2 (8 * i + 5) from rfl] 
        rw [show mU (mU (T0 P).1 2 (8 * i + 5) 0) 2 (8 * i + 5) ((T0 P).1 2 (8 * i + 5)) = (T0 P).1 from mU_back]
        exact hp f g
/-- the digest, number by number -/
def dg (d : Int64) (x : Int32) : Int64 := d * 31 + x.toInt64
def dgF (F : Nat → Int32) (d : Int64) : Nat → Int64
  | 0 => d
  | k + 1 => dg (dgF F d k) (F k)
def dgG (F : Nat → Int64 → Int64) (d : Int64) : Nat → Int64
  | 0 => d
  | k + 1 => F k (dgG F d k)
def dgS (P : pP) (s : Nat) (d : Int64) : Int64 := dgF (fun k => nI ((P.2 (1 + s)).getD k 0)) (dgF (staR P s) d 6) (P.2 (1 + s)).length
def dgP (P : pP) : Int64 := dgG (fun c d => dgF (fun w => P.1 4 (9 * c + w)) d 7) (dgG (fun t d => dgF (tubR P t) d 9) (dgG (dgS P) (dgF (cntR P) 457 9) (nS P.1)) (nT P.1)) (nC P.1)
theorem M_digest (hM : mOK μ r S) {f g : Nat → Int32} {B K : Nat} {P : pP} (h : wI B K P.1 P.2) {post : Int64 → bS → Prop} (hp : ∀ f g, post (dgP (T0 P)) (mW μ r S (mX (T0 P).1 f g))) : wp_X6_digest post μ (mW μ r S (mX P.1 f g)) := by
  have h0 := wI_T0 h
  unfold wp_X6_digest
  rw [st0]
  generalize T0 P = Q at *
  have h14 := h0.1.1.2
  have h30 := h0.1.2.1.2
  have h500 := h0.1.2.2.2.2
  refine ⟨m_k (M := mX P.1 f g) hM, ?_⟩
  obtain ⟨d1, e1⟩ : ∃ x, x = dgF (cntR Q) 457 9 := ⟨_, rfl⟩
  obtain ⟨d2, e2⟩ : ∃ x, x = dgG (dgS Q) d1 (nS Q.1) := ⟨_, rfl⟩
  obtain ⟨d3, e3⟩ : ∃ x, x = dgG (fun t d => dgF (tubR Q t) d 9) d2 (nT Q.1) := ⟨_, rfl⟩
  have eP : dgP Q = dgG (fun c d => dgF (fun w => Q.1 4 (9 * c + w)) d 7) d3 (nC Q.1) := by rw [e3, e2, e1]; rfl
  rw [eP] at hp
  -- the carriers
  have car1 : ∀ (c : Nat) (d : Int64) (rec : Nat → Int64 → Int32 → bS → Prop) (f g : Nat → Int32), c < nC Q.1 → rec μ (dgF (fun w => Q.1 4 (9 * c + w)) d 7) (nI c + 1) (mW μ r S (mX Q.1 f g)) → ∀ (n w : Nat), w + n = 7 → wb_X6_digest_181 post rec (n + 1) μ (dgF (fun w => Q.1 4 (9 * c + w)) d w) (nI c) (nI w) (mW μ r S (mX Q.1 f g)) := by
    intro c d rec f g hc hr n
    induction n with
    | zero =>
      intro w hw
      have hw' : w = 7 := by omega
      subst hw'
      unfold wb_X6_digest_181
      exact ⟨fun _ => hr, fun q => absurd (by decide) q⟩
    | succ n ih =>
      intro w hw
      unfold wb_X6_digest_181
      refine ⟨fun q => absurd ((nI_leI (a := 7) (by decide) (by omega)).mp q) (by omega), fun _ => ⟨m_k hM, M_get hM (by omega) ?_⟩⟩
      rw [nI_1 w]
      exact ih (w + 1) (by omega)
  have car : ∀ (n c : Nat) (f g : Nat → Int32), c + n = nC Q.1 → wb_X6_digest_170 post (n + 1) μ (dgG (fun c d => dgF (fun w => Q.1 4 (9 * c + w)) d 7) d3 c) (nI c) (mW μ r S (mX Q.1 f g)) := by
    intro n
    induction n with
    | zero =>
      intro c f g hc
      have hc' : c = nC Q.1 := by omega
      subst hc'
      unfold wb_X6_digest_170
      refine ⟨m_k hM, fun _ => hp f g, fun q => ?_⟩
      rw [mW_V0, show mX Q.1 f g 0 5 = nI (nC Q.1) from h0.1.2.2.2.1] at q
      exact absurd (nI_le (Nat.le_refl _) (by omega)) q
    | succ n ih =>
      intro c f g hc
      unfold wb_X6_digest_170
      refine ⟨m_k hM, fun q => ?_, fun _ => ⟨8, ?_⟩⟩
      · rw [mW_V0, show mX Q.1 f g 0 5 = nI (nC Q.1) from h0.1.2.2.2.1] at q
        exact absurd q (nI_ge (by omega) (by omega))
      · refine car1 c _ _ f g (by omega) ?_ 7 0 (by omega)
        rw [nI_1 c]
        exact ih (c + 1) f g (by omega)
  -- the tubes
  have tub1 : ∀ (c : Nat) (d : Int64) (rec : Nat → Int64 → Int32 → bS → Prop) (f g : Nat → Int32), c < nT Q.1 → rec μ (dgF (tubR Q c) d 9) (nI c + 1) (mW μ r S (mX Q.1 f g)) → ∀ (n w : Nat), w + n = 9 → wb_X6_digest_134 post rec (n + 1) μ (dgF (tubR Q c) d w) (nI c) (nI w) (mW μ r S (mX Q.1 f g)) := by
    intro c d rec f g hc hr n
    induction n with
    | zero =>
      intro w hw
      have hw' : w = 9 := by omega
      subst hw'
      unfold wb_X6_digest_134
      exact ⟨fun _ => hr, fun q => absurd (by decide) q⟩
    | succ n ih =>
      intro w hw
      unfold wb_X6_digest_134
      refine ⟨fun q => absurd ((nI_leI (a := 9) (by decide) (by omega)).mp q) (by omega), fun _ => ⟨m_k hM, M_tubTold hM h0 (t := c) (by omega) (by omega) ?_⟩⟩
      rw [nI_1 w]
      exact ih (w + 1) (by omega)
  have tub : ∀ (n c : Nat) (f g : Nat → Int32), c + n = nT Q.1 → wb_X6_digest_123 post (n + 1) μ (dgG (fun t d => dgF (tubR Q t) d 9) d2 c) (nI c) (mW μ r S (mX Q.1 f g)) := by
    intro n
    induction n with
    | zero =>
      intro c f g hc
      have hc' : c = nT Q.1 := by omega
      subst hc'
      unfold wb_X6_digest_123
      refine ⟨m_k hM, fun _ => ⟨nC Q.1 + 1, ?_⟩, fun q => ?_⟩
      · rw [← e3]
        exact car (nC Q.1) 0 f g (by omega)
      · rw [mW_V0, show mX Q.1 f g 0 3 = nI (nT Q.1) from h0.1.2.1.1] at q
        exact absurd (nI_le (Nat.le_refl _) (by omega)) q
    | succ n ih =>
      intro c f g hc
      unfold wb_X6_digest_123
      refine ⟨m_k hM, fun q => ?_, fun _ => ⟨10, ?_⟩⟩
      · rw [mW_V0, show mX Q.1 f g 0 3 = nI (nT Q.1) from h0.1.2.1.1] at q
        exact absurd q (nI_ge (by omega) (by omega))
      · refine tub1 c _ _ f g (by omega) ?_ 9 0 (by omega)
        rw [nI_1 c]
        exact ih (c + 1) f g (by omega)
  -- the stations
  have lin : ∀ (s : Nat) (d : Int64) (rec : Nat → Int64 → Int32 → bS → Prop) (f g : Nat → Int32), s < nS Q.1 → Qu g (Q.2 (1 + s)) → rec μ (dgF (fun k => nI ((Q.2 (1 + s)).getD k 0)) d (Q.2 (1 + s)).length) (nI s + 1) (mW μ r S (mX Q.1 f g)) → ∀ (n k : Nat), k + n = (Q.2 (1 + s)).length → wb_X6_digest_87 post rec (n + 1) μ (dgF (fun k => nI ((Q.2 (1 + s)).getD k 0)) d k) (nI s) (nI (Q.2 (1 + s)).length) (nI k) (mW μ r S (mX Q.1 f g)) := by
    intro s d rec f g hs hQ hr n
    have hlen := len_at h0 (t := s) (by omega)
    induction n with
    | zero =>
      intro k hk
      have hk' : k = (Q.2 (1 + s)).length := by omega
      subst hk'
      unfold wb_X6_digest_87
      exact ⟨fun _ => hr, fun q => absurd (nI_le (Nat.le_refl _) (by omega)) q⟩
    | succ n ih =>
      intro k hk
      unfold wb_X6_digest_87
      refine ⟨fun q => absurd q (nI_ge (by omega) (by omega)), fun _ => ⟨m_k hM, r 7, (m_q hM).2.2.2.2.2.2, mW_k7 hM, ?_, ?_⟩⟩
      · rw [mW_n7 hM]
        exact vp_in_nI (by omega) (by omega)
      · have hkl : k < (Q.2 (1 + s)).length := by omega
        have hgk : g k = nI ((Q.2 (1 + s)).getD k 0) := by
          have : (Q.2 (1 + s))[k]? = some ((Q.2 (1 + s)).getD k 0) := by
            rw [List.getD_eq_getElem?_getD, List.getElem?_eq_getElem hkl]
            rfl
          exact hQ k _ this
        rw [nI_clamp (n := k) (by omega), mW_V7 hM, show mX Q.1 f g 7 k = nI ((Q.2 (1 + s)).getD k 0) from hgk, nI_1 k]
        exact ih (k + 1) (by omega)
  have sta1 : ∀ (c : Nat) (d : Int64) (rec : Nat → Int64 → Int32 → bS → Prop) (f g : Nat → Int32), c < nS Q.1 → (∀ f g, rec μ (dgS Q c d) (nI c + 1) (mW μ r S (mX Q.1 f g))) → ∀ (n w : Nat), w + n = 6 → wb_X6_digest_49 post rec (n + 1) μ (dgF (staR Q c) d w) (nI c) (nI w) (mW μ r S (mX Q.1 f g)) := by
    intro c d rec f g hc hr n
    obtain ⟨a1, a2, a3, a4, a5, a6, a7, a8⟩ := h0.2.2.2.2.1
    have hL := h0.2.2.2.2.2.2.1.1 c (by omega)
    induction n with
    | zero =>
      intro w hw
      have hw' : w = 6 := by omega
      subst hw'
      unfold wb_X6_digest_49
      refine ⟨fun _ => ⟨m_k hM, M_line hM a3 a4 a7 hL.1 hL.2 (fun g' hQ => ⟨(Q.2 (1 + c)).length + 1, ?_⟩)⟩, fun q => absurd (by decide) q⟩
      exact lin c _ rec f g' hc hQ (hr f g') (Q.2 (1 + c)).length 0 (by omega)
    | succ n ih =>
      intro w hw
      unfold wb_X6_digest_49
      refine ⟨fun q => absurd ((nI_leI (a := 6) (by decide) (by omega)).mp q) (by omega), fun _ => ⟨m_k hM, M_staTold hM h0 (s := c) (by omega) (by omega) ?_⟩⟩
      rw [nI_1 w]
      exact ih (w + 1) (by omega)
  have sta : ∀ (n c : Nat) (f g : Nat → Int32), c + n = nS Q.1 → wb_X6_digest_38 post (n + 1) μ (dgG (dgS Q) d1 c) (nI c) (mW μ r S (mX Q.1 f g)) := by
    intro n
    induction n with
    | zero =>
      intro c f g hc
      have hc' : c = nS Q.1 := by omega
      subst hc'
      unfold wb_X6_digest_38
      refine ⟨m_k hM, fun _ => ⟨nT Q.1 + 1, ?_⟩, fun q => ?_⟩
      · rw [← e2]
        exact tub (nT Q.1) 0 f g (by omega)
      · rw [mW_V0, show mX Q.1 f g 0 2 = nI (nS Q.1) from h0.1.1.1] at q
        exact absurd (nI_le (Nat.le_refl _) (by omega)) q
    | succ n ih =>
      intro c f g hc
      unfold wb_X6_digest_38
      refine ⟨m_k hM, fun q => ?_, fun _ => ⟨7, ?_⟩⟩
      · rw [mW_V0, show mX Q.1 f g 0 2 = nI (nS Q.1) from h0.1.1.1] at q
        exact absurd q (nI_ge (by omega) (by omega))
      · refine sta1 c _ _ f g (by omega) (fun f g => ?_) 6 0 (by omega)
        rw [nI_1 c]
        exact ih (c + 1) f g (by omega)
  -- the counts
  have cnt : ∀ (n w : Nat), w + n = 9 → wb_X6_digest_11 post (n + 1) μ (dgF (cntR Q) 457 w) (nI w) (mW μ r S (mX Q.1 f g)) := by
    intro n
    induction n with
    | zero =>
      intro w hw
      have hw' : w = 9 := by omega
      subst hw'
      unfold wb_X6_digest_11
      refine ⟨fun _ => ⟨nS Q.1 + 1, ?_⟩, fun q => absurd (by decide) q⟩
      rw [← e1]
      exact sta (nS Q.1) 0 f g (by omega)
    | succ n ih =>
      intro w hw
      unfold wb_X6_digest_11
      refine ⟨fun q => absurd ((nI_leI (a := 9) (by decide) (by omega)).mp q) (by omega), fun _ => ⟨m_k hM, M_counted hM h0 (by omega) ?_⟩⟩
      rw [nI_1 w]
      exact ih (w + 1) (by omega)
  exact ⟨10, cnt 9 0 (by omega)⟩
end MODEL16
