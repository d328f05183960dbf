/-! ===== the reference's own calls: the answer, and the value after it ===== -/
def T0 (P : pP) : pP := (mU P.1 0 0 0, P.2)
def fl (P : pP) (n : Int32) : Int32 × pP := (0, (mU (mU P.1 0 0 0) 0 0 n, P.2))
theorem wI_th {B K : Nat} {M : Nat → Nat → Int32} {L : Nat → List Nat} (h : wI B K M L) (v : Int32) : wI B K (mU M 0 0 v) L := by
  have e : ∀ i j, ¬ (i = 0 ∧ j = 0) → mU M 0 0 v i j = M i j := fun i j hh => if_neg hh
  exact wI_fr h (fun j hj => e _ _ (fun q => hj q.2)) (fun _ => rfl) (fun _ => rfl) (iT_fr h.2.1 rfl rfl (fun _ _ _ => rfl)) (iS_fr h.2.2.1 rfl rfl (fun _ _ _ _ => rfl)) (iE_fr h.2.2.2.1 rfl rfl rfl (fun _ => rfl) (fun _ => rfl)) (fun _ => rfl) (fun _ => rfl)
theorem wI_T0 {B K : Nat} {P : pP} (h : wI B K P.1 P.2) : wI B K (T0 P).1 (T0 P).2 := wI_th h 0
theorem wI_fl {B K : Nat} {P : pP} (h : wI B K P.1 P.2) (n : Int32) : wI B K (fl P n).2.1 (fl P n).2.2 := wI_th (wI_th h 0) n
theorem dD_ext {M M' : Nat → Nat → Int32} (h1 : ∀ j, M' 1 j = M 1 j) (h2 : ∀ j, M' 2 j = M 2 j) (h3 : M' 0 3 = M 0 3) (aim : Nat) : dD M' aim = dD M aim := by
  have e1 : M' 1 = M 1 := funext h1
  have e2 : M' 2 = M 2 := funext h2
  have a1 : tFr M' = tFr M := by funext t; unfold tFr; rw [e2]
  have a2 : tTo M' = tTo M := by funext t; unfold tTo; rw [e2]
  have a3 : tOp M' = tOp M := by funext t; unfold tOp; rw [e2]
  have a4 : cst M' aim = cst M aim := by funext t; unfold cst thr tLn tSp hnd tTo; rw [e2, e1]
  unfold dD dR nT
  rw [h3, a1, a2, a3, a4]
theorem chM_ext {M M' : Nat → Nat → Int32} (h1 : ∀ j, M' 1 j = M 1 j) (h2 : ∀ j, M' 2 j = M 2 j) (h3 : M' 0 3 = M 0 3) (s aim : Nat) : chM M' s aim = chM M s aim := by
  have e1 : M' 1 = M 1 := funext h1
  have e2 : M' 2 = M 2 := funext h2
  have a5 : ∀ D t, tmO M' D aim t = tmO M D aim t := fun D t => by
    unfold tmO tOp tTo cst thr tLn tSp hnd tTo
    rw [e2, e1]
  have a6 : ∀ D k, bst M' D s aim k = bst M D s aim k := fun D k => by
    induction k with
    | zero => rfl
    | succ k ih =>
      show bStep M' D s aim (bst M' D s aim k) k = bStep M D s aim (bst M D s aim k) k
      rw [ih]
      unfold bStep
      rw [a5, show way M' s k = way M s k by unfold way; rw [e1]]
  unfold chM
  rw [dD_ext h1 h2 h3, a6, e1, show mny M' s = mny M s by unfold mny; rw [e1]]
section MODEL14
variable {μ : Nat} {r : Nat → Nat} {S : bS}
theorem M_failX (hM : mOK μ r S) {M : Nat → Nat → Int32} {f g : Nat → Int32} {post : Int32 → bS → Prop} {v : Int32} (h : post 0 (mW μ r S (mX (mU M 0 0 v) f g))) : wp_X6_fail post μ v (mW μ r S (mX M f g)) := by
  refine M_fail hM ?_
  rw [mX_U (by decide) (by decide)]
  exact h
theorem st0 {P : pP} {f g : Nat → Int32} : sV (mW μ r S (mX P.1 f g)) 8 μ 0 0 = mW μ r S (mX (T0 P).1 f g) := by
  rw [sW_0, mX_U (by decide) (by decide)]
  rfl
theorem M_ixC {X : bS} {post : Int32 → bS → Prop} {v c : Int32} {n : Nat} (hc : c = nI n - 1) (hn : n < 2 ^ 31) (h : post (if (ixO v n).isSome then 1 else 0) X) : wp_X6_isIn post v 0 c X := by
  rw [hc]
  exact M_ixIn hn h
def qCarrier (P : pP) (c w : Int32) : Int32 × pP := match ixO c (nC P.1), ixO w 7 with
  | some i, some k => (P.1 4 (9 * i + k), T0 P)
  | _, _ => fl P 1
theorem M_carrier (hM : mOK μ r S) {f g : Nat → Int32} {B K : Nat} {P : pP} (h : wI B K P.1 P.2) {c w : Int32} {post : Int32 → bS → Prop} (hp : ∀ f g, post (qCarrier P c w).1 (mW μ r S (mX (qCarrier P c w).2.1 f g))) : wp_X6_carrier post μ c w (mW μ r S (mX P.1 f g)) := by
  have h5 := h.1.2.2.2
  unfold wp_X6_carrier
  rw [st0]
  refine ⟨m_k (M := mX P.1 f g) hM, ?_⟩
  rw [mW_V0]
  unfold qCarrier at hp
  refine M_ixC (n := nC P.1) (by rw [show mX (T0 P).1 f g 0 5 = nI (nC P.1) from h5.1]) (by omega) ?_
  cases hx : ixO c (nC P.1) with
  | none =>
    rw [hx] at hp
    exact ⟨fun _ => ⟨m_k hM, M_failX hM (hp f g)⟩, fun q => absurd rfl q⟩
  | some i =>
    obtain ⟨e1, e2⟩ := ixO_some (by omega) hx
    refine ⟨fun q => absurd (show (1 : Int32) = 0 from q) (by decide), fun _ => M_ixC (n := 7) (by decide) (by decide) ?_⟩
    cases hy : ixO w 7 with
    | none =>
      rw [hx, hy] at hp
      exact ⟨fun _ => ⟨m_k hM, M_failX hM (hp f g)⟩, fun q => absurd rfl q⟩
    | some k =>
      rw [hx, hy] at hp
      obtain ⟨e3, e4⟩ := ixO_some (by decide) hy
      refine ⟨fun q => absurd (show (1 : Int32) = 0 from q) (by decide), fun _ => ⟨m_k hM, ?_⟩⟩
      rw [e1, e3]
      exact M_get hM (by omega) (hp f g)
def qCount (P : pP) (w : Int32) : Int32 × pP := match ixO w 9 with
  | some k => (cntR (T0 P) k, T0 P)
  | none => fl P 1
theorem M_count (hM : mOK μ r S) {f g : Nat → Int32} {B K : Nat} {P : pP} (h : wI B K P.1 P.2) {w : Int32} {post : Int32 → bS → Prop} (hp : ∀ f g, post (qCount P w).1 (mW μ r S (mX (qCount P w).2.1 f g))) : wp_X6_count post μ w (mW μ r S (mX P.1 f g)) := by
  unfold wp_X6_count
  rw [st0]
  unfold qCount at hp
  refine ⟨m_k (M := mX P.1 f g) hM, M_ixC (n := 9) (by decide) (by decide) ?_⟩
  cases hy : ixO w 9 with
  | none =>
    rw [hy] at hp
    exact ⟨fun _ => ⟨m_k hM, M_failX hM (hp f g)⟩, fun q => absurd rfl q⟩
  | some k =>
    rw [hy] at hp
    obtain ⟨e3, e4⟩ := ixO_some (by decide) hy
    refine ⟨fun q => absurd (show (1 : Int32) = 0 from q) (by decide), fun _ => ⟨m_k hM, ?_⟩⟩
    rw [e3]
    exact M_counted hM (wI_T0 h) (by omega) (hp f g)
def qStation (P : pP) (s w : Int32) : Int32 × pP := match ixO s (nS P.1), ixO w 6 with
  | some i, some k => (staR P i k, T0 P)
  | _, _ => fl P 1
theorem M_station (hM : mOK μ r S) {f g : Nat → Int32} {B K : Nat} {P : pP} (h : wI B K P.1 P.2) {s w : Int32} {post : Int32 → bS → Prop} (hp : ∀ f g, post (qStation P s w).1 (mW μ r S (mX (qStation P s w).2.1 f g))) : wp_X6_station post μ s w (mW μ r S (mX P.1 f g)) := by
  have h14 := h.1.1.2
  unfold wp_X6_station
  rw [st0]
  unfold qStation at hp
  refine ⟨m_k (M := mX P.1 f g) hM, M_isSt hM (wI_T0 h).1 ?_⟩
  rw [show nS (T0 P).1 = nS P.1 from rfl]
  cases hx : ixO s (nS P.1) with
  | none =>
    rw [hx] at hp
    exact ⟨fun _ => ⟨m_k hM, M_failX hM (hp f g)⟩, fun q => absurd rfl q⟩
  | some i =>
    obtain ⟨e1, e2⟩ := ixO_some (by omega) hx
    refine ⟨fun q => absurd (show (1 : Int32) = 0 from q) (by decide), fun _ => M_ixC (n := 6) (by decide) (by decide) ?_⟩
    cases hy : ixO w 6 with
    | none =>
      rw [hx, hy] at hp
      exact ⟨fun _ => ⟨m_k hM, M_failX hM (hp f g)⟩, fun q => absurd rfl q⟩
    | some k =>
      rw [hx, hy] at hp
      obtain ⟨e3, e4⟩ := ixO_some (by decide) hy
      refine ⟨fun q => absurd (show (1 : Int32) = 0 from q) (by decide), fun _ => ⟨m_k hM, ?_⟩⟩
      rw [e1, e3]
      exact M_staTold hM (wI_T0 h) (by omega) (by omega) (hp f g)
def qTube (P : pP) (s w : Int32) : Int32 × pP := match ixO s (nT P.1), ixO w 9 with
  | some i, some k => (tubR (T0 P) i k, T0 P)
  | _, _ => fl P 1
theorem M_tube (hM : mOK μ r S) {f g : Nat → Int32} {B K : Nat} {P : pP} (h : wI B K P.1 P.2) {s w : Int32} {post : Int32 → bS → Prop} (hp : ∀ f g, post (qTube P s w).1 (mW μ r S (mX (qTube P s w).2.1 f g))) : wp_X6_tube post μ s w (mW μ r S (mX P.1 f g)) := by
  have h30 := h.1.2.1.2
  unfold wp_X6_tube
  rw [st0]
  unfold qTube at hp
  refine ⟨m_k (M := mX P.1 f g) hM, M_isTu hM (wI_T0 h).1 ?_⟩
  rw [show nT (T0 P).1 = nT P.1 from rfl]
  cases hx : ixO s (nT P.1) with
  | none =>
    rw [hx] at hp
    exact ⟨fun _ => ⟨m_k hM, M_failX hM (hp f g)⟩, fun q => absurd rfl q⟩
  | some i =>
    obtain ⟨e1, e2⟩ := ixO_some (by omega) hx
    refine ⟨fun q => absurd (show (1 : Int32) = 0 from q) (by decide), fun _ => M_ixC (n := 9) (by decide) (by decide) ?_⟩
    cases hy : ixO w 9 with
    | none =>
      rw [hx, hy] at hp
      exact ⟨fun _ => ⟨m_k hM, M_failX hM (hp f g)⟩, fun q => absurd rfl q⟩
    | some k =>
      rw [hx, hy] at hp
      obtain ⟨e3, e4⟩ := ixO_some (by decide) hy
      refine ⟨fun q => absurd (show (1 : Int32) = 0 from q) (by decide), fun _ => ⟨m_k hM, ?_⟩⟩
      rw [e1, e3]
      exact M_tubTold hM (wI_T0 h) (by omega) (by omega) (hp f g)
def qThere (P : pP) (s i : Int32) : Int32 × pP := match ixO s (nS P.1) with
  | some a => (match ixO i (P.2 (1 + a)).length with
    | some k => (nI ((P.2 (1 + a)).getD k 0), T0 P)
    | none => fl P 1)
  | none => fl P 1
theorem M_there (hM : mOK μ r S) {f g : Nat → Int32} {B K : Nat} {P : pP} (h : wI B K P.1 P.2) {s i : Int32} {post : Int32 → bS → Prop} (hp : ∀ f g, post (qThere P s i).1 (mW μ r S (mX (qThere P s i).2.1 f g))) : wp_X6_there post μ s i (mW μ r S (mX P.1 f g)) := by
  have h14 := h.1.1.2
  unfold wp_X6_there
  rw [st0]
  unfold qThere at hp
  refine ⟨m_k (M := mX P.1 f g) hM, M_isSt hM (wI_T0 h).1 ?_⟩
  rw [show nS (T0 P).1 = nS P.1 from rfl]
  cases hx : ixO s (nS P.1) with
  | none =>
    rw [hx] at hp
    exact ⟨fun _ => ⟨m_k hM, M_failX hM (hp f g)⟩, fun q => absurd rfl q⟩
  | some a =>
    obtain ⟨e1, e2⟩ := ixO_some (by omega) hx
    obtain ⟨a1, a2, a3, a4, a5, a6, a7, a8⟩ := (wI_T0 h).2.2.2.2.1
    have hL := (wI_T0 h).2.2.2.2.2.2.1.1 a (by omega)
    have hlen := len_at h (t := a) (by omega)
    refine ⟨fun q => absurd (show (1 : Int32) = 0 from q) (by decide), fun _ => ⟨m_k hM, ?_⟩⟩
    rw [e1]
    refine M_line hM a3 a4 a7 hL.1 hL.2 (fun g' hQ => M_ixC (n := (P.2 (1 + a)).length) rfl (by omega) ?_)
    cases hy : ixO i (P.2 (1 + a)).length with
    | none =>
      rw [hx] at hp
      simp only [hy] at hp
      exact ⟨fun _ => ⟨m_k hM, M_failX hM (hp f g')⟩, fun q => absurd rfl q⟩
    | some k =>
      rw [hx] at hp
      simp only [hy] at hp
      obtain ⟨e3, e4⟩ := ixO_some (by omega) hy
      refine ⟨fun q => absurd (show (1 : Int32) = 0 from q) (by decide), fun _ => ⟨m_k hM, r 7, (m_q hM).2.2.2.2.2.2, mW_k7 hM, ?_, ?_⟩⟩
      · rw [e3, mW_n7 hM]
        exact vp_in_nI (by omega) (by omega)
      · rw [e3, nI_clamp (by omega), mW_V7 hM]
        have hgk : g' k = nI ((P.2 (1 + a)).getD k 0) := by
          have : (P.2 (1 + a))[k]? = some ((P.2 (1 + a)).getD k 0) := by
            rw [List.getD_eq_getElem?_getD, List.getElem?_eq_getElem e4]
            rfl
          exact hQ k _ this
        show post (g' k) _
        rw [hgk]
        exact hp f g'
def qTime (P : pP) (a b : Int32) : Int32 × pP := match ixO a (nS P.1), ixO b (nS P.1) with
  | some i, some k => (oN (dD P.1 k i), T0 P)
  | _, _ => fl P 1
theorem M_time (hM : mOK μ r S) {f g : Nat → Int32} {B K : Nat} {P : pP} (h : wI B K P.1 P.2) {a b : Int32} {post : Int32 → bS → Prop} (hp : ∀ f g, post (qTime P a b).1 (mW μ r S (mX (qTime P a b).2.1 f g))) : wp_X6_time post μ a b (mW μ r S (mX P.1 f g)) := by
  have h14 := h.1.1.2
  have h0 := wI_T0 h
  unfold wp_X6_time
  rw [st0]
  unfold qTime at hp
  refine ⟨m_k (M := mX P.1 f g) hM, M_isSt hM h0.1 ?_⟩
  rw [show nS (T0 P).1 = nS P.1 from rfl]
  cases hx : ixO a (nS P.1) with
  | none =>
    rw [hx] at hp
    exact ⟨fun _ => ⟨m_k hM, M_failX hM (hp f g)⟩, fun q => absurd rfl q⟩
  | some i =>
    obtain ⟨e1, e2⟩ := ixO_some (by omega) hx
    refine ⟨fun q => absurd (show (1 : Int32) = 0 from q) (by decide), fun _ => ⟨m_k hM, M_isSt hM h0.1 ?_⟩⟩
    rw [show nS (T0 P).1 = nS P.1 from rfl]
    cases hy : ixO b (nS P.1) with
    | none =>
      rw [hx, hy] at hp
      exact ⟨fun q => absurd rfl q, fun _ => ⟨m_k hM, M_failX hM (hp f g)⟩⟩
    | some k =>
      rw [hx, hy] at hp
      obtain ⟨e3, e4⟩ := ixO_some (by omega) hy
      refine ⟨fun _ => ⟨m_k hM, ?_⟩, fun q => absurd (show (1 : Int32) = 0 from q) (by decide)⟩
      rw [e1, e3]
      refine M_findTimes hM h0.1 h0.2.1 h0.2.2.1 e4 (fun f' hE => ⟨m_k hM, r 6, (m_q hM).2.2.2.2.2.1, mW_k6 hM, ?_, ?_⟩)
      · rw [mW_n6 hM]
        exact vp_in_nI (by omega) (by omega)
      · rw [nI_clamp (n := i) (by omega), mW_V6 hM]
        show post (f' i) _
        rw [hE i e2]
        exact hp f' g
def qNext (P : pP) (a b : Int32) : Int32 × pP := match ixO a (nS P.1), ixO b (nS P.1) with
  | some i, some k => (if i = k then -1 else chM P.1 i k, T0 P)
  | _, _ => fl P 1
theorem M_next (hM : mOK μ r S) {f g : Nat → Int32} {B K : Nat} {P : pP} (h : wI B K P.1 P.2) {a b : Int32} {post : Int32 → bS → Prop} (hp : ∀ f g, post (qNext P a b).1 (mW μ r S (mX (qNext P a b).2.1 f g))) : wp_X6_next post μ a b (mW μ r S (mX P.1 f g)) := by
  have h14 := h.1.1.2
  have h0 := wI_T0 h
  unfold wp_X6_next
  rw [st0]
  unfold qNext at hp
  refine ⟨m_k (M := mX P.1 f g) hM, M_isSt hM h0.1 ?_⟩
  rw [show nS (T0 P).1 = nS P.1 from rfl]
  cases hx : ixO a (nS P.1) with
  | none =>
    rw [hx] at hp
    exact ⟨fun _ => ⟨m_k hM, M_failX hM (hp f g)⟩, fun q => absurd rfl q⟩
  | some i =>
    obtain ⟨e1, e2⟩ := ixO_some (by omega) hx
    refine ⟨fun q => absurd (show (1 : Int32) = 0 from q) (by decide), fun _ => ⟨m_k hM, M_isSt hM h0.1 ?_⟩⟩
    rw [show nS (T0 P).1 = nS P.1 from rfl]
    cases hy : ixO b (nS P.1) with
    | none =>
      rw [hx, hy] at hp
      exact ⟨fun q => absurd rfl q, fun _ => ⟨m_k hM, M_failX hM (hp f g)⟩⟩
    | some k =>
      rw [hx, hy] at hp
      obtain ⟨e3, e4⟩ := ixO_some (by omega) hy
      refine ⟨fun _ => ⟨fun hne => ⟨m_k hM, ?_⟩, fun he => ?_⟩, fun q => absurd (show (1 : Int32) = 0 from q) (by decide)⟩
      · have hik : ¬ i = k := fun q => hne (by rw [e1, e3, q])
        simp only [if_neg hik] at hp
        rw [e1, e3]
        refine M_chosen hM h0.1 h0.2.1 h0.2.2.1 e2 e4 (fun f' => ?_)
        rw [chM_ext (M := P.1) (M' := (T0 P).1) (fun _ => rfl) (fun _ => rfl) rfl]
        exact hp f' g
      · rw [e1, e3] at he
        have hik : i = k := (nI_eq (by omega) (by omega)).mp he
        simp only [if_pos hik] at hp
        exact hp f g
end MODEL14
