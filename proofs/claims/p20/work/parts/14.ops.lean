abbrev u (x : Int32) : Nat := x.toNatClampNeg
theorem u_nI {n : Nat} (h : n < 2 ^ 31) : u (nI n) = n := nI_clamp h
def rem (c : Nat) (l : List Nat) : List Nat := l.filter (fun d => decide (d ≠ c))
theorem rem_mem {c d : Nat} {l : List Nat} : d ∈ rem c l ↔ d ∈ l ∧ d ≠ c := by simp [rem]
theorem rem_no {c : Nat} {l : List Nat} (h : c ∉ l) : rem c l = l := List.filter_eq_self.mpr (fun d hd => by simp; exact fun e => h (e ▸ hd))
theorem rem_snoc_ne {c d : Nat} {l : List Nat} (h : d ≠ c) : rem c (l ++ [d]) = rem c l ++ [d] := by simp [rem, List.filter_append, h]
theorem rem_snoc_eq {c : Nat} {l : List Nat} : rem c (l ++ [c]) = rem c l := by simp [rem, List.filter_append]
theorem rem_le (c : Nat) (l : List Nat) : (rem c l).length ≤ l.length := List.length_filter_le _ _
theorem rem_len {c : Nat} : ∀ {l : List Nat}, l.Nodup → c ∈ l → (rem c l).length + 1 = l.length
  | [], _, h => absurd h List.not_mem_nil
  | a :: l, hn, h => by
    obtain ⟨h1, h2⟩ := List.nodup_cons.mp hn
    by_cases ha : a = c
    · subst ha
      have : rem a (a :: l) = rem a l := by simp [rem]
      rw [this, rem_no h1, List.length_cons]
    · have h3 : c ∈ l := by
        rcases List.mem_cons.mp h with q | q
        · exact absurd q.symm ha
        · exact q
      have : rem c (a :: l) = a :: rem c l := by simp [rem, ha]
      rw [this, List.length_cons, List.length_cons, rem_len h2 h3]
def rowL (l : List Nat) (f : Nat → Int32) : Nat → Int32 := fun j => match l[j]? with
  | some c => nI c
  | none => f j
theorem rowL_Qu (l : List Nat) (f : Nat → Int32) : Qu (rowL l f) l := by
  intro k c h
  unfold rowL
  rw [h]
theorem rowL_out {l : List Nat} {f : Nat → Int32} {j : Nat} (h : l.length ≤ j) : rowL l f j = f j := by
  unfold rowL
  rw [List.getElem?_eq_none h]
theorem rowL_snoc (l : List Nat) (f : Nat → Int32) (d : Nat) : upd (rowL l f) l.length (nI d) = rowL (l ++ [d]) f := by
  funext j
  by_cases h : j = l.length
  · subst h
    rw [pk_us]
    exact (rowL_Qu (l ++ [d]) f l.length d (by simp)).symm
  · rw [pk_un h]
    unfold rowL
    by_cases h2 : j < l.length
    · rw [List.getElem?_append_left h2]
    · rw [List.getElem?_eq_none (by omega), List.getElem?_eq_none (by simp; omega)]
def mRow (M : Nat → Nat → Int32) (i : Nat) (f : Nat → Int32) : Nat → Nat → Int32 := fun i' j' => if i' = i then f j' else M i' j'
theorem mRow_U {M : Nat → Nat → Int32} {i j : Nat} {f : Nat → Int32} {v : Int32} : mU (mRow M i f) i j v = mRow M i (upd f j v) := by
  funext i' j'
  unfold mU mRow upd
  by_cases h : i' = i
  · subst h
    simp
  · simp [h]
theorem mRow_self (M : Nat → Nat → Int32) (i : Nat) {f : Nat → Int32} (h : ∀ j, f j = M i j) : mRow M i f = M := by
  funext i' j'
  unfold mRow
  by_cases q : i' = i
  · subst q
    rw [if_pos rfl, h]
  · rw [if_neg q]
theorem mRow_s {M : Nat → Nat → Int32} {i j : Nat} {f : Nat → Int32} : mRow M i f i j = f j := if_pos rfl
section MODEL5
variable {μ : Nat} {r : Nat → Nat} {S : bS} {M : Nat → Nat → Int32}
theorem mCn_perm {st wh : Int32} {al l : List Nat} {p : Nat → Bool} (hq : ∀ c, p c = (decide (M 4 (9 * c + 0) = st) && decide (M 4 (9 * c + 1) = wh))) (hp : l.Perm (al.filter p)) : mCn M st wh al = l.length := by
  unfold mCn
  rw [hp.length_eq, List.countP_eq_length_filter, show p = _ from funext hq]
theorem M_del_loop (hM : mOK μ r S) {al : List Nat} {c : Nat} (hc : c < 500) (h14 : M 0 14 = nI al.length) (hlen : al.length ≤ 40) (h5 : ∀ k d, al[k]? = some d → M 5 k = nI d ∧ d < 500) {post : bS → Prop} (h : post (mW μ r S (mU (mRow M 5 (rowL (rem c al) (M 5))) 0 14 (nI (rem c al).length)))) : ∀ (rest pre : List Nat), al = pre ++ rest → wb_X6_deliver_64 post (rest.length + 1) μ (nI c) (nI (rem c pre).length) (nI pre.length) (mW μ r S (mRow M 5 (rowL (rem c pre) (M 5)))) := by
  intro rest
  induction rest with
  | nil =>
    intro pre hal
    rw [List.append_nil] at hal
    subst hal
    unfold wb_X6_deliver_64
    refine ⟨m_k hM, fun _ => ?_, fun hn => ?_⟩
    · rw [sW_0]
      exact h
    · rw [mW_V0, show mRow M 5 _ 0 14 = nI al.length from h14] at hn
      exact absurd (nI_le (Nat.le_refl _) (by omega)) hn
  | cons d rest ih =>
    intro pre hal
    have hk : al[pre.length]? = some d := by rw [hal, List.getElem?_append_right (Nat.le_refl _), Nat.sub_self]; rfl
    have hkl : pre.length < al.length := (List.getElem?_eq_some_iff.mp hk).1
    obtain ⟨ha, hd5⟩ := h5 pre.length d hk
    have hrl := rem_le c pre
    have hal' : al = (pre ++ [d]) ++ rest := by rw [hal]; simp
    have hrd : mRow M 5 (rowL (rem c pre) (M 5)) 5 pre.length = nI d := by
      rw [mRow_s, rowL_out hrl, ha]
    have := ih (pre ++ [d]) hal'
    rw [List.length_append (as := pre)] at this
    unfold wb_X6_deliver_64
    refine ⟨m_k hM, fun hn => ?_, fun _ => ⟨r 5, (m_q hM).2.2.2.2.1, mW_k5 hM, ?_, ?_⟩⟩
    · rw [mW_V0, show mRow M 5 _ 0 14 = nI al.length from h14] at hn
      exact absurd hn (nI_ge hkl (by omega))
    · rw [mW_n5 hM]
      exact vp_in_nI (by omega) (by omega)
    · rw [nI_clamp (n := pre.length) (by omega), mW_V5 hM, hrd]
      refine ⟨fun hne => ⟨r 5, (m_q hM).2.2.2.2.1, r 5, (m_q hM).2.2.2.2.1, mW_k5 hM, ?_, mW_k5 hM, ?_, ?_⟩, fun he => ?_⟩
      · rw [mW_n5 hM]
        exact vp_in_nI (by omega) (by omega)
      · rw [mW_n5 hM]
        exact vp_in_nI (by omega) (by omega)
      · have hdc : d ≠ c := fun q => hne (by rw [q])
        rw [rem_snoc_ne hdc, List.length_append] at this
        rw [mW_V5 hM, hrd, nI_clamp (n := (rem c pre).length) (by omega), sW_5 hM, mRow_U, rowL_snoc, nI_1]
        show wb_X6_deliver_64 post (rest.length + 1) μ (nI c) _ (nI pre.length + 1) _
        rw [nI_1]
        exact this
      · have hdc : d = c := (nI_eq (by omega) (by omega)).mp he
        subst hdc
        rw [rem_snoc_eq] at this
        show wb_X6_deliver_64 post (rest.length + 1) μ (nI d) _ (nI pre.length + 1) _
        rw [nI_1]
        exact this
/-- a delivery, on the numbers -/
def delM (M : Nat → Nat → Int32) (al : List Nat) (c : Nat) : Nat → Nat → Int32 :=
  mU (mRow (mU (mU (mU (pM M c 3 (M 4 (9 * c + 2))) 1 (9 * u (M 4 (9 * c + 2)) + 4) (M 1 (9 * u (M 4 (9 * c + 2)) + 4) + 1)) 0 6 (M 0 6 + 1)) 0 7 (M 0 7 + (M 0 1 - M 4 (9 * c + 4)))) 5 (rowL (rem c al) (M 5))) 0 14 (nI (rem c al).length)
theorem M_deliver (hM : mOK μ r S) {al : List Nat} (hA : mAc M al) {c a : Nat} (hc : c < 500) (ha : M 4 (9 * c + 2) = nI a) (ha14 : a < 14) {post : bS → Prop} (h : post (mW μ r S (delM M al c))) : wp_X6_deliver post μ (nI c) (mW μ r S M) := by
  have hua : u (M 4 (9 * c + 2)) = a := by rw [ha]; exact u_nI (by omega)
  refine ⟨m_k hM, M_get (w := 2) hM (by omega) ⟨m_k hM, M_put hM hc ⟨m_k hM, r 1, (m_q hM).1, mW_k1 hM, ?_, ?_, ?_⟩⟩⟩
  · rw [ha, show (4 : Int32) = nI 4 from rfl, i_9, mW_n1 hM]
    exact vp_in_nI (by omega) (by omega)
  · rw [ha, show (4 : Int32) = nI 4 from rfl, i_9, mW_n1 hM]
    exact vp_in_nI (by omega) (by omega)
  · rw [show (4 : Int32) = nI 4 from rfl, ha, i_9, nI_clamp (by omega), mW_V1 hM, sW_1 hM, mW_V0, sW_0]
    refine M_get (w := 4) hM (by omega) ⟨m_k hM, al.length + 1, ?_⟩
    rw [mW_V0, mW_V0, sW_0]
    have key := M_del_loop (M := mU (mU (mU (pM M c 3 (nI a)) 1 (9 * a + 4) (pM M c 3 (nI a) 1 (9 * a + 4) + 1)) 0 6 (mU (pM M c 3 (nI a)) 1 (9 * a + 4) (pM M c 3 (nI a) 1 (9 * a + 4) + 1) 0 6 + 1)) 0 7 (mU (mU (pM M c 3 (nI a)) 1 (9 * a + 4) (pM M c 3 (nI a) 1 (9 * a + 4) + 1)) 0 6 (mU (pM M c 3 (nI a)) 1 (9 * a + 4) (pM M c 3 (nI a) 1 (9 * a + 4) + 1) 0 6 + 1) 0 7 + (mU (mU (pM M c 3 (nI a)) 1 (9 * a + 4) (pM M c 3 (nI a) 1 (9 * a + 4) + 1)) 0 6 (mU (pM M c 3 (nI a)) 1 (9 * a + 4) (pM M c 3 (nI a) 1 (9 * a + 4) + 1) 0 6 + 1) 0 1 - mU (mU (pM M c 3 (nI a)) 1 (9 * a + 4) (pM M c 3 (nI a) 1 (9 * a + 4) + 1)) 0 6 (mU (pM M c 3 (nI a)) 1 (9 * a + 4) (pM M c 3 (nI a) 1 (9 * a + 4) + 1) 0 6 + 1) 4 (9 * c + 4)))) hM hc (al := al) hA.1 hA.2.1 hA.2.2 (post := post) ?_ al [] rfl
    · rw [mRow_self _ 5 (fun j => by unfold rowL rem; rfl)] at key
      exact key
    · unfold delM at h
      rw [hua, ha] at h
      simp (disch := omega) only [pM, mU_s, mU_r, mU_c] at h ⊢
      exact h
end MODEL5
