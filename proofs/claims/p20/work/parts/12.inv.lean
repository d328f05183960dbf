/-! ===== the reference's loops, on: what is first in a tube, a station's line, deliveries ===== -/
/-- the two scratch rows (times, queue) laid over -/
def mX (M : Nat → Nat → Int32) (f g : Nat → Int32) : Nat → Nat → Int32 := fun i j => if i = 6 then f j else if i = 7 then g j else M i j
theorem mX_U {M : Nat → Nat → Int32} {f g : Nat → Int32} {i j : Nat} {v : Int32} (h6 : i ≠ 6) (h7 : i ≠ 7) : mU (mX M f g) i j v = mX (mU M i j v) f g := by
  funext i' j'
  unfold mU mX
  by_cases h1 : i' = 6
  · subst h1
    simp [Ne.symm h6]
  · by_cases h2 : i' = 7
    · subst h2
      simp [Ne.symm h7]
    · simp [h1, h2]
theorem mX_U6 {M : Nat → Nat → Int32} {f g : Nat → Int32} {j : Nat} {v : Int32} : mU (mX M f g) 6 j v = mX M (upd f j v) g := by
  funext i' j'
  unfold mU mX upd
  by_cases h1 : i' = 6
  · subst h1
    simp
  · simp [h1]
theorem mX_U7 {M : Nat → Nat → Int32} {f g : Nat → Int32} {j : Nat} {v : Int32} : mU (mX M f g) 7 j v = mX M f (upd g j v) := by
  funext i' j'
  unfold mU mX upd
  by_cases h1 : i' = 6
  · subst h1
    simp
  · by_cases h2 : i' = 7
    · subst h2
      simp
    · simp [h1, h2]
theorem mX_self (M : Nat → Nat → Int32) : mX M (M 6) (M 7) = M := by
  funext i j
  unfold mX
  by_cases h1 : i = 6
  · subst h1; simp
  · by_cases h2 : i = 7
    · subst h2; simp
    · simp [h1, h2]
def oI : Option Nat → Int32
  | none => -1
  | some c => nI c
theorem nI_neN1 {c : Nat} (h : c < 2 ^ 31) : ¬ nI c = -1 := by
  intro q
  have h1 := congrArg Int32.toInt q
  rw [nI_toInt h] at h1
  have h2 : ((-1 : Int32)).toInt = -1 := by decide
  omega
def inT (M : Nat → Nat → Int32) (t : Int32) (c : Nat) : Bool := decide (M 4 (9 * c + 0) = 2) && decide (M 4 (9 * c + 1) = t)
def atS (M : Nat → Nat → Int32) (s : Int32) (c : Nat) : Bool := decide (M 4 (9 * c + 0) = 1) && decide (M 4 (9 * c + 1) = s)
theorem inT_iff {M : Nat → Nat → Int32} {t : Int32} {c : Nat} : inT M t c = true ↔ M 4 (9 * c + 0) = 2 ∧ M 4 (9 * c + 1) = t := by simp [inT]
theorem atS_iff {M : Nat → Nat → Int32} {t : Int32} {c : Nat} : atS M t c = true ↔ M 4 (9 * c + 0) = 1 ∧ M 4 (9 * c + 1) = t := by simp [atS]
def fStep (M : Nat → Nat → Int32) (t : Int32) (o : Option Nat) (c : Nat) : Option Nat := if inT M t c = true ∧ ∀ d, o = some d → M 4 (9 * c + 7) < M 4 (9 * d + 7) then some c else o
theorem fStep_y {M : Nat → Nat → Int32} {t : Int32} {o : Option Nat} {c : Nat} (h1 : inT M t c = true) (h2 : ∀ d, o = some d → M 4 (9 * c + 7) < M 4 (9 * d + 7)) : fStep M t o c = some c := if_pos ⟨h1, h2⟩
theorem fStep_n1 {M : Nat → Nat → Int32} {t : Int32} {o : Option Nat} {c : Nat} (h1 : ¬ inT M t c = true) : fStep M t o c = o := if_neg (fun q => h1 q.1)
theorem fStep_n2 {M : Nat → Nat → Int32} {t : Int32} {c d : Nat} (h1 : ¬ M 4 (9 * c + 7) < M 4 (9 * d + 7)) : fStep M t (some d) c = some d := if_neg (fun q => h1 (q.2 d rfl))
section MODEL3
variable {μ : Nat} {r : Nat → Nat} {S : bS} {M : Nat → Nat → Int32}
theorem M_firstIn_loop (hM : mOK μ r S) {al : List Nat} (hA : mAc M al) {post : Int32 → bS → Prop} {t : Int32} : ∀ (rest : List Nat) (k : Nat) (o : Option Nat), (∀ d, o = some d → d < 500) → k ≤ al.length → al.drop k = rest → post (oI (rest.foldl (fStep M t) o)) (mW μ r S M) → wb_X6_firstIn_4 post (rest.length + 1) μ t (oI o) (nI k) (mW μ r S M) := by
  intro rest
  induction rest with
  | nil =>
    intro k o ho hkl hk h
    have hl := mAc_nil hk
    have hlen := hA.2.1
    unfold wb_X6_firstIn_4
    refine ⟨m_k hM, fun _ => h, fun hc => ?_⟩
    rw [mW_V0, hA.1] at hc
    exact absurd (nI_le hl (by omega)) hc
  | cons c rest ih =>
    intro k o ho hkl hk h
    obtain ⟨h1, h2, h3⟩ := mAc_drop hk
    obtain ⟨ha, hc5⟩ := hA.2.2 k c h1
    have hlen := hA.2.1
    rw [List.foldl_cons] at h
    have go : ∀ o', fStep M t o c = o' → (∀ d, o' = some d → d < 500) → wb_X6_firstIn_68 post (wb_X6_firstIn_4 post (rest.length + 1)) μ t (oI o') (nI k) (mW μ r S M) := by
      intro o' he ho'
      show wb_X6_firstIn_4 post (rest.length + 1) μ t (oI o') (nI k + 1) (mW μ r S M)
      rw [nI_1]
      exact ih (k + 1) o' ho' h3 h2 (by rw [← he]; exact h)
    unfold wb_X6_firstIn_4
    refine ⟨m_k hM, fun hc => ?_, fun _ => ⟨r 5, (m_q hM).2.2.2.2.1, mW_k5 hM, ?_, ?_⟩⟩
    · rw [mW_V0, hA.1] at hc
      exact absurd hc (nI_ge h3 (by omega))
    · rw [mW_n5 hM]
      exact vp_in_nI (by omega) (by omega)
    · rw [nI_clamp (by omega), mW_V5 hM, ha]
      refine M_get (w := 0) hM (by omega) ⟨fun hn => ?_, fun he => ⟨m_k hM, ?_⟩⟩
      · exact go o (fStep_n1 (fun q => hn (inT_iff.mp q).1)) ho
      · refine M_get (w := 1) hM (by omega) ⟨fun hn => ?_, fun he2 => ⟨fun hv => ?_, fun hv => ⟨m_k hM, ?_⟩⟩⟩
        · exact go o (fStep_n1 (fun q => hn (inT_iff.mp q).2)) ho
        · cases o with
          | some d => exact absurd hv (nI_neN1 (by have := ho d rfl; omega))
          | none => exact go (some c) (fStep_y (inT_iff.mpr ⟨he, he2⟩) (fun d hd => by cases hd)) (fun d hd => by cases hd; exact hc5)
        · cases o with
          | none => exact absurd rfl hv
          | some d =>
            have hd := ho d rfl
            refine M_get (w := 7) hM (by omega) ⟨m_k hM, ?_⟩
            refine M_get (w := 7) hM (by omega) ⟨fun hle => ?_, fun hgt => ?_⟩
            · exact go (some d) (fStep_n2 (fun q => absurd hle (Int32.not_le.mpr q))) ho
            · exact go (some c) (fStep_y (inT_iff.mpr ⟨he, he2⟩) (fun d' hd' => by cases hd'; exact Int32.not_le.mp hgt)) (fun d hd => by cases hd; exact hc5)
end MODEL3
/-- what the search for the first one finds -/
theorem fold_spec {M : Nat → Nat → Int32} {t : Int32} : ∀ (l : List Nat) (o : Option Nat), (∀ e, e ∈ l → inT M t e = true → ∃ d, l.foldl (fStep M t) o = some d ∧ ¬ M 4 (9 * e + 7) < M 4 (9 * d + 7)) ∧ (∀ e, o = some e → ∃ d, l.foldl (fStep M t) o = some d ∧ ¬ M 4 (9 * e + 7) < M 4 (9 * d + 7)) ∧ ∀ d, l.foldl (fStep M t) o = some d → o = some d ∨ d ∈ l ∧ inT M t d = true
  | [], o => ⟨fun e he => absurd he List.not_mem_nil, fun e he => ⟨e, he, Int32.lt_irrefl⟩, fun d hd => Or.inl hd⟩
  | c :: l, o => by
    obtain ⟨i1, i2, i3⟩ := fold_spec (M := M) (t := t) l (fStep M t o c)
    rw [List.foldl_cons]
    have hmono : ∀ e, o = some e → ∃ d, fStep M t o c = some d ∧ ¬ M 4 (9 * e + 7) < M 4 (9 * d + 7) := by
      intro e he
      subst he
      by_cases h1 : inT M t c = true
      · by_cases h2 : M 4 (9 * c + 7) < M 4 (9 * e + 7)
        · exact ⟨c, fStep_y h1 (fun d hd => by cases hd; exact h2), fun q => Int32.lt_irrefl (Int32.lt_trans h2 q)⟩
        · exact ⟨e, fStep_n2 h2, Int32.lt_irrefl⟩
      · exact ⟨e, fStep_n1 h1, Int32.lt_irrefl⟩
    refine ⟨fun e he hT => ?_, fun e he => ?_, fun d hd => ?_⟩
    · rcases List.mem_cons.mp he with rfl | he
      · by_cases h2 : ∀ d, o = some d → M 4 (9 * e + 7) < M 4 (9 * d + 7)
        · exact i2 e (fStep_y hT h2)
        · cases o with
          | none => exact absurd (fun d hd => by cases hd) h2
          | some d0 =>
            have h3 : ¬ M 4 (9 * e + 7) < M 4 (9 * d0 + 7) := fun q => h2 (fun d hd => by cases hd; exact q)
            obtain ⟨d, hd, hn⟩ := i2 d0 (fStep_n2 h3)
            exact ⟨d, hd, fun q => h3 (Int32.lt_of_lt_of_le q (Int32.not_lt.mp hn))⟩
      · exact i1 e he hT
    · obtain ⟨d0, h0, hn0⟩ := hmono e he
      obtain ⟨d, hd, hn⟩ := i2 d0 h0
      exact ⟨d, hd, fun q => hn0 (Int32.lt_of_lt_of_le q (Int32.not_lt.mp hn))⟩
    · rcases i3 d hd with h | ⟨h, hT⟩
      · by_cases hy : inT M t c = true ∧ ∀ d, o = some d → M 4 (9 * c + 7) < M 4 (9 * d + 7)
        · rw [fStep_y hy.1 hy.2] at h
          cases h
          exact Or.inr ⟨List.mem_cons_self, hy.1⟩
        · rw [show fStep M t o c = o from if_neg hy] at h
          exact Or.inl h
      · exact Or.inr ⟨List.mem_cons_of_mem _ h, hT⟩
theorem fold_head {M : Nat → Nat → Int32} {t : Int32} {al I : List Nat} (hp : I.Perm (al.filter (inT M t))) (hs : I.Pairwise (fun a b => M 4 (9 * a + 7) < M 4 (9 * b + 7))) : al.foldl (fStep M t) none = I.head? := by
  obtain ⟨i1, -, i3⟩ := fold_spec (M := M) (t := t) al none
  cases hI : I with
  | nil =>
    cases hf : al.foldl (fStep M t) none with
    | none => rfl
    | some d =>
      rcases i3 d hf with h | ⟨h, hT⟩
      · cases h
      · have : d ∈ I := hp.mem_iff.mpr (List.mem_filter.mpr ⟨h, hT⟩)
        rw [hI] at this
        exact absurd this List.not_mem_nil
  | cons h tl =>
    have hm : h ∈ al.filter (inT M t) := hp.mem_iff.mp (by rw [hI]; exact List.mem_cons_self)
    obtain ⟨h1, h2⟩ := List.mem_filter.mp hm
    obtain ⟨d, hd, hn⟩ := i1 h h1 h2
    rw [hd]
    show some d = some h
    rcases i3 d hd with q | ⟨hda, hdT⟩
    · cases q
    · have hdI : d ∈ I := hp.mem_iff.mpr (List.mem_filter.mpr ⟨hda, hdT⟩)
      rw [hI] at hdI hs
      rcases List.mem_cons.mp hdI with rfl | hdt
      · rfl
      · exact absurd ((List.pairwise_cons.mp hs).1 d hdt) hn
