/-! ===== the class's switches and tubes are set ===== -/
theorem lF_new {S : bS} {q κ n : Nat} (h : gK S q = 0) (hκ : κ ≠ 14) : lF S (sNew S q κ n) := by
  have ne : ∀ a, gK S a ≠ 0 → a ≠ q := fun a ha x => ha (x ▸ h)
  refine ⟨⟨fun a ha => ?_, fun a ha => ?_⟩, fun κ' a j _ ha => ?_, fun κ' a j _ _ ha => ?_, fun a j ha => ?_⟩
  · rw [gK_sNew, if_neg (ne a ha), gN_sNew, if_neg (ne a ha)]
    exact ⟨rfl, rfl⟩
  · rw [gK_sNew] at ha
    by_cases x : a = q
    · rw [if_pos x] at ha
      exact absurd ha hκ
    · rw [if_neg x] at ha
      exact ha
  · rw [gV_sNew, if_neg (ne a ha)]
  · rw [gQ_sNew, if_neg (ne a ha)]
  · rw [gL_sNew, if_neg (ne a ha)]
theorem LSr_new {S : bS} {lv : Nat → Prop} {la ea : Nat → Nat} {ls : Nat → List Nat} {cp : Nat → Nat} (h : LSr S lv la ea ls cp) {q κ n : Nat} (hq : gK S q = 0) (hκ : κ ≠ 14) : LSr (sNew S q κ n) lv la ea ls cp := by
  obtain ⟨⟨a1, a5⟩, -, -, -⟩ := lF_new (n := n) hq hκ
  have ne : ∀ a, gK S a ≠ 0 → a ≠ q := fun a ha x => ha (x ▸ hq)
  refine LSr_fr h a1 a5 (fun a j ha => ?_) (fun a j ha => ?_) (fun a j ha => ?_)
  · rw [gV_sNew, if_neg (ne a ha)]
  · rw [gQ_sNew, if_neg (ne a ha)]
  · rw [gQ_sNew, if_neg (ne a ha)]
theorem cO_ext {S : bS} {A : Nat → Nat → Nat} {M M' : Nat → Nat → Int32} (h : cO S A M) (h0 : ∀ j, 1 ≤ j → j < 8 → M' 0 j = M 0 j) (h1 : ∀ i j, 1 ≤ i → i ≤ 4 → M' i j = M i j) : cO S A M' := by
  have e1 : M' 1 = M 1 := funext (fun j => h1 1 j (by decide) (by decide))
  have e2 : M' 2 = M 2 := funext (fun j => h1 2 j (by decide) (by decide))
  have e3 : M' 3 = M 3 := funext (fun j => h1 3 j (by decide) (by decide))
  have e4 : M' 4 = M 4 := funext (fun j => h1 4 j (by decide) (by decide))
  have eD : dD M' = dD M := funext (fun k => dD_ext (fun j => h1 1 j (by decide) (by decide)) (fun j => h1 2 j (by decide) (by decide)) (h0 3 (by decide) (by decide)) k)
  have x1 := h0 1 (by decide) (by decide)
  have x2 := h0 2 (by decide) (by decide)
  have x3 := h0 3 (by decide) (by decide)
  have x4 := h0 4 (by decide) (by decide)
  have x5 := h0 5 (by decide) (by decide)
  have x6 := h0 6 (by decide) (by decide)
  have x7 := h0 7 (by decide) (by decide)
  unfold cO oP oAr oSt oTb oCa oEn oIn oTm thr tLn tSp tFr tTo nS nT nE nC at *
  rw [e1, e2, e3, e4, eD, x1, x2, x3, x4, x5, x6, x7]
  exact h
theorem mU_id {M : Nat → Nat → Int32} {i j : Nat} : mU M i j (M i j) = M := by
  funext i' j'
  unfold mU
  by_cases h : i' = i ∧ j' = j
  · rw [if_pos h, h.1, h.2]
  · rw [if_neg h]
section CSET
variable {S : bS} {A : Nat → Nat → Nat} {cp : Nat → Nat} {P : pP} {B K : Nat}
/-- a switch is set -/
theorem cR_sw (h : cR S A cp P) (hw : wI B K P.1 P.2) {s : Nat} {how : Int32} (hs : s < nS P.1) : cR (sV S 5 (A 1 s) 8 how) A cp (mU P.1 1 (9 * s + 3) how, P.2) := by
  obtain ⟨hP, hNt, hAr, hSt, hTb, hCa, hEn, hIn, hTm⟩ := h.1
  obtain ⟨ea, hL⟩ := h.2
  obtain ⟨s0, s1, s2, s3, s4, s5, s6, s7⟩ := hSt s hs
  refine ⟨⟨hP, hNt, hAr, ?_, hTb, hCa, hEn, hIn, oTm_fr hTm (fun a => by rw [gV_sV, if_neg (fun x => by omega)]) (fun _ _ => rfl) rfl (fun k => dD_fr (M := P.1) (M' := mU P.1 1 (9 * s + 3) how) rfl (fun _ _ _ => rfl) (fun s' => by rw [mU_c (by omega)]) k)⟩, ea, ?_⟩
  · refine oSt_set (M := P.1) (M' := mU P.1 1 (9 * s + 3) how) hSt hIn hs rfl (fun _ => rfl) (fun _ _ => rfl) (fun a j hne => ?_) (fun d w hd hw => ?_) (fun j hj => ?_) (fun w hw => ?_) ?_ ?_
    · rw [gV_sV, if_neg (fun x => hne x.2.1)]
    · rw [mU_c (by omega)]
    · rw [gV_sV, if_neg (fun x => by omega)]
    · rw [mU_c (by omega)]
    · rw [gV_sV, if_pos ⟨rfl, rfl, rfl⟩, mU_s]
    · rw [gV_sV, if_neg (fun x => by omega), mU_c (by omega)]
      exact s7
  · have hL' : LSr (sV S 5 (A 1 s) 8 how) (lvC P.1) (A 5) ea (lsC A P.1 P.2) cp := hL
    exact LSr_ls hL' (fun i hi => lsC_fr (M := P.1) (M' := mU P.1 1 (9 * s + 3) how) hw.1 hw.2.2.1 rfl rfl rfl rfl (fun s' w _ _ _ => by rw [mU_c (by omega)]) hi)
theorem C_dividedUp {len sp : Int32} {l k : Nat} (hl : len = nI l) (hk : sp = nI k) (h1 : 1 ≤ k) (h6 : k ≤ 6) {X : bS} {post : Int32 → bS → Prop} (hp : post ((len + sp - 1) / sp) X) : wp_X4_dividedUp post len sp X := by
  refine ⟨fun _ => ⟨fun q => ?_, hp⟩, fun q => ?_⟩
  · rw [hk] at q
    have := (nI_eq (b := 0) (by omega) (by omega)).mp q
    omega
  · rw [hk] at q
    exact absurd (nI_le h1 (by omega)) q
end CSET
