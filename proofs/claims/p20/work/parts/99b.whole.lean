theorem wk_go {D : va_G} {y : Nat → ClassId} {z : Nat} {S : bS} {A : Nat → Prop} {s : State} (h : bP D y z S A s) (d : Drawn) : bP D y z S A (s.setDrawn d) := bP.go (locs := []) h h.1 va_S.rf (s.setDrawn d) rfl (State.WarmedH.refl s)
theorem no_traces {l : Launch} (h : l.flags = flags0) : l.stackTraces = false := by
  unfold Launch.stackTraces
  rw [h]
  decide +kernel
/-- YOUR PART: from the entry, for every script of at most 260 ints, the law comes to its end with true ('hflags': the launch's flags, for a law that throws: no stack traces) -/
theorem whole_start {p : Program} {e : Env} {s : State} {m : MethodId} {below : List Frame} {meth : Method} {c : Code} (l : Launch) (hflags : l.flags = flags0) {b L : Nat} {xs : Nat → Int32} (hL : L ≤ 260) (C0 : lw_At p s m meth c b L xs) : W p l e room_1 s m #[Value.ref b] below meth c s.heap [] 0 0 (lw_Z below #[Value.ref b] s) (entryFrame m ([Value.ref b] : List Value).toArray 23) := by
  obtain ⟨hx, hb, hr, hml, hown, hts, hX, hbl, hlocks, hgv⟩ := C0
  obtain ⟨D, y, z, hP⟩ := bP_start hts hgv
  have hz : gK (sZ z) z = 14 := by rw [gK_sZ, if_pos rfl]
  have hts0 : ∀ w ∈ wsL_law, w.before #[Value.ref b] s = true := fun w h => hts w (wsL_law_in w h)
  exact m_L_law (D := D) (y := y) (z := z) (A := fun q => s.heap.size ≤ q) (S := sZ z) (post := fun v _ => v = 1) (L := L) (xs := xs) (no_traces hflags) hx hb hr hml hlocks (wk_go hP) (fun q h => h) (Nat.not_le.mpr hbl) hbl (fun d => hX) hts0 hown (fun v S h => h) (law_start hL hz rfl (fun a ha => ((wk_sZ z).1 a).mp ha) b)
