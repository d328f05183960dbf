def wb_L_law_1256 (xs : Nat → Int32) (L : Nat) (post : Int32 → bS → Prop) (mc ms : Nat) (S : bS) : Prop := post (0 : Int32) S
def wb_L_law_1275 (xs : Nat → Int32) (L : Nat) (post : Int32 → bS → Prop) (rec23 : Nat → Nat → Nat → Nat → Nat → Nat → Int32 → bS → Prop) (mc ms : Nat) (v0 : Nat) (v1 : Nat) (v2 : Nat) (v3 : Nat) (v4 : Int32) (S : bS) : Prop := rec23 mc ms v0 v1 v2 v3 (v4 + (6 : Int32)) S
def wb_L_law_189 (xs : Nat → Int32) (L : Nat) (post : Int32 → bS → Prop) (rec23 : Nat → Nat → Nat → Nat → Nat → Nat → Int32 → bS → Prop) (mc ms : Nat) (v0 : Nat) (v1 : Nat) (v2 : Nat) (v3 : Nat) (v4 : Int32) (S : bS) : Prop := wb_L_law_1275 xs L post rec23 mc ms v0 v1 v2 v3 v4 S
def wb_L_law_293 (xs : Nat → Int32) (L : Nat) (post : Int32 → bS → Prop) (rec23 : Nat → Nat → Nat → Nat → Nat → Nat → Int32 → bS → Prop) (mc ms : Nat) (v0 : Nat) (v1 : Nat) (v2 : Nat) (v3 : Nat) (v4 : Int32) (S : bS) : Prop := wb_L_law_1275 xs L post rec23 mc ms v0 v1 v2 v3 v4 S
def wb_L_law_361 (xs : Nat → Int32) (L : Nat) (post : Int32 → bS → Prop) (rec23 : Nat → Nat → Nat → Nat → Nat → Nat → Int32 → bS → Prop) (mc ms : Nat) (v0 : Nat) (v1 : Nat) (v2 : Nat) (v3 : Nat) (v4 : Int32) (S : bS) : Prop := wb_L_law_1275 xs L post rec23 mc ms v0 v1 v2 v3 v4 S
def wb_L_law_457 (xs : Nat → Int32) (L : Nat) (post : Int32 → bS → Prop) (rec23 : Nat → Nat → Nat → Nat → Nat → Nat → Int32 → bS → Prop) (mc ms : Nat) (v0 : Nat) (v1 : Nat) (v2 : Nat) (v3 : Nat) (v4 : Int32) (S : bS) : Prop := wb_L_law_1275 xs L post rec23 mc ms v0 v1 v2 v3 v4 S
def wb_L_law_424 (xs : Nat → Int32) (L : Nat) (post : Int32 → bS → Prop) (rec23 : Nat → Nat → Nat → Nat → Nat → Nat → Int32 → bS → Prop) (mc ms : Nat) (v0 : Nat) (v1 : Nat) (v2 : Nat) (v3 : Nat) (v4 : Int32) (v5 : Int32) (s0 : Int32) (s1 : Int32) (s2 : Int32) (s3 : Nat) (S : bS) : Prop := gK S s3 = 8 ∧ (wp_X6_setTube (fun r300 S301 => gK S301 v2 = 8 ∧ (wp_X6_thrown (fun r303 S304 => (r303 = v5 → (v5 ≠ (0 : Int32) → wb_L_law_457 xs L post rec23 mc ms v0 v1 v2 v3 v4 S304) ∧ (v5 = (0 : Int32) → gK S304 v3 = 13 ∧ (vp_in (0 : Int32) (gN S304 v3) ∧ (((lg_cmp (gL S304 v3 (Int32.toNatClampNeg (0 : Int32))) (Int32.toInt64 r300)) = (0 : Int32) → wb_L_law_457 xs L post rec23 mc ms v0 v1 v2 v3 v4 S304) ∧ (¬ ((lg_cmp (gL S304 v3 (Int32.toNatClampNeg (0 : Int32))) (Int32.toInt64 r300)) = (0 : Int32)) → post (0 : Int32) S304))))) ∧ (¬ (r303 = v5) → post (0 : Int32) S304)) v2 S301)) s3 s2 s1 s0 S)
def wb_L_law_391 (xs : Nat → Int32) (L : Nat) (post : Int32 → bS → Prop) (rec23 : Nat → Nat → Nat → Nat → Nat → Nat → Int32 → bS → Prop) (mc ms : Nat) (v0 : Nat) (v1 : Nat) (v2 : Nat) (v3 : Nat) (v4 : Int32) (s0 : Int32) (s1 : Int32) (s2 : Int32) (s3 : Nat) (S : bS) : Prop := ∃ k293 n294, k293 ≤ mc ∧ n294 ≤ ms ∧ (wp_L_setTube (fun r291 S292 => gK S292 v0 = 9 ∧ (vp_in (v4 + (1 : Int32)) (gN S292 v0) ∧ (vp_in (v4 + (2 : Int32)) (gN S292 v0) ∧ (vp_in (v4 + (3 : Int32)) (gN S292 v0) ∧ (((gV S292 9 v0 (Int32.toNatClampNeg (v4 + (3 : Int32)))) = (0 : Int32) → wb_L_law_424 xs L post rec23 (mc - k293) (ms - n294) v0 v1 v2 v3 v4 r291 (0 : Int32) (gV S292 9 v0 (Int32.toNatClampNeg (v4 + (2 : Int32)))) (gV S292 9 v0 (Int32.toNatClampNeg (v4 + (1 : Int32)))) v2 S292) ∧ (¬ ((gV S292 9 v0 (Int32.toNatClampNeg (v4 + (3 : Int32)))) = (0 : Int32)) → wb_L_law_424 xs L post rec23 (mc - k293) (ms - n294) v0 v1 v2 v3 v4 r291 (1 : Int32) (gV S292 9 v0 (Int32.toNatClampNeg (v4 + (2 : Int32)))) (gV S292 9 v0 (Int32.toNatClampNeg (v4 + (1 : Int32)))) v2 S292)))))) k293 n294 s3 s2 s1 s0 v3 S)
def wb_L_law_561 (xs : Nat → Int32) (L : Nat) (post : Int32 → bS → Prop) (rec23 : Nat → Nat → Nat → Nat → Nat → Nat → Int32 → bS → Prop) (mc ms : Nat) (v0 : Nat) (v1 : Nat) (v2 : Nat) (v3 : Nat) (v4 : Int32) (S : bS) : Prop := wb_L_law_1275 xs L post rec23 mc ms v0 v1 v2 v3 v4 S
def wb_L_law_641 (xs : Nat → Int32) (L : Nat) (post : Int32 → bS → Prop) (rec23 : Nat → Nat → Nat → Nat → Nat → Nat → Int32 → bS → Prop) (mc ms : Nat) (v0 : Nat) (v1 : Nat) (v2 : Nat) (v3 : Nat) (v4 : Int32) (S : bS) : Prop := wb_L_law_1275 xs L post rec23 mc ms v0 v1 v2 v3 v4 S
def wb_L_law_697 (xs : Nat → Int32) (L : Nat) (post : Int32 → bS → Prop) (rec23 : Nat → Nat → Nat → Nat → Nat → Nat → Int32 → bS → Prop) (mc ms : Nat) (v0 : Nat) (v1 : Nat) (v2 : Nat) (v3 : Nat) (v4 : Int32) (S : bS) : Prop := wb_L_law_1275 xs L post rec23 mc ms v0 v1 v2 v3 v4 S
def wb_L_law_765 (xs : Nat → Int32) (L : Nat) (post : Int32 → bS → Prop) (rec23 : Nat → Nat → Nat → Nat → Nat → Nat → Int32 → bS → Prop) (mc ms : Nat) (v0 : Nat) (v1 : Nat) (v2 : Nat) (v3 : Nat) (v4 : Int32) (S : bS) : Prop := wb_L_law_1275 xs L post rec23 mc ms v0 v1 v2 v3 v4 S
def wb_L_law_821 (xs : Nat → Int32) (L : Nat) (post : Int32 → bS → Prop) (rec23 : Nat → Nat → Nat → Nat → Nat → Nat → Int32 → bS → Prop) (mc ms : Nat) (v0 : Nat) (v1 : Nat) (v2 : Nat) (v3 : Nat) (v4 : Int32) (S : bS) : Prop := wb_L_law_1275 xs L post rec23 mc ms v0 v1 v2 v3 v4 S
def wb_L_law_889 (xs : Nat → Int32) (L : Nat) (post : Int32 → bS → Prop) (rec23 : Nat → Nat → Nat → Nat → Nat → Nat → Int32 → bS → Prop) (mc ms : Nat) (v0 : Nat) (v1 : Nat) (v2 : Nat) (v3 : Nat) (v4 : Int32) (S : bS) : Prop := wb_L_law_1275 xs L post rec23 mc ms v0 v1 v2 v3 v4 S
def wb_L_law_957 (xs : Nat → Int32) (L : Nat) (post : Int32 → bS → Prop) (rec23 : Nat → Nat → Nat → Nat → Nat → Nat → Int32 → bS → Prop) (mc ms : Nat) (v0 : Nat) (v1 : Nat) (v2 : Nat) (v3 : Nat) (v4 : Int32) (S : bS) : Prop := wb_L_law_1275 xs L post rec23 mc ms v0 v1 v2 v3 v4 S
def wb_L_law_1025 (xs : Nat → Int32) (L : Nat) (post : Int32 → bS → Prop) (rec23 : Nat → Nat → Nat → Nat → Nat → Nat → Int32 → bS → Prop) (mc ms : Nat) (v0 : Nat) (v1 : Nat) (v2 : Nat) (v3 : Nat) (v4 : Int32) (S : bS) : Prop := wb_L_law_1275 xs L post rec23 mc ms v0 v1 v2 v3 v4 S
def wb_L_law_1093 (xs : Nat → Int32) (L : Nat) (post : Int32 → bS → Prop) (rec23 : Nat → Nat → Nat → Nat → Nat → Nat → Int32 → bS → Prop) (mc ms : Nat) (v0 : Nat) (v1 : Nat) (v2 : Nat) (v3 : Nat) (v4 : Int32) (S : bS) : Prop := wb_L_law_1275 xs L post rec23 mc ms v0 v1 v2 v3 v4 S
def wb_L_law_1161 (xs : Nat → Int32) (L : Nat) (post : Int32 → bS → Prop) (rec23 : Nat → Nat → Nat → Nat → Nat → Nat → Int32 → bS → Prop) (mc ms : Nat) (v0 : Nat) (v1 : Nat) (v2 : Nat) (v3 : Nat) (v4 : Int32) (S : bS) : Prop := wb_L_law_1275 xs L post rec23 mc ms v0 v1 v2 v3 v4 S
def wb_L_law_1217 (xs : Nat → Int32) (L : Nat) (post : Int32 → bS → Prop) (rec23 : Nat → Nat → Nat → Nat → Nat → Nat → Int32 → bS → Prop) (mc ms : Nat) (v0 : Nat) (v1 : Nat) (v2 : Nat) (v3 : Nat) (v4 : Int32) (S : bS) : Prop := wb_L_law_1275 xs L post rec23 mc ms v0 v1 v2 v3 v4 S
def wb_L_law_1258 (xs : Nat → Int32) (L : Nat) (post : Int32 → bS → Prop) (rec23 : Nat → Nat → Nat → Nat → Nat → Nat → Int32 → bS → Prop) (mc ms : Nat) (v0 : Nat) (v1 : Nat) (v2 : Nat) (v3 : Nat) (v4 : Int32) (S : bS) : Prop := wb_L_law_1275 xs L post rec23 mc ms v0 v1 v2 v3 v4 S
def wb_L_law_23 (xs : Nat → Int32) (L : Nat) (post : Int32 → bS → Prop) : Nat → Nat → Nat → Nat → Nat → Nat → Nat → Int32 → bS → Prop
  | 0, _, _, _, _, _, _, _, _ => False
  | n + 1, mc, ms, v0, v1, v2, v3, v4, S => (((Int32.ofNat L) - (6 : Int32)) < v4 → post (1 : Int32) S) ∧ (¬ (((Int32.ofNat L) - (6 : Int32)) < v4) → gK S v0 = 9 ∧ (vp_in v4 (gN S v0) ∧ ((((gV S 9 v0 (Int32.toNatClampNeg v4)) &&& (31 : Int32)) = (0 : Int32) → vp_in (v4 + (1 : Int32)) (gN S v0) ∧ (vp_in (v4 + (2 : Int32)) (gN S v0) ∧ (∃ k24 n25, k24 ≤ mc ∧ n25 ≤ ms ∧ (wp_L_addStation (fun r22 S23 => gK S23 v0 = 9 ∧ (vp_in (v4 + (1 : Int32)) (gN S23 v0) ∧ (vp_in (v4 + (2 : Int32)) (gN S23 v0) ∧ (gK S23 v2 = 8 ∧ (∃ k32 n33, k32 ≤ (mc - k24) ∧ n33 ≤ (ms - n25) ∧ (wp_X6_addStation (fun r30 S31 => gK S31 v2 = 8 ∧ (wp_X6_thrown (fun r35 S36 => (r35 = r22 → (r22 ≠ (0 : Int32) → wb_L_law_189 xs L post (wb_L_law_23 xs L post n) ((mc - k24) - k32) ((ms - n25) - n33) v0 v1 v2 v3 v4 S36) ∧ (r22 = (0 : Int32) → gK S36 v3 = 13 ∧ (vp_in (0 : Int32) (gN S36 v3) ∧ (((lg_cmp (gL S36 v3 (Int32.toNatClampNeg (0 : Int32))) (Int32.toInt64 r30)) = (0 : Int32) → wb_L_law_189 xs L post (wb_L_law_23 xs L post n) ((mc - k24) - k32) ((ms - n25) - n33) v0 v1 v2 v3 v4 S36) ∧ (¬ ((lg_cmp (gL S36 v3 (Int32.toNatClampNeg (0 : Int32))) (Int32.toInt64 r30)) = (0 : Int32)) → post (0 : Int32) S36))))) ∧ (¬ (r35 = r22) → post (0 : Int32) S36)) v2 S31)) k32 n33 v2 (gV S23 9 v0 (Int32.toNatClampNeg (v4 + (1 : Int32)))) (gV S23 9 v0 (Int32.toNatClampNeg (v4 + (2 : Int32)))) S23)))))) k24 n25 v1 (gV S 9 v0 (Int32.toNatClampNeg (v4 + (1 : Int32)))) (gV S 9 v0 (Int32.toNatClampNeg (v4 + (2 : Int32)))) v3 S)))) ∧ (((gV S 9 v0 (Int32.toNatClampNeg v4)) &&& (31 : Int32)) = (1 : Int32) → vp_in (v4 + (1 : Int32)) (gN S v0) ∧ (vp_in (v4 + (2 : Int32)) (gN S v0) ∧ (vp_in (v4 + (3 : Int32)) (gN S v0) ∧ (vp_in (v4 + (4 : Int32)) (gN S v0) ∧ (vp_in (v4 + (5 : Int32)) (gN S v0) ∧ (∃ k46 n47, k46 ≤ mc ∧ n47 ≤ ms ∧ (wp_L_addTube (fun r44 S45 => gK S45 v0 = 9 ∧ (vp_in (v4 + (1 : Int32)) (gN S45 v0) ∧ (vp_in (v4 + (2 : Int32)) (gN S45 v0) ∧ (vp_in (v4 + (3 : Int32)) (gN S45 v0) ∧ (vp_in (v4 + (4 : Int32)) (gN S45 v0) ∧ (vp_in (v4 + (5 : Int32)) (gN S45 v0) ∧ (gK S45 v2 = 8 ∧ (∃ k57 n58, k57 ≤ (mc - k46) ∧ n58 ≤ (ms - n47) ∧ (wp_X6_addTube (fun r55 S56 => gK S56 v2 = 8 ∧ (wp_X6_thrown (fun r60 S61 => (r60 = r44 → (r44 ≠ (0 : Int32) → wb_L_law_293 xs L post (wb_L_law_23 xs L post n) ((mc - k46) - k57) ((ms - n47) - n58) v0 v1 v2 v3 v4 S61) ∧ (r44 = (0 : Int32) → gK S61 v3 = 13 ∧ (vp_in (0 : Int32) (gN S61 v3) ∧ (((lg_cmp (gL S61 v3 (Int32.toNatClampNeg (0 : Int32))) (Int32.toInt64 r55)) = (0 : Int32) → wb_L_law_293 xs L post (wb_L_law_23 xs L post n) ((mc - k46) - k57) ((ms - n47) - n58) v0 v1 v2 v3 v4 S61) ∧ (¬ ((lg_cmp (gL S61 v3 (Int32.toNatClampNeg (0 : Int32))) (Int32.toInt64 r55)) = (0 : Int32)) → post (0 : Int32) S61))))) ∧ (¬ (r60 = r44) → post (0 : Int32) S61)) v2 S56)) k57 n58 v2 (gV S45 9 v0 (Int32.toNatClampNeg (v4 + (1 : Int32)))) (gV S45 9 v0 (Int32.toNatClampNeg (v4 + (2 : Int32)))) (gV S45 9 v0 (Int32.toNatClampNeg (v4 + (3 : Int32)))) (gV S45 9 v0 (Int32.toNatClampNeg (v4 + (4 : Int32)))) (gV S45 9 v0 (Int32.toNatClampNeg (v4 + (5 : Int32)))) S45))))))))) k46 n47 v1 (gV S 9 v0 (Int32.toNatClampNeg (v4 + (1 : Int32)))) (gV S 9 v0 (Int32.toNatClampNeg (v4 + (2 : Int32)))) (gV S 9 v0 (Int32.toNatClampNeg (v4 + (3 : Int32)))) (gV S 9 v0 (Int32.toNatClampNeg (v4 + (4 : Int32)))) (gV S 9 v0 (Int32.toNatClampNeg (v4 + (5 : Int32)))) v3 S))))))) ∧ (((gV S 9 v0 (Int32.toNatClampNeg v4)) &&& (31 : Int32)) = (2 : Int32) → vp_in (v4 + (1 : Int32)) (gN S v0) ∧ (vp_in (v4 + (2 : Int32)) (gN S v0) ∧ (∃ k68 n69, k68 ≤ mc ∧ n69 ≤ ms ∧ (wp_L_turn (fun r66 S67 => gK S67 v0 = 9 ∧ (vp_in (v4 + (1 : Int32)) (gN S67 v0) ∧ (vp_in (v4 + (2 : Int32)) (gN S67 v0) ∧ (gK S67 v2 = 8 ∧ (wp_X6_turn (fun r74 S75 => gK S75 v2 = 8 ∧ (wp_X6_thrown (fun r77 S78 => (r77 = r66 → (r66 ≠ (0 : Int32) → wb_L_law_361 xs L post (wb_L_law_23 xs L post n) (mc - k68) (ms - n69) v0 v1 v2 v3 v4 S78) ∧ (r66 = (0 : Int32) → gK S78 v3 = 13 ∧ (vp_in (0 : Int32) (gN S78 v3) ∧ (((lg_cmp (gL S78 v3 (Int32.toNatClampNeg (0 : Int32))) (Int32.toInt64 r74)) = (0 : Int32) → wb_L_law_361 xs L post (wb_L_law_23 xs L post n) (mc - k68) (ms - n69) v0 v1 v2 v3 v4 S78) ∧ (¬ ((lg_cmp (gL S78 v3 (Int32.toNatClampNeg (0 : Int32))) (Int32.toInt64 r74)) = (0 : Int32)) → post (0 : Int32) S78))))) ∧ (¬ (r77 = r66) → post (0 : Int32) S78)) v2 S75)) v2 (gV S67 9 v0 (Int32.toNatClampNeg (v4 + (1 : Int32)))) (gV S67 9 v0 (Int32.toNatClampNeg (v4 + (2 : Int32)))) S67))))) k68 n69 v1 (gV S 9 v0 (Int32.toNatClampNeg (v4 + (1 : Int32)))) (gV S 9 v0 (Int32.toNatClampNeg (v4 + (2 : Int32)))) v3 S)))) ∧ (((gV S 9 v0 (Int32.toNatClampNeg v4)) &&& (31 : Int32)) = (3 : Int32) → vp_in (v4 + (1 : Int32)) (gN S v0) ∧ (vp_in (v4 + (2 : Int32)) (gN S v0) ∧ (vp_in (v4 + (3 : Int32)) (gN S v0) ∧ (((gV S 9 v0 (Int32.toNatClampNeg (v4 + (3 : Int32)))) = (0 : Int32) → wb_L_law_391 xs L post (wb_L_law_23 xs L post n) mc ms v0 v1 v2 v3 v4 (0 : Int32) (gV S 9 v0 (Int32.toNatClampNeg (v4 + (2 : Int32)))) (gV S 9 v0 (Int32.toNatClampNeg (v4 + (1 : Int32)))) v1 S) ∧ (¬ ((gV S 9 v0 (Int32.toNatClampNeg (v4 + (3 : Int32)))) = (0 : Int32)) → wb_L_law_391 xs L post (wb_L_law_23 xs L post n) mc ms v0 v1 v2 v3 v4 (1 : Int32) (gV S 9 v0 (Int32.toNatClampNeg (v4 + (2 : Int32)))) (gV S 9 v0 (Int32.toNatClampNeg (v4 + (1 : Int32)))) v1 S))))) ∧ (((gV S 9 v0 (Int32.toNatClampNeg v4)) &&& (31 : Int32)) = (4 : Int32) → vp_in (v4 + (1 : Int32)) (gN S v0) ∧ (vp_in (v4 + (2 : Int32)) (gN S v0) ∧ (vp_in (v4 + (3 : Int32)) (gN S v0) ∧ (vp_in (v4 + (4 : Int32)) (gN S v0) ∧ (vp_in (v4 + (5 : Int32)) (gN S v0) ∧ (∃ k91 n92, k91 ≤ mc ∧ n92 ≤ ms ∧ (wp_L_addEntry (fun r89 S90 => gK S90 v0 = 9 ∧ (vp_in (v4 + (1 : Int32)) (gN S90 v0) ∧ (vp_in (v4 + (2 : Int32)) (gN S90 v0) ∧ (vp_in (v4 + (3 : Int32)) (gN S90 v0) ∧ (vp_in (v4 + (4 : Int32)) (gN S90 v0) ∧ (vp_in (v4 + (5 : Int32)) (gN S90 v0) ∧ (gK S90 v2 = 8 ∧ (∃ k102 n103, k102 ≤ (mc - k91) ∧ n103 ≤ (ms - n92) ∧ (wp_X6_addEntry (fun r100 S101 => gK S101 v2 = 8 ∧ (wp_X6_thrown (fun r105 S106 => (r105 = r89 → (r89 ≠ (0 : Int32) → wb_L_law_561 xs L post (wb_L_law_23 xs L post n) ((mc - k91) - k102) ((ms - n92) - n103) v0 v1 v2 v3 v4 S106) ∧ (r89 = (0 : Int32) → gK S106 v3 = 13 ∧ (vp_in (0 : Int32) (gN S106 v3) ∧ (((lg_cmp (gL S106 v3 (Int32.toNatClampNeg (0 : Int32))) (Int32.toInt64 r100)) = (0 : Int32) → wb_L_law_561 xs L post (wb_L_law_23 xs L post n) ((mc - k91) - k102) ((ms - n92) - n103) v0 v1 v2 v3 v4 S106) ∧ (¬ ((lg_cmp (gL S106 v3 (Int32.toNatClampNeg (0 : Int32))) (Int32.toInt64 r100)) = (0 : Int32)) → post (0 : Int32) S106))))) ∧ (¬ (r105 = r89) → post (0 : Int32) S106)) v2 S101)) k102 n103 v2 (gV S90 9 v0 (Int32.toNatClampNeg (v4 + (1 : Int32)))) (gV S90 9 v0 (Int32.toNatClampNeg (v4 + (2 : Int32)))) (gV S90 9 v0 (Int32.toNatClampNeg (v4 + (3 : Int32)))) (gV S90 9 v0 (Int32.toNatClampNeg (v4 + (4 : Int32)))) (gV S90 9 v0 (Int32.toNatClampNeg (v4 + (5 : Int32)))) S90))))))))) k91 n92 v1 (gV S 9 v0 (Int32.toNatClampNeg (v4 + (1 : Int32)))) (gV S 9 v0 (Int32.toNatClampNeg (v4 + (2 : Int32)))) (gV S 9 v0 (Int32.toNatClampNeg (v4 + (3 : Int32)))) (gV S 9 v0 (Int32.toNatClampNeg (v4 + (4 : Int32)))) (gV S 9 v0 (Int32.toNatClampNeg (v4 + (5 : Int32)))) v3 S))))))) ∧ (((gV S 9 v0 (Int32.toNatClampNeg v4)) &&& (31 : Int32)) = (5 : Int32) → vp_in (v4 + (1 : Int32)) (gN S v0) ∧ (vp_in (v4 + (2 : Int32)) (gN S v0) ∧ (vp_in (v4 + (3 : Int32)) (gN S v0) ∧ (∃ k114 n115, k114 ≤ mc ∧ n115 ≤ ms ∧ (wp_L_send (fun r112 S113 => gK S113 v0 = 9 ∧ (vp_in (v4 + (1 : Int32)) (gN S113 v0) ∧ (vp_in (v4 + (2 : Int32)) (gN S113 v0) ∧ (vp_in (v4 + (3 : Int32)) (gN S113 v0) ∧ (gK S113 v2 = 8 ∧ (wp_X6_send (fun r121 S122 => gK S122 v2 = 8 ∧ (wp_X6_thrown (fun r124 S125 => (r124 = r112 → (r112 ≠ (0 : Int32) → wb_L_law_641 xs L post (wb_L_law_23 xs L post n) (mc - k114) (ms - n115) v0 v1 v2 v3 v4 S125) ∧ (r112 = (0 : Int32) → gK S125 v3 = 13 ∧ (vp_in (0 : Int32) (gN S125 v3) ∧ (((lg_cmp (gL S125 v3 (Int32.toNatClampNeg (0 : Int32))) (Int32.toInt64 r121)) = (0 : Int32) → wb_L_law_641 xs L post (wb_L_law_23 xs L post n) (mc - k114) (ms - n115) v0 v1 v2 v3 v4 S125) ∧ (¬ ((lg_cmp (gL S125 v3 (Int32.toNatClampNeg (0 : Int32))) (Int32.toInt64 r121)) = (0 : Int32)) → post (0 : Int32) S125))))) ∧ (¬ (r124 = r112) → post (0 : Int32) S125)) v2 S122)) v2 (gV S113 9 v0 (Int32.toNatClampNeg (v4 + (1 : Int32)))) (gV S113 9 v0 (Int32.toNatClampNeg (v4 + (2 : Int32)))) (gV S113 9 v0 (Int32.toNatClampNeg (v4 + (3 : Int32)))) S113)))))) k114 n115 v1 (gV S 9 v0 (Int32.toNatClampNeg (v4 + (1 : Int32)))) (gV S 9 v0 (Int32.toNatClampNeg (v4 + (2 : Int32)))) (gV S 9 v0 (Int32.toNatClampNeg (v4 + (3 : Int32)))) v3 S))))) ∧ (((gV S 9 v0 (Int32.toNatClampNeg v4)) &&& (31 : Int32)) = (6 : Int32) → vp_in (v4 + (1 : Int32)) (gN S v0) ∧ (∃ k131 n132, k131 ≤ mc ∧ n132 ≤ ms ∧ (wp_L_run (fun r129 S130 => gK S130 v0 = 9 ∧ (vp_in (v4 + (1 : Int32)) (gN S130 v0) ∧ (gK S130 v2 = 8 ∧ (wp_X6_run (fun r136 S137 => gK S137 v2 = 8 ∧ (wp_X6_thrown (fun r139 S140 => (r139 = r129 → (r129 ≠ (0 : Int32) → wb_L_law_697 xs L post (wb_L_law_23 xs L post n) (mc - k131) (ms - n132) v0 v1 v2 v3 v4 S140) ∧ (r129 = (0 : Int32) → gK S140 v3 = 13 ∧ (vp_in (0 : Int32) (gN S140 v3) ∧ (((lg_cmp (gL S140 v3 (Int32.toNatClampNeg (0 : Int32))) (Int32.toInt64 r136)) = (0 : Int32) → wb_L_law_697 xs L post (wb_L_law_23 xs L post n) (mc - k131) (ms - n132) v0 v1 v2 v3 v4 S140) ∧ (¬ ((lg_cmp (gL S140 v3 (Int32.toNatClampNeg (0 : Int32))) (Int32.toInt64 r136)) = (0 : Int32)) → post (0 : Int32) S140))))) ∧ (¬ (r139 = r129) → post (0 : Int32) S140)) v2 S137)) v2 (gV S130 9 v0 (Int32.toNatClampNeg (v4 + (1 : Int32)))) S130)))) k131 n132 v1 (gV S 9 v0 (Int32.toNatClampNeg (v4 + (1 : Int32)))) v3 S))) ∧ (((gV S 9 v0 (Int32.toNatClampNeg v4)) &&& (31 : Int32)) = (7 : Int32) → vp_in (v4 + (1 : Int32)) (gN S v0) ∧ (vp_in (v4 + (2 : Int32)) (gN S v0) ∧ (∃ k147 n148, k147 ≤ mc ∧ n148 ≤ ms ∧ (wp_L_carrier (fun r145 S146 => gK S146 v0 = 9 ∧ (vp_in (v4 + (1 : Int32)) (gN S146 v0) ∧ (vp_in (v4 + (2 : Int32)) (gN S146 v0) ∧ (gK S146 v2 = 8 ∧ (wp_X6_carrier (fun r153 S154 => gK S154 v2 = 8 ∧ (wp_X6_thrown (fun r156 S157 => (r156 = r145 → (r145 ≠ (0 : Int32) → wb_L_law_765 xs L post (wb_L_law_23 xs L post n) (mc - k147) (ms - n148) v0 v1 v2 v3 v4 S157) ∧ (r145 = (0 : Int32) → gK S157 v3 = 13 ∧ (vp_in (0 : Int32) (gN S157 v3) ∧ (((lg_cmp (gL S157 v3 (Int32.toNatClampNeg (0 : Int32))) (Int32.toInt64 r153)) = (0 : Int32) → wb_L_law_765 xs L post (wb_L_law_23 xs L post n) (mc - k147) (ms - n148) v0 v1 v2 v3 v4 S157) ∧ (¬ ((lg_cmp (gL S157 v3 (Int32.toNatClampNeg (0 : Int32))) (Int32.toInt64 r153)) = (0 : Int32)) → post (0 : Int32) S157))))) ∧ (¬ (r156 = r145) → post (0 : Int32) S157)) v2 S154)) v2 (gV S146 9 v0 (Int32.toNatClampNeg (v4 + (1 : Int32)))) (gV S146 9 v0 (Int32.toNatClampNeg (v4 + (2 : Int32)))) S146))))) k147 n148 v1 (gV S 9 v0 (Int32.toNatClampNeg (v4 + (1 : Int32)))) (gV S 9 v0 (Int32.toNatClampNeg (v4 + (2 : Int32)))) v3 S)))) ∧ (((gV S 9 v0 (Int32.toNatClampNeg v4)) &&& (31 : Int32)) = (8 : Int32) → vp_in (v4 + (1 : Int32)) (gN S v0) ∧ (∃ k163 n164, k163 ≤ mc ∧ n164 ≤ ms ∧ (wp_L_count (fun r161 S162 => gK S162 v0 = 9 ∧ (vp_in (v4 + (1 : Int32)) (gN S162 v0) ∧ (gK S162 v2 = 8 ∧ (wp_X6_count (fun r168 S169 => gK S169 v2 = 8 ∧ (wp_X6_thrown (fun r171 S172 => (r171 = r161 → (r161 ≠ (0 : Int32) → wb_L_law_821 xs L post (wb_L_law_23 xs L post n) (mc - k163) (ms - n164) v0 v1 v2 v3 v4 S172) ∧ (r161 = (0 : Int32) → gK S172 v3 = 13 ∧ (vp_in (0 : Int32) (gN S172 v3) ∧ (((lg_cmp (gL S172 v3 (Int32.toNatClampNeg (0 : Int32))) (Int32.toInt64 r168)) = (0 : Int32) → wb_L_law_821 xs L post (wb_L_law_23 xs L post n) (mc - k163) (ms - n164) v0 v1 v2 v3 v4 S172) ∧ (¬ ((lg_cmp (gL S172 v3 (Int32.toNatClampNeg (0 : Int32))) (Int32.toInt64 r168)) = (0 : Int32)) → post (0 : Int32) S172))))) ∧ (¬ (r171 = r161) → post (0 : Int32) S172)) v2 S169)) v2 (gV S162 9 v0 (Int32.toNatClampNeg (v4 + (1 : Int32)))) S162)))) k163 n164 v1 (gV S 9 v0 (Int32.toNatClampNeg (v4 + (1 : Int32)))) v3 S))) ∧ (((gV S 9 v0 (Int32.toNatClampNeg v4)) &&& (31 : Int32)) = (9 : Int32) → vp_in (v4 + (1 : Int32)) (gN S v0) ∧ (vp_in (v4 + (2 : Int32)) (gN S v0) ∧ (∃ k179 n180, k179 ≤ mc ∧ n180 ≤ ms ∧ (wp_L_station (fun r177 S178 => gK S178 v0 = 9 ∧ (vp_in (v4 + (1 : Int32)) (gN S178 v0) ∧ (vp_in (v4 + (2 : Int32)) (gN S178 v0) ∧ (gK S178 v2 = 8 ∧ (wp_X6_station (fun r185 S186 => gK S186 v2 = 8 ∧ (wp_X6_thrown (fun r188 S189 => (r188 = r177 → (r177 ≠ (0 : Int32) → wb_L_law_889 xs L post (wb_L_law_23 xs L post n) (mc - k179) (ms - n180) v0 v1 v2 v3 v4 S189) ∧ (r177 = (0 : Int32) → gK S189 v3 = 13 ∧ (vp_in (0 : Int32) (gN S189 v3) ∧ (((lg_cmp (gL S189 v3 (Int32.toNatClampNeg (0 : Int32))) (Int32.toInt64 r185)) = (0 : Int32) → wb_L_law_889 xs L post (wb_L_law_23 xs L post n) (mc - k179) (ms - n180) v0 v1 v2 v3 v4 S189) ∧ (¬ ((lg_cmp (gL S189 v3 (Int32.toNatClampNeg (0 : Int32))) (Int32.toInt64 r185)) = (0 : Int32)) → post (0 : Int32) S189))))) ∧ (¬ (r188 = r177) → post (0 : Int32) S189)) v2 S186)) v2 (gV S178 9 v0 (Int32.toNatClampNeg (v4 + (1 : Int32)))) (gV S178 9 v0 (Int32.toNatClampNeg (v4 + (2 : Int32)))) S178))))) k179 n180 v1 (gV S 9 v0 (Int32.toNatClampNeg (v4 + (1 : Int32)))) (gV S 9 v0 (Int32.toNatClampNeg (v4 + (2 : Int32)))) v3 S)))) ∧ (((gV S 9 v0 (Int32.toNatClampNeg v4)) &&& (31 : Int32)) = (10 : Int32) → vp_in (v4 + (1 : Int32)) (gN S v0) ∧ (vp_in (v4 + (2 : Int32)) (gN S v0) ∧ (∃ k196 n197, k196 ≤ mc ∧ n197 ≤ ms ∧ (wp_L_tube (fun r194 S195 => gK S195 v0 = 9 ∧ (vp_in (v4 + (1 : Int32)) (gN S195 v0) ∧ (vp_in (v4 + (2 : Int32)) (gN S195 v0) ∧ (gK S195 v2 = 8 ∧ (wp_X6_tube (fun r202 S203 => gK S203 v2 = 8 ∧ (wp_X6_thrown (fun r205 S206 => (r205 = r194 → (r194 ≠ (0 : Int32) → wb_L_law_957 xs L post (wb_L_law_23 xs L post n) (mc - k196) (ms - n197) v0 v1 v2 v3 v4 S206) ∧ (r194 = (0 : Int32) → gK S206 v3 = 13 ∧ (vp_in (0 : Int32) (gN S206 v3) ∧ (((lg_cmp (gL S206 v3 (Int32.toNatClampNeg (0 : Int32))) (Int32.toInt64 r202)) = (0 : Int32) → wb_L_law_957 xs L post (wb_L_law_23 xs L post n) (mc - k196) (ms - n197) v0 v1 v2 v3 v4 S206) ∧ (¬ ((lg_cmp (gL S206 v3 (Int32.toNatClampNeg (0 : Int32))) (Int32.toInt64 r202)) = (0 : Int32)) → post (0 : Int32) S206))))) ∧ (¬ (r205 = r194) → post (0 : Int32) S206)) v2 S203)) v2 (gV S195 9 v0 (Int32.toNatClampNeg (v4 + (1 : Int32)))) (gV S195 9 v0 (Int32.toNatClampNeg (v4 + (2 : Int32)))) S195))))) k196 n197 v1 (gV S 9 v0 (Int32.toNatClampNeg (v4 + (1 : Int32)))) (gV S 9 v0 (Int32.toNatClampNeg (v4 + (2 : Int32)))) v3 S)))) ∧ (((gV S 9 v0 (Int32.toNatClampNeg v4)) &&& (31 : Int32)) = (11 : Int32) → vp_in (v4 + (1 : Int32)) (gN S v0) ∧ (vp_in (v4 + (2 : Int32)) (gN S v0) ∧ (∃ k213 n214, k213 ≤ mc ∧ n214 ≤ ms ∧ (wp_L_there (fun r211 S212 => gK S212 v0 = 9 ∧ (vp_in (v4 + (1 : Int32)) (gN S212 v0) ∧ (vp_in (v4 + (2 : Int32)) (gN S212 v0) ∧ (gK S212 v2 = 8 ∧ (wp_X6_there (fun r219 S220 => gK S220 v2 = 8 ∧ (wp_X6_thrown (fun r222 S223 => (r222 = r211 → (r211 ≠ (0 : Int32) → wb_L_law_1025 xs L post (wb_L_law_23 xs L post n) (mc - k213) (ms - n214) v0 v1 v2 v3 v4 S223) ∧ (r211 = (0 : Int32) → gK S223 v3 = 13 ∧ (vp_in (0 : Int32) (gN S223 v3) ∧ (((lg_cmp (gL S223 v3 (Int32.toNatClampNeg (0 : Int32))) (Int32.toInt64 r219)) = (0 : Int32) → wb_L_law_1025 xs L post (wb_L_law_23 xs L post n) (mc - k213) (ms - n214) v0 v1 v2 v3 v4 S223) ∧ (¬ ((lg_cmp (gL S223 v3 (Int32.toNatClampNeg (0 : Int32))) (Int32.toInt64 r219)) = (0 : Int32)) → post (0 : Int32) S223))))) ∧ (¬ (r222 = r211) → post (0 : Int32) S223)) v2 S220)) v2 (gV S212 9 v0 (Int32.toNatClampNeg (v4 + (1 : Int32)))) (gV S212 9 v0 (Int32.toNatClampNeg (v4 + (2 : Int32)))) S212))))) k213 n214 v1 (gV S 9 v0 (Int32.toNatClampNeg (v4 + (1 : Int32)))) (gV S 9 v0 (Int32.toNatClampNeg (v4 + (2 : Int32)))) v3 S)))) ∧ (((gV S 9 v0 (Int32.toNatClampNeg v4)) &&& (31 : Int32)) = (12 : Int32) → vp_in (v4 + (1 : Int32)) (gN S v0) ∧ (vp_in (v4 + (2 : Int32)) (gN S v0) ∧ (∃ k230 n231, k230 ≤ mc ∧ n231 ≤ ms ∧ (wp_L_time (fun r228 S229 => gK S229 v0 = 9 ∧ (vp_in (v4 + (1 : Int32)) (gN S229 v0) ∧ (vp_in (v4 + (2 : Int32)) (gN S229 v0) ∧ (gK S229 v2 = 8 ∧ (wp_X6_time (fun r236 S237 => gK S237 v2 = 8 ∧ (wp_X6_thrown (fun r239 S240 => (r239 = r228 → (r228 ≠ (0 : Int32) → wb_L_law_1093 xs L post (wb_L_law_23 xs L post n) (mc - k230) (ms - n231) v0 v1 v2 v3 v4 S240) ∧ (r228 = (0 : Int32) → gK S240 v3 = 13 ∧ (vp_in (0 : Int32) (gN S240 v3) ∧ (((lg_cmp (gL S240 v3 (Int32.toNatClampNeg (0 : Int32))) (Int32.toInt64 r236)) = (0 : Int32) → wb_L_law_1093 xs L post (wb_L_law_23 xs L post n) (mc - k230) (ms - n231) v0 v1 v2 v3 v4 S240) ∧ (¬ ((lg_cmp (gL S240 v3 (Int32.toNatClampNeg (0 : Int32))) (Int32.toInt64 r236)) = (0 : Int32)) → post (0 : Int32) S240))))) ∧ (¬ (r239 = r228) → post (0 : Int32) S240)) v2 S237)) v2 (gV S229 9 v0 (Int32.toNatClampNeg (v4 + (1 : Int32)))) (gV S229 9 v0 (Int32.toNatClampNeg (v4 + (2 : Int32)))) S229))))) k230 n231 v1 (gV S 9 v0 (Int32.toNatClampNeg (v4 + (1 : Int32)))) (gV S 9 v0 (Int32.toNatClampNeg (v4 + (2 : Int32)))) v3 S)))) ∧ (((gV S 9 v0 (Int32.toNatClampNeg v4)) &&& (31 : Int32)) = (13 : Int32) → vp_in (v4 + (1 : Int32)) (gN S v0) ∧ (vp_in (v4 + (2 : Int32)) (gN S v0) ∧ (∃ k247 n248, k247 ≤ mc ∧ n248 ≤ ms ∧ (wp_L_next (fun r245 S246 => gK S246 v0 = 9 ∧ (vp_in (v4 + (1 : Int32)) (gN S246 v0) ∧ (vp_in (v4 + (2 : Int32)) (gN S246 v0) ∧ (gK S246 v2 = 8 ∧ (wp_X6_next (fun r253 S254 => gK S254 v2 = 8 ∧ (wp_X6_thrown (fun r256 S257 => (r256 = r245 → (r245 ≠ (0 : Int32) → wb_L_law_1161 xs L post (wb_L_law_23 xs L post n) (mc - k247) (ms - n248) v0 v1 v2 v3 v4 S257) ∧ (r245 = (0 : Int32) → gK S257 v3 = 13 ∧ (vp_in (0 : Int32) (gN S257 v3) ∧ (((lg_cmp (gL S257 v3 (Int32.toNatClampNeg (0 : Int32))) (Int32.toInt64 r253)) = (0 : Int32) → wb_L_law_1161 xs L post (wb_L_law_23 xs L post n) (mc - k247) (ms - n248) v0 v1 v2 v3 v4 S257) ∧ (¬ ((lg_cmp (gL S257 v3 (Int32.toNatClampNeg (0 : Int32))) (Int32.toInt64 r253)) = (0 : Int32)) → post (0 : Int32) S257))))) ∧ (¬ (r256 = r245) → post (0 : Int32) S257)) v2 S254)) v2 (gV S246 9 v0 (Int32.toNatClampNeg (v4 + (1 : Int32)))) (gV S246 9 v0 (Int32.toNatClampNeg (v4 + (2 : Int32)))) S246))))) k247 n248 v1 (gV S 9 v0 (Int32.toNatClampNeg (v4 + (1 : Int32)))) (gV S 9 v0 (Int32.toNatClampNeg (v4 + (2 : Int32)))) v3 S)))) ∧ (((gV S 9 v0 (Int32.toNatClampNeg v4)) &&& (31 : Int32)) = (14 : Int32) → vp_in (v4 + (1 : Int32)) (gN S v0) ∧ (∃ k263 n264, k263 ≤ mc ∧ n264 ≤ ms ∧ (wp_L_parts (fun r261 S262 => gK S262 v0 = 9 ∧ (vp_in (v4 + (1 : Int32)) (gN S262 v0) ∧ (gK S262 v2 = 8 ∧ (wp_X6_parts (fun r268 S269 => gK S269 v2 = 8 ∧ (wp_X6_thrown (fun r271 S272 => (r271 = r261 → (r261 ≠ (0 : Int32) → wb_L_law_1217 xs L post (wb_L_law_23 xs L post n) (mc - k263) (ms - n264) v0 v1 v2 v3 v4 S272) ∧ (r261 = (0 : Int32) → gK S272 v3 = 13 ∧ (vp_in (0 : Int32) (gN S272 v3) ∧ (((lg_cmp (gL S272 v3 (Int32.toNatClampNeg (0 : Int32))) (Int32.toInt64 r268)) = (0 : Int32) → wb_L_law_1217 xs L post (wb_L_law_23 xs L post n) (mc - k263) (ms - n264) v0 v1 v2 v3 v4 S272) ∧ (¬ ((lg_cmp (gL S272 v3 (Int32.toNatClampNeg (0 : Int32))) (Int32.toInt64 r268)) = (0 : Int32)) → post (0 : Int32) S272))))) ∧ (¬ (r271 = r261) → post (0 : Int32) S272)) v2 S269)) v2 (gV S262 9 v0 (Int32.toNatClampNeg (v4 + (1 : Int32)))) S262)))) k263 n264 v1 (gV S 9 v0 (Int32.toNatClampNeg (v4 + (1 : Int32)))) v3 S))) ∧ (((gV S 9 v0 (Int32.toNatClampNeg v4)) &&& (31 : Int32)) = (15 : Int32) → gK S v1 = 7 ∧ (wp_X5_mean (fun r276 S277 => gK S277 v2 = 8 ∧ (wp_X6_mean (fun r280 S281 => ((Op.cmpValue (FP.dcmp r276 r280) CmpOp.l) = (0 : Int32) → wb_L_law_1258 xs L post (wb_L_law_23 xs L post n) mc ms v0 v1 v2 v3 v4 S281) ∧ (¬ ((Op.cmpValue (FP.dcmp r276 r280) CmpOp.l) = (0 : Int32)) → ((Op.cmpValue (FP.dcmp r276 r276) CmpOp.l) = (0 : Int32) → wb_L_law_1256 xs L post mc ms S281) ∧ (¬ ((Op.cmpValue (FP.dcmp r276 r276) CmpOp.l) = (0 : Int32)) → ((Op.cmpValue (FP.dcmp r280 r280) CmpOp.l) ≠ (0 : Int32) → wb_L_law_1258 xs L post (wb_L_law_23 xs L post n) mc ms v0 v1 v2 v3 v4 S281) ∧ ((Op.cmpValue (FP.dcmp r280 r280) CmpOp.l) = (0 : Int32) → wb_L_law_1256 xs L post mc ms S281)))) v2 S277)) v1 S)) ∧ (((gV S 9 v0 (Int32.toNatClampNeg v4)) &&& (31 : Int32)) = (16 : Int32) → gK S v1 = 7 ∧ (∃ k286 n287, k286 ≤ mc ∧ n287 ≤ ms ∧ (wp_X5_digest (fun r284 S285 => gK S285 v2 = 8 ∧ (wp_X6_digest (fun r289 S290 => ((lg_cmp r284 r289) = (0 : Int32) → wb_L_law_1275 xs L post (wb_L_law_23 xs L post n) (mc - k286) (ms - n287) v0 v1 v2 v3 v4 S290) ∧ (¬ ((lg_cmp r284 r289) = (0 : Int32)) → post (0 : Int32) S290)) v2 S285)) (fun _ _ => False) k286 n287 v1 S))) ∧ (¬ ((gV S 9 v0 (Int32.toNatClampNeg v4)) &&& (31 : Int32)) = (0 : Int32) → ¬ ((gV S 9 v0 (Int32.toNatClampNeg v4)) &&& (31 : Int32)) = (1 : Int32) → ¬ ((gV S 9 v0 (Int32.toNatClampNeg v4)) &&& (31 : Int32)) = (2 : Int32) → ¬ ((gV S 9 v0 (Int32.toNatClampNeg v4)) &&& (31 : Int32)) = (3 : Int32) → ¬ ((gV S 9 v0 (Int32.toNatClampNeg v4)) &&& (31 : Int32)) = (4 : Int32) → ¬ ((gV S 9 v0 (Int32.toNatClampNeg v4)) &&& (31 : Int32)) = (5 : Int32) → ¬ ((gV S 9 v0 (Int32.toNatClampNeg v4)) &&& (31 : Int32)) = (6 : Int32) → ¬ ((gV S 9 v0 (Int32.toNatClampNeg v4)) &&& (31 : Int32)) = (7 : Int32) → ¬ ((gV S 9 v0 (Int32.toNatClampNeg v4)) &&& (31 : Int32)) = (8 : Int32) → ¬ ((gV S 9 v0 (Int32.toNatClampNeg v4)) &&& (31 : Int32)) = (9 : Int32) → ¬ ((gV S 9 v0 (Int32.toNatClampNeg v4)) &&& (31 : Int32)) = (10 : Int32) → ¬ ((gV S 9 v0 (Int32.toNatClampNeg v4)) &&& (31 : Int32)) = (11 : Int32) → ¬ ((gV S 9 v0 (Int32.toNatClampNeg v4)) &&& (31 : Int32)) = (12 : Int32) → ¬ ((gV S 9 v0 (Int32.toNatClampNeg v4)) &&& (31 : Int32)) = (13 : Int32) → ¬ ((gV S 9 v0 (Int32.toNatClampNeg v4)) &&& (31 : Int32)) = (14 : Int32) → ¬ ((gV S 9 v0 (Int32.toNatClampNeg v4)) &&& (31 : Int32)) = (15 : Int32) → ¬ ((gV S 9 v0 (Int32.toNatClampNeg v4)) &&& (31 : Int32)) = (16 : Int32) → wb_L_law_1275 xs L post (wb_L_law_23 xs L post n) mc ms v0 v1 v2 v3 v4 S))))
def wp_L_law (xs : Nat → Int32) (L : Nat) (post : Int32 → bS → Prop) (MC MS : Nat) (p1 : Nat) (S : bS) : Prop := 1 ≤ MC ∧ 6 ≤ MS ∧ (∀ q1, gK S q1 = 0 → (∃ k6 n7, k6 ≤ (MC - 1) ∧ n7 ≤ (MS - 6) ∧ (wp_X5_init (fun S5 => 1 ≤ ((MC - 1) - k6) ∧ 17 ≤ ((MS - 6) - n7) ∧ (∀ q8, gK S5 q8 = 0 → (∃ k13 n14, k13 ≤ (((MC - 1) - k6) - 1) ∧ n14 ≤ (((MS - 6) - n7) - 17) ∧ (wp_X6_init (fun S12 => ¬ (1 : Int32) < 0 ∧ (Int32.toNatClampNeg (1 : Int32)) * 8 ≤ 536870912 ∧ 1 ≤ ((((MC - 1) - k6) - 1) - k13) ∧ (Int32.toNatClampNeg (1 : Int32)) ≤ ((((MS - 6) - n7) - 17) - n14) ∧ (∀ q15, gK S12 q15 = 0 → (∃ n23, wb_L_law_23 xs L post n23 (((((MC - 1) - k6) - 1) - k13) - 1) (((((MS - 6) - n7) - 17) - n14) - (Int32.toNatClampNeg (1 : Int32))) p1 q1 q8 q15 (0 : Int32) (sNew S12 q15 13 (Int32.toNatClampNeg (1 : Int32)))))) k13 n14 q8 (sNew S5 q8 8 0))))) k6 n7 q1 (sNew S q1 7 0))))
set_option maxHeartbeats 40000000 in
set_option maxRecDepth 100000 in
theorem m_L_law {p : Program} {e : Env} {s : State} {m : MethodId} {below : List Frame} {meth : Method} {c : Code} {l : Launch} {D : va_G} {y : Nat → ClassId} {z : Nat} {A : Nat → Prop} {S : bS} {post : Int32 → bS → Prop} {p1 L : Nat} {xs : Nat → Int32} (hl0 : l.stackTraces = false) (hx : p.tables.exec = Jvm.exec) (hb : c.code = code) (hr : meth.sig.returnType = ret) (hml : c.maxLocals = 9) (hlocks : meth.locks = false) (hB0 : ∀ d : Drawn, bP D y z S A (s.setDrawn d)) (hAe : ∀ q : Nat, A q → s.heap.size ≤ q) (hbA : ¬ A p1) (hbl : p1 < s.heap.size) (hX0 : ∀ d : Drawn, va_X p1 L xs (s.setDrawn d) s.heap) (hts0 : ∀ w ∈ wsL_law ++ bXl, w.before #[Value.ref p1] s = true) (hown0 : s.vm.findClass RL = some m.cls) (hpost : ∀ v S, post v S → v = 1) (h : wp_L_law xs L post 601024 7293034 p1 S) : W p l e room_1 s m #[Value.ref p1] below meth c s.heap [] 0 0 (lw_Z below #[Value.ref p1] s) (entryFrame m ([Value.ref p1] : List Value).toArray 9) := by
  have hd0 := Drawn.sameBut.refl s.drawn lw_cs
  refine W.base ?_
  have hB1 := hB0 s.drawn
  have hw : wd D y z S A s.heap := hB1.1
  have hAn : ∀ q : Nat, s.heap.size ≤ q → A q := hB1.2.2.2.1
  have hAz : ¬ A z := hB1.2.2.2.2.1
  have hS : va_S A s.heap s.heap [] := va_S.rf
  have hiX5 : ∀ w ∈ u_ws RX5 TX5 6, w ∈ wsL_law := inlX5
  have hiX6 : ∀ w ∈ u_ws RX6 TX6 17, w ∈ wsL_law := inlX6
  have hl := lv_entry ([Value.ref p1]) (n := 9) (Nat.le_of_ble_eq_true rfl)
  rw [lg_entry_eq]
  generalize (lg_sl ([Value.ref p1]) ++ List.replicate (9 - (lg_sl ([Value.ref p1])).length) Slot.unset).toArray = ls at hl ⊢
  have hl : lv_has ls 9 [(0, .ref p1)] := hl
  obtain ⟨Q, hQ⟩ : ∃ Q, Q = lw_Z below #[Value.ref p1] s := ⟨_, rfl⟩
  rw [← hQ]
  have hRf : 14 ≤ room_1.frames := Nat.le_of_ble_eq_true rfl
  have hRl : 497 ≤ room_1.locals := Nat.le_of_ble_eq_true rfl
  obtain ⟨MC, hMC⟩ : ∃ z : Nat, z = 601024 := ⟨_, rfl⟩
  obtain ⟨MS, hMS⟩ : ∃ z : Nat, z = 7293034 := ⟨_, rfl⟩
  rw [← hMC, ← hMS] at h
  have hRc : room_1.cells = MC := hMC.symm
  have hRs : room_1.slots = MS := hMS.symm
  have hret : ∀ (v : Int32) (S : bS) (H : Heap) (locs : List Loc) (pc : Nat) (ls : Array Slot) (cu su : Nat) (d0 : Drawn), post v S → wd D y z S A H → va_S A s.heap H locs → cu ≤ MC → su ≤ MS → s.drawn.sameBut d0 lw_cs → decode code pc = .ok (.ireturn, 1) → W p l e room_1 (s.setDrawn d0) m #[Value.ref p1] below meth c H locs cu su Q (F0 m pc ls [.int v]) := by
    intro v S H locs pc ls cu su d0 h hw hS hcu hsu hd0 dd
    rw [hQ, hpost v S h]
    refine va_forget (fun q hq => hAe _ (hS.2.2 q hq)) ?_
    refine W.widen (k := 601024) (n := 7293034) (by omega) (by omega) ?_
    exact lw_ret hd0 hx hb hr hlocks dd
  have hB1256 : ∀ (S : bS) (H : Heap) (locs : List Loc) (ls : Array Slot) (mc ms cu su : Nat) (d0 : Drawn) , wb_L_law_1256 xs L post mc ms S → wd D y z S A H → va_S A s.heap H locs → lv_has ls 9 [] → cu + mc ≤ MC → su + ms ≤ MS → s.drawn.sameBut d0 lw_cs → W p l e room_1 (s.setDrawn d0) m #[Value.ref p1] below meth c H locs cu su Q (F0 m 1256 ls []) := by
    intro S H locs ls mc ms cu su d0  h hw hS hl hcu hsu hd0
    unfold wb_L_law_1256 at h
    have hB := hB0 d0
    have htx := dr_words hts0 d0
    have hts : ∀ w ∈ wsL_law, w.before _ (s.setDrawn d0) = true := fun w h => htx w (List.mem_append_left _ h)
    have hown : (s.setDrawn d0).vm.findClass RL = some m.cls := hown0
    have hK : va_K D bCl (bT y) (s.setDrawn d0) := hB.2.1
    have hNw := hB.2.2.1
    have hO := hB.2.2.2.2.2.1
    have hX := hX0 d0
    refine lv_iconst (v := (0 : Int32)) hx hb dL_law_1256 (by decide) ?_
    exact hret _ _ _ _ _ _ _ _ _ h hw hS (by omega) (by omega) hd0 dL_law_1257
  have hB23 : ∀ (n23 : Nat) (S : bS) (H : Heap) (locs : List Loc) (ls : Array Slot) (mc ms cu su : Nat) (d0 : Drawn) (v0 : Nat) (v1 : Nat) (v2 : Nat) (v3 : Nat) (v4 : Int32), wb_L_law_23 xs L post n23 mc ms v0 v1 v2 v3 v4 S → wd D y z S A H → va_S A s.heap H locs → lv_has ls 9 [(0, .ref v0), (1, .ref v1), (2, .ref v2), (3, .ref v3), (4, .int v4)] → cu + mc ≤ MC → su + ms ≤ MS → s.drawn.sameBut d0 lw_cs → W p l e room_1 (s.setDrawn d0) m #[Value.ref p1] below meth c H locs cu su Q (F0 m 23 ls []) := by
    intro n23
    induction n23 with
    | zero =>
      intro S H locs ls mc ms cu su d0 v0 v1 v2 v3 v4 h hw hS hl hcu hsu hd0
      exact absurd h (by unfold wb_L_law_23; exact id)
    | succ n23 ih23 =>
      have hB1275 : ∀ (S : bS) (H : Heap) (locs : List Loc) (ls : Array Slot) (mc ms cu su : Nat) (d0 : Drawn) (v0 : Nat) (v1 : Nat) (v2 : Nat) (v3 : Nat) (v4 : Int32), wb_L_law_1275 xs L post (wb_L_law_23 xs L post n23) mc ms v0 v1 v2 v3 v4 S → wd D y z S A H → va_S A s.heap H locs → lv_has ls 9 [(0, .ref v0), (1, .ref v1), (2, .ref v2), (3, .ref v3), (4, .int v4)] → cu + mc ≤ MC → su + ms ≤ MS → s.drawn.sameBut d0 lw_cs → W p l e room_1 (s.setDrawn d0) m #[Value.ref p1] below meth c H locs cu su Q (F0 m 1275 ls []) := by
        intro S H locs ls mc ms cu su d0 v0 v1 v2 v3 v4 h hw hS hl hcu hsu hd0
        unfold wb_L_law_1275 at h
        have hB := hB0 d0
        have htx := dr_words hts0 d0
        have hts : ∀ w ∈ wsL_law, w.before _ (s.setDrawn d0) = true := fun w h => htx w (List.mem_append_left _ h)
        have hown : (s.setDrawn d0).vm.findClass RL = some m.cls := hown0
        have hK : va_K D bCl (bT y) (s.setDrawn d0) := hB.2.1
        have hNw := hB.2.2.1
        have hO := hB.2.2.2.2.2.1
        have hX := hX0 d0
        refine lv_iinc (v := (v4 + (6 : Int32))) hx hb dL_law_1275 hl (k := 4) rfl rfl (by decide) rfl (fun ls hl => ?_)
        have hl : lv_has ls 9 [(4, .int (v4 + (6 : Int32))), (0, .ref v0), (1, .ref v1), (2, .ref v2), (3, .ref v3)] := hl
        refine lv_goto (tgt := 23) hx hb dL_law_1278 (by decide) ?_
        exact ih23 _ _ _ _ _ _ _ _ _ _ _ _ _ _ h hw hS (lv_sub hl [1, 2, 3, 4, 0] rfl) hcu hsu hd0
      have hB189 : ∀ (S : bS) (H : Heap) (locs : List Loc) (ls : Array Slot) (mc ms cu su : Nat) (d0 : Drawn) (v0 : Nat) (v1 : Nat) (v2 : Nat) (v3 : Nat) (v4 : Int32), wb_L_law_189 xs L post (wb_L_law_23 xs L post n23) mc ms v0 v1 v2 v3 v4 S → wd D y z S A H → va_S A s.heap H locs → lv_has ls 9 [(0, .ref v0), (1, .ref v1), (2, .ref v2), (3, .ref v3), (4, .int v4)] → cu + mc ≤ MC → su + ms ≤ MS → s.drawn.sameBut d0 lw_cs → W p l e room_1 (s.setDrawn d0) m #[Value.ref p1] below meth c H locs cu su Q (F0 m 189 ls []) := by
        intro S H locs ls mc ms cu su d0 v0 v1 v2 v3 v4 h hw hS hl hcu hsu hd0
        unfold wb_L_law_189 at h
        have hB := hB0 d0
        have htx := dr_words hts0 d0
        have hts : ∀ w ∈ wsL_law, w.before _ (s.setDrawn d0) = true := fun w h => htx w (List.mem_append_left _ h)
        have hown : (s.setDrawn d0).vm.findClass RL = some m.cls := hown0
        have hK : va_K D bCl (bT y) (s.setDrawn d0) := hB.2.1
        have hNw := hB.2.2.1
        have hO := hB.2.2.2.2.2.1
        have hX := hX0 d0
        refine lv_goto (tgt := 1275) hx hb dL_law_189 (by decide) ?_
        exact hB1275 _ _ _ _ _ _ _ _ _ _ _ _ _ _ h hw hS (lv_sub hl [0, 1, 2, 3, 4] rfl) hcu hsu hd0
      have hB293 : ∀ (S : bS) (H : Heap) (locs : List Loc) (ls : Array Slot) (mc ms cu su : Nat) (d0 : Drawn) (v0 : Nat) (v1 : Nat) (v2 : Nat) (v3 : Nat) (v4 : Int32), wb_L_law_293 xs L post (wb_L_law_23 xs L post n23) mc ms v0 v1 v2 v3 v4 S → wd D y z S A H → va_S A s.heap H locs → lv_has ls 9 [(0, .ref v0), (1, .ref v1), (2, .ref v2), (3, .ref v3), (4, .int v4)] → cu + mc ≤ MC → su + ms ≤ MS → s.drawn.sameBut d0 lw_cs → W p l e room_1 (s.setDrawn d0) m #[Value.ref p1] below meth c H locs cu su Q (F0 m 293 ls []) := by
        intro S H locs ls mc ms cu su d0 v0 v1 v2 v3 v4 h hw hS hl hcu hsu hd0
        unfold wb_L_law_293 at h
        have hB := hB0 d0
        have htx := dr_words hts0 d0
        have hts : ∀ w ∈ wsL_law, w.before _ (s.setDrawn d0) = true := fun w h => htx w (List.mem_append_left _ h)
        have hown : (s.setDrawn d0).vm.findClass RL = some m.cls := hown0
        have hK : va_K D bCl (bT y) (s.setDrawn d0) := hB.2.1
        have hNw := hB.2.2.1
        have hO := hB.2.2.2.2.2.1
        have hX := hX0 d0
        refine lv_goto (tgt := 1275) hx hb dL_law_293 (by decide) ?_
        exact hB1275 _ _ _ _ _ _ _ _ _ _ _ _ _ _ h hw hS (lv_sub hl [0, 1, 2, 3, 4] rfl) hcu hsu hd0
      have hB361 : ∀ (S : bS) (H : Heap) (locs : List Loc) (ls : Array Slot) (mc ms cu su : Nat) (d0 : Drawn) (v0 : Nat) (v1 : Nat) (v2 : Nat) (v3 : Nat) (v4 : Int32), wb_L_law_361 xs L post (wb_L_law_23 xs L post n23) mc ms v0 v1 v2 v3 v4 S → wd D y z S A H → va_S A s.heap H locs → lv_has ls 9 [(0, .ref v0), (1, .ref v1), (2, .ref v2), (3, .ref v3), (4, .int v4)] → cu + mc ≤ MC → su + ms ≤ MS → s.drawn.sameBut d0 lw_cs → W p l e room_1 (s.setDrawn d0) m #[Value.ref p1] below meth c H locs cu su Q (F0 m 361 ls []) := by
        intro S H locs ls mc ms cu su d0 v0 v1 v2 v3 v4 h hw hS hl hcu hsu hd0
        unfold wb_L_law_361 at h
        have hB := hB0 d0
        have htx := dr_words hts0 d0
        have hts : ∀ w ∈ wsL_law, w.before _ (s.setDrawn d0) = true := fun w h => htx w (List.mem_append_left _ h)
        have hown : (s.setDrawn d0).vm.findClass RL = some m.cls := hown0
        have hK : va_K D bCl (bT y) (s.setDrawn d0) := hB.2.1
        have hNw := hB.2.2.1
        have hO := hB.2.2.2.2.2.1
        have hX := hX0 d0
        refine lv_goto (tgt := 1275) hx hb dL_law_361 (by decide) ?_
        exact hB1275 _ _ _ _ _ _ _ _ _ _ _ _ _ _ h hw hS (lv_sub hl [0, 1, 2, 3, 4] rfl) hcu hsu hd0
      have hB457 : ∀ (S : bS) (H : Heap) (locs : List Loc) (ls : Array Slot) (mc ms cu su : Nat) (d0 : Drawn) (v0 : Nat) (v1 : Nat) (v2 : Nat) (v3 : Nat) (v4 : Int32), wb_L_law_457 xs L post (wb_L_law_23 xs L post n23) mc ms v0 v1 v2 v3 v4 S → wd D y z S A H → va_S A s.heap H locs → lv_has ls 9 [(0, .ref v0), (1, .ref v1), (2, .ref v2), (3, .ref v3), (4, .int v4)] → cu + mc ≤ MC → su + ms ≤ MS → s.drawn.sameBut d0 lw_cs → W p l e room_1 (s.setDrawn d0) m #[Value.ref p1] below meth c H locs cu su Q (F0 m 457 ls []) := by
        intro S H locs ls mc ms cu su d0 v0 v1 v2 v3 v4 h hw hS hl hcu hsu hd0
        unfold wb_L_law_457 at h
        have hB := hB0 d0
        have htx := dr_words hts0 d0
        have hts : ∀ w ∈ wsL_law, w.before _ (s.setDrawn d0) = true := fun w h => htx w (List.mem_append_left _ h)
        have hown : (s.setDrawn d0).vm.findClass RL = some m.cls := hown0
        have hK : va_K D bCl (bT y) (s.setDrawn d0) := hB.2.1
        have hNw := hB.2.2.1
        have hO := hB.2.2.2.2.2.1
        have hX := hX0 d0
        refine lv_goto (tgt := 1275) hx hb dL_law_457 (by decide) ?_
        exact hB1275 _ _ _ _ _ _ _ _ _ _ _ _ _ _ h hw hS (lv_sub hl [0, 1, 2, 3, 4] rfl) hcu hsu hd0
      have hB424 : ∀ (S : bS) (H : Heap) (locs : List Loc) (ls : Array Slot) (mc ms cu su : Nat) (d0 : Drawn) (v0 : Nat) (v1 : Nat) (v2 : Nat) (v3 : Nat) (v4 : Int32) (v5 : Int32) (s0 : Int32) (s1 : Int32) (s2 : Int32) (s3 : Nat), wb_L_law_424 xs L post (wb_L_law_23 xs L post n23) mc ms v0 v1 v2 v3 v4 v5 s0 s1 s2 s3 S → wd D y z S A H → va_S A s.heap H locs → lv_has ls 9 [(0, .ref v0), (1, .ref v1), (2, .ref v2), (3, .ref v3), (4, .int v4), (5, .int v5)] → cu + mc ≤ MC → su + ms ≤ MS → s.drawn.sameBut d0 lw_cs → W p l e room_1 (s.setDrawn d0) m #[Value.ref p1] below meth c H locs cu su Q (F0 m 424 ls [.int s0, .int s1, .int s2, .ref s3]) := by
        intro S H locs ls mc ms cu su d0 v0 v1 v2 v3 v4 v5 s0 s1 s2 s3 h hw hS hl hcu hsu hd0
        unfold wb_L_law_424 at h
        have hB := hB0 d0
        have htx := dr_words hts0 d0
        have hts : ∀ w ∈ wsL_law, w.before _ (s.setDrawn d0) = true := fun w h => htx w (List.mem_append_left _ h)
        have hown : (s.setDrawn d0).vm.findClass RL = some m.cls := hown0
        have hK : va_K D bCl (bT y) (s.setDrawn d0) := hB.2.1
        have hNw := hB.2.2.1
        have hO := hB.2.2.2.2.2.1
        have hX := hX0 d0
        obtain ⟨hk299, h⟩ := h
        have h1 := h
        refine va_calli (va_runV (As := [.int s2, .int s1, .int s0]) (rest := []) ⟨hx, hb, hml, hown, hts⟩ (m_X6_setTube (l := l) h1) (cwV 3 hts gL_law_X6_setTube rfl rfl rfl (by decide +kernel) ⟨Nat.le_trans (Nat.le_of_ble_eq_true rfl) hRf, Nat.le_trans (Nat.le_of_ble_eq_true rfl) hRl⟩) (r_pV hB hw hS (ce_8 (S := S) hk299) rfl) rfl rfl hl.1 rfl (lv_room (Nat.le_of_ble_eq_true rfl)) dL_law_424 ⟨by omega, by omega⟩) hS (fun _ _ h => h) (fun _ h => h) (fun r300 S301 t H1 locs ht _ h hw1 _ _ hS => ?_)
        subst ht
        have hw : wd D y z S301 A t.heap := hw1
        clear hw1 h1
        refine lv_istore hx hb dL_law_427 hl (by decide) rfl (fun ls hl => ?_)
        have hl : lv_has ls 9 [(6, .int r300), (0, .ref v0), (1, .ref v1), (2, .ref v2), (3, .ref v3), (4, .int v4), (5, .int v5)] := hl
        refine lv_aload_n hx hb dL_law_429 rfl (lv_at hl 3 rfl) ?_
        obtain ⟨hk302, h⟩ := h
        have h1 := h
        refine va_calli (va_runV (As := []) (rest := []) ⟨hx, hb, hml, hown, hts⟩ (m_X6_thrown (l := l) h1) (cwV 0 hts gL_law_X6_thrown rfl rfl rfl (by decide +kernel) ⟨Nat.le_trans (Nat.le_of_ble_eq_true rfl) hRf, Nat.le_trans (Nat.le_of_ble_eq_true rfl) hRl⟩) (r_pV hB hw hS (ce_8 (S := S301) hk302) rfl) rfl rfl hl.1 rfl (lv_room (Nat.le_of_ble_eq_true rfl)) dL_law_430 ⟨by omega, by omega⟩) hS (fun _ _ h => h) (fun _ h => h) (fun r303 S304 t H1 locs ht _ h hw1 _ _ hS => ?_)
        subst ht
        have hw : wd D y z S304 A t.heap := hw1
        clear hw1 h1
        refine lv_iload hx hb dL_law_433 (lv_at hl 6 rfl) ?_
        refine lv_icmp_eq (tgt := 440) hx hb dL_law_435 (by decide) (fun hc => ?_) (fun hc => ?_)
        · have h := h.1 hc
          refine lv_iload hx hb dL_law_440 (lv_at hl 6 rfl) ?_
          refine lv_if_ne (tgt := 457) hx hb dL_law_442 (by decide) (fun hc => ?_) (fun hc => ?_)
          · have h := h.1 hc
            exact hB457 _ _ _ _ _ _ _ _ _ _ _ _ _ _ h hw hS (lv_sub hl [1, 2, 3, 4, 5] rfl) hcu hsu hd0
          · have h := h.2 hc
            refine lv_aload_n hx hb dL_law_445 rfl (lv_at hl 4 rfl) ?_
            refine lv_iconst (v := (0 : Int32)) hx hb dL_law_446 (by decide) ?_
            obtain ⟨hk305, h⟩ := h
            obtain ⟨hin306, h⟩ := h
            refine r_lald hx hb hK hw hk305 hin306 dL_law_447 ?_
            refine lv_iload hx hb dL_law_448 (lv_at hl 0 rfl) ?_
            refine lv_i2l (v := (Int32.toInt64 r300)) hx hb dL_law_450 rfl ?_
            refine W.lcmp hx hb dL_law_451 ?_
            refine lv_if_eq (tgt := 457) hx hb dL_law_452 (by decide) (fun hc => ?_) (fun hc => ?_)
            · have h := h.1 hc
              exact hB457 _ _ _ _ _ _ _ _ _ _ _ _ _ _ h hw hS (lv_sub hl [1, 2, 3, 4, 5] rfl) hcu hsu hd0
            · have h := h.2 hc
              refine lv_iconst (v := (0 : Int32)) hx hb dL_law_455 (by decide) ?_
              exact hret _ _ _ _ _ _ _ _ _ h hw hS (by omega) (by omega) hd0 dL_law_456
        · have h := h.2 hc
          refine lv_iconst (v := (0 : Int32)) hx hb dL_law_438 (by decide) ?_
          exact hret _ _ _ _ _ _ _ _ _ h hw hS (by omega) (by omega) hd0 dL_law_439
      have hB391 : ∀ (S : bS) (H : Heap) (locs : List Loc) (ls : Array Slot) (mc ms cu su : Nat) (d0 : Drawn) (v0 : Nat) (v1 : Nat) (v2 : Nat) (v3 : Nat) (v4 : Int32) (s0 : Int32) (s1 : Int32) (s2 : Int32) (s3 : Nat), wb_L_law_391 xs L post (wb_L_law_23 xs L post n23) mc ms v0 v1 v2 v3 v4 s0 s1 s2 s3 S → wd D y z S A H → va_S A s.heap H locs → lv_has ls 9 [(0, .ref v0), (1, .ref v1), (2, .ref v2), (3, .ref v3), (4, .int v4)] → cu + mc ≤ MC → su + ms ≤ MS → s.drawn.sameBut d0 lw_cs → W p l e room_1 (s.setDrawn d0) m #[Value.ref p1] below meth c H locs cu su Q (F0 m 391 ls [.int s0, .int s1, .int s2, .ref s3]) := by
        intro S H locs ls mc ms cu su d0 v0 v1 v2 v3 v4 s0 s1 s2 s3 h hw hS hl hcu hsu hd0
        unfold wb_L_law_391 at h
        have hB := hB0 d0
        have htx := dr_words hts0 d0
        have hts : ∀ w ∈ wsL_law, w.before _ (s.setDrawn d0) = true := fun w h => htx w (List.mem_append_left _ h)
        have hown : (s.setDrawn d0).vm.findClass RL = some m.cls := hown0
        have hK : va_K D bCl (bT y) (s.setDrawn d0) := hB.2.1
        have hNw := hB.2.2.1
        have hO := hB.2.2.2.2.2.1
        have hX := hX0 d0
        refine lv_aload_n hx hb dL_law_391 rfl (lv_at hl 3 rfl) ?_
        obtain ⟨k293, n294, hbg1, hbg2, h⟩ := h
        have h1 := h
        refine va_calli (vx_runSW (As := [.ref s3, .int s2, .int s1, .int s0, .ref v3]) (rest := []) ⟨hx, hb, hml, hown, hts⟩ (m_L_setTube (l := l) hl0 h1) (vx_cwSW 5 htx (goodQ gL_law_L_setTube (by decide)) rfl rfl rfl ⟨by decide +kernel, by decide +kernel, by decide +kernel⟩ ⟨Nat.le_trans (Nat.le_of_ble_eq_true rfl) hRf, Nat.le_trans (Nat.le_of_ble_eq_true rfl) hRl⟩) (r_pS hB hw hS) rfl rfl hl.1 rfl (lv_room (Nat.le_of_ble_eq_true rfl)) dL_law_392 ⟨by omega, by omega⟩) hS (fun _ _ h => h) (fun _ h => h) (fun r291 S292 t H1 locs ht _ h hw1 _ _ hS => ?_)
        subst ht
        have hw : wd D y z S292 A t.heap := hw1
        clear hw1 h1
        have hcu : (cu + k293) + (mc - k293) ≤ MC := by omega
        have hsu : (su + n294) + (ms - n294) ≤ MS := by omega
        refine lv_istore hx hb dL_law_395 hl (by decide) rfl (fun ls hl => ?_)
        have hl : lv_has ls 9 [(5, .int r291), (0, .ref v0), (1, .ref v1), (2, .ref v2), (3, .ref v3), (4, .int v4)] := hl
        refine lv_aload_n hx hb dL_law_397 rfl (lv_at hl 3 rfl) ?_
        refine lv_aload_n hx hb dL_law_398 rfl (lv_at hl 1 rfl) ?_
        refine lv_iload hx hb dL_law_399 (lv_at hl 5 rfl) ?_
        refine lv_iconst (v := (1 : Int32)) hx hb dL_law_401 (by decide) ?_
        refine lv_iadd hx hb dL_law_402 ?_
        obtain ⟨hk295, h⟩ := h
        obtain ⟨hin296, h⟩ := h
        refine r_iald hx hb hK hw hk295 hin296 dL_law_403 ?_
        refine lv_aload_n hx hb dL_law_404 rfl (lv_at hl 1 rfl) ?_
        refine lv_iload hx hb dL_law_405 (lv_at hl 5 rfl) ?_
        refine lv_iconst (v := (2 : Int32)) hx hb dL_law_407 (by decide) ?_
        refine lv_iadd hx hb dL_law_408 ?_
        obtain ⟨hin297, h⟩ := h
        refine r_iald hx hb hK hw hk295 hin297 dL_law_409 ?_
        refine lv_aload_n hx hb dL_law_410 rfl (lv_at hl 1 rfl) ?_
        refine lv_iload hx hb dL_law_411 (lv_at hl 5 rfl) ?_
        refine lv_iconst (v := (3 : Int32)) hx hb dL_law_413 (by decide) ?_
        refine lv_iadd hx hb dL_law_414 ?_
        obtain ⟨hin298, h⟩ := h
        refine r_iald hx hb hK hw hk295 hin298 dL_law_415 ?_
        refine lv_if_eq (tgt := 423) hx hb dL_law_416 (by decide) (fun hc => ?_) (fun hc => ?_)
        · have h := h.1 hc
          refine lv_iconst (v := (0 : Int32)) hx hb dL_law_423 (by decide) ?_
          exact hB424 _ _ _ _ _ _ _ _ _ _ _ _ _ _ _ _ _ _ _ h hw hS (lv_sub hl [1, 2, 3, 4, 5, 0] rfl) hcu hsu hd0
        · have h := h.2 hc
          refine lv_iconst (v := (1 : Int32)) hx hb dL_law_419 (by decide) ?_
          refine lv_goto (tgt := 424) hx hb dL_law_420 (by decide) ?_
          exact hB424 _ _ _ _ _ _ _ _ _ _ _ _ _ _ _ _ _ _ _ h hw hS (lv_sub hl [1, 2, 3, 4, 5, 0] rfl) hcu hsu hd0
      have hB561 : ∀ (S : bS) (H : Heap) (locs : List Loc) (ls : Array Slot) (mc ms cu su : Nat) (d0 : Drawn) (v0 : Nat) (v1 : Nat) (v2 : Nat) (v3 : Nat) (v4 : Int32), wb_L_law_561 xs L post (wb_L_law_23 xs L post n23) mc ms v0 v1 v2 v3 v4 S → wd D y z S A H → va_S A s.heap H locs → lv_has ls 9 [(0, .ref v0), (1, .ref v1), (2, .ref v2), (3, .ref v3), (4, .int v4)] → cu + mc ≤ MC → su + ms ≤ MS → s.drawn.sameBut d0 lw_cs → W p l e room_1 (s.setDrawn d0) m #[Value.ref p1] below meth c H locs cu su Q (F0 m 561 ls []) := by
        intro S H locs ls mc ms cu su d0 v0 v1 v2 v3 v4 h hw hS hl hcu hsu hd0
        unfold wb_L_law_561 at h
        have hB := hB0 d0
        have htx := dr_words hts0 d0
        have hts : ∀ w ∈ wsL_law, w.before _ (s.setDrawn d0) = true := fun w h => htx w (List.mem_append_left _ h)
        have hown : (s.setDrawn d0).vm.findClass RL = some m.cls := hown0
        have hK : va_K D bCl (bT y) (s.setDrawn d0) := hB.2.1
        have hNw := hB.2.2.1
        have hO := hB.2.2.2.2.2.1
        have hX := hX0 d0
        refine lv_goto (tgt := 1275) hx hb dL_law_561 (by decide) ?_
        exact hB1275 _ _ _ _ _ _ _ _ _ _ _ _ _ _ h hw hS (lv_sub hl [0, 1, 2, 3, 4] rfl) hcu hsu hd0
      have hB641 : ∀ (S : bS) (H : Heap) (locs : List Loc) (ls : Array Slot) (mc ms cu su : Nat) (d0 : Drawn) (v0 : Nat) (v1 : Nat) (v2 : Nat) (v3 : Nat) (v4 : Int32), wb_L_law_641 xs L post (wb_L_law_23 xs L post n23) mc ms v0 v1 v2 v3 v4 S → wd D y z S A H → va_S A s.heap H locs → lv_has ls 9 [(0, .ref v0), (1, .ref v1), (2, .ref v2), (3, .ref v3), (4, .int v4)] → cu + mc ≤ MC → su + ms ≤ MS → s.drawn.sameBut d0 lw_cs → W p l e room_1 (s.setDrawn d0) m #[Value.ref p1] below meth c H locs cu su Q (F0 m 641 ls []) := by
        intro S H locs ls mc ms cu su d0 v0 v1 v2 v3 v4 h hw hS hl hcu hsu hd0
        unfold wb_L_law_641 at h
        have hB := hB0 d0
        have htx := dr_words hts0 d0
        have hts : ∀ w ∈ wsL_law, w.before _ (s.setDrawn d0) = true := fun w h => htx w (List.mem_append_left _ h)
        have hown : (s.setDrawn d0).vm.findClass RL = some m.cls := hown0
        have hK : va_K D bCl (bT y) (s.setDrawn d0) := hB.2.1
        have hNw := hB.2.2.1
        have hO := hB.2.2.2.2.2.1
        have hX := hX0 d0
        refine lv_goto (tgt := 1275) hx hb dL_law_641 (by decide) ?_
        exact hB1275 _ _ _ _ _ _ _ _ _ _ _ _ _ _ h hw hS (lv_sub hl [0, 1, 2, 3, 4] rfl) hcu hsu hd0
      have hB697 : ∀ (S : bS) (H : Heap) (locs : List Loc) (ls : Array Slot) (mc ms cu su : Nat) (d0 : Drawn) (v0 : Nat) (v1 : Nat) (v2 : Nat) (v3 : Nat) (v4 : Int32), wb_L_law_697 xs L post (wb_L_law_23 xs L post n23) mc ms v0 v1 v2 v3 v4 S → wd D y z S A H → va_S A s.heap H locs → lv_has ls 9 [(0, .ref v0), (1, .ref v1), (2, .ref v2), (3, .ref v3), (4, .int v4)] → cu + mc ≤ MC → su + ms ≤ MS → s.drawn.sameBut d0 lw_cs → W p l e room_1 (s.setDrawn d0) m #[Value.ref p1] below meth c H locs cu su Q (F0 m 697 ls []) := by
        intro S H locs ls mc ms cu su d0 v0 v1 v2 v3 v4 h hw hS hl hcu hsu hd0
        unfold wb_L_law_697 at h
        have hB := hB0 d0
        have htx := dr_words hts0 d0
        have hts : ∀ w ∈ wsL_law, w.before _ (s.setDrawn d0) = true := fun w h => htx w (List.mem_append_left _ h)
        have hown : (s.setDrawn d0).vm.findClass RL = some m.cls := hown0
        have hK : va_K D bCl (bT y) (s.setDrawn d0) := hB.2.1
        have hNw := hB.2.2.1
        have hO := hB.2.2.2.2.2.1
        have hX := hX0 d0
        refine lv_goto (tgt := 1275) hx hb dL_law_697 (by decide) ?_
        exact hB1275 _ _ _ _ _ _ _ _ _ _ _ _ _ _ h hw hS (lv_sub hl [0, 1, 2, 3, 4] rfl) hcu hsu hd0
      have hB765 : ∀ (S : bS) (H : Heap) (locs : List Loc) (ls : Array Slot) (mc ms cu su : Nat) (d0 : Drawn) (v0 : Nat) (v1 : Nat) (v2 : Nat) (v3 : Nat) (v4 : Int32), wb_L_law_765 xs L post (wb_L_law_23 xs L post n23) mc ms v0 v1 v2 v3 v4 S → wd D y z S A H → va_S A s.heap H locs → lv_has ls 9 [(0, .ref v0), (1, .ref v1), (2, .ref v2), (3, .ref v3), (4, .int v4)] → cu + mc ≤ MC → su + ms ≤ MS → s.drawn.sameBut d0 lw_cs → W p l e room_1 (s.setDrawn d0) m #[Value.ref p1] below meth c H locs cu su Q (F0 m 765 ls []) := by
        intro S H locs ls mc ms cu su d0 v0 v1 v2 v3 v4 h hw hS hl hcu hsu hd0
        unfold wb_L_law_765 at h
        have hB := hB0 d0
        have htx := dr_words hts0 d0
        have hts : ∀ w ∈ wsL_law, w.before _ (s.setDrawn d0) = true := fun w h => htx w (List.mem_append_left _ h)
        have hown : (s.setDrawn d0).vm.findClass RL = some m.cls := hown0
        have hK : va_K D bCl (bT y) (s.setDrawn d0) := hB.2.1
        have hNw := hB.2.2.1
        have hO := hB.2.2.2.2.2.1
        have hX := hX0 d0
        refine lv_goto (tgt := 1275) hx hb dL_law_765 (by decide) ?_
        exact hB1275 _ _ _ _ _ _ _ _ _ _ _ _ _ _ h hw hS (lv_sub hl [0, 1, 2, 3, 4] rfl) hcu hsu hd0
      have hB821 : ∀ (S : bS) (H : Heap) (locs : List Loc) (ls : Array Slot) (mc ms cu su : Nat) (d0 : Drawn) (v0 : Nat) (v1 : Nat) (v2 : Nat) (v3 : Nat) (v4 : Int32), wb_L_law_821 xs L post (wb_L_law_23 xs L post n23) mc ms v0 v1 v2 v3 v4 S → wd D y z S A H → va_S A s.heap H locs → lv_has ls 9 [(0, .ref v0), (1, .ref v1), (2, .ref v2), (3, .ref v3), (4, .int v4)] → cu + mc ≤ MC → su + ms ≤ MS → s.drawn.sameBut d0 lw_cs → W p l e room_1 (s.setDrawn d0) m #[Value.ref p1] below meth c H locs cu su Q (F0 m 821 ls []) := by
        intro S H locs ls mc ms cu su d0 v0 v1 v2 v3 v4 h hw hS hl hcu hsu hd0
        unfold wb_L_law_821 at h
        have hB := hB0 d0
        have htx := dr_words hts0 d0
        have hts : ∀ w ∈ wsL_law, w.before _ (s.setDrawn d0) = true := fun w h => htx w (List.mem_append_left _ h)
        have hown : (s.setDrawn d0).vm.findClass RL = some m.cls := hown0
        have hK : va_K D bCl (bT y) (s.setDrawn d0) := hB.2.1
        have hNw := hB.2.2.1
        have hO := hB.2.2.2.2.2.1
        have hX := hX0 d0
        refine lv_goto (tgt := 1275) hx hb dL_law_821 (by decide) ?_
        exact hB1275 _ _ _ _ _ _ _ _ _ _ _ _ _ _ h hw hS (lv_sub hl [0, 1, 2, 3, 4] rfl) hcu hsu hd0
      have hB889 : ∀ (S : bS) (H : Heap) (locs : List Loc) (ls : Array Slot) (mc ms cu su : Nat) (d0 : Drawn) (v0 : Nat) (v1 : Nat) (v2 : Nat) (v3 : Nat) (v4 : Int32), wb_L_law_889 xs L post (wb_L_law_23 xs L post n23) mc ms v0 v1 v2 v3 v4 S → wd D y z S A H → va_S A s.heap H locs → lv_has ls 9 [(0, .ref v0), (1, .ref v1), (2, .ref v2), (3, .ref v3), (4, .int v4)] → cu + mc ≤ MC → su + ms ≤ MS → s.drawn.sameBut d0 lw_cs → W p l e room_1 (s.setDrawn d0) m #[Value.ref p1] below meth c H locs cu su Q (F0 m 889 ls []) := by
        intro S H locs ls mc ms cu su d0 v0 v1 v2 v3 v4 h hw hS hl hcu hsu hd0
        unfold wb_L_law_889 at h
        have hB := hB0 d0
        have htx := dr_words hts0 d0
        have hts : ∀ w ∈ wsL_law, w.before _ (s.setDrawn d0) = true := fun w h => htx w (List.mem_append_left _ h)
        have hown : (s.setDrawn d0).vm.findClass RL = some m.cls := hown0
        have hK : va_K D bCl (bT y) (s.setDrawn d0) := hB.2.1
        have hNw := hB.2.2.1
        have hO := hB.2.2.2.2.2.1
        have hX := hX0 d0
        refine lv_goto (tgt := 1275) hx hb dL_law_889 (by decide) ?_
        exact hB1275 _ _ _ _ _ _ _ _ _ _ _ _ _ _ h hw hS (lv_sub hl [0, 1, 2, 3, 4] rfl) hcu hsu hd0
      have hB957 : ∀ (S : bS) (H : Heap) (locs : List Loc) (ls : Array Slot) (mc ms cu su : Nat) (d0 : Drawn) (v0 : Nat) (v1 : Nat) (v2 : Nat) (v3 : Nat) (v4 : Int32), wb_L_law_957 xs L post (wb_L_law_23 xs L post n23) mc ms v0 v1 v2 v3 v4 S → wd D y z S A H → va_S A s.heap H locs → lv_has ls 9 [(0, .ref v0), (1, .ref v1), (2, .ref v2), (3, .ref v3), (4, .int v4)] → cu + mc ≤ MC → su + ms ≤ MS → s.drawn.sameBut d0 lw_cs → W p l e room_1 (s.setDrawn d0) m #[Value.ref p1] below meth c H locs cu su Q (F0 m 957 ls []) := by
        intro S H locs ls mc ms cu su d0 v0 v1 v2 v3 v4 h hw hS hl hcu hsu hd0
        unfold wb_L_law_957 at h
        have hB := hB0 d0
        have htx := dr_words hts0 d0
        have hts : ∀ w ∈ wsL_law, w.before _ (s.setDrawn d0) = true := fun w h => htx w (List.mem_append_left _ h)
        have hown : (s.setDrawn d0).vm.findClass RL = some m.cls := hown0
        have hK : va_K D bCl (bT y) (s.setDrawn d0) := hB.2.1
        have hNw := hB.2.2.1
        have hO := hB.2.2.2.2.2.1
        have hX := hX0 d0
        refine lv_goto (tgt := 1275) hx hb dL_law_957 (by decide) ?_
        exact hB1275 _ _ _ _ _ _ _ _ _ _ _ _ _ _ h hw hS (lv_sub hl [0, 1, 2, 3, 4] rfl) hcu hsu hd0
      have hB1025 : ∀ (S : bS) (H : Heap) (locs : List Loc) (ls : Array Slot) (mc ms cu su : Nat) (d0 : Drawn) (v0 : Nat) (v1 : Nat) (v2 : Nat) (v3 : Nat) (v4 : Int32), wb_L_law_1025 xs L post (wb_L_law_23 xs L post n23) mc ms v0 v1 v2 v3 v4 S → wd D y z S A H → va_S A s.heap H locs → lv_has ls 9 [(0, .ref v0), (1, .ref v1), (2, .ref v2), (3, .ref v3), (4, .int v4)] → cu + mc ≤ MC → su + ms ≤ MS → s.drawn.sameBut d0 lw_cs → W p l e room_1 (s.setDrawn d0) m #[Value.ref p1] below meth c H locs cu su Q (F0 m 1025 ls []) := by
        intro S H locs ls mc ms cu su d0 v0 v1 v2 v3 v4 h hw hS hl hcu hsu hd0
        unfold wb_L_law_1025 at h
        have hB := hB0 d0
        have htx := dr_words hts0 d0
        have hts : ∀ w ∈ wsL_law, w.before _ (s.setDrawn d0) = true := fun w h => htx w (List.mem_append_left _ h)
        have hown : (s.setDrawn d0).vm.findClass RL = some m.cls := hown0
        have hK : va_K D bCl (bT y) (s.setDrawn d0) := hB.2.1
        have hNw := hB.2.2.1
        have hO := hB.2.2.2.2.2.1
        have hX := hX0 d0
        refine lv_goto (tgt := 1275) hx hb dL_law_1025 (by decide) ?_
        exact hB1275 _ _ _ _ _ _ _ _ _ _ _ _ _ _ h hw hS (lv_sub hl [0, 1, 2, 3, 4] rfl) hcu hsu hd0
      have hB1093 : ∀ (S : bS) (H : Heap) (locs : List Loc) (ls : Array Slot) (mc ms cu su : Nat) (d0 : Drawn) (v0 : Nat) (v1 : Nat) (v2 : Nat) (v3 : Nat) (v4 : Int32), wb_L_law_1093 xs L post (wb_L_law_23 xs L post n23) mc ms v0 v1 v2 v3 v4 S → wd D y z S A H → va_S A s.heap H locs → lv_has ls 9 [(0, .ref v0), (1, .ref v1), (2, .ref v2), (3, .ref v3), (4, .int v4)] → cu + mc ≤ MC → su + ms ≤ MS → s.drawn.sameBut d0 lw_cs → W p l e room_1 (s.setDrawn d0) m #[Value.ref p1] below meth c H locs cu su Q (F0 m 1093 ls []) := by
        intro S H locs ls mc ms cu su d0 v0 v1 v2 v3 v4 h hw hS hl hcu hsu hd0
        unfold wb_L_law_1093 at h
        have hB := hB0 d0
        have htx := dr_words hts0 d0
        have hts : ∀ w ∈ wsL_law, w.before _ (s.setDrawn d0) = true := fun w h => htx w (List.mem_append_left _ h)
        have hown : (s.setDrawn d0).vm.findClass RL = some m.cls := hown0
        have hK : va_K D bCl (bT y) (s.setDrawn d0) := hB.2.1
        have hNw := hB.2.2.1
        have hO := hB.2.2.2.2.2.1
        have hX := hX0 d0
        refine lv_goto (tgt := 1275) hx hb dL_law_1093 (by decide) ?_
        exact hB1275 _ _ _ _ _ _ _ _ _ _ _ _ _ _ h hw hS (lv_sub hl [0, 1, 2, 3, 4] rfl) hcu hsu hd0
      have hB1161 : ∀ (S : bS) (H : Heap) (locs : List Loc) (ls : Array Slot) (mc ms cu su : Nat) (d0 : Drawn) (v0 : Nat) (v1 : Nat) (v2 : Nat) (v3 : Nat) (v4 : Int32), wb_L_law_1161 xs L post (wb_L_law_23 xs L post n23) mc ms v0 v1 v2 v3 v4 S → wd D y z S A H → va_S A s.heap H locs → lv_has ls 9 [(0, .ref v0), (1, .ref v1), (2, .ref v2), (3, .ref v3), (4, .int v4)] → cu + mc ≤ MC → su + ms ≤ MS → s.drawn.sameBut d0 lw_cs → W p l e room_1 (s.setDrawn d0) m #[Value.ref p1] below meth c H locs cu su Q (F0 m 1161 ls []) := by
        intro S H locs ls mc ms cu su d0 v0 v1 v2 v3 v4 h hw hS hl hcu hsu hd0
        unfold wb_L_law_1161 at h
        have hB := hB0 d0
        have htx := dr_words hts0 d0
        have hts : ∀ w ∈ wsL_law, w.before _ (s.setDrawn d0) = true := fun w h => htx w (List.mem_append_left _ h)
        have hown : (s.setDrawn d0).vm.findClass RL = some m.cls := hown0
        have hK : va_K D bCl (bT y) (s.setDrawn d0) := hB.2.1
        have hNw := hB.2.2.1
        have hO := hB.2.2.2.2.2.1
        have hX := hX0 d0
        refine lv_goto (tgt := 1275) hx hb dL_law_1161 (by decide) ?_
        exact hB1275 _ _ _ _ _ _ _ _ _ _ _ _ _ _ h hw hS (lv_sub hl [0, 1, 2, 3, 4] rfl) hcu hsu hd0
      have hB1217 : ∀ (S : bS) (H : Heap) (locs : List Loc) (ls : Array Slot) (mc ms cu su : Nat) (d0 : Drawn) (v0 : Nat) (v1 : Nat) (v2 : Nat) (v3 : Nat) (v4 : Int32), wb_L_law_1217 xs L post (wb_L_law_23 xs L post n23) mc ms v0 v1 v2 v3 v4 S → wd D y z S A H → va_S A s.heap H locs → lv_has ls 9 [(0, .ref v0), (1, .ref v1), (2, .ref v2), (3, .ref v3), (4, .int v4)] → cu + mc ≤ MC → su + ms ≤ MS → s.drawn.sameBut d0 lw_cs → W p l e room_1 (s.setDrawn d0) m #[Value.ref p1] below meth c H locs cu su Q (F0 m 1217 ls []) := by
        intro S H locs ls mc ms cu su d0 v0 v1 v2 v3 v4 h hw hS hl hcu hsu hd0
        unfold wb_L_law_1217 at h
        have hB := hB0 d0
        have htx := dr_words hts0 d0
        have hts : ∀ w ∈ wsL_law, w.before _ (s.setDrawn d0) = true := fun w h => htx w (List.mem_append_left _ h)
        have hown : (s.setDrawn d0).vm.findClass RL = some m.cls := hown0
        have hK : va_K D bCl (bT y) (s.setDrawn d0) := hB.2.1
        have hNw := hB.2.2.1
        have hO := hB.2.2.2.2.2.1
        have hX := hX0 d0
        refine lv_goto (tgt := 1275) hx hb dL_law_1217 (by decide) ?_
        exact hB1275 _ _ _ _ _ _ _ _ _ _ _ _ _ _ h hw hS (lv_sub hl [0, 1, 2, 3, 4] rfl) hcu hsu hd0
      have hB1258 : ∀ (S : bS) (H : Heap) (locs : List Loc) (ls : Array Slot) (mc ms cu su : Nat) (d0 : Drawn) (v0 : Nat) (v1 : Nat) (v2 : Nat) (v3 : Nat) (v4 : Int32), wb_L_law_1258 xs L post (wb_L_law_23 xs L post n23) mc ms v0 v1 v2 v3 v4 S → wd D y z S A H → va_S A s.heap H locs → lv_has ls 9 [(0, .ref v0), (1, .ref v1), (2, .ref v2), (3, .ref v3), (4, .int v4)] → cu + mc ≤ MC → su + ms ≤ MS → s.drawn.sameBut d0 lw_cs → W p l e room_1 (s.setDrawn d0) m #[Value.ref p1] below meth c H locs cu su Q (F0 m 1258 ls []) := by
        intro S H locs ls mc ms cu su d0 v0 v1 v2 v3 v4 h hw hS hl hcu hsu hd0
        unfold wb_L_law_1258 at h
        have hB := hB0 d0
        have htx := dr_words hts0 d0
        have hts : ∀ w ∈ wsL_law, w.before _ (s.setDrawn d0) = true := fun w h => htx w (List.mem_append_left _ h)
        have hown : (s.setDrawn d0).vm.findClass RL = some m.cls := hown0
        have hK : va_K D bCl (bT y) (s.setDrawn d0) := hB.2.1
        have hNw := hB.2.2.1
        have hO := hB.2.2.2.2.2.1
        have hX := hX0 d0
        refine lv_goto (tgt := 1275) hx hb dL_law_1258 (by decide) ?_
        exact hB1275 _ _ _ _ _ _ _ _ _ _ _ _ _ _ h hw hS (lv_sub hl [0, 1, 2, 3, 4] rfl) hcu hsu hd0
      intro S H locs ls mc ms cu su d0 v0 v1 v2 v3 v4 h hw hS hl hcu hsu hd0
      unfold wb_L_law_23 at h
      have hB := hB0 d0
      have htx := dr_words hts0 d0
      have hts : ∀ w ∈ wsL_law, w.before _ (s.setDrawn d0) = true := fun w h => htx w (List.mem_append_left _ h)
      have hown : (s.setDrawn d0).vm.findClass RL = some m.cls := hown0
      have hK : va_K D bCl (bT y) (s.setDrawn d0) := hB.2.1
      have hNw := hB.2.2.1
      have hO := hB.2.2.2.2.2.1
      have hX := hX0 d0
      refine lv_iload hx hb dL_law_23 (lv_at hl 4 rfl) ?_
      refine lv_aload_n hx hb dL_law_25 rfl (lv_at hl 0 rfl) ?_
      refine va_slen hx hb hX hbl hbA hS dL_law_26 ?_
      refine lv_bipush (v := (6 : Int32)) hx hb dL_law_27 (by decide) ?_
      refine lv_isub hx hb dL_law_29 ?_
      refine lv_icmp_gt (tgt := 1281) hx hb dL_law_30 (by decide) (fun hc => ?_) (fun hc => ?_)
      · have h := h.1 hc
        refine lv_iconst (v := (1 : Int32)) hx hb dL_law_1281 (by decide) ?_
        exact hret _ _ _ _ _ _ _ _ _ h hw hS (by omega) (by omega) hd0 dL_law_1282
      · have h := h.2 hc
        refine lv_aload_n hx hb dL_law_33 rfl (lv_at hl 0 rfl) ?_
        refine lv_iload hx hb dL_law_34 (lv_at hl 4 rfl) ?_
        obtain ⟨hk18, h⟩ := h
        obtain ⟨hin19, h⟩ := h
        refine r_iald hx hb hK hw hk18 hin19 dL_law_36 ?_
        refine lv_bipush (v := (31 : Int32)) hx hb dL_law_37 (by decide) ?_
        refine lv_iand hx hb dL_law_39 ?_
        by_cases hq0 : ((gV S 9 v0 (Int32.toNatClampNeg v4)) &&& (31 : Int32)) = (0 : Int32)
        · have h := h.1 hq0
          refine lv_tableIn (off := 84) (tgt := 124) hx hb dL_law_40 (by rw [hq0]; decide) (by rw [hq0]; decide) (by rw [hq0]; decide) (by decide) ?_
          refine lv_aload_n hx hb dL_law_124 rfl (lv_at hl 1 rfl) ?_
          refine lv_aload_n hx hb dL_law_125 rfl (lv_at hl 0 rfl) ?_
          refine lv_iload hx hb dL_law_126 (lv_at hl 4 rfl) ?_
          refine lv_iconst (v := (1 : Int32)) hx hb dL_law_128 (by decide) ?_
          refine lv_iadd hx hb dL_law_129 ?_
          obtain ⟨hin20, h⟩ := h
          refine r_iald hx hb hK hw hk18 hin20 dL_law_130 ?_
          refine lv_aload_n hx hb dL_law_131 rfl (lv_at hl 0 rfl) ?_
          refine lv_iload hx hb dL_law_132 (lv_at hl 4 rfl) ?_
          refine lv_iconst (v := (2 : Int32)) hx hb dL_law_134 (by decide) ?_
          refine lv_iadd hx hb dL_law_135 ?_
          obtain ⟨hin21, h⟩ := h
          refine r_iald hx hb hK hw hk18 hin21 dL_law_136 ?_
          refine lv_aload_n hx hb dL_law_137 rfl (lv_at hl 3 rfl) ?_
          obtain ⟨k24, n25, hbg1, hbg2, h⟩ := h
          have h1 := h
          refine va_calli (vx_runSW (As := [.ref v1, .int (gV S 9 v0 (Int32.toNatClampNeg (v4 + (1 : Int32)))), .int (gV S 9 v0 (Int32.toNatClampNeg (v4 + (2 : Int32)))), .ref v3]) (rest := []) ⟨hx, hb, hml, hown, hts⟩ (m_L_addStation (l := l) hl0 h1) (vx_cwSW 4 htx (goodQ gL_law_L_addStation (by decide)) rfl rfl rfl ⟨by decide +kernel, by decide +kernel, by decide +kernel⟩ ⟨Nat.le_trans (Nat.le_of_ble_eq_true rfl) hRf, Nat.le_trans (Nat.le_of_ble_eq_true rfl) hRl⟩) (r_pS hB hw hS) rfl rfl hl.1 rfl (lv_room (Nat.le_of_ble_eq_true rfl)) dL_law_138 ⟨by omega, by omega⟩) hS (fun _ _ h => h) (fun _ h => h) (fun r22 S23 t H1 locs ht _ h hw1 _ _ hS => ?_)
          subst ht
          have hw : wd D y z S23 A t.heap := hw1
          clear hw1 h1
          have hcu : (cu + k24) + (mc - k24) ≤ MC := by omega
          have hsu : (su + n25) + (ms - n25) ≤ MS := by omega
          refine lv_istore hx hb dL_law_141 hl (by decide) rfl (fun ls hl => ?_)
          have hl : lv_has ls 9 [(5, .int r22), (0, .ref v0), (1, .ref v1), (2, .ref v2), (3, .ref v3), (4, .int v4)] := hl
          refine lv_aload_n hx hb dL_law_143 rfl (lv_at hl 3 rfl) ?_
          refine lv_aload_n hx hb dL_law_144 rfl (lv_at hl 1 rfl) ?_
          refine lv_iload hx hb dL_law_145 (lv_at hl 5 rfl) ?_
          refine lv_iconst (v := (1 : Int32)) hx hb dL_law_147 (by decide) ?_
          refine lv_iadd hx hb dL_law_148 ?_
          obtain ⟨hk26, h⟩ := h
          obtain ⟨hin27, h⟩ := h
          refine r_iald hx hb hK hw hk26 hin27 dL_law_149 ?_
          refine lv_aload_n hx hb dL_law_150 rfl (lv_at hl 1 rfl) ?_
          refine lv_iload hx hb dL_law_151 (lv_at hl 5 rfl) ?_
          refine lv_iconst (v := (2 : Int32)) hx hb dL_law_153 (by decide) ?_
          refine lv_iadd hx hb dL_law_154 ?_
          obtain ⟨hin28, h⟩ := h
          refine r_iald hx hb hK hw hk26 hin28 dL_law_155 ?_
          obtain ⟨hk29, h⟩ := h
          obtain ⟨k32, n33, hbg1, hbg2, h⟩ := h
          have h1 := h
          refine va_calli (va_runV (As := [.int (gV S23 9 v0 (Int32.toNatClampNeg (v4 + (1 : Int32)))), .int (gV S23 9 v0 (Int32.toNatClampNeg (v4 + (2 : Int32))))]) (rest := []) ⟨hx, hb, hml, hown, hts⟩ (m_X6_addStation (l := l) h1) (cwV 2 hts gL_law_X6_addStation rfl rfl rfl (by decide +kernel) ⟨Nat.le_trans (Nat.le_of_ble_eq_true rfl) hRf, Nat.le_trans (Nat.le_of_ble_eq_true rfl) hRl⟩) (r_pV hB hw hS (ce_8 (S := S23) hk29) rfl) rfl rfl hl.1 rfl (lv_room (Nat.le_of_ble_eq_true rfl)) dL_law_156 ⟨by omega, by omega⟩) hS (fun _ _ h => h) (fun _ h => h) (fun r30 S31 t H1 locs ht _ h hw1 _ _ hS => ?_)
          subst ht
          have hw : wd D y z S31 A t.heap := hw1
          clear hw1 h1
          have hcu : ((cu + k24) + k32) + ((mc - k24) - k32) ≤ MC := by omega
          have hsu : ((su + n25) + n33) + ((ms - n25) - n33) ≤ MS := by omega
          refine lv_istore hx hb dL_law_159 hl (by decide) rfl (fun ls hl => ?_)
          have hl : lv_has ls 9 [(6, .int r30), (5, .int r22), (0, .ref v0), (1, .ref v1), (2, .ref v2), (3, .ref v3), (4, .int v4)] := hl
          refine lv_aload_n hx hb dL_law_161 rfl (lv_at hl 4 rfl) ?_
          obtain ⟨hk34, h⟩ := h
          have h1 := h
          refine va_calli (va_runV (As := []) (rest := []) ⟨hx, hb, hml, hown, hts⟩ (m_X6_thrown (l := l) h1) (cwV 0 hts gL_law_X6_thrown rfl rfl rfl (by decide +kernel) ⟨Nat.le_trans (Nat.le_of_ble_eq_true rfl) hRf, Nat.le_trans (Nat.le_of_ble_eq_true rfl) hRl⟩) (r_pV hB hw hS (ce_8 (S := S31) hk34) rfl) rfl rfl hl.1 rfl (lv_room (Nat.le_of_ble_eq_true rfl)) dL_law_162 ⟨by omega, by omega⟩) hS (fun _ _ h => h) (fun _ h => h) (fun r35 S36 t H1 locs ht _ h hw1 _ _ hS => ?_)
          subst ht
          have hw : wd D y z S36 A t.heap := hw1
          clear hw1 h1
          refine lv_iload hx hb dL_law_165 (lv_at hl 1 rfl) ?_
          refine lv_icmp_eq (tgt := 172) hx hb dL_law_167 (by decide) (fun hc => ?_) (fun hc => ?_)
          · have h := h.1 hc
            refine lv_iload hx hb dL_law_172 (lv_at hl 1 rfl) ?_
            refine lv_if_ne (tgt := 189) hx hb dL_law_174 (by decide) (fun hc => ?_) (fun hc => ?_)
            · have h := h.1 hc
              exact hB189 _ _ _ _ _ _ _ _ _ _ _ _ _ _ h hw hS (lv_sub hl [2, 3, 4, 5, 6] rfl) hcu hsu hd0
            · have h := h.2 hc
              refine lv_aload_n hx hb dL_law_177 rfl (lv_at hl 5 rfl) ?_
              refine lv_iconst (v := (0 : Int32)) hx hb dL_law_178 (by decide) ?_
              obtain ⟨hk37, h⟩ := h
              obtain ⟨hin38, h⟩ := h
              refine r_lald hx hb hK hw hk37 hin38 dL_law_179 ?_
              refine lv_iload hx hb dL_law_180 (lv_at hl 0 rfl) ?_
              refine lv_i2l (v := (Int32.toInt64 r30)) hx hb dL_law_182 rfl ?_
              refine W.lcmp hx hb dL_law_183 ?_
              refine lv_if_eq (tgt := 189) hx hb dL_law_184 (by decide) (fun hc => ?_) (fun hc => ?_)
              · have h := h.1 hc
                exact hB189 _ _ _ _ _ _ _ _ _ _ _ _ _ _ h hw hS (lv_sub hl [2, 3, 4, 5, 6] rfl) hcu hsu hd0
              · have h := h.2 hc
                refine lv_iconst (v := (0 : Int32)) hx hb dL_law_187 (by decide) ?_
                exact hret _ _ _ _ _ _ _ _ _ h hw hS (by omega) (by omega) hd0 dL_law_188
          · have h := h.2 hc
            refine lv_iconst (v := (0 : Int32)) hx hb dL_law_170 (by decide) ?_
            exact hret _ _ _ _ _ _ _ _ _ h hw hS (by omega) (by omega) hd0 dL_law_171
        by_cases hq1 : ((gV S 9 v0 (Int32.toNatClampNeg v4)) &&& (31 : Int32)) = (1 : Int32)
        · have h := h.2.1 hq1
          refine lv_tableIn (off := 152) (tgt := 192) hx hb dL_law_40 (by rw [hq1]; decide) (by rw [hq1]; decide) (by rw [hq1]; decide) (by decide) ?_
          refine lv_aload_n hx hb dL_law_192 rfl (lv_at hl 1 rfl) ?_
          refine lv_aload_n hx hb dL_law_193 rfl (lv_at hl 0 rfl) ?_
          refine lv_iload hx hb dL_law_194 (lv_at hl 4 rfl) ?_
          refine lv_iconst (v := (1 : Int32)) hx hb dL_law_196 (by decide) ?_
          refine lv_iadd hx hb dL_law_197 ?_
          obtain ⟨hin39, h⟩ := h
          refine r_iald hx hb hK hw hk18 hin39 dL_law_198 ?_
          refine lv_aload_n hx hb dL_law_199 rfl (lv_at hl 0 rfl) ?_
          refine lv_iload hx hb dL_law_200 (lv_at hl 4 rfl) ?_
          refine lv_iconst (v := (2 : Int32)) hx hb dL_law_202 (by decide) ?_
          refine lv_iadd hx hb dL_law_203 ?_
          obtain ⟨hin40, h⟩ := h
          refine r_iald hx hb hK hw hk18 hin40 dL_law_204 ?_
          refine lv_aload_n hx hb dL_law_205 rfl (lv_at hl 0 rfl) ?_
          refine lv_iload hx hb dL_law_206 (lv_at hl 4 rfl) ?_
          refine lv_iconst (v := (3 : Int32)) hx hb dL_law_208 (by decide) ?_
          refine lv_iadd hx hb dL_law_209 ?_
          obtain ⟨hin41, h⟩ := h
          refine r_iald hx hb hK hw hk18 hin41 dL_law_210 ?_
          refine lv_aload_n hx hb dL_law_211 rfl (lv_at hl 0 rfl) ?_
          refine lv_iload hx hb dL_law_212 (lv_at hl 4 rfl) ?_
          refine lv_iconst (v := (4 : Int32)) hx hb dL_law_214 (by decide) ?_
          refine lv_iadd hx hb dL_law_215 ?_
          obtain ⟨hin42, h⟩ := h
          refine r_iald hx hb hK hw hk18 hin42 dL_law_216 ?_
          refine lv_aload_n hx hb dL_law_217 rfl (lv_at hl 0 rfl) ?_
          refine lv_iload hx hb dL_law_218 (lv_at hl 4 rfl) ?_
          refine lv_iconst (v := (5 : Int32)) hx hb dL_law_220 (by decide) ?_
          refine lv_iadd hx hb dL_law_221 ?_
          obtain ⟨hin43, h⟩ := h
          refine r_iald hx hb hK hw hk18 hin43 dL_law_222 ?_
          refine lv_aload_n hx hb dL_law_223 rfl (lv_at hl 3 rfl) ?_
          obtain ⟨k46, n47, hbg1, hbg2, h⟩ := h
          have h1 := h
          refine va_calli (vx_runSW (As := [.ref v1, .int (gV S 9 v0 (Int32.toNatClampNeg (v4 + (1 : Int32)))), .int (gV S 9 v0 (Int32.toNatClampNeg (v4 + (2 : Int32)))), .int (gV S 9 v0 (Int32.toNatClampNeg (v4 + (3 : Int32)))), .int (gV S 9 v0 (Int32.toNatClampNeg (v4 + (4 : Int32)))), .int (gV S 9 v0 (Int32.toNatClampNeg (v4 + (5 : Int32)))), .ref v3]) (rest := []) ⟨hx, hb, hml, hown, hts⟩ (m_L_addTube (l := l) hl0 h1) (vx_cwSW 7 htx (goodQ gL_law_L_addTube (by decide)) rfl rfl rfl ⟨by decide +kernel, by decide +kernel, by decide +kernel⟩ ⟨Nat.le_trans (Nat.le_of_ble_eq_true rfl) hRf, Nat.le_trans (Nat.le_of_ble_eq_true rfl) hRl⟩) (r_pS hB hw hS) rfl rfl hl.1 rfl (lv_room (Nat.le_of_ble_eq_true rfl)) dL_law_224 ⟨by omega, by omega⟩) hS (fun _ _ h => h) (fun _ h => h) (fun r44 S45 t H1 locs ht _ h hw1 _ _ hS => ?_)
          subst ht
          have hw : wd D y z S45 A t.heap := hw1
          clear hw1 h1
          have hcu : (cu + k46) + (mc - k46) ≤ MC := by omega
          have hsu : (su + n47) + (ms - n47) ≤ MS := by omega
          refine lv_istore hx hb dL_law_227 hl (by decide) rfl (fun ls hl => ?_)
          have hl : lv_has ls 9 [(5, .int r44), (0, .ref v0), (1, .ref v1), (2, .ref v2), (3, .ref v3), (4, .int v4)] := hl
          refine lv_aload_n hx hb dL_law_229 rfl (lv_at hl 3 rfl) ?_
          refine lv_aload_n hx hb dL_law_230 rfl (lv_at hl 1 rfl) ?_
          refine lv_iload hx hb dL_law_231 (lv_at hl 5 rfl) ?_
          refine lv_iconst (v := (1 : Int32)) hx hb dL_law_233 (by decide) ?_
          refine lv_iadd hx hb dL_law_234 ?_
          obtain ⟨hk48, h⟩ := h
          obtain ⟨hin49, h⟩ := h
          refine r_iald hx hb hK hw hk48 hin49 dL_law_235 ?_
          refine lv_aload_n hx hb dL_law_236 rfl (lv_at hl 1 rfl) ?_
          refine lv_iload hx hb dL_law_237 (lv_at hl 5 rfl) ?_
          refine lv_iconst (v := (2 : Int32)) hx hb dL_law_239 (by decide) ?_
          refine lv_iadd hx hb dL_law_240 ?_
          obtain ⟨hin50, h⟩ := h
          refine r_iald hx hb hK hw hk48 hin50 dL_law_241 ?_
          refine lv_aload_n hx hb dL_law_242 rfl (lv_at hl 1 rfl) ?_
          refine lv_iload hx hb dL_law_243 (lv_at hl 5 rfl) ?_
          refine lv_iconst (v := (3 : Int32)) hx hb dL_law_245 (by decide) ?_
          refine lv_iadd hx hb dL_law_246 ?_
          obtain ⟨hin51, h⟩ := h
          refine r_iald hx hb hK hw hk48 hin51 dL_law_247 ?_
          refine lv_aload_n hx hb dL_law_248 rfl (lv_at hl 1 rfl) ?_
          refine lv_iload hx hb dL_law_249 (lv_at hl 5 rfl) ?_
          refine lv_iconst (v := (4 : Int32)) hx hb dL_law_251 (by decide) ?_
          refine lv_iadd hx hb dL_law_252 ?_
          obtain ⟨hin52, h⟩ := h
          refine r_iald hx hb hK hw hk48 hin52 dL_law_253 ?_
          refine lv_aload_n hx hb dL_law_254 rfl (lv_at hl 1 rfl) ?_
          refine lv_iload hx hb dL_law_255 (lv_at hl 5 rfl) ?_
          refine lv_iconst (v := (5 : Int32)) hx hb dL_law_257 (by decide) ?_
          refine lv_iadd hx hb dL_law_258 ?_
          obtain ⟨hin53, h⟩ := h
          refine r_iald hx hb hK hw hk48 hin53 dL_law_259 ?_
          obtain ⟨hk54, h⟩ := h
          obtain ⟨k57, n58, hbg1, hbg2, h⟩ := h
          have h1 := h
          refine va_calli (va_runV (As := [.int (gV S45 9 v0 (Int32.toNatClampNeg (v4 + (1 : Int32)))), .int (gV S45 9 v0 (Int32.toNatClampNeg (v4 + (2 : Int32)))), .int (gV S45 9 v0 (Int32.toNatClampNeg (v4 + (3 : Int32)))), .int (gV S45 9 v0 (Int32.toNatClampNeg (v4 + (4 : Int32)))), .int (gV S45 9 v0 (Int32.toNatClampNeg (v4 + (5 : Int32))))]) (rest := []) ⟨hx, hb, hml, hown, hts⟩ (m_X6_addTube (l := l) h1) (cwV 5 hts gL_law_X6_addTube rfl rfl rfl (by decide +kernel) ⟨Nat.le_trans (Nat.le_of_ble_eq_true rfl) hRf, Nat.le_trans (Nat.le_of_ble_eq_true rfl) hRl⟩) (r_pV hB hw hS (ce_8 (S := S45) hk54) rfl) rfl rfl hl.1 rfl (lv_room (Nat.le_of_ble_eq_true rfl)) dL_law_260 ⟨by omega, by omega⟩) hS (fun _ _ h => h) (fun _ h => h) (fun r55 S56 t H1 locs ht _ h hw1 _ _ hS => ?_)
          subst ht
          have hw : wd D y z S56 A t.heap := hw1
          clear hw1 h1
          have hcu : ((cu + k46) + k57) + ((mc - k46) - k57) ≤ MC := by omega
          have hsu : ((su + n47) + n58) + ((ms - n47) - n58) ≤ MS := by omega
          refine lv_istore hx hb dL_law_263 hl (by decide) rfl (fun ls hl => ?_)
          have hl : lv_has ls 9 [(6, .int r55), (5, .int r44), (0, .ref v0), (1, .ref v1), (2, .ref v2), (3, .ref v3), (4, .int v4)] := hl
          refine lv_aload_n hx hb dL_law_265 rfl (lv_at hl 4 rfl) ?_
          obtain ⟨hk59, h⟩ := h
          have h1 := h
          refine va_calli (va_runV (As := []) (rest := []) ⟨hx, hb, hml, hown, hts⟩ (m_X6_thrown (l := l) h1) (cwV 0 hts gL_law_X6_thrown rfl rfl rfl (by decide +kernel) ⟨Nat.le_trans (Nat.le_of_ble_eq_true rfl) hRf, Nat.le_trans (Nat.le_of_ble_eq_true rfl) hRl⟩) (r_pV hB hw hS (ce_8 (S := S56) hk59) rfl) rfl rfl hl.1 rfl (lv_room (Nat.le_of_ble_eq_true rfl)) dL_law_266 ⟨by omega, by omega⟩) hS (fun _ _ h => h) (fun _ h => h) (fun r60 S61 t H1 locs ht _ h hw1 _ _ hS => ?_)
          subst ht
          have hw : wd D y z S61 A t.heap := hw1
          clear hw1 h1
          refine lv_iload hx hb dL_law_269 (lv_at hl 1 rfl) ?_
          refine lv_icmp_eq (tgt := 276) hx hb dL_law_271 (by decide) (fun hc => ?_) (fun hc => ?_)
          · have h := h.1 hc
            refine lv_iload hx hb dL_law_276 (lv_at hl 1 rfl) ?_
            refine lv_if_ne (tgt := 293) hx hb dL_law_278 (by decide) (fun hc => ?_) (fun hc => ?_)
            · have h := h.1 hc
              exact hB293 _ _ _ _ _ _ _ _ _ _ _ _ _ _ h hw hS (lv_sub hl [2, 3, 4, 5, 6] rfl) hcu hsu hd0
            · have h := h.2 hc
              refine lv_aload_n hx hb dL_law_281 rfl (lv_at hl 5 rfl) ?_
              refine lv_iconst (v := (0 : Int32)) hx hb dL_law_282 (by decide) ?_
              obtain ⟨hk62, h⟩ := h
              obtain ⟨hin63, h⟩ := h
              refine r_lald hx hb hK hw hk62 hin63 dL_law_283 ?_
              refine lv_iload hx hb dL_law_284 (lv_at hl 0 rfl) ?_
              refine lv_i2l (v := (Int32.toInt64 r55)) hx hb dL_law_286 rfl ?_
              refine W.lcmp hx hb dL_law_287 ?_
              refine lv_if_eq (tgt := 293) hx hb dL_law_288 (by decide) (fun hc => ?_) (fun hc => ?_)
              · have h := h.1 hc
                exact hB293 _ _ _ _ _ _ _ _ _ _ _ _ _ _ h hw hS (lv_sub hl [2, 3, 4, 5, 6] rfl) hcu hsu hd0
              · have h := h.2 hc
                refine lv_iconst (v := (0 : Int32)) hx hb dL_law_291 (by decide) ?_
                exact hret _ _ _ _ _ _ _ _ _ h hw hS (by omega) (by omega) hd0 dL_law_292
          · have h := h.2 hc
            refine lv_iconst (v := (0 : Int32)) hx hb dL_law_274 (by decide) ?_
            exact hret _ _ _ _ _ _ _ _ _ h hw hS (by omega) (by omega) hd0 dL_law_275
        by_cases hq2 : ((gV S 9 v0 (Int32.toNatClampNeg v4)) &&& (31 : Int32)) = (2 : Int32)
        · have h := h.2.2.1 hq2
          refine lv_tableIn (off := 256) (tgt := 296) hx hb dL_law_40 (by rw [hq2]; decide) (by rw [hq2]; decide) (by rw [hq2]; decide) (by decide) ?_
          refine lv_aload_n hx hb dL_law_296 rfl (lv_at hl 1 rfl) ?_
          refine lv_aload_n hx hb dL_law_297 rfl (lv_at hl 0 rfl) ?_
          refine lv_iload hx hb dL_law_298 (lv_at hl 4 rfl) ?_
          refine lv_iconst (v := (1 : Int32)) hx hb dL_law_300 (by decide) ?_
          refine lv_iadd hx hb dL_law_301 ?_
          obtain ⟨hin64, h⟩ := h
          refine r_iald hx hb hK hw hk18 hin64 dL_law_302 ?_
          refine lv_aload_n hx hb dL_law_303 rfl (lv_at hl 0 rfl) ?_
          refine lv_iload hx hb dL_law_304 (lv_at hl 4 rfl) ?_
          refine lv_iconst (v := (2 : Int32)) hx hb dL_law_306 (by decide) ?_
          refine lv_iadd hx hb dL_law_307 ?_
          obtain ⟨hin65, h⟩ := h
          refine r_iald hx hb hK hw hk18 hin65 dL_law_308 ?_
          refine lv_aload_n hx hb dL_law_309 rfl (lv_at hl 3 rfl) ?_
          obtain ⟨k68, n69, hbg1, hbg2, h⟩ := h
          have h1 := h
          refine va_calli (vx_runSW (As := [.ref v1, .int (gV S 9 v0 (Int32.toNatClampNeg (v4 + (1 : Int32)))), .int (gV S 9 v0 (Int32.toNatClampNeg (v4 + (2 : Int32)))), .ref v3]) (rest := []) ⟨hx, hb, hml, hown, hts⟩ (m_L_turn (l := l) hl0 h1) (vx_cwSW 4 htx (goodQ gL_law_L_turn (by decide)) rfl rfl rfl ⟨by decide +kernel, by decide +kernel, by decide +kernel⟩ ⟨Nat.le_trans (Nat.le_of_ble_eq_true rfl) hRf, Nat.le_trans (Nat.le_of_ble_eq_true rfl) hRl⟩) (r_pS hB hw hS) rfl rfl hl.1 rfl (lv_room (Nat.le_of_ble_eq_true rfl)) dL_law_310 ⟨by omega, by omega⟩) hS (fun _ _ h => h) (fun _ h => h) (fun r66 S67 t H1 locs ht _ h hw1 _ _ hS => ?_)
          subst ht
          have hw : wd D y z S67 A t.heap := hw1
          clear hw1 h1
          have hcu : (cu + k68) + (mc - k68) ≤ MC := by omega
          have hsu : (su + n69) + (ms - n69) ≤ MS := by omega
          refine lv_istore hx hb dL_law_313 hl (by decide) rfl (fun ls hl => ?_)
          have hl : lv_has ls 9 [(5, .int r66), (0, .ref v0), (1, .ref v1), (2, .ref v2), (3, .ref v3), (4, .int v4)] := hl
          refine lv_aload_n hx hb dL_law_315 rfl (lv_at hl 3 rfl) ?_
          refine lv_aload_n hx hb dL_law_316 rfl (lv_at hl 1 rfl) ?_
          refine lv_iload hx hb dL_law_317 (lv_at hl 5 rfl) ?_
          refine lv_iconst (v := (1 : Int32)) hx hb dL_law_319 (by decide) ?_
          refine lv_iadd hx hb dL_law_320 ?_
          obtain ⟨hk70, h⟩ := h
          obtain ⟨hin71, h⟩ := h
          refine r_iald hx hb hK hw hk70 hin71 dL_law_321 ?_
          refine lv_aload_n hx hb dL_law_322 rfl (lv_at hl 1 rfl) ?_
          refine lv_iload hx hb dL_law_323 (lv_at hl 5 rfl) ?_
          refine lv_iconst (v := (2 : Int32)) hx hb dL_law_325 (by decide) ?_
          refine lv_iadd hx hb dL_law_326 ?_
          obtain ⟨hin72, h⟩ := h
          refine r_iald hx hb hK hw hk70 hin72 dL_law_327 ?_
          obtain ⟨hk73, h⟩ := h
          have h1 := h
          refine va_calli (va_runV (As := [.int (gV S67 9 v0 (Int32.toNatClampNeg (v4 + (1 : Int32)))), .int (gV S67 9 v0 (Int32.toNatClampNeg (v4 + (2 : Int32))))]) (rest := []) ⟨hx, hb, hml, hown, hts⟩ (m_X6_turn (l := l) h1) (cwV 2 hts gL_law_X6_turn rfl rfl rfl (by decide +kernel) ⟨Nat.le_trans (Nat.le_of_ble_eq_true rfl) hRf, Nat.le_trans (Nat.le_of_ble_eq_true rfl) hRl⟩) (r_pV hB hw hS (ce_8 (S := S67) hk73) rfl) rfl rfl hl.1 rfl (lv_room (Nat.le_of_ble_eq_true rfl)) dL_law_328 ⟨by omega, by omega⟩) hS (fun _ _ h => h) (fun _ h => h) (fun r74 S75 t H1 locs ht _ h hw1 _ _ hS => ?_)
          subst ht
          have hw : wd D y z S75 A t.heap := hw1
          clear hw1 h1
          refine lv_istore hx hb dL_law_331 hl (by decide) rfl (fun ls hl => ?_)
          have hl : lv_has ls 9 [(6, .int r74), (5, .int r66), (0, .ref v0), (1, .ref v1), (2, .ref v2), (3, .ref v3), (4, .int v4)] := hl
          refine lv_aload_n hx hb dL_law_333 rfl (lv_at hl 4 rfl) ?_
          obtain ⟨hk76, h⟩ := h
          have h1 := h
          refine va_calli (va_runV (As := []) (rest := []) ⟨hx, hb, hml, hown, hts⟩ (m_X6_thrown (l := l) h1) (cwV 0 hts gL_law_X6_thrown rfl rfl rfl (by decide +kernel) ⟨Nat.le_trans (Nat.le_of_ble_eq_true rfl) hRf, Nat.le_trans (Nat.le_of_ble_eq_true rfl) hRl⟩) (r_pV hB hw hS (ce_8 (S := S75) hk76) rfl) rfl rfl hl.1 rfl (lv_room (Nat.le_of_ble_eq_true rfl)) dL_law_334 ⟨by omega, by omega⟩) hS (fun _ _ h => h) (fun _ h => h) (fun r77 S78 t H1 locs ht _ h hw1 _ _ hS => ?_)
          subst ht
          have hw : wd D y z S78 A t.heap := hw1
          clear hw1 h1
          refine lv_iload hx hb dL_law_337 (lv_at hl 1 rfl) ?_
          refine lv_icmp_eq (tgt := 344) hx hb dL_law_339 (by decide) (fun hc => ?_) (fun hc => ?_)
          · have h := h.1 hc
            refine lv_iload hx hb dL_law_344 (lv_at hl 1 rfl) ?_
            refine lv_if_ne (tgt := 361) hx hb dL_law_346 (by decide) (fun hc => ?_) (fun hc => ?_)
            · have h := h.1 hc
              exact hB361 _ _ _ _ _ _ _ _ _ _ _ _ _ _ h hw hS (lv_sub hl [2, 3, 4, 5, 6] rfl) hcu hsu hd0
            · have h := h.2 hc
              refine lv_aload_n hx hb dL_law_349 rfl (lv_at hl 5 rfl) ?_
              refine lv_iconst (v := (0 : Int32)) hx hb dL_law_350 (by decide) ?_
              obtain ⟨hk79, h⟩ := h
              obtain ⟨hin80, h⟩ := h
              refine r_lald hx hb hK hw hk79 hin80 dL_law_351 ?_
              refine lv_iload hx hb dL_law_352 (lv_at hl 0 rfl) ?_
              refine lv_i2l (v := (Int32.toInt64 r74)) hx hb dL_law_354 rfl ?_
              refine W.lcmp hx hb dL_law_355 ?_
              refine lv_if_eq (tgt := 361) hx hb dL_law_356 (by decide) (fun hc => ?_) (fun hc => ?_)
              · have h := h.1 hc
                exact hB361 _ _ _ _ _ _ _ _ _ _ _ _ _ _ h hw hS (lv_sub hl [2, 3, 4, 5, 6] rfl) hcu hsu hd0
              · have h := h.2 hc
                refine lv_iconst (v := (0 : Int32)) hx hb dL_law_359 (by decide) ?_
                exact hret _ _ _ _ _ _ _ _ _ h hw hS (by omega) (by omega) hd0 dL_law_360
          · have h := h.2 hc
            refine lv_iconst (v := (0 : Int32)) hx hb dL_law_342 (by decide) ?_
            exact hret _ _ _ _ _ _ _ _ _ h hw hS (by omega) (by omega) hd0 dL_law_343
        by_cases hq3 : ((gV S 9 v0 (Int32.toNatClampNeg v4)) &&& (31 : Int32)) = (3 : Int32)
        · have h := h.2.2.2.1 hq3
          refine lv_tableIn (off := 324) (tgt := 364) hx hb dL_law_40 (by rw [hq3]; decide) (by rw [hq3]; decide) (by rw [hq3]; decide) (by decide) ?_
          refine lv_aload_n hx hb dL_law_364 rfl (lv_at hl 1 rfl) ?_
          refine lv_aload_n hx hb dL_law_365 rfl (lv_at hl 0 rfl) ?_
          refine lv_iload hx hb dL_law_366 (lv_at hl 4 rfl) ?_
          refine lv_iconst (v := (1 : Int32)) hx hb dL_law_368 (by decide) ?_
          refine lv_iadd hx hb dL_law_369 ?_
          obtain ⟨hin81, h⟩ := h
          refine r_iald hx hb hK hw hk18 hin81 dL_law_370 ?_
          refine lv_aload_n hx hb dL_law_371 rfl (lv_at hl 0 rfl) ?_
          refine lv_iload hx hb dL_law_372 (lv_at hl 4 rfl) ?_
          refine lv_iconst (v := (2 : Int32)) hx hb dL_law_374 (by decide) ?_
          refine lv_iadd hx hb dL_law_375 ?_
          obtain ⟨hin82, h⟩ := h
          refine r_iald hx hb hK hw hk18 hin82 dL_law_376 ?_
          refine lv_aload_n hx hb dL_law_377 rfl (lv_at hl 0 rfl) ?_
          refine lv_iload hx hb dL_law_378 (lv_at hl 4 rfl) ?_
          refine lv_iconst (v := (3 : Int32)) hx hb dL_law_380 (by decide) ?_
          refine lv_iadd hx hb dL_law_381 ?_
          obtain ⟨hin83, h⟩ := h
          refine r_iald hx hb hK hw hk18 hin83 dL_law_382 ?_
          refine lv_if_eq (tgt := 390) hx hb dL_law_383 (by decide) (fun hc => ?_) (fun hc => ?_)
          · have h := h.1 hc
            refine lv_iconst (v := (0 : Int32)) hx hb dL_law_390 (by decide) ?_
            exact hB391 _ _ _ _ _ _ _ _ _ _ _ _ _ _ _ _ _ _ h hw hS (lv_sub hl [0, 1, 2, 3, 4] rfl) hcu hsu hd0
          · have h := h.2 hc
            refine lv_iconst (v := (1 : Int32)) hx hb dL_law_386 (by decide) ?_
            refine lv_goto (tgt := 391) hx hb dL_law_387 (by decide) ?_
            exact hB391 _ _ _ _ _ _ _ _ _ _ _ _ _ _ _ _ _ _ h hw hS (lv_sub hl [0, 1, 2, 3, 4] rfl) hcu hsu hd0
        by_cases hq4 : ((gV S 9 v0 (Int32.toNatClampNeg v4)) &&& (31 : Int32)) = (4 : Int32)
        · have h := h.2.2.2.2.1 hq4
          refine lv_tableIn (off := 420) (tgt := 460) hx hb dL_law_40 (by rw [hq4]; decide) (by rw [hq4]; decide) (by rw [hq4]; decide) (by decide) ?_
          refine lv_aload_n hx hb dL_law_460 rfl (lv_at hl 1 rfl) ?_
          refine lv_aload_n hx hb dL_law_461 rfl (lv_at hl 0 rfl) ?_
          refine lv_iload hx hb dL_law_462 (lv_at hl 4 rfl) ?_
          refine lv_iconst (v := (1 : Int32)) hx hb dL_law_464 (by decide) ?_
          refine lv_iadd hx hb dL_law_465 ?_
          obtain ⟨hin84, h⟩ := h
          refine r_iald hx hb hK hw hk18 hin84 dL_law_466 ?_
          refine lv_aload_n hx hb dL_law_467 rfl (lv_at hl 0 rfl) ?_
          refine lv_iload hx hb dL_law_468 (lv_at hl 4 rfl) ?_
          refine lv_iconst (v := (2 : Int32)) hx hb dL_law_470 (by decide) ?_
          refine lv_iadd hx hb dL_law_471 ?_
          obtain ⟨hin85, h⟩ := h
          refine r_iald hx hb hK hw hk18 hin85 dL_law_472 ?_
          refine lv_aload_n hx hb dL_law_473 rfl (lv_at hl 0 rfl) ?_
          refine lv_iload hx hb dL_law_474 (lv_at hl 4 rfl) ?_
          refine lv_iconst (v := (3 : Int32)) hx hb dL_law_476 (by decide) ?_
          refine lv_iadd hx hb dL_law_477 ?_
          obtain ⟨hin86, h⟩ := h
          refine r_iald hx hb hK hw hk18 hin86 dL_law_478 ?_
          refine lv_aload_n hx hb dL_law_479 rfl (lv_at hl 0 rfl) ?_
          refine lv_iload hx hb dL_law_480 (lv_at hl 4 rfl) ?_
          refine lv_iconst (v := (4 : Int32)) hx hb dL_law_482 (by decide) ?_
          refine lv_iadd hx hb dL_law_483 ?_
          obtain ⟨hin87, h⟩ := h
          refine r_iald hx hb hK hw hk18 hin87 dL_law_484 ?_
          refine lv_aload_n hx hb dL_law_485 rfl (lv_at hl 0 rfl) ?_
          refine lv_iload hx hb dL_law_486 (lv_at hl 4 rfl) ?_
          refine lv_iconst (v := (5 : Int32)) hx hb dL_law_488 (by decide) ?_
          refine lv_iadd hx hb dL_law_489 ?_
          obtain ⟨hin88, h⟩ := h
          refine r_iald hx hb hK hw hk18 hin88 dL_law_490 ?_
          refine lv_aload_n hx hb dL_law_491 rfl (lv_at hl 3 rfl) ?_
          obtain ⟨k91, n92, hbg1, hbg2, h⟩ := h
          have h1 := h
          refine va_calli (vx_runSW (As := [.ref v1, .int (gV S 9 v0 (Int32.toNatClampNeg (v4 + (1 : Int32)))), .int (gV S 9 v0 (Int32.toNatClampNeg (v4 + (2 : Int32)))), .int (gV S 9 v0 (Int32.toNatClampNeg (v4 + (3 : Int32)))), .int (gV S 9 v0 (Int32.toNatClampNeg (v4 + (4 : Int32)))), .int (gV S 9 v0 (Int32.toNatClampNeg (v4 + (5 : Int32)))), .ref v3]) (rest := []) ⟨hx, hb, hml, hown, hts⟩ (m_L_addEntry (l := l) hl0 h1) (vx_cwSW 7 htx (goodQ gL_law_L_addEntry (by decide)) rfl rfl rfl ⟨by decide +kernel, by decide +kernel, by decide +kernel⟩ ⟨Nat.le_trans (Nat.le_of_ble_eq_true rfl) hRf, Nat.le_trans (Nat.le_of_ble_eq_true rfl) hRl⟩) (r_pS hB hw hS) rfl rfl hl.1 rfl (lv_room (Nat.le_of_ble_eq_true rfl)) dL_law_492 ⟨by omega, by omega⟩) hS (fun _ _ h => h) (fun _ h => h) (fun r89 S90 t H1 locs ht _ h hw1 _ _ hS => ?_)
          subst ht
          have hw : wd D y z S90 A t.heap := hw1
          clear hw1 h1
          have hcu : (cu + k91) + (mc - k91) ≤ MC := by omega
          have hsu : (su + n92) + (ms - n92) ≤ MS := by omega
          refine lv_istore hx hb dL_law_495 hl (by decide) rfl (fun ls hl => ?_)
          have hl : lv_has ls 9 [(5, .int r89), (0, .ref v0), (1, .ref v1), (2, .ref v2), (3, .ref v3), (4, .int v4)] := hl
          refine lv_aload_n hx hb dL_law_497 rfl (lv_at hl 3 rfl) ?_
          refine lv_aload_n hx hb dL_law_498 rfl (lv_at hl 1 rfl) ?_
          refine lv_iload hx hb dL_law_499 (lv_at hl 5 rfl) ?_
          refine lv_iconst (v := (1 : Int32)) hx hb dL_law_501 (by decide) ?_
          refine lv_iadd hx hb dL_law_502 ?_
          obtain ⟨hk93, h⟩ := h
          obtain ⟨hin94, h⟩ := h
          refine r_iald hx hb hK hw hk93 hin94 dL_law_503 ?_
          refine lv_aload_n hx hb dL_law_504 rfl (lv_at hl 1 rfl) ?_
          refine lv_iload hx hb dL_law_505 (lv_at hl 5 rfl) ?_
          refine lv_iconst (v := (2 : Int32)) hx hb dL_law_507 (by decide) ?_
          refine lv_iadd hx hb dL_law_508 ?_
          obtain ⟨hin95, h⟩ := h
          refine r_iald hx hb hK hw hk93 hin95 dL_law_509 ?_
          refine lv_aload_n hx hb dL_law_510 rfl (lv_at hl 1 rfl) ?_
          refine lv_iload hx hb dL_law_511 (lv_at hl 5 rfl) ?_
          refine lv_iconst (v := (3 : Int32)) hx hb dL_law_513 (by decide) ?_
          refine lv_iadd hx hb dL_law_514 ?_
          obtain ⟨hin96, h⟩ := h
          refine r_iald hx hb hK hw hk93 hin96 dL_law_515 ?_
          refine lv_aload_n hx hb dL_law_516 rfl (lv_at hl 1 rfl) ?_
          refine lv_iload hx hb dL_law_517 (lv_at hl 5 rfl) ?_
          refine lv_iconst (v := (4 : Int32)) hx hb dL_law_519 (by decide) ?_
          refine lv_iadd hx hb dL_law_520 ?_
          obtain ⟨hin97, h⟩ := h
          refine r_iald hx hb hK hw hk93 hin97 dL_law_521 ?_
          refine lv_aload_n hx hb dL_law_522 rfl (lv_at hl 1 rfl) ?_
          refine lv_iload hx hb dL_law_523 (lv_at hl 5 rfl) ?_
          refine lv_iconst (v := (5 : Int32)) hx hb dL_law_525 (by decide) ?_
          refine lv_iadd hx hb dL_law_526 ?_
          obtain ⟨hin98, h⟩ := h
          refine r_iald hx hb hK hw hk93 hin98 dL_law_527 ?_
          obtain ⟨hk99, h⟩ := h
          obtain ⟨k102, n103, hbg1, hbg2, h⟩ := h
          have h1 := h
          refine va_calli (va_runV (As := [.int (gV S90 9 v0 (Int32.toNatClampNeg (v4 + (1 : Int32)))), .int (gV S90 9 v0 (Int32.toNatClampNeg (v4 + (2 : Int32)))), .int (gV S90 9 v0 (Int32.toNatClampNeg (v4 + (3 : Int32)))), .int (gV S90 9 v0 (Int32.toNatClampNeg (v4 + (4 : Int32)))), .int (gV S90 9 v0 (Int32.toNatClampNeg (v4 + (5 : Int32))))]) (rest := []) ⟨hx, hb, hml, hown, hts⟩ (m_X6_addEntry (l := l) h1) (cwV 5 hts gL_law_X6_addEntry rfl rfl rfl (by decide +kernel) ⟨Nat.le_trans (Nat.le_of_ble_eq_true rfl) hRf, Nat.le_trans (Nat.le_of_ble_eq_true rfl) hRl⟩) (r_pV hB hw hS (ce_8 (S := S90) hk99) rfl) rfl rfl hl.1 rfl (lv_room (Nat.le_of_ble_eq_true rfl)) dL_law_528 ⟨by omega, by omega⟩) hS (fun _ _ h => h) (fun _ h => h) (fun r100 S101 t H1 locs ht _ h hw1 _ _ hS => ?_)
          subst ht
          have hw : wd D y z S101 A t.heap := hw1
          clear hw1 h1
          have hcu : ((cu + k91) + k102) + ((mc - k91) - k102) ≤ MC := by omega
          have hsu : ((su + n92) + n103) + ((ms - n92) - n103) ≤ MS := by omega
          refine lv_istore hx hb dL_law_531 hl (by decide) rfl (fun ls hl => ?_)
          have hl : lv_has ls 9 [(6, .int r100), (5, .int r89), (0, .ref v0), (1, .ref v1), (2, .ref v2), (3, .ref v3), (4, .int v4)] := hl
          refine lv_aload_n hx hb dL_law_533 rfl (lv_at hl 4 rfl) ?_
          obtain ⟨hk104, h⟩ := h
          have h1 := h
          refine va_calli (va_runV (As := []) (rest := []) ⟨hx, hb, hml, hown, hts⟩ (m_X6_thrown (l := l) h1) (cwV 0 hts gL_law_X6_thrown rfl rfl rfl (by decide +kernel) ⟨Nat.le_trans (Nat.le_of_ble_eq_true rfl) hRf, Nat.le_trans (Nat.le_of_ble_eq_true rfl) hRl⟩) (r_pV hB hw hS (ce_8 (S := S101) hk104) rfl) rfl rfl hl.1 rfl (lv_room (Nat.le_of_ble_eq_true rfl)) dL_law_534 ⟨by omega, by omega⟩) hS (fun _ _ h => h) (fun _ h => h) (fun r105 S106 t H1 locs ht _ h hw1 _ _ hS => ?_)
          subst ht
          have hw : wd D y z S106 A t.heap := hw1
          clear hw1 h1
          refine lv_iload hx hb dL_law_537 (lv_at hl 1 rfl) ?_
          refine lv_icmp_eq (tgt := 544) hx hb dL_law_539 (by decide) (fun hc => ?_) (fun hc => ?_)
          · have h := h.1 hc
            refine lv_iload hx hb dL_law_544 (lv_at hl 1 rfl) ?_
            refine lv_if_ne (tgt := 561) hx hb dL_law_546 (by decide) (fun hc => ?_) (fun hc => ?_)
            · have h := h.1 hc
              exact hB561 _ _ _ _ _ _ _ _ _ _ _ _ _ _ h hw hS (lv_sub hl [2, 3, 4, 5, 6] rfl) hcu hsu hd0
            · have h := h.2 hc
              refine lv_aload_n hx hb dL_law_549 rfl (lv_at hl 5 rfl) ?_
              refine lv_iconst (v := (0 : Int32)) hx hb dL_law_550 (by decide) ?_
              obtain ⟨hk107, h⟩ := h
              obtain ⟨hin108, h⟩ := h
              refine r_lald hx hb hK hw hk107 hin108 dL_law_551 ?_
              refine lv_iload hx hb dL_law_552 (lv_at hl 0 rfl) ?_
              refine lv_i2l (v := (Int32.toInt64 r100)) hx hb dL_law_554 rfl ?_
              refine W.lcmp hx hb dL_law_555 ?_
              refine lv_if_eq (tgt := 561) hx hb dL_law_556 (by decide) (fun hc => ?_) (fun hc => ?_)
              · have h := h.1 hc
                exact hB561 _ _ _ _ _ _ _ _ _ _ _ _ _ _ h hw hS (lv_sub hl [2, 3, 4, 5, 6] rfl) hcu hsu hd0
              · have h := h.2 hc
                refine lv_iconst (v := (0 : Int32)) hx hb dL_law_559 (by decide) ?_
                exact hret _ _ _ _ _ _ _ _ _ h hw hS (by omega) (by omega) hd0 dL_law_560
          · have h := h.2 hc
            refine lv_iconst (v := (0 : Int32)) hx hb dL_law_542 (by decide) ?_
            exact hret _ _ _ _ _ _ _ _ _ h hw hS (by omega) (by omega) hd0 dL_law_543
        by_cases hq5 : ((gV S 9 v0 (Int32.toNatClampNeg v4)) &&& (31 : Int32)) = (5 : Int32)
        · have h := h.2.2.2.2.2.1 hq5
          refine lv_tableIn (off := 524) (tgt := 564) hx hb dL_law_40 (by rw [hq5]; decide) (by rw [hq5]; decide) (by rw [hq5]; decide) (by decide) ?_
          refine lv_aload_n hx hb dL_law_564 rfl (lv_at hl 1 rfl) ?_
          refine lv_aload_n hx hb dL_law_565 rfl (lv_at hl 0 rfl) ?_
          refine lv_iload hx hb dL_law_566 (lv_at hl 4 rfl) ?_
          refine lv_iconst (v := (1 : Int32)) hx hb dL_law_568 (by decide) ?_
          refine lv_iadd hx hb dL_law_569 ?_
          obtain ⟨hin109, h⟩ := h
          refine r_iald hx hb hK hw hk18 hin109 dL_law_570 ?_
          refine lv_aload_n hx hb dL_law_571 rfl (lv_at hl 0 rfl) ?_
          refine lv_iload hx hb dL_law_572 (lv_at hl 4 rfl) ?_
          refine lv_iconst (v := (2 : Int32)) hx hb dL_law_574 (by decide) ?_
          refine lv_iadd hx hb dL_law_575 ?_
          obtain ⟨hin110, h⟩ := h
          refine r_iald hx hb hK hw hk18 hin110 dL_law_576 ?_
          refine lv_aload_n hx hb dL_law_577 rfl (lv_at hl 0 rfl) ?_
          refine lv_iload hx hb dL_law_578 (lv_at hl 4 rfl) ?_
          refine lv_iconst (v := (3 : Int32)) hx hb dL_law_580 (by decide) ?_
          refine lv_iadd hx hb dL_law_581 ?_
          obtain ⟨hin111, h⟩ := h
          refine r_iald hx hb hK hw hk18 hin111 dL_law_582 ?_
          refine lv_aload_n hx hb dL_law_583 rfl (lv_at hl 3 rfl) ?_
          obtain ⟨k114, n115, hbg1, hbg2, h⟩ := h
          have h1 := h
          refine va_calli (vx_runSW (As := [.ref v1, .int (gV S 9 v0 (Int32.toNatClampNeg (v4 + (1 : Int32)))), .int (gV S 9 v0 (Int32.toNatClampNeg (v4 + (2 : Int32)))), .int (gV S 9 v0 (Int32.toNatClampNeg (v4 + (3 : Int32)))), .ref v3]) (rest := []) ⟨hx, hb, hml, hown, hts⟩ (m_L_send (l := l) hl0 h1) (vx_cwSW 5 htx (goodQ gL_law_L_send (by decide)) rfl rfl rfl ⟨by decide +kernel, by decide +kernel, by decide +kernel⟩ ⟨Nat.le_trans (Nat.le_of_ble_eq_true rfl) hRf, Nat.le_trans (Nat.le_of_ble_eq_true rfl) hRl⟩) (r_pS hB hw hS) rfl rfl hl.1 rfl (lv_room (Nat.le_of_ble_eq_true rfl)) dL_law_584 ⟨by omega, by omega⟩) hS (fun _ _ h => h) (fun _ h => h) (fun r112 S113 t H1 locs ht _ h hw1 _ _ hS => ?_)
          subst ht
          have hw : wd D y z S113 A t.heap := hw1
          clear hw1 h1
          have hcu : (cu + k114) + (mc - k114) ≤ MC := by omega
          have hsu : (su + n115) + (ms - n115) ≤ MS := by omega
          refine lv_istore hx hb dL_law_587 hl (by decide) rfl (fun ls hl => ?_)
          have hl : lv_has ls 9 [(5, .int r112), (0, .ref v0), (1, .ref v1), (2, .ref v2), (3, .ref v3), (4, .int v4)] := hl
          refine lv_aload_n hx hb dL_law_589 rfl (lv_at hl 3 rfl) ?_
          refine lv_aload_n hx hb dL_law_590 rfl (lv_at hl 1 rfl) ?_
          refine lv_iload hx hb dL_law_591 (lv_at hl 5 rfl) ?_
          refine lv_iconst (v := (1 : Int32)) hx hb dL_law_593 (by decide) ?_
          refine lv_iadd hx hb dL_law_594 ?_
          obtain ⟨hk116, h⟩ := h
          obtain ⟨hin117, h⟩ := h
          refine r_iald hx hb hK hw hk116 hin117 dL_law_595 ?_
          refine lv_aload_n hx hb dL_law_596 rfl (lv_at hl 1 rfl) ?_
          refine lv_iload hx hb dL_law_597 (lv_at hl 5 rfl) ?_
          refine lv_iconst (v := (2 : Int32)) hx hb dL_law_599 (by decide) ?_
          refine lv_iadd hx hb dL_law_600 ?_
          obtain ⟨hin118, h⟩ := h
          refine r_iald hx hb hK hw hk116 hin118 dL_law_601 ?_
          refine lv_aload_n hx hb dL_law_602 rfl (lv_at hl 1 rfl) ?_
          refine lv_iload hx hb dL_law_603 (lv_at hl 5 rfl) ?_
          refine lv_iconst (v := (3 : Int32)) hx hb dL_law_605 (by decide) ?_
          refine lv_iadd hx hb dL_law_606 ?_
          obtain ⟨hin119, h⟩ := h
          refine r_iald hx hb hK hw hk116 hin119 dL_law_607 ?_
          obtain ⟨hk120, h⟩ := h
          have h1 := h
          refine va_calli (va_runV (As := [.int (gV S113 9 v0 (Int32.toNatClampNeg (v4 + (1 : Int32)))), .int (gV S113 9 v0 (Int32.toNatClampNeg (v4 + (2 : Int32)))), .int (gV S113 9 v0 (Int32.toNatClampNeg (v4 + (3 : Int32))))]) (rest := []) ⟨hx, hb, hml, hown, hts⟩ (m_X6_send (l := l) h1) (cwV 3 hts gL_law_X6_send rfl rfl rfl (by decide +kernel) ⟨Nat.le_trans (Nat.le_of_ble_eq_true rfl) hRf, Nat.le_trans (Nat.le_of_ble_eq_true rfl) hRl⟩) (r_pV hB hw hS (ce_8 (S := S113) hk120) rfl) rfl rfl hl.1 rfl (lv_room (Nat.le_of_ble_eq_true rfl)) dL_law_608 ⟨by omega, by omega⟩) hS (fun _ _ h => h) (fun _ h => h) (fun r121 S122 t H1 locs ht _ h hw1 _ _ hS => ?_)
          subst ht
          have hw : wd D y z S122 A t.heap := hw1
          clear hw1 h1
          refine lv_istore hx hb dL_law_611 hl (by decide) rfl (fun ls hl => ?_)
          have hl : lv_has ls 9 [(6, .int r121), (5, .int r112), (0, .ref v0), (1, .ref v1), (2, .ref v2), (3, .ref v3), (4, .int v4)] := hl
          refine lv_aload_n hx hb dL_law_613 rfl (lv_at hl 4 rfl) ?_
          obtain ⟨hk123, h⟩ := h
          have h1 := h
          refine va_calli (va_runV (As := []) (rest := []) ⟨hx, hb, hml, hown, hts⟩ (m_X6_thrown (l := l) h1) (cwV 0 hts gL_law_X6_thrown rfl rfl rfl (by decide +kernel) ⟨Nat.le_trans (Nat.le_of_ble_eq_true rfl) hRf, Nat.le_trans (Nat.le_of_ble_eq_true rfl) hRl⟩) (r_pV hB hw hS (ce_8 (S := S122) hk123) rfl) rfl rfl hl.1 rfl (lv_room (Nat.le_of_ble_eq_true rfl)) dL_law_614 ⟨by omega, by omega⟩) hS (fun _ _ h => h) (fun _ h => h) (fun r124 S125 t H1 locs ht _ h hw1 _ _ hS => ?_)
          subst ht
          have hw : wd D y z S125 A t.heap := hw1
          clear hw1 h1
          refine lv_iload hx hb dL_law_617 (lv_at hl 1 rfl) ?_
          refine lv_icmp_eq (tgt := 624) hx hb dL_law_619 (by decide) (fun hc => ?_) (fun hc => ?_)
          · have h := h.1 hc
            refine lv_iload hx hb dL_law_624 (lv_at hl 1 rfl) ?_
            refine lv_if_ne (tgt := 641) hx hb dL_law_626 (by decide) (fun hc => ?_) (fun hc => ?_)
            · have h := h.1 hc
              exact hB641 _ _ _ _ _ _ _ _ _ _ _ _ _ _ h hw hS (lv_sub hl [2, 3, 4, 5, 6] rfl) hcu hsu hd0
            · have h := h.2 hc
              refine lv_aload_n hx hb dL_law_629 rfl (lv_at hl 5 rfl) ?_
              refine lv_iconst (v := (0 : Int32)) hx hb dL_law_630 (by decide) ?_
              obtain ⟨hk126, h⟩ := h
              obtain ⟨hin127, h⟩ := h
              refine r_lald hx hb hK hw hk126 hin127 dL_law_631 ?_
              refine lv_iload hx hb dL_law_632 (lv_at hl 0 rfl) ?_
              refine lv_i2l (v := (Int32.toInt64 r121)) hx hb dL_law_634 rfl ?_
              refine W.lcmp hx hb dL_law_635 ?_
              refine lv_if_eq (tgt := 641) hx hb dL_law_636 (by decide) (fun hc => ?_) (fun hc => ?_)
              · have h := h.1 hc
                exact hB641 _ _ _ _ _ _ _ _ _ _ _ _ _ _ h hw hS (lv_sub hl [2, 3, 4, 5, 6] rfl) hcu hsu hd0
              · have h := h.2 hc
                refine lv_iconst (v := (0 : Int32)) hx hb dL_law_639 (by decide) ?_
                exact hret _ _ _ _ _ _ _ _ _ h hw hS (by omega) (by omega) hd0 dL_law_640
          · have h := h.2 hc
            refine lv_iconst (v := (0 : Int32)) hx hb dL_law_622 (by decide) ?_
            exact hret _ _ _ _ _ _ _ _ _ h hw hS (by omega) (by omega) hd0 dL_law_623
        by_cases hq6 : ((gV S 9 v0 (Int32.toNatClampNeg v4)) &&& (31 : Int32)) = (6 : Int32)
        · have h := h.2.2.2.2.2.2.1 hq6
          refine lv_tableIn (off := 604) (tgt := 644) hx hb dL_law_40 (by rw [hq6]; decide) (by rw [hq6]; decide) (by rw [hq6]; decide) (by decide) ?_
          refine lv_aload_n hx hb dL_law_644 rfl (lv_at hl 1 rfl) ?_
          refine lv_aload_n hx hb dL_law_645 rfl (lv_at hl 0 rfl) ?_
          refine lv_iload hx hb dL_law_646 (lv_at hl 4 rfl) ?_
          refine lv_iconst (v := (1 : Int32)) hx hb dL_law_648 (by decide) ?_
          refine lv_iadd hx hb dL_law_649 ?_
          obtain ⟨hin128, h⟩ := h
          refine r_iald hx hb hK hw hk18 hin128 dL_law_650 ?_
          refine lv_aload_n hx hb dL_law_651 rfl (lv_at hl 3 rfl) ?_
          obtain ⟨k131, n132, hbg1, hbg2, h⟩ := h
          have h1 := h
          refine va_calli (vx_runSW (As := [.ref v1, .int (gV S 9 v0 (Int32.toNatClampNeg (v4 + (1 : Int32)))), .ref v3]) (rest := []) ⟨hx, hb, hml, hown, hts⟩ (m_L_run (l := l) hl0 h1) (vx_cwSW 3 htx (goodQ gL_law_L_run (by decide)) rfl rfl rfl ⟨by decide +kernel, by decide +kernel, by decide +kernel⟩ ⟨Nat.le_trans (Nat.le_of_ble_eq_true rfl) hRf, Nat.le_trans (Nat.le_of_ble_eq_true rfl) hRl⟩) (r_pS hB hw hS) rfl rfl hl.1 rfl (lv_room (Nat.le_of_ble_eq_true rfl)) dL_law_652 ⟨by omega, by omega⟩) hS (fun _ _ h => h) (fun _ h => h) (fun r129 S130 t H1 locs ht _ h hw1 _ _ hS => ?_)
          subst ht
          have hw : wd D y z S130 A t.heap := hw1
          clear hw1 h1
          have hcu : (cu + k131) + (mc - k131) ≤ MC := by omega
          have hsu : (su + n132) + (ms - n132) ≤ MS := by omega
          refine lv_istore hx hb dL_law_655 hl (by decide) rfl (fun ls hl => ?_)
          have hl : lv_has ls 9 [(5, .int r129), (0, .ref v0), (1, .ref v1), (2, .ref v2), (3, .ref v3), (4, .int v4)] := hl
          refine lv_aload_n hx hb dL_law_657 rfl (lv_at hl 3 rfl) ?_
          refine lv_aload_n hx hb dL_law_658 rfl (lv_at hl 1 rfl) ?_
          refine lv_iload hx hb dL_law_659 (lv_at hl 5 rfl) ?_
          refine lv_iconst (v := (1 : Int32)) hx hb dL_law_661 (by decide) ?_
          refine lv_iadd hx hb dL_law_662 ?_
          obtain ⟨hk133, h⟩ := h
          obtain ⟨hin134, h⟩ := h
          refine r_iald hx hb hK hw hk133 hin134 dL_law_663 ?_
          obtain ⟨hk135, h⟩ := h
          have h1 := h
          refine va_calli (va_runV (As := [.int (gV S130 9 v0 (Int32.toNatClampNeg (v4 + (1 : Int32))))]) (rest := []) ⟨hx, hb, hml, hown, hts⟩ (m_X6_run (l := l) h1) (cwV 1 hts gL_law_X6_run rfl rfl rfl (by decide +kernel) ⟨Nat.le_trans (Nat.le_of_ble_eq_true rfl) hRf, Nat.le_trans (Nat.le_of_ble_eq_true rfl) hRl⟩) (r_pV hB hw hS (ce_8 (S := S130) hk135) rfl) rfl rfl hl.1 rfl (lv_room (Nat.le_of_ble_eq_true rfl)) dL_law_664 ⟨by omega, by omega⟩) hS (fun _ _ h => h) (fun _ h => h) (fun r136 S137 t H1 locs ht _ h hw1 _ _ hS => ?_)
          subst ht
          have hw : wd D y z S137 A t.heap := hw1
          clear hw1 h1
          refine lv_istore hx hb dL_law_667 hl (by decide) rfl (fun ls hl => ?_)
          have hl : lv_has ls 9 [(6, .int r136), (5, .int r129), (0, .ref v0), (1, .ref v1), (2, .ref v2), (3, .ref v3), (4, .int v4)] := hl
          refine lv_aload_n hx hb dL_law_669 rfl (lv_at hl 4 rfl) ?_
          obtain ⟨hk138, h⟩ := h
          have h1 := h
          refine va_calli (va_runV (As := []) (rest := []) ⟨hx, hb, hml, hown, hts⟩ (m_X6_thrown (l := l) h1) (cwV 0 hts gL_law_X6_thrown rfl rfl rfl (by decide +kernel) ⟨Nat.le_trans (Nat.le_of_ble_eq_true rfl) hRf, Nat.le_trans (Nat.le_of_ble_eq_true rfl) hRl⟩) (r_pV hB hw hS (ce_8 (S := S137) hk138) rfl) rfl rfl hl.1 rfl (lv_room (Nat.le_of_ble_eq_true rfl)) dL_law_670 ⟨by omega, by omega⟩) hS (fun _ _ h => h) (fun _ h => h) (fun r139 S140 t H1 locs ht _ h hw1 _ _ hS => ?_)
          subst ht
          have hw : wd D y z S140 A t.heap := hw1
          clear hw1 h1
          refine lv_iload hx hb dL_law_673 (lv_at hl 1 rfl) ?_
          refine lv_icmp_eq (tgt := 680) hx hb dL_law_675 (by decide) (fun hc => ?_) (fun hc => ?_)
          · have h := h.1 hc
            refine lv_iload hx hb dL_law_680 (lv_at hl 1 rfl) ?_
            refine lv_if_ne (tgt := 697) hx hb dL_law_682 (by decide) (fun hc => ?_) (fun hc => ?_)
            · have h := h.1 hc
              exact hB697 _ _ _ _ _ _ _ _ _ _ _ _ _ _ h hw hS (lv_sub hl [2, 3, 4, 5, 6] rfl) hcu hsu hd0
            · have h := h.2 hc
              refine lv_aload_n hx hb dL_law_685 rfl (lv_at hl 5 rfl) ?_
              refine lv_iconst (v := (0 : Int32)) hx hb dL_law_686 (by decide) ?_
              obtain ⟨hk141, h⟩ := h
              obtain ⟨hin142, h⟩ := h
              refine r_lald hx hb hK hw hk141 hin142 dL_law_687 ?_
              refine lv_iload hx hb dL_law_688 (lv_at hl 0 rfl) ?_
              refine lv_i2l (v := (Int32.toInt64 r136)) hx hb dL_law_690 rfl ?_
              refine W.lcmp hx hb dL_law_691 ?_
              refine lv_if_eq (tgt := 697) hx hb dL_law_692 (by decide) (fun hc => ?_) (fun hc => ?_)
              · have h := h.1 hc
                exact hB697 _ _ _ _ _ _ _ _ _ _ _ _ _ _ h hw hS (lv_sub hl [2, 3, 4, 5, 6] rfl) hcu hsu hd0
              · have h := h.2 hc
                refine lv_iconst (v := (0 : Int32)) hx hb dL_law_695 (by decide) ?_
                exact hret _ _ _ _ _ _ _ _ _ h hw hS (by omega) (by omega) hd0 dL_law_696
          · have h := h.2 hc
            refine lv_iconst (v := (0 : Int32)) hx hb dL_law_678 (by decide) ?_
            exact hret _ _ _ _ _ _ _ _ _ h hw hS (by omega) (by omega) hd0 dL_law_679
        by_cases hq7 : ((gV S 9 v0 (Int32.toNatClampNeg v4)) &&& (31 : Int32)) = (7 : Int32)
        · have h := h.2.2.2.2.2.2.2.1 hq7
          refine lv_tableIn (off := 660) (tgt := 700) hx hb dL_law_40 (by rw [hq7]; decide) (by rw [hq7]; decide) (by rw [hq7]; decide) (by decide) ?_
          refine lv_aload_n hx hb dL_law_700 rfl (lv_at hl 1 rfl) ?_
          refine lv_aload_n hx hb dL_law_701 rfl (lv_at hl 0 rfl) ?_
          refine lv_iload hx hb dL_law_702 (lv_at hl 4 rfl) ?_
          refine lv_iconst (v := (1 : Int32)) hx hb dL_law_704 (by decide) ?_
          refine lv_iadd hx hb dL_law_705 ?_
          obtain ⟨hin143, h⟩ := h
          refine r_iald hx hb hK hw hk18 hin143 dL_law_706 ?_
          refine lv_aload_n hx hb dL_law_707 rfl (lv_at hl 0 rfl) ?_
          refine lv_iload hx hb dL_law_708 (lv_at hl 4 rfl) ?_
          refine lv_iconst (v := (2 : Int32)) hx hb dL_law_710 (by decide) ?_
          refine lv_iadd hx hb dL_law_711 ?_
          obtain ⟨hin144, h⟩ := h
          refine r_iald hx hb hK hw hk18 hin144 dL_law_712 ?_
          refine lv_aload_n hx hb dL_law_713 rfl (lv_at hl 3 rfl) ?_
          obtain ⟨k147, n148, hbg1, hbg2, h⟩ := h
          have h1 := h
          refine va_calli (vx_runSW (As := [.ref v1, .int (gV S 9 v0 (Int32.toNatClampNeg (v4 + (1 : Int32)))), .int (gV S 9 v0 (Int32.toNatClampNeg (v4 + (2 : Int32)))), .ref v3]) (rest := []) ⟨hx, hb, hml, hown, hts⟩ (m_L_carrier (l := l) hl0 h1) (vx_cwSW 4 htx (goodQ gL_law_L_carrier (by decide)) rfl rfl rfl ⟨by decide +kernel, by decide +kernel, by decide +kernel⟩ ⟨Nat.le_trans (Nat.le_of_ble_eq_true rfl) hRf, Nat.le_trans (Nat.le_of_ble_eq_true rfl) hRl⟩) (r_pS hB hw hS) rfl rfl hl.1 rfl (lv_room (Nat.le_of_ble_eq_true rfl)) dL_law_714 ⟨by omega, by omega⟩) hS (fun _ _ h => h) (fun _ h => h) (fun r145 S146 t H1 locs ht _ h hw1 _ _ hS => ?_)
          subst ht
          have hw : wd D y z S146 A t.heap := hw1
          clear hw1 h1
          have hcu : (cu + k147) + (mc - k147) ≤ MC := by omega
          have hsu : (su + n148) + (ms - n148) ≤ MS := by omega
          refine lv_istore hx hb dL_law_717 hl (by decide) rfl (fun ls hl => ?_)
          have hl : lv_has ls 9 [(5, .int r145), (0, .ref v0), (1, .ref v1), (2, .ref v2), (3, .ref v3), (4, .int v4)] := hl
          refine lv_aload_n hx hb dL_law_719 rfl (lv_at hl 3 rfl) ?_
          refine lv_aload_n hx hb dL_law_720 rfl (lv_at hl 1 rfl) ?_
          refine lv_iload hx hb dL_law_721 (lv_at hl 5 rfl) ?_
          refine lv_iconst (v := (1 : Int32)) hx hb dL_law_723 (by decide) ?_
          refine lv_iadd hx hb dL_law_724 ?_
          obtain ⟨hk149, h⟩ := h
          obtain ⟨hin150, h⟩ := h
          refine r_iald hx hb hK hw hk149 hin150 dL_law_725 ?_
          refine lv_aload_n hx hb dL_law_726 rfl (lv_at hl 1 rfl) ?_
          refine lv_iload hx hb dL_law_727 (lv_at hl 5 rfl) ?_
          refine lv_iconst (v := (2 : Int32)) hx hb dL_law_729 (by decide) ?_
          refine lv_iadd hx hb dL_law_730 ?_
          obtain ⟨hin151, h⟩ := h
          refine r_iald hx hb hK hw hk149 hin151 dL_law_731 ?_
          obtain ⟨hk152, h⟩ := h
          have h1 := h
          refine va_calli (va_runV (As := [.int (gV S146 9 v0 (Int32.toNatClampNeg (v4 + (1 : Int32)))), .int (gV S146 9 v0 (Int32.toNatClampNeg (v4 + (2 : Int32))))]) (rest := []) ⟨hx, hb, hml, hown, hts⟩ (m_X6_carrier (l := l) h1) (cwV 2 hts gL_law_X6_carrier rfl rfl rfl (by decide +kernel) ⟨Nat.le_trans (Nat.le_of_ble_eq_true rfl) hRf, Nat.le_trans (Nat.le_of_ble_eq_true rfl) hRl⟩) (r_pV hB hw hS (ce_8 (S := S146) hk152) rfl) rfl rfl hl.1 rfl (lv_room (Nat.le_of_ble_eq_true rfl)) dL_law_732 ⟨by omega, by omega⟩) hS (fun _ _ h => h) (fun _ h => h) (fun r153 S154 t H1 locs ht _ h hw1 _ _ hS => ?_)
          subst ht
          have hw : wd D y z S154 A t.heap := hw1
          clear hw1 h1
          refine lv_istore hx hb dL_law_735 hl (by decide) rfl (fun ls hl => ?_)
          have hl : lv_has ls 9 [(6, .int r153), (5, .int r145), (0, .ref v0), (1, .ref v1), (2, .ref v2), (3, .ref v3), (4, .int v4)] := hl
          refine lv_aload_n hx hb dL_law_737 rfl (lv_at hl 4 rfl) ?_
          obtain ⟨hk155, h⟩ := h
          have h1 := h
          refine va_calli (va_runV (As := []) (rest := []) ⟨hx, hb, hml, hown, hts⟩ (m_X6_thrown (l := l) h1) (cwV 0 hts gL_law_X6_thrown rfl rfl rfl (by decide +kernel) ⟨Nat.le_trans (Nat.le_of_ble_eq_true rfl) hRf, Nat.le_trans (Nat.le_of_ble_eq_true rfl) hRl⟩) (r_pV hB hw hS (ce_8 (S := S154) hk155) rfl) rfl rfl hl.1 rfl (lv_room (Nat.le_of_ble_eq_true rfl)) dL_law_738 ⟨by omega, by omega⟩) hS (fun _ _ h => h) (fun _ h => h) (fun r156 S157 t H1 locs ht _ h hw1 _ _ hS => ?_)
          subst ht
          have hw : wd D y z S157 A t.heap := hw1
          clear hw1 h1
          refine lv_iload hx hb dL_law_741 (lv_at hl 1 rfl) ?_
          refine lv_icmp_eq (tgt := 748) hx hb dL_law_743 (by decide) (fun hc => ?_) (fun hc => ?_)
          · have h := h.1 hc
            refine lv_iload hx hb dL_law_748 (lv_at hl 1 rfl) ?_
            refine lv_if_ne (tgt := 765) hx hb dL_law_750 (by decide) (fun hc => ?_) (fun hc => ?_)
            · have h := h.1 hc
              exact hB765 _ _ _ _ _ _ _ _ _ _ _ _ _ _ h hw hS (lv_sub hl [2, 3, 4, 5, 6] rfl) hcu hsu hd0
            · have h := h.2 hc
              refine lv_aload_n hx hb dL_law_753 rfl (lv_at hl 5 rfl) ?_
              refine lv_iconst (v := (0 : Int32)) hx hb dL_law_754 (by decide) ?_
              obtain ⟨hk158, h⟩ := h
              obtain ⟨hin159, h⟩ := h
              refine r_lald hx hb hK hw hk158 hin159 dL_law_755 ?_
              refine lv_iload hx hb dL_law_756 (lv_at hl 0 rfl) ?_
              refine lv_i2l (v := (Int32.toInt64 r153)) hx hb dL_law_758 rfl ?_
              refine W.lcmp hx hb dL_law_759 ?_
              refine lv_if_eq (tgt := 765) hx hb dL_law_760 (by decide) (fun hc => ?_) (fun hc => ?_)
              · have h := h.1 hc
                exact hB765 _ _ _ _ _ _ _ _ _ _ _ _ _ _ h hw hS (lv_sub hl [2, 3, 4, 5, 6] rfl) hcu hsu hd0
              · have h := h.2 hc
                refine lv_iconst (v := (0 : Int32)) hx hb dL_law_763 (by decide) ?_
                exact hret _ _ _ _ _ _ _ _ _ h hw hS (by omega) (by omega) hd0 dL_law_764
          · have h := h.2 hc
            refine lv_iconst (v := (0 : Int32)) hx hb dL_law_746 (by decide) ?_
            exact hret _ _ _ _ _ _ _ _ _ h hw hS (by omega) (by omega) hd0 dL_law_747
        by_cases hq8 : ((gV S 9 v0 (Int32.toNatClampNeg v4)) &&& (31 : Int32)) = (8 : Int32)
        · have h := h.2.2.2.2.2.2.2.2.1 hq8
          refine lv_tableIn (off := 728) (tgt := 768) hx hb dL_law_40 (by rw [hq8]; decide) (by rw [hq8]; decide) (by rw [hq8]; decide) (by decide) ?_
          refine lv_aload_n hx hb dL_law_768 rfl (lv_at hl 1 rfl) ?_
          refine lv_aload_n hx hb dL_law_769 rfl (lv_at hl 0 rfl) ?_
          refine lv_iload hx hb dL_law_770 (lv_at hl 4 rfl) ?_
          refine lv_iconst (v := (1 : Int32)) hx hb dL_law_772 (by decide) ?_
          refine lv_iadd hx hb dL_law_773 ?_
          obtain ⟨hin160, h⟩ := h
          refine r_iald hx hb hK hw hk18 hin160 dL_law_774 ?_
          refine lv_aload_n hx hb dL_law_775 rfl (lv_at hl 3 rfl) ?_
          obtain ⟨k163, n164, hbg1, hbg2, h⟩ := h
          have h1 := h
          refine va_calli (vx_runSW (As := [.ref v1, .int (gV S 9 v0 (Int32.toNatClampNeg (v4 + (1 : Int32)))), .ref v3]) (rest := []) ⟨hx, hb, hml, hown, hts⟩ (m_L_count (l := l) hl0 h1) (vx_cwSW 3 htx (goodQ gL_law_L_count (by decide)) rfl rfl rfl ⟨by decide +kernel, by decide +kernel, by decide +kernel⟩ ⟨Nat.le_trans (Nat.le_of_ble_eq_true rfl) hRf, Nat.le_trans (Nat.le_of_ble_eq_true rfl) hRl⟩) (r_pS hB hw hS) rfl rfl hl.1 rfl (lv_room (Nat.le_of_ble_eq_true rfl)) dL_law_776 ⟨by omega, by omega⟩) hS (fun _ _ h => h) (fun _ h => h) (fun r161 S162 t H1 locs ht _ h hw1 _ _ hS => ?_)
          subst ht
          have hw : wd D y z S162 A t.heap := hw1
          clear hw1 h1
          have hcu : (cu + k163) + (mc - k163) ≤ MC := by omega
          have hsu : (su + n164) + (ms - n164) ≤ MS := by omega
          refine lv_istore hx hb dL_law_779 hl (by decide) rfl (fun ls hl => ?_)
          have hl : lv_has ls 9 [(5, .int r161), (0, .ref v0), (1, .ref v1), (2, .ref v2), (3, .ref v3), (4, .int v4)] := hl
          refine lv_aload_n hx hb dL_law_781 rfl (lv_at hl 3 rfl) ?_
          refine lv_aload_n hx hb dL_law_782 rfl (lv_at hl 1 rfl) ?_
          refine lv_iload hx hb dL_law_783 (lv_at hl 5 rfl) ?_
          refine lv_iconst (v := (1 : Int32)) hx hb dL_law_785 (by decide) ?_
          refine lv_iadd hx hb dL_law_786 ?_
          obtain ⟨hk165, h⟩ := h
          obtain ⟨hin166, h⟩ := h
          refine r_iald hx hb hK hw hk165 hin166 dL_law_787 ?_
          obtain ⟨hk167, h⟩ := h
          have h1 := h
          refine va_calli (va_runV (As := [.int (gV S162 9 v0 (Int32.toNatClampNeg (v4 + (1 : Int32))))]) (rest := []) ⟨hx, hb, hml, hown, hts⟩ (m_X6_count (l := l) h1) (cwV 1 hts gL_law_X6_count rfl rfl rfl (by decide +kernel) ⟨Nat.le_trans (Nat.le_of_ble_eq_true rfl) hRf, Nat.le_trans (Nat.le_of_ble_eq_true rfl) hRl⟩) (r_pV hB hw hS (ce_8 (S := S162) hk167) rfl) rfl rfl hl.1 rfl (lv_room (Nat.le_of_ble_eq_true rfl)) dL_law_788 ⟨by omega, by omega⟩) hS (fun _ _ h => h) (fun _ h => h) (fun r168 S169 t H1 locs ht _ h hw1 _ _ hS => ?_)
          subst ht
          have hw : wd D y z S169 A t.heap := hw1
          clear hw1 h1
          refine lv_istore hx hb dL_law_791 hl (by decide) rfl (fun ls hl => ?_)
          have hl : lv_has ls 9 [(6, .int r168), (5, .int r161), (0, .ref v0), (1, .ref v1), (2, .ref v2), (3, .ref v3), (4, .int v4)] := hl
          refine lv_aload_n hx hb dL_law_793 rfl (lv_at hl 4 rfl) ?_
          obtain ⟨hk170, h⟩ := h
          have h1 := h
          refine va_calli (va_runV (As := []) (rest := []) ⟨hx, hb, hml, hown, hts⟩ (m_X6_thrown (l := l) h1) (cwV 0 hts gL_law_X6_thrown rfl rfl rfl (by decide +kernel) ⟨Nat.le_trans (Nat.le_of_ble_eq_true rfl) hRf, Nat.le_trans (Nat.le_of_ble_eq_true rfl) hRl⟩) (r_pV hB hw hS (ce_8 (S := S169) hk170) rfl) rfl rfl hl.1 rfl (lv_room (Nat.le_of_ble_eq_true rfl)) dL_law_794 ⟨by omega, by omega⟩) hS (fun _ _ h => h) (fun _ h => h) (fun r171 S172 t H1 locs ht _ h hw1 _ _ hS => ?_)
          subst ht
          have hw : wd D y z S172 A t.heap := hw1
          clear hw1 h1
          refine lv_iload hx hb dL_law_797 (lv_at hl 1 rfl) ?_
          refine lv_icmp_eq (tgt := 804) hx hb dL_law_799 (by decide) (fun hc => ?_) (fun hc => ?_)
          · have h := h.1 hc
            refine lv_iload hx hb dL_law_804 (lv_at hl 1 rfl) ?_
            refine lv_if_ne (tgt := 821) hx hb dL_law_806 (by decide) (fun hc => ?_) (fun hc => ?_)
            · have h := h.1 hc
              exact hB821 _ _ _ _ _ _ _ _ _ _ _ _ _ _ h hw hS (lv_sub hl [2, 3, 4, 5, 6] rfl) hcu hsu hd0
            · have h := h.2 hc
              refine lv_aload_n hx hb dL_law_809 rfl (lv_at hl 5 rfl) ?_
              refine lv_iconst (v := (0 : Int32)) hx hb dL_law_810 (by decide) ?_
              obtain ⟨hk173, h⟩ := h
              obtain ⟨hin174, h⟩ := h
              refine r_lald hx hb hK hw hk173 hin174 dL_law_811 ?_
              refine lv_iload hx hb dL_law_812 (lv_at hl 0 rfl) ?_
              refine lv_i2l (v := (Int32.toInt64 r168)) hx hb dL_law_814 rfl ?_
              refine W.lcmp hx hb dL_law_815 ?_
              refine lv_if_eq (tgt := 821) hx hb dL_law_816 (by decide) (fun hc => ?_) (fun hc => ?_)
              · have h := h.1 hc
                exact hB821 _ _ _ _ _ _ _ _ _ _ _ _ _ _ h hw hS (lv_sub hl [2, 3, 4, 5, 6] rfl) hcu hsu hd0
              · have h := h.2 hc
                refine lv_iconst (v := (0 : Int32)) hx hb dL_law_819 (by decide) ?_
                exact hret _ _ _ _ _ _ _ _ _ h hw hS (by omega) (by omega) hd0 dL_law_820
          · have h := h.2 hc
            refine lv_iconst (v := (0 : Int32)) hx hb dL_law_802 (by decide) ?_
            exact hret _ _ _ _ _ _ _ _ _ h hw hS (by omega) (by omega) hd0 dL_law_803
        by_cases hq9 : ((gV S 9 v0 (Int32.toNatClampNeg v4)) &&& (31 : Int32)) = (9 : Int32)
        · have h := h.2.2.2.2.2.2.2.2.2.1 hq9
          refine lv_tableIn (off := 784) (tgt := 824) hx hb dL_law_40 (by rw [hq9]; decide) (by rw [hq9]; decide) (by rw [hq9]; decide) (by decide) ?_
          refine lv_aload_n hx hb dL_law_824 rfl (lv_at hl 1 rfl) ?_
          refine lv_aload_n hx hb dL_law_825 rfl (lv_at hl 0 rfl) ?_
          refine lv_iload hx hb dL_law_826 (lv_at hl 4 rfl) ?_
          refine lv_iconst (v := (1 : Int32)) hx hb dL_law_828 (by decide) ?_
          refine lv_iadd hx hb dL_law_829 ?_
          obtain ⟨hin175, h⟩ := h
          refine r_iald hx hb hK hw hk18 hin175 dL_law_830 ?_
          refine lv_aload_n hx hb dL_law_831 rfl (lv_at hl 0 rfl) ?_
          refine lv_iload hx hb dL_law_832 (lv_at hl 4 rfl) ?_
          refine lv_iconst (v := (2 : Int32)) hx hb dL_law_834 (by decide) ?_
          refine lv_iadd hx hb dL_law_835 ?_
          obtain ⟨hin176, h⟩ := h
          refine r_iald hx hb hK hw hk18 hin176 dL_law_836 ?_
          refine lv_aload_n hx hb dL_law_837 rfl (lv_at hl 3 rfl) ?_
          obtain ⟨k179, n180, hbg1, hbg2, h⟩ := h
          have h1 := h
          refine va_calli (vx_runSW (As := [.ref v1, .int (gV S 9 v0 (Int32.toNatClampNeg (v4 + (1 : Int32)))), .int (gV S 9 v0 (Int32.toNatClampNeg (v4 + (2 : Int32)))), .ref v3]) (rest := []) ⟨hx, hb, hml, hown, hts⟩ (m_L_station (l := l) hl0 h1) (vx_cwSW 4 htx (goodQ gL_law_L_station (by decide)) rfl rfl rfl ⟨by decide +kernel, by decide +kernel, by decide +kernel⟩ ⟨Nat.le_trans (Nat.le_of_ble_eq_true rfl) hRf, Nat.le_trans (Nat.le_of_ble_eq_true rfl) hRl⟩) (r_pS hB hw hS) rfl rfl hl.1 rfl (lv_room (Nat.le_of_ble_eq_true rfl)) dL_law_838 ⟨by omega, by omega⟩) hS (fun _ _ h => h) (fun _ h => h) (fun r177 S178 t H1 locs ht _ h hw1 _ _ hS => ?_)
          subst ht
          have hw : wd D y z S178 A t.heap := hw1
          clear hw1 h1
          have hcu : (cu + k179) + (mc - k179) ≤ MC := by omega
          have hsu : (su + n180) + (ms - n180) ≤ MS := by omega
          refine lv_istore hx hb dL_law_841 hl (by decide) rfl (fun ls hl => ?_)
          have hl : lv_has ls 9 [(5, .int r177), (0, .ref v0), (1, .ref v1), (2, .ref v2), (3, .ref v3), (4, .int v4)] := hl
          refine lv_aload_n hx hb dL_law_843 rfl (lv_at hl 3 rfl) ?_
          refine lv_aload_n hx hb dL_law_844 rfl (lv_at hl 1 rfl) ?_
          refine lv_iload hx hb dL_law_845 (lv_at hl 5 rfl) ?_
          refine lv_iconst (v := (1 : Int32)) hx hb dL_law_847 (by decide) ?_
          refine lv_iadd hx hb dL_law_848 ?_
          obtain ⟨hk181, h⟩ := h
          obtain ⟨hin182, h⟩ := h
          refine r_iald hx hb hK hw hk181 hin182 dL_law_849 ?_
          refine lv_aload_n hx hb dL_law_850 rfl (lv_at hl 1 rfl) ?_
          refine lv_iload hx hb dL_law_851 (lv_at hl 5 rfl) ?_
          refine lv_iconst (v := (2 : Int32)) hx hb dL_law_853 (by decide) ?_
          refine lv_iadd hx hb dL_law_854 ?_
          obtain ⟨hin183, h⟩ := h
          refine r_iald hx hb hK hw hk181 hin183 dL_law_855 ?_
          obtain ⟨hk184, h⟩ := h
          have h1 := h
          refine va_calli (va_runV (As := [.int (gV S178 9 v0 (Int32.toNatClampNeg (v4 + (1 : Int32)))), .int (gV S178 9 v0 (Int32.toNatClampNeg (v4 + (2 : Int32))))]) (rest := []) ⟨hx, hb, hml, hown, hts⟩ (m_X6_station (l := l) h1) (cwV 2 hts gL_law_X6_station rfl rfl rfl (by decide +kernel) ⟨Nat.le_trans (Nat.le_of_ble_eq_true rfl) hRf, Nat.le_trans (Nat.le_of_ble_eq_true rfl) hRl⟩) (r_pV hB hw hS (ce_8 (S := S178) hk184) rfl) rfl rfl hl.1 rfl (lv_room (Nat.le_of_ble_eq_true rfl)) dL_law_856 ⟨by omega, by omega⟩) hS (fun _ _ h => h) (fun _ h => h) (fun r185 S186 t H1 locs ht _ h hw1 _ _ hS => ?_)
          subst ht
          have hw : wd D y z S186 A t.heap := hw1
          clear hw1 h1
          refine lv_istore hx hb dL_law_859 hl (by decide) rfl (fun ls hl => ?_)
          have hl : lv_has ls 9 [(6, .int r185), (5, .int r177), (0, .ref v0), (1, .ref v1), (2, .ref v2), (3, .ref v3), (4, .int v4)] := hl
          refine lv_aload_n hx hb dL_law_861 rfl (lv_at hl 4 rfl) ?_
          obtain ⟨hk187, h⟩ := h
          have h1 := h
          refine va_calli (va_runV (As := []) (rest := []) ⟨hx, hb, hml, hown, hts⟩ (m_X6_thrown (l := l) h1) (cwV 0 hts gL_law_X6_thrown rfl rfl rfl (by decide +kernel) ⟨Nat.le_trans (Nat.le_of_ble_eq_true rfl) hRf, Nat.le_trans (Nat.le_of_ble_eq_true rfl) hRl⟩) (r_pV hB hw hS (ce_8 (S := S186) hk187) rfl) rfl rfl hl.1 rfl (lv_room (Nat.le_of_ble_eq_true rfl)) dL_law_862 ⟨by omega, by omega⟩) hS (fun _ _ h => h) (fun _ h => h) (fun r188 S189 t H1 locs ht _ h hw1 _ _ hS => ?_)
          subst ht
          have hw : wd D y z S189 A t.heap := hw1
          clear hw1 h1
          refine lv_iload hx hb dL_law_865 (lv_at hl 1 rfl) ?_
          refine lv_icmp_eq (tgt := 872) hx hb dL_law_867 (by decide) (fun hc => ?_) (fun hc => ?_)
          · have h := h.1 hc
            refine lv_iload hx hb dL_law_872 (lv_at hl 1 rfl) ?_
            refine lv_if_ne (tgt := 889) hx hb dL_law_874 (by decide) (fun hc => ?_) (fun hc => ?_)
            · have h := h.1 hc
              exact hB889 _ _ _ _ _ _ _ _ _ _ _ _ _ _ h hw hS (lv_sub hl [2, 3, 4, 5, 6] rfl) hcu hsu hd0
            · have h := h.2 hc
              refine lv_aload_n hx hb dL_law_877 rfl (lv_at hl 5 rfl) ?_
              refine lv_iconst (v := (0 : Int32)) hx hb dL_law_878 (by decide) ?_
              obtain ⟨hk190, h⟩ := h
              obtain ⟨hin191, h⟩ := h
              refine r_lald hx hb hK hw hk190 hin191 dL_law_879 ?_
              refine lv_iload hx hb dL_law_880 (lv_at hl 0 rfl) ?_
              refine lv_i2l (v := (Int32.toInt64 r185)) hx hb dL_law_882 rfl ?_
              refine W.lcmp hx hb dL_law_883 ?_
              refine lv_if_eq (tgt := 889) hx hb dL_law_884 (by decide) (fun hc => ?_) (fun hc => ?_)
              · have h := h.1 hc
                exact hB889 _ _ _ _ _ _ _ _ _ _ _ _ _ _ h hw hS (lv_sub hl [2, 3, 4, 5, 6] rfl) hcu hsu hd0
              · have h := h.2 hc
                refine lv_iconst (v := (0 : Int32)) hx hb dL_law_887 (by decide) ?_
                exact hret _ _ _ _ _ _ _ _ _ h hw hS (by omega) (by omega) hd0 dL_law_888
          · have h := h.2 hc
            refine lv_iconst (v := (0 : Int32)) hx hb dL_law_870 (by decide) ?_
            exact hret _ _ _ _ _ _ _ _ _ h hw hS (by omega) (by omega) hd0 dL_law_871
        by_cases hq10 : ((gV S 9 v0 (Int32.toNatClampNeg v4)) &&& (31 : Int32)) = (10 : Int32)
        · have h := h.2.2.2.2.2.2.2.2.2.2.1 hq10
          refine lv_tableIn (off := 852) (tgt := 892) hx hb dL_law_40 (by rw [hq10]; decide) (by rw [hq10]; decide) (by rw [hq10]; decide) (by decide) ?_
          refine lv_aload_n hx hb dL_law_892 rfl (lv_at hl 1 rfl) ?_
          refine lv_aload_n hx hb dL_law_893 rfl (lv_at hl 0 rfl) ?_
          refine lv_iload hx hb dL_law_894 (lv_at hl 4 rfl) ?_
          refine lv_iconst (v := (1 : Int32)) hx hb dL_law_896 (by decide) ?_
          refine lv_iadd hx hb dL_law_897 ?_
          obtain ⟨hin192, h⟩ := h
          refine r_iald hx hb hK hw hk18 hin192 dL_law_898 ?_
          refine lv_aload_n hx hb dL_law_899 rfl (lv_at hl 0 rfl) ?_
          refine lv_iload hx hb dL_law_900 (lv_at hl 4 rfl) ?_
          refine lv_iconst (v := (2 : Int32)) hx hb dL_law_902 (by decide) ?_
          refine lv_iadd hx hb dL_law_903 ?_
          obtain ⟨hin193, h⟩ := h
          refine r_iald hx hb hK hw hk18 hin193 dL_law_904 ?_
          refine lv_aload_n hx hb dL_law_905 rfl (lv_at hl 3 rfl) ?_
          obtain ⟨k196, n197, hbg1, hbg2, h⟩ := h
          have h1 := h
          refine va_calli (vx_runSW (As := [.ref v1, .int (gV S 9 v0 (Int32.toNatClampNeg (v4 + (1 : Int32)))), .int (gV S 9 v0 (Int32.toNatClampNeg (v4 + (2 : Int32)))), .ref v3]) (rest := []) ⟨hx, hb, hml, hown, hts⟩ (m_L_tube (l := l) hl0 h1) (vx_cwSW 4 htx (goodQ gL_law_L_tube (by decide)) rfl rfl rfl ⟨by decide +kernel, by decide +kernel, by decide +kernel⟩ ⟨Nat.le_trans (Nat.le_of_ble_eq_true rfl) hRf, Nat.le_trans (Nat.le_of_ble_eq_true rfl) hRl⟩) (r_pS hB hw hS) rfl rfl hl.1 rfl (lv_room (Nat.le_of_ble_eq_true rfl)) dL_law_906 ⟨by omega, by omega⟩) hS (fun _ _ h => h) (fun _ h => h) (fun r194 S195 t H1 locs ht _ h hw1 _ _ hS => ?_)
          subst ht
          have hw : wd D y z S195 A t.heap := hw1
          clear hw1 h1
          have hcu : (cu + k196) + (mc - k196) ≤ MC := by omega
          have hsu : (su + n197) + (ms - n197) ≤ MS := by omega
          refine lv_istore hx hb dL_law_909 hl (by decide) rfl (fun ls hl => ?_)
          have hl : lv_has ls 9 [(5, .int r194), (0, .ref v0), (1, .ref v1), (2, .ref v2), (3, .ref v3), (4, .int v4)] := hl
          refine lv_aload_n hx hb dL_law_911 rfl (lv_at hl 3 rfl) ?_
          refine lv_aload_n hx hb dL_law_912 rfl (lv_at hl 1 rfl) ?_
          refine lv_iload hx hb dL_law_913 (lv_at hl 5 rfl) ?_
          refine lv_iconst (v := (1 : Int32)) hx hb dL_law_915 (by decide) ?_
          refine lv_iadd hx hb dL_law_916 ?_
          obtain ⟨hk198, h⟩ := h
          obtain ⟨hin199, h⟩ := h
          refine r_iald hx hb hK hw hk198 hin199 dL_law_917 ?_
          refine lv_aload_n hx hb dL_law_918 rfl (lv_at hl 1 rfl) ?_
          refine lv_iload hx hb dL_law_919 (lv_at hl 5 rfl) ?_
          refine lv_iconst (v := (2 : Int32)) hx hb dL_law_921 (by decide) ?_
          refine lv_iadd hx hb dL_law_922 ?_
          obtain ⟨hin200, h⟩ := h
          refine r_iald hx hb hK hw hk198 hin200 dL_law_923 ?_
          obtain ⟨hk201, h⟩ := h
          have h1 := h
          refine va_calli (va_runV (As := [.int (gV S195 9 v0 (Int32.toNatClampNeg (v4 + (1 : Int32)))), .int (gV S195 9 v0 (Int32.toNatClampNeg (v4 + (2 : Int32))))]) (rest := []) ⟨hx, hb, hml, hown, hts⟩ (m_X6_tube (l := l) h1) (cwV 2 hts gL_law_X6_tube rfl rfl rfl (by decide +kernel) ⟨Nat.le_trans (Nat.le_of_ble_eq_true rfl) hRf, Nat.le_trans (Nat.le_of_ble_eq_true rfl) hRl⟩) (r_pV hB hw hS (ce_8 (S := S195) hk201) rfl) rfl rfl hl.1 rfl (lv_room (Nat.le_of_ble_eq_true rfl)) dL_law_924 ⟨by omega, by omega⟩) hS (fun _ _ h => h) (fun _ h => h) (fun r202 S203 t H1 locs ht _ h hw1 _ _ hS => ?_)
          subst ht
          have hw : wd D y z S203 A t.heap := hw1
          clear hw1 h1
          refine lv_istore hx hb dL_law_927 hl (by decide) rfl (fun ls hl => ?_)
          have hl : lv_has ls 9 [(6, .int r202), (5, .int r194), (0, .ref v0), (1, .ref v1), (2, .ref v2), (3, .ref v3), (4, .int v4)] := hl
          refine lv_aload_n hx hb dL_law_929 rfl (lv_at hl 4 rfl) ?_
          obtain ⟨hk204, h⟩ := h
          have h1 := h
          refine va_calli (va_runV (As := []) (rest := []) ⟨hx, hb, hml, hown, hts⟩ (m_X6_thrown (l := l) h1) (cwV 0 hts gL_law_X6_thrown rfl rfl rfl (by decide +kernel) ⟨Nat.le_trans (Nat.le_of_ble_eq_true rfl) hRf, Nat.le_trans (Nat.le_of_ble_eq_true rfl) hRl⟩) (r_pV hB hw hS (ce_8 (S := S203) hk204) rfl) rfl rfl hl.1 rfl (lv_room (Nat.le_of_ble_eq_true rfl)) dL_law_930 ⟨by omega, by omega⟩) hS (fun _ _ h => h) (fun _ h => h) (fun r205 S206 t H1 locs ht _ h hw1 _ _ hS => ?_)
          subst ht
          have hw : wd D y z S206 A t.heap := hw1
          clear hw1 h1
          refine lv_iload hx hb dL_law_933 (lv_at hl 1 rfl) ?_
          refine lv_icmp_eq (tgt := 940) hx hb dL_law_935 (by decide) (fun hc => ?_) (fun hc => ?_)
          · have h := h.1 hc
            refine lv_iload hx hb dL_law_940 (lv_at hl 1 rfl) ?_
            refine lv_if_ne (tgt := 957) hx hb dL_law_942 (by decide) (fun hc => ?_) (fun hc => ?_)
            · have h := h.1 hc
              exact hB957 _ _ _ _ _ _ _ _ _ _ _ _ _ _ h hw hS (lv_sub hl [2, 3, 4, 5, 6] rfl) hcu hsu hd0
            · have h := h.2 hc
              refine lv_aload_n hx hb dL_law_945 rfl (lv_at hl 5 rfl) ?_
              refine lv_iconst (v := (0 : Int32)) hx hb dL_law_946 (by decide) ?_
              obtain ⟨hk207, h⟩ := h
              obtain ⟨hin208, h⟩ := h
              refine r_lald hx hb hK hw hk207 hin208 dL_law_947 ?_
              refine lv_iload hx hb dL_law_948 (lv_at hl 0 rfl) ?_
              refine lv_i2l (v := (Int32.toInt64 r202)) hx hb dL_law_950 rfl ?_
              refine W.lcmp hx hb dL_law_951 ?_
              refine lv_if_eq (tgt := 957) hx hb dL_law_952 (by decide) (fun hc => ?_) (fun hc => ?_)
              · have h := h.1 hc
                exact hB957 _ _ _ _ _ _ _ _ _ _ _ _ _ _ h hw hS (lv_sub hl [2, 3, 4, 5, 6] rfl) hcu hsu hd0
              · have h := h.2 hc
                refine lv_iconst (v := (0 : Int32)) hx hb dL_law_955 (by decide) ?_
                exact hret _ _ _ _ _ _ _ _ _ h hw hS (by omega) (by omega) hd0 dL_law_956
          · have h := h.2 hc
            refine lv_iconst (v := (0 : Int32)) hx hb dL_law_938 (by decide) ?_
            exact hret _ _ _ _ _ _ _ _ _ h hw hS (by omega) (by omega) hd0 dL_law_939
        by_cases hq11 : ((gV S 9 v0 (Int32.toNatClampNeg v4)) &&& (31 : Int32)) = (11 : Int32)
        · have h := h.2.2.2.2.2.2.2.2.2.2.2.1 hq11
          refine lv_tableIn (off := 920) (tgt := 960) hx hb dL_law_40 (by rw [hq11]; decide) (by rw [hq11]; decide) (by rw [hq11]; decide) (by decide) ?_
          refine lv_aload_n hx hb dL_law_960 rfl (lv_at hl 1 rfl) ?_
          refine lv_aload_n hx hb dL_law_961 rfl (lv_at hl 0 rfl) ?_
          refine lv_iload hx hb dL_law_962 (lv_at hl 4 rfl) ?_
          refine lv_iconst (v := (1 : Int32)) hx hb dL_law_964 (by decide) ?_
          refine lv_iadd hx hb dL_law_965 ?_
          obtain ⟨hin209, h⟩ := h
          refine r_iald hx hb hK hw hk18 hin209 dL_law_966 ?_
          refine lv_aload_n hx hb dL_law_967 rfl (lv_at hl 0 rfl) ?_
          refine lv_iload hx hb dL_law_968 (lv_at hl 4 rfl) ?_
          refine lv_iconst (v := (2 : Int32)) hx hb dL_law_970 (by decide) ?_
          refine lv_iadd hx hb dL_law_971 ?_
          obtain ⟨hin210, h⟩ := h
          refine r_iald hx hb hK hw hk18 hin210 dL_law_972 ?_
          refine lv_aload_n hx hb dL_law_973 rfl (lv_at hl 3 rfl) ?_
          obtain ⟨k213, n214, hbg1, hbg2, h⟩ := h
          have h1 := h
          refine va_calli (vx_runSW (As := [.ref v1, .int (gV S 9 v0 (Int32.toNatClampNeg (v4 + (1 : Int32)))), .int (gV S 9 v0 (Int32.toNatClampNeg (v4 + (2 : Int32)))), .ref v3]) (rest := []) ⟨hx, hb, hml, hown, hts⟩ (m_L_there (l := l) hl0 h1) (vx_cwSW 4 htx (goodQ gL_law_L_there (by decide)) rfl rfl rfl ⟨by decide +kernel, by decide +kernel, by decide +kernel⟩ ⟨Nat.le_trans (Nat.le_of_ble_eq_true rfl) hRf, Nat.le_trans (Nat.le_of_ble_eq_true rfl) hRl⟩) (r_pS hB hw hS) rfl rfl hl.1 rfl (lv_room (Nat.le_of_ble_eq_true rfl)) dL_law_974 ⟨by omega, by omega⟩) hS (fun _ _ h => h) (fun _ h => h) (fun r211 S212 t H1 locs ht _ h hw1 _ _ hS => ?_)
          subst ht
          have hw : wd D y z S212 A t.heap := hw1
          clear hw1 h1
          have hcu : (cu + k213) + (mc - k213) ≤ MC := by omega
          have hsu : (su + n214) + (ms - n214) ≤ MS := by omega
          refine lv_istore hx hb dL_law_977 hl (by decide) rfl (fun ls hl => ?_)
          have hl : lv_has ls 9 [(5, .int r211), (0, .ref v0), (1, .ref v1), (2, .ref v2), (3, .ref v3), (4, .int v4)] := hl
          refine lv_aload_n hx hb dL_law_979 rfl (lv_at hl 3 rfl) ?_
          refine lv_aload_n hx hb dL_law_980 rfl (lv_at hl 1 rfl) ?_
          refine lv_iload hx hb dL_law_981 (lv_at hl 5 rfl) ?_
          refine lv_iconst (v := (1 : Int32)) hx hb dL_law_983 (by decide) ?_
          refine lv_iadd hx hb dL_law_984 ?_
          obtain ⟨hk215, h⟩ := h
          obtain ⟨hin216, h⟩ := h
          refine r_iald hx hb hK hw hk215 hin216 dL_law_985 ?_
          refine lv_aload_n hx hb dL_law_986 rfl (lv_at hl 1 rfl) ?_
          refine lv_iload hx hb dL_law_987 (lv_at hl 5 rfl) ?_
          refine lv_iconst (v := (2 : Int32)) hx hb dL_law_989 (by decide) ?_
          refine lv_iadd hx hb dL_law_990 ?_
          obtain ⟨hin217, h⟩ := h
          refine r_iald hx hb hK hw hk215 hin217 dL_law_991 ?_
          obtain ⟨hk218, h⟩ := h
          have h1 := h
          refine va_calli (va_runV (As := [.int (gV S212 9 v0 (Int32.toNatClampNeg (v4 + (1 : Int32)))), .int (gV S212 9 v0 (Int32.toNatClampNeg (v4 + (2 : Int32))))]) (rest := []) ⟨hx, hb, hml, hown, hts⟩ (m_X6_there (l := l) h1) (cwV 2 hts gL_law_X6_there rfl rfl rfl (by decide +kernel) ⟨Nat.le_trans (Nat.le_of_ble_eq_true rfl) hRf, Nat.le_trans (Nat.le_of_ble_eq_true rfl) hRl⟩) (r_pV hB hw hS (ce_8 (S := S212) hk218) rfl) rfl rfl hl.1 rfl (lv_room (Nat.le_of_ble_eq_true rfl)) dL_law_992 ⟨by omega, by omega⟩) hS (fun _ _ h => h) (fun _ h => h) (fun r219 S220 t H1 locs ht _ h hw1 _ _ hS => ?_)
          subst ht
          have hw : wd D y z S220 A t.heap := hw1
          clear hw1 h1
          refine lv_istore hx hb dL_law_995 hl (by decide) rfl (fun ls hl => ?_)
          have hl : lv_has ls 9 [(6, .int r219), (5, .int r211), (0, .ref v0), (1, .ref v1), (2, .ref v2), (3, .ref v3), (4, .int v4)] := hl
          refine lv_aload_n hx hb dL_law_997 rfl (lv_at hl 4 rfl) ?_
          obtain ⟨hk221, h⟩ := h
          have h1 := h
          refine va_calli (va_runV (As := []) (rest := []) ⟨hx, hb, hml, hown, hts⟩ (m_X6_thrown (l := l) h1) (cwV 0 hts gL_law_X6_thrown rfl rfl rfl (by decide +kernel) ⟨Nat.le_trans (Nat.le_of_ble_eq_true rfl) hRf, Nat.le_trans (Nat.le_of_ble_eq_true rfl) hRl⟩) (r_pV hB hw hS (ce_8 (S := S220) hk221) rfl) rfl rfl hl.1 rfl (lv_room (Nat.le_of_ble_eq_true rfl)) dL_law_998 ⟨by omega, by omega⟩) hS (fun _ _ h => h) (fun _ h => h) (fun r222 S223 t H1 locs ht _ h hw1 _ _ hS => ?_)
          subst ht
          have hw : wd D y z S223 A t.heap := hw1
          clear hw1 h1
          refine lv_iload hx hb dL_law_1001 (lv_at hl 1 rfl) ?_
          refine lv_icmp_eq (tgt := 1008) hx hb dL_law_1003 (by decide) (fun hc => ?_) (fun hc => ?_)
          · have h := h.1 hc
            refine lv_iload hx hb dL_law_1008 (lv_at hl 1 rfl) ?_
            refine lv_if_ne (tgt := 1025) hx hb dL_law_1010 (by decide) (fun hc => ?_) (fun hc => ?_)
            · have h := h.1 hc
              exact hB1025 _ _ _ _ _ _ _ _ _ _ _ _ _ _ h hw hS (lv_sub hl [2, 3, 4, 5, 6] rfl) hcu hsu hd0
            · have h := h.2 hc
              refine lv_aload_n hx hb dL_law_1013 rfl (lv_at hl 5 rfl) ?_
              refine lv_iconst (v := (0 : Int32)) hx hb dL_law_1014 (by decide) ?_
              obtain ⟨hk224, h⟩ := h
              obtain ⟨hin225, h⟩ := h
              refine r_lald hx hb hK hw hk224 hin225 dL_law_1015 ?_
              refine lv_iload hx hb dL_law_1016 (lv_at hl 0 rfl) ?_
              refine lv_i2l (v := (Int32.toInt64 r219)) hx hb dL_law_1018 rfl ?_
              refine W.lcmp hx hb dL_law_1019 ?_
              refine lv_if_eq (tgt := 1025) hx hb dL_law_1020 (by decide) (fun hc => ?_) (fun hc => ?_)
              · have h := h.1 hc
                exact hB1025 _ _ _ _ _ _ _ _ _ _ _ _ _ _ h hw hS (lv_sub hl [2, 3, 4, 5, 6] rfl) hcu hsu hd0
              · have h := h.2 hc
                refine lv_iconst (v := (0 : Int32)) hx hb dL_law_1023 (by decide) ?_
                exact hret _ _ _ _ _ _ _ _ _ h hw hS (by omega) (by omega) hd0 dL_law_1024
          · have h := h.2 hc
            refine lv_iconst (v := (0 : Int32)) hx hb dL_law_1006 (by decide) ?_
            exact hret _ _ _ _ _ _ _ _ _ h hw hS (by omega) (by omega) hd0 dL_law_1007
        by_cases hq12 : ((gV S 9 v0 (Int32.toNatClampNeg v4)) &&& (31 : Int32)) = (12 : Int32)
        · have h := h.2.2.2.2.2.2.2.2.2.2.2.2.1 hq12
          refine lv_tableIn (off := 988) (tgt := 1028) hx hb dL_law_40 (by rw [hq12]; decide) (by rw [hq12]; decide) (by rw [hq12]; decide) (by decide) ?_
          refine lv_aload_n hx hb dL_law_1028 rfl (lv_at hl 1 rfl) ?_
          refine lv_aload_n hx hb dL_law_1029 rfl (lv_at hl 0 rfl) ?_
          refine lv_iload hx hb dL_law_1030 (lv_at hl 4 rfl) ?_
          refine lv_iconst (v := (1 : Int32)) hx hb dL_law_1032 (by decide) ?_
          refine lv_iadd hx hb dL_law_1033 ?_
          obtain ⟨hin226, h⟩ := h
          refine r_iald hx hb hK hw hk18 hin226 dL_law_1034 ?_
          refine lv_aload_n hx hb dL_law_1035 rfl (lv_at hl 0 rfl) ?_
          refine lv_iload hx hb dL_law_1036 (lv_at hl 4 rfl) ?_
          refine lv_iconst (v := (2 : Int32)) hx hb dL_law_1038 (by decide) ?_
          refine lv_iadd hx hb dL_law_1039 ?_
          obtain ⟨hin227, h⟩ := h
          refine r_iald hx hb hK hw hk18 hin227 dL_law_1040 ?_
          refine lv_aload_n hx hb dL_law_1041 rfl (lv_at hl 3 rfl) ?_
          obtain ⟨k230, n231, hbg1, hbg2, h⟩ := h
          have h1 := h
          refine va_calli (vx_runSW (As := [.ref v1, .int (gV S 9 v0 (Int32.toNatClampNeg (v4 + (1 : Int32)))), .int (gV S 9 v0 (Int32.toNatClampNeg (v4 + (2 : Int32)))), .ref v3]) (rest := []) ⟨hx, hb, hml, hown, hts⟩ (m_L_time (l := l) hl0 h1) (vx_cwSW 4 htx (goodQ gL_law_L_time (by decide)) rfl rfl rfl ⟨by decide +kernel, by decide +kernel, by decide +kernel⟩ ⟨Nat.le_trans (Nat.le_of_ble_eq_true rfl) hRf, Nat.le_trans (Nat.le_of_ble_eq_true rfl) hRl⟩) (r_pS hB hw hS) rfl rfl hl.1 rfl (lv_room (Nat.le_of_ble_eq_true rfl)) dL_law_1042 ⟨by omega, by omega⟩) hS (fun _ _ h => h) (fun _ h => h) (fun r228 S229 t H1 locs ht _ h hw1 _ _ hS => ?_)
          subst ht
          have hw : wd D y z S229 A t.heap := hw1
          clear hw1 h1
          have hcu : (cu + k230) + (mc - k230) ≤ MC := by omega
          have hsu : (su + n231) + (ms - n231) ≤ MS := by omega
          refine lv_istore hx hb dL_law_1045 hl (by decide) rfl (fun ls hl => ?_)
          have hl : lv_has ls 9 [(5, .int r228), (0, .ref v0), (1, .ref v1), (2, .ref v2), (3, .ref v3), (4, .int v4)] := hl
          refine lv_aload_n hx hb dL_law_1047 rfl (lv_at hl 3 rfl) ?_
          refine lv_aload_n hx hb dL_law_1048 rfl (lv_at hl 1 rfl) ?_
          refine lv_iload hx hb dL_law_1049 (lv_at hl 5 rfl) ?_
          refine lv_iconst (v := (1 : Int32)) hx hb dL_law_1051 (by decide) ?_
          refine lv_iadd hx hb dL_law_1052 ?_
          obtain ⟨hk232, h⟩ := h
          obtain ⟨hin233, h⟩ := h
          refine r_iald hx hb hK hw hk232 hin233 dL_law_1053 ?_
          refine lv_aload_n hx hb dL_law_1054 rfl (lv_at hl 1 rfl) ?_
          refine lv_iload hx hb dL_law_1055 (lv_at hl 5 rfl) ?_
          refine lv_iconst (v := (2 : Int32)) hx hb dL_law_1057 (by decide) ?_
          refine lv_iadd hx hb dL_law_1058 ?_
          obtain ⟨hin234, h⟩ := h
          refine r_iald hx hb hK hw hk232 hin234 dL_law_1059 ?_
          obtain ⟨hk235, h⟩ := h
          have h1 := h
          refine va_calli (va_runV (As := [.int (gV S229 9 v0 (Int32.toNatClampNeg (v4 + (1 : Int32)))), .int (gV S229 9 v0 (Int32.toNatClampNeg (v4 + (2 : Int32))))]) (rest := []) ⟨hx, hb, hml, hown, hts⟩ (m_X6_time (l := l) h1) (cwV 2 hts gL_law_X6_time rfl rfl rfl (by decide +kernel) ⟨Nat.le_trans (Nat.le_of_ble_eq_true rfl) hRf, Nat.le_trans (Nat.le_of_ble_eq_true rfl) hRl⟩) (r_pV hB hw hS (ce_8 (S := S229) hk235) rfl) rfl rfl hl.1 rfl (lv_room (Nat.le_of_ble_eq_true rfl)) dL_law_1060 ⟨by omega, by omega⟩) hS (fun _ _ h => h) (fun _ h => h) (fun r236 S237 t H1 locs ht _ h hw1 _ _ hS => ?_)
          subst ht
          have hw : wd D y z S237 A t.heap := hw1
          clear hw1 h1
          refine lv_istore hx hb dL_law_1063 hl (by decide) rfl (fun ls hl => ?_)
          have hl : lv_has ls 9 [(6, .int r236), (5, .int r228), (0, .ref v0), (1, .ref v1), (2, .ref v2), (3, .ref v3), (4, .int v4)] := hl
          refine lv_aload_n hx hb dL_law_1065 rfl (lv_at hl 4 rfl) ?_
          obtain ⟨hk238, h⟩ := h
          have h1 := h
          refine va_calli (va_runV (As := []) (rest := []) ⟨hx, hb, hml, hown, hts⟩ (m_X6_thrown (l := l) h1) (cwV 0 hts gL_law_X6_thrown rfl rfl rfl (by decide +kernel) ⟨Nat.le_trans (Nat.le_of_ble_eq_true rfl) hRf, Nat.le_trans (Nat.le_of_ble_eq_true rfl) hRl⟩) (r_pV hB hw hS (ce_8 (S := S237) hk238) rfl) rfl rfl hl.1 rfl (lv_room (Nat.le_of_ble_eq_true rfl)) dL_law_1066 ⟨by omega, by omega⟩) hS (fun _ _ h => h) (fun _ h => h) (fun r239 S240 t H1 locs ht _ h hw1 _ _ hS => ?_)
          subst ht
          have hw : wd D y z S240 A t.heap := hw1
          clear hw1 h1
          refine lv_iload hx hb dL_law_1069 (lv_at hl 1 rfl) ?_
          refine lv_icmp_eq (tgt := 1076) hx hb dL_law_1071 (by decide) (fun hc => ?_) (fun hc => ?_)
          · have h := h.1 hc
            refine lv_iload hx hb dL_law_1076 (lv_at hl 1 rfl) ?_
            refine lv_if_ne (tgt := 1093) hx hb dL_law_1078 (by decide) (fun hc => ?_) (fun hc => ?_)
            · have h := h.1 hc
              exact hB1093 _ _ _ _ _ _ _ _ _ _ _ _ _ _ h hw hS (lv_sub hl [2, 3, 4, 5, 6] rfl) hcu hsu hd0
            · have h := h.2 hc
              refine lv_aload_n hx hb dL_law_1081 rfl (lv_at hl 5 rfl) ?_
              refine lv_iconst (v := (0 : Int32)) hx hb dL_law_1082 (by decide) ?_
              obtain ⟨hk241, h⟩ := h
              obtain ⟨hin242, h⟩ := h
              refine r_lald hx hb hK hw hk241 hin242 dL_law_1083 ?_
              refine lv_iload hx hb dL_law_1084 (lv_at hl 0 rfl) ?_
              refine lv_i2l (v := (Int32.toInt64 r236)) hx hb dL_law_1086 rfl ?_
              refine W.lcmp hx hb dL_law_1087 ?_
              refine lv_if_eq (tgt := 1093) hx hb dL_law_1088 (by decide) (fun hc => ?_) (fun hc => ?_)
              · have h := h.1 hc
                exact hB1093 _ _ _ _ _ _ _ _ _ _ _ _ _ _ h hw hS (lv_sub hl [2, 3, 4, 5, 6] rfl) hcu hsu hd0
              · have h := h.2 hc
                refine lv_iconst (v := (0 : Int32)) hx hb dL_law_1091 (by decide) ?_
                exact hret _ _ _ _ _ _ _ _ _ h hw hS (by omega) (by omega) hd0 dL_law_1092
          · have h := h.2 hc
            refine lv_iconst (v := (0 : Int32)) hx hb dL_law_1074 (by decide) ?_
            exact hret _ _ _ _ _ _ _ _ _ h hw hS (by omega) (by omega) hd0 dL_law_1075
        by_cases hq13 : ((gV S 9 v0 (Int32.toNatClampNeg v4)) &&& (31 : Int32)) = (13 : Int32)
        · have h := h.2.2.2.2.2.2.2.2.2.2.2.2.2.1 hq13
          refine lv_tableIn (off := 1056) (tgt := 1096) hx hb dL_law_40 (by rw [hq13]; decide) (by rw [hq13]; decide) (by rw [hq13]; decide) (by decide) ?_
          refine lv_aload_n hx hb dL_law_1096 rfl (lv_at hl 1 rfl) ?_
          refine lv_aload_n hx hb dL_law_1097 rfl (lv_at hl 0 rfl) ?_
          refine lv_iload hx hb dL_law_1098 (lv_at hl 4 rfl) ?_
          refine lv_iconst (v := (1 : Int32)) hx hb dL_law_1100 (by decide) ?_
          refine lv_iadd hx hb dL_law_1101 ?_
          obtain ⟨hin243, h⟩ := h
          refine r_iald hx hb hK hw hk18 hin243 dL_law_1102 ?_
          refine lv_aload_n hx hb dL_law_1103 rfl (lv_at hl 0 rfl) ?_
          refine lv_iload hx hb dL_law_1104 (lv_at hl 4 rfl) ?_
          refine lv_iconst (v := (2 : Int32)) hx hb dL_law_1106 (by decide) ?_
          refine lv_iadd hx hb dL_law_1107 ?_
          obtain ⟨hin244, h⟩ := h
          refine r_iald hx hb hK hw hk18 hin244 dL_law_1108 ?_
          refine lv_aload_n hx hb dL_law_1109 rfl (lv_at hl 3 rfl) ?_
          obtain ⟨k247, n248, hbg1, hbg2, h⟩ := h
          have h1 := h
          refine va_calli (vx_runSW (As := [.ref v1, .int (gV S 9 v0 (Int32.toNatClampNeg (v4 + (1 : Int32)))), .int (gV S 9 v0 (Int32.toNatClampNeg (v4 + (2 : Int32)))), .ref v3]) (rest := []) ⟨hx, hb, hml, hown, hts⟩ (m_L_next (l := l) hl0 h1) (vx_cwSW 4 htx (goodQ gL_law_L_next (by decide)) rfl rfl rfl ⟨by decide +kernel, by decide +kernel, by decide +kernel⟩ ⟨Nat.le_trans (Nat.le_of_ble_eq_true rfl) hRf, Nat.le_trans (Nat.le_of_ble_eq_true rfl) hRl⟩) (r_pS hB hw hS) rfl rfl hl.1 rfl (lv_room (Nat.le_of_ble_eq_true rfl)) dL_law_1110 ⟨by omega, by omega⟩) hS (fun _ _ h => h) (fun _ h => h) (fun r245 S246 t H1 locs ht _ h hw1 _ _ hS => ?_)
          subst ht
          have hw : wd D y z S246 A t.heap := hw1
          clear hw1 h1
          have hcu : (cu + k247) + (mc - k247) ≤ MC := by omega
          have hsu : (su + n248) + (ms - n248) ≤ MS := by omega
          refine lv_istore hx hb dL_law_1113 hl (by decide) rfl (fun ls hl => ?_)
          have hl : lv_has ls 9 [(5, .int r245), (0, .ref v0), (1, .ref v1), (2, .ref v2), (3, .ref v3), (4, .int v4)] := hl
          refine lv_aload_n hx hb dL_law_1115 rfl (lv_at hl 3 rfl) ?_
          refine lv_aload_n hx hb dL_law_1116 rfl (lv_at hl 1 rfl) ?_
          refine lv_iload hx hb dL_law_1117 (lv_at hl 5 rfl) ?_
          refine lv_iconst (v := (1 : Int32)) hx hb dL_law_1119 (by decide) ?_
          refine lv_iadd hx hb dL_law_1120 ?_
          obtain ⟨hk249, h⟩ := h
          obtain ⟨hin250, h⟩ := h
          refine r_iald hx hb hK hw hk249 hin250 dL_law_1121 ?_
          refine lv_aload_n hx hb dL_law_1122 rfl (lv_at hl 1 rfl) ?_
          refine lv_iload hx hb dL_law_1123 (lv_at hl 5 rfl) ?_
          refine lv_iconst (v := (2 : Int32)) hx hb dL_law_1125 (by decide) ?_
          refine lv_iadd hx hb dL_law_1126 ?_
          obtain ⟨hin251, h⟩ := h
          refine r_iald hx hb hK hw hk249 hin251 dL_law_1127 ?_
          obtain ⟨hk252, h⟩ := h
          have h1 := h
          refine va_calli (va_runV (As := [.int (gV S246 9 v0 (Int32.toNatClampNeg (v4 + (1 : Int32)))), .int (gV S246 9 v0 (Int32.toNatClampNeg (v4 + (2 : Int32))))]) (rest := []) ⟨hx, hb, hml, hown, hts⟩ (m_X6_next (l := l) h1) (cwV 2 hts gL_law_X6_next rfl rfl rfl (by decide +kernel) ⟨Nat.le_trans (Nat.le_of_ble_eq_true rfl) hRf, Nat.le_trans (Nat.le_of_ble_eq_true rfl) hRl⟩) (r_pV hB hw hS (ce_8 (S := S246) hk252) rfl) rfl rfl hl.1 rfl (lv_room (Nat.le_of_ble_eq_true rfl)) dL_law_1128 ⟨by omega, by omega⟩) hS (fun _ _ h => h) (fun _ h => h) (fun r253 S254 t H1 locs ht _ h hw1 _ _ hS => ?_)
          subst ht
          have hw : wd D y z S254 A t.heap := hw1
          clear hw1 h1
          refine lv_istore hx hb dL_law_1131 hl (by decide) rfl (fun ls hl => ?_)
          have hl : lv_has ls 9 [(6, .int r253), (5, .int r245), (0, .ref v0), (1, .ref v1), (2, .ref v2), (3, .ref v3), (4, .int v4)] := hl
          refine lv_aload_n hx hb dL_law_1133 rfl (lv_at hl 4 rfl) ?_
          obtain ⟨hk255, h⟩ := h
          have h1 := h
          refine va_calli (va_runV (As := []) (rest := []) ⟨hx, hb, hml, hown, hts⟩ (m_X6_thrown (l := l) h1) (cwV 0 hts gL_law_X6_thrown rfl rfl rfl (by decide +kernel) ⟨Nat.le_trans (Nat.le_of_ble_eq_true rfl) hRf, Nat.le_trans (Nat.le_of_ble_eq_true rfl) hRl⟩) (r_pV hB hw hS (ce_8 (S := S254) hk255) rfl) rfl rfl hl.1 rfl (lv_room (Nat.le_of_ble_eq_true rfl)) dL_law_1134 ⟨by omega, by omega⟩) hS (fun _ _ h => h) (fun _ h => h) (fun r256 S257 t H1 locs ht _ h hw1 _ _ hS => ?_)
          subst ht
          have hw : wd D y z S257 A t.heap := hw1
          clear hw1 h1
          refine lv_iload hx hb dL_law_1137 (lv_at hl 1 rfl) ?_
          refine lv_icmp_eq (tgt := 1144) hx hb dL_law_1139 (by decide) (fun hc => ?_) (fun hc => ?_)
          · have h := h.1 hc
            refine lv_iload hx hb dL_law_1144 (lv_at hl 1 rfl) ?_
            refine lv_if_ne (tgt := 1161) hx hb dL_law_1146 (by decide) (fun hc => ?_) (fun hc => ?_)
            · have h := h.1 hc
              exact hB1161 _ _ _ _ _ _ _ _ _ _ _ _ _ _ h hw hS (lv_sub hl [2, 3, 4, 5, 6] rfl) hcu hsu hd0
            · have h := h.2 hc
              refine lv_aload_n hx hb dL_law_1149 rfl (lv_at hl 5 rfl) ?_
              refine lv_iconst (v := (0 : Int32)) hx hb dL_law_1150 (by decide) ?_
              obtain ⟨hk258, h⟩ := h
              obtain ⟨hin259, h⟩ := h
              refine r_lald hx hb hK hw hk258 hin259 dL_law_1151 ?_
              refine lv_iload hx hb dL_law_1152 (lv_at hl 0 rfl) ?_
              refine lv_i2l (v := (Int32.toInt64 r253)) hx hb dL_law_1154 rfl ?_
              refine W.lcmp hx hb dL_law_1155 ?_
              refine lv_if_eq (tgt := 1161) hx hb dL_law_1156 (by decide) (fun hc => ?_) (fun hc => ?_)
              · have h := h.1 hc
                exact hB1161 _ _ _ _ _ _ _ _ _ _ _ _ _ _ h hw hS (lv_sub hl [2, 3, 4, 5, 6] rfl) hcu hsu hd0
              · have h := h.2 hc
                refine lv_iconst (v := (0 : Int32)) hx hb dL_law_1159 (by decide) ?_
                exact hret _ _ _ _ _ _ _ _ _ h hw hS (by omega) (by omega) hd0 dL_law_1160
          · have h := h.2 hc
            refine lv_iconst (v := (0 : Int32)) hx hb dL_law_1142 (by decide) ?_
            exact hret _ _ _ _ _ _ _ _ _ h hw hS (by omega) (by omega) hd0 dL_law_1143
        by_cases hq14 : ((gV S 9 v0 (Int32.toNatClampNeg v4)) &&& (31 : Int32)) = (14 : Int32)
        · have h := h.2.2.2.2.2.2.2.2.2.2.2.2.2.2.1 hq14
          refine lv_tableIn (off := 1124) (tgt := 1164) hx hb dL_law_40 (by rw [hq14]; decide) (by rw [hq14]; decide) (by rw [hq14]; decide) (by decide) ?_
          refine lv_aload_n hx hb dL_law_1164 rfl (lv_at hl 1 rfl) ?_
          refine lv_aload_n hx hb dL_law_1165 rfl (lv_at hl 0 rfl) ?_
          refine lv_iload hx hb dL_law_1166 (lv_at hl 4 rfl) ?_
          refine lv_iconst (v := (1 : Int32)) hx hb dL_law_1168 (by decide) ?_
          refine lv_iadd hx hb dL_law_1169 ?_
          obtain ⟨hin260, h⟩ := h
          refine r_iald hx hb hK hw hk18 hin260 dL_law_1170 ?_
          refine lv_aload_n hx hb dL_law_1171 rfl (lv_at hl 3 rfl) ?_
          obtain ⟨k263, n264, hbg1, hbg2, h⟩ := h
          have h1 := h
          refine va_calli (vx_runSW (As := [.ref v1, .int (gV S 9 v0 (Int32.toNatClampNeg (v4 + (1 : Int32)))), .ref v3]) (rest := []) ⟨hx, hb, hml, hown, hts⟩ (m_L_parts (l := l) hl0 h1) (vx_cwSW 3 htx (goodQ gL_law_L_parts (by decide)) rfl rfl rfl ⟨by decide +kernel, by decide +kernel, by decide +kernel⟩ ⟨Nat.le_trans (Nat.le_of_ble_eq_true rfl) hRf, Nat.le_trans (Nat.le_of_ble_eq_true rfl) hRl⟩) (r_pS hB hw hS) rfl rfl hl.1 rfl (lv_room (Nat.le_of_ble_eq_true rfl)) dL_law_1172 ⟨by omega, by omega⟩) hS (fun _ _ h => h) (fun _ h => h) (fun r261 S262 t H1 locs ht _ h hw1 _ _ hS => ?_)
          subst ht
          have hw : wd D y z S262 A t.heap := hw1
          clear hw1 h1
          have hcu : (cu + k263) + (mc - k263) ≤ MC := by omega
          have hsu : (su + n264) + (ms - n264) ≤ MS := by omega
          refine lv_istore hx hb dL_law_1175 hl (by decide) rfl (fun ls hl => ?_)
          have hl : lv_has ls 9 [(5, .int r261), (0, .ref v0), (1, .ref v1), (2, .ref v2), (3, .ref v3), (4, .int v4)] := hl
          refine lv_aload_n hx hb dL_law_1177 rfl (lv_at hl 3 rfl) ?_
          refine lv_aload_n hx hb dL_law_1178 rfl (lv_at hl 1 rfl) ?_
          refine lv_iload hx hb dL_law_1179 (lv_at hl 5 rfl) ?_
          refine lv_iconst (v := (1 : Int32)) hx hb dL_law_1181 (by decide) ?_
          refine lv_iadd hx hb dL_law_1182 ?_
          obtain ⟨hk265, h⟩ := h
          obtain ⟨hin266, h⟩ := h
          refine r_iald hx hb hK hw hk265 hin266 dL_law_1183 ?_
          obtain ⟨hk267, h⟩ := h
          have h1 := h
          refine va_calli (va_runV (As := [.int (gV S262 9 v0 (Int32.toNatClampNeg (v4 + (1 : Int32))))]) (rest := []) ⟨hx, hb, hml, hown, hts⟩ (m_X6_parts (l := l) h1) (cwV 1 hts gL_law_X6_parts rfl rfl rfl (by decide +kernel) ⟨Nat.le_trans (Nat.le_of_ble_eq_true rfl) hRf, Nat.le_trans (Nat.le_of_ble_eq_true rfl) hRl⟩) (r_pV hB hw hS (ce_8 (S := S262) hk267) rfl) rfl rfl hl.1 rfl (lv_room (Nat.le_of_ble_eq_true rfl)) dL_law_1184 ⟨by omega, by omega⟩) hS (fun _ _ h => h) (fun _ h => h) (fun r268 S269 t H1 locs ht _ h hw1 _ _ hS => ?_)
          subst ht
          have hw : wd D y z S269 A t.heap := hw1
          clear hw1 h1
          refine lv_istore hx hb dL_law_1187 hl (by decide) rfl (fun ls hl => ?_)
          have hl : lv_has ls 9 [(6, .int r268), (5, .int r261), (0, .ref v0), (1, .ref v1), (2, .ref v2), (3, .ref v3), (4, .int v4)] := hl
          refine lv_aload_n hx hb dL_law_1189 rfl (lv_at hl 4 rfl) ?_
          obtain ⟨hk270, h⟩ := h
          have h1 := h
          refine va_calli (va_runV (As := []) (rest := []) ⟨hx, hb, hml, hown, hts⟩ (m_X6_thrown (l := l) h1) (cwV 0 hts gL_law_X6_thrown rfl rfl rfl (by decide +kernel) ⟨Nat.le_trans (Nat.le_of_ble_eq_true rfl) hRf, Nat.le_trans (Nat.le_of_ble_eq_true rfl) hRl⟩) (r_pV hB hw hS (ce_8 (S := S269) hk270) rfl) rfl rfl hl.1 rfl (lv_room (Nat.le_of_ble_eq_true rfl)) dL_law_1190 ⟨by omega, by omega⟩) hS (fun _ _ h => h) (fun _ h => h) (fun r271 S272 t H1 locs ht _ h hw1 _ _ hS => ?_)
          subst ht
          have hw : wd D y z S272 A t.heap := hw1
          clear hw1 h1
          refine lv_iload hx hb dL_law_1193 (lv_at hl 1 rfl) ?_
          refine lv_icmp_eq (tgt := 1200) hx hb dL_law_1195 (by decide) (fun hc => ?_) (fun hc => ?_)
          · have h := h.1 hc
            refine lv_iload hx hb dL_law_1200 (lv_at hl 1 rfl) ?_
            refine lv_if_ne (tgt := 1217) hx hb dL_law_1202 (by decide) (fun hc => ?_) (fun hc => ?_)
            · have h := h.1 hc
              exact hB1217 _ _ _ _ _ _ _ _ _ _ _ _ _ _ h hw hS (lv_sub hl [2, 3, 4, 5, 6] rfl) hcu hsu hd0
            · have h := h.2 hc
              refine lv_aload_n hx hb dL_law_1205 rfl (lv_at hl 5 rfl) ?_
              refine lv_iconst (v := (0 : Int32)) hx hb dL_law_1206 (by decide) ?_
              obtain ⟨hk273, h⟩ := h
              obtain ⟨hin274, h⟩ := h
              refine r_lald hx hb hK hw hk273 hin274 dL_law_1207 ?_
              refine lv_iload hx hb dL_law_1208 (lv_at hl 0 rfl) ?_
              refine lv_i2l (v := (Int32.toInt64 r268)) hx hb dL_law_1210 rfl ?_
              refine W.lcmp hx hb dL_law_1211 ?_
              refine lv_if_eq (tgt := 1217) hx hb dL_law_1212 (by decide) (fun hc => ?_) (fun hc => ?_)
              · have h := h.1 hc
                exact hB1217 _ _ _ _ _ _ _ _ _ _ _ _ _ _ h hw hS (lv_sub hl [2, 3, 4, 5, 6] rfl) hcu hsu hd0
              · have h := h.2 hc
                refine lv_iconst (v := (0 : Int32)) hx hb dL_law_1215 (by decide) ?_
                exact hret _ _ _ _ _ _ _ _ _ h hw hS (by omega) (by omega) hd0 dL_law_1216
          · have h := h.2 hc
            refine lv_iconst (v := (0 : Int32)) hx hb dL_law_1198 (by decide) ?_
            exact hret _ _ _ _ _ _ _ _ _ h hw hS (by omega) (by omega) hd0 dL_law_1199
        by_cases hq15 : ((gV S 9 v0 (Int32.toNatClampNeg v4)) &&& (31 : Int32)) = (15 : Int32)
        · have h := h.2.2.2.2.2.2.2.2.2.2.2.2.2.2.2.1 hq15
          refine lv_tableIn (off := 1180) (tgt := 1220) hx hb dL_law_40 (by rw [hq15]; decide) (by rw [hq15]; decide) (by rw [hq15]; decide) (by decide) ?_
          refine lv_aload_n hx hb dL_law_1220 rfl (lv_at hl 1 rfl) ?_
          obtain ⟨hk275, h⟩ := h
          have h1 := h
          refine va_calldD hd0 (va_runV_D (As := []) (rest := []) ⟨hx, hb, hml, hown, hts⟩ (m_X5_mean (l := l) h1) (cwV 0 hts gL_law_X5_mean rfl rfl rfl (by decide +kernel) ⟨Nat.le_trans (Nat.le_of_ble_eq_true rfl) hRf, Nat.le_trans (Nat.le_of_ble_eq_true rfl) hRl⟩) (r_pV hB hw hS (ce_7 (S := S) hk275) rfl) rfl rfl hl.1 rfl (lv_room (Nat.le_of_ble_eq_true rfl)) dL_law_1221 ⟨by omega, by omega⟩) hS (fun _ _ h => h) (fun _ h => h) (fun r276 S277 t H1 locs ht _ h hw1 _ _ hS d278 hd0 => ?_)
          subst ht
          have hw : wd D y z S277 A t.heap := hw1
          clear hw1 h1
          have hB := hB0 d278
          have htx := dr_words hts0 d278
          have hts : ∀ w ∈ wsL_law, w.before _ (s.setDrawn d278) = true := fun w h => htx w (List.mem_append_left _ h)
          have hown : (s.setDrawn d278).vm.findClass RL = some m.cls := hown0
          have hK : va_K D bCl (bT y) (s.setDrawn d278) := hB.2.1
          have hNw := hB.2.2.1
          have hO := hB.2.2.2.2.2.1
          have hX := hX0 d278
          refine lv_dstore hx hb dL_law_1224 hl (by decide) rfl (fun ls hl => ?_)
          have hl : lv_has ls 9 [(5, .double r276), (0, .ref v0), (1, .ref v1), (2, .ref v2), (3, .ref v3), (4, .int v4)] := hl
          refine lv_aload_n hx hb dL_law_1226 rfl (lv_at hl 3 rfl) ?_
          obtain ⟨hk279, h⟩ := h
          have h1 := h
          refine va_calldD hd0 (va_runV_D (As := []) (rest := []) ⟨hx, hb, hml, hown, hts⟩ (m_X6_mean (l := l) h1) (cwV 0 hts gL_law_X6_mean rfl rfl rfl (by decide +kernel) ⟨Nat.le_trans (Nat.le_of_ble_eq_true rfl) hRf, Nat.le_trans (Nat.le_of_ble_eq_true rfl) hRl⟩) (r_pV hB hw hS (ce_8 (S := S277) hk279) rfl) rfl rfl hl.1 rfl (lv_room (Nat.le_of_ble_eq_true rfl)) dL_law_1227 ⟨by omega, by omega⟩) hS (fun _ _ h => h) (fun _ h => h) (fun r280 S281 t H1 locs ht _ h hw1 _ _ hS d282 hd0 => ?_)
          subst ht
          have hw : wd D y z S281 A t.heap := hw1
          clear hw1 h1
          have hB := hB0 d282
          have htx := dr_words hts0 d282
          have hts : ∀ w ∈ wsL_law, w.before _ (s.setDrawn d282) = true := fun w h => htx w (List.mem_append_left _ h)
          have hown : (s.setDrawn d282).vm.findClass RL = some m.cls := hown0
          have hK : va_K D bCl (bT y) (s.setDrawn d282) := hB.2.1
          have hNw := hB.2.2.1
          have hO := hB.2.2.2.2.2.1
          have hX := hX0 d282
          refine lv_dstore hx hb dL_law_1230 hl (by decide) rfl (fun ls hl => ?_)
          have hl : lv_has ls 9 [(7, .double r280), (5, .double r276), (0, .ref v0), (1, .ref v1), (2, .ref v2), (3, .ref v3), (4, .int v4)] := hl
          refine lv_dload hx hb dL_law_1232 (lv_at hl 1 rfl) ?_
          refine lv_dload hx hb dL_law_1234 (lv_at hl 0 rfl) ?_
          refine lv_dcmp hx hb dL_law_1236 ?_
          refine lv_if_eq (tgt := 1258) hx hb dL_law_1237 (by decide) (fun hc => ?_) (fun hc => ?_)
          · have h := h.1 hc
            exact hB1258 _ _ _ _ _ _ _ _ _ _ _ _ _ _ h hw hS (lv_sub hl [2, 3, 4, 5, 6] rfl) hcu hsu hd0
          · have h := h.2 hc
            refine lv_dload hx hb dL_law_1240 (lv_at hl 1 rfl) ?_
            refine lv_dload hx hb dL_law_1242 (lv_at hl 1 rfl) ?_
            refine lv_dcmp hx hb dL_law_1244 ?_
            refine lv_if_eq (tgt := 1256) hx hb dL_law_1245 (by decide) (fun hc => ?_) (fun hc => ?_)
            · have h := h.1 hc
              exact hB1256 _ _ _ _ _ _ _ _ _ h hw hS (lv_sub hl [] rfl) hcu hsu hd0
            · have h := h.2 hc
              refine lv_dload hx hb dL_law_1248 (lv_at hl 0 rfl) ?_
              refine lv_dload hx hb dL_law_1250 (lv_at hl 0 rfl) ?_
              refine lv_dcmp hx hb dL_law_1252 ?_
              refine lv_if_ne (tgt := 1258) hx hb dL_law_1253 (by decide) (fun hc => ?_) (fun hc => ?_)
              · have h := h.1 hc
                exact hB1258 _ _ _ _ _ _ _ _ _ _ _ _ _ _ h hw hS (lv_sub hl [2, 3, 4, 5, 6] rfl) hcu hsu hd0
              · have h := h.2 hc
                exact hB1256 _ _ _ _ _ _ _ _ _ h hw hS (lv_sub hl [] rfl) hcu hsu hd0
        by_cases hq16 : ((gV S 9 v0 (Int32.toNatClampNeg v4)) &&& (31 : Int32)) = (16 : Int32)
        · have h := h.2.2.2.2.2.2.2.2.2.2.2.2.2.2.2.2.1 hq16
          refine lv_tableIn (off := 1221) (tgt := 1261) hx hb dL_law_40 (by rw [hq16]; decide) (by rw [hq16]; decide) (by rw [hq16]; decide) (by decide) ?_
          refine lv_aload_n hx hb dL_law_1261 rfl (lv_at hl 1 rfl) ?_
          obtain ⟨hk283, h⟩ := h
          obtain ⟨k286, n287, hbg1, hbg2, h⟩ := h
          have h1 := h
          refine vx_calll (vx_runV (As := []) (rest := []) ⟨hx, hb, hml, hown, hts⟩ (m_X5_digest (l := l) hl0 h1) (cwV 0 hts gL_law_X5_digest rfl rfl rfl (by decide +kernel) ⟨Nat.le_trans (Nat.le_of_ble_eq_true rfl) hRf, Nat.le_trans (Nat.le_of_ble_eq_true rfl) hRl⟩) (r_pV hB hw hS (ce_7 (S := S) hk283) rfl) rfl rfl hl.1 rfl (lv_room (Nat.le_of_ble_eq_true rfl)) dL_law_1262 ⟨by omega, by omega⟩) hS (fun _ _ h => h) (fun _ h => h) (fun _ _ h => h) (fun E ce q9 S285 t H1 locs ht hal _ hq hz9 hk9 hS hq9 hvm9 hfc9 => hq.1.elim) (fun r284 S285 t H1 locs ht _ h hw1 _ _ hS => ?_)
          subst ht
          have hw : wd D y z S285 A t.heap := hw1
          clear hw1 h1
          have hcu : (cu + k286) + (mc - k286) ≤ MC := by omega
          have hsu : (su + n287) + (ms - n287) ≤ MS := by omega
          refine lv_aload_n hx hb dL_law_1265 rfl (lv_at hl 2 rfl) ?_
          obtain ⟨hk288, h⟩ := h
          have h1 := h
          refine va_calll (va_runV (As := []) (rest := [.long r284]) ⟨hx, hb, hml, hown, hts⟩ (m_X6_digest (l := l) h1) (cwV 0 hts gL_law_X6_digest rfl rfl rfl (by decide +kernel) ⟨Nat.le_trans (Nat.le_of_ble_eq_true rfl) hRf, Nat.le_trans (Nat.le_of_ble_eq_true rfl) hRl⟩) (r_pV hB hw hS (ce_8 (S := S285) hk288) rfl) rfl rfl hl.1 rfl (lv_room (Nat.le_of_ble_eq_true rfl)) dL_law_1266 ⟨by omega, by omega⟩) hS (fun _ _ h => h) (fun _ h => h) (fun r289 S290 t H1 locs ht _ h hw1 _ _ hS => ?_)
          subst ht
          have hw : wd D y z S290 A t.heap := hw1
          clear hw1 h1
          refine W.lcmp hx hb dL_law_1269 ?_
          refine lv_if_eq (tgt := 1275) hx hb dL_law_1270 (by decide) (fun hc => ?_) (fun hc => ?_)
          · have h := h.1 hc
            exact hB1275 _ _ _ _ _ _ _ _ _ _ _ _ _ _ h hw hS (lv_sub hl [0, 1, 2, 3, 4] rfl) hcu hsu hd0
          · have h := h.2 hc
            refine lv_iconst (v := (0 : Int32)) hx hb dL_law_1273 (by decide) ?_
            exact hret _ _ _ _ _ _ _ _ _ h hw hS (by omega) (by omega) hd0 dL_law_1274
        have h := h.2.2.2.2.2.2.2.2.2.2.2.2.2.2.2.2.2 hq0 hq1 hq2 hq3 hq4 hq5 hq6 hq7 hq8 hq9 hq10 hq11 hq12 hq13 hq14 hq15 hq16
        have ht0 : Int32.toInt ((gV S 9 v0 (Int32.toNatClampNeg v4)) &&& (31 : Int32)) ≠ (0 : Int) := fun q => hq0 (b_ti q rfl)
        have ht1 : Int32.toInt ((gV S 9 v0 (Int32.toNatClampNeg v4)) &&& (31 : Int32)) ≠ (1 : Int) := fun q => hq1 (b_ti q rfl)
        have ht2 : Int32.toInt ((gV S 9 v0 (Int32.toNatClampNeg v4)) &&& (31 : Int32)) ≠ (2 : Int) := fun q => hq2 (b_ti q rfl)
        have ht3 : Int32.toInt ((gV S 9 v0 (Int32.toNatClampNeg v4)) &&& (31 : Int32)) ≠ (3 : Int) := fun q => hq3 (b_ti q rfl)
        have ht4 : Int32.toInt ((gV S 9 v0 (Int32.toNatClampNeg v4)) &&& (31 : Int32)) ≠ (4 : Int) := fun q => hq4 (b_ti q rfl)
        have ht5 : Int32.toInt ((gV S 9 v0 (Int32.toNatClampNeg v4)) &&& (31 : Int32)) ≠ (5 : Int) := fun q => hq5 (b_ti q rfl)
        have ht6 : Int32.toInt ((gV S 9 v0 (Int32.toNatClampNeg v4)) &&& (31 : Int32)) ≠ (6 : Int) := fun q => hq6 (b_ti q rfl)
        have ht7 : Int32.toInt ((gV S 9 v0 (Int32.toNatClampNeg v4)) &&& (31 : Int32)) ≠ (7 : Int) := fun q => hq7 (b_ti q rfl)
        have ht8 : Int32.toInt ((gV S 9 v0 (Int32.toNatClampNeg v4)) &&& (31 : Int32)) ≠ (8 : Int) := fun q => hq8 (b_ti q rfl)
        have ht9 : Int32.toInt ((gV S 9 v0 (Int32.toNatClampNeg v4)) &&& (31 : Int32)) ≠ (9 : Int) := fun q => hq9 (b_ti q rfl)
        have ht10 : Int32.toInt ((gV S 9 v0 (Int32.toNatClampNeg v4)) &&& (31 : Int32)) ≠ (10 : Int) := fun q => hq10 (b_ti q rfl)
        have ht11 : Int32.toInt ((gV S 9 v0 (Int32.toNatClampNeg v4)) &&& (31 : Int32)) ≠ (11 : Int) := fun q => hq11 (b_ti q rfl)
        have ht12 : Int32.toInt ((gV S 9 v0 (Int32.toNatClampNeg v4)) &&& (31 : Int32)) ≠ (12 : Int) := fun q => hq12 (b_ti q rfl)
        have ht13 : Int32.toInt ((gV S 9 v0 (Int32.toNatClampNeg v4)) &&& (31 : Int32)) ≠ (13 : Int) := fun q => hq13 (b_ti q rfl)
        have ht14 : Int32.toInt ((gV S 9 v0 (Int32.toNatClampNeg v4)) &&& (31 : Int32)) ≠ (14 : Int) := fun q => hq14 (b_ti q rfl)
        have ht15 : Int32.toInt ((gV S 9 v0 (Int32.toNatClampNeg v4)) &&& (31 : Int32)) ≠ (15 : Int) := fun q => hq15 (b_ti q rfl)
        have ht16 : Int32.toInt ((gV S 9 v0 (Int32.toNatClampNeg v4)) &&& (31 : Int32)) ≠ (16 : Int) := fun q => hq16 (b_ti q rfl)
        refine lv_tableOut (tgt := 1275) hx hb dL_law_40 (by omega) (by decide) ?_
        exact hB1275 _ _ _ _ _ _ _ _ _ _ _ _ _ _ h hw hS (lv_sub hl [0, 1, 2, 3, 4] rfl) hcu hsu hd0
  unfold wp_L_law at h
  have hB := hB0 s.drawn
  have htx := dr_words hts0 s.drawn
  have hts : ∀ w ∈ wsL_law, w.before _ (s.setDrawn s.drawn) = true := fun w h => htx w (List.mem_append_left _ h)
  have hown : (s.setDrawn s.drawn).vm.findClass RL = some m.cls := hown0
  have hK : va_K D bCl (bT y) (s.setDrawn s.drawn) := hB.2.1
  have hNw := hB.2.2.1
  have hO := hB.2.2.2.2.2.1
  have hX := hX0 s.drawn
  have hcu : 0 + MC ≤ MC := by omega
  have hsu : 0 + MS ≤ MS := by omega
  obtain ⟨hbg1, hbg2, h⟩ := h
  refine r_new (ci := 6) (C := RX5) (T := TX5) (N := 6) (κ := 7) (nn := 0) hx hb hts hiX5 tyX5 tyX5_ok hown (hts (.classLink RL 8 RX5) (by decide +kernel)) (hts (.instantiable RX5 6) (by decide +kernel)) (hts (.initialized RX5) (by decide +kernel)) hK hw hS hAn hAz rfl pn_7 (Nat.le_of_ble_eq_true rfl) b_fs7 (by omega) (by omega) dL_law_0 (fun q1 H hq2 hw hS => ?_)
  have h := h q1 hq2
  have hk3 : gK (sNew S q1 7 0) q1 = 7 := if_pos rfl
  have hcu : (0 + 1) + (MC - 1) ≤ MC := by omega
  have hsu : (0 + 6) + (MS - 6) ≤ MS := by omega
  refine lv_dup hx hb dL_law_3 rfl ?_
  obtain ⟨k6, n7, hbg1, hbg2, h⟩ := h
  have h1 := h
  refine va_callv (va_runI (As := []) (rest := [.ref q1]) ⟨hx, hb, hml, hown, hts⟩ (m_X5_init (l := l) h1) (cwI 0 hts gL_law_X5_init rfl rfl rfl (hts (.initialized RX5) (by decide +kernel)) (hts (.methodLink RL 65 yX5_init) (by decide +kernel)) (hts (.instanceMethod yX5_init) (by decide +kernel)) rfl (by decide +kernel) ⟨Nat.le_trans (Nat.le_of_ble_eq_true rfl) hRf, Nat.le_trans (Nat.le_of_ble_eq_true rfl) hRl⟩) (r_pS hB hw hS) rfl rfl hl.1 rfl (lv_room (Nat.le_of_ble_eq_true rfl)) dL_law_4 ⟨by omega, by omega⟩) hS (fun _ _ h => h) (fun _ h => h) (fun S5 t H1 locs ht _ h hw1 _ _ hS => ?_)
  subst ht
  have hw : wd D y z S5 A t.heap := hw1
  clear hw1 h1
  have hcu : ((0 + 1) + k6) + ((MC - 1) - k6) ≤ MC := by omega
  have hsu : ((0 + 6) + n7) + ((MS - 6) - n7) ≤ MS := by omega
  refine lv_astore_n hx hb dL_law_7 rfl hl (by decide) rfl (fun ls hl => ?_)
  have hl : lv_has ls 9 [(1, .ref q1), (0, .ref p1)] := hl
  obtain ⟨hbg1, hbg2, h⟩ := h
  refine r_new (ci := 7) (C := RX6) (T := TX6) (N := 17) (κ := 8) (nn := 0) hx hb hts hiX6 tyX6 tyX6_ok hown (hts (.classLink RL 66 RX6) (by decide +kernel)) (hts (.instantiable RX6 17) (by decide +kernel)) (hts (.initialized RX6) (by decide +kernel)) hK hw hS hAn hAz rfl pn_8 (Nat.le_of_ble_eq_true rfl) b_fs8 (by omega) (by omega) dL_law_8 (fun q8 H hq9 hw hS => ?_)
  have h := h q8 hq9
  have hk10 : gK (sNew S5 q8 8 0) q8 = 8 := if_pos rfl
  have hcu : (((0 + 1) + k6) + 1) + (((MC - 1) - k6) - 1) ≤ MC := by omega
  have hsu : (((0 + 6) + n7) + 17) + (((MS - 6) - n7) - 17) ≤ MS := by omega
  refine lv_dup hx hb dL_law_11 rfl ?_
  obtain ⟨k13, n14, hbg1, hbg2, h⟩ := h
  have h1 := h
  refine va_callv (va_runI (As := []) (rest := [.ref q8]) ⟨hx, hb, hml, hown, hts⟩ (m_X6_init (l := l) h1) (cwI 0 hts gL_law_X6_init rfl rfl rfl (hts (.initialized RX6) (by decide +kernel)) (hts (.methodLink RL 68 yX6_init) (by decide +kernel)) (hts (.instanceMethod yX6_init) (by decide +kernel)) rfl (by decide +kernel) ⟨Nat.le_trans (Nat.le_of_ble_eq_true rfl) hRf, Nat.le_trans (Nat.le_of_ble_eq_true rfl) hRl⟩) (r_pS hB hw hS) rfl rfl hl.1 rfl (lv_room (Nat.le_of_ble_eq_true rfl)) dL_law_12 ⟨by omega, by omega⟩) hS (fun _ _ h => h) (fun _ h => h) (fun S12 t H1 locs ht _ h hw1 _ _ hS => ?_)
  subst ht
  have hw : wd D y z S12 A t.heap := hw1
  clear hw1 h1
  have hcu : ((((0 + 1) + k6) + 1) + k13) + ((((MC - 1) - k6) - 1) - k13) ≤ MC := by omega
  have hsu : ((((0 + 6) + n7) + 17) + n14) + ((((MS - 6) - n7) - 17) - n14) ≤ MS := by omega
  refine lv_astore_n hx hb dL_law_15 rfl hl (by decide) rfl (fun ls hl => ?_)
  have hl : lv_has ls 9 [(2, .ref q8), (1, .ref q1), (0, .ref p1)] := hl
  refine lv_iconst (v := (1 : Int32)) hx hb dL_law_16 (by decide) ?_
  obtain ⟨hn0, hn1, hbg1, hbg2, h⟩ := h
  refine r_newa13 hx hb (hts (.arrayClass .long) (by decide +kernel)) hK hw hS hAn hAz hn0 rfl hn1 (by omega) (by omega) dL_law_17 (fun q15 H hq16 hw hS => ?_)
  have h := h q15 hq16
  have hk17 : gK (sNew S12 q15 13 (Int32.toNatClampNeg (1 : Int32))) q15 = 13 := if_pos rfl
  have hcu : (((((0 + 1) + k6) + 1) + k13) + 1) + (((((MC - 1) - k6) - 1) - k13) - 1) ≤ MC := by omega
  have hsu : (((((0 + 6) + n7) + 17) + n14) + (Int32.toNatClampNeg (1 : Int32))) + (((((MS - 6) - n7) - 17) - n14) - (Int32.toNatClampNeg (1 : Int32))) ≤ MS := by omega
  refine lv_astore_n hx hb dL_law_19 rfl hl (by decide) rfl (fun ls hl => ?_)
  have hl : lv_has ls 9 [(3, .ref q15), (2, .ref q8), (1, .ref q1), (0, .ref p1)] := hl
  refine lv_iconst (v := (0 : Int32)) hx hb dL_law_20 (by decide) ?_
  refine lv_istore hx hb dL_law_21 hl (by decide) rfl (fun ls hl => ?_)
  have hl : lv_has ls 9 [(4, .int (0 : Int32)), (3, .ref q15), (2, .ref q8), (1, .ref q1), (0, .ref p1)] := hl
  obtain ⟨n23, h⟩ := h
  exact hB23 n23 _ _ _ _ _ _ _ _ _ _ _ _ _ _ h hw hS (lv_sub hl [4, 3, 2, 1, 0] rfl) hcu hsu hd0
