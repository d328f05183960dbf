def wb_L_law_1256 (xs : Nat → Int32) (L : Nat) (post : Int32 → bS → Prop) (mc ms : Nat) (S : bS) : Prop := post (0 : Int32) S
def wb_L_law_1275 (xs : Nat → Int32) (L : Nat) (post : Int32 → bS → Prop) (rec23 : Nat → Nat → Nat → Nat → Nat → Int32 → bS → Prop) (mc ms : Nat) (v1 : Nat) (v2 : Nat) (v3 : Nat) (v4 : Int32) (S : bS) : Prop := rec23 mc ms v1 v2 v3 (v4 + (6 : Int32)) S
def wb_L_law_189 (xs : Nat → Int32) (L : Nat) (post : Int32 → bS → Prop) (rec23 : Nat → Nat → Nat → Nat → Nat → Int32 → bS → Prop) (mc ms : Nat) (v1 : Nat) (v2 : Nat) (v3 : Nat) (v4 : Int32) (S : bS) : Prop := wb_L_law_1275 xs L post rec23 mc ms v1 v2 v3 v4 S
def wb_L_law_293 (xs : Nat → Int32) (L : Nat) (post : Int32 → bS → Prop) (rec23 : Nat → Nat → Nat → Nat → Nat → Int32 → bS → Prop) (mc ms : Nat) (v1 : Nat) (v2 : Nat) (v3 : Nat) (v4 : Int32) (S : bS) : Prop := wb_L_law_1275 xs L post rec23 mc ms v1 v2 v3 v4 S
def wb_L_law_361 (xs : Nat → Int32) (L : Nat) (post : Int32 → bS → Prop) (rec23 : Nat → Nat → Nat → Nat → Nat → Int32 → bS → Prop) (mc ms : Nat) (v1 : Nat) (v2 : Nat) (v3 : Nat) (v4 : Int32) (S : bS) : Prop := wb_L_law_1275 xs L post rec23 mc ms v1 v2 v3 v4 S
def wb_L_law_457 (xs : Nat → Int32) (L : Nat) (post : Int32 → bS → Prop) (rec23 : Nat → Nat → Nat → Nat → Nat → Int32 → bS → Prop) (mc ms : Nat) (v1 : Nat) (v2 : Nat) (v3 : Nat) (v4 : Int32) (S : bS) : Prop := wb_L_law_1275 xs L post rec23 mc ms v1 v2 v3 v4 S
def wb_L_law_424 (xs : Nat → Int32) (L : Nat) (post : Int32 → bS → Prop) (rec23 : Nat → Nat → Nat → Nat → Nat → Int32 → bS → Prop) (mc ms : Nat) (v1 : Nat) (v2 : Nat) (v3 : Nat) (v4 : Int32) (v5 : Int32) (s0 : Int32) (s1 : Int32) (s2 : Int32) (s3 : Nat) (S : bS) : Prop := gK S s3 = 8 ∧ (wp_X6_setTube (fun r284 S285 => gK S285 v2 = 8 ∧ (wp_X6_thrown (fun r287 S288 => (r287 = v5 → (v5 ≠ (0 : Int32) → wb_L_law_457 xs L post rec23 mc ms v1 v2 v3 v4 S288) ∧ (v5 = (0 : Int32) → gK S288 v3 = 13 ∧ (vp_in (0 : Int32) (gN S288 v3) ∧ (((lg_cmp (gL S288 v3 (Int32.toNatClampNeg (0 : Int32))) (Int32.toInt64 r284)) = (0 : Int32) → wb_L_law_457 xs L post rec23 mc ms v1 v2 v3 v4 S288) ∧ (¬ ((lg_cmp (gL S288 v3 (Int32.toNatClampNeg (0 : Int32))) (Int32.toInt64 r284)) = (0 : Int32)) → post (0 : Int32) S288))))) ∧ (¬ (r287 = v5) → post (0 : Int32) S288)) v2 S285)) s3 s2 s1 s0 S)
def wb_L_law_391 (xs : Nat → Int32) (L : Nat) (post : Int32 → bS → Prop) (rec23 : Nat → Nat → Nat → Nat → Nat → Int32 → bS → Prop) (mc ms : Nat) (v1 : Nat) (v2 : Nat) (v3 : Nat) (v4 : Int32) (s0 : Int32) (s1 : Int32) (s2 : Int32) (s3 : Nat) (S : bS) : Prop := ∃ k278 n279, k278 ≤ mc ∧ n279 ≤ ms ∧ (wp_L_setTube (fun r276 S277 => vp_in (v4 + (1 : Int32)) L ∧ (vp_in (v4 + (2 : Int32)) L ∧ (vp_in (v4 + (3 : Int32)) L ∧ (((xs (Int32.toNatClampNeg (v4 + (3 : Int32)))) = (0 : Int32) → wb_L_law_424 xs L post rec23 (mc - k278) (ms - n279) v1 v2 v3 v4 r276 (0 : Int32) (xs (Int32.toNatClampNeg (v4 + (2 : Int32)))) (xs (Int32.toNatClampNeg (v4 + (1 : Int32)))) v2 S277) ∧ (¬ ((xs (Int32.toNatClampNeg (v4 + (3 : Int32)))) = (0 : Int32)) → wb_L_law_424 xs L post rec23 (mc - k278) (ms - n279) v1 v2 v3 v4 r276 (1 : Int32) (xs (Int32.toNatClampNeg (v4 + (2 : Int32)))) (xs (Int32.toNatClampNeg (v4 + (1 : Int32)))) v2 S277))))) k278 n279 s3 s2 s1 s0 v3 S)
def wb_L_law_561 (xs : Nat → Int32) (L : Nat) (post : Int32 → bS → Prop) (rec23 : Nat → Nat → Nat → Nat → Nat → Int32 → bS → Prop) (mc ms : Nat) (v1 : Nat) (v2 : Nat) (v3 : Nat) (v4 : Int32) (S : bS) : Prop := wb_L_law_1275 xs L post rec23 mc ms v1 v2 v3 v4 S
def wb_L_law_641 (xs : Nat → Int32) (L : Nat) (post : Int32 → bS → Prop) (rec23 : Nat → Nat → Nat → Nat → Nat → Int32 → bS → Prop) (mc ms : Nat) (v1 : Nat) (v2 : Nat) (v3 : Nat) (v4 : Int32) (S : bS) : Prop := wb_L_law_1275 xs L post rec23 mc ms v1 v2 v3 v4 S
def wb_L_law_697 (xs : Nat → Int32) (L : Nat) (post : Int32 → bS → Prop) (rec23 : Nat → Nat → Nat → Nat → Nat → Int32 → bS → Prop) (mc ms : Nat) (v1 : Nat) (v2 : Nat) (v3 : Nat) (v4 : Int32) (S : bS) : Prop := wb_L_law_1275 xs L post rec23 mc ms v1 v2 v3 v4 S
def wb_L_law_765 (xs : Nat → Int32) (L : Nat) (post : Int32 → bS → Prop) (rec23 : Nat → Nat → Nat → Nat → Nat → Int32 → bS → Prop) (mc ms : Nat) (v1 : Nat) (v2 : Nat) (v3 : Nat) (v4 : Int32) (S : bS) : Prop := wb_L_law_1275 xs L post rec23 mc ms v1 v2 v3 v4 S
def wb_L_law_821 (xs : Nat → Int32) (L : Nat) (post : Int32 → bS → Prop) (rec23 : Nat → Nat → Nat → Nat → Nat → Int32 → bS → Prop) (mc ms : Nat) (v1 : Nat) (v2 : Nat) (v3 : Nat) (v4 : Int32) (S : bS) : Prop := wb_L_law_1275 xs L post rec23 mc ms v1 v2 v3 v4 S
def wb_L_law_889 (xs : Nat → Int32) (L : Nat) (post : Int32 → bS → Prop) (rec23 : Nat → Nat → Nat → Nat → Nat → Int32 → bS → Prop) (mc ms : Nat) (v1 : Nat) (v2 : Nat) (v3 : Nat) (v4 : Int32) (S : bS) : Prop := wb_L_law_1275 xs L post rec23 mc ms v1 v2 v3 v4 S
def wb_L_law_957 (xs : Nat → Int32) (L : Nat) (post : Int32 → bS → Prop) (rec23 : Nat → Nat → Nat → Nat → Nat → Int32 → bS → Prop) (mc ms : Nat) (v1 : Nat) (v2 : Nat) (v3 : Nat) (v4 : Int32) (S : bS) : Prop := wb_L_law_1275 xs L post rec23 mc ms v1 v2 v3 v4 S
def wb_L_law_1025 (xs : Nat → Int32) (L : Nat) (post : Int32 → bS → Prop) (rec23 : Nat → Nat → Nat → Nat → Nat → Int32 → bS → Prop) (mc ms : Nat) (v1 : Nat) (v2 : Nat) (v3 : Nat) (v4 : Int32) (S : bS) : Prop := wb_L_law_1275 xs L post rec23 mc ms v1 v2 v3 v4 S
def wb_L_law_1093 (xs : Nat → Int32) (L : Nat) (post : Int32 → bS → Prop) (rec23 : Nat → Nat → Nat → Nat → Nat → Int32 → bS → Prop) (mc ms : Nat) (v1 : Nat) (v2 : Nat) (v3 : Nat) (v4 : Int32) (S : bS) : Prop := wb_L_law_1275 xs L post rec23 mc ms v1 v2 v3 v4 S
def wb_L_law_1161 (xs : Nat → Int32) (L : Nat) (post : Int32 → bS → Prop) (rec23 : Nat → Nat → Nat → Nat → Nat → Int32 → bS → Prop) (mc ms : Nat) (v1 : Nat) (v2 : Nat) (v3 : Nat) (v4 : Int32) (S : bS) : Prop := wb_L_law_1275 xs L post rec23 mc ms v1 v2 v3 v4 S
def wb_L_law_1217 (xs : Nat → Int32) (L : Nat) (post : Int32 → bS → Prop) (rec23 : Nat → Nat → Nat → Nat → Nat → Int32 → bS → Prop) (mc ms : Nat) (v1 : Nat) (v2 : Nat) (v3 : Nat) (v4 : Int32) (S : bS) : Prop := wb_L_law_1275 xs L post rec23 mc ms v1 v2 v3 v4 S
def wb_L_law_1258 (xs : Nat → Int32) (L : Nat) (post : Int32 → bS → Prop) (rec23 : Nat → Nat → Nat → Nat → Nat → Int32 → bS → Prop) (mc ms : Nat) (v1 : Nat) (v2 : Nat) (v3 : Nat) (v4 : Int32) (S : bS) : Prop := wb_L_law_1275 xs L post rec23 mc ms v1 v2 v3 v4 S
def wb_L_law_23 (xs : Nat → Int32) (L : Nat) (post : Int32 → bS → Prop) : Nat → Nat → Nat → Nat → Nat → Nat → Int32 → bS → Prop
  | 0, _, _, _, _, _, _, _ => False
  | n + 1, mc, ms, v1, v2, v3, v4, S => (((Int32.ofNat L) - (6 : Int32)) < v4 → post (1 : Int32) S) ∧ (¬ (((Int32.ofNat L) - (6 : Int32)) < v4) → vp_in v4 L ∧ ((((xs (Int32.toNatClampNeg v4)) &&& (31 : Int32)) = (0 : Int32) → vp_in (v4 + (1 : Int32)) L ∧ (vp_in (v4 + (2 : Int32)) L ∧ (∃ k23 n24, k23 ≤ mc ∧ n24 ≤ ms ∧ (wp_L_addStation (fun r21 S22 => vp_in (v4 + (1 : Int32)) L ∧ (vp_in (v4 + (2 : Int32)) L ∧ (gK S22 v2 = 8 ∧ (∃ k30 n31, k30 ≤ (mc - k23) ∧ n31 ≤ (ms - n24) ∧ (wp_X6_addStation (fun r28 S29 => gK S29 v2 = 8 ∧ (wp_X6_thrown (fun r33 S34 => (r33 = r21 → (r21 ≠ (0 : Int32) → wb_L_law_189 xs L post (wb_L_law_23 xs L post n) ((mc - k23) - k30) ((ms - n24) - n31) v1 v2 v3 v4 S34) ∧ (r21 = (0 : Int32) → gK S34 v3 = 13 ∧ (vp_in (0 : Int32) (gN S34 v3) ∧ (((lg_cmp (gL S34 v3 (Int32.toNatClampNeg (0 : Int32))) (Int32.toInt64 r28)) = (0 : Int32) → wb_L_law_189 xs L post (wb_L_law_23 xs L post n) ((mc - k23) - k30) ((ms - n24) - n31) v1 v2 v3 v4 S34) ∧ (¬ ((lg_cmp (gL S34 v3 (Int32.toNatClampNeg (0 : Int32))) (Int32.toInt64 r28)) = (0 : Int32)) → post (0 : Int32) S34))))) ∧ (¬ (r33 = r21) → post (0 : Int32) S34)) v2 S29)) k30 n31 v2 (xs (Int32.toNatClampNeg (v4 + (1 : Int32)))) (xs (Int32.toNatClampNeg (v4 + (2 : Int32)))) S22))))) k23 n24 v1 (xs (Int32.toNatClampNeg (v4 + (1 : Int32)))) (xs (Int32.toNatClampNeg (v4 + (2 : Int32)))) v3 S)))) ∧ (((xs (Int32.toNatClampNeg v4)) &&& (31 : Int32)) = (1 : Int32) → vp_in (v4 + (1 : Int32)) L ∧ (vp_in (v4 + (2 : Int32)) L ∧ (vp_in (v4 + (3 : Int32)) L ∧ (vp_in (v4 + (4 : Int32)) L ∧ (vp_in (v4 + (5 : Int32)) L ∧ (∃ k44 n45, k44 ≤ mc ∧ n45 ≤ ms ∧ (wp_L_addTube (fun r42 S43 => vp_in (v4 + (1 : Int32)) L ∧ (vp_in (v4 + (2 : Int32)) L ∧ (vp_in (v4 + (3 : Int32)) L ∧ (vp_in (v4 + (4 : Int32)) L ∧ (vp_in (v4 + (5 : Int32)) L ∧ (gK S43 v2 = 8 ∧ (∃ k54 n55, k54 ≤ (mc - k44) ∧ n55 ≤ (ms - n45) ∧ (wp_X6_addTube (fun r52 S53 => gK S53 v2 = 8 ∧ (wp_X6_thrown (fun r57 S58 => (r57 = r42 → (r42 ≠ (0 : Int32) → wb_L_law_293 xs L post (wb_L_law_23 xs L post n) ((mc - k44) - k54) ((ms - n45) - n55) v1 v2 v3 v4 S58) ∧ (r42 = (0 : Int32) → gK S58 v3 = 13 ∧ (vp_in (0 : Int32) (gN S58 v3) ∧ (((lg_cmp (gL S58 v3 (Int32.toNatClampNeg (0 : Int32))) (Int32.toInt64 r52)) = (0 : Int32) → wb_L_law_293 xs L post (wb_L_law_23 xs L post n) ((mc - k44) - k54) ((ms - n45) - n55) v1 v2 v3 v4 S58) ∧ (¬ ((lg_cmp (gL S58 v3 (Int32.toNatClampNeg (0 : Int32))) (Int32.toInt64 r52)) = (0 : Int32)) → post (0 : Int32) S58))))) ∧ (¬ (r57 = r42) → post (0 : Int32) S58)) v2 S53)) k54 n55 v2 (xs (Int32.toNatClampNeg (v4 + (1 : Int32)))) (xs (Int32.toNatClampNeg (v4 + (2 : Int32)))) (xs (Int32.toNatClampNeg (v4 + (3 : Int32)))) (xs (Int32.toNatClampNeg (v4 + (4 : Int32)))) (xs (Int32.toNatClampNeg (v4 + (5 : Int32)))) S43)))))))) k44 n45 v1 (xs (Int32.toNatClampNeg (v4 + (1 : Int32)))) (xs (Int32.toNatClampNeg (v4 + (2 : Int32)))) (xs (Int32.toNatClampNeg (v4 + (3 : Int32)))) (xs (Int32.toNatClampNeg (v4 + (4 : Int32)))) (xs (Int32.toNatClampNeg (v4 + (5 : Int32)))) v3 S))))))) ∧ (((xs (Int32.toNatClampNeg v4)) &&& (31 : Int32)) = (2 : Int32) → vp_in (v4 + (1 : Int32)) L ∧ (vp_in (v4 + (2 : Int32)) L ∧ (∃ k65 n66, k65 ≤ mc ∧ n66 ≤ ms ∧ (wp_L_turn (fun r63 S64 => vp_in (v4 + (1 : Int32)) L ∧ (vp_in (v4 + (2 : Int32)) L ∧ (gK S64 v2 = 8 ∧ (wp_X6_turn (fun r70 S71 => gK S71 v2 = 8 ∧ (wp_X6_thrown (fun r73 S74 => (r73 = r63 → (r63 ≠ (0 : Int32) → wb_L_law_361 xs L post (wb_L_law_23 xs L post n) (mc - k65) (ms - n66) v1 v2 v3 v4 S74) ∧ (r63 = (0 : Int32) → gK S74 v3 = 13 ∧ (vp_in (0 : Int32) (gN S74 v3) ∧ (((lg_cmp (gL S74 v3 (Int32.toNatClampNeg (0 : Int32))) (Int32.toInt64 r70)) = (0 : Int32) → wb_L_law_361 xs L post (wb_L_law_23 xs L post n) (mc - k65) (ms - n66) v1 v2 v3 v4 S74) ∧ (¬ ((lg_cmp (gL S74 v3 (Int32.toNatClampNeg (0 : Int32))) (Int32.toInt64 r70)) = (0 : Int32)) → post (0 : Int32) S74))))) ∧ (¬ (r73 = r63) → post (0 : Int32) S74)) v2 S71)) v2 (xs (Int32.toNatClampNeg (v4 + (1 : Int32)))) (xs (Int32.toNatClampNeg (v4 + (2 : Int32)))) S64)))) k65 n66 v1 (xs (Int32.toNatClampNeg (v4 + (1 : Int32)))) (xs (Int32.toNatClampNeg (v4 + (2 : Int32)))) v3 S)))) ∧ (((xs (Int32.toNatClampNeg v4)) &&& (31 : Int32)) = (3 : Int32) → vp_in (v4 + (1 : Int32)) L ∧ (vp_in (v4 + (2 : Int32)) L ∧ (vp_in (v4 + (3 : Int32)) L ∧ (((xs (Int32.toNatClampNeg (v4 + (3 : Int32)))) = (0 : Int32) → wb_L_law_391 xs L post (wb_L_law_23 xs L post n) mc ms v1 v2 v3 v4 (0 : Int32) (xs (Int32.toNatClampNeg (v4 + (2 : Int32)))) (xs (Int32.toNatClampNeg (v4 + (1 : Int32)))) v1 S) ∧ (¬ ((xs (Int32.toNatClampNeg (v4 + (3 : Int32)))) = (0 : Int32)) → wb_L_law_391 xs L post (wb_L_law_23 xs L post n) mc ms v1 v2 v3 v4 (1 : Int32) (xs (Int32.toNatClampNeg (v4 + (2 : Int32)))) (xs (Int32.toNatClampNeg (v4 + (1 : Int32)))) v1 S))))) ∧ (((xs (Int32.toNatClampNeg v4)) &&& (31 : Int32)) = (4 : Int32) → vp_in (v4 + (1 : Int32)) L ∧ (vp_in (v4 + (2 : Int32)) L ∧ (vp_in (v4 + (3 : Int32)) L ∧ (vp_in (v4 + (4 : Int32)) L ∧ (vp_in (v4 + (5 : Int32)) L ∧ (∃ k87 n88, k87 ≤ mc ∧ n88 ≤ ms ∧ (wp_L_addEntry (fun r85 S86 => vp_in (v4 + (1 : Int32)) L ∧ (vp_in (v4 + (2 : Int32)) L ∧ (vp_in (v4 + (3 : Int32)) L ∧ (vp_in (v4 + (4 : Int32)) L ∧ (vp_in (v4 + (5 : Int32)) L ∧ (gK S86 v2 = 8 ∧ (∃ k97 n98, k97 ≤ (mc - k87) ∧ n98 ≤ (ms - n88) ∧ (wp_X6_addEntry (fun r95 S96 => gK S96 v2 = 8 ∧ (wp_X6_thrown (fun r100 S101 => (r100 = r85 → (r85 ≠ (0 : Int32) → wb_L_law_561 xs L post (wb_L_law_23 xs L post n) ((mc - k87) - k97) ((ms - n88) - n98) v1 v2 v3 v4 S101) ∧ (r85 = (0 : Int32) → gK S101 v3 = 13 ∧ (vp_in (0 : Int32) (gN S101 v3) ∧ (((lg_cmp (gL S101 v3 (Int32.toNatClampNeg (0 : Int32))) (Int32.toInt64 r95)) = (0 : Int32) → wb_L_law_561 xs L post (wb_L_law_23 xs L post n) ((mc - k87) - k97) ((ms - n88) - n98) v1 v2 v3 v4 S101) ∧ (¬ ((lg_cmp (gL S101 v3 (Int32.toNatClampNeg (0 : Int32))) (Int32.toInt64 r95)) = (0 : Int32)) → post (0 : Int32) S101))))) ∧ (¬ (r100 = r85) → post (0 : Int32) S101)) v2 S96)) k97 n98 v2 (xs (Int32.toNatClampNeg (v4 + (1 : Int32)))) (xs (Int32.toNatClampNeg (v4 + (2 : Int32)))) (xs (Int32.toNatClampNeg (v4 + (3 : Int32)))) (xs (Int32.toNatClampNeg (v4 + (4 : Int32)))) (xs (Int32.toNatClampNeg (v4 + (5 : Int32)))) S86)))))))) k87 n88 v1 (xs (Int32.toNatClampNeg (v4 + (1 : Int32)))) (xs (Int32.toNatClampNeg (v4 + (2 : Int32)))) (xs (Int32.toNatClampNeg (v4 + (3 : Int32)))) (xs (Int32.toNatClampNeg (v4 + (4 : Int32)))) (xs (Int32.toNatClampNeg (v4 + (5 : Int32)))) v3 S))))))) ∧ (((xs (Int32.toNatClampNeg v4)) &&& (31 : Int32)) = (5 : Int32) → vp_in (v4 + (1 : Int32)) L ∧ (vp_in (v4 + (2 : Int32)) L ∧ (vp_in (v4 + (3 : Int32)) L ∧ (∃ k109 n110, k109 ≤ mc ∧ n110 ≤ ms ∧ (wp_L_send (fun r107 S108 => vp_in (v4 + (1 : Int32)) L ∧ (vp_in (v4 + (2 : Int32)) L ∧ (vp_in (v4 + (3 : Int32)) L ∧ (gK S108 v2 = 8 ∧ (wp_X6_send (fun r115 S116 => gK S116 v2 = 8 ∧ (wp_X6_thrown (fun r118 S119 => (r118 = r107 → (r107 ≠ (0 : Int32) → wb_L_law_641 xs L post (wb_L_law_23 xs L post n) (mc - k109) (ms - n110) v1 v2 v3 v4 S119) ∧ (r107 = (0 : Int32) → gK S119 v3 = 13 ∧ (vp_in (0 : Int32) (gN S119 v3) ∧ (((lg_cmp (gL S119 v3 (Int32.toNatClampNeg (0 : Int32))) (Int32.toInt64 r115)) = (0 : Int32) → wb_L_law_641 xs L post (wb_L_law_23 xs L post n) (mc - k109) (ms - n110) v1 v2 v3 v4 S119) ∧ (¬ ((lg_cmp (gL S119 v3 (Int32.toNatClampNeg (0 : Int32))) (Int32.toInt64 r115)) = (0 : Int32)) → post (0 : Int32) S119))))) ∧ (¬ (r118 = r107) → post (0 : Int32) S119)) v2 S116)) v2 (xs (Int32.toNatClampNeg (v4 + (1 : Int32)))) (xs (Int32.toNatClampNeg (v4 + (2 : Int32)))) (xs (Int32.toNatClampNeg (v4 + (3 : Int32)))) S108))))) k109 n110 v1 (xs (Int32.toNatClampNeg (v4 + (1 : Int32)))) (xs (Int32.toNatClampNeg (v4 + (2 : Int32)))) (xs (Int32.toNatClampNeg (v4 + (3 : Int32)))) v3 S))))) ∧ (((xs (Int32.toNatClampNeg v4)) &&& (31 : Int32)) = (6 : Int32) → vp_in (v4 + (1 : Int32)) L ∧ (∃ k125 n126, k125 ≤ mc ∧ n126 ≤ ms ∧ (wp_L_run (fun r123 S124 => vp_in (v4 + (1 : Int32)) L ∧ (gK S124 v2 = 8 ∧ (wp_X6_run (fun r129 S130 => gK S130 v2 = 8 ∧ (wp_X6_thrown (fun r132 S133 => (r132 = r123 → (r123 ≠ (0 : Int32) → wb_L_law_697 xs L post (wb_L_law_23 xs L post n) (mc - k125) (ms - n126) v1 v2 v3 v4 S133) ∧ (r123 = (0 : Int32) → gK S133 v3 = 13 ∧ (vp_in (0 : Int32) (gN S133 v3) ∧ (((lg_cmp (gL S133 v3 (Int32.toNatClampNeg (0 : Int32))) (Int32.toInt64 r129)) = (0 : Int32) → wb_L_law_697 xs L post (wb_L_law_23 xs L post n) (mc - k125) (ms - n126) v1 v2 v3 v4 S133) ∧ (¬ ((lg_cmp (gL S133 v3 (Int32.toNatClampNeg (0 : Int32))) (Int32.toInt64 r129)) = (0 : Int32)) → post (0 : Int32) S133))))) ∧ (¬ (r132 = r123) → post (0 : Int32) S133)) v2 S130)) v2 (xs (Int32.toNatClampNeg (v4 + (1 : Int32)))) S124))) k125 n126 v1 (xs (Int32.toNatClampNeg (v4 + (1 : Int32)))) v3 S))) ∧ (((xs (Int32.toNatClampNeg v4)) &&& (31 : Int32)) = (7 : Int32) → vp_in (v4 + (1 : Int32)) L ∧ (vp_in (v4 + (2 : Int32)) L ∧ (∃ k140 n141, k140 ≤ mc ∧ n141 ≤ ms ∧ (wp_L_carrier (fun r138 S139 => vp_in (v4 + (1 : Int32)) L ∧ (vp_in (v4 + (2 : Int32)) L ∧ (gK S139 v2 = 8 ∧ (wp_X6_carrier (fun r145 S146 => gK S146 v2 = 8 ∧ (wp_X6_thrown (fun r148 S149 => (r148 = r138 → (r138 ≠ (0 : Int32) → wb_L_law_765 xs L post (wb_L_law_23 xs L post n) (mc - k140) (ms - n141) v1 v2 v3 v4 S149) ∧ (r138 = (0 : Int32) → gK S149 v3 = 13 ∧ (vp_in (0 : Int32) (gN S149 v3) ∧ (((lg_cmp (gL S149 v3 (Int32.toNatClampNeg (0 : Int32))) (Int32.toInt64 r145)) = (0 : Int32) → wb_L_law_765 xs L post (wb_L_law_23 xs L post n) (mc - k140) (ms - n141) v1 v2 v3 v4 S149) ∧ (¬ ((lg_cmp (gL S149 v3 (Int32.toNatClampNeg (0 : Int32))) (Int32.toInt64 r145)) = (0 : Int32)) → post (0 : Int32) S149))))) ∧ (¬ (r148 = r138) → post (0 : Int32) S149)) v2 S146)) v2 (xs (Int32.toNatClampNeg (v4 + (1 : Int32)))) (xs (Int32.toNatClampNeg (v4 + (2 : Int32)))) S139)))) k140 n141 v1 (xs (Int32.toNatClampNeg (v4 + (1 : Int32)))) (xs (Int32.toNatClampNeg (v4 + (2 : Int32)))) v3 S)))) ∧ (((xs (Int32.toNatClampNeg v4)) &&& (31 : Int32)) = (8 : Int32) → vp_in (v4 + (1 : Int32)) L ∧ (∃ k155 n156, k155 ≤ mc ∧ n156 ≤ ms ∧ (wp_L_count (fun r153 S154 => vp_in (v4 + (1 : Int32)) L ∧ (gK S154 v2 = 8 ∧ (wp_X6_count (fun r159 S160 => gK S160 v2 = 8 ∧ (wp_X6_thrown (fun r162 S163 => (r162 = r153 → (r153 ≠ (0 : Int32) → wb_L_law_821 xs L post (wb_L_law_23 xs L post n) (mc - k155) (ms - n156) v1 v2 v3 v4 S163) ∧ (r153 = (0 : Int32) → gK S163 v3 = 13 ∧ (vp_in (0 : Int32) (gN S163 v3) ∧ (((lg_cmp (gL S163 v3 (Int32.toNatClampNeg (0 : Int32))) (Int32.toInt64 r159)) = (0 : Int32) → wb_L_law_821 xs L post (wb_L_law_23 xs L post n) (mc - k155) (ms - n156) v1 v2 v3 v4 S163) ∧ (¬ ((lg_cmp (gL S163 v3 (Int32.toNatClampNeg (0 : Int32))) (Int32.toInt64 r159)) = (0 : Int32)) → post (0 : Int32) S163))))) ∧ (¬ (r162 = r153) → post (0 : Int32) S163)) v2 S160)) v2 (xs (Int32.toNatClampNeg (v4 + (1 : Int32)))) S154))) k155 n156 v1 (xs (Int32.toNatClampNeg (v4 + (1 : Int32)))) v3 S))) ∧ (((xs (Int32.toNatClampNeg v4)) &&& (31 : Int32)) = (9 : Int32) → vp_in (v4 + (1 : Int32)) L ∧ (vp_in (v4 + (2 : Int32)) L ∧ (∃ k170 n171, k170 ≤ mc ∧ n171 ≤ ms ∧ (wp_L_station (fun r168 S169 => vp_in (v4 + (1 : Int32)) L ∧ (vp_in (v4 + (2 : Int32)) L ∧ (gK S169 v2 = 8 ∧ (wp_X6_station (fun r175 S176 => gK S176 v2 = 8 ∧ (wp_X6_thrown (fun r178 S179 => (r178 = r168 → (r168 ≠ (0 : Int32) → wb_L_law_889 xs L post (wb_L_law_23 xs L post n) (mc - k170) (ms - n171) v1 v2 v3 v4 S179) ∧ (r168 = (0 : Int32) → gK S179 v3 = 13 ∧ (vp_in (0 : Int32) (gN S179 v3) ∧ (((lg_cmp (gL S179 v3 (Int32.toNatClampNeg (0 : Int32))) (Int32.toInt64 r175)) = (0 : Int32) → wb_L_law_889 xs L post (wb_L_law_23 xs L post n) (mc - k170) (ms - n171) v1 v2 v3 v4 S179) ∧ (¬ ((lg_cmp (gL S179 v3 (Int32.toNatClampNeg (0 : Int32))) (Int32.toInt64 r175)) = (0 : Int32)) → post (0 : Int32) S179))))) ∧ (¬ (r178 = r168) → post (0 : Int32) S179)) v2 S176)) v2 (xs (Int32.toNatClampNeg (v4 + (1 : Int32)))) (xs (Int32.toNatClampNeg (v4 + (2 : Int32)))) S169)))) k170 n171 v1 (xs (Int32.toNatClampNeg (v4 + (1 : Int32)))) (xs (Int32.toNatClampNeg (v4 + (2 : Int32)))) v3 S)))) ∧ (((xs (Int32.toNatClampNeg v4)) &&& (31 : Int32)) = (10 : Int32) → vp_in (v4 + (1 : Int32)) L ∧ (vp_in (v4 + (2 : Int32)) L ∧ (∃ k186 n187, k186 ≤ mc ∧ n187 ≤ ms ∧ (wp_L_tube (fun r184 S185 => vp_in (v4 + (1 : Int32)) L ∧ (vp_in (v4 + (2 : Int32)) L ∧ (gK S185 v2 = 8 ∧ (wp_X6_tube (fun r191 S192 => gK S192 v2 = 8 ∧ (wp_X6_thrown (fun r194 S195 => (r194 = r184 → (r184 ≠ (0 : Int32) → wb_L_law_957 xs L post (wb_L_law_23 xs L post n) (mc - k186) (ms - n187) v1 v2 v3 v4 S195) ∧ (r184 = (0 : Int32) → gK S195 v3 = 13 ∧ (vp_in (0 : Int32) (gN S195 v3) ∧ (((lg_cmp (gL S195 v3 (Int32.toNatClampNeg (0 : Int32))) (Int32.toInt64 r191)) = (0 : Int32) → wb_L_law_957 xs L post (wb_L_law_23 xs L post n) (mc - k186) (ms - n187) v1 v2 v3 v4 S195) ∧ (¬ ((lg_cmp (gL S195 v3 (Int32.toNatClampNeg (0 : Int32))) (Int32.toInt64 r191)) = (0 : Int32)) → post (0 : Int32) S195))))) ∧ (¬ (r194 = r184) → post (0 : Int32) S195)) v2 S192)) v2 (xs (Int32.toNatClampNeg (v4 + (1 : Int32)))) (xs (Int32.toNatClampNeg (v4 + (2 : Int32)))) S185)))) k186 n187 v1 (xs (Int32.toNatClampNeg (v4 + (1 : Int32)))) (xs (Int32.toNatClampNeg (v4 + (2 : Int32)))) v3 S)))) ∧ (((xs (Int32.toNatClampNeg v4)) &&& (31 : Int32)) = (11 : Int32) → vp_in (v4 + (1 : Int32)) L ∧ (vp_in (v4 + (2 : Int32)) L ∧ (∃ k202 n203, k202 ≤ mc ∧ n203 ≤ ms ∧ (wp_L_there (fun r200 S201 => vp_in (v4 + (1 : Int32)) L ∧ (vp_in (v4 + (2 : Int32)) L ∧ (gK S201 v2 = 8 ∧ (wp_X6_there (fun r207 S208 => gK S208 v2 = 8 ∧ (wp_X6_thrown (fun r210 S211 => (r210 = r200 → (r200 ≠ (0 : Int32) → wb_L_law_1025 xs L post (wb_L_law_23 xs L post n) (mc - k202) (ms - n203) v1 v2 v3 v4 S211) ∧ (r200 = (0 : Int32) → gK S211 v3 = 13 ∧ (vp_in (0 : Int32) (gN S211 v3) ∧ (((lg_cmp (gL S211 v3 (Int32.toNatClampNeg (0 : Int32))) (Int32.toInt64 r207)) = (0 : Int32) → wb_L_law_1025 xs L post (wb_L_law_23 xs L post n) (mc - k202) (ms - n203) v1 v2 v3 v4 S211) ∧ (¬ ((lg_cmp (gL S211 v3 (Int32.toNatClampNeg (0 : Int32))) (Int32.toInt64 r207)) = (0 : Int32)) → post (0 : Int32) S211))))) ∧ (¬ (r210 = r200) → post (0 : Int32) S211)) v2 S208)) v2 (xs (Int32.toNatClampNeg (v4 + (1 : Int32)))) (xs (Int32.toNatClampNeg (v4 + (2 : Int32)))) S201)))) k202 n203 v1 (xs (Int32.toNatClampNeg (v4 + (1 : Int32)))) (xs (Int32.toNatClampNeg (v4 + (2 : Int32)))) v3 S)))) ∧ (((xs (Int32.toNatClampNeg v4)) &&& (31 : Int32)) = (12 : Int32) → vp_in (v4 + (1 : Int32)) L ∧ (vp_in (v4 + (2 : Int32)) L ∧ (∃ k218 n219, k218 ≤ mc ∧ n219 ≤ ms ∧ (wp_L_time (fun r216 S217 => vp_in (v4 + (1 : Int32)) L ∧ (vp_in (v4 + (2 : Int32)) L ∧ (gK S217 v2 = 8 ∧ (wp_X6_time (fun r223 S224 => gK S224 v2 = 8 ∧ (wp_X6_thrown (fun r226 S227 => (r226 = r216 → (r216 ≠ (0 : Int32) → wb_L_law_1093 xs L post (wb_L_law_23 xs L post n) (mc - k218) (ms - n219) v1 v2 v3 v4 S227) ∧ (r216 = (0 : Int32) → gK S227 v3 = 13 ∧ (vp_in (0 : Int32) (gN S227 v3) ∧ (((lg_cmp (gL S227 v3 (Int32.toNatClampNeg (0 : Int32))) (Int32.toInt64 r223)) = (0 : Int32) → wb_L_law_1093 xs L post (wb_L_law_23 xs L post n) (mc - k218) (ms - n219) v1 v2 v3 v4 S227) ∧ (¬ ((lg_cmp (gL S227 v3 (Int32.toNatClampNeg (0 : Int32))) (Int32.toInt64 r223)) = (0 : Int32)) → post (0 : Int32) S227))))) ∧ (¬ (r226 = r216) → post (0 : Int32) S227)) v2 S224)) v2 (xs (Int32.toNatClampNeg (v4 + (1 : Int32)))) (xs (Int32.toNatClampNeg (v4 + (2 : Int32)))) S217)))) k218 n219 v1 (xs (Int32.toNatClampNeg (v4 + (1 : Int32)))) (xs (Int32.toNatClampNeg (v4 + (2 : Int32)))) v3 S)))) ∧ (((xs (Int32.toNatClampNeg v4)) &&& (31 : Int32)) = (13 : Int32) → vp_in (v4 + (1 : Int32)) L ∧ (vp_in (v4 + (2 : Int32)) L ∧ (∃ k234 n235, k234 ≤ mc ∧ n235 ≤ ms ∧ (wp_L_next (fun r232 S233 => vp_in (v4 + (1 : Int32)) L ∧ (vp_in (v4 + (2 : Int32)) L ∧ (gK S233 v2 = 8 ∧ (wp_X6_next (fun r239 S240 => gK S240 v2 = 8 ∧ (wp_X6_thrown (fun r242 S243 => (r242 = r232 → (r232 ≠ (0 : Int32) → wb_L_law_1161 xs L post (wb_L_law_23 xs L post n) (mc - k234) (ms - n235) v1 v2 v3 v4 S243) ∧ (r232 = (0 : Int32) → gK S243 v3 = 13 ∧ (vp_in (0 : Int32) (gN S243 v3) ∧ (((lg_cmp (gL S243 v3 (Int32.toNatClampNeg (0 : Int32))) (Int32.toInt64 r239)) = (0 : Int32) → wb_L_law_1161 xs L post (wb_L_law_23 xs L post n) (mc - k234) (ms - n235) v1 v2 v3 v4 S243) ∧ (¬ ((lg_cmp (gL S243 v3 (Int32.toNatClampNeg (0 : Int32))) (Int32.toInt64 r239)) = (0 : Int32)) → post (0 : Int32) S243))))) ∧ (¬ (r242 = r232) → post (0 : Int32) S243)) v2 S240)) v2 (xs (Int32.toNatClampNeg (v4 + (1 : Int32)))) (xs (Int32.toNatClampNeg (v4 + (2 : Int32)))) S233)))) k234 n235 v1 (xs (Int32.toNatClampNeg (v4 + (1 : Int32)))) (xs (Int32.toNatClampNeg (v4 + (2 : Int32)))) v3 S)))) ∧ (((xs (Int32.toNatClampNeg v4)) &&& (31 : Int32)) = (14 : Int32) → vp_in (v4 + (1 : Int32)) L ∧ (∃ k249 n250, k249 ≤ mc ∧ n250 ≤ ms ∧ (wp_L_parts (fun r247 S248 => vp_in (v4 + (1 : Int32)) L ∧ (gK S248 v2 = 8 ∧ (wp_X6_parts (fun r253 S254 => gK S254 v2 = 8 ∧ (wp_X6_thrown (fun r256 S257 => (r256 = r247 → (r247 ≠ (0 : Int32) → wb_L_law_1217 xs L post (wb_L_law_23 xs L post n) (mc - k249) (ms - n250) v1 v2 v3 v4 S257) ∧ (r247 = (0 : Int32) → gK S257 v3 = 13 ∧ (vp_in (0 : Int32) (gN S257 v3) ∧ (((lg_cmp (gL S257 v3 (Int32.toNatClampNeg (0 : Int32))) (Int32.toInt64 r253)) = (0 : Int32) → wb_L_law_1217 xs L post (wb_L_law_23 xs L post n) (mc - k249) (ms - n250) v1 v2 v3 v4 S257) ∧ (¬ ((lg_cmp (gL S257 v3 (Int32.toNatClampNeg (0 : Int32))) (Int32.toInt64 r253)) = (0 : Int32)) → post (0 : Int32) S257))))) ∧ (¬ (r256 = r247) → post (0 : Int32) S257)) v2 S254)) v2 (xs (Int32.toNatClampNeg (v4 + (1 : Int32)))) S248))) k249 n250 v1 (xs (Int32.toNatClampNeg (v4 + (1 : Int32)))) v3 S))) ∧ (((xs (Int32.toNatClampNeg v4)) &&& (31 : Int32)) = (15 : Int32) → gK S v1 = 7 ∧ (wp_X5_mean (fun r261 S262 => gK S262 v2 = 8 ∧ (wp_X6_mean (fun r265 S266 => ((Op.cmpValue (FP.dcmp r261 r265) CmpOp.l) = (0 : Int32) → wb_L_law_1258 xs L post (wb_L_law_23 xs L post n) mc ms v1 v2 v3 v4 S266) ∧ (¬ ((Op.cmpValue (FP.dcmp r261 r265) CmpOp.l) = (0 : Int32)) → ((Op.cmpValue (FP.dcmp r261 r261) CmpOp.l) = (0 : Int32) → wb_L_law_1256 xs L post mc ms S266) ∧ (¬ ((Op.cmpValue (FP.dcmp r261 r261) CmpOp.l) = (0 : Int32)) → ((Op.cmpValue (FP.dcmp r265 r265) CmpOp.l) ≠ (0 : Int32) → wb_L_law_1258 xs L post (wb_L_law_23 xs L post n) mc ms v1 v2 v3 v4 S266) ∧ ((Op.cmpValue (FP.dcmp r265 r265) CmpOp.l) = (0 : Int32) → wb_L_law_1256 xs L post mc ms S266)))) v2 S262)) v1 S)) ∧ (((xs (Int32.toNatClampNeg v4)) &&& (31 : Int32)) = (16 : Int32) → gK S v1 = 7 ∧ (∃ k271 n272, k271 ≤ mc ∧ n272 ≤ ms ∧ (wp_X5_digest (fun r269 S270 => gK S270 v2 = 8 ∧ (wp_X6_digest (fun r274 S275 => ((lg_cmp r269 r274) = (0 : Int32) → wb_L_law_1275 xs L post (wb_L_law_23 xs L post n) (mc - k271) (ms - n272) v1 v2 v3 v4 S275) ∧ (¬ ((lg_cmp r269 r274) = (0 : Int32)) → post (0 : Int32) S275)) v2 S270)) (fun _ _ => False) k271 n272 v1 S))) ∧ (¬ ((xs (Int32.toNatClampNeg v4)) &&& (31 : Int32)) = (0 : Int32) → ¬ ((xs (Int32.toNatClampNeg v4)) &&& (31 : Int32)) = (1 : Int32) → ¬ ((xs (Int32.toNatClampNeg v4)) &&& (31 : Int32)) = (2 : Int32) → ¬ ((xs (Int32.toNatClampNeg v4)) &&& (31 : Int32)) = (3 : Int32) → ¬ ((xs (Int32.toNatClampNeg v4)) &&& (31 : Int32)) = (4 : Int32) → ¬ ((xs (Int32.toNatClampNeg v4)) &&& (31 : Int32)) = (5 : Int32) → ¬ ((xs (Int32.toNatClampNeg v4)) &&& (31 : Int32)) = (6 : Int32) → ¬ ((xs (Int32.toNatClampNeg v4)) &&& (31 : Int32)) = (7 : Int32) → ¬ ((xs (Int32.toNatClampNeg v4)) &&& (31 : Int32)) = (8 : Int32) → ¬ ((xs (Int32.toNatClampNeg v4)) &&& (31 : Int32)) = (9 : Int32) → ¬ ((xs (Int32.toNatClampNeg v4)) &&& (31 : Int32)) = (10 : Int32) → ¬ ((xs (Int32.toNatClampNeg v4)) &&& (31 : Int32)) = (11 : Int32) → ¬ ((xs (Int32.toNatClampNeg v4)) &&& (31 : Int32)) = (12 : Int32) → ¬ ((xs (Int32.toNatClampNeg v4)) &&& (31 : Int32)) = (13 : Int32) → ¬ ((xs (Int32.toNatClampNeg v4)) &&& (31 : Int32)) = (14 : Int32) → ¬ ((xs (Int32.toNatClampNeg v4)) &&& (31 : Int32)) = (15 : Int32) → ¬ ((xs (Int32.toNatClampNeg v4)) &&& (31 : Int32)) = (16 : Int32) → wb_L_law_1275 xs L post (wb_L_law_23 xs L post n) mc ms v1 v2 v3 v4 S)))
def wp_L_law (xs : Nat → Int32) (L : Nat) (post : Int32 → bS → Prop) (MC MS : Nat) (p1 : Nat) (S : bS) : Prop := 1 ≤ MC ∧ 6 ≤ MS ∧ (∀ q1, gK S q1 = 0 → (∃ k6 n7, k6 ≤ (MC - 1) ∧ n7 ≤ (MS - 6) ∧ (wp_X5_init (fun S5 => 1 ≤ ((MC - 1) - k6) ∧ 17 ≤ ((MS - 6) - n7) ∧ (∀ q8, gK S5 q8 = 0 → (∃ k13 n14, k13 ≤ (((MC - 1) - k6) - 1) ∧ n14 ≤ (((MS - 6) - n7) - 17) ∧ (wp_X6_init (fun S12 => ¬ (1 : Int32) < 0 ∧ (Int32.toNatClampNeg (1 : Int32)) * 8 ≤ 536870912 ∧ 1 ≤ ((((MC - 1) - k6) - 1) - k13) ∧ (Int32.toNatClampNeg (1 : Int32)) ≤ ((((MS - 6) - n7) - 17) - n14) ∧ (∀ q15, gK S12 q15 = 0 → (∃ n23, wb_L_law_23 xs L post n23 (((((MC - 1) - k6) - 1) - k13) - 1) (((((MS - 6) - n7) - 17) - n14) - (Int32.toNatClampNeg (1 : Int32))) q1 q8 q15 (0 : Int32) (sNew S12 q15 13 (Int32.toNatClampNeg (1 : Int32)))))) k13 n14 q8 (sNew S5 q8 8 0))))) k6 n7 q1 (sNew S q1 7 0))))
set_option maxHeartbeats 40000000 in
set_option maxRecDepth 100000 in
theorem m_L_law {p : Program} {e : Env} {s : State} {m : MethodId} {below : List Frame} {meth : Method} {c : Code} {l : Launch} {D : va_G} {y : Nat → ClassId} {z : Nat} {A : Nat → Prop} {S : bS} {post : Int32 → bS → Prop} {p1 L : Nat} {xs : Nat → Int32} (hl0 : l.stackTraces = false) (hx : p.tables.exec = Jvm.exec) (hb : c.code = code) (hr : meth.sig.returnType = ret) (hml : c.maxLocals = 9) (hlocks : meth.locks = false) (hB0 : ∀ d : Drawn, bP D y z S A (s.setDrawn d)) (hAe : ∀ q : Nat, A q → s.heap.size ≤ q) (hbA : ¬ A p1) (hbl : p1 < s.heap.size) (hX0 : ∀ d : Drawn, va_X p1 L xs (s.setDrawn d) s.heap) (hts0 : ∀ w ∈ wsL_law ++ bXl, w.before #[Value.ref p1] s = true) (hown0 : s.vm.findClass RL = some m.cls) (hpost : ∀ v S, post v S → v = 1) (h : wp_L_law xs L post 601024 7293034 p1 S) : W p l e room_1 s m #[Value.ref p1] below meth c s.heap [] 0 0 (lw_Z below #[Value.ref p1] s) (entryFrame m ([Value.ref p1] : List Value).toArray 9) := by
  have hd0 := Drawn.sameBut.refl s.drawn lw_cs
  refine W.base ?_
  have hB1 := hB0 s.drawn
  have hw : wd D y z S A s.heap := hB1.1
  have hAn : ∀ q : Nat, s.heap.size ≤ q → A q := hB1.2.2.2.1
  have hAz : ¬ A z := hB1.2.2.2.2.1
  have hS : va_S A s.heap s.heap [] := va_S.rf
  have hiX5 : ∀ w ∈ u_ws RX5 TX5 6, w ∈ wsL_law := inlX5
  have hiX6 : ∀ w ∈ u_ws RX6 TX6 17, w ∈ wsL_law := inlX6
  have hl := lv_entry ([Value.ref p1]) (n := 9) (Nat.le_of_ble_eq_true rfl)
  rw [lg_entry_eq]
  generalize (lg_sl ([Value.ref p1]) ++ List.replicate (9 - (lg_sl ([Value.ref p1])).length) Slot.unset).toArray = ls at hl ⊢
  have hl : lv_has ls 9 [(0, .ref p1)] := hl
  obtain ⟨Q, hQ⟩ : ∃ Q, Q = lw_Z below #[Value.ref p1] s := ⟨_, rfl⟩
  rw [← hQ]
  have hRf : 14 ≤ room_1.frames := Nat.le_of_ble_eq_true rfl
  have hRl : 497 ≤ room_1.locals := Nat.le_of_ble_eq_true rfl
  obtain ⟨MC, hMC⟩ : ∃ z : Nat, z = 601024 := ⟨_, rfl⟩
  obtain ⟨MS, hMS⟩ : ∃ z : Nat, z = 7293034 := ⟨_, rfl⟩
  rw [← hMC, ← hMS] at h
  have hRc : room_1.cells = MC := hMC.symm
  have hRs : room_1.slots = MS := hMS.symm
  have hret : ∀ (v : Int32) (S : bS) (H : Heap) (locs : List Loc) (pc : Nat) (ls : Array Slot) (cu su : Nat) (d0 : Drawn), post v S → wd D y z S A H → va_S A s.heap H locs → cu ≤ MC → su ≤ MS → s.drawn.sameBut d0 lw_cs → decode code pc = .ok (.ireturn, 1) → W p l e room_1 (s.setDrawn d0) m #[Value.ref p1] below meth c H locs cu su Q (F0 m pc ls [.int v]) := by
    intro v S H locs pc ls cu su d0 h hw hS hcu hsu hd0 dd
    rw [hQ, hpost v S h]
    refine va_forget (fun q hq => hAe _ (hS.2.2 q hq)) ?_
    refine W.widen (k := 601024) (n := 7293034) (by omega) (by omega) ?_
    exact lw_ret hd0 hx hb hr hlocks dd
  have hB1256 : ∀ (S : bS) (H : Heap) (locs : List Loc) (ls : Array Slot) (mc ms cu su : Nat) (d0 : Drawn) , wb_L_law_1256 xs L post mc ms S → wd D y z S A H → va_S A s.heap H locs → lv_has ls 9 [] → cu + mc ≤ MC → su + ms ≤ MS → s.drawn.sameBut d0 lw_cs → W p l e room_1 (s.setDrawn d0) m #[Value.ref p1] below meth c H locs cu su Q (F0 m 1256 ls []) := by
    intro S H locs ls mc ms cu su d0  h hw hS hl hcu hsu hd0
    unfold wb_L_law_1256 at h
    have hB := hB0 d0
    have htx := dr_words hts0 d0
    have hts : ∀ w ∈ wsL_law, w.before _ (s.setDrawn d0) = true := fun w h => htx w (List.mem_append_left _ h)
    have hown : (s.setDrawn d0).vm.findClass RL = some m.cls := hown0
    have hK : va_K D bCl (bT y) (s.setDrawn d0) := hB.2.1
    have hNw := hB.2.2.1
    have hO := hB.2.2.2.2.2.1
    have hX := hX0 d0
    refine lv_iconst (v := (0 : Int32)) hx hb dL_law_1256 (by decide) ?_
    exact hret _ _ _ _ _ _ _ _ _ h hw hS (by omega) (by omega) hd0 dL_law_1257
  have hB23 : ∀ (n23 : Nat) (S : bS) (H : Heap) (locs : List Loc) (ls : Array Slot) (mc ms cu su : Nat) (d0 : Drawn) (v1 : Nat) (v2 : Nat) (v3 : Nat) (v4 : Int32), wb_L_law_23 xs L post n23 mc ms v1 v2 v3 v4 S → wd D y z S A H → va_S A s.heap H locs → lv_has ls 9 [(0, .ref p1), (1, .ref v1), (2, .ref v2), (3, .ref v3), (4, .int v4)] → cu + mc ≤ MC → su + ms ≤ MS → s.drawn.sameBut d0 lw_cs → W p l e room_1 (s.setDrawn d0) m #[Value.ref p1] below meth c H locs cu su Q (F0 m 23 ls []) := by
    intro n23
    induction n23 with
    | zero =>
      intro S H locs ls mc ms cu su d0 v1 v2 v3 v4 h hw hS hl hcu hsu hd0
      exact absurd h (by unfold wb_L_law_23; exact id)
    | succ n23 ih23 =>
      have hB1275 : ∀ (S : bS) (H : Heap) (locs : List Loc) (ls : Array Slot) (mc ms cu su : Nat) (d0 : Drawn) (v1 : Nat) (v2 : Nat) (v3 : Nat) (v4 : Int32), wb_L_law_1275 xs L post (wb_L_law_23 xs L post n23) mc ms v1 v2 v3 v4 S → wd D y z S A H → va_S A s.heap H locs → lv_has ls 9 [(0, .ref p1), (1, .ref v1), (2, .ref v2), (3, .ref v3), (4, .int v4)] → cu + mc ≤ MC → su + ms ≤ MS → s.drawn.sameBut d0 lw_cs → W p l e room_1 (s.setDrawn d0) m #[Value.ref p1] below meth c H locs cu su Q (F0 m 1275 ls []) := by
        intro S H locs ls mc ms cu su d0 v1 v2 v3 v4 h hw hS hl hcu hsu hd0
        unfold wb_L_law_1275 at h
        have hB := hB0 d0
        have htx := dr_words hts0 d0
        have hts : ∀ w ∈ wsL_law, w.before _ (s.setDrawn d0) = true := fun w h => htx w (List.mem_append_left _ h)
        have hown : (s.setDrawn d0).vm.findClass RL = some m.cls := hown0
        have hK : va_K D bCl (bT y) (s.setDrawn d0) := hB.2.1
        have hNw := hB.2.2.1
        have hO := hB.2.2.2.2.2.1
        have hX := hX0 d0
        refine lv_iinc (v := (v4 + (6 : Int32))) hx hb dL_law_1275 hl (k := 4) rfl rfl (by decide) rfl (fun ls hl => ?_)
        have hl : lv_has ls 9 [(4, .int (v4 + (6 : Int32))), (0, .ref p1), (1, .ref v1), (2, .ref v2), (3, .ref v3)] := hl
        refine lv_goto (tgt := 23) hx hb dL_law_1278 (by decide) ?_
        exact ih23 _ _ _ _ _ _ _ _ _ _ _ _ _ h hw hS (lv_sub hl [1, 2, 3, 4, 0] rfl) hcu hsu hd0
      have hB189 : ∀ (S : bS) (H : Heap) (locs : List Loc) (ls : Array Slot) (mc ms cu su : Nat) (d0 : Drawn) (v1 : Nat) (v2 : Nat) (v3 : Nat) (v4 : Int32), wb_L_law_189 xs L post (wb_L_law_23 xs L post n23) mc ms v1 v2 v3 v4 S → wd D y z S A H → va_S A s.heap H locs → lv_has ls 9 [(0, .ref p1), (1, .ref v1), (2, .ref v2), (3, .ref v3), (4, .int v4)] → cu + mc ≤ MC → su + ms ≤ MS → s.drawn.sameBut d0 lw_cs → W p l e room_1 (s.setDrawn d0) m #[Value.ref p1] below meth c H locs cu su Q (F0 m 189 ls []) := by
        intro S H locs ls mc ms cu su d0 v1 v2 v3 v4 h hw hS hl hcu hsu hd0
        unfold wb_L_law_189 at h
        have hB := hB0 d0
        have htx := dr_words hts0 d0
        have hts : ∀ w ∈ wsL_law, w.before _ (s.setDrawn d0) = true := fun w h => htx w (List.mem_append_left _ h)
        have hown : (s.setDrawn d0).vm.findClass RL = some m.cls := hown0
        have hK : va_K D bCl (bT y) (s.setDrawn d0) := hB.2.1
        have hNw := hB.2.2.1
        have hO := hB.2.2.2.2.2.1
        have hX := hX0 d0
        refine lv_goto (tgt := 1275) hx hb dL_law_189 (by decide) ?_
        exact hB1275 _ _ _ _ _ _ _ _ _ _ _ _ _ h hw hS (lv_sub hl [0, 1, 2, 3, 4] rfl) hcu hsu hd0
      have hB293 : ∀ (S : bS) (H : Heap) (locs : List Loc) (ls : Array Slot) (mc ms cu su : Nat) (d0 : Drawn) (v1 : Nat) (v2 : Nat) (v3 : Nat) (v4 : Int32), wb_L_law_293 xs L post (wb_L_law_23 xs L post n23) mc ms v1 v2 v3 v4 S → wd D y z S A H → va_S A s.heap H locs → lv_has ls 9 [(0, .ref p1), (1, .ref v1), (2, .ref v2), (3, .ref v3), (4, .int v4)] → cu + mc ≤ MC → su + ms ≤ MS → s.drawn.sameBut d0 lw_cs → W p l e room_1 (s.setDrawn d0) m #[Value.ref p1] below meth c H locs cu su Q (F0 m 293 ls []) := by
        intro S H locs ls mc ms cu su d0 v1 v2 v3 v4 h hw hS hl hcu hsu hd0
        unfold wb_L_law_293 at h
        have hB := hB0 d0
        have htx := dr_words hts0 d0
        have hts : ∀ w ∈ wsL_law, w.before _ (s.setDrawn d0) = true := fun w h => htx w (List.mem_append_left _ h)
        have hown : (s.setDrawn d0).vm.findClass RL = some m.cls := hown0
        have hK : va_K D bCl (bT y) (s.setDrawn d0) := hB.2.1
        have hNw := hB.2.2.1
        have hO := hB.2.2.2.2.2.1
        have hX := hX0 d0
        refine lv_goto (tgt := 1275) hx hb dL_law_293 (by decide) ?_
        exact hB1275 _ _ _ _ _ _ _ _ _ _ _ _ _ h hw hS (lv_sub hl [0, 1, 2, 3, 4] rfl) hcu hsu hd0
      have hB361 : ∀ (S : bS) (H : Heap) (locs : List Loc) (ls : Array Slot) (mc ms cu su : Nat) (d0 : Drawn) (v1 : Nat) (v2 : Nat) (v3 : Nat) (v4 : Int32), wb_L_law_361 xs L post (wb_L_law_23 xs L post n23) mc ms v1 v2 v3 v4 S → wd D y z S A H → va_S A s.heap H locs → lv_has ls 9 [(0, .ref p1), (1, .ref v1), (2, .ref v2), (3, .ref v3), (4, .int v4)] → cu + mc ≤ MC → su + ms ≤ MS → s.drawn.sameBut d0 lw_cs → W p l e room_1 (s.setDrawn d0) m #[Value.ref p1] below meth c H locs cu su Q (F0 m 361 ls []) := by
        intro S H locs ls mc ms cu su d0 v1 v2 v3 v4 h hw hS hl hcu hsu hd0
        unfold wb_L_law_361 at h
        have hB := hB0 d0
        have htx := dr_words hts0 d0
        have hts : ∀ w ∈ wsL_law, w.before _ (s.setDrawn d0) = true := fun w h => htx w (List.mem_append_left _ h)
        have hown : (s.setDrawn d0).vm.findClass RL = some m.cls := hown0
        have hK : va_K D bCl (bT y) (s.setDrawn d0) := hB.2.1
        have hNw := hB.2.2.1
        have hO := hB.2.2.2.2.2.1
        have hX := hX0 d0
        refine lv_goto (tgt := 1275) hx hb dL_law_361 (by decide) ?_
        exact hB1275 _ _ _ _ _ _ _ _ _ _ _ _ _ h hw hS (lv_sub hl [0, 1, 2, 3, 4] rfl) hcu hsu hd0
      have hB457 : ∀ (S : bS) (H : Heap) (locs : List Loc) (ls : Array Slot) (mc ms cu su : Nat) (d0 : Drawn) (v1 : Nat) (v2 : Nat) (v3 : Nat) (v4 : Int32), wb_L_law_457 xs L post (wb_L_law_23 xs L post n23) mc ms v1 v2 v3 v4 S → wd D y z S A H → va_S A s.heap H locs → lv_has ls 9 [(0, .ref p1), (1, .ref v1), (2, .ref v2), (3, .ref v3), (4, .int v4)] → cu + mc ≤ MC → su + ms ≤ MS → s.drawn.sameBut d0 lw_cs → W p l e room_1 (s.setDrawn d0) m #[Value.ref p1] below meth c H locs cu su Q (F0 m 457 ls []) := by
        intro S H locs ls mc ms cu su d0 v1 v2 v3 v4 h hw hS hl hcu hsu hd0
        unfold wb_L_law_457 at h
        have hB := hB0 d0
        have htx := dr_words hts0 d0
        have hts : ∀ w ∈ wsL_law, w.before _ (s.setDrawn d0) = true := fun w h => htx w (List.mem_append_left _ h)
        have hown : (s.setDrawn d0).vm.findClass RL = some m.cls := hown0
        have hK : va_K D bCl (bT y) (s.setDrawn d0) := hB.2.1
        have hNw := hB.2.2.1
        have hO := hB.2.2.2.2.2.1
        have hX := hX0 d0
        refine lv_goto (tgt := 1275) hx hb dL_law_457 (by decide) ?_
        exact hB1275 _ _ _ _ _ _ _ _ _ _ _ _ _ h hw hS (lv_sub hl [0, 1, 2, 3, 4] rfl) hcu hsu hd0
      have hB424 : ∀ (S : bS) (H : Heap) (locs : List Loc) (ls : Array Slot) (mc ms cu su : Nat) (d0 : Drawn) (v1 : Nat) (v2 : Nat) (v3 : Nat) (v4 : Int32) (v5 : Int32) (s0 : Int32) (s1 : Int32) (s2 : Int32) (s3 : Nat), wb_L_law_424 xs L post (wb_L_law_23 xs L post n23) mc ms v1 v2 v3 v4 v5 s0 s1 s2 s3 S → wd D y z S A H → va_S A s.heap H locs → lv_has ls 9 [(0, .ref p1), (1, .ref v1), (2, .ref v2), (3, .ref v3), (4, .int v4), (5, .int v5)] → cu + mc ≤ MC → su + ms ≤ MS → s.drawn.sameBut d0 lw_cs → W p l e room_1 (s.setDrawn d0) m #[Value.ref p1] below meth c H locs cu su Q (F0 m 424 ls [.int s0, .int s1, .int s2, .ref s3]) := by
        intro S H locs ls mc ms cu su d0 v1 v2 v3 v4 v5 s0 s1 s2 s3 h hw hS hl hcu hsu hd0
        unfold wb_L_law_424 at h
        have hB := hB0 d0
        have htx := dr_words hts0 d0
        have hts : ∀ w ∈ wsL_law, w.before _ (s.setDrawn d0) = true := fun w h => htx w (List.mem_append_left _ h)
        have hown : (s.setDrawn d0).vm.findClass RL = some m.cls := hown0
        have hK : va_K D bCl (bT y) (s.setDrawn d0) := hB.2.1
        have hNw := hB.2.2.1
        have hO := hB.2.2.2.2.2.1
        have hX := hX0 d0
        obtain ⟨hk283, h⟩ := h
        have h1 := h
        refine va_calli (va_runV (As := [.int s2, .int s1, .int s0]) (rest := []) ⟨hx, hb, hml, hown, hts⟩ (m_X6_setTube (l := l) h1) (cwV 3 hts gL_law_X6_setTube rfl rfl rfl (by decide +kernel) ⟨Nat.le_trans (Nat.le_of_ble_eq_true rfl) hRf, Nat.le_trans (Nat.le_of_ble_eq_true rfl) hRl⟩) (r_pV hB hw hS (ce_8 (S := S) hk283) rfl) rfl rfl hl.1 rfl (lv_room (Nat.le_of_ble_eq_true rfl)) dL_law_424 ⟨by omega, by omega⟩) hS (fun _ _ h => h) (fun _ h => h) (fun r284 S285 t H1 locs ht _ h hw1 _ _ hS => ?_)
        subst ht
        have hw : wd D y z S285 A t.heap := hw1
        clear hw1 h1
        refine lv_istore hx hb dL_law_427 hl (by decide) rfl (fun ls hl => ?_)
        have hl : lv_has ls 9 [(6, .int r284), (0, .ref p1), (1, .ref v1), (2, .ref v2), (3, .ref v3), (4, .int v4), (5, .int v5)] := hl
        refine lv_aload_n hx hb dL_law_429 rfl (lv_at hl 3 rfl) ?_
        obtain ⟨hk286, h⟩ := h
        have h1 := h
        refine va_calli (va_runV (As := []) (rest := []) ⟨hx, hb, hml, hown, hts⟩ (m_X6_thrown (l := l) h1) (cwV 0 hts gL_law_X6_thrown rfl rfl rfl (by decide +kernel) ⟨Nat.le_trans (Nat.le_of_ble_eq_true rfl) hRf, Nat.le_trans (Nat.le_of_ble_eq_true rfl) hRl⟩) (r_pV hB hw hS (ce_8 (S := S285) hk286) rfl) rfl rfl hl.1 rfl (lv_room (Nat.le_of_ble_eq_true rfl)) dL_law_430 ⟨by omega, by omega⟩) hS (fun _ _ h => h) (fun _ h => h) (fun r287 S288 t H1 locs ht _ h hw1 _ _ hS => ?_)
        subst ht
        have hw : wd D y z S288 A t.heap := hw1
        clear hw1 h1
        refine lv_iload hx hb dL_law_433 (lv_at hl 6 rfl) ?_
        refine lv_icmp_eq (tgt := 440) hx hb dL_law_435 (by decide) (fun hc => ?_) (fun hc => ?_)
        · have h := h.1 hc
          refine lv_iload hx hb dL_law_440 (lv_at hl 6 rfl) ?_
          refine lv_if_ne (tgt := 457) hx hb dL_law_442 (by decide) (fun hc => ?_) (fun hc => ?_)
          · have h := h.1 hc
            exact hB457 _ _ _ _ _ _ _ _ _ _ _ _ _ h hw hS (lv_sub hl [1, 2, 3, 4, 5] rfl) hcu hsu hd0
          · have h := h.2 hc
            refine lv_aload_n hx hb dL_law_445 rfl (lv_at hl 4 rfl) ?_
            refine lv_iconst (v := (0 : Int32)) hx hb dL_law_446 (by decide) ?_
            obtain ⟨hk289, h⟩ := h
            obtain ⟨hin290, h⟩ := h
            refine r_lald hx hb hK hw hk289 hin290 dL_law_447 ?_
            refine lv_iload hx hb dL_law_448 (lv_at hl 0 rfl) ?_
            refine lv_i2l (v := (Int32.toInt64 r284)) hx hb dL_law_450 rfl ?_
            refine W.lcmp hx hb dL_law_451 ?_
            refine lv_if_eq (tgt := 457) hx hb dL_law_452 (by decide) (fun hc => ?_) (fun hc => ?_)
            · have h := h.1 hc
              exact hB457 _ _ _ _ _ _ _ _ _ _ _ _ _ h hw hS (lv_sub hl [1, 2, 3, 4, 5] rfl) hcu hsu hd0
            · have h := h.2 hc
              refine lv_iconst (v := (0 : Int32)) hx hb dL_law_455 (by decide) ?_
              exact hret _ _ _ _ _ _ _ _ _ h hw hS (by omega) (by omega) hd0 dL_law_456
        · have h := h.2 hc
          refine lv_iconst (v := (0 : Int32)) hx hb dL_law_438 (by decide) ?_
          exact hret _ _ _ _ _ _ _ _ _ h hw hS (by omega) (by omega) hd0 dL_law_439
      have hB391 : ∀ (S : bS) (H : Heap) (locs : List Loc) (ls : Array Slot) (mc ms cu su : Nat) (d0 : Drawn) (v1 : Nat) (v2 : Nat) (v3 : Nat) (v4 : Int32) (s0 : Int32) (s1 : Int32) (s2 : Int32) (s3 : Nat), wb_L_law_391 xs L post (wb_L_law_23 xs L post n23) mc ms v1 v2 v3 v4 s0 s1 s2 s3 S → wd D y z S A H → va_S A s.heap H locs → lv_has ls 9 [(0, .ref p1), (1, .ref v1), (2, .ref v2), (3, .ref v3), (4, .int v4)] → cu + mc ≤ MC → su + ms ≤ MS → s.drawn.sameBut d0 lw_cs → W p l e room_1 (s.setDrawn d0) m #[Value.ref p1] below meth c H locs cu su Q (F0 m 391 ls [.int s0, .int s1, .int s2, .ref s3]) := by
        intro S H locs ls mc ms cu su d0 v1 v2 v3 v4 s0 s1 s2 s3 h hw hS hl hcu hsu hd0
        unfold wb_L_law_391 at h
        have hB := hB0 d0
        have htx := dr_words hts0 d0
        have hts : ∀ w ∈ wsL_law, w.before _ (s.setDrawn d0) = true := fun w h => htx w (List.mem_append_left _ h)
        have hown : (s.setDrawn d0).vm.findClass RL = some m.cls := hown0
        have hK : va_K D bCl (bT y) (s.setDrawn d0) := hB.2.1
        have hNw := hB.2.2.1
        have hO := hB.2.2.2.2.2.1
        have hX := hX0 d0
        refine lv_aload_n hx hb dL_law_391 rfl (lv_at hl 3 rfl) ?_
        obtain ⟨k278, n279, hbg1, hbg2, h⟩ := h
        have h1 := h
        refine va_calli (vx_runSW (As := [.ref s3, .int s2, .int s1, .int s0, .ref v3]) (rest := []) ⟨hx, hb, hml, hown, hts⟩ (m_L_setTube (l := l) hl0 h1) (vx_cwSW 5 htx (goodQ gL_law_L_setTube (by decide)) rfl rfl rfl ⟨by decide +kernel, by decide +kernel, by decide +kernel⟩ ⟨Nat.le_trans (Nat.le_of_ble_eq_true rfl) hRf, Nat.le_trans (Nat.le_of_ble_eq_true rfl) hRl⟩) (r_pS hB hw hS) rfl rfl hl.1 rfl (lv_room (Nat.le_of_ble_eq_true rfl)) dL_law_392 ⟨by omega, by omega⟩) hS (fun _ _ h => h) (fun _ h => h) (fun r276 S277 t H1 locs ht _ h hw1 _ _ hS => ?_)
        subst ht
        have hw : wd D y z S277 A t.heap := hw1
        clear hw1 h1
        have hcu : (cu + k278) + (mc - k278) ≤ MC := by omega
        have hsu : (su + n279) + (ms - n279) ≤ MS := by omega
        refine lv_istore hx hb dL_law_395 hl (by decide) rfl (fun ls hl => ?_)
        have hl : lv_has ls 9 [(5, .int r276), (0, .ref p1), (1, .ref v1), (2, .ref v2), (3, .ref v3), (4, .int v4)] := hl
        refine lv_aload_n hx hb dL_law_397 rfl (lv_at hl 3 rfl) ?_
        refine lv_aload_n hx hb dL_law_398 rfl (lv_at hl 1 rfl) ?_
        refine lv_iload hx hb dL_law_399 (lv_at hl 5 rfl) ?_
        refine lv_iconst (v := (1 : Int32)) hx hb dL_law_401 (by decide) ?_
        refine lv_iadd hx hb dL_law_402 ?_
        obtain ⟨hin280, h⟩ := h
        refine va_sld hx hb hX hbl hbA hS hin280 dL_law_403 ?_
        refine lv_aload_n hx hb dL_law_404 rfl (lv_at hl 1 rfl) ?_
        refine lv_iload hx hb dL_law_405 (lv_at hl 5 rfl) ?_
        refine lv_iconst (v := (2 : Int32)) hx hb dL_law_407 (by decide) ?_
        refine lv_iadd hx hb dL_law_408 ?_
        obtain ⟨hin281, h⟩ := h
        refine va_sld hx hb hX hbl hbA hS hin281 dL_law_409 ?_
        refine lv_aload_n hx hb dL_law_410 rfl (lv_at hl 1 rfl) ?_
        refine lv_iload hx hb dL_law_411 (lv_at hl 5 rfl) ?_
        refine lv_iconst (v := (3 : Int32)) hx hb dL_law_413 (by decide) ?_
        refine lv_iadd hx hb dL_law_414 ?_
        obtain ⟨hin282, h⟩ := h
        refine va_sld hx hb hX hbl hbA hS hin282 dL_law_415 ?_
        refine lv_if_eq (tgt := 423) hx hb dL_law_416 (by decide) (fun hc => ?_) (fun hc => ?_)
        · have h := h.1 hc
          refine lv_iconst (v := (0 : Int32)) hx hb dL_law_423 (by decide) ?_
          exact hB424 _ _ _ _ _ _ _ _ _ _ _ _ _ _ _ _ _ _ h hw hS (lv_sub hl [1, 2, 3, 4, 5, 0] rfl) hcu hsu hd0
        · have h := h.2 hc
          refine lv_iconst (v := (1 : Int32)) hx hb dL_law_419 (by decide) ?_
          refine lv_goto (tgt := 424) hx hb dL_law_420 (by decide) ?_
          exact hB424 _ _ _ _ _ _ _ _ _ _ _ _ _ _ _ _ _ _ h hw hS (lv_sub hl [1, 2, 3, 4, 5, 0] rfl) hcu hsu hd0
      have hB561 : ∀ (S : bS) (H : Heap) (locs : List Loc) (ls : Array Slot) (mc ms cu su : Nat) (d0 : Drawn) (v1 : Nat) (v2 : Nat) (v3 : Nat) (v4 : Int32), wb_L_law_561 xs L post (wb_L_law_23 xs L post n23) mc ms v1 v2 v3 v4 S → wd D y z S A H → va_S A s.heap H locs → lv_has ls 9 [(0, .ref p1), (1, .ref v1), (2, .ref v2), (3, .ref v3), (4, .int v4)] → cu + mc ≤ MC → su + ms ≤ MS → s.drawn.sameBut d0 lw_cs → W p l e room_1 (s.setDrawn d0) m #[Value.ref p1] below meth c H locs cu su Q (F0 m 561 ls []) := by
        intro S H locs ls mc ms cu su d0 v1 v2 v3 v4 h hw hS hl hcu hsu hd0
        unfold wb_L_law_561 at h
        have hB := hB0 d0
        have htx := dr_words hts0 d0
        have hts : ∀ w ∈ wsL_law, w.before _ (s.setDrawn d0) = true := fun w h => htx w (List.mem_append_left _ h)
        have hown : (s.setDrawn d0).vm.findClass RL = some m.cls := hown0
        have hK : va_K D bCl (bT y) (s.setDrawn d0) := hB.2.1
        have hNw := hB.2.2.1
        have hO := hB.2.2.2.2.2.1
        have hX := hX0 d0
        refine lv_goto (tgt := 1275) hx hb dL_law_561 (by decide) ?_
        exact hB1275 _ _ _ _ _ _ _ _ _ _ _ _ _ h hw hS (lv_sub hl [0, 1, 2, 3, 4] rfl) hcu hsu hd0
      have hB641 : ∀ (S : bS) (H : Heap) (locs : List Loc) (ls : Array Slot) (mc ms cu su : Nat) (d0 : Drawn) (v1 : Nat) (v2 : Nat) (v3 : Nat) (v4 : Int32), wb_L_law_641 xs L post (wb_L_law_23 xs L post n23) mc ms v1 v2 v3 v4 S → wd D y z S A H → va_S A s.heap H locs → lv_has ls 9 [(0, .ref p1), (1, .ref v1), (2, .ref v2), (3, .ref v3), (4, .int v4)] → cu + mc ≤ MC → su + ms ≤ MS → s.drawn.sameBut d0 lw_cs → W p l e room_1 (s.setDrawn d0) m #[Value.ref p1] below meth c H locs cu su Q (F0 m 641 ls []) := by
        intro S H locs ls mc ms cu su d0 v1 v2 v3 v4 h hw hS hl hcu hsu hd0
        unfold wb_L_law_641 at h
        have hB := hB0 d0
        have htx := dr_words hts0 d0
        have hts : ∀ w ∈ wsL_law, w.before _ (s.setDrawn d0) = true := fun w h => htx w (List.mem_append_left _ h)
        have hown : (s.setDrawn d0).vm.findClass RL = some m.cls := hown0
        have hK : va_K D bCl (bT y) (s.setDrawn d0) := hB.2.1
        have hNw := hB.2.2.1
        have hO := hB.2.2.2.2.2.1
        have hX := hX0 d0
        refine lv_goto (tgt := 1275) hx hb dL_law_641 (by decide) ?_
        exact hB1275 _ _ _ _ _ _ _ _ _ _ _ _ _ h hw hS (lv_sub hl [0, 1, 2, 3, 4] rfl) hcu hsu hd0
      have hB697 : ∀ (S : bS) (H : Heap) (locs : List Loc) (ls : Array Slot) (mc ms cu su : Nat) (d0 : Drawn) (v1 : Nat) (v2 : Nat) (v3 : Nat) (v4 : Int32), wb_L_law_697 xs L post (wb_L_law_23 xs L post n23) mc ms v1 v2 v3 v4 S → wd D y z S A H → va_S A s.heap H locs → lv_has ls 9 [(0, .ref p1), (1, .ref v1), (2, .ref v2), (3, .ref v3), (4, .int v4)] → cu + mc ≤ MC → su + ms ≤ MS → s.drawn.sameBut d0 lw_cs → W p l e room_1 (s.setDrawn d0) m #[Value.ref p1] below meth c H locs cu su Q (F0 m 697 ls []) := by
        intro S H locs ls mc ms cu su d0 v1 v2 v3 v4 h hw hS hl hcu hsu hd0
        unfold wb_L_law_697 at h
        have hB := hB0 d0
        have htx := dr_words hts0 d0
        have hts : ∀ w ∈ wsL_law, w.before _ (s.setDrawn d0) = true := fun w h => htx w (List.mem_append_left _ h)
        have hown : (s.setDrawn d0).vm.findClass RL = some m.cls := hown0
        have hK : va_K D bCl (bT y) (s.setDrawn d0) := hB.2.1
        have hNw := hB.2.2.1
        have hO := hB.2.2.2.2.2.1
        have hX := hX0 d0
        refine lv_goto (tgt := 1275) hx hb dL_law_697 (by decide) ?_
        exact hB1275 _ _ _ _ _ _ _ _ _ _ _ _ _ h hw hS (lv_sub hl [0, 1, 2, 3, 4] rfl) hcu hsu hd0
      have hB765 : ∀ (S : bS) (H : Heap) (locs : List Loc) (ls : Array Slot) (mc ms cu su : Nat) (d0 : Drawn) (v1 : Nat) (v2 : Nat) (v3 : Nat) (v4 : Int32), wb_L_law_765 xs L post (wb_L_law_23 xs L post n23) mc ms v1 v2 v3 v4 S → wd D y z S A H → va_S A s.heap H locs → lv_has ls 9 [(0, .ref p1), (1, .ref v1), (2, .ref v2), (3, .ref v3), (4, .int v4)] → cu + mc ≤ MC → su + ms ≤ MS → s.drawn.sameBut d0 lw_cs → W p l e room_1 (s.setDrawn d0) m #[Value.ref p1] below meth c H locs cu su Q (F0 m 765 ls []) := by
        intro S H locs ls mc ms cu su d0 v1 v2 v3 v4 h hw hS hl hcu hsu hd0
        unfold wb_L_law_765 at h
        have hB := hB0 d0
        have htx := dr_words hts0 d0
        have hts : ∀ w ∈ wsL_law, w.before _ (s.setDrawn d0) = true := fun w h => htx w (List.mem_append_left _ h)
        have hown : (s.setDrawn d0).vm.findClass RL = some m.cls := hown0
        have hK : va_K D bCl (bT y) (s.setDrawn d0) := hB.2.1
        have hNw := hB.2.2.1
        have hO := hB.2.2.2.2.2.1
        have hX := hX0 d0
        refine lv_goto (tgt := 1275) hx hb dL_law_765 (by decide) ?_
        exact hB1275 _ _ _ _ _ _ _ _ _ _ _ _ _ h hw hS (lv_sub hl [0, 1, 2, 3, 4] rfl) hcu hsu hd0
      have hB821 : ∀ (S : bS) (H : Heap) (locs : List Loc) (ls : Array Slot) (mc ms cu su : Nat) (d0 : Drawn) (v1 : Nat) (v2 : Nat) (v3 : Nat) (v4 : Int32), wb_L_law_821 xs L post (wb_L_law_23 xs L post n23) mc ms v1 v2 v3 v4 S → wd D y z S A H → va_S A s.heap H locs → lv_has ls 9 [(0, .ref p1), (1, .ref v1), (2, .ref v2), (3, .ref v3), (4, .int v4)] → cu + mc ≤ MC → su + ms ≤ MS → s.drawn.sameBut d0 lw_cs → W p l e room_1 (s.setDrawn d0) m #[Value.ref p1] below meth c H locs cu su Q (F0 m 821 ls []) := by
        intro S H locs ls mc ms cu su d0 v1 v2 v3 v4 h hw hS hl hcu hsu hd0
        unfold wb_L_law_821 at h
        have hB := hB0 d0
        have htx := dr_words hts0 d0
        have hts : ∀ w ∈ wsL_law, w.before _ (s.setDrawn d0) = true := fun w h => htx w (List.mem_append_left _ h)
        have hown : (s.setDrawn d0).vm.findClass RL = some m.cls := hown0
        have hK : va_K D bCl (bT y) (s.setDrawn d0) := hB.2.1
        have hNw := hB.2.2.1
        have hO := hB.2.2.2.2.2.1
        have hX := hX0 d0
        refine lv_goto (tgt := 1275) hx hb dL_law_821 (by decide) ?_
        exact hB1275 _ _ _ _ _ _ _ _ _ _ _ _ _ h hw hS (lv_sub hl [0, 1, 2, 3, 4] rfl) hcu hsu hd0
      have hB889 : ∀ (S : bS) (H : Heap) (locs : List Loc) (ls : Array Slot) (mc ms cu su : Nat) (d0 : Drawn) (v1 : Nat) (v2 : Nat) (v3 : Nat) (v4 : Int32), wb_L_law_889 xs L post (wb_L_law_23 xs L post n23) mc ms v1 v2 v3 v4 S → wd D y z S A H → va_S A s.heap H locs → lv_has ls 9 [(0, .ref p1), (1, .ref v1), (2, .ref v2), (3, .ref v3), (4, .int v4)] → cu + mc ≤ MC → su + ms ≤ MS → s.drawn.sameBut d0 lw_cs → W p l e room_1 (s.setDrawn d0) m #[Value.ref p1] below meth c H locs cu su Q (F0 m 889 ls []) := by
        intro S H locs ls mc ms cu su d0 v1 v2 v3 v4 h hw hS hl hcu hsu hd0
        unfold wb_L_law_889 at h
        have hB := hB0 d0
        have htx := dr_words hts0 d0
        have hts : ∀ w ∈ wsL_law, w.before _ (s.setDrawn d0) = true := fun w h => htx w (List.mem_append_left _ h)
        have hown : (s.setDrawn d0).vm.findClass RL = some m.cls := hown0
        have hK : va_K D bCl (bT y) (s.setDrawn d0) := hB.2.1
        have hNw := hB.2.2.1
        have hO := hB.2.2.2.2.2.1
        have hX := hX0 d0
        refine lv_goto (tgt := 1275) hx hb dL_law_889 (by decide) ?_
        exact hB1275 _ _ _ _ _ _ _ _ _ _ _ _ _ h hw hS (lv_sub hl [0, 1, 2, 3, 4] rfl) hcu hsu hd0
      have hB957 : ∀ (S : bS) (H : Heap) (locs : List Loc) (ls : Array Slot) (mc ms cu su : Nat) (d0 : Drawn) (v1 : Nat) (v2 : Nat) (v3 : Nat) (v4 : Int32), wb_L_law_957 xs L post (wb_L_law_23 xs L post n23) mc ms v1 v2 v3 v4 S → wd D y z S A H → va_S A s.heap H locs → lv_has ls 9 [(0, .ref p1), (1, .ref v1), (2, .ref v2), (3, .ref v3), (4, .int v4)] → cu + mc ≤ MC → su + ms ≤ MS → s.drawn.sameBut d0 lw_cs → W p l e room_1 (s.setDrawn d0) m #[Value.ref p1] below meth c H locs cu su Q (F0 m 957 ls []) := by
        intro S H locs ls mc ms cu su d0 v1 v2 v3 v4 h hw hS hl hcu hsu hd0
        unfold wb_L_law_957 at h
        have hB := hB0 d0
        have htx := dr_words hts0 d0
        have hts : ∀ w ∈ wsL_law, w.before _ (s.setDrawn d0) = true := fun w h => htx w (List.mem_append_left _ h)
        have hown : (s.setDrawn d0).vm.findClass RL = some m.cls := hown0
        have hK : va_K D bCl (bT y) (s.setDrawn d0) := hB.2.1
        have hNw := hB.2.2.1
        have hO := hB.2.2.2.2.2.1
        have hX := hX0 d0
        refine lv_goto (tgt := 1275) hx hb dL_law_957 (by decide) ?_
        exact hB1275 _ _ _ _ _ _ _ _ _ _ _ _ _ h hw hS (lv_sub hl [0, 1, 2, 3, 4] rfl) hcu hsu hd0
      have hB1025 : ∀ (S : bS) (H : Heap) (locs : List Loc) (ls : Array Slot) (mc ms cu su : Nat) (d0 : Drawn) (v1 : Nat) (v2 : Nat) (v3 : Nat) (v4 : Int32), wb_L_law_1025 xs L post (wb_L_law_23 xs L post n23) mc ms v1 v2 v3 v4 S → wd D y z S A H → va_S A s.heap H locs → lv_has ls 9 [(0, .ref p1), (1, .ref v1), (2, .ref v2), (3, .ref v3), (4, .int v4)] → cu + mc ≤ MC → su + ms ≤ MS → s.drawn.sameBut d0 lw_cs → W p l e room_1 (s.setDrawn d0) m #[Value.ref p1] below meth c H locs cu su Q (F0 m 1025 ls []) := by
        intro S H locs ls mc ms cu su d0 v1 v2 v3 v4 h hw hS hl hcu hsu hd0
        unfold wb_L_law_1025 at h
        have hB := hB0 d0
        have htx := dr_words hts0 d0
        have hts : ∀ w ∈ wsL_law, w.before _ (s.setDrawn d0) = true := fun w h => htx w (List.mem_append_left _ h)
        have hown : (s.setDrawn d0).vm.findClass RL = some m.cls := hown0
        have hK : va_K D bCl (bT y) (s.setDrawn d0) := hB.2.1
        have hNw := hB.2.2.1
        have hO := hB.2.2.2.2.2.1
        have hX := hX0 d0
        refine lv_goto (tgt := 1275) hx hb dL_law_1025 (by decide) ?_
        exact hB1275 _ _ _ _ _ _ _ _ _ _ _ _ _ h hw hS (lv_sub hl [0, 1, 2, 3, 4] rfl) hcu hsu hd0
      have hB1093 : ∀ (S : bS) (H : Heap) (locs : List Loc) (ls : Array Slot) (mc ms cu su : Nat) (d0 : Drawn) (v1 : Nat) (v2 : Nat) (v3 : Nat) (v4 : Int32), wb_L_law_1093 xs L post (wb_L_law_23 xs L post n23) mc ms v1 v2 v3 v4 S → wd D y z S A H → va_S A s.heap H locs → lv_has ls 9 [(0, .ref p1), (1, .ref v1), (2, .ref v2), (3, .ref v3), (4, .int v4)] → cu + mc ≤ MC → su + ms ≤ MS → s.drawn.sameBut d0 lw_cs → W p l e room_1 (s.setDrawn d0) m #[Value.ref p1] below meth c H locs cu su Q (F0 m 1093 ls []) := by
        intro S H locs ls mc ms cu su d0 v1 v2 v3 v4 h hw hS hl hcu hsu hd0
        unfold wb_L_law_1093 at h
        have hB := hB0 d0
        have htx := dr_words hts0 d0
        have hts : ∀ w ∈ wsL_law, w.before _ (s.setDrawn d0) = true := fun w h => htx w (List.mem_append_left _ h)
        have hown : (s.setDrawn d0).vm.findClass RL = some m.cls := hown0
        have hK : va_K D bCl (bT y) (s.setDrawn d0) := hB.2.1
        have hNw := hB.2.2.1
        have hO := hB.2.2.2.2.2.1
        have hX := hX0 d0
        refine lv_goto (tgt := 1275) hx hb dL_law_1093 (by decide) ?_
        exact hB1275 _ _ _ _ _ _ _ _ _ _ _ _ _ h hw hS (lv_sub hl [0, 1, 2, 3, 4] rfl) hcu hsu hd0
      have hB1161 : ∀ (S : bS) (H : Heap) (locs : List Loc) (ls : Array Slot) (mc ms cu su : Nat) (d0 : Drawn) (v1 : Nat) (v2 : Nat) (v3 : Nat) (v4 : Int32), wb_L_law_1161 xs L post (wb_L_law_23 xs L post n23) mc ms v1 v2 v3 v4 S → wd D y z S A H → va_S A s.heap H locs → lv_has ls 9 [(0, .ref p1), (1, .ref v1), (2, .ref v2), (3, .ref v3), (4, .int v4)] → cu + mc ≤ MC → su + ms ≤ MS → s.drawn.sameBut d0 lw_cs → W p l e room_1 (s.setDrawn d0) m #[Value.ref p1] below meth c H locs cu su Q (F0 m 1161 ls []) := by
        intro S H locs ls mc ms cu su d0 v1 v2 v3 v4 h hw hS hl hcu hsu hd0
        unfold wb_L_law_1161 at h
        have hB := hB0 d0
        have htx := dr_words hts0 d0
        have hts : ∀ w ∈ wsL_law, w.before _ (s.setDrawn d0) = true := fun w h => htx w (List.mem_append_left _ h)
        have hown : (s.setDrawn d0).vm.findClass RL = some m.cls := hown0
        have hK : va_K D bCl (bT y) (s.setDrawn d0) := hB.2.1
        have hNw := hB.2.2.1
        have hO := hB.2.2.2.2.2.1
        have hX := hX0 d0
        refine lv_goto (tgt := 1275) hx hb dL_law_1161 (by decide) ?_
        exact hB1275 _ _ _ _ _ _ _ _ _ _ _ _ _ h hw hS (lv_sub hl [0, 1, 2, 3, 4] rfl) hcu hsu hd0
      have hB1217 : ∀ (S : bS) (H : Heap) (locs : List Loc) (ls : Array Slot) (mc ms cu su : Nat) (d0 : Drawn) (v1 : Nat) (v2 : Nat) (v3 : Nat) (v4 : Int32), wb_L_law_1217 xs L post (wb_L_law_23 xs L post n23) mc ms v1 v2 v3 v4 S → wd D y z S A H → va_S A s.heap H locs → lv_has ls 9 [(0, .ref p1), (1, .ref v1), (2, .ref v2), (3, .ref v3), (4, .int v4)] → cu + mc ≤ MC → su + ms ≤ MS → s.drawn.sameBut d0 lw_cs → W p l e room_1 (s.setDrawn d0) m #[Value.ref p1] below meth c H locs cu su Q (F0 m 1217 ls []) := by
        intro S H locs ls mc ms cu su d0 v1 v2 v3 v4 h hw hS hl hcu hsu hd0
        unfold wb_L_law_1217 at h
        have hB := hB0 d0
        have htx := dr_words hts0 d0
        have hts : ∀ w ∈ wsL_law, w.before _ (s.setDrawn d0) = true := fun w h => htx w (List.mem_append_left _ h)
        have hown : (s.setDrawn d0).vm.findClass RL = some m.cls := hown0
        have hK : va_K D bCl (bT y) (s.setDrawn d0) := hB.2.1
        have hNw := hB.2.2.1
        have hO := hB.2.2.2.2.2.1
        have hX := hX0 d0
        refine lv_goto (tgt := 1275) hx hb dL_law_1217 (by decide) ?_
        exact hB1275 _ _ _ _ _ _ _ _ _ _ _ _ _ h hw hS (lv_sub hl [0, 1, 2, 3, 4] rfl) hcu hsu hd0
      have hB1258 : ∀ (S : bS) (H : Heap) (locs : List Loc) (ls : Array Slot) (mc ms cu su : Nat) (d0 : Drawn) (v1 : Nat) (v2 : Nat) (v3 : Nat) (v4 : Int32), wb_L_law_1258 xs L post (wb_L_law_23 xs L post n23) mc ms v1 v2 v3 v4 S → wd D y z S A H → va_S A s.heap H locs → lv_has ls 9 [(0, .ref p1), (1, .ref v1), (2, .ref v2), (3, .ref v3), (4, .int v4)] → cu + mc ≤ MC → su + ms ≤ MS → s.drawn.sameBut d0 lw_cs → W p l e room_1 (s.setDrawn d0) m #[Value.ref p1] below meth c H locs cu su Q (F0 m 1258 ls []) := by
        intro S H locs ls mc ms cu su d0 v1 v2 v3 v4 h hw hS hl hcu hsu hd0
        unfold wb_L_law_1258 at h
        have hB := hB0 d0
        have htx := dr_words hts0 d0
        have hts : ∀ w ∈ wsL_law, w.before _ (s.setDrawn d0) = true := fun w h => htx w (List.mem_append_left _ h)
        have hown : (s.setDrawn d0).vm.findClass RL = some m.cls := hown0
        have hK : va_K D bCl (bT y) (s.setDrawn d0) := hB.2.1
        have hNw := hB.2.2.1
        have hO := hB.2.2.2.2.2.1
        have hX := hX0 d0
        refine lv_goto (tgt := 1275) hx hb dL_law_1258 (by decide) ?_
        exact hB1275 _ _ _ _ _ _ _ _ _ _ _ _ _ h hw hS (lv_sub hl [0, 1, 2, 3, 4] rfl) hcu hsu hd0
      intro S H locs ls mc ms cu su d0 v1 v2 v3 v4 h hw hS hl hcu hsu hd0
      unfold wb_L_law_23 at h
      have hB := hB0 d0
      have htx := dr_words hts0 d0
      have hts : ∀ w ∈ wsL_law, w.before _ (s.setDrawn d0) = true := fun w h => htx w (List.mem_append_left _ h)
      have hown : (s.setDrawn d0).vm.findClass RL = some m.cls := hown0
      have hK : va_K D bCl (bT y) (s.setDrawn d0) := hB.2.1
      have hNw := hB.2.2.1
      have hO := hB.2.2.2.2.2.1
      have hX := hX0 d0
      refine lv_iload hx hb dL_law_23 (lv_at hl 4 rfl) ?_
      refine lv_aload_n hx hb dL_law_25 rfl (lv_at hl 0 rfl) ?_
      refine va_slen hx hb hX hbl hbA hS dL_law_26 ?_
      refine lv_bipush (v := (6 : Int32)) hx hb dL_law_27 (by decide) ?_
      refine lv_isub hx hb dL_law_29 ?_
      refine lv_icmp_gt (tgt := 1281) hx hb dL_law_30 (by decide) (fun hc => ?_) (fun hc => ?_)
      · have h := h.1 hc
        refine lv_iconst (v := (1 : Int32)) hx hb dL_law_1281 (by decide) ?_
        exact hret _ _ _ _ _ _ _ _ _ h hw hS (by omega) (by omega) hd0 dL_law_1282
      · have h := h.2 hc
        refine lv_aload_n hx hb dL_law_33 rfl (lv_at hl 0 rfl) ?_
        refine lv_iload hx hb dL_law_34 (lv_at hl 4 rfl) ?_
        obtain ⟨hin18, h⟩ := h
        refine va_sld hx hb hX hbl hbA hS hin18 dL_law_36 ?_
        refine lv_bipush (v := (31 : Int32)) hx hb dL_law_37 (by decide) ?_
        refine lv_iand hx hb dL_law_39 ?_
        by_cases hq0 : ((xs (Int32.toNatClampNeg v4)) &&& (31 : Int32)) = (0 : Int32)
        · have h := h.1 hq0
          refine lv_tableIn (off := 84) (tgt := 124) hx hb dL_law_40 (by rw [hq0]; decide) (by rw [hq0]; decide) (by rw [hq0]; decide) (by decide) ?_
          refine lv_aload_n hx hb dL_law_124 rfl (lv_at hl 1 rfl) ?_
          refine lv_aload_n hx hb dL_law_125 rfl (lv_at hl 0 rfl) ?_
          refine lv_iload hx hb dL_law_126 (lv_at hl 4 rfl) ?_
          refine lv_iconst (v := (1 : Int32)) hx hb dL_law_128 (by decide) ?_
          refine lv_iadd hx hb dL_law_129 ?_
          obtain ⟨hin19, h⟩ := h
          refine va_sld hx hb hX hbl hbA hS hin19 dL_law_130 ?_
          refine lv_aload_n hx hb dL_law_131 rfl (lv_at hl 0 rfl) ?_
          refine lv_iload hx hb dL_law_132 (lv_at hl 4 rfl) ?_
          refine lv_iconst (v := (2 : Int32)) hx hb dL_law_134 (by decide) ?_
          refine lv_iadd hx hb dL_law_135 ?_
          obtain ⟨hin20, h⟩ := h
          refine va_sld hx hb hX hbl hbA hS hin20 dL_law_136 ?_
          refine lv_aload_n hx hb dL_law_137 rfl (lv_at hl 3 rfl) ?_
          obtain ⟨k23, n24, hbg1, hbg2, h⟩ := h
          have h1 := h
          refine va_calli (vx_runSW (As := [.ref v1, .int (xs (Int32.toNatClampNeg (v4 + (1 : Int32)))), .int (xs (Int32.toNatClampNeg (v4 + (2 : Int32)))), .ref v3]) (rest := []) ⟨hx, hb, hml, hown, hts⟩ (m_L_addStation (l := l) hl0 h1) (vx_cwSW 4 htx (goodQ gL_law_L_addStation (by decide)) rfl rfl rfl ⟨by decide +kernel, by decide +kernel, by decide +kernel⟩ ⟨Nat.le_trans (Nat.le_of_ble_eq_true rfl) hRf, Nat.le_trans (Nat.le_of_ble_eq_true rfl) hRl⟩) (r_pS hB hw hS) rfl rfl hl.1 rfl (lv_room (Nat.le_of_ble_eq_true rfl)) dL_law_138 ⟨by omega, by omega⟩) hS (fun _ _ h => h) (fun _ h => h) (fun r21 S22 t H1 locs ht _ h hw1 _ _ hS => ?_)
          subst ht
          have hw : wd D y z S22 A t.heap := hw1
          clear hw1 h1
          have hcu : (cu + k23) + (mc - k23) ≤ MC := by omega
          have hsu : (su + n24) + (ms - n24) ≤ MS := by omega
          refine lv_istore hx hb dL_law_141 hl (by decide) rfl (fun ls hl => ?_)
          have hl : lv_has ls 9 [(5, .int r21), (0, .ref p1), (1, .ref v1), (2, .ref v2), (3, .ref v3), (4, .int v4)] := hl
          refine lv_aload_n hx hb dL_law_143 rfl (lv_at hl 3 rfl) ?_
          refine lv_aload_n hx hb dL_law_144 rfl (lv_at hl 1 rfl) ?_
          refine lv_iload hx hb dL_law_145 (lv_at hl 5 rfl) ?_
          refine lv_iconst (v := (1 : Int32)) hx hb dL_law_147 (by decide) ?_
          refine lv_iadd hx hb dL_law_148 ?_
          obtain ⟨hin25, h⟩ := h
          refine va_sld hx hb hX hbl hbA hS hin25 dL_law_149 ?_
          refine lv_aload_n hx hb dL_law_150 rfl (lv_at hl 1 rfl) ?_
          refine lv_iload hx hb dL_law_151 (lv_at hl 5 rfl) ?_
          refine lv_iconst (v := (2 : Int32)) hx hb dL_law_153 (by decide) ?_
          refine lv_iadd hx hb dL_law_154 ?_
          obtain ⟨hin26, h⟩ := h
          refine va_sld hx hb hX hbl hbA hS hin26 dL_law_155 ?_
          obtain ⟨hk27, h⟩ := h
          obtain ⟨k30, n31, hbg1, hbg2, h⟩ := h
          have h1 := h
          refine va_calli (va_runV (As := [.int (xs (Int32.toNatClampNeg (v4 + (1 : Int32)))), .int (xs (Int32.toNatClampNeg (v4 + (2 : Int32))))]) (rest := []) ⟨hx, hb, hml, hown, hts⟩ (m_X6_addStation (l := l) h1) (cwV 2 hts gL_law_X6_addStation rfl rfl rfl (by decide +kernel) ⟨Nat.le_trans (Nat.le_of_ble_eq_true rfl) hRf, Nat.le_trans (Nat.le_of_ble_eq_true rfl) hRl⟩) (r_pV hB hw hS (ce_8 (S := S22) hk27) rfl) rfl rfl hl.1 rfl (lv_room (Nat.le_of_ble_eq_true rfl)) dL_law_156 ⟨by omega, by omega⟩) hS (fun _ _ h => h) (fun _ h => h) (fun r28 S29 t H1 locs ht _ h hw1 _ _ hS => ?_)
          subst ht
          have hw : wd D y z S29 A t.heap := hw1
          clear hw1 h1
          have hcu : ((cu + k23) + k30) + ((mc - k23) - k30) ≤ MC := by omega
          have hsu : ((su + n24) + n31) + ((ms - n24) - n31) ≤ MS := by omega
          refine lv_istore hx hb dL_law_159 hl (by decide) rfl (fun ls hl => ?_)
          have hl : lv_has ls 9 [(6, .int r28), (5, .int r21), (0, .ref p1), (1, .ref v1), (2, .ref v2), (3, .ref v3), (4, .int v4)] := hl
          refine lv_aload_n hx hb dL_law_161 rfl (lv_at hl 4 rfl) ?_
          obtain ⟨hk32, h⟩ := h
          have h1 := h
          refine va_calli (va_runV (As := []) (rest := []) ⟨hx, hb, hml, hown, hts⟩ (m_X6_thrown (l := l) h1) (cwV 0 hts gL_law_X6_thrown rfl rfl rfl (by decide +kernel) ⟨Nat.le_trans (Nat.le_of_ble_eq_true rfl) hRf, Nat.le_trans (Nat.le_of_ble_eq_true rfl) hRl⟩) (r_pV hB hw hS (ce_8 (S := S29) hk32) rfl) rfl rfl hl.1 rfl (lv_room (Nat.le_of_ble_eq_true rfl)) dL_law_162 ⟨by omega, by omega⟩) hS (fun _ _ h => h) (fun _ h => h) (fun r33 S34 t H1 locs ht _ h hw1 _ _ hS => ?_)
          subst ht
          have hw : wd D y z S34 A t.heap := hw1
          clear hw1 h1
          refine lv_iload hx hb dL_law_165 (lv_at hl 1 rfl) ?_
          refine lv_icmp_eq (tgt := 172) hx hb dL_law_167 (by decide) (fun hc => ?_) (fun hc => ?_)
          · have h := h.1 hc
            refine lv_iload hx hb dL_law_172 (lv_at hl 1 rfl) ?_
            refine lv_if_ne (tgt := 189) hx hb dL_law_174 (by decide) (fun hc => ?_) (fun hc => ?_)
            · have h := h.1 hc
              exact hB189 _ _ _ _ _ _ _ _ _ _ _ _ _ h hw hS (lv_sub hl [2, 3, 4, 5, 6] rfl) hcu hsu hd0
            · have h := h.2 hc
              refine lv_aload_n hx hb dL_law_177 rfl (lv_at hl 5 rfl) ?_
              refine lv_iconst (v := (0 : Int32)) hx hb dL_law_178 (by decide) ?_
              obtain ⟨hk35, h⟩ := h
              obtain ⟨hin36, h⟩ := h
              refine r_lald hx hb hK hw hk35 hin36 dL_law_179 ?_
              refine lv_iload hx hb dL_law_180 (lv_at hl 0 rfl) ?_
              refine lv_i2l (v := (Int32.toInt64 r28)) hx hb dL_law_182 rfl ?_
              refine W.lcmp hx hb dL_law_183 ?_
              refine lv_if_eq (tgt := 189) hx hb dL_law_184 (by decide) (fun hc => ?_) (fun hc => ?_)
              · have h := h.1 hc
                exact hB189 _ _ _ _ _ _ _ _ _ _ _ _ _ h hw hS (lv_sub hl [2, 3, 4, 5, 6] rfl) hcu hsu hd0
              · have h := h.2 hc
                refine lv_iconst (v := (0 : Int32)) hx hb dL_law_187 (by decide) ?_
                exact hret _ _ _ _ _ _ _ _ _ h hw hS (by omega) (by omega) hd0 dL_law_188
          · have h := h.2 hc
            refine lv_iconst (v := (0 : Int32)) hx hb dL_law_170 (by decide) ?_
            exact hret _ _ _ _ _ _ _ _ _ h hw hS (by omega) (by omega) hd0 dL_law_171
        by_cases hq1 : ((xs (Int32.toNatClampNeg v4)) &&& (31 : Int32)) = (1 : Int32)
        · have h := h.2.1 hq1
          refine lv_tableIn (off := 152) (tgt := 192) hx hb dL_law_40 (by rw [hq1]; decide) (by rw [hq1]; decide) (by rw [hq1]; decide) (by decide) ?_
          refine lv_aload_n hx hb dL_law_192 rfl (lv_at hl 1 rfl) ?_
          refine lv_aload_n hx hb dL_law_193 rfl (lv_at hl 0 rfl) ?_
          refine lv_iload hx hb dL_law_194 (lv_at hl 4 rfl) ?_
          refine lv_iconst (v := (1 : Int32)) hx hb dL_law_196 (by decide) ?_
          refine lv_iadd hx hb dL_law_197 ?_
          obtain ⟨hin37, h⟩ := h
          refine va_sld hx hb hX hbl hbA hS hin37 dL_law_198 ?_
          refine lv_aload_n hx hb dL_law_199 rfl (lv_at hl 0 rfl) ?_
          refine lv_iload hx hb dL_law_200 (lv_at hl 4 rfl) ?_
          refine lv_iconst (v := (2 : Int32)) hx hb dL_law_202 (by decide) ?_
          refine lv_iadd hx hb dL_law_203 ?_
          obtain ⟨hin38, h⟩ := h
          refine va_sld hx hb hX hbl hbA hS hin38 dL_law_204 ?_
          refine lv_aload_n hx hb dL_law_205 rfl (lv_at hl 0 rfl) ?_
          refine lv_iload hx hb dL_law_206 (lv_at hl 4 rfl) ?_
          refine lv_iconst (v := (3 : Int32)) hx hb dL_law_208 (by decide) ?_
          refine lv_iadd hx hb dL_law_209 ?_
          obtain ⟨hin39, h⟩ := h
          refine va_sld hx hb hX hbl hbA hS hin39 dL_law_210 ?_
          refine lv_aload_n hx hb dL_law_211 rfl (lv_at hl 0 rfl) ?_
          refine lv_iload hx hb dL_law_212 (lv_at hl 4 rfl) ?_
          refine lv_iconst (v := (4 : Int32)) hx hb dL_law_214 (by decide) ?_
          refine lv_iadd hx hb dL_law_215 ?_
          obtain ⟨hin40, h⟩ := h
          refine va_sld hx hb hX hbl hbA hS hin40 dL_law_216 ?_
          refine lv_aload_n hx hb dL_law_217 rfl (lv_at hl 0 rfl) ?_
          refine lv_iload hx hb dL_law_218 (lv_at hl 4 rfl) ?_
          refine lv_iconst (v := (5 : Int32)) hx hb dL_law_220 (by decide) ?_
          refine lv_iadd hx hb dL_law_221 ?_
          obtain ⟨hin41, h⟩ := h
          refine va_sld hx hb hX hbl hbA hS hin41 dL_law_222 ?_
          refine lv_aload_n hx hb dL_law_223 rfl (lv_at hl 3 rfl) ?_
          obtain ⟨k44, n45, hbg1, hbg2, h⟩ := h
          have h1 := h
          refine va_calli (vx_runSW (As := [.ref v1, .int (xs (Int32.toNatClampNeg (v4 + (1 : Int32)))), .int (xs (Int32.toNatClampNeg (v4 + (2 : Int32)))), .int (xs (Int32.toNatClampNeg (v4 + (3 : Int32)))), .int (xs (Int32.toNatClampNeg (v4 + (4 : Int32)))), .int (xs (Int32.toNatClampNeg (v4 + (5 : Int32)))), .ref v3]) (rest := []) ⟨hx, hb, hml, hown, hts⟩ (m_L_addTube (l := l) hl0 h1) (vx_cwSW 7 htx (goodQ gL_law_L_addTube (by decide)) rfl rfl rfl ⟨by decide +kernel, by decide +kernel, by decide +kernel⟩ ⟨Nat.le_trans (Nat.le_of_ble_eq_true rfl) hRf, Nat.le_trans (Nat.le_of_ble_eq_true rfl) hRl⟩) (r_pS hB hw hS) rfl rfl hl.1 rfl (lv_room (Nat.le_of_ble_eq_true rfl)) dL_law_224 ⟨by omega, by omega⟩) hS (fun _ _ h => h) (fun _ h => h) (fun r42 S43 t H1 locs ht _ h hw1 _ _ hS => ?_)
          subst ht
          have hw : wd D y z S43 A t.heap := hw1
          clear hw1 h1
          have hcu : (cu + k44) + (mc - k44) ≤ MC := by omega
          have hsu : (su + n45) + (ms - n45) ≤ MS := by omega
          refine lv_istore hx hb dL_law_227 hl (by decide) rfl (fun ls hl => ?_)
          have hl : lv_has ls 9 [(5, .int r42), (0, .ref p1), (1, .ref v1), (2, .ref v2), (3, .ref v3), (4, .int v4)] := hl
          refine lv_aload_n hx hb dL_law_229 rfl (lv_at hl 3 rfl) ?_
          refine lv_aload_n hx hb dL_law_230 rfl (lv_at hl 1 rfl) ?_
          refine lv_iload hx hb dL_law_231 (lv_at hl 5 rfl) ?_
          refine lv_iconst (v := (1 : Int32)) hx hb dL_law_233 (by decide) ?_
          refine lv_iadd hx hb dL_law_234 ?_
          obtain ⟨hin46, h⟩ := h
          refine va_sld hx hb hX hbl hbA hS hin46 dL_law_235 ?_
          refine lv_aload_n hx hb dL_law_236 rfl (lv_at hl 1 rfl) ?_
          refine lv_iload hx hb dL_law_237 (lv_at hl 5 rfl) ?_
          refine lv_iconst (v := (2 : Int32)) hx hb dL_law_239 (by decide) ?_
          refine lv_iadd hx hb dL_law_240 ?_
          obtain ⟨hin47, h⟩ := h
          refine va_sld hx hb hX hbl hbA hS hin47 dL_law_241 ?_
          refine lv_aload_n hx hb dL_law_242 rfl (lv_at hl 1 rfl) ?_
          refine lv_iload hx hb dL_law_243 (lv_at hl 5 rfl) ?_
          refine lv_iconst (v := (3 : Int32)) hx hb dL_law_245 (by decide) ?_
          refine lv_iadd hx hb dL_law_246 ?_
          obtain ⟨hin48, h⟩ := h
          refine va_sld hx hb hX hbl hbA hS hin48 dL_law_247 ?_
          refine lv_aload_n hx hb dL_law_248 rfl (lv_at hl 1 rfl) ?_
          refine lv_iload hx hb dL_law_249 (lv_at hl 5 rfl) ?_
          refine lv_iconst (v := (4 : Int32)) hx hb dL_law_251 (by decide) ?_
          refine lv_iadd hx hb dL_law_252 ?_
          obtain ⟨hin49, h⟩ := h
          refine va_sld hx hb hX hbl hbA hS hin49 dL_law_253 ?_
          refine lv_aload_n hx hb dL_law_254 rfl (lv_at hl 1 rfl) ?_
          refine lv_iload hx hb dL_law_255 (lv_at hl 5 rfl) ?_
          refine lv_iconst (v := (5 : Int32)) hx hb dL_law_257 (by decide) ?_
          refine lv_iadd hx hb dL_law_258 ?_
          obtain ⟨hin50, h⟩ := h
          refine va_sld hx hb hX hbl hbA hS hin50 dL_law_259 ?_
          obtain ⟨hk51, h⟩ := h
          obtain ⟨k54, n55, hbg1, hbg2, h⟩ := h
          have h1 := h
          refine va_calli (va_runV (As := [.int (xs (Int32.toNatClampNeg (v4 + (1 : Int32)))), .int (xs (Int32.toNatClampNeg (v4 + (2 : Int32)))), .int (xs (Int32.toNatClampNeg (v4 + (3 : Int32)))), .int (xs (Int32.toNatClampNeg (v4 + (4 : Int32)))), .int (xs (Int32.toNatClampNeg (v4 + (5 : Int32))))]) (rest := []) ⟨hx, hb, hml, hown, hts⟩ (m_X6_addTube (l := l) h1) (cwV 5 hts gL_law_X6_addTube rfl rfl rfl (by decide +kernel) ⟨Nat.le_trans (Nat.le_of_ble_eq_true rfl) hRf, Nat.le_trans (Nat.le_of_ble_eq_true rfl) hRl⟩) (r_pV hB hw hS (ce_8 (S := S43) hk51) rfl) rfl rfl hl.1 rfl (lv_room (Nat.le_of_ble_eq_true rfl)) dL_law_260 ⟨by omega, by omega⟩) hS (fun _ _ h => h) (fun _ h => h) (fun r52 S53 t H1 locs ht _ h hw1 _ _ hS => ?_)
          subst ht
          have hw : wd D y z S53 A t.heap := hw1
          clear hw1 h1
          have hcu : ((cu + k44) + k54) + ((mc - k44) - k54) ≤ MC := by omega
          have hsu : ((su + n45) + n55) + ((ms - n45) - n55) ≤ MS := by omega
          refine lv_istore hx hb dL_law_263 hl (by decide) rfl (fun ls hl => ?_)
          have hl : lv_has ls 9 [(6, .int r52), (5, .int r42), (0, .ref p1), (1, .ref v1), (2, .ref v2), (3, .ref v3), (4, .int v4)] := hl
          refine lv_aload_n hx hb dL_law_265 rfl (lv_at hl 4 rfl) ?_
          obtain ⟨hk56, h⟩ := h
          have h1 := h
          refine va_calli (va_runV (As := []) (rest := []) ⟨hx, hb, hml, hown, hts⟩ (m_X6_thrown (l := l) h1) (cwV 0 hts gL_law_X6_thrown rfl rfl rfl (by decide +kernel) ⟨Nat.le_trans (Nat.le_of_ble_eq_true rfl) hRf, Nat.le_trans (Nat.le_of_ble_eq_true rfl) hRl⟩) (r_pV hB hw hS (ce_8 (S := S53) hk56) rfl) rfl rfl hl.1 rfl (lv_room (Nat.le_of_ble_eq_true rfl)) dL_law_266 ⟨by omega, by omega⟩) hS (fun _ _ h => h) (fun _ h => h) (fun r57 S58 t H1 locs ht _ h hw1 _ _ hS => ?_)
          subst ht
          have hw : wd D y z S58 A t.heap := hw1
          clear hw1 h1
          refine lv_iload hx hb dL_law_269 (lv_at hl 1 rfl) ?_
          refine lv_icmp_eq (tgt := 276) hx hb dL_law_271 (by decide) (fun hc => ?_) (fun hc => ?_)
          · have h := h.1 hc
            refine lv_iload hx hb dL_law_276 (lv_at hl 1 rfl) ?_
            refine lv_if_ne (tgt := 293) hx hb dL_law_278 (by decide) (fun hc => ?_) (fun hc => ?_)
            · have h := h.1 hc
              exact hB293 _ _ _ _ _ _ _ _ _ _ _ _ _ h hw hS (lv_sub hl [2, 3, 4, 5, 6] rfl) hcu hsu hd0
            · have h := h.2 hc
              refine lv_aload_n hx hb dL_law_281 rfl (lv_at hl 5 rfl) ?_
              refine lv_iconst (v := (0 : Int32)) hx hb dL_law_282 (by decide) ?_
              obtain ⟨hk59, h⟩ := h
              obtain ⟨hin60, h⟩ := h
              refine r_lald hx hb hK hw hk59 hin60 dL_law_283 ?_
              refine lv_iload hx hb dL_law_284 (lv_at hl 0 rfl) ?_
              refine lv_i2l (v := (Int32.toInt64 r52)) hx hb dL_law_286 rfl ?_
              refine W.lcmp hx hb dL_law_287 ?_
              refine lv_if_eq (tgt := 293) hx hb dL_law_288 (by decide) (fun hc => ?_) (fun hc => ?_)
              · have h := h.1 hc
                exact hB293 _ _ _ _ _ _ _ _ _ _ _ _ _ h hw hS (lv_sub hl [2, 3, 4, 5, 6] rfl) hcu hsu hd0
              · have h := h.2 hc
                refine lv_iconst (v := (0 : Int32)) hx hb dL_law_291 (by decide) ?_
                exact hret _ _ _ _ _ _ _ _ _ h hw hS (by omega) (by omega) hd0 dL_law_292
          · have h := h.2 hc
            refine lv_iconst (v := (0 : Int32)) hx hb dL_law_274 (by decide) ?_
            exact hret _ _ _ _ _ _ _ _ _ h hw hS (by omega) (by omega) hd0 dL_law_275
        by_cases hq2 : ((xs (Int32.toNatClampNeg v4)) &&& (31 : Int32)) = (2 : Int32)
        · have h := h.2.2.1 hq2
          refine lv_tableIn (off := 256) (tgt := 296) hx hb dL_law_40 (by rw [hq2]; decide) (by rw [hq2]; decide) (by rw [hq2]; decide) (by decide) ?_
          refine lv_aload_n hx hb dL_law_296 rfl (lv_at hl 1 rfl) ?_
          refine lv_aload_n hx hb dL_law_297 rfl (lv_at hl 0 rfl) ?_
          refine lv_iload hx hb dL_law_298 (lv_at hl 4 rfl) ?_
          refine lv_iconst (v := (1 : Int32)) hx hb dL_law_300 (by decide) ?_
          refine lv_iadd hx hb dL_law_301 ?_
          obtain ⟨hin61, h⟩ := h
          refine va_sld hx hb hX hbl hbA hS hin61 dL_law_302 ?_
          refine lv_aload_n hx hb dL_law_303 rfl (lv_at hl 0 rfl) ?_
          refine lv_iload hx hb dL_law_304 (lv_at hl 4 rfl) ?_
          refine lv_iconst (v := (2 : Int32)) hx hb dL_law_306 (by decide) ?_
          refine lv_iadd hx hb dL_law_307 ?_
          obtain ⟨hin62, h⟩ := h
          refine va_sld hx hb hX hbl hbA hS hin62 dL_law_308 ?_
          refine lv_aload_n hx hb dL_law_309 rfl (lv_at hl 3 rfl) ?_
          obtain ⟨k65, n66, hbg1, hbg2, h⟩ := h
          have h1 := h
          refine va_calli (vx_runSW (As := [.ref v1, .int (xs (Int32.toNatClampNeg (v4 + (1 : Int32)))), .int (xs (Int32.toNatClampNeg (v4 + (2 : Int32)))), .ref v3]) (rest := []) ⟨hx, hb, hml, hown, hts⟩ (m_L_turn (l := l) hl0 h1) (vx_cwSW 4 htx (goodQ gL_law_L_turn (by decide)) rfl rfl rfl ⟨by decide +kernel, by decide +kernel, by decide +kernel⟩ ⟨Nat.le_trans (Nat.le_of_ble_eq_true rfl) hRf, Nat.le_trans (Nat.le_of_ble_eq_true rfl) hRl⟩) (r_pS hB hw hS) rfl rfl hl.1 rfl (lv_room (Nat.le_of_ble_eq_true rfl)) dL_law_310 ⟨by omega, by omega⟩) hS (fun _ _ h => h) (fun _ h => h) (fun r63 S64 t H1 locs ht _ h hw1 _ _ hS => ?_)
          subst ht
          have hw : wd D y z S64 A t.heap := hw1
          clear hw1 h1
          have hcu : (cu + k65) + (mc - k65) ≤ MC := by omega
          have hsu : (su + n66) + (ms - n66) ≤ MS := by omega
          refine lv_istore hx hb dL_law_313 hl (by decide) rfl (fun ls hl => ?_)
          have hl : lv_has ls 9 [(5, .int r63), (0, .ref p1), (1, .ref v1), (2, .ref v2), (3, .ref v3), (4, .int v4)] := hl
          refine lv_aload_n hx hb dL_law_315 rfl (lv_at hl 3 rfl) ?_
          refine lv_aload_n hx hb dL_law_316 rfl (lv_at hl 1 rfl) ?_
          refine lv_iload hx hb dL_law_317 (lv_at hl 5 rfl) ?_
          refine lv_iconst (v := (1 : Int32)) hx hb dL_law_319 (by decide) ?_
          refine lv_iadd hx hb dL_law_320 ?_
          obtain ⟨hin67, h⟩ := h
          refine va_sld hx hb hX hbl hbA hS hin67 dL_law_321 ?_
          refine lv_aload_n hx hb dL_law_322 rfl (lv_at hl 1 rfl) ?_
          refine lv_iload hx hb dL_law_323 (lv_at hl 5 rfl) ?_
          refine lv_iconst (v := (2 : Int32)) hx hb dL_law_325 (by decide) ?_
          refine lv_iadd hx hb dL_law_326 ?_
          obtain ⟨hin68, h⟩ := h
          refine va_sld hx hb hX hbl hbA hS hin68 dL_law_327 ?_
          obtain ⟨hk69, h⟩ := h
          have h1 := h
          refine va_calli (va_runV (As := [.int (xs (Int32.toNatClampNeg (v4 + (1 : Int32)))), .int (xs (Int32.toNatClampNeg (v4 + (2 : Int32))))]) (rest := []) ⟨hx, hb, hml, hown, hts⟩ (m_X6_turn (l := l) h1) (cwV 2 hts gL_law_X6_turn rfl rfl rfl (by decide +kernel) ⟨Nat.le_trans (Nat.le_of_ble_eq_true rfl) hRf, Nat.le_trans (Nat.le_of_ble_eq_true rfl) hRl⟩) (r_pV hB hw hS (ce_8 (S := S64) hk69) rfl) rfl rfl hl.1 rfl (lv_room (Nat.le_of_ble_eq_true rfl)) dL_law_328 ⟨by omega, by omega⟩) hS (fun _ _ h => h) (fun _ h => h) (fun r70 S71 t H1 locs ht _ h hw1 _ _ hS => ?_)
          subst ht
          have hw : wd D y z S71 A t.heap := hw1
          clear hw1 h1
          refine lv_istore hx hb dL_law_331 hl (by decide) rfl (fun ls hl => ?_)
          have hl : lv_has ls 9 [(6, .int r70), (5, .int r63), (0, .ref p1), (1, .ref v1), (2, .ref v2), (3, .ref v3), (4, .int v4)] := hl
          refine lv_aload_n hx hb dL_law_333 rfl (lv_at hl 4 rfl) ?_
          obtain ⟨hk72, h⟩ := h
          have h1 := h
          refine va_calli (va_runV (As := []) (rest := []) ⟨hx, hb, hml, hown, hts⟩ (m_X6_thrown (l := l) h1) (cwV 0 hts gL_law_X6_thrown rfl rfl rfl (by decide +kernel) ⟨Nat.le_trans (Nat.le_of_ble_eq_true rfl) hRf, Nat.le_trans (Nat.le_of_ble_eq_true rfl) hRl⟩) (r_pV hB hw hS (ce_8 (S := S71) hk72) rfl) rfl rfl hl.1 rfl (lv_room (Nat.le_of_ble_eq_true rfl)) dL_law_334 ⟨by omega, by omega⟩) hS (fun _ _ h => h) (fun _ h => h) (fun r73 S74 t H1 locs ht _ h hw1 _ _ hS => ?_)
          subst ht
          have hw : wd D y z S74 A t.heap := hw1
          clear hw1 h1
          refine lv_iload hx hb dL_law_337 (lv_at hl 1 rfl) ?_
          refine lv_icmp_eq (tgt := 344) hx hb dL_law_339 (by decide) (fun hc => ?_) (fun hc => ?_)
          · have h := h.1 hc
            refine lv_iload hx hb dL_law_344 (lv_at hl 1 rfl) ?_
            refine lv_if_ne (tgt := 361) hx hb dL_law_346 (by decide) (fun hc => ?_) (fun hc => ?_)
            · have h := h.1 hc
              exact hB361 _ _ _ _ _ _ _ _ _ _ _ _ _ h hw hS (lv_sub hl [2, 3, 4, 5, 6] rfl) hcu hsu hd0
            · have h := h.2 hc
              refine lv_aload_n hx hb dL_law_349 rfl (lv_at hl 5 rfl) ?_
              refine lv_iconst (v := (0 : Int32)) hx hb dL_law_350 (by decide) ?_
              obtain ⟨hk75, h⟩ := h
              obtain ⟨hin76, h⟩ := h
              refine r_lald hx hb hK hw hk75 hin76 dL_law_351 ?_
              refine lv_iload hx hb dL_law_352 (lv_at hl 0 rfl) ?_
              refine lv_i2l (v := (Int32.toInt64 r70)) hx hb dL_law_354 rfl ?_
              refine W.lcmp hx hb dL_law_355 ?_
              refine lv_if_eq (tgt := 361) hx hb dL_law_356 (by decide) (fun hc => ?_) (fun hc => ?_)
              · have h := h.1 hc
                exact hB361 _ _ _ _ _ _ _ _ _ _ _ _ _ h hw hS (lv_sub hl [2, 3, 4, 5, 6] rfl) hcu hsu hd0
              · have h := h.2 hc
                refine lv_iconst (v := (0 : Int32)) hx hb dL_law_359 (by decide) ?_
                exact hret _ _ _ _ _ _ _ _ _ h hw hS (by omega) (by omega) hd0 dL_law_360
          · have h := h.2 hc
            refine lv_iconst (v := (0 : Int32)) hx hb dL_law_342 (by decide) ?_
            exact hret _ _ _ _ _ _ _ _ _ h hw hS (by omega) (by omega) hd0 dL_law_343
        by_cases hq3 : ((xs (Int32.toNatClampNeg v4)) &&& (31 : Int32)) = (3 : Int32)
        · have h := h.2.2.2.1 hq3
          refine lv_tableIn (off := 324) (tgt := 364) hx hb dL_law_40 (by rw [hq3]; decide) (by rw [hq3]; decide) (by rw [hq3]; decide) (by decide) ?_
          refine lv_aload_n hx hb dL_law_364 rfl (lv_at hl 1 rfl) ?_
          refine lv_aload_n hx hb dL_law_365 rfl (lv_at hl 0 rfl) ?_
          refine lv_iload hx hb dL_law_366 (lv_at hl 4 rfl) ?_
          refine lv_iconst (v := (1 : Int32)) hx hb dL_law_368 (by decide) ?_
          refine lv_iadd hx hb dL_law_369 ?_
          obtain ⟨hin77, h⟩ := h
          refine va_sld hx hb hX hbl hbA hS hin77 dL_law_370 ?_
          refine lv_aload_n hx hb dL_law_371 rfl (lv_at hl 0 rfl) ?_
          refine lv_iload hx hb dL_law_372 (lv_at hl 4 rfl) ?_
          refine lv_iconst (v := (2 : Int32)) hx hb dL_law_374 (by decide) ?_
          refine lv_iadd hx hb dL_law_375 ?_
          obtain ⟨hin78, h⟩ := h
          refine va_sld hx hb hX hbl hbA hS hin78 dL_law_376 ?_
          refine lv_aload_n hx hb dL_law_377 rfl (lv_at hl 0 rfl) ?_
          refine lv_iload hx hb dL_law_378 (lv_at hl 4 rfl) ?_
          refine lv_iconst (v := (3 : Int32)) hx hb dL_law_380 (by decide) ?_
          refine lv_iadd hx hb dL_law_381 ?_
          obtain ⟨hin79, h⟩ := h
          refine va_sld hx hb hX hbl hbA hS hin79 dL_law_382 ?_
          refine lv_if_eq (tgt := 390) hx hb dL_law_383 (by decide) (fun hc => ?_) (fun hc => ?_)
          · have h := h.1 hc
            refine lv_iconst (v := (0 : Int32)) hx hb dL_law_390 (by decide) ?_
            exact hB391 _ _ _ _ _ _ _ _ _ _ _ _ _ _ _ _ _ h hw hS (lv_sub hl [0, 1, 2, 3, 4] rfl) hcu hsu hd0
          · have h := h.2 hc
            refine lv_iconst (v := (1 : Int32)) hx hb dL_law_386 (by decide) ?_
            refine lv_goto (tgt := 391) hx hb dL_law_387 (by decide) ?_
            exact hB391 _ _ _ _ _ _ _ _ _ _ _ _ _ _ _ _ _ h hw hS (lv_sub hl [0, 1, 2, 3, 4] rfl) hcu hsu hd0
        by_cases hq4 : ((xs (Int32.toNatClampNeg v4)) &&& (31 : Int32)) = (4 : Int32)
        · have h := h.2.2.2.2.1 hq4
          refine lv_tableIn (off := 420) (tgt := 460) hx hb dL_law_40 (by rw [hq4]; decide) (by rw [hq4]; decide) (by rw [hq4]; decide) (by decide) ?_
          refine lv_aload_n hx hb dL_law_460 rfl (lv_at hl 1 rfl) ?_
          refine lv_aload_n hx hb dL_law_461 rfl (lv_at hl 0 rfl) ?_
          refine lv_iload hx hb dL_law_462 (lv_at hl 4 rfl) ?_
          refine lv_iconst (v := (1 : Int32)) hx hb dL_law_464 (by decide) ?_
          refine lv_iadd hx hb dL_law_465 ?_
          obtain ⟨hin80, h⟩ := h
          refine va_sld hx hb hX hbl hbA hS hin80 dL_law_466 ?_
          refine lv_aload_n hx hb dL_law_467 rfl (lv_at hl 0 rfl) ?_
          refine lv_iload hx hb dL_law_468 (lv_at hl 4 rfl) ?_
          refine lv_iconst (v := (2 : Int32)) hx hb dL_law_470 (by decide) ?_
          refine lv_iadd hx hb dL_law_471 ?_
          obtain ⟨hin81, h⟩ := h
          refine va_sld hx hb hX hbl hbA hS hin81 dL_law_472 ?_
          refine lv_aload_n hx hb dL_law_473 rfl (lv_at hl 0 rfl) ?_
          refine lv_iload hx hb dL_law_474 (lv_at hl 4 rfl) ?_
          refine lv_iconst (v := (3 : Int32)) hx hb dL_law_476 (by decide) ?_
          refine lv_iadd hx hb dL_law_477 ?_
          obtain ⟨hin82, h⟩ := h
          refine va_sld hx hb hX hbl hbA hS hin82 dL_law_478 ?_
          refine lv_aload_n hx hb dL_law_479 rfl (lv_at hl 0 rfl) ?_
          refine lv_iload hx hb dL_law_480 (lv_at hl 4 rfl) ?_
          refine lv_iconst (v := (4 : Int32)) hx hb dL_law_482 (by decide) ?_
          refine lv_iadd hx hb dL_law_483 ?_
          obtain ⟨hin83, h⟩ := h
          refine va_sld hx hb hX hbl hbA hS hin83 dL_law_484 ?_
          refine lv_aload_n hx hb dL_law_485 rfl (lv_at hl 0 rfl) ?_
          refine lv_iload hx hb dL_law_486 (lv_at hl 4 rfl) ?_
          refine lv_iconst (v := (5 : Int32)) hx hb dL_law_488 (by decide) ?_
          refine lv_iadd hx hb dL_law_489 ?_
          obtain ⟨hin84, h⟩ := h
          refine va_sld hx hb hX hbl hbA hS hin84 dL_law_490 ?_
          refine lv_aload_n hx hb dL_law_491 rfl (lv_at hl 3 rfl) ?_
          obtain ⟨k87, n88, hbg1, hbg2, h⟩ := h
          have h1 := h
          refine va_calli (vx_runSW (As := [.ref v1, .int (xs (Int32.toNatClampNeg (v4 + (1 : Int32)))), .int (xs (Int32.toNatClampNeg (v4 + (2 : Int32)))), .int (xs (Int32.toNatClampNeg (v4 + (3 : Int32)))), .int (xs (Int32.toNatClampNeg (v4 + (4 : Int32)))), .int (xs (Int32.toNatClampNeg (v4 + (5 : Int32)))), .ref v3]) (rest := []) ⟨hx, hb, hml, hown, hts⟩ (m_L_addEntry (l := l) hl0 h1) (vx_cwSW 7 htx (goodQ gL_law_L_addEntry (by decide)) rfl rfl rfl ⟨by decide +kernel, by decide +kernel, by decide +kernel⟩ ⟨Nat.le_trans (Nat.le_of_ble_eq_true rfl) hRf, Nat.le_trans (Nat.le_of_ble_eq_true rfl) hRl⟩) (r_pS hB hw hS) rfl rfl hl.1 rfl (lv_room (Nat.le_of_ble_eq_true rfl)) dL_law_492 ⟨by omega, by omega⟩) hS (fun _ _ h => h) (fun _ h => h) (fun r85 S86 t H1 locs ht _ h hw1 _ _ hS => ?_)
          subst ht
          have hw : wd D y z S86 A t.heap := hw1
          clear hw1 h1
          have hcu : (cu + k87) + (mc - k87) ≤ MC := by omega
          have hsu : (su + n88) + (ms - n88) ≤ MS := by omega
          refine lv_istore hx hb dL_law_495 hl (by decide) rfl (fun ls hl => ?_)
          have hl : lv_has ls 9 [(5, .int r85), (0, .ref p1), (1, .ref v1), (2, .ref v2), (3, .ref v3), (4, .int v4)] := hl
          refine lv_aload_n hx hb dL_law_497 rfl (lv_at hl 3 rfl) ?_
          refine lv_aload_n hx hb dL_law_498 rfl (lv_at hl 1 rfl) ?_
          refine lv_iload hx hb dL_law_499 (lv_at hl 5 rfl) ?_
          refine lv_iconst (v := (1 : Int32)) hx hb dL_law_501 (by decide) ?_
          refine lv_iadd hx hb dL_law_502 ?_
          obtain ⟨hin89, h⟩ := h
          refine va_sld hx hb hX hbl hbA hS hin89 dL_law_503 ?_
          refine lv_aload_n hx hb dL_law_504 rfl (lv_at hl 1 rfl) ?_
          refine lv_iload hx hb dL_law_505 (lv_at hl 5 rfl) ?_
          refine lv_iconst (v := (2 : Int32)) hx hb dL_law_507 (by decide) ?_
          refine lv_iadd hx hb dL_law_508 ?_
          obtain ⟨hin90, h⟩ := h
          refine va_sld hx hb hX hbl hbA hS hin90 dL_law_509 ?_
          refine lv_aload_n hx hb dL_law_510 rfl (lv_at hl 1 rfl) ?_
          refine lv_iload hx hb dL_law_511 (lv_at hl 5 rfl) ?_
          refine lv_iconst (v := (3 : Int32)) hx hb dL_law_513 (by decide) ?_
          refine lv_iadd hx hb dL_law_514 ?_
          obtain ⟨hin91, h⟩ := h
          refine va_sld hx hb hX hbl hbA hS hin91 dL_law_515 ?_
          refine lv_aload_n hx hb dL_law_516 rfl (lv_at hl 1 rfl) ?_
          refine lv_iload hx hb dL_law_517 (lv_at hl 5 rfl) ?_
          refine lv_iconst (v := (4 : Int32)) hx hb dL_law_519 (by decide) ?_
          refine lv_iadd hx hb dL_law_520 ?_
          obtain ⟨hin92, h⟩ := h
          refine va_sld hx hb hX hbl hbA hS hin92 dL_law_521 ?_
          refine lv_aload_n hx hb dL_law_522 rfl (lv_at hl 1 rfl) ?_
          refine lv_iload hx hb dL_law_523 (lv_at hl 5 rfl) ?_
          refine lv_iconst (v := (5 : Int32)) hx hb dL_law_525 (by decide) ?_
          refine lv_iadd hx hb dL_law_526 ?_
          obtain ⟨hin93, h⟩ := h
          refine va_sld hx hb hX hbl hbA hS hin93 dL_law_527 ?_
          obtain ⟨hk94, h⟩ := h
          obtain ⟨k97, n98, hbg1, hbg2, h⟩ := h
          have h1 := h
          refine va_calli (va_runV (As := [.int (xs (Int32.toNatClampNeg (v4 + (1 : Int32)))), .int (xs (Int32.toNatClampNeg (v4 + (2 : Int32)))), .int (xs (Int32.toNatClampNeg (v4 + (3 : Int32)))), .int (xs (Int32.toNatClampNeg (v4 + (4 : Int32)))), .int (xs (Int32.toNatClampNeg (v4 + (5 : Int32))))]) (rest := []) ⟨hx, hb, hml, hown, hts⟩ (m_X6_addEntry (l := l) h1) (cwV 5 hts gL_law_X6_addEntry rfl rfl rfl (by decide +kernel) ⟨Nat.le_trans (Nat.le_of_ble_eq_true rfl) hRf, Nat.le_trans (Nat.le_of_ble_eq_true rfl) hRl⟩) (r_pV hB hw hS (ce_8 (S := S86) hk94) rfl) rfl rfl hl.1 rfl (lv_room (Nat.le_of_ble_eq_true rfl)) dL_law_528 ⟨by omega, by omega⟩) hS (fun _ _ h => h) (fun _ h => h) (fun r95 S96 t H1 locs ht _ h hw1 _ _ hS => ?_)
          subst ht
          have hw : wd D y z S96 A t.heap := hw1
          clear hw1 h1
          have hcu : ((cu + k87) + k97) + ((mc - k87) - k97) ≤ MC := by omega
          have hsu : ((su + n88) + n98) + ((ms - n88) - n98) ≤ MS := by omega
          refine lv_istore hx hb dL_law_531 hl (by decide) rfl (fun ls hl => ?_)
          have hl : lv_has ls 9 [(6, .int r95), (5, .int r85), (0, .ref p1), (1, .ref v1), (2, .ref v2), (3, .ref v3), (4, .int v4)] := hl
          refine lv_aload_n hx hb dL_law_533 rfl (lv_at hl 4 rfl) ?_
          obtain ⟨hk99, h⟩ := h
          have h1 := h
          refine va_calli (va_runV (As := []) (rest := []) ⟨hx, hb, hml, hown, hts⟩ (m_X6_thrown (l := l) h1) (cwV 0 hts gL_law_X6_thrown rfl rfl rfl (by decide +kernel) ⟨Nat.le_trans (Nat.le_of_ble_eq_true rfl) hRf, Nat.le_trans (Nat.le_of_ble_eq_true rfl) hRl⟩) (r_pV hB hw hS (ce_8 (S := S96) hk99) rfl) rfl rfl hl.1 rfl (lv_room (Nat.le_of_ble_eq_true rfl)) dL_law_534 ⟨by omega, by omega⟩) hS (fun _ _ h => h) (fun _ h => h) (fun r100 S101 t H1 locs ht _ h hw1 _ _ hS => ?_)
          subst ht
          have hw : wd D y z S101 A t.heap := hw1
          clear hw1 h1
          refine lv_iload hx hb dL_law_537 (lv_at hl 1 rfl) ?_
          refine lv_icmp_eq (tgt := 544) hx hb dL_law_539 (by decide) (fun hc => ?_) (fun hc => ?_)
          · have h := h.1 hc
            refine lv_iload hx hb dL_law_544 (lv_at hl 1 rfl) ?_
            refine lv_if_ne (tgt := 561) hx hb dL_law_546 (by decide) (fun hc => ?_) (fun hc => ?_)
            · have h := h.1 hc
              exact hB561 _ _ _ _ _ _ _ _ _ _ _ _ _ h hw hS (lv_sub hl [2, 3, 4, 5, 6] rfl) hcu hsu hd0
            · have h := h.2 hc
              refine lv_aload_n hx hb dL_law_549 rfl (lv_at hl 5 rfl) ?_
              refine lv_iconst (v := (0 : Int32)) hx hb dL_law_550 (by decide) ?_
              obtain ⟨hk102, h⟩ := h
              obtain ⟨hin103, h⟩ := h
              refine r_lald hx hb hK hw hk102 hin103 dL_law_551 ?_
              refine lv_iload hx hb dL_law_552 (lv_at hl 0 rfl) ?_
              refine lv_i2l (v := (Int32.toInt64 r95)) hx hb dL_law_554 rfl ?_
              refine W.lcmp hx hb dL_law_555 ?_
              refine lv_if_eq (tgt := 561) hx hb dL_law_556 (by decide) (fun hc => ?_) (fun hc => ?_)
              · have h := h.1 hc
                exact hB561 _ _ _ _ _ _ _ _ _ _ _ _ _ h hw hS (lv_sub hl [2, 3, 4, 5, 6] rfl) hcu hsu hd0
              · have h := h.2 hc
                refine lv_iconst (v := (0 : Int32)) hx hb dL_law_559 (by decide) ?_
                exact hret _ _ _ _ _ _ _ _ _ h hw hS (by omega) (by omega) hd0 dL_law_560
          · have h := h.2 hc
            refine lv_iconst (v := (0 : Int32)) hx hb dL_law_542 (by decide) ?_
            exact hret _ _ _ _ _ _ _ _ _ h hw hS (by omega) (by omega) hd0 dL_law_543
        by_cases hq5 : ((xs (Int32.toNatClampNeg v4)) &&& (31 : Int32)) = (5 : Int32)
        · have h := h.2.2.2.2.2.1 hq5
          refine lv_tableIn (off := 524) (tgt := 564) hx hb dL_law_40 (by rw [hq5]; decide) (by rw [hq5]; decide) (by rw [hq5]; decide) (by decide) ?_
          refine lv_aload_n hx hb dL_law_564 rfl (lv_at hl 1 rfl) ?_
          refine lv_aload_n hx hb dL_law_565 rfl (lv_at hl 0 rfl) ?_
          refine lv_iload hx hb dL_law_566 (lv_at hl 4 rfl) ?_
          refine lv_iconst (v := (1 : Int32)) hx hb dL_law_568 (by decide) ?_
          refine lv_iadd hx hb dL_law_569 ?_
          obtain ⟨hin104, h⟩ := h
          refine va_sld hx hb hX hbl hbA hS hin104 dL_law_570 ?_
          refine lv_aload_n hx hb dL_law_571 rfl (lv_at hl 0 rfl) ?_
          refine lv_iload hx hb dL_law_572 (lv_at hl 4 rfl) ?_
          refine lv_iconst (v := (2 : Int32)) hx hb dL_law_574 (by decide) ?_
          refine lv_iadd hx hb dL_law_575 ?_
          obtain ⟨hin105, h⟩ := h
          refine va_sld hx hb hX hbl hbA hS hin105 dL_law_576 ?_
          refine lv_aload_n hx hb dL_law_577 rfl (lv_at hl 0 rfl) ?_
          refine lv_iload hx hb dL_law_578 (lv_at hl 4 rfl) ?_
          refine lv_iconst (v := (3 : Int32)) hx hb dL_law_580 (by decide) ?_
          refine lv_iadd hx hb dL_law_581 ?_
          obtain ⟨hin106, h⟩ := h
          refine va_sld hx hb hX hbl hbA hS hin106 dL_law_582 ?_
          refine lv_aload_n hx hb dL_law_583 rfl (lv_at hl 3 rfl) ?_
          obtain ⟨k109, n110, hbg1, hbg2, h⟩ := h
          have h1 := h
          refine va_calli (vx_runSW (As := [.ref v1, .int (xs (Int32.toNatClampNeg (v4 + (1 : Int32)))), .int (xs (Int32.toNatClampNeg (v4 + (2 : Int32)))), .int (xs (Int32.toNatClampNeg (v4 + (3 : Int32)))), .ref v3]) (rest := []) ⟨hx, hb, hml, hown, hts⟩ (m_L_send (l := l) hl0 h1) (vx_cwSW 5 htx (goodQ gL_law_L_send (by decide)) rfl rfl rfl ⟨by decide +kernel, by decide +kernel, by decide +kernel⟩ ⟨Nat.le_trans (Nat.le_of_ble_eq_true rfl) hRf, Nat.le_trans (Nat.le_of_ble_eq_true rfl) hRl⟩) (r_pS hB hw hS) rfl rfl hl.1 rfl (lv_room (Nat.le_of_ble_eq_true rfl)) dL_law_584 ⟨by omega, by omega⟩) hS (fun _ _ h => h) (fun _ h => h) (fun r107 S108 t H1 locs ht _ h hw1 _ _ hS => ?_)
          subst ht
          have hw : wd D y z S108 A t.heap := hw1
          clear hw1 h1
          have hcu : (cu + k109) + (mc - k109) ≤ MC := by omega
          have hsu : (su + n110) + (ms - n110) ≤ MS := by omega
          refine lv_istore hx hb dL_law_587 hl (by decide) rfl (fun ls hl => ?_)
          have hl : lv_has ls 9 [(5, .int r107), (0, .ref p1), (1, .ref v1), (2, .ref v2), (3, .ref v3), (4, .int v4)] := hl
          refine lv_aload_n hx hb dL_law_589 rfl (lv_at hl 3 rfl) ?_
          refine lv_aload_n hx hb dL_law_590 rfl (lv_at hl 1 rfl) ?_
          refine lv_iload hx hb dL_law_591 (lv_at hl 5 rfl) ?_
          refine lv_iconst (v := (1 : Int32)) hx hb dL_law_593 (by decide) ?_
          refine lv_iadd hx hb dL_law_594 ?_
          obtain ⟨hin111, h⟩ := h
          refine va_sld hx hb hX hbl hbA hS hin111 dL_law_595 ?_
          refine lv_aload_n hx hb dL_law_596 rfl (lv_at hl 1 rfl) ?_
          refine lv_iload hx hb dL_law_597 (lv_at hl 5 rfl) ?_
          refine lv_iconst (v := (2 : Int32)) hx hb dL_law_599 (by decide) ?_
          refine lv_iadd hx hb dL_law_600 ?_
          obtain ⟨hin112, h⟩ := h
          refine va_sld hx hb hX hbl hbA hS hin112 dL_law_601 ?_
          refine lv_aload_n hx hb dL_law_602 rfl (lv_at hl 1 rfl) ?_
          refine lv_iload hx hb dL_law_603 (lv_at hl 5 rfl) ?_
          refine lv_iconst (v := (3 : Int32)) hx hb dL_law_605 (by decide) ?_
          refine lv_iadd hx hb dL_law_606 ?_
          obtain ⟨hin113, h⟩ := h
          refine va_sld hx hb hX hbl hbA hS hin113 dL_law_607 ?_
          obtain ⟨hk114, h⟩ := h
          have h1 := h
          refine va_calli (va_runV (As := [.int (xs (Int32.toNatClampNeg (v4 + (1 : Int32)))), .int (xs (Int32.toNatClampNeg (v4 + (2 : Int32)))), .int (xs (Int32.toNatClampNeg (v4 + (3 : Int32))))]) (rest := []) ⟨hx, hb, hml, hown, hts⟩ (m_X6_send (l := l) h1) (cwV 3 hts gL_law_X6_send rfl rfl rfl (by decide +kernel) ⟨Nat.le_trans (Nat.le_of_ble_eq_true rfl) hRf, Nat.le_trans (Nat.le_of_ble_eq_true rfl) hRl⟩) (r_pV hB hw hS (ce_8 (S := S108) hk114) rfl) rfl rfl hl.1 rfl (lv_room (Nat.le_of_ble_eq_true rfl)) dL_law_608 ⟨by omega, by omega⟩) hS (fun _ _ h => h) (fun _ h => h) (fun r115 S116 t H1 locs ht _ h hw1 _ _ hS => ?_)
          subst ht
          have hw : wd D y z S116 A t.heap := hw1
          clear hw1 h1
          refine lv_istore hx hb dL_law_611 hl (by decide) rfl (fun ls hl => ?_)
          have hl : lv_has ls 9 [(6, .int r115), (5, .int r107), (0, .ref p1), (1, .ref v1), (2, .ref v2), (3, .ref v3), (4, .int v4)] := hl
          refine lv_aload_n hx hb dL_law_613 rfl (lv_at hl 4 rfl) ?_
          obtain ⟨hk117, h⟩ := h
          have h1 := h
          refine va_calli (va_runV (As := []) (rest := []) ⟨hx, hb, hml, hown, hts⟩ (m_X6_thrown (l := l) h1) (cwV 0 hts gL_law_X6_thrown rfl rfl rfl (by decide +kernel) ⟨Nat.le_trans (Nat.le_of_ble_eq_true rfl) hRf, Nat.le_trans (Nat.le_of_ble_eq_true rfl) hRl⟩) (r_pV hB hw hS (ce_8 (S := S116) hk117) rfl) rfl rfl hl.1 rfl (lv_room (Nat.le_of_ble_eq_true rfl)) dL_law_614 ⟨by omega, by omega⟩) hS (fun _ _ h => h) (fun _ h => h) (fun r118 S119 t H1 locs ht _ h hw1 _ _ hS => ?_)
          subst ht
          have hw : wd D y z S119 A t.heap := hw1
          clear hw1 h1
          refine lv_iload hx hb dL_law_617 (lv_at hl 1 rfl) ?_
          refine lv_icmp_eq (tgt := 624) hx hb dL_law_619 (by decide) (fun hc => ?_) (fun hc => ?_)
          · have h := h.1 hc
            refine lv_iload hx hb dL_law_624 (lv_at hl 1 rfl) ?_
            refine lv_if_ne (tgt := 641) hx hb dL_law_626 (by decide) (fun hc => ?_) (fun hc => ?_)
            · have h := h.1 hc
              exact hB641 _ _ _ _ _ _ _ _ _ _ _ _ _ h hw hS (lv_sub hl [2, 3, 4, 5, 6] rfl) hcu hsu hd0
            · have h := h.2 hc
              refine lv_aload_n hx hb dL_law_629 rfl (lv_at hl 5 rfl) ?_
              refine lv_iconst (v := (0 : Int32)) hx hb dL_law_630 (by decide) ?_
              obtain ⟨hk120, h⟩ := h
              obtain ⟨hin121, h⟩ := h
              refine r_lald hx hb hK hw hk120 hin121 dL_law_631 ?_
              refine lv_iload hx hb dL_law_632 (lv_at hl 0 rfl) ?_
              refine lv_i2l (v := (Int32.toInt64 r115)) hx hb dL_law_634 rfl ?_
              refine W.lcmp hx hb dL_law_635 ?_
              refine lv_if_eq (tgt := 641) hx hb dL_law_636 (by decide) (fun hc => ?_) (fun hc => ?_)
              · have h := h.1 hc
                exact hB641 _ _ _ _ _ _ _ _ _ _ _ _ _ h hw hS (lv_sub hl [2, 3, 4, 5, 6] rfl) hcu hsu hd0
              · have h := h.2 hc
                refine lv_iconst (v := (0 : Int32)) hx hb dL_law_639 (by decide) ?_
                exact hret _ _ _ _ _ _ _ _ _ h hw hS (by omega) (by omega) hd0 dL_law_640
          · have h := h.2 hc
            refine lv_iconst (v := (0 : Int32)) hx hb dL_law_622 (by decide) ?_
            exact hret _ _ _ _ _ _ _ _ _ h hw hS (by omega) (by omega) hd0 dL_law_623
        by_cases hq6 : ((xs (Int32.toNatClampNeg v4)) &&& (31 : Int32)) = (6 : Int32)
        · have h := h.2.2.2.2.2.2.1 hq6
          refine lv_tableIn (off := 604) (tgt := 644) hx hb dL_law_40 (by rw [hq6]; decide) (by rw [hq6]; decide) (by rw [hq6]; decide) (by decide) ?_
          refine lv_aload_n hx hb dL_law_644 rfl (lv_at hl 1 rfl) ?_
          refine lv_aload_n hx hb dL_law_645 rfl (lv_at hl 0 rfl) ?_
          refine lv_iload hx hb dL_law_646 (lv_at hl 4 rfl) ?_
          refine lv_iconst (v := (1 : Int32)) hx hb dL_law_648 (by decide) ?_
          refine lv_iadd hx hb dL_law_649 ?_
          obtain ⟨hin122, h⟩ := h
          refine va_sld hx hb hX hbl hbA hS hin122 dL_law_650 ?_
          refine lv_aload_n hx hb dL_law_651 rfl (lv_at hl 3 rfl) ?_
          obtain ⟨k125, n126, hbg1, hbg2, h⟩ := h
          have h1 := h
          refine va_calli (vx_runSW (As := [.ref v1, .int (xs (Int32.toNatClampNeg (v4 + (1 : Int32)))), .ref v3]) (rest := []) ⟨hx, hb, hml, hown, hts⟩ (m_L_run (l := l) hl0 h1) (vx_cwSW 3 htx (goodQ gL_law_L_run (by decide)) rfl rfl rfl ⟨by decide +kernel, by decide +kernel, by decide +kernel⟩ ⟨Nat.le_trans (Nat.le_of_ble_eq_true rfl) hRf, Nat.le_trans (Nat.le_of_ble_eq_true rfl) hRl⟩) (r_pS hB hw hS) rfl rfl hl.1 rfl (lv_room (Nat.le_of_ble_eq_true rfl)) dL_law_652 ⟨by omega, by omega⟩) hS (fun _ _ h => h) (fun _ h => h) (fun r123 S124 t H1 locs ht _ h hw1 _ _ hS => ?_)
          subst ht
          have hw : wd D y z S124 A t.heap := hw1
          clear hw1 h1
          have hcu : (cu + k125) + (mc - k125) ≤ MC := by omega
          have hsu : (su + n126) + (ms - n126) ≤ MS := by omega
          refine lv_istore hx hb dL_law_655 hl (by decide) rfl (fun ls hl => ?_)
          have hl : lv_has ls 9 [(5, .int r123), (0, .ref p1), (1, .ref v1), (2, .ref v2), (3, .ref v3), (4, .int v4)] := hl
          refine lv_aload_n hx hb dL_law_657 rfl (lv_at hl 3 rfl) ?_
          refine lv_aload_n hx hb dL_law_658 rfl (lv_at hl 1 rfl) ?_
          refine lv_iload hx hb dL_law_659 (lv_at hl 5 rfl) ?_
          refine lv_iconst (v := (1 : Int32)) hx hb dL_law_661 (by decide) ?_
          refine lv_iadd hx hb dL_law_662 ?_
          obtain ⟨hin127, h⟩ := h
          refine va_sld hx hb hX hbl hbA hS hin127 dL_law_663 ?_
          obtain ⟨hk128, h⟩ := h
          have h1 := h
          refine va_calli (va_runV (As := [.int (xs (Int32.toNatClampNeg (v4 + (1 : Int32))))]) (rest := []) ⟨hx, hb, hml, hown, hts⟩ (m_X6_run (l := l) h1) (cwV 1 hts gL_law_X6_run rfl rfl rfl (by decide +kernel) ⟨Nat.le_trans (Nat.le_of_ble_eq_true rfl) hRf, Nat.le_trans (Nat.le_of_ble_eq_true rfl) hRl⟩) (r_pV hB hw hS (ce_8 (S := S124) hk128) rfl) rfl rfl hl.1 rfl (lv_room (Nat.le_of_ble_eq_true rfl)) dL_law_664 ⟨by omega, by omega⟩) hS (fun _ _ h => h) (fun _ h => h) (fun r129 S130 t H1 locs ht _ h hw1 _ _ hS => ?_)
          subst ht
          have hw : wd D y z S130 A t.heap := hw1
          clear hw1 h1
          refine lv_istore hx hb dL_law_667 hl (by decide) rfl (fun ls hl => ?_)
          have hl : lv_has ls 9 [(6, .int r129), (5, .int r123), (0, .ref p1), (1, .ref v1), (2, .ref v2), (3, .ref v3), (4, .int v4)] := hl
          refine lv_aload_n hx hb dL_law_669 rfl (lv_at hl 4 rfl) ?_
          obtain ⟨hk131, h⟩ := h
          have h1 := h
          refine va_calli (va_runV (As := []) (rest := []) ⟨hx, hb, hml, hown, hts⟩ (m_X6_thrown (l := l) h1) (cwV 0 hts gL_law_X6_thrown rfl rfl rfl (by decide +kernel) ⟨Nat.le_trans (Nat.le_of_ble_eq_true rfl) hRf, Nat.le_trans (Nat.le_of_ble_eq_true rfl) hRl⟩) (r_pV hB hw hS (ce_8 (S := S130) hk131) rfl) rfl rfl hl.1 rfl (lv_room (Nat.le_of_ble_eq_true rfl)) dL_law_670 ⟨by omega, by omega⟩) hS (fun _ _ h => h) (fun _ h => h) (fun r132 S133 t H1 locs ht _ h hw1 _ _ hS => ?_)
          subst ht
          have hw : wd D y z S133 A t.heap := hw1
          clear hw1 h1
          refine lv_iload hx hb dL_law_673 (lv_at hl 1 rfl) ?_
          refine lv_icmp_eq (tgt := 680) hx hb dL_law_675 (by decide) (fun hc => ?_) (fun hc => ?_)
          · have h := h.1 hc
            refine lv_iload hx hb dL_law_680 (lv_at hl 1 rfl) ?_
            refine lv_if_ne (tgt := 697) hx hb dL_law_682 (by decide) (fun hc => ?_) (fun hc => ?_)
            · have h := h.1 hc
              exact hB697 _ _ _ _ _ _ _ _ _ _ _ _ _ h hw hS (lv_sub hl [2, 3, 4, 5, 6] rfl) hcu hsu hd0
            · have h := h.2 hc
              refine lv_aload_n hx hb dL_law_685 rfl (lv_at hl 5 rfl) ?_
              refine lv_iconst (v := (0 : Int32)) hx hb dL_law_686 (by decide) ?_
              obtain ⟨hk134, h⟩ := h
              obtain ⟨hin135, h⟩ := h
              refine r_lald hx hb hK hw hk134 hin135 dL_law_687 ?_
              refine lv_iload hx hb dL_law_688 (lv_at hl 0 rfl) ?_
              refine lv_i2l (v := (Int32.toInt64 r129)) hx hb dL_law_690 rfl ?_
              refine W.lcmp hx hb dL_law_691 ?_
              refine lv_if_eq (tgt := 697) hx hb dL_law_692 (by decide) (fun hc => ?_) (fun hc => ?_)
              · have h := h.1 hc
                exact hB697 _ _ _ _ _ _ _ _ _ _ _ _ _ h hw hS (lv_sub hl [2, 3, 4, 5, 6] rfl) hcu hsu hd0
              · have h := h.2 hc
                refine lv_iconst (v := (0 : Int32)) hx hb dL_law_695 (by decide) ?_
                exact hret _ _ _ _ _ _ _ _ _ h hw hS (by omega) (by omega) hd0 dL_law_696
          · have h := h.2 hc
            refine lv_iconst (v := (0 : Int32)) hx hb dL_law_678 (by decide) ?_
            exact hret _ _ _ _ _ _ _ _ _ h hw hS (by omega) (by omega) hd0 dL_law_679
        by_cases hq7 : ((xs (Int32.toNatClampNeg v4)) &&& (31 : Int32)) = (7 : Int32)
        · have h := h.2.2.2.2.2.2.2.1 hq7
          refine lv_tableIn (off := 660) (tgt := 700) hx hb dL_law_40 (by rw [hq7]; decide) (by rw [hq7]; decide) (by rw [hq7]; decide) (by decide) ?_
          refine lv_aload_n hx hb dL_law_700 rfl (lv_at hl 1 rfl) ?_
          refine lv_aload_n hx hb dL_law_701 rfl (lv_at hl 0 rfl) ?_
          refine lv_iload hx hb dL_law_702 (lv_at hl 4 rfl) ?_
          refine lv_iconst (v := (1 : Int32)) hx hb dL_law_704 (by decide) ?_
          refine lv_iadd hx hb dL_law_705 ?_
          obtain ⟨hin136, h⟩ := h
          refine va_sld hx hb hX hbl hbA hS hin136 dL_law_706 ?_
          refine lv_aload_n hx hb dL_law_707 rfl (lv_at hl 0 rfl) ?_
          refine lv_iload hx hb dL_law_708 (lv_at hl 4 rfl) ?_
          refine lv_iconst (v := (2 : Int32)) hx hb dL_law_710 (by decide) ?_
          refine lv_iadd hx hb dL_law_711 ?_
          obtain ⟨hin137, h⟩ := h
          refine va_sld hx hb hX hbl hbA hS hin137 dL_law_712 ?_
          refine lv_aload_n hx hb dL_law_713 rfl (lv_at hl 3 rfl) ?_
          obtain ⟨k140, n141, hbg1, hbg2, h⟩ := h
          have h1 := h
          refine va_calli (vx_runSW (As := [.ref v1, .int (xs (Int32.toNatClampNeg (v4 + (1 : Int32)))), .int (xs (Int32.toNatClampNeg (v4 + (2 : Int32)))), .ref v3]) (rest := []) ⟨hx, hb, hml, hown, hts⟩ (m_L_carrier (l := l) hl0 h1) (vx_cwSW 4 htx (goodQ gL_law_L_carrier (by decide)) rfl rfl rfl ⟨by decide +kernel, by decide +kernel, by decide +kernel⟩ ⟨Nat.le_trans (Nat.le_of_ble_eq_true rfl) hRf, Nat.le_trans (Nat.le_of_ble_eq_true rfl) hRl⟩) (r_pS hB hw hS) rfl rfl hl.1 rfl (lv_room (Nat.le_of_ble_eq_true rfl)) dL_law_714 ⟨by omega, by omega⟩) hS (fun _ _ h => h) (fun _ h => h) (fun r138 S139 t H1 locs ht _ h hw1 _ _ hS => ?_)
          subst ht
          have hw : wd D y z S139 A t.heap := hw1
          clear hw1 h1
          have hcu : (cu + k140) + (mc - k140) ≤ MC := by omega
          have hsu : (su + n141) + (ms - n141) ≤ MS := by omega
          refine lv_istore hx hb dL_law_717 hl (by decide) rfl (fun ls hl => ?_)
          have hl : lv_has ls 9 [(5, .int r138), (0, .ref p1), (1, .ref v1), (2, .ref v2), (3, .ref v3), (4, .int v4)] := hl
          refine lv_aload_n hx hb dL_law_719 rfl (lv_at hl 3 rfl) ?_
          refine lv_aload_n hx hb dL_law_720 rfl (lv_at hl 1 rfl) ?_
          refine lv_iload hx hb dL_law_721 (lv_at hl 5 rfl) ?_
          refine lv_iconst (v := (1 : Int32)) hx hb dL_law_723 (by decide) ?_
          refine lv_iadd hx hb dL_law_724 ?_
          obtain ⟨hin142, h⟩ := h
          refine va_sld hx hb hX hbl hbA hS hin142 dL_law_725 ?_
          refine lv_aload_n hx hb dL_law_726 rfl (lv_at hl 1 rfl) ?_
          refine lv_iload hx hb dL_law_727 (lv_at hl 5 rfl) ?_
          refine lv_iconst (v := (2 : Int32)) hx hb dL_law_729 (by decide) ?_
          refine lv_iadd hx hb dL_law_730 ?_
          obtain ⟨hin143, h⟩ := h
          refine va_sld hx hb hX hbl hbA hS hin143 dL_law_731 ?_
          obtain ⟨hk144, h⟩ := h
          have h1 := h
          refine va_calli (va_runV (As := [.int (xs (Int32.toNatClampNeg (v4 + (1 : Int32)))), .int (xs (Int32.toNatClampNeg (v4 + (2 : Int32))))]) (rest := []) ⟨hx, hb, hml, hown, hts⟩ (m_X6_carrier (l := l) h1) (cwV 2 hts gL_law_X6_carrier rfl rfl rfl (by decide +kernel) ⟨Nat.le_trans (Nat.le_of_ble_eq_true rfl) hRf, Nat.le_trans (Nat.le_of_ble_eq_true rfl) hRl⟩) (r_pV hB hw hS (ce_8 (S := S139) hk144) rfl) rfl rfl hl.1 rfl (lv_room (Nat.le_of_ble_eq_true rfl)) dL_law_732 ⟨by omega, by omega⟩) hS (fun _ _ h => h) (fun _ h => h) (fun r145 S146 t H1 locs ht _ h hw1 _ _ hS => ?_)
          subst ht
          have hw : wd D y z S146 A t.heap := hw1
          clear hw1 h1
          refine lv_istore hx hb dL_law_735 hl (by decide) rfl (fun ls hl => ?_)
          have hl : lv_has ls 9 [(6, .int r145), (5, .int r138), (0, .ref p1), (1, .ref v1), (2, .ref v2), (3, .ref v3), (4, .int v4)] := hl
          refine lv_aload_n hx hb dL_law_737 rfl (lv_at hl 4 rfl) ?_
          obtain ⟨hk147, h⟩ := h
          have h1 := h
          refine va_calli (va_runV (As := []) (rest := []) ⟨hx, hb, hml, hown, hts⟩ (m_X6_thrown (l := l) h1) (cwV 0 hts gL_law_X6_thrown rfl rfl rfl (by decide +kernel) ⟨Nat.le_trans (Nat.le_of_ble_eq_true rfl) hRf, Nat.le_trans (Nat.le_of_ble_eq_true rfl) hRl⟩) (r_pV hB hw hS (ce_8 (S := S146) hk147) rfl) rfl rfl hl.1 rfl (lv_room (Nat.le_of_ble_eq_true rfl)) dL_law_738 ⟨by omega, by omega⟩) hS (fun _ _ h => h) (fun _ h => h) (fun r148 S149 t H1 locs ht _ h hw1 _ _ hS => ?_)
          subst ht
          have hw : wd D y z S149 A t.heap := hw1
          clear hw1 h1
          refine lv_iload hx hb dL_law_741 (lv_at hl 1 rfl) ?_
          refine lv_icmp_eq (tgt := 748) hx hb dL_law_743 (by decide) (fun hc => ?_) (fun hc => ?_)
          · have h := h.1 hc
            refine lv_iload hx hb dL_law_748 (lv_at hl 1 rfl) ?_
            refine lv_if_ne (tgt := 765) hx hb dL_law_750 (by decide) (fun hc => ?_) (fun hc => ?_)
            · have h := h.1 hc
              exact hB765 _ _ _ _ _ _ _ _ _ _ _ _ _ h hw hS (lv_sub hl [2, 3, 4, 5, 6] rfl) hcu hsu hd0
            · have h := h.2 hc
              refine lv_aload_n hx hb dL_law_753 rfl (lv_at hl 5 rfl) ?_
              refine lv_iconst (v := (0 : Int32)) hx hb dL_law_754 (by decide) ?_
              obtain ⟨hk150, h⟩ := h
              obtain ⟨hin151, h⟩ := h
              refine r_lald hx hb hK hw hk150 hin151 dL_law_755 ?_
              refine lv_iload hx hb dL_law_756 (lv_at hl 0 rfl) ?_
              refine lv_i2l (v := (Int32.toInt64 r145)) hx hb dL_law_758 rfl ?_
              refine W.lcmp hx hb dL_law_759 ?_
              refine lv_if_eq (tgt := 765) hx hb dL_law_760 (by decide) (fun hc => ?_) (fun hc => ?_)
              · have h := h.1 hc
                exact hB765 _ _ _ _ _ _ _ _ _ _ _ _ _ h hw hS (lv_sub hl [2, 3, 4, 5, 6] rfl) hcu hsu hd0
              · have h := h.2 hc
                refine lv_iconst (v := (0 : Int32)) hx hb dL_law_763 (by decide) ?_
                exact hret _ _ _ _ _ _ _ _ _ h hw hS (by omega) (by omega) hd0 dL_law_764
          · have h := h.2 hc
            refine lv_iconst (v := (0 : Int32)) hx hb dL_law_746 (by decide) ?_
            exact hret _ _ _ _ _ _ _ _ _ h hw hS (by omega) (by omega) hd0 dL_law_747
        by_cases hq8 : ((xs (Int32.toNatClampNeg v4)) &&& (31 : Int32)) = (8 : Int32)
        · have h := h.2.2.2.2.2.2.2.2.1 hq8
          refine lv_tableIn (off := 728) (tgt := 768) hx hb dL_law_40 (by rw [hq8]; decide) (by rw [hq8]; decide) (by rw [hq8]; decide) (by decide) ?_
          refine lv_aload_n hx hb dL_law_768 rfl (lv_at hl 1 rfl) ?_
          refine lv_aload_n hx hb dL_law_769 rfl (lv_at hl 0 rfl) ?_
          refine lv_iload hx hb dL_law_770 (lv_at hl 4 rfl) ?_
          refine lv_iconst (v := (1 : Int32)) hx hb dL_law_772 (by decide) ?_
          refine lv_iadd hx hb dL_law_773 ?_
          obtain ⟨hin152, h⟩ := h
          refine va_sld hx hb hX hbl hbA hS hin152 dL_law_774 ?_
          refine lv_aload_n hx hb dL_law_775 rfl (lv_at hl 3 rfl) ?_
          obtain ⟨k155, n156, hbg1, hbg2, h⟩ := h
          have h1 := h
          refine va_calli (vx_runSW (As := [.ref v1, .int (xs (Int32.toNatClampNeg (v4 + (1 : Int32)))), .ref v3]) (rest := []) ⟨hx, hb, hml, hown, hts⟩ (m_L_count (l := l) hl0 h1) (vx_cwSW 3 htx (goodQ gL_law_L_count (by decide)) rfl rfl rfl ⟨by decide +kernel, by decide +kernel, by decide +kernel⟩ ⟨Nat.le_trans (Nat.le_of_ble_eq_true rfl) hRf, Nat.le_trans (Nat.le_of_ble_eq_true rfl) hRl⟩) (r_pS hB hw hS) rfl rfl hl.1 rfl (lv_room (Nat.le_of_ble_eq_true rfl)) dL_law_776 ⟨by omega, by omega⟩) hS (fun _ _ h => h) (fun _ h => h) (fun r153 S154 t H1 locs ht _ h hw1 _ _ hS => ?_)
          subst ht
          have hw : wd D y z S154 A t.heap := hw1
          clear hw1 h1
          have hcu : (cu + k155) + (mc - k155) ≤ MC := by omega
          have hsu : (su + n156) + (ms - n156) ≤ MS := by omega
          refine lv_istore hx hb dL_law_779 hl (by decide) rfl (fun ls hl => ?_)
          have hl : lv_has ls 9 [(5, .int r153), (0, .ref p1), (1, .ref v1), (2, .ref v2), (3, .ref v3), (4, .int v4)] := hl
          refine lv_aload_n hx hb dL_law_781 rfl (lv_at hl 3 rfl) ?_
          refine lv_aload_n hx hb dL_law_782 rfl (lv_at hl 1 rfl) ?_
          refine lv_iload hx hb dL_law_783 (lv_at hl 5 rfl) ?_
          refine lv_iconst (v := (1 : Int32)) hx hb dL_law_785 (by decide) ?_
          refine lv_iadd hx hb dL_law_786 ?_
          obtain ⟨hin157, h⟩ := h
          refine va_sld hx hb hX hbl hbA hS hin157 dL_law_787 ?_
          obtain ⟨hk158, h⟩ := h
          have h1 := h
          refine va_calli (va_runV (As := [.int (xs (Int32.toNatClampNeg (v4 + (1 : Int32))))]) (rest := []) ⟨hx, hb, hml, hown, hts⟩ (m_X6_count (l := l) h1) (cwV 1 hts gL_law_X6_count rfl rfl rfl (by decide +kernel) ⟨Nat.le_trans (Nat.le_of_ble_eq_true rfl) hRf, Nat.le_trans (Nat.le_of_ble_eq_true rfl) hRl⟩) (r_pV hB hw hS (ce_8 (S := S154) hk158) rfl) rfl rfl hl.1 rfl (lv_room (Nat.le_of_ble_eq_true rfl)) dL_law_788 ⟨by omega, by omega⟩) hS (fun _ _ h => h) (fun _ h => h) (fun r159 S160 t H1 locs ht _ h hw1 _ _ hS => ?_)
          subst ht
          have hw : wd D y z S160 A t.heap := hw1
          clear hw1 h1
          refine lv_istore hx hb dL_law_791 hl (by decide) rfl (fun ls hl => ?_)
          have hl : lv_has ls 9 [(6, .int r159), (5, .int r153), (0, .ref p1), (1, .ref v1), (2, .ref v2), (3, .ref v3), (4, .int v4)] := hl
          refine lv_aload_n hx hb dL_law_793 rfl (lv_at hl 4 rfl) ?_
          obtain ⟨hk161, h⟩ := h
          have h1 := h
          refine va_calli (va_runV (As := []) (rest := []) ⟨hx, hb, hml, hown, hts⟩ (m_X6_thrown (l := l) h1) (cwV 0 hts gL_law_X6_thrown rfl rfl rfl (by decide +kernel) ⟨Nat.le_trans (Nat.le_of_ble_eq_true rfl) hRf, Nat.le_trans (Nat.le_of_ble_eq_true rfl) hRl⟩) (r_pV hB hw hS (ce_8 (S := S160) hk161) rfl) rfl rfl hl.1 rfl (lv_room (Nat.le_of_ble_eq_true rfl)) dL_law_794 ⟨by omega, by omega⟩) hS (fun _ _ h => h) (fun _ h => h) (fun r162 S163 t H1 locs ht _ h hw1 _ _ hS => ?_)
          subst ht
          have hw : wd D y z S163 A t.heap := hw1
          clear hw1 h1
          refine lv_iload hx hb dL_law_797 (lv_at hl 1 rfl) ?_
          refine lv_icmp_eq (tgt := 804) hx hb dL_law_799 (by decide) (fun hc => ?_) (fun hc => ?_)
          · have h := h.1 hc
            refine lv_iload hx hb dL_law_804 (lv_at hl 1 rfl) ?_
            refine lv_if_ne (tgt := 821) hx hb dL_law_806 (by decide) (fun hc => ?_) (fun hc => ?_)
            · have h := h.1 hc
              exact hB821 _ _ _ _ _ _ _ _ _ _ _ _ _ h hw hS (lv_sub hl [2, 3, 4, 5, 6] rfl) hcu hsu hd0
            · have h := h.2 hc
              refine lv_aload_n hx hb dL_law_809 rfl (lv_at hl 5 rfl) ?_
              refine lv_iconst (v := (0 : Int32)) hx hb dL_law_810 (by decide) ?_
              obtain ⟨hk164, h⟩ := h
              obtain ⟨hin165, h⟩ := h
              refine r_lald hx hb hK hw hk164 hin165 dL_law_811 ?_
              refine lv_iload hx hb dL_law_812 (lv_at hl 0 rfl) ?_
              refine lv_i2l (v := (Int32.toInt64 r159)) hx hb dL_law_814 rfl ?_
              refine W.lcmp hx hb dL_law_815 ?_
              refine lv_if_eq (tgt := 821) hx hb dL_law_816 (by decide) (fun hc => ?_) (fun hc => ?_)
              · have h := h.1 hc
                exact hB821 _ _ _ _ _ _ _ _ _ _ _ _ _ h hw hS (lv_sub hl [2, 3, 4, 5, 6] rfl) hcu hsu hd0
              · have h := h.2 hc
                refine lv_iconst (v := (0 : Int32)) hx hb dL_law_819 (by decide) ?_
                exact hret _ _ _ _ _ _ _ _ _ h hw hS (by omega) (by omega) hd0 dL_law_820
          · have h := h.2 hc
            refine lv_iconst (v := (0 : Int32)) hx hb dL_law_802 (by decide) ?_
            exact hret _ _ _ _ _ _ _ _ _ h hw hS (by omega) (by omega) hd0 dL_law_803
        by_cases hq9 : ((xs (Int32.toNatClampNeg v4)) &&& (31 : Int32)) = (9 : Int32)
        · have h := h.2.2.2.2.2.2.2.2.2.1 hq9
          refine lv_tableIn (off := 784) (tgt := 824) hx hb dL_law_40 (by rw [hq9]; decide) (by rw [hq9]; decide) (by rw [hq9]; decide) (by decide) ?_
          refine lv_aload_n hx hb dL_law_824 rfl (lv_at hl 1 rfl) ?_
          refine lv_aload_n hx hb dL_law_825 rfl (lv_at hl 0 rfl) ?_
          refine lv_iload hx hb dL_law_826 (lv_at hl 4 rfl) ?_
          refine lv_iconst (v := (1 : Int32)) hx hb dL_law_828 (by decide) ?_
          refine lv_iadd hx hb dL_law_829 ?_
          obtain ⟨hin166, h⟩ := h
          refine va_sld hx hb hX hbl hbA hS hin166 dL_law_830 ?_
          refine lv_aload_n hx hb dL_law_831 rfl (lv_at hl 0 rfl) ?_
          refine lv_iload hx hb dL_law_832 (lv_at hl 4 rfl) ?_
          refine lv_iconst (v := (2 : Int32)) hx hb dL_law_834 (by decide) ?_
          refine lv_iadd hx hb dL_law_835 ?_
          obtain ⟨hin167, h⟩ := h
          refine va_sld hx hb hX hbl hbA hS hin167 dL_law_836 ?_
          refine lv_aload_n hx hb dL_law_837 rfl (lv_at hl 3 rfl) ?_
          obtain ⟨k170, n171, hbg1, hbg2, h⟩ := h
          have h1 := h
          refine va_calli (vx_runSW (As := [.ref v1, .int (xs (Int32.toNatClampNeg (v4 + (1 : Int32)))), .int (xs (Int32.toNatClampNeg (v4 + (2 : Int32)))), .ref v3]) (rest := []) ⟨hx, hb, hml, hown, hts⟩ (m_L_station (l := l) hl0 h1) (vx_cwSW 4 htx (goodQ gL_law_L_station (by decide)) rfl rfl rfl ⟨by decide +kernel, by decide +kernel, by decide +kernel⟩ ⟨Nat.le_trans (Nat.le_of_ble_eq_true rfl) hRf, Nat.le_trans (Nat.le_of_ble_eq_true rfl) hRl⟩) (r_pS hB hw hS) rfl rfl hl.1 rfl (lv_room (Nat.le_of_ble_eq_true rfl)) dL_law_838 ⟨by omega, by omega⟩) hS (fun _ _ h => h) (fun _ h => h) (fun r168 S169 t H1 locs ht _ h hw1 _ _ hS => ?_)
          subst ht
          have hw : wd D y z S169 A t.heap := hw1
          clear hw1 h1
          have hcu : (cu + k170) + (mc - k170) ≤ MC := by omega
          have hsu : (su + n171) + (ms - n171) ≤ MS := by omega
          refine lv_istore hx hb dL_law_841 hl (by decide) rfl (fun ls hl => ?_)
          have hl : lv_has ls 9 [(5, .int r168), (0, .ref p1), (1, .ref v1), (2, .ref v2), (3, .ref v3), (4, .int v4)] := hl
          refine lv_aload_n hx hb dL_law_843 rfl (lv_at hl 3 rfl) ?_
          refine lv_aload_n hx hb dL_law_844 rfl (lv_at hl 1 rfl) ?_
          refine lv_iload hx hb dL_law_845 (lv_at hl 5 rfl) ?_
          refine lv_iconst (v := (1 : Int32)) hx hb dL_law_847 (by decide) ?_
          refine lv_iadd hx hb dL_law_848 ?_
          obtain ⟨hin172, h⟩ := h
          refine va_sld hx hb hX hbl hbA hS hin172 dL_law_849 ?_
          refine lv_aload_n hx hb dL_law_850 rfl (lv_at hl 1 rfl) ?_
          refine lv_iload hx hb dL_law_851 (lv_at hl 5 rfl) ?_
          refine lv_iconst (v := (2 : Int32)) hx hb dL_law_853 (by decide) ?_
          refine lv_iadd hx hb dL_law_854 ?_
          obtain ⟨hin173, h⟩ := h
          refine va_sld hx hb hX hbl hbA hS hin173 dL_law_855 ?_
          obtain ⟨hk174, h⟩ := h
          have h1 := h
          refine va_calli (va_runV (As := [.int (xs (Int32.toNatClampNeg (v4 + (1 : Int32)))), .int (xs (Int32.toNatClampNeg (v4 + (2 : Int32))))]) (rest := []) ⟨hx, hb, hml, hown, hts⟩ (m_X6_station (l := l) h1) (cwV 2 hts gL_law_X6_station rfl rfl rfl (by decide +kernel) ⟨Nat.le_trans (Nat.le_of_ble_eq_true rfl) hRf, Nat.le_trans (Nat.le_of_ble_eq_true rfl) hRl⟩) (r_pV hB hw hS (ce_8 (S := S169) hk174) rfl) rfl rfl hl.1 rfl (lv_room (Nat.le_of_ble_eq_true rfl)) dL_law_856 ⟨by omega, by omega⟩) hS (fun _ _ h => h) (fun _ h => h) (fun r175 S176 t H1 locs ht _ h hw1 _ _ hS => ?_)
          subst ht
          have hw : wd D y z S176 A t.heap := hw1
          clear hw1 h1
          refine lv_istore hx hb dL_law_859 hl (by decide) rfl (fun ls hl => ?_)
          have hl : lv_has ls 9 [(6, .int r175), (5, .int r168), (0, .ref p1), (1, .ref v1), (2, .ref v2), (3, .ref v3), (4, .int v4)] := hl
          refine lv_aload_n hx hb dL_law_861 rfl (lv_at hl 4 rfl) ?_
          obtain ⟨hk177, h⟩ := h
          have h1 := h
          refine va_calli (va_runV (As := []) (rest := []) ⟨hx, hb, hml, hown, hts⟩ (m_X6_thrown (l := l) h1) (cwV 0 hts gL_law_X6_thrown rfl rfl rfl (by decide +kernel) ⟨Nat.le_trans (Nat.le_of_ble_eq_true rfl) hRf, Nat.le_trans (Nat.le_of_ble_eq_true rfl) hRl⟩) (r_pV hB hw hS (ce_8 (S := S176) hk177) rfl) rfl rfl hl.1 rfl (lv_room (Nat.le_of_ble_eq_true rfl)) dL_law_862 ⟨by omega, by omega⟩) hS (fun _ _ h => h) (fun _ h => h) (fun r178 S179 t H1 locs ht _ h hw1 _ _ hS => ?_)
          subst ht
          have hw : wd D y z S179 A t.heap := hw1
          clear hw1 h1
          refine lv_iload hx hb dL_law_865 (lv_at hl 1 rfl) ?_
          refine lv_icmp_eq (tgt := 872) hx hb dL_law_867 (by decide) (fun hc => ?_) (fun hc => ?_)
          · have h := h.1 hc
            refine lv_iload hx hb dL_law_872 (lv_at hl 1 rfl) ?_
            refine lv_if_ne (tgt := 889) hx hb dL_law_874 (by decide) (fun hc => ?_) (fun hc => ?_)
            · have h := h.1 hc
              exact hB889 _ _ _ _ _ _ _ _ _ _ _ _ _ h hw hS (lv_sub hl [2, 3, 4, 5, 6] rfl) hcu hsu hd0
            · have h := h.2 hc
              refine lv_aload_n hx hb dL_law_877 rfl (lv_at hl 5 rfl) ?_
              refine lv_iconst (v := (0 : Int32)) hx hb dL_law_878 (by decide) ?_
              obtain ⟨hk180, h⟩ := h
              obtain ⟨hin181, h⟩ := h
              refine r_lald hx hb hK hw hk180 hin181 dL_law_879 ?_
              refine lv_iload hx hb dL_law_880 (lv_at hl 0 rfl) ?_
              refine lv_i2l (v := (Int32.toInt64 r175)) hx hb dL_law_882 rfl ?_
              refine W.lcmp hx hb dL_law_883 ?_
              refine lv_if_eq (tgt := 889) hx hb dL_law_884 (by decide) (fun hc => ?_) (fun hc => ?_)
              · have h := h.1 hc
                exact hB889 _ _ _ _ _ _ _ _ _ _ _ _ _ h hw hS (lv_sub hl [2, 3, 4, 5, 6] rfl) hcu hsu hd0
              · have h := h.2 hc
                refine lv_iconst (v := (0 : Int32)) hx hb dL_law_887 (by decide) ?_
                exact hret _ _ _ _ _ _ _ _ _ h hw hS (by omega) (by omega) hd0 dL_law_888
          · have h := h.2 hc
            refine lv_iconst (v := (0 : Int32)) hx hb dL_law_870 (by decide) ?_
            exact hret _ _ _ _ _ _ _ _ _ h hw hS (by omega) (by omega) hd0 dL_law_871
        by_cases hq10 : ((xs (Int32.toNatClampNeg v4)) &&& (31 : Int32)) = (10 : Int32)
        · have h := h.2.2.2.2.2.2.2.2.2.2.1 hq10
          refine lv_tableIn (off := 852) (tgt := 892) hx hb dL_law_40 (by rw [hq10]; decide) (by rw [hq10]; decide) (by rw [hq10]; decide) (by decide) ?_
          refine lv_aload_n hx hb dL_law_892 rfl (lv_at hl 1 rfl) ?_
          refine lv_aload_n hx hb dL_law_893 rfl (lv_at hl 0 rfl) ?_
          refine lv_iload hx hb dL_law_894 (lv_at hl 4 rfl) ?_
          refine lv_iconst (v := (1 : Int32)) hx hb dL_law_896 (by decide) ?_
          refine lv_iadd hx hb dL_law_897 ?_
          obtain ⟨hin182, h⟩ := h
          refine va_sld hx hb hX hbl hbA hS hin182 dL_law_898 ?_
          refine lv_aload_n hx hb dL_law_899 rfl (lv_at hl 0 rfl) ?_
          refine lv_iload hx hb dL_law_900 (lv_at hl 4 rfl) ?_
          refine lv_iconst (v := (2 : Int32)) hx hb dL_law_902 (by decide) ?_
          refine lv_iadd hx hb dL_law_903 ?_
          obtain ⟨hin183, h⟩ := h
          refine va_sld hx hb hX hbl hbA hS hin183 dL_law_904 ?_
          refine lv_aload_n hx hb dL_law_905 rfl (lv_at hl 3 rfl) ?_
          obtain ⟨k186, n187, hbg1, hbg2, h⟩ := h
          have h1 := h
          refine va_calli (vx_runSW (As := [.ref v1, .int (xs (Int32.toNatClampNeg (v4 + (1 : Int32)))), .int (xs (Int32.toNatClampNeg (v4 + (2 : Int32)))), .ref v3]) (rest := []) ⟨hx, hb, hml, hown, hts⟩ (m_L_tube (l := l) hl0 h1) (vx_cwSW 4 htx (goodQ gL_law_L_tube (by decide)) rfl rfl rfl ⟨by decide +kernel, by decide +kernel, by decide +kernel⟩ ⟨Nat.le_trans (Nat.le_of_ble_eq_true rfl) hRf, Nat.le_trans (Nat.le_of_ble_eq_true rfl) hRl⟩) (r_pS hB hw hS) rfl rfl hl.1 rfl (lv_room (Nat.le_of_ble_eq_true rfl)) dL_law_906 ⟨by omega, by omega⟩) hS (fun _ _ h => h) (fun _ h => h) (fun r184 S185 t H1 locs ht _ h hw1 _ _ hS => ?_)
          subst ht
          have hw : wd D y z S185 A t.heap := hw1
          clear hw1 h1
          have hcu : (cu + k186) + (mc - k186) ≤ MC := by omega
          have hsu : (su + n187) + (ms - n187) ≤ MS := by omega
          refine lv_istore hx hb dL_law_909 hl (by decide) rfl (fun ls hl => ?_)
          have hl : lv_has ls 9 [(5, .int r184), (0, .ref p1), (1, .ref v1), (2, .ref v2), (3, .ref v3), (4, .int v4)] := hl
          refine lv_aload_n hx hb dL_law_911 rfl (lv_at hl 3 rfl) ?_
          refine lv_aload_n hx hb dL_law_912 rfl (lv_at hl 1 rfl) ?_
          refine lv_iload hx hb dL_law_913 (lv_at hl 5 rfl) ?_
          refine lv_iconst (v := (1 : Int32)) hx hb dL_law_915 (by decide) ?_
          refine lv_iadd hx hb dL_law_916 ?_
          obtain ⟨hin188, h⟩ := h
          refine va_sld hx hb hX hbl hbA hS hin188 dL_law_917 ?_
          refine lv_aload_n hx hb dL_law_918 rfl (lv_at hl 1 rfl) ?_
          refine lv_iload hx hb dL_law_919 (lv_at hl 5 rfl) ?_
          refine lv_iconst (v := (2 : Int32)) hx hb dL_law_921 (by decide) ?_
          refine lv_iadd hx hb dL_law_922 ?_
          obtain ⟨hin189, h⟩ := h
          refine va_sld hx hb hX hbl hbA hS hin189 dL_law_923 ?_
          obtain ⟨hk190, h⟩ := h
          have h1 := h
          refine va_calli (va_runV (As := [.int (xs (Int32.toNatClampNeg (v4 + (1 : Int32)))), .int (xs (Int32.toNatClampNeg (v4 + (2 : Int32))))]) (rest := []) ⟨hx, hb, hml, hown, hts⟩ (m_X6_tube (l := l) h1) (cwV 2 hts gL_law_X6_tube rfl rfl rfl (by decide +kernel) ⟨Nat.le_trans (Nat.le_of_ble_eq_true rfl) hRf, Nat.le_trans (Nat.le_of_ble_eq_true rfl) hRl⟩) (r_pV hB hw hS (ce_8 (S := S185) hk190) rfl) rfl rfl hl.1 rfl (lv_room (Nat.le_of_ble_eq_true rfl)) dL_law_924 ⟨by omega, by omega⟩) hS (fun _ _ h => h) (fun _ h => h) (fun r191 S192 t H1 locs ht _ h hw1 _ _ hS => ?_)
          subst ht
          have hw : wd D y z S192 A t.heap := hw1
          clear hw1 h1
          refine lv_istore hx hb dL_law_927 hl (by decide) rfl (fun ls hl => ?_)
          have hl : lv_has ls 9 [(6, .int r191), (5, .int r184), (0, .ref p1), (1, .ref v1), (2, .ref v2), (3, .ref v3), (4, .int v4)] := hl
          refine lv_aload_n hx hb dL_law_929 rfl (lv_at hl 4 rfl) ?_
          obtain ⟨hk193, h⟩ := h
          have h1 := h
          refine va_calli (va_runV (As := []) (rest := []) ⟨hx, hb, hml, hown, hts⟩ (m_X6_thrown (l := l) h1) (cwV 0 hts gL_law_X6_thrown rfl rfl rfl (by decide +kernel) ⟨Nat.le_trans (Nat.le_of_ble_eq_true rfl) hRf, Nat.le_trans (Nat.le_of_ble_eq_true rfl) hRl⟩) (r_pV hB hw hS (ce_8 (S := S192) hk193) rfl) rfl rfl hl.1 rfl (lv_room (Nat.le_of_ble_eq_true rfl)) dL_law_930 ⟨by omega, by omega⟩) hS (fun _ _ h => h) (fun _ h => h) (fun r194 S195 t H1 locs ht _ h hw1 _ _ hS => ?_)
          subst ht
          have hw : wd D y z S195 A t.heap := hw1
          clear hw1 h1
          refine lv_iload hx hb dL_law_933 (lv_at hl 1 rfl) ?_
          refine lv_icmp_eq (tgt := 940) hx hb dL_law_935 (by decide) (fun hc => ?_) (fun hc => ?_)
          · have h := h.1 hc
            refine lv_iload hx hb dL_law_940 (lv_at hl 1 rfl) ?_
            refine lv_if_ne (tgt := 957) hx hb dL_law_942 (by decide) (fun hc => ?_) (fun hc => ?_)
            · have h := h.1 hc
              exact hB957 _ _ _ _ _ _ _ _ _ _ _ _ _ h hw hS (lv_sub hl [2, 3, 4, 5, 6] rfl) hcu hsu hd0
            · have h := h.2 hc
              refine lv_aload_n hx hb dL_law_945 rfl (lv_at hl 5 rfl) ?_
              refine lv_iconst (v := (0 : Int32)) hx hb dL_law_946 (by decide) ?_
              obtain ⟨hk196, h⟩ := h
              obtain ⟨hin197, h⟩ := h
              refine r_lald hx hb hK hw hk196 hin197 dL_law_947 ?_
              refine lv_iload hx hb dL_law_948 (lv_at hl 0 rfl) ?_
              refine lv_i2l (v := (Int32.toInt64 r191)) hx hb dL_law_950 rfl ?_
              refine W.lcmp hx hb dL_law_951 ?_
              refine lv_if_eq (tgt := 957) hx hb dL_law_952 (by decide) (fun hc => ?_) (fun hc => ?_)
              · have h := h.1 hc
                exact hB957 _ _ _ _ _ _ _ _ _ _ _ _ _ h hw hS (lv_sub hl [2, 3, 4, 5, 6] rfl) hcu hsu hd0
              · have h := h.2 hc
                refine lv_iconst (v := (0 : Int32)) hx hb dL_law_955 (by decide) ?_
                exact hret _ _ _ _ _ _ _ _ _ h hw hS (by omega) (by omega) hd0 dL_law_956
          · have h := h.2 hc
            refine lv_iconst (v := (0 : Int32)) hx hb dL_law_938 (by decide) ?_
            exact hret _ _ _ _ _ _ _ _ _ h hw hS (by omega) (by omega) hd0 dL_law_939
        by_cases hq11 : ((xs (Int32.toNatClampNeg v4)) &&& (31 : Int32)) = (11 : Int32)
        · have h := h.2.2.2.2.2.2.2.2.2.2.2.1 hq11
          refine lv_tableIn (off := 920) (tgt := 960) hx hb dL_law_40 (by rw [hq11]; decide) (by rw [hq11]; decide) (by rw [hq11]; decide) (by decide) ?_
          refine lv_aload_n hx hb dL_law_960 rfl (lv_at hl 1 rfl) ?_
          refine lv_aload_n hx hb dL_law_961 rfl (lv_at hl 0 rfl) ?_
          refine lv_iload hx hb dL_law_962 (lv_at hl 4 rfl) ?_
          refine lv_iconst (v := (1 : Int32)) hx hb dL_law_964 (by decide) ?_
          refine lv_iadd hx hb dL_law_965 ?_
          obtain ⟨hin198, h⟩ := h
          refine va_sld hx hb hX hbl hbA hS hin198 dL_law_966 ?_
          refine lv_aload_n hx hb dL_law_967 rfl (lv_at hl 0 rfl) ?_
          refine lv_iload hx hb dL_law_968 (lv_at hl 4 rfl) ?_
          refine lv_iconst (v := (2 : Int32)) hx hb dL_law_970 (by decide) ?_
          refine lv_iadd hx hb dL_law_971 ?_
          obtain ⟨hin199, h⟩ := h
          refine va_sld hx hb hX hbl hbA hS hin199 dL_law_972 ?_
          refine lv_aload_n hx hb dL_law_973 rfl (lv_at hl 3 rfl) ?_
          obtain ⟨k202, n203, hbg1, hbg2, h⟩ := h
          have h1 := h
          refine va_calli (vx_runSW (As := [.ref v1, .int (xs (Int32.toNatClampNeg (v4 + (1 : Int32)))), .int (xs (Int32.toNatClampNeg (v4 + (2 : Int32)))), .ref v3]) (rest := []) ⟨hx, hb, hml, hown, hts⟩ (m_L_there (l := l) hl0 h1) (vx_cwSW 4 htx (goodQ gL_law_L_there (by decide)) rfl rfl rfl ⟨by decide +kernel, by decide +kernel, by decide +kernel⟩ ⟨Nat.le_trans (Nat.le_of_ble_eq_true rfl) hRf, Nat.le_trans (Nat.le_of_ble_eq_true rfl) hRl⟩) (r_pS hB hw hS) rfl rfl hl.1 rfl (lv_room (Nat.le_of_ble_eq_true rfl)) dL_law_974 ⟨by omega, by omega⟩) hS (fun _ _ h => h) (fun _ h => h) (fun r200 S201 t H1 locs ht _ h hw1 _ _ hS => ?_)
          subst ht
          have hw : wd D y z S201 A t.heap := hw1
          clear hw1 h1
          have hcu : (cu + k202) + (mc - k202) ≤ MC := by omega
          have hsu : (su + n203) + (ms - n203) ≤ MS := by omega
          refine lv_istore hx hb dL_law_977 hl (by decide) rfl (fun ls hl => ?_)
          have hl : lv_has ls 9 [(5, .int r200), (0, .ref p1), (1, .ref v1), (2, .ref v2), (3, .ref v3), (4, .int v4)] := hl
          refine lv_aload_n hx hb dL_law_979 rfl (lv_at hl 3 rfl) ?_
          refine lv_aload_n hx hb dL_law_980 rfl (lv_at hl 1 rfl) ?_
          refine lv_iload hx hb dL_law_981 (lv_at hl 5 rfl) ?_
          refine lv_iconst (v := (1 : Int32)) hx hb dL_law_983 (by decide) ?_
          refine lv_iadd hx hb dL_law_984 ?_
          obtain ⟨hin204, h⟩ := h
          refine va_sld hx hb hX hbl hbA hS hin204 dL_law_985 ?_
          refine lv_aload_n hx hb dL_law_986 rfl (lv_at hl 1 rfl) ?_
          refine lv_iload hx hb dL_law_987 (lv_at hl 5 rfl) ?_
          refine lv_iconst (v := (2 : Int32)) hx hb dL_law_989 (by decide) ?_
          refine lv_iadd hx hb dL_law_990 ?_
          obtain ⟨hin205, h⟩ := h
          refine va_sld hx hb hX hbl hbA hS hin205 dL_law_991 ?_
          obtain ⟨hk206, h⟩ := h
          have h1 := h
          refine va_calli (va_runV (As := [.int (xs (Int32.toNatClampNeg (v4 + (1 : Int32)))), .int (xs (Int32.toNatClampNeg (v4 + (2 : Int32))))]) (rest := []) ⟨hx, hb, hml, hown, hts⟩ (m_X6_there (l := l) h1) (cwV 2 hts gL_law_X6_there rfl rfl rfl (by decide +kernel) ⟨Nat.le_trans (Nat.le_of_ble_eq_true rfl) hRf, Nat.le_trans (Nat.le_of_ble_eq_true rfl) hRl⟩) (r_pV hB hw hS (ce_8 (S := S201) hk206) rfl) rfl rfl hl.1 rfl (lv_room (Nat.le_of_ble_eq_true rfl)) dL_law_992 ⟨by omega, by omega⟩) hS (fun _ _ h => h) (fun _ h => h) (fun r207 S208 t H1 locs ht _ h hw1 _ _ hS => ?_)
          subst ht
          have hw : wd D y z S208 A t.heap := hw1
          clear hw1 h1
          refine lv_istore hx hb dL_law_995 hl (by decide) rfl (fun ls hl => ?_)
          have hl : lv_has ls 9 [(6, .int r207), (5, .int r200), (0, .ref p1), (1, .ref v1), (2, .ref v2), (3, .ref v3), (4, .int v4)] := hl
          refine lv_aload_n hx hb dL_law_997 rfl (lv_at hl 4 rfl) ?_
          obtain ⟨hk209, h⟩ := h
          have h1 := h
          refine va_calli (va_runV (As := []) (rest := []) ⟨hx, hb, hml, hown, hts⟩ (m_X6_thrown (l := l) h1) (cwV 0 hts gL_law_X6_thrown rfl rfl rfl (by decide +kernel) ⟨Nat.le_trans (Nat.le_of_ble_eq_true rfl) hRf, Nat.le_trans (Nat.le_of_ble_eq_true rfl) hRl⟩) (r_pV hB hw hS (ce_8 (S := S208) hk209) rfl) rfl rfl hl.1 rfl (lv_room (Nat.le_of_ble_eq_true rfl)) dL_law_998 ⟨by omega, by omega⟩) hS (fun _ _ h => h) (fun _ h => h) (fun r210 S211 t H1 locs ht _ h hw1 _ _ hS => ?_)
          subst ht
          have hw : wd D y z S211 A t.heap := hw1
          clear hw1 h1
          refine lv_iload hx hb dL_law_1001 (lv_at hl 1 rfl) ?_
          refine lv_icmp_eq (tgt := 1008) hx hb dL_law_1003 (by decide) (fun hc => ?_) (fun hc => ?_)
          · have h := h.1 hc
            refine lv_iload hx hb dL_law_1008 (lv_at hl 1 rfl) ?_
            refine lv_if_ne (tgt := 1025) hx hb dL_law_1010 (by decide) (fun hc => ?_) (fun hc => ?_)
            · have h := h.1 hc
              exact hB1025 _ _ _ _ _ _ _ _ _ _ _ _ _ h hw hS (lv_sub hl [2, 3, 4, 5, 6] rfl) hcu hsu hd0
            · have h := h.2 hc
              refine lv_aload_n hx hb dL_law_1013 rfl (lv_at hl 5 rfl) ?_
              refine lv_iconst (v := (0 : Int32)) hx hb dL_law_1014 (by decide) ?_
              obtain ⟨hk212, h⟩ := h
              obtain ⟨hin213, h⟩ := h
              refine r_lald hx hb hK hw hk212 hin213 dL_law_1015 ?_
              refine lv_iload hx hb dL_law_1016 (lv_at hl 0 rfl) ?_
              refine lv_i2l (v := (Int32.toInt64 r207)) hx hb dL_law_1018 rfl ?_
              refine W.lcmp hx hb dL_law_1019 ?_
              refine lv_if_eq (tgt := 1025) hx hb dL_law_1020 (by decide) (fun hc => ?_) (fun hc => ?_)
              · have h := h.1 hc
                exact hB1025 _ _ _ _ _ _ _ _ _ _ _ _ _ h hw hS (lv_sub hl [2, 3, 4, 5, 6] rfl) hcu hsu hd0
              · have h := h.2 hc
                refine lv_iconst (v := (0 : Int32)) hx hb dL_law_1023 (by decide) ?_
                exact hret _ _ _ _ _ _ _ _ _ h hw hS (by omega) (by omega) hd0 dL_law_1024
          · have h := h.2 hc
            refine lv_iconst (v := (0 : Int32)) hx hb dL_law_1006 (by decide) ?_
            exact hret _ _ _ _ _ _ _ _ _ h hw hS (by omega) (by omega) hd0 dL_law_1007
        by_cases hq12 : ((xs (Int32.toNatClampNeg v4)) &&& (31 : Int32)) = (12 : Int32)
        · have h := h.2.2.2.2.2.2.2.2.2.2.2.2.1 hq12
          refine lv_tableIn (off := 988) (tgt := 1028) hx hb dL_law_40 (by rw [hq12]; decide) (by rw [hq12]; decide) (by rw [hq12]; decide) (by decide) ?_
          refine lv_aload_n hx hb dL_law_1028 rfl (lv_at hl 1 rfl) ?_
          refine lv_aload_n hx hb dL_law_1029 rfl (lv_at hl 0 rfl) ?_
          refine lv_iload hx hb dL_law_1030 (lv_at hl 4 rfl) ?_
          refine lv_iconst (v := (1 : Int32)) hx hb dL_law_1032 (by decide) ?_
          refine lv_iadd hx hb dL_law_1033 ?_
          obtain ⟨hin214, h⟩ := h
          refine va_sld hx hb hX hbl hbA hS hin214 dL_law_1034 ?_
          refine lv_aload_n hx hb dL_law_1035 rfl (lv_at hl 0 rfl) ?_
          refine lv_iload hx hb dL_law_1036 (lv_at hl 4 rfl) ?_
          refine lv_iconst (v := (2 : Int32)) hx hb dL_law_1038 (by decide) ?_
          refine lv_iadd hx hb dL_law_1039 ?_
          obtain ⟨hin215, h⟩ := h
          refine va_sld hx hb hX hbl hbA hS hin215 dL_law_1040 ?_
          refine lv_aload_n hx hb dL_law_1041 rfl (lv_at hl 3 rfl) ?_
          obtain ⟨k218, n219, hbg1, hbg2, h⟩ := h
          have h1 := h
          refine va_calli (vx_runSW (As := [.ref v1, .int (xs (Int32.toNatClampNeg (v4 + (1 : Int32)))), .int (xs (Int32.toNatClampNeg (v4 + (2 : Int32)))), .ref v3]) (rest := []) ⟨hx, hb, hml, hown, hts⟩ (m_L_time (l := l) hl0 h1) (vx_cwSW 4 htx (goodQ gL_law_L_time (by decide)) rfl rfl rfl ⟨by decide +kernel, by decide +kernel, by decide +kernel⟩ ⟨Nat.le_trans (Nat.le_of_ble_eq_true rfl) hRf, Nat.le_trans (Nat.le_of_ble_eq_true rfl) hRl⟩) (r_pS hB hw hS) rfl rfl hl.1 rfl (lv_room (Nat.le_of_ble_eq_true rfl)) dL_law_1042 ⟨by omega, by omega⟩) hS (fun _ _ h => h) (fun _ h => h) (fun r216 S217 t H1 locs ht _ h hw1 _ _ hS => ?_)
          subst ht
          have hw : wd D y z S217 A t.heap := hw1
          clear hw1 h1
          have hcu : (cu + k218) + (mc - k218) ≤ MC := by omega
          have hsu : (su + n219) + (ms - n219) ≤ MS := by omega
          refine lv_istore hx hb dL_law_1045 hl (by decide) rfl (fun ls hl => ?_)
          have hl : lv_has ls 9 [(5, .int r216), (0, .ref p1), (1, .ref v1), (2, .ref v2), (3, .ref v3), (4, .int v4)] := hl
          refine lv_aload_n hx hb dL_law_1047 rfl (lv_at hl 3 rfl) ?_
          refine lv_aload_n hx hb dL_law_1048 rfl (lv_at hl 1 rfl) ?_
          refine lv_iload hx hb dL_law_1049 (lv_at hl 5 rfl) ?_
          refine lv_iconst (v := (1 : Int32)) hx hb dL_law_1051 (by decide) ?_
          refine lv_iadd hx hb dL_law_1052 ?_
          obtain ⟨hin220, h⟩ := h
          refine va_sld hx hb hX hbl hbA hS hin220 dL_law_1053 ?_
          refine lv_aload_n hx hb dL_law_1054 rfl (lv_at hl 1 rfl) ?_
          refine lv_iload hx hb dL_law_1055 (lv_at hl 5 rfl) ?_
          refine lv_iconst (v := (2 : Int32)) hx hb dL_law_1057 (by decide) ?_
          refine lv_iadd hx hb dL_law_1058 ?_
          obtain ⟨hin221, h⟩ := h
          refine va_sld hx hb hX hbl hbA hS hin221 dL_law_1059 ?_
          obtain ⟨hk222, h⟩ := h
          have h1 := h
          refine va_calli (va_runV (As := [.int (xs (Int32.toNatClampNeg (v4 + (1 : Int32)))), .int (xs (Int32.toNatClampNeg (v4 + (2 : Int32))))]) (rest := []) ⟨hx, hb, hml, hown, hts⟩ (m_X6_time (l := l) h1) (cwV 2 hts gL_law_X6_time rfl rfl rfl (by decide +kernel) ⟨Nat.le_trans (Nat.le_of_ble_eq_true rfl) hRf, Nat.le_trans (Nat.le_of_ble_eq_true rfl) hRl⟩) (r_pV hB hw hS (ce_8 (S := S217) hk222) rfl) rfl rfl hl.1 rfl (lv_room (Nat.le_of_ble_eq_true rfl)) dL_law_1060 ⟨by omega, by omega⟩) hS (fun _ _ h => h) (fun _ h => h) (fun r223 S224 t H1 locs ht _ h hw1 _ _ hS => ?_)
          subst ht
          have hw : wd D y z S224 A t.heap := hw1
          clear hw1 h1
          refine lv_istore hx hb dL_law_1063 hl (by decide) rfl (fun ls hl => ?_)
          have hl : lv_has ls 9 [(6, .int r223), (5, .int r216), (0, .ref p1), (1, .ref v1), (2, .ref v2), (3, .ref v3), (4, .int v4)] := hl
          refine lv_aload_n hx hb dL_law_1065 rfl (lv_at hl 4 rfl) ?_
          obtain ⟨hk225, h⟩ := h
          have h1 := h
          refine va_calli (va_runV (As := []) (rest := []) ⟨hx, hb, hml, hown, hts⟩ (m_X6_thrown (l := l) h1) (cwV 0 hts gL_law_X6_thrown rfl rfl rfl (by decide +kernel) ⟨Nat.le_trans (Nat.le_of_ble_eq_true rfl) hRf, Nat.le_trans (Nat.le_of_ble_eq_true rfl) hRl⟩) (r_pV hB hw hS (ce_8 (S := S224) hk225) rfl) rfl rfl hl.1 rfl (lv_room (Nat.le_of_ble_eq_true rfl)) dL_law_1066 ⟨by omega, by omega⟩) hS (fun _ _ h => h) (fun _ h => h) (fun r226 S227 t H1 locs ht _ h hw1 _ _ hS => ?_)
          subst ht
          have hw : wd D y z S227 A t.heap := hw1
          clear hw1 h1
          refine lv_iload hx hb dL_law_1069 (lv_at hl 1 rfl) ?_
          refine lv_icmp_eq (tgt := 1076) hx hb dL_law_1071 (by decide) (fun hc => ?_) (fun hc => ?_)
          · have h := h.1 hc
            refine lv_iload hx hb dL_law_1076 (lv_at hl 1 rfl) ?_
            refine lv_if_ne (tgt := 1093) hx hb dL_law_1078 (by decide) (fun hc => ?_) (fun hc => ?_)
            · have h := h.1 hc
              exact hB1093 _ _ _ _ _ _ _ _ _ _ _ _ _ h hw hS (lv_sub hl [2, 3, 4, 5, 6] rfl) hcu hsu hd0
            · have h := h.2 hc
              refine lv_aload_n hx hb dL_law_1081 rfl (lv_at hl 5 rfl) ?_
              refine lv_iconst (v := (0 : Int32)) hx hb dL_law_1082 (by decide) ?_
              obtain ⟨hk228, h⟩ := h
              obtain ⟨hin229, h⟩ := h
              refine r_lald hx hb hK hw hk228 hin229 dL_law_1083 ?_
              refine lv_iload hx hb dL_law_1084 (lv_at hl 0 rfl) ?_
              refine lv_i2l (v := (Int32.toInt64 r223)) hx hb dL_law_1086 rfl ?_
              refine W.lcmp hx hb dL_law_1087 ?_
              refine lv_if_eq (tgt := 1093) hx hb dL_law_1088 (by decide) (fun hc => ?_) (fun hc => ?_)
              · have h := h.1 hc
                exact hB1093 _ _ _ _ _ _ _ _ _ _ _ _ _ h hw hS (lv_sub hl [2, 3, 4, 5, 6] rfl) hcu hsu hd0
              · have h := h.2 hc
                refine lv_iconst (v := (0 : Int32)) hx hb dL_law_1091 (by decide) ?_
                exact hret _ _ _ _ _ _ _ _ _ h hw hS (by omega) (by omega) hd0 dL_law_1092
          · have h := h.2 hc
            refine lv_iconst (v := (0 : Int32)) hx hb dL_law_1074 (by decide) ?_
            exact hret _ _ _ _ _ _ _ _ _ h hw hS (by omega) (by omega) hd0 dL_law_1075
        by_cases hq13 : ((xs (Int32.toNatClampNeg v4)) &&& (31 : Int32)) = (13 : Int32)
        · have h := h.2.2.2.2.2.2.2.2.2.2.2.2.2.1 hq13
          refine lv_tableIn (off := 1056) (tgt := 1096) hx hb dL_law_40 (by rw [hq13]; decide) (by rw [hq13]; decide) (by rw [hq13]; decide) (by decide) ?_
          refine lv_aload_n hx hb dL_law_1096 rfl (lv_at hl 1 rfl) ?_
          refine lv_aload_n hx hb dL_law_1097 rfl (lv_at hl 0 rfl) ?_
          refine lv_iload hx hb dL_law_1098 (lv_at hl 4 rfl) ?_
          refine lv_iconst (v := (1 : Int32)) hx hb dL_law_1100 (by decide) ?_
          refine lv_iadd hx hb dL_law_1101 ?_
          obtain ⟨hin230, h⟩ := h
          refine va_sld hx hb hX hbl hbA hS hin230 dL_law_1102 ?_
          refine lv_aload_n hx hb dL_law_1103 rfl (lv_at hl 0 rfl) ?_
          refine lv_iload hx hb dL_law_1104 (lv_at hl 4 rfl) ?_
          refine lv_iconst (v := (2 : Int32)) hx hb dL_law_1106 (by decide) ?_
          refine lv_iadd hx hb dL_law_1107 ?_
          obtain ⟨hin231, h⟩ := h
          refine va_sld hx hb hX hbl hbA hS hin231 dL_law_1108 ?_
          refine lv_aload_n hx hb dL_law_1109 rfl (lv_at hl 3 rfl) ?_
          obtain ⟨k234, n235, hbg1, hbg2, h⟩ := h
          have h1 := h
          refine va_calli (vx_runSW (As := [.ref v1, .int (xs (Int32.toNatClampNeg (v4 + (1 : Int32)))), .int (xs (Int32.toNatClampNeg (v4 + (2 : Int32)))), .ref v3]) (rest := []) ⟨hx, hb, hml, hown, hts⟩ (m_L_next (l := l) hl0 h1) (vx_cwSW 4 htx (goodQ gL_law_L_next (by decide)) rfl rfl rfl ⟨by decide +kernel, by decide +kernel, by decide +kernel⟩ ⟨Nat.le_trans (Nat.le_of_ble_eq_true rfl) hRf, Nat.le_trans (Nat.le_of_ble_eq_true rfl) hRl⟩) (r_pS hB hw hS) rfl rfl hl.1 rfl (lv_room (Nat.le_of_ble_eq_true rfl)) dL_law_1110 ⟨by omega, by omega⟩) hS (fun _ _ h => h) (fun _ h => h) (fun r232 S233 t H1 locs ht _ h hw1 _ _ hS => ?_)
          subst ht
          have hw : wd D y z S233 A t.heap := hw1
          clear hw1 h1
          have hcu : (cu + k234) + (mc - k234) ≤ MC := by omega
          have hsu : (su + n235) + (ms - n235) ≤ MS := by omega
          refine lv_istore hx hb dL_law_1113 hl (by decide) rfl (fun ls hl => ?_)
          have hl : lv_has ls 9 [(5, .int r232), (0, .ref p1), (1, .ref v1), (2, .ref v2), (3, .ref v3), (4, .int v4)] := hl
          refine lv_aload_n hx hb dL_law_1115 rfl (lv_at hl 3 rfl) ?_
          refine lv_aload_n hx hb dL_law_1116 rfl (lv_at hl 1 rfl) ?_
          refine lv_iload hx hb dL_law_1117 (lv_at hl 5 rfl) ?_
          refine lv_iconst (v := (1 : Int32)) hx hb dL_law_1119 (by decide) ?_
          refine lv_iadd hx hb dL_law_1120 ?_
          obtain ⟨hin236, h⟩ := h
          refine va_sld hx hb hX hbl hbA hS hin236 dL_law_1121 ?_
          refine lv_aload_n hx hb dL_law_1122 rfl (lv_at hl 1 rfl) ?_
          refine lv_iload hx hb dL_law_1123 (lv_at hl 5 rfl) ?_
          refine lv_iconst (v := (2 : Int32)) hx hb dL_law_1125 (by decide) ?_
          refine lv_iadd hx hb dL_law_1126 ?_
          obtain ⟨hin237, h⟩ := h
          refine va_sld hx hb hX hbl hbA hS hin237 dL_law_1127 ?_
          obtain ⟨hk238, h⟩ := h
          have h1 := h
          refine va_calli (va_runV (As := [.int (xs (Int32.toNatClampNeg (v4 + (1 : Int32)))), .int (xs (Int32.toNatClampNeg (v4 + (2 : Int32))))]) (rest := []) ⟨hx, hb, hml, hown, hts⟩ (m_X6_next (l := l) h1) (cwV 2 hts gL_law_X6_next rfl rfl rfl (by decide +kernel) ⟨Nat.le_trans (Nat.le_of_ble_eq_true rfl) hRf, Nat.le_trans (Nat.le_of_ble_eq_true rfl) hRl⟩) (r_pV hB hw hS (ce_8 (S := S233) hk238) rfl) rfl rfl hl.1 rfl (lv_room (Nat.le_of_ble_eq_true rfl)) dL_law_1128 ⟨by omega, by omega⟩) hS (fun _ _ h => h) (fun _ h => h) (fun r239 S240 t H1 locs ht _ h hw1 _ _ hS => ?_)
          subst ht
          have hw : wd D y z S240 A t.heap := hw1
          clear hw1 h1
          refine lv_istore hx hb dL_law_1131 hl (by decide) rfl (fun ls hl => ?_)
          have hl : lv_has ls 9 [(6, .int r239), (5, .int r232), (0, .ref p1), (1, .ref v1), (2, .ref v2), (3, .ref v3), (4, .int v4)] := hl
          refine lv_aload_n hx hb dL_law_1133 rfl (lv_at hl 4 rfl) ?_
          obtain ⟨hk241, h⟩ := h
          have h1 := h
          refine va_calli (va_runV (As := []) (rest := []) ⟨hx, hb, hml, hown, hts⟩ (m_X6_thrown (l := l) h1) (cwV 0 hts gL_law_X6_thrown rfl rfl rfl (by decide +kernel) ⟨Nat.le_trans (Nat.le_of_ble_eq_true rfl) hRf, Nat.le_trans (Nat.le_of_ble_eq_true rfl) hRl⟩) (r_pV hB hw hS (ce_8 (S := S240) hk241) rfl) rfl rfl hl.1 rfl (lv_room (Nat.le_of_ble_eq_true rfl)) dL_law_1134 ⟨by omega, by omega⟩) hS (fun _ _ h => h) (fun _ h => h) (fun r242 S243 t H1 locs ht _ h hw1 _ _ hS => ?_)
          subst ht
          have hw : wd D y z S243 A t.heap := hw1
          clear hw1 h1
          refine lv_iload hx hb dL_law_1137 (lv_at hl 1 rfl) ?_
          refine lv_icmp_eq (tgt := 1144) hx hb dL_law_1139 (by decide) (fun hc => ?_) (fun hc => ?_)
          · have h := h.1 hc
            refine lv_iload hx hb dL_law_1144 (lv_at hl 1 rfl) ?_
            refine lv_if_ne (tgt := 1161) hx hb dL_law_1146 (by decide) (fun hc => ?_) (fun hc => ?_)
            · have h := h.1 hc
              exact hB1161 _ _ _ _ _ _ _ _ _ _ _ _ _ h hw hS (lv_sub hl [2, 3, 4, 5, 6] rfl) hcu hsu hd0
            · have h := h.2 hc
              refine lv_aload_n hx hb dL_law_1149 rfl (lv_at hl 5 rfl) ?_
              refine lv_iconst (v := (0 : Int32)) hx hb dL_law_1150 (by decide) ?_
              obtain ⟨hk244, h⟩ := h
              obtain ⟨hin245, h⟩ := h
              refine r_lald hx hb hK hw hk244 hin245 dL_law_1151 ?_
              refine lv_iload hx hb dL_law_1152 (lv_at hl 0 rfl) ?_
              refine lv_i2l (v := (Int32.toInt64 r239)) hx hb dL_law_1154 rfl ?_
              refine W.lcmp hx hb dL_law_1155 ?_
              refine lv_if_eq (tgt := 1161) hx hb dL_law_1156 (by decide) (fun hc => ?_) (fun hc => ?_)
              · have h := h.1 hc
                exact hB1161 _ _ _ _ _ _ _ _ _ _ _ _ _ h hw hS (lv_sub hl [2, 3, 4, 5, 6] rfl) hcu hsu hd0
              · have h := h.2 hc
                refine lv_iconst (v := (0 : Int32)) hx hb dL_law_1159 (by decide) ?_
                exact hret _ _ _ _ _ _ _ _ _ h hw hS (by omega) (by omega) hd0 dL_law_1160
          · have h := h.2 hc
            refine lv_iconst (v := (0 : Int32)) hx hb dL_law_1142 (by decide) ?_
            exact hret _ _ _ _ _ _ _ _ _ h hw hS (by omega) (by omega) hd0 dL_law_1143
        by_cases hq14 : ((xs (Int32.toNatClampNeg v4)) &&& (31 : Int32)) = (14 : Int32)
        · have h := h.2.2.2.2.2.2.2.2.2.2.2.2.2.2.1 hq14
          refine lv_tableIn (off := 1124) (tgt := 1164) hx hb dL_law_40 (by rw [hq14]; decide) (by rw [hq14]; decide) (by rw [hq14]; decide) (by decide) ?_
          refine lv_aload_n hx hb dL_law_1164 rfl (lv_at hl 1 rfl) ?_
          refine lv_aload_n hx hb dL_law_1165 rfl (lv_at hl 0 rfl) ?_
          refine lv_iload hx hb dL_law_1166 (lv_at hl 4 rfl) ?_
          refine lv_iconst (v := (1 : Int32)) hx hb dL_law_1168 (by decide) ?_
          refine lv_iadd hx hb dL_law_1169 ?_
          obtain ⟨hin246, h⟩ := h
          refine va_sld hx hb hX hbl hbA hS hin246 dL_law_1170 ?_
          refine lv_aload_n hx hb dL_law_1171 rfl (lv_at hl 3 rfl) ?_
          obtain ⟨k249, n250, hbg1, hbg2, h⟩ := h
          have h1 := h
          refine va_calli (vx_runSW (As := [.ref v1, .int (xs (Int32.toNatClampNeg (v4 + (1 : Int32)))), .ref v3]) (rest := []) ⟨hx, hb, hml, hown, hts⟩ (m_L_parts (l := l) hl0 h1) (vx_cwSW 3 htx (goodQ gL_law_L_parts (by decide)) rfl rfl rfl ⟨by decide +kernel, by decide +kernel, by decide +kernel⟩ ⟨Nat.le_trans (Nat.le_of_ble_eq_true rfl) hRf, Nat.le_trans (Nat.le_of_ble_eq_true rfl) hRl⟩) (r_pS hB hw hS) rfl rfl hl.1 rfl (lv_room (Nat.le_of_ble_eq_true rfl)) dL_law_1172 ⟨by omega, by omega⟩) hS (fun _ _ h => h) (fun _ h => h) (fun r247 S248 t H1 locs ht _ h hw1 _ _ hS => ?_)
          subst ht
          have hw : wd D y z S248 A t.heap := hw1
          clear hw1 h1
          have hcu : (cu + k249) + (mc - k249) ≤ MC := by omega
          have hsu : (su + n250) + (ms - n250) ≤ MS := by omega
          refine lv_istore hx hb dL_law_1175 hl (by decide) rfl (fun ls hl => ?_)
          have hl : lv_has ls 9 [(5, .int r247), (0, .ref p1), (1, .ref v1), (2, .ref v2), (3, .ref v3), (4, .int v4)] := hl
          refine lv_aload_n hx hb dL_law_1177 rfl (lv_at hl 3 rfl) ?_
          refine lv_aload_n hx hb dL_law_1178 rfl (lv_at hl 1 rfl) ?_
          refine lv_iload hx hb dL_law_1179 (lv_at hl 5 rfl) ?_
          refine lv_iconst (v := (1 : Int32)) hx hb dL_law_1181 (by decide) ?_
          refine lv_iadd hx hb dL_law_1182 ?_
          obtain ⟨hin251, h⟩ := h
          refine va_sld hx hb hX hbl hbA hS hin251 dL_law_1183 ?_
          obtain ⟨hk252, h⟩ := h
          have h1 := h
          refine va_calli (va_runV (As := [.int (xs (Int32.toNatClampNeg (v4 + (1 : Int32))))]) (rest := []) ⟨hx, hb, hml, hown, hts⟩ (m_X6_parts (l := l) h1) (cwV 1 hts gL_law_X6_parts rfl rfl rfl (by decide +kernel) ⟨Nat.le_trans (Nat.le_of_ble_eq_true rfl) hRf, Nat.le_trans (Nat.le_of_ble_eq_true rfl) hRl⟩) (r_pV hB hw hS (ce_8 (S := S248) hk252) rfl) rfl rfl hl.1 rfl (lv_room (Nat.le_of_ble_eq_true rfl)) dL_law_1184 ⟨by omega, by omega⟩) hS (fun _ _ h => h) (fun _ h => h) (fun r253 S254 t H1 locs ht _ h hw1 _ _ hS => ?_)
          subst ht
          have hw : wd D y z S254 A t.heap := hw1
          clear hw1 h1
          refine lv_istore hx hb dL_law_1187 hl (by decide) rfl (fun ls hl => ?_)
          have hl : lv_has ls 9 [(6, .int r253), (5, .int r247), (0, .ref p1), (1, .ref v1), (2, .ref v2), (3, .ref v3), (4, .int v4)] := hl
          refine lv_aload_n hx hb dL_law_1189 rfl (lv_at hl 4 rfl) ?_
          obtain ⟨hk255, h⟩ := h
          have h1 := h
          refine va_calli (va_runV (As := []) (rest := []) ⟨hx, hb, hml, hown, hts⟩ (m_X6_thrown (l := l) h1) (cwV 0 hts gL_law_X6_thrown rfl rfl rfl (by decide +kernel) ⟨Nat.le_trans (Nat.le_of_ble_eq_true rfl) hRf, Nat.le_trans (Nat.le_of_ble_eq_true rfl) hRl⟩) (r_pV hB hw hS (ce_8 (S := S254) hk255) rfl) rfl rfl hl.1 rfl (lv_room (Nat.le_of_ble_eq_true rfl)) dL_law_1190 ⟨by omega, by omega⟩) hS (fun _ _ h => h) (fun _ h => h) (fun r256 S257 t H1 locs ht _ h hw1 _ _ hS => ?_)
          subst ht
          have hw : wd D y z S257 A t.heap := hw1
          clear hw1 h1
          refine lv_iload hx hb dL_law_1193 (lv_at hl 1 rfl) ?_
          refine lv_icmp_eq (tgt := 1200) hx hb dL_law_1195 (by decide) (fun hc => ?_) (fun hc => ?_)
          · have h := h.1 hc
            refine lv_iload hx hb dL_law_1200 (lv_at hl 1 rfl) ?_
            refine lv_if_ne (tgt := 1217) hx hb dL_law_1202 (by decide) (fun hc => ?_) (fun hc => ?_)
            · have h := h.1 hc
              exact hB1217 _ _ _ _ _ _ _ _ _ _ _ _ _ h hw hS (lv_sub hl [2, 3, 4, 5, 6] rfl) hcu hsu hd0
            · have h := h.2 hc
              refine lv_aload_n hx hb dL_law_1205 rfl (lv_at hl 5 rfl) ?_
              refine lv_iconst (v := (0 : Int32)) hx hb dL_law_1206 (by decide) ?_
              obtain ⟨hk258, h⟩ := h
              obtain ⟨hin259, h⟩ := h
              refine r_lald hx hb hK hw hk258 hin259 dL_law_1207 ?_
              refine lv_iload hx hb dL_law_1208 (lv_at hl 0 rfl) ?_
              refine lv_i2l (v := (Int32.toInt64 r253)) hx hb dL_law_1210 rfl ?_
              refine W.lcmp hx hb dL_law_1211 ?_
              refine lv_if_eq (tgt := 1217) hx hb dL_law_1212 (by decide) (fun hc => ?_) (fun hc => ?_)
              · have h := h.1 hc
                exact hB1217 _ _ _ _ _ _ _ _ _ _ _ _ _ h hw hS (lv_sub hl [2, 3, 4, 5, 6] rfl) hcu hsu hd0
              · have h := h.2 hc
                refine lv_iconst (v := (0 : Int32)) hx hb dL_law_1215 (by decide) ?_
                exact hret _ _ _ _ _ _ _ _ _ h hw hS (by omega) (by omega) hd0 dL_law_1216
          · have h := h.2 hc
            refine lv_iconst (v := (0 : Int32)) hx hb dL_law_1198 (by decide) ?_
            exact hret _ _ _ _ _ _ _ _ _ h hw hS (by omega) (by omega) hd0 dL_law_1199
        by_cases hq15 : ((xs (Int32.toNatClampNeg v4)) &&& (31 : Int32)) = (15 : Int32)
        · have h := h.2.2.2.2.2.2.2.2.2.2.2.2.2.2.2.1 hq15
          refine lv_tableIn (off := 1180) (tgt := 1220) hx hb dL_law_40 (by rw [hq15]; decide) (by rw [hq15]; decide) (by rw [hq15]; decide) (by decide) ?_
          refine lv_aload_n hx hb dL_law_1220 rfl (lv_at hl 1 rfl) ?_
          obtain ⟨hk260, h⟩ := h
          have h1 := h
          refine va_calldD hd0 (va_runV_D (As := []) (rest := []) ⟨hx, hb, hml, hown, hts⟩ (m_X5_mean (l := l) h1) (cwV 0 hts gL_law_X5_mean rfl rfl rfl (by decide +kernel) ⟨Nat.le_trans (Nat.le_of_ble_eq_true rfl) hRf, Nat.le_trans (Nat.le_of_ble_eq_true rfl) hRl⟩) (r_pV hB hw hS (ce_7 (S := S) hk260) rfl) rfl rfl hl.1 rfl (lv_room (Nat.le_of_ble_eq_true rfl)) dL_law_1221 ⟨by omega, by omega⟩) hS (fun _ _ h => h) (fun _ h => h) (fun r261 S262 t H1 locs ht _ h hw1 _ _ hS d263 hd0 => ?_)
          subst ht
          have hw : wd D y z S262 A t.heap := hw1
          clear hw1 h1
          have hB := hB0 d263
          have htx := dr_words hts0 d263
          have hts : ∀ w ∈ wsL_law, w.before _ (s.setDrawn d263) = true := fun w h => htx w (List.mem_append_left _ h)
          have hown : (s.setDrawn d263).vm.findClass RL = some m.cls := hown0
          have hK : va_K D bCl (bT y) (s.setDrawn d263) := hB.2.1
          have hNw := hB.2.2.1
          have hO := hB.2.2.2.2.2.1
          have hX := hX0 d263
          refine lv_dstore hx hb dL_law_1224 hl (by decide) rfl (fun ls hl => ?_)
          have hl : lv_has ls 9 [(5, .double r261), (0, .ref p1), (1, .ref v1), (2, .ref v2), (3, .ref v3), (4, .int v4)] := hl
          refine lv_aload_n hx hb dL_law_1226 rfl (lv_at hl 3 rfl) ?_
          obtain ⟨hk264, h⟩ := h
          have h1 := h
          refine va_calldD hd0 (va_runV_D (As := []) (rest := []) ⟨hx, hb, hml, hown, hts⟩ (m_X6_mean (l := l) h1) (cwV 0 hts gL_law_X6_mean rfl rfl rfl (by decide +kernel) ⟨Nat.le_trans (Nat.le_of_ble_eq_true rfl) hRf, Nat.le_trans (Nat.le_of_ble_eq_true rfl) hRl⟩) (r_pV hB hw hS (ce_8 (S := S262) hk264) rfl) rfl rfl hl.1 rfl (lv_room (Nat.le_of_ble_eq_true rfl)) dL_law_1227 ⟨by omega, by omega⟩) hS (fun _ _ h => h) (fun _ h => h) (fun r265 S266 t H1 locs ht _ h hw1 _ _ hS d267 hd0 => ?_)
          subst ht
          have hw : wd D y z S266 A t.heap := hw1
          clear hw1 h1
          have hB := hB0 d267
          have htx := dr_words hts0 d267
          have hts : ∀ w ∈ wsL_law, w.before _ (s.setDrawn d267) = true := fun w h => htx w (List.mem_append_left _ h)
          have hown : (s.setDrawn d267).vm.findClass RL = some m.cls := hown0
          have hK : va_K D bCl (bT y) (s.setDrawn d267) := hB.2.1
          have hNw := hB.2.2.1
          have hO := hB.2.2.2.2.2.1
          have hX := hX0 d267
          refine lv_dstore hx hb dL_law_1230 hl (by decide) rfl (fun ls hl => ?_)
          have hl : lv_has ls 9 [(7, .double r265), (5, .double r261), (0, .ref p1), (1, .ref v1), (2, .ref v2), (3, .ref v3), (4, .int v4)] := hl
          refine lv_dload hx hb dL_law_1232 (lv_at hl 1 rfl) ?_
          refine lv_dload hx hb dL_law_1234 (lv_at hl 0 rfl) ?_
          refine lv_dcmp hx hb dL_law_1236 ?_
          refine lv_if_eq (tgt := 1258) hx hb dL_law_1237 (by decide) (fun hc => ?_) (fun hc => ?_)
          · have h := h.1 hc
            exact hB1258 _ _ _ _ _ _ _ _ _ _ _ _ _ h hw hS (lv_sub hl [2, 3, 4, 5, 6] rfl) hcu hsu hd0
          · have h := h.2 hc
            refine lv_dload hx hb dL_law_1240 (lv_at hl 1 rfl) ?_
            refine lv_dload hx hb dL_law_1242 (lv_at hl 1 rfl) ?_
            refine lv_dcmp hx hb dL_law_1244 ?_
            refine lv_if_eq (tgt := 1256) hx hb dL_law_1245 (by decide) (fun hc => ?_) (fun hc => ?_)
            · have h := h.1 hc
              exact hB1256 _ _ _ _ _ _ _ _ _ h hw hS (lv_sub hl [] rfl) hcu hsu hd0
            · have h := h.2 hc
              refine lv_dload hx hb dL_law_1248 (lv_at hl 0 rfl) ?_
              refine lv_dload hx hb dL_law_1250 (lv_at hl 0 rfl) ?_
              refine lv_dcmp hx hb dL_law_1252 ?_
              refine lv_if_ne (tgt := 1258) hx hb dL_law_1253 (by decide) (fun hc => ?_) (fun hc => ?_)
              · have h := h.1 hc
                exact hB1258 _ _ _ _ _ _ _ _ _ _ _ _ _ h hw hS (lv_sub hl [2, 3, 4, 5, 6] rfl) hcu hsu hd0
              · have h := h.2 hc
                exact hB1256 _ _ _ _ _ _ _ _ _ h hw hS (lv_sub hl [] rfl) hcu hsu hd0
        by_cases hq16 : ((xs (Int32.toNatClampNeg v4)) &&& (31 : Int32)) = (16 : Int32)
        · have h := h.2.2.2.2.2.2.2.2.2.2.2.2.2.2.2.2.1 hq16
          refine lv_tableIn (off := 1221) (tgt := 1261) hx hb dL_law_40 (by rw [hq16]; decide) (by rw [hq16]; decide) (by rw [hq16]; decide) (by decide) ?_
          refine lv_aload_n hx hb dL_law_1261 rfl (lv_at hl 1 rfl) ?_
          obtain ⟨hk268, h⟩ := h
          obtain ⟨k271, n272, hbg1, hbg2, h⟩ := h
          have h1 := h
          refine vx_calll (vx_runV (As := []) (rest := []) ⟨hx, hb, hml, hown, hts⟩ (m_X5_digest (l := l) hl0 h1) (cwV 0 hts gL_law_X5_digest rfl rfl rfl (by decide +kernel) ⟨Nat.le_trans (Nat.le_of_ble_eq_true rfl) hRf, Nat.le_trans (Nat.le_of_ble_eq_true rfl) hRl⟩) (r_pV hB hw hS (ce_7 (S := S) hk268) rfl) rfl rfl hl.1 rfl (lv_room (Nat.le_of_ble_eq_true rfl)) dL_law_1262 ⟨by omega, by omega⟩) hS (fun _ _ h => h) (fun _ h => h) (fun _ _ h => h) (fun E ce q9 S270 t H1 locs ht hal _ hq hz9 hk9 hS hq9 hvm9 hfc9 => hq.1.elim) (fun r269 S270 t H1 locs ht _ h hw1 _ _ hS => ?_)
          subst ht
          have hw : wd D y z S270 A t.heap := hw1
          clear hw1 h1
          have hcu : (cu + k271) + (mc - k271) ≤ MC := by omega
          have hsu : (su + n272) + (ms - n272) ≤ MS := by omega
          refine lv_aload_n hx hb dL_law_1265 rfl (lv_at hl 2 rfl) ?_
          obtain ⟨hk273, h⟩ := h
          have h1 := h
          refine va_calll (va_runV (As := []) (rest := [.long r269]) ⟨hx, hb, hml, hown, hts⟩ (m_X6_digest (l := l) h1) (cwV 0 hts gL_law_X6_digest rfl rfl rfl (by decide +kernel) ⟨Nat.le_trans (Nat.le_of_ble_eq_true rfl) hRf, Nat.le_trans (Nat.le_of_ble_eq_true rfl) hRl⟩) (r_pV hB hw hS (ce_8 (S := S270) hk273) rfl) rfl rfl hl.1 rfl (lv_room (Nat.le_of_ble_eq_true rfl)) dL_law_1266 ⟨by omega, by omega⟩) hS (fun _ _ h => h) (fun _ h => h) (fun r274 S275 t H1 locs ht _ h hw1 _ _ hS => ?_)
          subst ht
          have hw : wd D y z S275 A t.heap := hw1
          clear hw1 h1
          refine W.lcmp hx hb dL_law_1269 ?_
          refine lv_if_eq (tgt := 1275) hx hb dL_law_1270 (by decide) (fun hc => ?_) (fun hc => ?_)
          · have h := h.1 hc
            exact hB1275 _ _ _ _ _ _ _ _ _ _ _ _ _ h hw hS (lv_sub hl [0, 1, 2, 3, 4] rfl) hcu hsu hd0
          · have h := h.2 hc
            refine lv_iconst (v := (0 : Int32)) hx hb dL_law_1273 (by decide) ?_
            exact hret _ _ _ _ _ _ _ _ _ h hw hS (by omega) (by omega) hd0 dL_law_1274
        have h := h.2.2.2.2.2.2.2.2.2.2.2.2.2.2.2.2.2 hq0 hq1 hq2 hq3 hq4 hq5 hq6 hq7 hq8 hq9 hq10 hq11 hq12 hq13 hq14 hq15 hq16
        have ht0 : Int32.toInt ((xs (Int32.toNatClampNeg v4)) &&& (31 : Int32)) ≠ (0 : Int) := fun q => hq0 (b_ti q rfl)
        have ht1 : Int32.toInt ((xs (Int32.toNatClampNeg v4)) &&& (31 : Int32)) ≠ (1 : Int) := fun q => hq1 (b_ti q rfl)
        have ht2 : Int32.toInt ((xs (Int32.toNatClampNeg v4)) &&& (31 : Int32)) ≠ (2 : Int) := fun q => hq2 (b_ti q rfl)
        have ht3 : Int32.toInt ((xs (Int32.toNatClampNeg v4)) &&& (31 : Int32)) ≠ (3 : Int) := fun q => hq3 (b_ti q rfl)
        have ht4 : Int32.toInt ((xs (Int32.toNatClampNeg v4)) &&& (31 : Int32)) ≠ (4 : Int) := fun q => hq4 (b_ti q rfl)
        have ht5 : Int32.toInt ((xs (Int32.toNatClampNeg v4)) &&& (31 : Int32)) ≠ (5 : Int) := fun q => hq5 (b_ti q rfl)
        have ht6 : Int32.toInt ((xs (Int32.toNatClampNeg v4)) &&& (31 : Int32)) ≠ (6 : Int) := fun q => hq6 (b_ti q rfl)
        have ht7 : Int32.toInt ((xs (Int32.toNatClampNeg v4)) &&& (31 : Int32)) ≠ (7 : Int) := fun q => hq7 (b_ti q rfl)
        have ht8 : Int32.toInt ((xs (Int32.toNatClampNeg v4)) &&& (31 : Int32)) ≠ (8 : Int) := fun q => hq8 (b_ti q rfl)
        have ht9 : Int32.toInt ((xs (Int32.toNatClampNeg v4)) &&& (31 : Int32)) ≠ (9 : Int) := fun q => hq9 (b_ti q rfl)
        have ht10 : Int32.toInt ((xs (Int32.toNatClampNeg v4)) &&& (31 : Int32)) ≠ (10 : Int) := fun q => hq10 (b_ti q rfl)
        have ht11 : Int32.toInt ((xs (Int32.toNatClampNeg v4)) &&& (31 : Int32)) ≠ (11 : Int) := fun q => hq11 (b_ti q rfl)
        have ht12 : Int32.toInt ((xs (Int32.toNatClampNeg v4)) &&& (31 : Int32)) ≠ (12 : Int) := fun q => hq12 (b_ti q rfl)
        have ht13 : Int32.toInt ((xs (Int32.toNatClampNeg v4)) &&& (31 : Int32)) ≠ (13 : Int) := fun q => hq13 (b_ti q rfl)
        have ht14 : Int32.toInt ((xs (Int32.toNatClampNeg v4)) &&& (31 : Int32)) ≠ (14 : Int) := fun q => hq14 (b_ti q rfl)
        have ht15 : Int32.toInt ((xs (Int32.toNatClampNeg v4)) &&& (31 : Int32)) ≠ (15 : Int) := fun q => hq15 (b_ti q rfl)
        have ht16 : Int32.toInt ((xs (Int32.toNatClampNeg v4)) &&& (31 : Int32)) ≠ (16 : Int) := fun q => hq16 (b_ti q rfl)
        refine lv_tableOut (tgt := 1275) hx hb dL_law_40 (by omega) (by decide) ?_
        exact hB1275 _ _ _ _ _ _ _ _ _ _ _ _ _ h hw hS (lv_sub hl [0, 1, 2, 3, 4] rfl) hcu hsu hd0
  unfold wp_L_law at h
  have hB := hB0 s.drawn
  have htx := dr_words hts0 s.drawn
  have hts : ∀ w ∈ wsL_law, w.before _ (s.setDrawn s.drawn) = true := fun w h => htx w (List.mem_append_left _ h)
  have hown : (s.setDrawn s.drawn).vm.findClass RL = some m.cls := hown0
  have hK : va_K D bCl (bT y) (s.setDrawn s.drawn) := hB.2.1
  have hNw := hB.2.2.1
  have hO := hB.2.2.2.2.2.1
  have hX := hX0 s.drawn
  have hcu : 0 + MC ≤ MC := by omega
  have hsu : 0 + MS ≤ MS := by omega
  obtain ⟨hbg1, hbg2, h⟩ := h
  refine r_new (ci := 6) (C := RX5) (T := TX5) (N := 6) (κ := 7) (nn := 0) hx hb hts hiX5 tyX5 tyX5_ok hown (hts (.classLink RL 8 RX5) (by decide +kernel)) (hts (.instantiable RX5 6) (by decide +kernel)) (hts (.initialized RX5) (by decide +kernel)) hK hw hS hAn hAz rfl pn_7 (Nat.le_of_ble_eq_true rfl) b_fs7 (by omega) (by omega) dL_law_0 (fun q1 H hq2 hw hS => ?_)
  have h := h q1 hq2
  have hk3 : gK (sNew S q1 7 0) q1 = 7 := if_pos rfl
  have hcu : (0 + 1) + (MC - 1) ≤ MC := by omega
  have hsu : (0 + 6) + (MS - 6) ≤ MS := by omega
  refine lv_dup hx hb dL_law_3 rfl ?_
  obtain ⟨k6, n7, hbg1, hbg2, h⟩ := h
  have h1 := h
  refine va_callv (va_runI (As := []) (rest := [.ref q1]) ⟨hx, hb, hml, hown, hts⟩ (m_X5_init (l := l) h1) (cwI 0 hts gL_law_X5_init rfl rfl rfl (hts (.initialized RX5) (by decide +kernel)) (hts (.methodLink RL 65 yX5_init) (by decide +kernel)) (hts (.instanceMethod yX5_init) (by decide +kernel)) rfl (by decide +kernel) ⟨Nat.le_trans (Nat.le_of_ble_eq_true rfl) hRf, Nat.le_trans (Nat.le_of_ble_eq_true rfl) hRl⟩) (r_pS hB hw hS) rfl rfl hl.1 rfl (lv_room (Nat.le_of_ble_eq_true rfl)) dL_law_4 ⟨by omega, by omega⟩) hS (fun _ _ h => h) (fun _ h => h) (fun S5 t H1 locs ht _ h hw1 _ _ hS => ?_)
  subst ht
  have hw : wd D y z S5 A t.heap := hw1
  clear hw1 h1
  have hcu : ((0 + 1) + k6) + ((MC - 1) - k6) ≤ MC := by omega
  have hsu : ((0 + 6) + n7) + ((MS - 6) - n7) ≤ MS := by omega
  refine lv_astore_n hx hb dL_law_7 rfl hl (by decide) rfl (fun ls hl => ?_)
  have hl : lv_has ls 9 [(1, .ref q1), (0, .ref p1)] := hl
  obtain ⟨hbg1, hbg2, h⟩ := h
  refine r_new (ci := 7) (C := RX6) (T := TX6) (N := 17) (κ := 8) (nn := 0) hx hb hts hiX6 tyX6 tyX6_ok hown (hts (.classLink RL 66 RX6) (by decide +kernel)) (hts (.instantiable RX6 17) (by decide +kernel)) (hts (.initialized RX6) (by decide +kernel)) hK hw hS hAn hAz rfl pn_8 (Nat.le_of_ble_eq_true rfl) b_fs8 (by omega) (by omega) dL_law_8 (fun q8 H hq9 hw hS => ?_)
  have h := h q8 hq9
  have hk10 : gK (sNew S5 q8 8 0) q8 = 8 := if_pos rfl
  have hcu : (((0 + 1) + k6) + 1) + (((MC - 1) - k6) - 1) ≤ MC := by omega
  have hsu : (((0 + 6) + n7) + 17) + (((MS - 6) - n7) - 17) ≤ MS := by omega
  refine lv_dup hx hb dL_law_11 rfl ?_
  obtain ⟨k13, n14, hbg1, hbg2, h⟩ := h
  have h1 := h
  refine va_callv (va_runI (As := []) (rest := [.ref q8]) ⟨hx, hb, hml, hown, hts⟩ (m_X6_init (l := l) h1) (cwI 0 hts gL_law_X6_init rfl rfl rfl (hts (.initialized RX6) (by decide +kernel)) (hts (.methodLink RL 68 yX6_init) (by decide +kernel)) (hts (.instanceMethod yX6_init) (by decide +kernel)) rfl (by decide +kernel) ⟨Nat.le_trans (Nat.le_of_ble_eq_true rfl) hRf, Nat.le_trans (Nat.le_of_ble_eq_true rfl) hRl⟩) (r_pS hB hw hS) rfl rfl hl.1 rfl (lv_room (Nat.le_of_ble_eq_true rfl)) dL_law_12 ⟨by omega, by omega⟩) hS (fun _ _ h => h) (fun _ h => h) (fun S12 t H1 locs ht _ h hw1 _ _ hS => ?_)
  subst ht
  have hw : wd D y z S12 A t.heap := hw1
  clear hw1 h1
  have hcu : ((((0 + 1) + k6) + 1) + k13) + ((((MC - 1) - k6) - 1) - k13) ≤ MC := by omega
  have hsu : ((((0 + 6) + n7) + 17) + n14) + ((((MS - 6) - n7) - 17) - n14) ≤ MS := by omega
  refine lv_astore_n hx hb dL_law_15 rfl hl (by decide) rfl (fun ls hl => ?_)
  have hl : lv_has ls 9 [(2, .ref q8), (1, .ref q1), (0, .ref p1)] := hl
  refine lv_iconst (v := (1 : Int32)) hx hb dL_law_16 (by decide) ?_
  obtain ⟨hn0, hn1, hbg1, hbg2, h⟩ := h
  refine r_newa13 hx hb (hts (.arrayClass .long) (by decide +kernel)) hK hw hS hAn hAz hn0 rfl hn1 (by omega) (by omega) dL_law_17 (fun q15 H hq16 hw hS => ?_)
  have h := h q15 hq16
  have hk17 : gK (sNew S12 q15 13 (Int32.toNatClampNeg (1 : Int32))) q15 = 13 := if_pos rfl
  have hcu : (((((0 + 1) + k6) + 1) + k13) + 1) + (((((MC - 1) - k6) - 1) - k13) - 1) ≤ MC := by omega
  have hsu : (((((0 + 6) + n7) + 17) + n14) + (Int32.toNatClampNeg (1 : Int32))) + (((((MS - 6) - n7) - 17) - n14) - (Int32.toNatClampNeg (1 : Int32))) ≤ MS := by omega
  refine lv_astore_n hx hb dL_law_19 rfl hl (by decide) rfl (fun ls hl => ?_)
  have hl : lv_has ls 9 [(3, .ref q15), (2, .ref q8), (1, .ref q1), (0, .ref p1)] := hl
  refine lv_iconst (v := (0 : Int32)) hx hb dL_law_20 (by decide) ?_
  refine lv_istore hx hb dL_law_21 hl (by decide) rfl (fun ls hl => ?_)
  have hl : lv_has ls 9 [(4, .int (0 : Int32)), (3, .ref q15), (2, .ref q8), (1, .ref q1), (0, .ref p1)] := hl
  obtain ⟨n23, h⟩ := h
  exact hB23 n23 _ _ _ _ _ _ _ _ _ _ _ _ _ h hw hS (lv_sub hl [4, 3, 2, 1, 0] rfl) hcu hsu hd0
