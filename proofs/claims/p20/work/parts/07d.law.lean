def wb_L_law_866 (xs : Nat → Int32) (L : Nat) (post : Int32 → bS → Prop) (mc ms : Nat) (S : bS) : Prop := post (0 : Int32) S
def wb_L_law_799 (xs : Nat → Int32) (L : Nat) (post : Int32 → bS → Prop) (mc ms : Nat) (S : bS) : Prop := post (0 : Int32) S
def wb_L_law_721 (xs : Nat → Int32) (L : Nat) (post : Int32 → bS → Prop) (mc ms : Nat) (S : bS) : Prop := post (0 : Int32) S
def wb_L_law_593 (xs : Nat → Int32) (L : Nat) (post : Int32 → bS → Prop) (mc ms : Nat) (S : bS) : Prop := post (0 : Int32) S
def wb_L_law_531 (xs : Nat → Int32) (L : Nat) (post : Int32 → bS → Prop) (mc ms : Nat) (S : bS) : Prop := post (0 : Int32) S
def wb_L_law_374 (xs : Nat → Int32) (L : Nat) (post : Int32 → bS → Prop) (mc ms : Nat) (S : bS) : Prop := post (0 : Int32) S
def wb_L_law_273 (xs : Nat → Int32) (L : Nat) (post : Int32 → bS → Prop) (mc ms : Nat) (S : bS) : Prop := post (0 : Int32) S
def wb_L_law_862 (xs : Nat → Int32) (L : Nat) (post : Int32 → bS → Prop) (rec105 : Nat → Nat → Nat → Int32 → Int32 → Nat → Nat → Int32 → Int32 → Int32 → bS → Prop) (mc ms : Nat) (v1 : Nat) (v3 : Int32) (v4 : Int32) (v5 : Nat) (v6 : Nat) (v7 : Int32) (v8 : Int32) (v9 : Int32) (s0 : UInt64) (s1 : UInt64) (S : bS) : Prop := ((Op.cmpValue (FP.dcmp s1 s0) CmpOp.l) = (0 : Int32) → rec105 mc ms v1 v3 v4 v5 v6 v7 v8 (v9 + (1 : Int32)) S) ∧ (¬ ((Op.cmpValue (FP.dcmp s1 s0) CmpOp.l) = (0 : Int32)) → wb_L_law_866 xs L post mc ms S)
def wb_L_law_801 (xs : Nat → Int32) (L : Nat) (post : Int32 → bS → Prop) (rec105 : Nat → Nat → Nat → Int32 → Int32 → Nat → Nat → Int32 → Int32 → Int32 → bS → Prop) (rec741 : Nat → Nat → Nat → Int32 → Int32 → Nat → Nat → Int32 → Int32 → Int32 → Nat → Int32 → Int32 → Int32 → bS → Prop) (mc ms : Nat) (v1 : Nat) (v3 : Int32) (v4 : Int32) (v5 : Nat) (v6 : Nat) (v7 : Int32) (v8 : Int32) (v9 : Int32) (v14 : Nat) (v16 : Int32) (v18 : Int32) (v19 : Int32) (S : bS) : Prop := gK S v1 = 7 ∧ (∃ k309 n310, k309 ≤ mc ∧ n310 ≤ ms ∧ (wp_X5_tube (fun r307 S308 => rec741 (mc - k309) (ms - n310) v1 v3 v4 v5 v6 v7 v8 v9 v14 v16 (v18 + r307) (v19 + (1 : Int32)) S308) (fun _ _ => False) k309 n310 v1 v19 (7 : Int32) S))
def wb_L_law_741 (xs : Nat → Int32) (L : Nat) (post : Int32 → bS → Prop) (rec105 : Nat → Nat → Nat → Int32 → Int32 → Nat → Nat → Int32 → Int32 → Int32 → bS → Prop) : Nat → Nat → Nat → Nat → Int32 → Int32 → Nat → Nat → Int32 → Int32 → Int32 → Nat → Int32 → Int32 → Int32 → bS → Prop
  | 0, _, _, _, _, _, _, _, _, _, _, _, _, _, _, _ => False
  | n + 1, mc, ms, v1, v3, v4, v5, v6, v7, v8, v9, v14, v16, v18, v19, S => (v4 ≤ v19 → gK S v1 = 7 ∧ (∃ k273 n274, k273 ≤ mc ∧ n274 ≤ ms ∧ (wp_X5_count (fun r271 S272 => (r271 ≠ v18 → wb_L_law_866 xs L post (mc - k273) (ms - n274) S272) ∧ (r271 = v18 → gK S272 v1 = 7 ∧ (∃ k278 n279, k278 ≤ (mc - k273) ∧ n279 ≤ (ms - n274) ∧ (wp_X5_count (fun r276 S277 => (r276 ≠ v16 → wb_L_law_866 xs L post ((mc - k273) - k278) ((ms - n274) - n279) S277) ∧ (r276 = v16 → gK S277 v1 = 7 ∧ (wp_X5_mean (fun r281 S282 => (v8 ≠ (0 : Int32) → (∀ r284 : UInt64, alike64 r284 (FP.ddiv (FP.i2d v16) (FP.i2d v8)) = true → (wb_L_law_862 xs L post rec105 ((mc - k273) - k278) ((ms - n274) - n279) v1 v3 v4 v5 v6 v7 v8 v9 r284 r281 S282))) ∧ (v8 = (0 : Int32) → wb_L_law_862 xs L post rec105 ((mc - k273) - k278) ((ms - n274) - n279) v1 v3 v4 v5 v6 v7 v8 v9 FP.dconst0 r281 S282)) v1 S277))) (fun _ _ => False) k278 n279 v1 (8 : Int32) S272)))) (fun _ _ => False) k273 n274 v1 (7 : Int32) S))) ∧ (¬ (v4 ≤ v19) → gK S v1 = 7 ∧ (∃ k289 n290, k289 ≤ mc ∧ n290 ≤ ms ∧ (wp_X5_tube (fun r287 S288 => gK S288 v14 = 9 ∧ (vp_in v19 (gN S288 v14) ∧ ((r287 ≠ (gV S288 9 v14 (Int32.toNatClampNeg v19)) → wb_L_law_799 xs L post (mc - k289) (ms - n290) S288) ∧ (r287 = (gV S288 9 v14 (Int32.toNatClampNeg v19)) → vp_in v19 (gN S288 v14) ∧ (gK S288 v1 = 7 ∧ (∃ k297 n298, k297 ≤ (mc - k289) ∧ n298 ≤ (ms - n290) ∧ (wp_X5_tube (fun r295 S296 => (r295 < (gV S288 9 v14 (Int32.toNatClampNeg v19)) → wb_L_law_799 xs L post ((mc - k289) - k297) ((ms - n290) - n298) S296) ∧ (¬ (r295 < (gV S288 9 v14 (Int32.toNatClampNeg v19))) → gK S296 v1 = 7 ∧ (∃ k302 n303, k302 ≤ ((mc - k289) - k297) ∧ n303 ≤ ((ms - n290) - n298) ∧ (wp_X5_tube (fun r300 S301 => (r300 ≠ (1 : Int32) → wb_L_law_801 xs L post rec105 (wb_L_law_741 xs L post rec105 n) (((mc - k289) - k297) - k302) (((ms - n290) - n298) - n303) v1 v3 v4 v5 v6 v7 v8 v9 v14 v16 v18 v19 S301) ∧ (r300 = (1 : Int32) → gK S301 v14 = 9 ∧ (vp_in v19 (gN S301 v14) ∧ (((gV S301 9 v14 (Int32.toNatClampNeg v19)) ≠ (0 : Int32) → wb_L_law_801 xs L post rec105 (wb_L_law_741 xs L post rec105 n) (((mc - k289) - k297) - k302) (((ms - n290) - n298) - n303) v1 v3 v4 v5 v6 v7 v8 v9 v14 v16 v18 v19 S301) ∧ ((gV S301 9 v14 (Int32.toNatClampNeg v19)) = (0 : Int32) → wb_L_law_799 xs L post (((mc - k289) - k297) - k302) (((ms - n290) - n298) - n303) S301))))) (fun _ _ => False) k302 n303 v1 v19 (7 : Int32) S296)))) (fun _ _ => False) k297 n298 v1 v19 (4 : Int32) S288))))))) (fun _ _ => False) k289 n290 v1 v19 (6 : Int32) S)))
def wb_L_law_723 (xs : Nat → Int32) (L : Nat) (post : Int32 → bS → Prop) (rec105 : Nat → Nat → Nat → Int32 → Int32 → Nat → Nat → Int32 → Int32 → Int32 → bS → Prop) (rec542 : Nat → Nat → Nat → Int32 → Int32 → Nat → Nat → Int32 → Int32 → Int32 → Nat → Nat → Nat → Int32 → Int32 → bS → Prop) (rec598 : Nat → Nat → Nat → Int32 → Int32 → Nat → Nat → Int32 → Int32 → Int32 → Nat → Nat → Nat → Int32 → Int32 → Int32 → bS → Prop) (mc ms : Nat) (v1 : Nat) (v3 : Int32) (v4 : Int32) (v5 : Nat) (v6 : Nat) (v7 : Int32) (v8 : Int32) (v9 : Int32) (v13 : Nat) (v14 : Nat) (v15 : Nat) (v16 : Int32) (v18 : Int32) (v19 : Int32) (S : bS) : Prop := rec598 mc ms v1 v3 v4 v5 v6 v7 v8 v9 v13 v14 v15 v16 v18 (v19 + (1 : Int32)) S
def wb_L_law_598 (xs : Nat → Int32) (L : Nat) (post : Int32 → bS → Prop) (rec105 : Nat → Nat → Nat → Int32 → Int32 → Nat → Nat → Int32 → Int32 → Int32 → bS → Prop) (rec542 : Nat → Nat → Nat → Int32 → Int32 → Nat → Nat → Int32 → Int32 → Int32 → Nat → Nat → Nat → Int32 → Int32 → bS → Prop) : Nat → Nat → Nat → Nat → Int32 → Int32 → Nat → Nat → Int32 → Int32 → Int32 → Nat → Nat → Nat → Int32 → Int32 → Int32 → bS → Prop
  | 0, _, _, _, _, _, _, _, _, _, _, _, _, _, _, _, _, _ => False
  | n + 1, mc, ms, v1, v3, v4, v5, v6, v7, v8, v9, v13, v14, v15, v16, v18, v19, S => gK S v13 = 9 ∧ (vp_in v18 (gN S v13) ∧ (((gV S 9 v13 (Int32.toNatClampNeg v18)) ≤ v19 → rec542 mc ms v1 v3 v4 v5 v6 v7 v8 v9 v13 v14 v15 v16 (v18 + (1 : Int32)) S) ∧ (¬ ((gV S 9 v13 (Int32.toNatClampNeg v18)) ≤ v19) → gK S v1 = 7 ∧ (∃ k213 n214, k213 ≤ mc ∧ n214 ≤ ms ∧ (wp_X5_there (fun r211 S212 => gK S212 v1 = 7 ∧ (∃ k218 n219, k218 ≤ (mc - k213) ∧ n219 ≤ (ms - n214) ∧ (wp_X5_carrier (fun r216 S217 => (r216 ≠ (1 : Int32) → wb_L_law_721 xs L post ((mc - k213) - k218) ((ms - n214) - n219) S217) ∧ (r216 = (1 : Int32) → gK S217 v1 = 7 ∧ (∃ k223 n224, k223 ≤ ((mc - k213) - k218) ∧ n224 ≤ ((ms - n214) - n219) ∧ (wp_X5_carrier (fun r221 S222 => (r221 ≠ v18 → wb_L_law_721 xs L post (((mc - k213) - k218) - k223) (((ms - n214) - n219) - n224) S222) ∧ (r221 = v18 → (v19 ≤ (0 : Int32) → wb_L_law_723 xs L post rec105 rec542 (wb_L_law_598 xs L post rec105 rec542 n) (((mc - k213) - k218) - k223) (((ms - n214) - n219) - n224) v1 v3 v4 v5 v6 v7 v8 v9 v13 v14 v15 v16 v18 v19 S222) ∧ (¬ (v19 ≤ (0 : Int32)) → gK S222 v1 = 7 ∧ (∃ k228 n229, k228 ≤ (((mc - k213) - k218) - k223) ∧ n229 ≤ (((ms - n214) - n219) - n224) ∧ (wp_X5_carrier (fun r226 S227 => gK S227 v1 = 7 ∧ (∃ k233 n234, k233 ≤ ((((mc - k213) - k218) - k223) - k228) ∧ n234 ≤ ((((ms - n214) - n219) - n224) - n229) ∧ (wp_X5_there (fun r231 S232 => gK S232 v1 = 7 ∧ (∃ k238 n239, k238 ≤ (((((mc - k213) - k218) - k223) - k228) - k233) ∧ n239 ≤ (((((ms - n214) - n219) - n224) - n229) - n234) ∧ (wp_X5_carrier (fun r236 S237 => (r236 < r226 → wb_L_law_721 xs L post ((((((mc - k213) - k218) - k223) - k228) - k233) - k238) ((((((ms - n214) - n219) - n224) - n229) - n234) - n239) S237) ∧ (¬ (r236 < r226) → gK S237 v1 = 7 ∧ (∃ k243 n244, k243 ≤ ((((((mc - k213) - k218) - k223) - k228) - k233) - k238) ∧ n244 ≤ ((((((ms - n214) - n219) - n224) - n229) - n234) - n239) ∧ (wp_X5_carrier (fun r241 S242 => gK S242 v1 = 7 ∧ (∃ k248 n249, k248 ≤ (((((((mc - k213) - k218) - k223) - k228) - k233) - k238) - k243) ∧ n249 ≤ (((((((ms - n214) - n219) - n224) - n229) - n234) - n239) - n244) ∧ (wp_X5_there (fun r246 S247 => gK S247 v1 = 7 ∧ (∃ k253 n254, k253 ≤ ((((((((mc - k213) - k218) - k223) - k228) - k233) - k238) - k243) - k248) ∧ n254 ≤ ((((((((ms - n214) - n219) - n224) - n229) - n234) - n239) - n244) - n249) ∧ (wp_X5_carrier (fun r251 S252 => (r241 ≠ r251 → wb_L_law_723 xs L post rec105 rec542 (wb_L_law_598 xs L post rec105 rec542 n) (((((((((mc - k213) - k218) - k223) - k228) - k233) - k238) - k243) - k248) - k253) (((((((((ms - n214) - n219) - n224) - n229) - n234) - n239) - n244) - n249) - n254) v1 v3 v4 v5 v6 v7 v8 v9 v13 v14 v15 v16 v18 v19 S252) ∧ (r241 = r251 → gK S252 v1 = 7 ∧ (∃ k258 n259, k258 ≤ (((((((((mc - k213) - k218) - k223) - k228) - k233) - k238) - k243) - k248) - k253) ∧ n259 ≤ (((((((((ms - n214) - n219) - n224) - n229) - n234) - n239) - n244) - n249) - n254) ∧ (wp_X5_carrier (fun r256 S257 => gK S257 v1 = 7 ∧ (∃ k263 n264, k263 ≤ ((((((((((mc - k213) - k218) - k223) - k228) - k233) - k238) - k243) - k248) - k253) - k258) ∧ n264 ≤ ((((((((((ms - n214) - n219) - n224) - n229) - n234) - n239) - n244) - n249) - n254) - n259) ∧ (wp_X5_there (fun r261 S262 => gK S262 v1 = 7 ∧ (∃ k268 n269, k268 ≤ (((((((((((mc - k213) - k218) - k223) - k228) - k233) - k238) - k243) - k248) - k253) - k258) - k263) ∧ n269 ≤ (((((((((((ms - n214) - n219) - n224) - n229) - n234) - n239) - n244) - n249) - n254) - n259) - n264) ∧ (wp_X5_carrier (fun r266 S267 => (r266 ≤ r256 → wb_L_law_723 xs L post rec105 rec542 (wb_L_law_598 xs L post rec105 rec542 n) ((((((((((((mc - k213) - k218) - k223) - k228) - k233) - k238) - k243) - k248) - k253) - k258) - k263) - k268) ((((((((((((ms - n214) - n219) - n224) - n229) - n234) - n239) - n244) - n249) - n254) - n259) - n264) - n269) v1 v3 v4 v5 v6 v7 v8 v9 v13 v14 v15 v16 v18 v19 S267) ∧ (¬ (r266 ≤ r256) → wb_L_law_721 xs L post ((((((((((((mc - k213) - k218) - k223) - k228) - k233) - k238) - k243) - k248) - k253) - k258) - k263) - k268) ((((((((((((ms - n214) - n219) - n224) - n229) - n234) - n239) - n244) - n249) - n254) - n259) - n264) - n269) S267)) (fun _ _ => False) k268 n269 v1 r261 (5 : Int32) S262))) (fun _ _ => False) k263 n264 v1 v18 (v19 - (1 : Int32)) S257))) (fun _ _ => False) k258 n259 v1 r211 (5 : Int32) S252)))) (fun _ _ => False) k253 n254 v1 r246 (3 : Int32) S247))) (fun _ _ => False) k248 n249 v1 v18 (v19 - (1 : Int32)) S242))) (fun _ _ => False) k243 n244 v1 r211 (3 : Int32) S237)))) (fun _ _ => False) k238 n239 v1 r231 (3 : Int32) S232))) (fun _ _ => False) k233 n234 v1 v18 (v19 - (1 : Int32)) S227))) (fun _ _ => False) k228 n229 v1 r211 (3 : Int32) S222))))) (fun _ _ => False) k223 n224 v1 r211 (1 : Int32) S217)))) (fun _ _ => False) k218 n219 v1 r211 (0 : Int32) S212))) (fun _ _ => False) k213 n214 v1 v18 v19 S)))))
def wb_L_law_542 (xs : Nat → Int32) (L : Nat) (post : Int32 → bS → Prop) (rec105 : Nat → Nat → Nat → Int32 → Int32 → Nat → Nat → Int32 → Int32 → Int32 → bS → Prop) : Nat → Nat → Nat → Nat → Int32 → Int32 → Nat → Nat → Int32 → Int32 → Int32 → Nat → Nat → Nat → Int32 → Int32 → bS → Prop
  | 0, _, _, _, _, _, _, _, _, _, _, _, _, _, _, _, _ => False
  | n + 1, mc, ms, v1, v3, v4, v5, v6, v7, v8, v9, v13, v14, v15, v16, v18, S => (v3 ≤ v18 → ∃ n741, wb_L_law_741 xs L post rec105 n741 mc ms v1 v3 v4 v5 v6 v7 v8 v9 v14 v16 (0 : Int32) (0 : Int32) S) ∧ (¬ (v3 ≤ v18) → gK S v1 = 7 ∧ (∃ k191 n192, k191 ≤ mc ∧ n192 ≤ ms ∧ (wp_X5_station (fun r189 S190 => gK S190 v13 = 9 ∧ (vp_in v18 (gN S190 v13) ∧ ((r189 ≠ (gV S190 9 v13 (Int32.toNatClampNeg v18)) → wb_L_law_593 xs L post (mc - k191) (ms - n192) S190) ∧ (r189 = (gV S190 9 v13 (Int32.toNatClampNeg v18)) → vp_in v18 (gN S190 v13) ∧ (gK S190 v1 = 7 ∧ (∃ k199 n200, k199 ≤ (mc - k191) ∧ n200 ≤ (ms - n192) ∧ (wp_X5_station (fun r197 S198 => (r197 < (gV S190 9 v13 (Int32.toNatClampNeg v18)) → wb_L_law_593 xs L post ((mc - k191) - k199) ((ms - n192) - n200) S198) ∧ (¬ (r197 < (gV S190 9 v13 (Int32.toNatClampNeg v18))) → gK S198 v1 = 7 ∧ (∃ k204 n205, k204 ≤ ((mc - k191) - k199) ∧ n205 ≤ ((ms - n192) - n200) ∧ (wp_X5_station (fun r202 S203 => gK S203 v15 = 9 ∧ (vp_in v18 (gN S203 v15) ∧ ((r202 = (gV S203 9 v15 (Int32.toNatClampNeg v18)) → ∃ n598, wb_L_law_598 xs L post rec105 (wb_L_law_542 xs L post rec105 n) n598 (((mc - k191) - k199) - k204) (((ms - n192) - n200) - n205) v1 v3 v4 v5 v6 v7 v8 v9 v13 v14 v15 v16 v18 (0 : Int32) S203) ∧ (¬ (r202 = (gV S203 9 v15 (Int32.toNatClampNeg v18))) → wb_L_law_593 xs L post (((mc - k191) - k199) - k204) (((ms - n192) - n200) - n205) S203)))) (fun _ _ => False) k204 n205 v1 v18 (5 : Int32) S198)))) (fun _ _ => False) k199 n200 v1 v18 (0 : Int32) S190))))))) (fun _ _ => False) k191 n192 v1 v18 (4 : Int32) S)))
def wb_L_law_533 (xs : Nat → Int32) (L : Nat) (post : Int32 → bS → Prop) (rec105 : Nat → Nat → Nat → Int32 → Int32 → Nat → Nat → Int32 → Int32 → Int32 → bS → Prop) (rec309 : Nat → Nat → Nat → Int32 → Int32 → Nat → Nat → Int32 → Int32 → Int32 → Nat → Nat → Nat → Int32 → Nat → Int32 → bS → Prop) (mc ms : Nat) (v1 : Nat) (v3 : Int32) (v4 : Int32) (v5 : Nat) (v6 : Nat) (v7 : Int32) (v8 : Int32) (v9 : Int32) (v13 : Nat) (v14 : Nat) (v15 : Nat) (v16 : Int32) (v17 : Nat) (v18 : Int32) (S : bS) : Prop := rec309 mc ms v1 v3 v4 v5 v6 v7 v8 v9 v13 v14 v15 v16 v17 (v18 + (1 : Int32)) S
def wb_L_law_442 (xs : Nat → Int32) (L : Nat) (post : Int32 → bS → Prop) (rec105 : Nat → Nat → Nat → Int32 → Int32 → Nat → Nat → Int32 → Int32 → Int32 → bS → Prop) (rec309 : Nat → Nat → Nat → Int32 → Int32 → Nat → Nat → Int32 → Int32 → Int32 → Nat → Nat → Nat → Int32 → Nat → Int32 → bS → Prop) (mc ms : Nat) (v1 : Nat) (v3 : Int32) (v4 : Int32) (v5 : Nat) (v6 : Nat) (v7 : Int32) (v8 : Int32) (v9 : Int32) (v13 : Nat) (v14 : Nat) (v15 : Nat) (v16 : Int32) (v17 : Nat) (v18 : Int32) (v19 : Int32) (v20 : Int32) (v21 : Int32) (S : bS) : Prop := ((3 : Int32) ≤ v19 → gK S v15 = 9 ∧ (vp_in v20 (gN S v15) ∧ (vp_in v20 (gN S v15) ∧ (gK (sV S 9 v15 (Int32.toNatClampNeg v20) ((gV S 9 v15 (Int32.toNatClampNeg v20)) + (1 : Int32))) v1 = 7 ∧ (∃ k161 n162, k161 ≤ mc ∧ n162 ≤ ms ∧ (wp_X5_carrier (fun r159 S160 => gK S160 v6 = 9 ∧ (vp_in v18 (gN S160 v6) ∧ (gK S160 v5 = 12 ∧ (vp_in (gV S160 9 v6 (Int32.toNatClampNeg v18)) (gN S160 v5) ∧ (∃ b167, gQ S160 12 v5 (Int32.toNatClampNeg (gV S160 9 v6 (Int32.toNatClampNeg v18))) = some b167 ∧ (gK S160 b167 = 9 ∧ (vp_in v20 (gN S160 b167) ∧ (gK S160 v1 = 7 ∧ (∃ k174 n175, k174 ≤ (mc - k161) ∧ n175 ≤ (ms - n162) ∧ (wp_X5_carrier (fun r172 S173 => (v20 ≠ r172 → wb_L_law_531 xs L post ((mc - k161) - k174) ((ms - n162) - n175) S173) ∧ (v20 = r172 → ((gV S160 9 b167 (Int32.toNatClampNeg v20)) < (0 : Int32) → wb_L_law_531 xs L post ((mc - k161) - k174) ((ms - n162) - n175) S173) ∧ (¬ ((gV S160 9 b167 (Int32.toNatClampNeg v20)) < (0 : Int32)) → gK S173 v1 = 7 ∧ (∃ k179 n180, k179 ≤ ((mc - k161) - k174) ∧ n180 ≤ ((ms - n162) - n175) ∧ (wp_X5_carrier (fun r177 S178 => gK S178 v6 = 9 ∧ (vp_in v18 (gN S178 v6) ∧ (gK S178 v1 = 7 ∧ (∃ k186 n187, k186 ≤ (((mc - k161) - k174) - k179) ∧ n187 ≤ (((ms - n162) - n175) - n180) ∧ (wp_X5_station (fun r184 S185 => (((gV S160 9 b167 (Int32.toNatClampNeg v20)) + r184) ≤ (v21 - r177) → wb_L_law_533 xs L post rec105 rec309 ((((mc - k161) - k174) - k179) - k186) ((((ms - n162) - n175) - n180) - n187) v1 v3 v4 v5 v6 v7 v8 v9 v13 v14 v15 (v16 + (v21 - r159)) v17 v18 S185) ∧ (¬ (((gV S160 9 b167 (Int32.toNatClampNeg v20)) + r184) ≤ (v21 - r177)) → wb_L_law_531 xs L post ((((mc - k161) - k174) - k179) - k186) ((((ms - n162) - n175) - n180) - n187) S185)) (fun _ _ => False) k186 n187 v1 (gV S178 9 v6 (Int32.toNatClampNeg v18)) (1 : Int32) S178))))) (fun _ _ => False) k179 n180 v1 v18 (4 : Int32) S173))))) (fun _ _ => False) k174 n175 v1 v18 (2 : Int32) S160)))))))))) (fun _ _ => False) k161 n162 v1 v18 (4 : Int32) (sV S 9 v15 (Int32.toNatClampNeg v20) ((gV S 9 v15 (Int32.toNatClampNeg v20)) + (1 : Int32))))))))) ∧ (¬ ((3 : Int32) ≤ v19) → wb_L_law_533 xs L post rec105 rec309 mc ms v1 v3 v4 v5 v6 v7 v8 v9 v13 v14 v15 v16 v17 v18 S)
def wb_L_law_391 (xs : Nat → Int32) (L : Nat) (post : Int32 → bS → Prop) (rec105 : Nat → Nat → Nat → Int32 → Int32 → Nat → Nat → Int32 → Int32 → Int32 → bS → Prop) (rec309 : Nat → Nat → Nat → Int32 → Int32 → Nat → Nat → Int32 → Int32 → Int32 → Nat → Nat → Nat → Int32 → Nat → Int32 → bS → Prop) (mc ms : Nat) (v1 : Nat) (v3 : Int32) (v4 : Int32) (v5 : Nat) (v6 : Nat) (v7 : Int32) (v8 : Int32) (v9 : Int32) (v13 : Nat) (v14 : Nat) (v15 : Nat) (v16 : Int32) (v17 : Nat) (v18 : Int32) (v19 : Int32) (v20 : Int32) (v21 : Int32) (S : bS) : Prop := (v19 ≠ (2 : Int32) → wb_L_law_442 xs L post rec105 rec309 mc ms v1 v3 v4 v5 v6 v7 v8 v9 v13 v14 v15 v16 v17 v18 v19 v20 v21 S) ∧ (v19 = (2 : Int32) → gK S v14 = 9 ∧ (vp_in v20 (gN S v14) ∧ (vp_in v20 (gN S v14) ∧ (gK (sV S 9 v14 (Int32.toNatClampNeg v20) ((gV S 9 v14 (Int32.toNatClampNeg v20)) + (1 : Int32))) v17 = 17 ∧ (vp_in v20 (gN (sV S 9 v14 (Int32.toNatClampNeg v20) ((gV S 9 v14 (Int32.toNatClampNeg v20)) + (1 : Int32))) v17) ∧ (∃ b141, gQ (sV S 9 v14 (Int32.toNatClampNeg v20) ((gV S 9 v14 (Int32.toNatClampNeg v20)) + (1 : Int32))) 17 v17 (Int32.toNatClampNeg v20) = some b141 ∧ (gK (sV S 9 v14 (Int32.toNatClampNeg v20) ((gV S 9 v14 (Int32.toNatClampNeg v20)) + (1 : Int32))) b141 = 10 ∧ (vp_in v21 (gN (sV S 9 v14 (Int32.toNatClampNeg v20) ((gV S 9 v14 (Int32.toNatClampNeg v20)) + (1 : Int32))) b141) ∧ (((gV (sV S 9 v14 (Int32.toNatClampNeg v20) ((gV S 9 v14 (Int32.toNatClampNeg v20)) + (1 : Int32))) 10 b141 (Int32.toNatClampNeg v21)) = (0 : Int32) → vp_in v20 (gN (sV S 9 v14 (Int32.toNatClampNeg v20) ((gV S 9 v14 (Int32.toNatClampNeg v20)) + (1 : Int32))) v17) ∧ (∃ b146, gQ (sV S 9 v14 (Int32.toNatClampNeg v20) ((gV S 9 v14 (Int32.toNatClampNeg v20)) + (1 : Int32))) 17 v17 (Int32.toNatClampNeg v20) = some b146 ∧ (gK (sV S 9 v14 (Int32.toNatClampNeg v20) ((gV S 9 v14 (Int32.toNatClampNeg v20)) + (1 : Int32))) b146 = 10 ∧ (vp_in v21 (gN (sV S 9 v14 (Int32.toNatClampNeg v20) ((gV S 9 v14 (Int32.toNatClampNeg v20)) + (1 : Int32))) b146) ∧ (gK (sV (sV S 9 v14 (Int32.toNatClampNeg v20) ((gV S 9 v14 (Int32.toNatClampNeg v20)) + (1 : Int32))) 10 b146 (Int32.toNatClampNeg v21) (vp_nar .boolean (1 : Int32))) v1 = 7 ∧ (∃ k153 n154, k153 ≤ mc ∧ n154 ≤ ms ∧ (wp_X5_carrier (fun r151 S152 => ((1 : Int32) ≤ r151 → wb_L_law_442 xs L post rec105 rec309 (mc - k153) (ms - n154) v1 v3 v4 v5 v6 v7 v8 v9 v13 v14 v15 v16 v17 v18 v19 v20 v21 S152) ∧ (¬ ((1 : Int32) ≤ r151) → post (0 : Int32) S152)) (fun _ _ => False) k153 n154 v1 v18 (6 : Int32) (sV (sV S 9 v14 (Int32.toNatClampNeg v20) ((gV S 9 v14 (Int32.toNatClampNeg v20)) + (1 : Int32))) 10 b146 (Int32.toNatClampNeg v21) (vp_nar .boolean (1 : Int32)))))))))) ∧ (¬ ((gV (sV S 9 v14 (Int32.toNatClampNeg v20) ((gV S 9 v14 (Int32.toNatClampNeg v20)) + (1 : Int32))) 10 b141 (Int32.toNatClampNeg v21)) = (0 : Int32)) → post (0 : Int32) (sV S 9 v14 (Int32.toNatClampNeg v20) ((gV S 9 v14 (Int32.toNatClampNeg v20)) + (1 : Int32)))))))))))))
def wb_L_law_309 (xs : Nat → Int32) (L : Nat) (post : Int32 → bS → Prop) (rec105 : Nat → Nat → Nat → Int32 → Int32 → Nat → Nat → Int32 → Int32 → Int32 → bS → Prop) : Nat → Nat → Nat → Nat → Int32 → Int32 → Nat → Nat → Int32 → Int32 → Int32 → Nat → Nat → Nat → Int32 → Nat → Int32 → bS → Prop
  | 0, _, _, _, _, _, _, _, _, _, _, _, _, _, _, _, _, _ => False
  | n + 1, mc, ms, v1, v3, v4, v5, v6, v7, v8, v9, v13, v14, v15, v16, v17, v18, S => (v7 ≤ v18 → ∃ n542, wb_L_law_542 xs L post rec105 n542 mc ms v1 v3 v4 v5 v6 v7 v8 v9 v13 v14 v15 v16 (0 : Int32) S) ∧ (¬ (v7 ≤ v18) → gK S v1 = 7 ∧ (∃ k116 n117, k116 ≤ mc ∧ n117 ≤ ms ∧ (wp_X5_carrier (fun r114 S115 => gK S115 v1 = 7 ∧ (∃ k121 n122, k121 ≤ (mc - k116) ∧ n122 ≤ (ms - n117) ∧ (wp_X5_carrier (fun r119 S120 => gK S120 v1 = 7 ∧ (∃ k126 n127, k126 ≤ ((mc - k116) - k121) ∧ n127 ≤ ((ms - n117) - n122) ∧ (wp_X5_carrier (fun r124 S125 => (r114 < (1 : Int32) → wb_L_law_374 xs L post (((mc - k116) - k121) - k126) (((ms - n117) - n122) - n127) S125) ∧ (¬ (r114 < (1 : Int32)) → ((3 : Int32) < r114 → wb_L_law_374 xs L post (((mc - k116) - k121) - k126) (((ms - n117) - n122) - n127) S125) ∧ (¬ ((3 : Int32) < r114) → gK S125 v1 = 7 ∧ (∃ k131 n132, k131 ≤ (((mc - k116) - k121) - k126) ∧ n132 ≤ (((ms - n117) - n122) - n127) ∧ (wp_X5_carrier (fun r129 S130 => (r124 < r129 → wb_L_law_374 xs L post ((((mc - k116) - k121) - k126) - k131) ((((ms - n117) - n122) - n127) - n132) S130) ∧ (¬ (r124 < r129) → (r124 ≤ v9 → (r114 ≠ (1 : Int32) → wb_L_law_391 xs L post rec105 (wb_L_law_309 xs L post rec105 n) ((((mc - k116) - k121) - k126) - k131) ((((ms - n117) - n122) - n127) - n132) v1 v3 v4 v5 v6 v7 v8 v9 v13 v14 v15 v16 v17 v18 r114 r119 r124 S130) ∧ (r114 = (1 : Int32) → gK S130 v13 = 9 ∧ (vp_in r119 (gN S130 v13) ∧ (vp_in r119 (gN S130 v13) ∧ (wb_L_law_391 xs L post rec105 (wb_L_law_309 xs L post rec105 n) ((((mc - k116) - k121) - k126) - k131) ((((ms - n117) - n122) - n127) - n132) v1 v3 v4 v5 v6 v7 v8 v9 v13 v14 v15 v16 v17 v18 r114 r119 r124 (sV S130 9 v13 (Int32.toNatClampNeg r119) ((gV S130 9 v13 (Int32.toNatClampNeg r119)) + (1 : Int32)))))))) ∧ (¬ (r124 ≤ v9) → wb_L_law_374 xs L post ((((mc - k116) - k121) - k126) - k131) ((((ms - n117) - n122) - n127) - n132) S130))) (fun _ _ => False) k131 n132 v1 v18 (4 : Int32) S125))))) (fun _ _ => False) k126 n127 v1 v18 (5 : Int32) S120))) (fun _ _ => False) k121 n122 v1 v18 (1 : Int32) S115))) (fun _ _ => False) k116 n117 v1 v18 (0 : Int32) S)))
def wb_L_law_219 (xs : Nat → Int32) (L : Nat) (post : Int32 → bS → Prop) (rec105 : Nat → Nat → Nat → Int32 → Int32 → Nat → Nat → Int32 → Int32 → Int32 → bS → Prop) (mc ms : Nat) (v1 : Nat) (v3 : Int32) (v4 : Int32) (v5 : Nat) (v6 : Nat) (v7 : Int32) (v8 : Int32) (v9 : Int32) (S : bS) : Prop := gK S v1 = 7 ∧ (∃ k73 n74, k73 ≤ mc ∧ n74 ≤ ms ∧ (wp_X5_run (fun r71 S72 => gK S72 v1 = 7 ∧ (∃ k78 n79, k78 ≤ (mc - k73) ∧ n79 ≤ (ms - n74) ∧ (wp_X5_count (fun r76 S77 => (r76 ≠ v9 → wb_L_law_273 xs L post ((mc - k73) - k78) ((ms - n74) - n79) S77) ∧ (r76 = v9 → gK S77 v1 = 7 ∧ (∃ k83 n84, k83 ≤ ((mc - k73) - k78) ∧ n84 ≤ ((ms - n74) - n79) ∧ (wp_X5_count (fun r81 S82 => (r81 ≠ v7 → wb_L_law_273 xs L post (((mc - k73) - k78) - k83) (((ms - n74) - n79) - n84) S82) ∧ (r81 = v7 → gK S82 v1 = 7 ∧ (∃ k88 n89, k88 ≤ (((mc - k73) - k78) - k83) ∧ n89 ≤ (((ms - n74) - n79) - n84) ∧ (wp_X5_count (fun r86 S87 => (r86 ≠ (v8 + r71) → wb_L_law_273 xs L post ((((mc - k73) - k78) - k83) - k88) ((((ms - n74) - n79) - n84) - n89) S87) ∧ (r86 = (v8 + r71) → gK S87 v1 = 7 ∧ (∃ k93 n94, k93 ≤ ((((mc - k73) - k78) - k83) - k88) ∧ n94 ≤ ((((ms - n74) - n79) - n84) - n89) ∧ (wp_X5_count (fun r91 S92 => (r91 = (v7 - (v8 + r71)) → ¬ v3 < 0 ∧ (Int32.toNatClampNeg v3) * 4 ≤ 536870912 ∧ 1 ≤ (((((mc - k73) - k78) - k83) - k88) - k93) ∧ (Int32.toNatClampNeg v3) ≤ (((((ms - n74) - n79) - n84) - n89) - n94) ∧ (∀ q95, gK S92 q95 = 0 → (¬ v4 < 0 ∧ (Int32.toNatClampNeg v4) * 4 ≤ 536870912 ∧ 1 ≤ ((((((mc - k73) - k78) - k83) - k88) - k93) - 1) ∧ (Int32.toNatClampNeg v4) ≤ ((((((ms - n74) - n79) - n84) - n89) - n94) - (Int32.toNatClampNeg v3)) ∧ (∀ q98, gK (sNew S92 q95 9 (Int32.toNatClampNeg v3)) q98 = 0 → (¬ v3 < 0 ∧ (Int32.toNatClampNeg v3) * 4 ≤ 536870912 ∧ 1 ≤ (((((((mc - k73) - k78) - k83) - k88) - k93) - 1) - 1) ∧ (Int32.toNatClampNeg v3) ≤ (((((((ms - n74) - n79) - n84) - n89) - n94) - (Int32.toNatClampNeg v3)) - (Int32.toNatClampNeg v4)) ∧ (∀ q102, gK (sNew (sNew S92 q95 9 (Int32.toNatClampNeg v3)) q98 9 (Int32.toNatClampNeg v4)) q102 = 0 → (¬ v4 < 0 ∧ ¬ (v9 + (1 : Int32)) < 0 ∧ (Int32.toNatClampNeg v4) * 4 ≤ 536870912 ∧ (Int32.toNatClampNeg (v9 + (1 : Int32))) * 1 ≤ 536870912 ∧ (1 + (Int32.toNatClampNeg v4)) ≤ ((((((((mc - k73) - k78) - k83) - k88) - k93) - 1) - 1) - 1) ∧ ((Int32.toNatClampNeg v4) + (Int32.toNatClampNeg v4) * (Int32.toNatClampNeg (v9 + (1 : Int32)))) ≤ ((((((((ms - n74) - n79) - n84) - n89) - n94) - (Int32.toNatClampNeg v3)) - (Int32.toNatClampNeg v4)) - (Int32.toNatClampNeg v3)) ∧ (∀ (q107 : Nat) (r108 : Nat → Nat), gK (sNew (sNew (sNew S92 q95 9 (Int32.toNatClampNeg v3)) q98 9 (Int32.toNatClampNeg v4)) q102 9 (Int32.toNatClampNeg v3)) q107 = 0 → (∀ i, i < (Int32.toNatClampNeg v4) → gK (sNew (sNew (sNew S92 q95 9 (Int32.toNatClampNeg v3)) q98 9 (Int32.toNatClampNeg v4)) q102 9 (Int32.toNatClampNeg v3)) (r108 i) = 0 ∧ r108 i ≠ q107) → (∀ i j : Nat, i < (Int32.toNatClampNeg v4) → j < (Int32.toNatClampNeg v4) → r108 i = r108 j → i = j) → (∃ n309, wb_L_law_309 xs L post rec105 n309 (((((((((mc - k73) - k78) - k83) - k88) - k93) - 1) - 1) - 1) - (1 + (Int32.toNatClampNeg v4))) (((((((((ms - n74) - n79) - n84) - n89) - n94) - (Int32.toNatClampNeg v3)) - (Int32.toNatClampNeg v4)) - (Int32.toNatClampNeg v3)) - ((Int32.toNatClampNeg v4) + (Int32.toNatClampNeg v4) * (Int32.toNatClampNeg (v9 + (1 : Int32))))) v1 v3 v4 v5 v6 v7 (v8 + r71) v9 q95 q98 q102 (0 : Int32) q107 (0 : Int32) (sMn 17 10 (sNew (sNew (sNew S92 q95 9 (Int32.toNatClampNeg v3)) q98 9 (Int32.toNatClampNeg v4)) q102 9 (Int32.toNatClampNeg v3)) q107 r108 (Int32.toNatClampNeg v4) (Int32.toNatClampNeg (v9 + (1 : Int32))))))))))))) ∧ (¬ (r91 = (v7 - (v8 + r71))) → wb_L_law_273 xs L post (((((mc - k73) - k78) - k83) - k88) - k93) (((((ms - n74) - n79) - n84) - n89) - n94) S92)) (fun _ _ => False) k93 n94 v1 (5 : Int32) S87)))) (fun _ _ => False) k88 n89 v1 (6 : Int32) S82)))) (fun _ _ => False) k83 n84 v1 (4 : Int32) S77)))) (fun _ _ => False) k78 n79 v1 (0 : Int32) S72))) (fun _ _ => False) k73 n74 v1 (1 : Int32) S))
def wb_L_law_105 (xs : Nat → Int32) (L : Nat) (post : Int32 → bS → Prop) : Nat → Nat → Nat → Nat → Int32 → Int32 → Nat → Nat → Int32 → Int32 → Int32 → bS → Prop
  | 0, _, _, _, _, _, _, _, _, _, _, _ => False
  | n + 1, mc, ms, v1, v3, v4, v5, v6, v7, v8, v9, S => ((60 : Int32) < v9 → post (1 : Int32) S) ∧ (¬ ((60 : Int32) < v9) → ¬ (16 : Int32) = 0 ∧ (wp_L_cell xs L (fun r40 S41 => ¬ (16 : Int32) = 0 ∧ (wp_L_below (fun r42 S43 => wp_L_below (fun r44 S45 => (r42 = r44 → wb_L_law_219 xs L post (wb_L_law_105 xs L post n) mc ms v1 v3 v4 v5 v6 v7 v8 v9 S45) ∧ (¬ (r42 = r44) → gK S45 v1 = 7 ∧ (∃ k49 n50, k49 ≤ mc ∧ n50 ≤ ms ∧ (wp_X5_station (fun r47 S48 => gK S48 v1 = 7 ∧ (∃ k54 n55, k54 ≤ (mc - k49) ∧ n55 ≤ (ms - n50) ∧ (wp_X5_station (fun r52 S53 => (r52 ≤ r47 → wb_L_law_219 xs L post (wb_L_law_105 xs L post n) ((mc - k49) - k54) ((ms - n50) - n55) v1 v3 v4 v5 v6 v7 v8 v9 S53) ∧ (¬ (r52 ≤ r47) → gK S53 v1 = 7 ∧ (∃ k59 n60, k59 ≤ ((mc - k49) - k54) ∧ n60 ≤ ((ms - n50) - n55) ∧ (wp_X5_count (fun r57 S58 => ((40 : Int32) ≤ r57 → wb_L_law_219 xs L post (wb_L_law_105 xs L post n) (((mc - k49) - k54) - k59) (((ms - n50) - n55) - n60) v1 v3 v4 v5 v6 v7 v8 v9 S58) ∧ (¬ ((40 : Int32) ≤ r57) → wp_L_below (fun r61 S62 => gK S62 v1 = 7 ∧ (∃ k66 n67, k66 ≤ (((mc - k49) - k54) - k59) ∧ n67 ≤ (((ms - n50) - n55) - n60) ∧ (wp_X5_send (fun r64 S65 => (r64 = v7 → gK S65 v6 = 9 ∧ (vp_in v7 (gN S65 v6) ∧ (wb_L_law_219 xs L post (wb_L_law_105 xs L post n) ((((mc - k49) - k54) - k59) - k66) ((((ms - n50) - n55) - n60) - n67) v1 v3 v4 v5 v6 (v7 + (1 : Int32)) v8 v9 (sV S65 9 v6 (Int32.toNatClampNeg v7) r42)))) ∧ (¬ (r64 = v7) → post (0 : Int32) S65)) (fun _ _ => False) k66 n67 v1 r42 r44 r61 S62))) (((r40 >>> (((v9 / (16 : Int32)) * (3 : Int32)) &&& 31)) + v9) >>> ((5 : Int32) &&& 31)) (4 : Int32) S58)) (fun _ _ => False) k59 n60 v1 (5 : Int32) S53)))) (fun _ _ => False) k54 n55 v1 r42 (0 : Int32) S48))) (fun _ _ => False) k49 n50 v1 r42 (4 : Int32) S45)))) (((r40 >>> (((v9 / (16 : Int32)) * (3 : Int32)) &&& 31)) + v9) >>> ((3 : Int32) &&& 31)) v3 S43) ((r40 >>> (((v9 / (16 : Int32)) * (3 : Int32)) &&& 31)) + v9) v3 S41)) (v9 - v9 / (16 : Int32) * (16 : Int32)) S))
def wb_L_law_55 (xs : Nat → Int32) (L : Nat) (post : Int32 → bS → Prop) (rec46 : Nat → Nat → Nat → Int32 → Int32 → Nat → Int32 → bS → Prop) : Nat → Nat → Nat → Nat → Int32 → Int32 → Nat → Int32 → Int32 → bS → Prop
  | 0, _, _, _, _, _, _, _, _, _ => False
  | n + 1, mc, ms, v1, v3, v4, v5, v6, v7, S => (v3 ≤ v7 → rec46 mc ms v1 v3 v4 v5 (v6 + (1 : Int32)) S) ∧ (¬ (v3 ≤ v7) → gK S v5 = 12 ∧ (vp_in v6 (gN S v5) ∧ (∃ b31, gQ S 12 v5 (Int32.toNatClampNeg v6) = some b31 ∧ (gK S v1 = 7 ∧ (∃ k36 n37, k36 ≤ mc ∧ n37 ≤ ms ∧ (wp_X5_time (fun r34 S35 => gK S35 b31 = 9 ∧ (vp_in v7 (gN S35 b31) ∧ ((wb_L_law_55 xs L post rec46 n) (mc - k36) (ms - n37) v1 v3 v4 v5 v6 (v7 + (1 : Int32)) (sV S35 9 b31 (Int32.toNatClampNeg v7) r34)))) (fun _ _ => False) k36 n37 v1 v6 v7 S))))))
def wb_L_law_46 (xs : Nat → Int32) (L : Nat) (post : Int32 → bS → Prop) : Nat → Nat → Nat → Nat → Int32 → Int32 → Nat → Int32 → bS → Prop
  | 0, _, _, _, _, _, _, _, _ => False
  | n + 1, mc, ms, v1, v3, v4, v5, v6, S => (v3 ≤ v6 → ¬ (500 : Int32) < 0 ∧ (Int32.toNatClampNeg (500 : Int32)) * 4 ≤ 536870912 ∧ 1 ≤ mc ∧ (Int32.toNatClampNeg (500 : Int32)) ≤ ms ∧ (∀ q26, gK S q26 = 0 → (∃ n105, wb_L_law_105 xs L post n105 (mc - 1) (ms - (Int32.toNatClampNeg (500 : Int32))) v1 v3 v4 v5 q26 (0 : Int32) (0 : Int32) (1 : Int32) (sNew S q26 9 (Int32.toNatClampNeg (500 : Int32)))))) ∧ (¬ (v3 ≤ v6) → ∃ n55, wb_L_law_55 xs L post (wb_L_law_46 xs L post n) n55 mc ms v1 v3 v4 v5 v6 (0 : Int32) S)
def wp_L_law (xs : Nat → Int32) (L : Nat) (post : Int32 → bS → Prop) (MC MS : Nat) (p1 : Nat) (S : bS) : Prop := 1 ≤ MC ∧ 6 ≤ MS ∧ (∀ q1, gK S q1 = 0 → (∃ k6 n7, k6 ≤ (MC - 1) ∧ n7 ≤ (MS - 6) ∧ (wp_X5_init (fun S5 => ∃ k10 n11, k10 ≤ ((MC - 1) - k6) ∧ n11 ≤ ((MS - 6) - n7) ∧ (wp_L_build xs L (fun r8 S9 => (r8 = none → post (0 : Int32) S9) ∧ (∀ b12, r8 = some b12 → gK S9 b12 = 8 ∧ (∃ b14, gQ S9 8 b12 1 = some b14 ∧ (gK S9 b14 = 12 ∧ (∃ b17, gQ S9 8 b12 2 = some b17 ∧ (gK S9 b17 = 12 ∧ (¬ (Int32.ofNat (gN S9 b14)) < 0 ∧ ¬ (Int32.ofNat (gN S9 b14)) < 0 ∧ (Int32.toNatClampNeg (Int32.ofNat (gN S9 b14))) * 4 ≤ 536870912 ∧ (Int32.toNatClampNeg (Int32.ofNat (gN S9 b14))) * 4 ≤ 536870912 ∧ (1 + (Int32.toNatClampNeg (Int32.ofNat (gN S9 b14)))) ≤ (((MC - 1) - k6) - k10) ∧ ((Int32.toNatClampNeg (Int32.ofNat (gN S9 b14))) + (Int32.toNatClampNeg (Int32.ofNat (gN S9 b14))) * (Int32.toNatClampNeg (Int32.ofNat (gN S9 b14)))) ≤ (((MS - 6) - n7) - n11) ∧ (∀ (q20 : Nat) (r21 : Nat → Nat), gK S9 q20 = 0 → (∀ i, i < (Int32.toNatClampNeg (Int32.ofNat (gN S9 b14))) → gK S9 (r21 i) = 0 ∧ r21 i ≠ q20) → (∀ i j : Nat, i < (Int32.toNatClampNeg (Int32.ofNat (gN S9 b14))) → j < (Int32.toNatClampNeg (Int32.ofNat (gN S9 b14))) → r21 i = r21 j → i = j) → (∃ n46, wb_L_law_46 xs L post n46 ((((MC - 1) - k6) - k10) - (1 + (Int32.toNatClampNeg (Int32.ofNat (gN S9 b14))))) ((((MS - 6) - n7) - n11) - ((Int32.toNatClampNeg (Int32.ofNat (gN S9 b14))) + (Int32.toNatClampNeg (Int32.ofNat (gN S9 b14))) * (Int32.toNatClampNeg (Int32.ofNat (gN S9 b14))))) q1 (Int32.ofNat (gN S9 b14)) (Int32.ofNat (gN S9 b17)) q20 (0 : Int32) (sMn 12 9 S9 q20 r21 (Int32.toNatClampNeg (Int32.ofNat (gN S9 b14))) (Int32.toNatClampNeg (Int32.ofNat (gN S9 b14))))))))))))) k10 n11 q1 (7 : Int32) S5)) k6 n7 q1 (sNew S q1 7 0))))
set_option maxHeartbeats 40000000 in
set_option maxRecDepth 100000 in
theorem m_L_law {p : Program} {e : Env} {s : State} {m : MethodId} {below : List Frame} {meth : Method} {c : Code} {l : Launch} {D : va_G} {y : Nat → ClassId} {z : Nat} {A : Nat → Prop} {S : bS} {post : Int32 → bS → Prop} {p1 L : Nat} {xs : Nat → Int32} (hl0 : l.stackTraces = false) (hx : p.tables.exec = Jvm.exec) (hb : c.code = code) (hr : meth.sig.returnType = ret) (hml : c.maxLocals = 23) (hlocks : meth.locks = false) (hB0 : ∀ d : Drawn, bP D y z S A (s.setDrawn d)) (hAe : ∀ q : Nat, A q → s.heap.size ≤ q) (hbA : ¬ A p1) (hbl : p1 < s.heap.size) (hX0 : ∀ d : Drawn, va_X p1 L xs (s.setDrawn d) s.heap) (hts0 : ∀ w ∈ wsL_law, w.before #[Value.ref p1] s = true) (hown0 : s.vm.findClass RL = some m.cls) (hpost : ∀ v S, post v S → v = 1) (h : wp_L_law xs L post 600086 7301442 p1 S) : W p l e room_1 s m #[Value.ref p1] below meth c s.heap [] 0 0 (lw_Z below #[Value.ref p1] s) (entryFrame m ([Value.ref p1] : List Value).toArray 23) := by
  have hd0 := Drawn.sameBut.refl s.drawn lw_cs
  refine W.base ?_
  have hB1 := hB0 s.drawn
  have hw : wd D y z S A s.heap := hB1.1
  have hAn : ∀ q : Nat, s.heap.size ≤ q → A q := hB1.2.2.2.1
  have hAz : ¬ A z := hB1.2.2.2.2.1
  have hS : va_S A s.heap s.heap [] := va_S.rf
  have hiX5 : ∀ w ∈ u_ws RX5 TX5 6, w ∈ wsL_law := inlX5
  have hiX7 : ∀ w ∈ u_ws RX7 TX7 10, w ∈ wsL_law := inlX7
  have hl := lv_entry ([Value.ref p1]) (n := 23) (Nat.le_of_ble_eq_true rfl)
  rw [lg_entry_eq]
  generalize (lg_sl ([Value.ref p1]) ++ List.replicate (23 - (lg_sl ([Value.ref p1])).length) Slot.unset).toArray = ls at hl ⊢
  have hl : lv_has ls 23 [(0, .ref p1)] := hl
  obtain ⟨Q, hQ⟩ : ∃ Q, Q = lw_Z below #[Value.ref p1] s := ⟨_, rfl⟩
  rw [← hQ]
  have hRf : 11 ≤ room_1.frames := Nat.le_of_ble_eq_true rfl
  have hRl : 478 ≤ room_1.locals := Nat.le_of_ble_eq_true rfl
  obtain ⟨MC, hMC⟩ : ∃ z : Nat, z = 600086 := ⟨_, rfl⟩
  obtain ⟨MS, hMS⟩ : ∃ z : Nat, z = 7301442 := ⟨_, rfl⟩
  rw [← hMC, ← hMS] at h
  have hRc : room_1.cells = MC := hMC.symm
  have hRs : room_1.slots = MS := hMS.symm
  have hret : ∀ (v : Int32) (S : bS) (H : Heap) (locs : List Loc) (pc : Nat) (ls : Array Slot) (cu su : Nat) (d0 : Drawn), post v S → wd D y z S A H → va_S A s.heap H locs → cu ≤ MC → su ≤ MS → s.drawn.sameBut d0 lw_cs → decode code pc = .ok (.ireturn, 1) → W p l e room_1 (s.setDrawn d0) m #[Value.ref p1] below meth c H locs cu su Q (F0 m pc ls [.int v]) := by
    intro v S H locs pc ls cu su d0 h hw hS hcu hsu hd0 dd
    rw [hQ, hpost v S h]
    refine va_forget (fun q hq => hAe _ (hS.2.2 q hq)) ?_
    refine W.widen (k := 600086) (n := 7301442) (by omega) (by omega) ?_
    exact lw_ret hd0 hx hb hr hlocks dd
  have hB866 : ∀ (S : bS) (H : Heap) (locs : List Loc) (ls : Array Slot) (mc ms cu su : Nat) (d0 : Drawn) , wb_L_law_866 xs L post mc ms S → wd D y z S A H → va_S A s.heap H locs → lv_has ls 23 [] → cu + mc ≤ MC → su + ms ≤ MS → s.drawn.sameBut d0 lw_cs → W p l e room_1 (s.setDrawn d0) m #[Value.ref p1] below meth c H locs cu su Q (F0 m 866 ls []) := by
    intro S H locs ls mc ms cu su d0  h hw hS hl hcu hsu hd0
    unfold wb_L_law_866 at h
    have hB := hB0 d0
    have htx := dr_words hts0 d0
    have hts : ∀ w ∈ wsL_law, w.before _ (s.setDrawn d0) = true := htx
    have hown : (s.setDrawn d0).vm.findClass RL = some m.cls := hown0
    have hK : va_K D bCl (bT y) (s.setDrawn d0) := hB.2.1
    have hNw := hB.2.2.1
    have hO := hB.2.2.2.2.2.1
    have hX := hX0 d0
    refine lv_iconst (v := (0 : Int32)) hx hb dL_law_866 (by decide) ?_
    exact hret _ _ _ _ _ _ _ _ _ h hw hS (by omega) (by omega) hd0 dL_law_867
  have hB799 : ∀ (S : bS) (H : Heap) (locs : List Loc) (ls : Array Slot) (mc ms cu su : Nat) (d0 : Drawn) , wb_L_law_799 xs L post mc ms S → wd D y z S A H → va_S A s.heap H locs → lv_has ls 23 [] → cu + mc ≤ MC → su + ms ≤ MS → s.drawn.sameBut d0 lw_cs → W p l e room_1 (s.setDrawn d0) m #[Value.ref p1] below meth c H locs cu su Q (F0 m 799 ls []) := by
    intro S H locs ls mc ms cu su d0  h hw hS hl hcu hsu hd0
    unfold wb_L_law_799 at h
    have hB := hB0 d0
    have htx := dr_words hts0 d0
    have hts : ∀ w ∈ wsL_law, w.before _ (s.setDrawn d0) = true := htx
    have hown : (s.setDrawn d0).vm.findClass RL = some m.cls := hown0
    have hK : va_K D bCl (bT y) (s.setDrawn d0) := hB.2.1
    have hNw := hB.2.2.1
    have hO := hB.2.2.2.2.2.1
    have hX := hX0 d0
    refine lv_iconst (v := (0 : Int32)) hx hb dL_law_799 (by decide) ?_
    exact hret _ _ _ _ _ _ _ _ _ h hw hS (by omega) (by omega) hd0 dL_law_800
  have hB721 : ∀ (S : bS) (H : Heap) (locs : List Loc) (ls : Array Slot) (mc ms cu su : Nat) (d0 : Drawn) , wb_L_law_721 xs L post mc ms S → wd D y z S A H → va_S A s.heap H locs → lv_has ls 23 [] → cu + mc ≤ MC → su + ms ≤ MS → s.drawn.sameBut d0 lw_cs → W p l e room_1 (s.setDrawn d0) m #[Value.ref p1] below meth c H locs cu su Q (F0 m 721 ls []) := by
    intro S H locs ls mc ms cu su d0  h hw hS hl hcu hsu hd0
    unfold wb_L_law_721 at h
    have hB := hB0 d0
    have htx := dr_words hts0 d0
    have hts : ∀ w ∈ wsL_law, w.before _ (s.setDrawn d0) = true := htx
    have hown : (s.setDrawn d0).vm.findClass RL = some m.cls := hown0
    have hK : va_K D bCl (bT y) (s.setDrawn d0) := hB.2.1
    have hNw := hB.2.2.1
    have hO := hB.2.2.2.2.2.1
    have hX := hX0 d0
    refine lv_iconst (v := (0 : Int32)) hx hb dL_law_721 (by decide) ?_
    exact hret _ _ _ _ _ _ _ _ _ h hw hS (by omega) (by omega) hd0 dL_law_722
  have hB593 : ∀ (S : bS) (H : Heap) (locs : List Loc) (ls : Array Slot) (mc ms cu su : Nat) (d0 : Drawn) , wb_L_law_593 xs L post mc ms S → wd D y z S A H → va_S A s.heap H locs → lv_has ls 23 [] → cu + mc ≤ MC → su + ms ≤ MS → s.drawn.sameBut d0 lw_cs → W p l e room_1 (s.setDrawn d0) m #[Value.ref p1] below meth c H locs cu su Q (F0 m 593 ls []) := by
    intro S H locs ls mc ms cu su d0  h hw hS hl hcu hsu hd0
    unfold wb_L_law_593 at h
    have hB := hB0 d0
    have htx := dr_words hts0 d0
    have hts : ∀ w ∈ wsL_law, w.before _ (s.setDrawn d0) = true := htx
    have hown : (s.setDrawn d0).vm.findClass RL = some m.cls := hown0
    have hK : va_K D bCl (bT y) (s.setDrawn d0) := hB.2.1
    have hNw := hB.2.2.1
    have hO := hB.2.2.2.2.2.1
    have hX := hX0 d0
    refine lv_iconst (v := (0 : Int32)) hx hb dL_law_593 (by decide) ?_
    exact hret _ _ _ _ _ _ _ _ _ h hw hS (by omega) (by omega) hd0 dL_law_594
  have hB531 : ∀ (S : bS) (H : Heap) (locs : List Loc) (ls : Array Slot) (mc ms cu su : Nat) (d0 : Drawn) , wb_L_law_531 xs L post mc ms S → wd D y z S A H → va_S A s.heap H locs → lv_has ls 23 [] → cu + mc ≤ MC → su + ms ≤ MS → s.drawn.sameBut d0 lw_cs → W p l e room_1 (s.setDrawn d0) m #[Value.ref p1] below meth c H locs cu su Q (F0 m 531 ls []) := by
    intro S H locs ls mc ms cu su d0  h hw hS hl hcu hsu hd0
    unfold wb_L_law_531 at h
    have hB := hB0 d0
    have htx := dr_words hts0 d0
    have hts : ∀ w ∈ wsL_law, w.before _ (s.setDrawn d0) = true := htx
    have hown : (s.setDrawn d0).vm.findClass RL = some m.cls := hown0
    have hK : va_K D bCl (bT y) (s.setDrawn d0) := hB.2.1
    have hNw := hB.2.2.1
    have hO := hB.2.2.2.2.2.1
    have hX := hX0 d0
    refine lv_iconst (v := (0 : Int32)) hx hb dL_law_531 (by decide) ?_
    exact hret _ _ _ _ _ _ _ _ _ h hw hS (by omega) (by omega) hd0 dL_law_532
  have hB374 : ∀ (S : bS) (H : Heap) (locs : List Loc) (ls : Array Slot) (mc ms cu su : Nat) (d0 : Drawn) , wb_L_law_374 xs L post mc ms S → wd D y z S A H → va_S A s.heap H locs → lv_has ls 23 [] → cu + mc ≤ MC → su + ms ≤ MS → s.drawn.sameBut d0 lw_cs → W p l e room_1 (s.setDrawn d0) m #[Value.ref p1] below meth c H locs cu su Q (F0 m 374 ls []) := by
    intro S H locs ls mc ms cu su d0  h hw hS hl hcu hsu hd0
    unfold wb_L_law_374 at h
    have hB := hB0 d0
    have htx := dr_words hts0 d0
    have hts : ∀ w ∈ wsL_law, w.before _ (s.setDrawn d0) = true := htx
    have hown : (s.setDrawn d0).vm.findClass RL = some m.cls := hown0
    have hK : va_K D bCl (bT y) (s.setDrawn d0) := hB.2.1
    have hNw := hB.2.2.1
    have hO := hB.2.2.2.2.2.1
    have hX := hX0 d0
    refine lv_iconst (v := (0 : Int32)) hx hb dL_law_374 (by decide) ?_
    exact hret _ _ _ _ _ _ _ _ _ h hw hS (by omega) (by omega) hd0 dL_law_375
  have hB273 : ∀ (S : bS) (H : Heap) (locs : List Loc) (ls : Array Slot) (mc ms cu su : Nat) (d0 : Drawn) , wb_L_law_273 xs L post mc ms S → wd D y z S A H → va_S A s.heap H locs → lv_has ls 23 [] → cu + mc ≤ MC → su + ms ≤ MS → s.drawn.sameBut d0 lw_cs → W p l e room_1 (s.setDrawn d0) m #[Value.ref p1] below meth c H locs cu su Q (F0 m 273 ls []) := by
    intro S H locs ls mc ms cu su d0  h hw hS hl hcu hsu hd0
    unfold wb_L_law_273 at h
    have hB := hB0 d0
    have htx := dr_words hts0 d0
    have hts : ∀ w ∈ wsL_law, w.before _ (s.setDrawn d0) = true := htx
    have hown : (s.setDrawn d0).vm.findClass RL = some m.cls := hown0
    have hK : va_K D bCl (bT y) (s.setDrawn d0) := hB.2.1
    have hNw := hB.2.2.1
    have hO := hB.2.2.2.2.2.1
    have hX := hX0 d0
    refine lv_iconst (v := (0 : Int32)) hx hb dL_law_273 (by decide) ?_
    exact hret _ _ _ _ _ _ _ _ _ h hw hS (by omega) (by omega) hd0 dL_law_274
  have hB105 : ∀ (n105 : Nat) (S : bS) (H : Heap) (locs : List Loc) (ls : Array Slot) (mc ms cu su : Nat) (d0 : Drawn) (v1 : Nat) (v3 : Int32) (v4 : Int32) (v5 : Nat) (v6 : Nat) (v7 : Int32) (v8 : Int32) (v9 : Int32), wb_L_law_105 xs L post n105 mc ms v1 v3 v4 v5 v6 v7 v8 v9 S → wd D y z S A H → va_S A s.heap H locs → lv_has ls 23 [(0, .ref p1), (1, .ref v1), (3, .int v3), (4, .int v4), (5, .ref v5), (6, .ref v6), (7, .int v7), (8, .int v8), (9, .int v9)] → cu + mc ≤ MC → su + ms ≤ MS → s.drawn.sameBut d0 lw_cs → W p l e room_1 (s.setDrawn d0) m #[Value.ref p1] below meth c H locs cu su Q (F0 m 105 ls []) := by
    intro n105
    induction n105 with
    | zero =>
      intro S H locs ls mc ms cu su d0 v1 v3 v4 v5 v6 v7 v8 v9 h hw hS hl hcu hsu hd0
      exact absurd h (by unfold wb_L_law_105; exact id)
    | succ n105 ih105 =>
      have hB862 : ∀ (S : bS) (H : Heap) (locs : List Loc) (ls : Array Slot) (mc ms cu su : Nat) (d0 : Drawn) (v1 : Nat) (v3 : Int32) (v4 : Int32) (v5 : Nat) (v6 : Nat) (v7 : Int32) (v8 : Int32) (v9 : Int32) (s0 : UInt64) (s1 : UInt64), wb_L_law_862 xs L post (wb_L_law_105 xs L post n105) mc ms v1 v3 v4 v5 v6 v7 v8 v9 s0 s1 S → wd D y z S A H → va_S A s.heap H locs → lv_has ls 23 [(0, .ref p1), (1, .ref v1), (3, .int v3), (4, .int v4), (5, .ref v5), (6, .ref v6), (7, .int v7), (8, .int v8), (9, .int v9)] → cu + mc ≤ MC → su + ms ≤ MS → s.drawn.sameBut d0 lw_cs → W p l e room_1 (s.setDrawn d0) m #[Value.ref p1] below meth c H locs cu su Q (F0 m 862 ls [.double s0, .double s1]) := by
        intro S H locs ls mc ms cu su d0 v1 v3 v4 v5 v6 v7 v8 v9 s0 s1 h hw hS hl hcu hsu hd0
        unfold wb_L_law_862 at h
        have hB := hB0 d0
        have htx := dr_words hts0 d0
        have hts : ∀ w ∈ wsL_law, w.before _ (s.setDrawn d0) = true := htx
        have hown : (s.setDrawn d0).vm.findClass RL = some m.cls := hown0
        have hK : va_K D bCl (bT y) (s.setDrawn d0) := hB.2.1
        have hNw := hB.2.2.1
        have hO := hB.2.2.2.2.2.1
        have hX := hX0 d0
        refine lv_dcmp hx hb dL_law_862 ?_
        refine lv_if_eq (tgt := 868) hx hb dL_law_863 (by decide) (fun hc => ?_) (fun hc => ?_)
        · have h := h.1 hc
          refine lv_iinc (v := (v9 + (1 : Int32))) hx hb dL_law_868 hl (k := 8) rfl rfl (by decide) rfl (fun ls hl => ?_)
          have hl : lv_has ls 23 [(9, .int (v9 + (1 : Int32))), (0, .ref p1), (1, .ref v1), (3, .int v3), (4, .int v4), (5, .ref v5), (6, .ref v6), (7, .int v7), (8, .int v8)] := hl
          refine lv_goto (tgt := 105) hx hb dL_law_871 (by decide) ?_
          exact ih105 _ _ _ _ _ _ _ _ _ _ _ _ _ _ _ _ _ h hw hS (lv_sub hl [1, 2, 3, 4, 5, 6, 7, 8, 0] rfl) hcu hsu hd0
        · have h := h.2 hc
          exact hB866 _ _ _ _ _ _ _ _ _ h hw hS (lv_sub hl [] rfl) hcu hsu hd0
      have hB741 : ∀ (n741 : Nat) (S : bS) (H : Heap) (locs : List Loc) (ls : Array Slot) (mc ms cu su : Nat) (d0 : Drawn) (v1 : Nat) (v3 : Int32) (v4 : Int32) (v5 : Nat) (v6 : Nat) (v7 : Int32) (v8 : Int32) (v9 : Int32) (v14 : Nat) (v16 : Int32) (v18 : Int32) (v19 : Int32), wb_L_law_741 xs L post (wb_L_law_105 xs L post n105) n741 mc ms v1 v3 v4 v5 v6 v7 v8 v9 v14 v16 v18 v19 S → wd D y z S A H → va_S A s.heap H locs → lv_has ls 23 [(0, .ref p1), (1, .ref v1), (3, .int v3), (4, .int v4), (5, .ref v5), (6, .ref v6), (7, .int v7), (8, .int v8), (9, .int v9), (14, .ref v14), (16, .int v16), (18, .int v18), (19, .int v19)] → cu + mc ≤ MC → su + ms ≤ MS → s.drawn.sameBut d0 lw_cs → W p l e room_1 (s.setDrawn d0) m #[Value.ref p1] below meth c H locs cu su Q (F0 m 741 ls []) := by
        intro n741
        induction n741 with
        | zero =>
          intro S H locs ls mc ms cu su d0 v1 v3 v4 v5 v6 v7 v8 v9 v14 v16 v18 v19 h hw hS hl hcu hsu hd0
          exact absurd h (by unfold wb_L_law_741; exact id)
        | succ n741 ih741 =>
          have hB801 : ∀ (S : bS) (H : Heap) (locs : List Loc) (ls : Array Slot) (mc ms cu su : Nat) (d0 : Drawn) (v1 : Nat) (v3 : Int32) (v4 : Int32) (v5 : Nat) (v6 : Nat) (v7 : Int32) (v8 : Int32) (v9 : Int32) (v14 : Nat) (v16 : Int32) (v18 : Int32) (v19 : Int32), wb_L_law_801 xs L post (wb_L_law_105 xs L post n105) (wb_L_law_741 xs L post (wb_L_law_105 xs L post n105) n741) mc ms v1 v3 v4 v5 v6 v7 v8 v9 v14 v16 v18 v19 S → wd D y z S A H → va_S A s.heap H locs → lv_has ls 23 [(0, .ref p1), (1, .ref v1), (3, .int v3), (4, .int v4), (5, .ref v5), (6, .ref v6), (7, .int v7), (8, .int v8), (9, .int v9), (14, .ref v14), (16, .int v16), (18, .int v18), (19, .int v19)] → cu + mc ≤ MC → su + ms ≤ MS → s.drawn.sameBut d0 lw_cs → W p l e room_1 (s.setDrawn d0) m #[Value.ref p1] below meth c H locs cu su Q (F0 m 801 ls []) := by
            intro S H locs ls mc ms cu su d0 v1 v3 v4 v5 v6 v7 v8 v9 v14 v16 v18 v19 h hw hS hl hcu hsu hd0
            unfold wb_L_law_801 at h
            have hB := hB0 d0
            have htx := dr_words hts0 d0
            have hts : ∀ w ∈ wsL_law, w.before _ (s.setDrawn d0) = true := htx
            have hown : (s.setDrawn d0).vm.findClass RL = some m.cls := hown0
            have hK : va_K D bCl (bT y) (s.setDrawn d0) := hB.2.1
            have hNw := hB.2.2.1
            have hO := hB.2.2.2.2.2.1
            have hX := hX0 d0
            refine lv_iload hx hb dL_law_801 (lv_at hl 11 rfl) ?_
            refine lv_aload_n hx hb dL_law_803 rfl (lv_at hl 1 rfl) ?_
            refine lv_iload hx hb dL_law_804 (lv_at hl 12 rfl) ?_
            refine lv_bipush (v := (7 : Int32)) hx hb dL_law_806 (by decide) ?_
            obtain ⟨hk306, h⟩ := h
            obtain ⟨k309, n310, hbg1, hbg2, h⟩ := h
            have h1 := h
            refine vx_calli (vx_runV (As := [.int v19, .int (7 : Int32)]) (rest := [.int v18]) ⟨hx, hb, hml, hown, hts⟩ (m_X5_tube (l := l) hl0 h1) (cwV 2 hts gL_law_X5_tube rfl rfl rfl (by decide +kernel) ⟨Nat.le_trans (Nat.le_of_ble_eq_true rfl) hRf, Nat.le_trans (Nat.le_of_ble_eq_true rfl) hRl⟩) (r_pV hB hw hS (ce_7 (S := S) hk306) rfl) rfl rfl hl.1 rfl (lv_room (Nat.le_of_ble_eq_true rfl)) dL_law_808 ⟨by omega, by omega⟩) hS (fun _ _ h => h) (fun _ h => h) (fun _ _ h => h) (fun E ce q9 S308 t H1 locs ht hal _ hq hz9 hk9 hS hq9 hvm9 hfc9 => hq.1.elim) (fun r307 S308 t H1 locs ht _ h hw1 _ _ hS => ?_)
            subst ht
            have hw : wd D y z S308 A t.heap := hw1
            clear hw1 h1
            have hcu : (cu + k309) + (mc - k309) ≤ MC := by omega
            have hsu : (su + n310) + (ms - n310) ≤ MS := by omega
            refine lv_iadd hx hb dL_law_811 ?_
            refine lv_istore hx hb dL_law_812 hl (by decide) rfl (fun ls hl => ?_)
            have hl : lv_has ls 23 [(18, .int (v18 + r307)), (0, .ref p1), (1, .ref v1), (3, .int v3), (4, .int v4), (5, .ref v5), (6, .ref v6), (7, .int v7), (8, .int v8), (9, .int v9), (14, .ref v14), (16, .int v16), (19, .int v19)] := hl
            refine lv_iinc (v := (v19 + (1 : Int32))) hx hb dL_law_814 hl (k := 12) rfl rfl (by decide) rfl (fun ls hl => ?_)
            have hl : lv_has ls 23 [(19, .int (v19 + (1 : Int32))), (18, .int (v18 + r307)), (0, .ref p1), (1, .ref v1), (3, .int v3), (4, .int v4), (5, .ref v5), (6, .ref v6), (7, .int v7), (8, .int v8), (9, .int v9), (14, .ref v14), (16, .int v16)] := hl
            refine lv_goto (tgt := 741) hx hb dL_law_817 (by decide) ?_
            exact ih741 _ _ _ _ _ _ _ _ _ _ _ _ _ _ _ _ _ _ _ _ _ h hw hS (lv_sub hl [2, 3, 4, 5, 6, 7, 8, 9, 10, 11, 12, 1, 0] rfl) hcu hsu hd0
          intro S H locs ls mc ms cu su d0 v1 v3 v4 v5 v6 v7 v8 v9 v14 v16 v18 v19 h hw hS hl hcu hsu hd0
          unfold wb_L_law_741 at h
          have hB := hB0 d0
          have htx := dr_words hts0 d0
          have hts : ∀ w ∈ wsL_law, w.before _ (s.setDrawn d0) = true := htx
          have hown : (s.setDrawn d0).vm.findClass RL = some m.cls := hown0
          have hK : va_K D bCl (bT y) (s.setDrawn d0) := hB.2.1
          have hNw := hB.2.2.1
          have hO := hB.2.2.2.2.2.1
          have hX := hX0 d0
          refine lv_iload hx hb dL_law_741 (lv_at hl 12 rfl) ?_
          refine lv_iload hx hb dL_law_743 (lv_at hl 3 rfl) ?_
          refine lv_icmp_ge (tgt := 820) hx hb dL_law_745 (by decide) (fun hc => ?_) (fun hc => ?_)
          · have h := h.1 hc
            refine lv_aload_n hx hb dL_law_820 rfl (lv_at hl 1 rfl) ?_
            refine lv_bipush (v := (7 : Int32)) hx hb dL_law_821 (by decide) ?_
            obtain ⟨hk270, h⟩ := h
            obtain ⟨k273, n274, hbg1, hbg2, h⟩ := h
            have h1 := h
            refine vx_calli (vx_runV (As := [.int (7 : Int32)]) (rest := []) ⟨hx, hb, hml, hown, hts⟩ (m_X5_count (l := l) hl0 h1) (cwV 1 hts gL_law_X5_count rfl rfl rfl (by decide +kernel) ⟨Nat.le_trans (Nat.le_of_ble_eq_true rfl) hRf, Nat.le_trans (Nat.le_of_ble_eq_true rfl) hRl⟩) (r_pV hB hw hS (ce_7 (S := S) hk270) rfl) rfl rfl hl.1 rfl (lv_room (Nat.le_of_ble_eq_true rfl)) dL_law_823 ⟨by omega, by omega⟩) hS (fun _ _ h => h) (fun _ h => h) (fun _ _ h => h) (fun E ce q9 S272 t H1 locs ht hal _ hq hz9 hk9 hS hq9 hvm9 hfc9 => hq.1.elim) (fun r271 S272 t H1 locs ht _ h hw1 _ _ hS => ?_)
            subst ht
            have hw : wd D y z S272 A t.heap := hw1
            clear hw1 h1
            have hcu : (cu + k273) + (mc - k273) ≤ MC := by omega
            have hsu : (su + n274) + (ms - n274) ≤ MS := by omega
            refine lv_iload hx hb dL_law_826 (lv_at hl 11 rfl) ?_
            refine lv_icmp_ne (tgt := 866) hx hb dL_law_828 (by decide) (fun hc => ?_) (fun hc => ?_)
            · have h := h.1 hc
              exact hB866 _ _ _ _ _ _ _ _ _ h hw hS (lv_sub hl [] rfl) hcu hsu hd0
            · have h := h.2 hc
              refine lv_aload_n hx hb dL_law_831 rfl (lv_at hl 1 rfl) ?_
              refine lv_bipush (v := (8 : Int32)) hx hb dL_law_832 (by decide) ?_
              obtain ⟨hk275, h⟩ := h
              obtain ⟨k278, n279, hbg1, hbg2, h⟩ := h
              have h1 := h
              refine vx_calli (vx_runV (As := [.int (8 : Int32)]) (rest := []) ⟨hx, hb, hml, hown, hts⟩ (m_X5_count (l := l) hl0 h1) (cwV 1 hts gL_law_X5_count rfl rfl rfl (by decide +kernel) ⟨Nat.le_trans (Nat.le_of_ble_eq_true rfl) hRf, Nat.le_trans (Nat.le_of_ble_eq_true rfl) hRl⟩) (r_pV hB hw hS (ce_7 (S := S272) hk275) rfl) rfl rfl hl.1 rfl (lv_room (Nat.le_of_ble_eq_true rfl)) dL_law_834 ⟨by omega, by omega⟩) hS (fun _ _ h => h) (fun _ h => h) (fun _ _ h => h) (fun E ce q9 S277 t H1 locs ht hal _ hq hz9 hk9 hS hq9 hvm9 hfc9 => hq.1.elim) (fun r276 S277 t H1 locs ht _ h hw1 _ _ hS => ?_)
              subst ht
              have hw : wd D y z S277 A t.heap := hw1
              clear hw1 h1
              have hcu : ((cu + k273) + k278) + ((mc - k273) - k278) ≤ MC := by omega
              have hsu : ((su + n274) + n279) + ((ms - n274) - n279) ≤ MS := by omega
              refine lv_iload hx hb dL_law_837 (lv_at hl 10 rfl) ?_
              refine lv_icmp_ne (tgt := 866) hx hb dL_law_839 (by decide) (fun hc => ?_) (fun hc => ?_)
              · have h := h.1 hc
                exact hB866 _ _ _ _ _ _ _ _ _ h hw hS (lv_sub hl [] rfl) hcu hsu hd0
              · have h := h.2 hc
                refine lv_aload_n hx hb dL_law_842 rfl (lv_at hl 1 rfl) ?_
                obtain ⟨hk280, h⟩ := h
                have h1 := h
                refine va_calldD hd0 (va_runV_D (As := []) (rest := []) ⟨hx, hb, hml, hown, hts⟩ (m_X5_mean (l := l) h1) (cwV 0 hts gL_law_X5_mean rfl rfl rfl (by decide +kernel) ⟨Nat.le_trans (Nat.le_of_ble_eq_true rfl) hRf, Nat.le_trans (Nat.le_of_ble_eq_true rfl) hRl⟩) (r_pV hB hw hS (ce_7 (S := S277) hk280) rfl) rfl rfl hl.1 rfl (lv_room (Nat.le_of_ble_eq_true rfl)) dL_law_843 ⟨by omega, by omega⟩) hS (fun _ _ h => h) (fun _ h => h) (fun r281 S282 t H1 locs ht _ h hw1 _ _ hS d283 hd0 => ?_)
                subst ht
                have hw : wd D y z S282 A t.heap := hw1
                clear hw1 h1
                have hB := hB0 d283
                have htx := dr_words hts0 d283
                have hts : ∀ w ∈ wsL_law, w.before _ (s.setDrawn d283) = true := htx
                have hown : (s.setDrawn d283).vm.findClass RL = some m.cls := hown0
                have hK : va_K D bCl (bT y) (s.setDrawn d283) := hB.2.1
                have hNw := hB.2.2.1
                have hO := hB.2.2.2.2.2.1
                have hX := hX0 d283
                refine lv_iload hx hb dL_law_846 (lv_at hl 7 rfl) ?_
                refine lv_if_ne (tgt := 855) hx hb dL_law_848 (by decide) (fun hc => ?_) (fun hc => ?_)
                · have h := h.1 hc
                  refine lv_iload hx hb dL_law_855 (lv_at hl 10 rfl) ?_
                  refine lv_i2d hx hb dL_law_857 ?_
                  refine lv_iload hx hb dL_law_858 (lv_at hl 7 rfl) ?_
                  refine lv_i2d hx hb dL_law_860 ?_
                  refine lv_ddiv_any hd0 lw_bits hx hb dL_law_861 (fun r284 d285 hal hd0 => ?_)
                  have h := h r284 hal
                  have hB := hB0 d285
                  have htx := dr_words hts0 d285
                  have hts : ∀ w ∈ wsL_law, w.before _ (s.setDrawn d285) = true := htx
                  have hown : (s.setDrawn d285).vm.findClass RL = some m.cls := hown0
                  have hK : va_K D bCl (bT y) (s.setDrawn d285) := hB.2.1
                  have hNw := hB.2.2.1
                  have hO := hB.2.2.2.2.2.1
                  have hX := hX0 d285
                  exact hB862 _ _ _ _ _ _ _ _ _ _ _ _ _ _ _ _ _ _ _ h hw hS (lv_sub hl [0, 1, 2, 3, 4, 5, 6, 7, 8] rfl) hcu hsu hd0
                · have h := h.2 hc
                  refine lv_dconst0 hx hb dL_law_851 ?_
                  refine lv_goto (tgt := 862) hx hb dL_law_852 (by decide) ?_
                  exact hB862 _ _ _ _ _ _ _ _ _ _ _ _ _ _ _ _ _ _ _ h hw hS (lv_sub hl [0, 1, 2, 3, 4, 5, 6, 7, 8] rfl) hcu hsu hd0
          · have h := h.2 hc
            refine lv_aload_n hx hb dL_law_748 rfl (lv_at hl 1 rfl) ?_
            refine lv_iload hx hb dL_law_749 (lv_at hl 12 rfl) ?_
            refine lv_bipush (v := (6 : Int32)) hx hb dL_law_751 (by decide) ?_
            obtain ⟨hk286, h⟩ := h
            obtain ⟨k289, n290, hbg1, hbg2, h⟩ := h
            have h1 := h
            refine vx_calli (vx_runV (As := [.int v19, .int (6 : Int32)]) (rest := []) ⟨hx, hb, hml, hown, hts⟩ (m_X5_tube (l := l) hl0 h1) (cwV 2 hts gL_law_X5_tube rfl rfl rfl (by decide +kernel) ⟨Nat.le_trans (Nat.le_of_ble_eq_true rfl) hRf, Nat.le_trans (Nat.le_of_ble_eq_true rfl) hRl⟩) (r_pV hB hw hS (ce_7 (S := S) hk286) rfl) rfl rfl hl.1 rfl (lv_room (Nat.le_of_ble_eq_true rfl)) dL_law_753 ⟨by omega, by omega⟩) hS (fun _ _ h => h) (fun _ h => h) (fun _ _ h => h) (fun E ce q9 S288 t H1 locs ht hal _ hq hz9 hk9 hS hq9 hvm9 hfc9 => hq.1.elim) (fun r287 S288 t H1 locs ht _ h hw1 _ _ hS => ?_)
            subst ht
            have hw : wd D y z S288 A t.heap := hw1
            clear hw1 h1
            have hcu : (cu + k289) + (mc - k289) ≤ MC := by omega
            have hsu : (su + n290) + (ms - n290) ≤ MS := by omega
            refine lv_aload hx hb dL_law_756 (lv_at hl 9 rfl) ?_
            refine lv_iload hx hb dL_law_758 (lv_at hl 12 rfl) ?_
            obtain ⟨hk291, h⟩ := h
            obtain ⟨hin292, h⟩ := h
            refine r_iald hx hb hK hw hk291 hin292 dL_law_760 ?_
            refine lv_icmp_ne (tgt := 799) hx hb dL_law_761 (by decide) (fun hc => ?_) (fun hc => ?_)
            · have h := h.1 hc
              exact hB799 _ _ _ _ _ _ _ _ _ h hw hS (lv_sub hl [] rfl) hcu hsu hd0
            · have h := h.2 hc
              refine lv_aload hx hb dL_law_764 (lv_at hl 9 rfl) ?_
              refine lv_iload hx hb dL_law_766 (lv_at hl 12 rfl) ?_
              obtain ⟨hin293, h⟩ := h
              refine r_iald hx hb hK hw hk291 hin293 dL_law_768 ?_
              refine lv_aload_n hx hb dL_law_769 rfl (lv_at hl 1 rfl) ?_
              refine lv_iload hx hb dL_law_770 (lv_at hl 12 rfl) ?_
              refine lv_iconst (v := (4 : Int32)) hx hb dL_law_772 (by decide) ?_
              obtain ⟨hk294, h⟩ := h
              obtain ⟨k297, n298, hbg1, hbg2, h⟩ := h
              have h1 := h
              refine vx_calli (vx_runV (As := [.int v19, .int (4 : Int32)]) (rest := [.int (gV S288 9 v14 (Int32.toNatClampNeg v19))]) ⟨hx, hb, hml, hown, hts⟩ (m_X5_tube (l := l) hl0 h1) (cwV 2 hts gL_law_X5_tube rfl rfl rfl (by decide +kernel) ⟨Nat.le_trans (Nat.le_of_ble_eq_true rfl) hRf, Nat.le_trans (Nat.le_of_ble_eq_true rfl) hRl⟩) (r_pV hB hw hS (ce_7 (S := S288) hk294) rfl) rfl rfl hl.1 rfl (lv_room (Nat.le_of_ble_eq_true rfl)) dL_law_773 ⟨by omega, by omega⟩) hS (fun _ _ h => h) (fun _ h => h) (fun _ _ h => h) (fun E ce q9 S296 t H1 locs ht hal _ hq hz9 hk9 hS hq9 hvm9 hfc9 => hq.1.elim) (fun r295 S296 t H1 locs ht _ h hw1 _ _ hS => ?_)
              subst ht
              have hw : wd D y z S296 A t.heap := hw1
              clear hw1 h1
              have hcu : ((cu + k289) + k297) + ((mc - k289) - k297) ≤ MC := by omega
              have hsu : ((su + n290) + n298) + ((ms - n290) - n298) ≤ MS := by omega
              refine lv_icmp_gt (tgt := 799) hx hb dL_law_776 (by decide) (fun hc => ?_) (fun hc => ?_)
              · have h := h.1 hc
                exact hB799 _ _ _ _ _ _ _ _ _ h hw hS (lv_sub hl [] rfl) hcu hsu hd0
              · have h := h.2 hc
                refine lv_aload_n hx hb dL_law_779 rfl (lv_at hl 1 rfl) ?_
                refine lv_iload hx hb dL_law_780 (lv_at hl 12 rfl) ?_
                refine lv_bipush (v := (7 : Int32)) hx hb dL_law_782 (by decide) ?_
                obtain ⟨hk299, h⟩ := h
                obtain ⟨k302, n303, hbg1, hbg2, h⟩ := h
                have h1 := h
                refine vx_calli (vx_runV (As := [.int v19, .int (7 : Int32)]) (rest := []) ⟨hx, hb, hml, hown, hts⟩ (m_X5_tube (l := l) hl0 h1) (cwV 2 hts gL_law_X5_tube rfl rfl rfl (by decide +kernel) ⟨Nat.le_trans (Nat.le_of_ble_eq_true rfl) hRf, Nat.le_trans (Nat.le_of_ble_eq_true rfl) hRl⟩) (r_pV hB hw hS (ce_7 (S := S296) hk299) rfl) rfl rfl hl.1 rfl (lv_room (Nat.le_of_ble_eq_true rfl)) dL_law_784 ⟨by omega, by omega⟩) hS (fun _ _ h => h) (fun _ h => h) (fun _ _ h => h) (fun E ce q9 S301 t H1 locs ht hal _ hq hz9 hk9 hS hq9 hvm9 hfc9 => hq.1.elim) (fun r300 S301 t H1 locs ht _ h hw1 _ _ hS => ?_)
                subst ht
                have hw : wd D y z S301 A t.heap := hw1
                clear hw1 h1
                have hcu : (((cu + k289) + k297) + k302) + (((mc - k289) - k297) - k302) ≤ MC := by omega
                have hsu : (((su + n290) + n298) + n303) + (((ms - n290) - n298) - n303) ≤ MS := by omega
                refine lv_iconst (v := (1 : Int32)) hx hb dL_law_787 (by decide) ?_
                refine lv_icmp_ne (tgt := 801) hx hb dL_law_788 (by decide) (fun hc => ?_) (fun hc => ?_)
                · have h := h.1 hc
                  exact hB801 _ _ _ _ _ _ _ _ _ _ _ _ _ _ _ _ _ _ _ _ _ h hw hS (lv_sub hl [0, 1, 2, 3, 4, 5, 6, 7, 8, 9, 10, 11, 12] rfl) hcu hsu hd0
                · have h := h.2 hc
                  refine lv_aload hx hb dL_law_791 (lv_at hl 9 rfl) ?_
                  refine lv_iload hx hb dL_law_793 (lv_at hl 12 rfl) ?_
                  obtain ⟨hk304, h⟩ := h
                  obtain ⟨hin305, h⟩ := h
                  refine r_iald hx hb hK hw hk304 hin305 dL_law_795 ?_
                  refine lv_if_ne (tgt := 801) hx hb dL_law_796 (by decide) (fun hc => ?_) (fun hc => ?_)
                  · have h := h.1 hc
                    exact hB801 _ _ _ _ _ _ _ _ _ _ _ _ _ _ _ _ _ _ _ _ _ h hw hS (lv_sub hl [0, 1, 2, 3, 4, 5, 6, 7, 8, 9, 10, 11, 12] rfl) hcu hsu hd0
                  · have h := h.2 hc
                    exact hB799 _ _ _ _ _ _ _ _ _ h hw hS (lv_sub hl [] rfl) hcu hsu hd0
      have hB542 : ∀ (n542 : Nat) (S : bS) (H : Heap) (locs : List Loc) (ls : Array Slot) (mc ms cu su : Nat) (d0 : Drawn) (v1 : Nat) (v3 : Int32) (v4 : Int32) (v5 : Nat) (v6 : Nat) (v7 : Int32) (v8 : Int32) (v9 : Int32) (v13 : Nat) (v14 : Nat) (v15 : Nat) (v16 : Int32) (v18 : Int32), wb_L_law_542 xs L post (wb_L_law_105 xs L post n105) n542 mc ms v1 v3 v4 v5 v6 v7 v8 v9 v13 v14 v15 v16 v18 S → wd D y z S A H → va_S A s.heap H locs → lv_has ls 23 [(0, .ref p1), (1, .ref v1), (3, .int v3), (4, .int v4), (5, .ref v5), (6, .ref v6), (7, .int v7), (8, .int v8), (9, .int v9), (13, .ref v13), (14, .ref v14), (15, .ref v15), (16, .int v16), (18, .int v18)] → cu + mc ≤ MC → su + ms ≤ MS → s.drawn.sameBut d0 lw_cs → W p l e room_1 (s.setDrawn d0) m #[Value.ref p1] below meth c H locs cu su Q (F0 m 542 ls []) := by
        intro n542
        induction n542 with
        | zero =>
          intro S H locs ls mc ms cu su d0 v1 v3 v4 v5 v6 v7 v8 v9 v13 v14 v15 v16 v18 h hw hS hl hcu hsu hd0
          exact absurd h (by unfold wb_L_law_542; exact id)
        | succ n542 ih542 =>
          have hB598 : ∀ (n598 : Nat) (S : bS) (H : Heap) (locs : List Loc) (ls : Array Slot) (mc ms cu su : Nat) (d0 : Drawn) (v1 : Nat) (v3 : Int32) (v4 : Int32) (v5 : Nat) (v6 : Nat) (v7 : Int32) (v8 : Int32) (v9 : Int32) (v13 : Nat) (v14 : Nat) (v15 : Nat) (v16 : Int32) (v18 : Int32) (v19 : Int32), wb_L_law_598 xs L post (wb_L_law_105 xs L post n105) (wb_L_law_542 xs L post (wb_L_law_105 xs L post n105) n542) n598 mc ms v1 v3 v4 v5 v6 v7 v8 v9 v13 v14 v15 v16 v18 v19 S → wd D y z S A H → va_S A s.heap H locs → lv_has ls 23 [(0, .ref p1), (1, .ref v1), (3, .int v3), (4, .int v4), (5, .ref v5), (6, .ref v6), (7, .int v7), (8, .int v8), (9, .int v9), (13, .ref v13), (14, .ref v14), (15, .ref v15), (16, .int v16), (18, .int v18), (19, .int v19)] → cu + mc ≤ MC → su + ms ≤ MS → s.drawn.sameBut d0 lw_cs → W p l e room_1 (s.setDrawn d0) m #[Value.ref p1] below meth c H locs cu su Q (F0 m 598 ls []) := by
            intro n598
            induction n598 with
            | zero =>
              intro S H locs ls mc ms cu su d0 v1 v3 v4 v5 v6 v7 v8 v9 v13 v14 v15 v16 v18 v19 h hw hS hl hcu hsu hd0
              exact absurd h (by unfold wb_L_law_598; exact id)
            | succ n598 ih598 =>
              have hB723 : ∀ (S : bS) (H : Heap) (locs : List Loc) (ls : Array Slot) (mc ms cu su : Nat) (d0 : Drawn) (v1 : Nat) (v3 : Int32) (v4 : Int32) (v5 : Nat) (v6 : Nat) (v7 : Int32) (v8 : Int32) (v9 : Int32) (v13 : Nat) (v14 : Nat) (v15 : Nat) (v16 : Int32) (v18 : Int32) (v19 : Int32), wb_L_law_723 xs L post (wb_L_law_105 xs L post n105) (wb_L_law_542 xs L post (wb_L_law_105 xs L post n105) n542) (wb_L_law_598 xs L post (wb_L_law_105 xs L post n105) (wb_L_law_542 xs L post (wb_L_law_105 xs L post n105) n542) n598) mc ms v1 v3 v4 v5 v6 v7 v8 v9 v13 v14 v15 v16 v18 v19 S → wd D y z S A H → va_S A s.heap H locs → lv_has ls 23 [(0, .ref p1), (1, .ref v1), (3, .int v3), (4, .int v4), (5, .ref v5), (6, .ref v6), (7, .int v7), (8, .int v8), (9, .int v9), (13, .ref v13), (14, .ref v14), (15, .ref v15), (16, .int v16), (18, .int v18), (19, .int v19)] → cu + mc ≤ MC → su + ms ≤ MS → s.drawn.sameBut d0 lw_cs → W p l e room_1 (s.setDrawn d0) m #[Value.ref p1] below meth c H locs cu su Q (F0 m 723 ls []) := by
                intro S H locs ls mc ms cu su d0 v1 v3 v4 v5 v6 v7 v8 v9 v13 v14 v15 v16 v18 v19 h hw hS hl hcu hsu hd0
                unfold wb_L_law_723 at h
                have hB := hB0 d0
                have htx := dr_words hts0 d0
                have hts : ∀ w ∈ wsL_law, w.before _ (s.setDrawn d0) = true := htx
                have hown : (s.setDrawn d0).vm.findClass RL = some m.cls := hown0
                have hK : va_K D bCl (bT y) (s.setDrawn d0) := hB.2.1
                have hNw := hB.2.2.1
                have hO := hB.2.2.2.2.2.1
                have hX := hX0 d0
                refine lv_iinc (v := (v19 + (1 : Int32))) hx hb dL_law_723 hl (k := 14) rfl rfl (by decide) rfl (fun ls hl => ?_)
                have hl : lv_has ls 23 [(19, .int (v19 + (1 : Int32))), (0, .ref p1), (1, .ref v1), (3, .int v3), (4, .int v4), (5, .ref v5), (6, .ref v6), (7, .int v7), (8, .int v8), (9, .int v9), (13, .ref v13), (14, .ref v14), (15, .ref v15), (16, .int v16), (18, .int v18)] := hl
                refine lv_goto (tgt := 598) hx hb dL_law_726 (by decide) ?_
                exact ih598 _ _ _ _ _ _ _ _ _ _ _ _ _ _ _ _ _ _ _ _ _ _ _ h hw hS (lv_sub hl [1, 2, 3, 4, 5, 6, 7, 8, 9, 10, 11, 12, 13, 14, 0] rfl) hcu hsu hd0
              intro S H locs ls mc ms cu su d0 v1 v3 v4 v5 v6 v7 v8 v9 v13 v14 v15 v16 v18 v19 h hw hS hl hcu hsu hd0
              unfold wb_L_law_598 at h
              have hB := hB0 d0
              have htx := dr_words hts0 d0
              have hts : ∀ w ∈ wsL_law, w.before _ (s.setDrawn d0) = true := htx
              have hown : (s.setDrawn d0).vm.findClass RL = some m.cls := hown0
              have hK : va_K D bCl (bT y) (s.setDrawn d0) := hB.2.1
              have hNw := hB.2.2.1
              have hO := hB.2.2.2.2.2.1
              have hX := hX0 d0
              refine lv_iload hx hb dL_law_598 (lv_at hl 14 rfl) ?_
              refine lv_aload hx hb dL_law_600 (lv_at hl 9 rfl) ?_
              refine lv_iload hx hb dL_law_602 (lv_at hl 13 rfl) ?_
              obtain ⟨hk208, h⟩ := h
              obtain ⟨hin209, h⟩ := h
              refine r_iald hx hb hK hw hk208 hin209 dL_law_604 ?_
              refine lv_icmp_ge (tgt := 729) hx hb dL_law_605 (by decide) (fun hc => ?_) (fun hc => ?_)
              · have h := h.1 hc
                refine lv_iinc (v := (v18 + (1 : Int32))) hx hb dL_law_729 hl (k := 13) rfl rfl (by decide) rfl (fun ls hl => ?_)
                have hl : lv_has ls 23 [(18, .int (v18 + (1 : Int32))), (0, .ref p1), (1, .ref v1), (3, .int v3), (4, .int v4), (5, .ref v5), (6, .ref v6), (7, .int v7), (8, .int v8), (9, .int v9), (13, .ref v13), (14, .ref v14), (15, .ref v15), (16, .int v16), (19, .int v19)] := hl
                refine lv_goto (tgt := 542) hx hb dL_law_732 (by decide) ?_
                exact ih542 _ _ _ _ _ _ _ _ _ _ _ _ _ _ _ _ _ _ _ _ _ _ h hw hS (lv_sub hl [1, 2, 3, 4, 5, 6, 7, 8, 9, 10, 11, 12, 13, 0] rfl) hcu hsu hd0
              · have h := h.2 hc
                refine lv_aload_n hx hb dL_law_608 rfl (lv_at hl 1 rfl) ?_
                refine lv_iload hx hb dL_law_609 (lv_at hl 13 rfl) ?_
                refine lv_iload hx hb dL_law_611 (lv_at hl 14 rfl) ?_
                obtain ⟨hk210, h⟩ := h
                obtain ⟨k213, n214, hbg1, hbg2, h⟩ := h
                have h1 := h
                refine vx_calli (vx_runV (As := [.int v18, .int v19]) (rest := []) ⟨hx, hb, hml, hown, hts⟩ (m_X5_there (l := l) hl0 h1) (cwV 2 hts gL_law_X5_there rfl rfl rfl (by decide +kernel) ⟨Nat.le_trans (Nat.le_of_ble_eq_true rfl) hRf, Nat.le_trans (Nat.le_of_ble_eq_true rfl) hRl⟩) (r_pV hB hw hS (ce_7 (S := S) hk210) rfl) rfl rfl hl.1 rfl (lv_room (Nat.le_of_ble_eq_true rfl)) dL_law_613 ⟨by omega, by omega⟩) hS (fun _ _ h => h) (fun _ h => h) (fun _ _ h => h) (fun E ce q9 S212 t H1 locs ht hal _ hq hz9 hk9 hS hq9 hvm9 hfc9 => hq.1.elim) (fun r211 S212 t H1 locs ht _ h hw1 _ _ hS => ?_)
                subst ht
                have hw : wd D y z S212 A t.heap := hw1
                clear hw1 h1
                have hcu : (cu + k213) + (mc - k213) ≤ MC := by omega
                have hsu : (su + n214) + (ms - n214) ≤ MS := by omega
                refine lv_istore hx hb dL_law_616 hl (by decide) rfl (fun ls hl => ?_)
                have hl : lv_has ls 23 [(20, .int r211), (0, .ref p1), (1, .ref v1), (3, .int v3), (4, .int v4), (5, .ref v5), (6, .ref v6), (7, .int v7), (8, .int v8), (9, .int v9), (13, .ref v13), (14, .ref v14), (15, .ref v15), (16, .int v16), (18, .int v18), (19, .int v19)] := hl
                refine lv_aload_n hx hb dL_law_618 rfl (lv_at hl 2 rfl) ?_
                refine lv_iload hx hb dL_law_619 (lv_at hl 0 rfl) ?_
                refine lv_iconst (v := (0 : Int32)) hx hb dL_law_621 (by decide) ?_
                obtain ⟨hk215, h⟩ := h
                obtain ⟨k218, n219, hbg1, hbg2, h⟩ := h
                have h1 := h
                refine vx_calli (vx_runV (As := [.int r211, .int (0 : Int32)]) (rest := []) ⟨hx, hb, hml, hown, hts⟩ (m_X5_carrier (l := l) hl0 h1) (cwV 2 hts gL_law_X5_carrier rfl rfl rfl (by decide +kernel) ⟨Nat.le_trans (Nat.le_of_ble_eq_true rfl) hRf, Nat.le_trans (Nat.le_of_ble_eq_true rfl) hRl⟩) (r_pV hB hw hS (ce_7 (S := S212) hk215) rfl) rfl rfl hl.1 rfl (lv_room (Nat.le_of_ble_eq_true rfl)) dL_law_622 ⟨by omega, by omega⟩) hS (fun _ _ h => h) (fun _ h => h) (fun _ _ h => h) (fun E ce q9 S217 t H1 locs ht hal _ hq hz9 hk9 hS hq9 hvm9 hfc9 => hq.1.elim) (fun r216 S217 t H1 locs ht _ h hw1 _ _ hS => ?_)
                subst ht
                have hw : wd D y z S217 A t.heap := hw1
                clear hw1 h1
                have hcu : ((cu + k213) + k218) + ((mc - k213) - k218) ≤ MC := by omega
                have hsu : ((su + n214) + n219) + ((ms - n214) - n219) ≤ MS := by omega
                refine lv_iconst (v := (1 : Int32)) hx hb dL_law_625 (by decide) ?_
                refine lv_icmp_ne (tgt := 721) hx hb dL_law_626 (by decide) (fun hc => ?_) (fun hc => ?_)
                · have h := h.1 hc
                  exact hB721 _ _ _ _ _ _ _ _ _ h hw hS (lv_sub hl [] rfl) hcu hsu hd0
                · have h := h.2 hc
                  refine lv_aload_n hx hb dL_law_629 rfl (lv_at hl 2 rfl) ?_
                  refine lv_iload hx hb dL_law_630 (lv_at hl 0 rfl) ?_
                  refine lv_iconst (v := (1 : Int32)) hx hb dL_law_632 (by decide) ?_
                  obtain ⟨hk220, h⟩ := h
                  obtain ⟨k223, n224, hbg1, hbg2, h⟩ := h
                  have h1 := h
                  refine vx_calli (vx_runV (As := [.int r211, .int (1 : Int32)]) (rest := []) ⟨hx, hb, hml, hown, hts⟩ (m_X5_carrier (l := l) hl0 h1) (cwV 2 hts gL_law_X5_carrier rfl rfl rfl (by decide +kernel) ⟨Nat.le_trans (Nat.le_of_ble_eq_true rfl) hRf, Nat.le_trans (Nat.le_of_ble_eq_true rfl) hRl⟩) (r_pV hB hw hS (ce_7 (S := S217) hk220) rfl) rfl rfl hl.1 rfl (lv_room (Nat.le_of_ble_eq_true rfl)) dL_law_633 ⟨by omega, by omega⟩) hS (fun _ _ h => h) (fun _ h => h) (fun _ _ h => h) (fun E ce q9 S222 t H1 locs ht hal _ hq hz9 hk9 hS hq9 hvm9 hfc9 => hq.1.elim) (fun r221 S222 t H1 locs ht _ h hw1 _ _ hS => ?_)
                  subst ht
                  have hw : wd D y z S222 A t.heap := hw1
                  clear hw1 h1
                  have hcu : (((cu + k213) + k218) + k223) + (((mc - k213) - k218) - k223) ≤ MC := by omega
                  have hsu : (((su + n214) + n219) + n224) + (((ms - n214) - n219) - n224) ≤ MS := by omega
                  refine lv_iload hx hb dL_law_636 (lv_at hl 14 rfl) ?_
                  refine lv_icmp_ne (tgt := 721) hx hb dL_law_638 (by decide) (fun hc => ?_) (fun hc => ?_)
                  · have h := h.1 hc
                    exact hB721 _ _ _ _ _ _ _ _ _ h hw hS (lv_sub hl [] rfl) hcu hsu hd0
                  · have h := h.2 hc
                    refine lv_iload hx hb dL_law_641 (lv_at hl 15 rfl) ?_
                    refine lv_if_le (tgt := 723) hx hb dL_law_643 (by decide) (fun hc => ?_) (fun hc => ?_)
                    · have h := h.1 hc
                      exact hB723 _ _ _ _ _ _ _ _ _ _ _ _ _ _ _ _ _ _ _ _ _ _ _ h hw hS (lv_sub hl [1, 2, 3, 4, 5, 6, 7, 8, 9, 10, 11, 12, 13, 14, 15] rfl) hcu hsu hd0
                    · have h := h.2 hc
                      refine lv_aload_n hx hb dL_law_646 rfl (lv_at hl 2 rfl) ?_
                      refine lv_iload hx hb dL_law_647 (lv_at hl 0 rfl) ?_
                      refine lv_iconst (v := (3 : Int32)) hx hb dL_law_649 (by decide) ?_
                      obtain ⟨hk225, h⟩ := h
                      obtain ⟨k228, n229, hbg1, hbg2, h⟩ := h
                      have h1 := h
                      refine vx_calli (vx_runV (As := [.int r211, .int (3 : Int32)]) (rest := []) ⟨hx, hb, hml, hown, hts⟩ (m_X5_carrier (l := l) hl0 h1) (cwV 2 hts gL_law_X5_carrier rfl rfl rfl (by decide +kernel) ⟨Nat.le_trans (Nat.le_of_ble_eq_true rfl) hRf, Nat.le_trans (Nat.le_of_ble_eq_true rfl) hRl⟩) (r_pV hB hw hS (ce_7 (S := S222) hk225) rfl) rfl rfl hl.1 rfl (lv_room (Nat.le_of_ble_eq_true rfl)) dL_law_650 ⟨by omega, by omega⟩) hS (fun _ _ h => h) (fun _ h => h) (fun _ _ h => h) (fun E ce q9 S227 t H1 locs ht hal _ hq hz9 hk9 hS hq9 hvm9 hfc9 => hq.1.elim) (fun r226 S227 t H1 locs ht _ h hw1 _ _ hS => ?_)
                      subst ht
                      have hw : wd D y z S227 A t.heap := hw1
                      clear hw1 h1
                      have hcu : ((((cu + k213) + k218) + k223) + k228) + ((((mc - k213) - k218) - k223) - k228) ≤ MC := by omega
                      have hsu : ((((su + n214) + n219) + n224) + n229) + ((((ms - n214) - n219) - n224) - n229) ≤ MS := by omega
                      refine lv_aload_n hx hb dL_law_653 rfl (lv_at hl 2 rfl) ?_
                      refine lv_aload_n hx hb dL_law_654 rfl (lv_at hl 2 rfl) ?_
                      refine lv_iload hx hb dL_law_655 (lv_at hl 14 rfl) ?_
                      refine lv_iload hx hb dL_law_657 (lv_at hl 15 rfl) ?_
                      refine lv_iconst (v := (1 : Int32)) hx hb dL_law_659 (by decide) ?_
                      refine lv_isub hx hb dL_law_660 ?_
                      obtain ⟨hk230, h⟩ := h
                      obtain ⟨k233, n234, hbg1, hbg2, h⟩ := h
                      have h1 := h
                      refine vx_calli (vx_runV (As := [.int v18, .int (v19 - (1 : Int32))]) (rest := [.ref v1, .int r226]) ⟨hx, hb, hml, hown, hts⟩ (m_X5_there (l := l) hl0 h1) (cwV 2 hts gL_law_X5_there rfl rfl rfl (by decide +kernel) ⟨Nat.le_trans (Nat.le_of_ble_eq_true rfl) hRf, Nat.le_trans (Nat.le_of_ble_eq_true rfl) hRl⟩) (r_pV hB hw hS (ce_7 (S := S227) hk230) rfl) rfl rfl hl.1 rfl (lv_room (Nat.le_of_ble_eq_true rfl)) dL_law_661 ⟨by omega, by omega⟩) hS (fun _ _ h => h) (fun _ h => h) (fun _ _ h => h) (fun E ce q9 S232 t H1 locs ht hal _ hq hz9 hk9 hS hq9 hvm9 hfc9 => hq.1.elim) (fun r231 S232 t H1 locs ht _ h hw1 _ _ hS => ?_)
                      subst ht
                      have hw : wd D y z S232 A t.heap := hw1
                      clear hw1 h1
                      have hcu : (((((cu + k213) + k218) + k223) + k228) + k233) + (((((mc - k213) - k218) - k223) - k228) - k233) ≤ MC := by omega
                      have hsu : (((((su + n214) + n219) + n224) + n229) + n234) + (((((ms - n214) - n219) - n224) - n229) - n234) ≤ MS := by omega
                      refine lv_iconst (v := (3 : Int32)) hx hb dL_law_664 (by decide) ?_
                      obtain ⟨hk235, h⟩ := h
                      obtain ⟨k238, n239, hbg1, hbg2, h⟩ := h
                      have h1 := h
                      refine vx_calli (vx_runV (As := [.int r231, .int (3 : Int32)]) (rest := [.int r226]) ⟨hx, hb, hml, hown, hts⟩ (m_X5_carrier (l := l) hl0 h1) (cwV 2 hts gL_law_X5_carrier rfl rfl rfl (by decide +kernel) ⟨Nat.le_trans (Nat.le_of_ble_eq_true rfl) hRf, Nat.le_trans (Nat.le_of_ble_eq_true rfl) hRl⟩) (r_pV hB hw hS (ce_7 (S := S232) hk235) rfl) rfl rfl hl.1 rfl (lv_room (Nat.le_of_ble_eq_true rfl)) dL_law_665 ⟨by omega, by omega⟩) hS (fun _ _ h => h) (fun _ h => h) (fun _ _ h => h) (fun E ce q9 S237 t H1 locs ht hal _ hq hz9 hk9 hS hq9 hvm9 hfc9 => hq.1.elim) (fun r236 S237 t H1 locs ht _ h hw1 _ _ hS => ?_)
                      subst ht
                      have hw : wd D y z S237 A t.heap := hw1
                      clear hw1 h1
                      have hcu : ((((((cu + k213) + k218) + k223) + k228) + k233) + k238) + ((((((mc - k213) - k218) - k223) - k228) - k233) - k238) ≤ MC := by omega
                      have hsu : ((((((su + n214) + n219) + n224) + n229) + n234) + n239) + ((((((ms - n214) - n219) - n224) - n229) - n234) - n239) ≤ MS := by omega
                      refine lv_icmp_gt (tgt := 721) hx hb dL_law_668 (by decide) (fun hc => ?_) (fun hc => ?_)
                      · have h := h.1 hc
                        exact hB721 _ _ _ _ _ _ _ _ _ h hw hS (lv_sub hl [] rfl) hcu hsu hd0
                      · have h := h.2 hc
                        refine lv_aload_n hx hb dL_law_671 rfl (lv_at hl 2 rfl) ?_
                        refine lv_iload hx hb dL_law_672 (lv_at hl 0 rfl) ?_
                        refine lv_iconst (v := (3 : Int32)) hx hb dL_law_674 (by decide) ?_
                        obtain ⟨hk240, h⟩ := h
                        obtain ⟨k243, n244, hbg1, hbg2, h⟩ := h
                        have h1 := h
                        refine vx_calli (vx_runV (As := [.int r211, .int (3 : Int32)]) (rest := []) ⟨hx, hb, hml, hown, hts⟩ (m_X5_carrier (l := l) hl0 h1) (cwV 2 hts gL_law_X5_carrier rfl rfl rfl (by decide +kernel) ⟨Nat.le_trans (Nat.le_of_ble_eq_true rfl) hRf, Nat.le_trans (Nat.le_of_ble_eq_true rfl) hRl⟩) (r_pV hB hw hS (ce_7 (S := S237) hk240) rfl) rfl rfl hl.1 rfl (lv_room (Nat.le_of_ble_eq_true rfl)) dL_law_675 ⟨by omega, by omega⟩) hS (fun _ _ h => h) (fun _ h => h) (fun _ _ h => h) (fun E ce q9 S242 t H1 locs ht hal _ hq hz9 hk9 hS hq9 hvm9 hfc9 => hq.1.elim) (fun r241 S242 t H1 locs ht _ h hw1 _ _ hS => ?_)
                        subst ht
                        have hw : wd D y z S242 A t.heap := hw1
                        clear hw1 h1
                        have hcu : (((((((cu + k213) + k218) + k223) + k228) + k233) + k238) + k243) + (((((((mc - k213) - k218) - k223) - k228) - k233) - k238) - k243) ≤ MC := by omega
                        have hsu : (((((((su + n214) + n219) + n224) + n229) + n234) + n239) + n244) + (((((((ms - n214) - n219) - n224) - n229) - n234) - n239) - n244) ≤ MS := by omega
                        refine lv_aload_n hx hb dL_law_678 rfl (lv_at hl 2 rfl) ?_
                        refine lv_aload_n hx hb dL_law_679 rfl (lv_at hl 2 rfl) ?_
                        refine lv_iload hx hb dL_law_680 (lv_at hl 14 rfl) ?_
                        refine lv_iload hx hb dL_law_682 (lv_at hl 15 rfl) ?_
                        refine lv_iconst (v := (1 : Int32)) hx hb dL_law_684 (by decide) ?_
                        refine lv_isub hx hb dL_law_685 ?_
                        obtain ⟨hk245, h⟩ := h
                        obtain ⟨k248, n249, hbg1, hbg2, h⟩ := h
                        have h1 := h
                        refine vx_calli (vx_runV (As := [.int v18, .int (v19 - (1 : Int32))]) (rest := [.ref v1, .int r241]) ⟨hx, hb, hml, hown, hts⟩ (m_X5_there (l := l) hl0 h1) (cwV 2 hts gL_law_X5_there rfl rfl rfl (by decide +kernel) ⟨Nat.le_trans (Nat.le_of_ble_eq_true rfl) hRf, Nat.le_trans (Nat.le_of_ble_eq_true rfl) hRl⟩) (r_pV hB hw hS (ce_7 (S := S242) hk245) rfl) rfl rfl hl.1 rfl (lv_room (Nat.le_of_ble_eq_true rfl)) dL_law_686 ⟨by omega, by omega⟩) hS (fun _ _ h => h) (fun _ h => h) (fun _ _ h => h) (fun E ce q9 S247 t H1 locs ht hal _ hq hz9 hk9 hS hq9 hvm9 hfc9 => hq.1.elim) (fun r246 S247 t H1 locs ht _ h hw1 _ _ hS => ?_)
                        subst ht
                        have hw : wd D y z S247 A t.heap := hw1
                        clear hw1 h1
                        have hcu : ((((((((cu + k213) + k218) + k223) + k228) + k233) + k238) + k243) + k248) + ((((((((mc - k213) - k218) - k223) - k228) - k233) - k238) - k243) - k248) ≤ MC := by omega
                        have hsu : ((((((((su + n214) + n219) + n224) + n229) + n234) + n239) + n244) + n249) + ((((((((ms - n214) - n219) - n224) - n229) - n234) - n239) - n244) - n249) ≤ MS := by omega
                        refine lv_iconst (v := (3 : Int32)) hx hb dL_law_689 (by decide) ?_
                        obtain ⟨hk250, h⟩ := h
                        obtain ⟨k253, n254, hbg1, hbg2, h⟩ := h
                        have h1 := h
                        refine vx_calli (vx_runV (As := [.int r246, .int (3 : Int32)]) (rest := [.int r241]) ⟨hx, hb, hml, hown, hts⟩ (m_X5_carrier (l := l) hl0 h1) (cwV 2 hts gL_law_X5_carrier rfl rfl rfl (by decide +kernel) ⟨Nat.le_trans (Nat.le_of_ble_eq_true rfl) hRf, Nat.le_trans (Nat.le_of_ble_eq_true rfl) hRl⟩) (r_pV hB hw hS (ce_7 (S := S247) hk250) rfl) rfl rfl hl.1 rfl (lv_room (Nat.le_of_ble_eq_true rfl)) dL_law_690 ⟨by omega, by omega⟩) hS (fun _ _ h => h) (fun _ h => h) (fun _ _ h => h) (fun E ce q9 S252 t H1 locs ht hal _ hq hz9 hk9 hS hq9 hvm9 hfc9 => hq.1.elim) (fun r251 S252 t H1 locs ht _ h hw1 _ _ hS => ?_)
                        subst ht
                        have hw : wd D y z S252 A t.heap := hw1
                        clear hw1 h1
                        have hcu : (((((((((cu + k213) + k218) + k223) + k228) + k233) + k238) + k243) + k248) + k253) + (((((((((mc - k213) - k218) - k223) - k228) - k233) - k238) - k243) - k248) - k253) ≤ MC := by omega
                        have hsu : (((((((((su + n214) + n219) + n224) + n229) + n234) + n239) + n244) + n249) + n254) + (((((((((ms - n214) - n219) - n224) - n229) - n234) - n239) - n244) - n249) - n254) ≤ MS := by omega
                        refine lv_icmp_ne (tgt := 723) hx hb dL_law_693 (by decide) (fun hc => ?_) (fun hc => ?_)
                        · have h := h.1 hc
                          exact hB723 _ _ _ _ _ _ _ _ _ _ _ _ _ _ _ _ _ _ _ _ _ _ _ h hw hS (lv_sub hl [1, 2, 3, 4, 5, 6, 7, 8, 9, 10, 11, 12, 13, 14, 15] rfl) hcu hsu hd0
                        · have h := h.2 hc
                          refine lv_aload_n hx hb dL_law_696 rfl (lv_at hl 2 rfl) ?_
                          refine lv_iload hx hb dL_law_697 (lv_at hl 0 rfl) ?_
                          refine lv_iconst (v := (5 : Int32)) hx hb dL_law_699 (by decide) ?_
                          obtain ⟨hk255, h⟩ := h
                          obtain ⟨k258, n259, hbg1, hbg2, h⟩ := h
                          have h1 := h
                          refine vx_calli (vx_runV (As := [.int r211, .int (5 : Int32)]) (rest := []) ⟨hx, hb, hml, hown, hts⟩ (m_X5_carrier (l := l) hl0 h1) (cwV 2 hts gL_law_X5_carrier rfl rfl rfl (by decide +kernel) ⟨Nat.le_trans (Nat.le_of_ble_eq_true rfl) hRf, Nat.le_trans (Nat.le_of_ble_eq_true rfl) hRl⟩) (r_pV hB hw hS (ce_7 (S := S252) hk255) rfl) rfl rfl hl.1 rfl (lv_room (Nat.le_of_ble_eq_true rfl)) dL_law_700 ⟨by omega, by omega⟩) hS (fun _ _ h => h) (fun _ h => h) (fun _ _ h => h) (fun E ce q9 S257 t H1 locs ht hal _ hq hz9 hk9 hS hq9 hvm9 hfc9 => hq.1.elim) (fun r256 S257 t H1 locs ht _ h hw1 _ _ hS => ?_)
                          subst ht
                          have hw : wd D y z S257 A t.heap := hw1
                          clear hw1 h1
                          have hcu : ((((((((((cu + k213) + k218) + k223) + k228) + k233) + k238) + k243) + k248) + k253) + k258) + ((((((((((mc - k213) - k218) - k223) - k228) - k233) - k238) - k243) - k248) - k253) - k258) ≤ MC := by omega
                          have hsu : ((((((((((su + n214) + n219) + n224) + n229) + n234) + n239) + n244) + n249) + n254) + n259) + ((((((((((ms - n214) - n219) - n224) - n229) - n234) - n239) - n244) - n249) - n254) - n259) ≤ MS := by omega
                          refine lv_aload_n hx hb dL_law_703 rfl (lv_at hl 2 rfl) ?_
                          refine lv_aload_n hx hb dL_law_704 rfl (lv_at hl 2 rfl) ?_
                          refine lv_iload hx hb dL_law_705 (lv_at hl 14 rfl) ?_
                          refine lv_iload hx hb dL_law_707 (lv_at hl 15 rfl) ?_
                          refine lv_iconst (v := (1 : Int32)) hx hb dL_law_709 (by decide) ?_
                          refine lv_isub hx hb dL_law_710 ?_
                          obtain ⟨hk260, h⟩ := h
                          obtain ⟨k263, n264, hbg1, hbg2, h⟩ := h
                          have h1 := h
                          refine vx_calli (vx_runV (As := [.int v18, .int (v19 - (1 : Int32))]) (rest := [.ref v1, .int r256]) ⟨hx, hb, hml, hown, hts⟩ (m_X5_there (l := l) hl0 h1) (cwV 2 hts gL_law_X5_there rfl rfl rfl (by decide +kernel) ⟨Nat.le_trans (Nat.le_of_ble_eq_true rfl) hRf, Nat.le_trans (Nat.le_of_ble_eq_true rfl) hRl⟩) (r_pV hB hw hS (ce_7 (S := S257) hk260) rfl) rfl rfl hl.1 rfl (lv_room (Nat.le_of_ble_eq_true rfl)) dL_law_711 ⟨by omega, by omega⟩) hS (fun _ _ h => h) (fun _ h => h) (fun _ _ h => h) (fun E ce q9 S262 t H1 locs ht hal _ hq hz9 hk9 hS hq9 hvm9 hfc9 => hq.1.elim) (fun r261 S262 t H1 locs ht _ h hw1 _ _ hS => ?_)
                          subst ht
                          have hw : wd D y z S262 A t.heap := hw1
                          clear hw1 h1
                          have hcu : (((((((((((cu + k213) + k218) + k223) + k228) + k233) + k238) + k243) + k248) + k253) + k258) + k263) + (((((((((((mc - k213) - k218) - k223) - k228) - k233) - k238) - k243) - k248) - k253) - k258) - k263) ≤ MC := by omega
                          have hsu : (((((((((((su + n214) + n219) + n224) + n229) + n234) + n239) + n244) + n249) + n254) + n259) + n264) + (((((((((((ms - n214) - n219) - n224) - n229) - n234) - n239) - n244) - n249) - n254) - n259) - n264) ≤ MS := by omega
                          refine lv_iconst (v := (5 : Int32)) hx hb dL_law_714 (by decide) ?_
                          obtain ⟨hk265, h⟩ := h
                          obtain ⟨k268, n269, hbg1, hbg2, h⟩ := h
                          have h1 := h
                          refine vx_calli (vx_runV (As := [.int r261, .int (5 : Int32)]) (rest := [.int r256]) ⟨hx, hb, hml, hown, hts⟩ (m_X5_carrier (l := l) hl0 h1) (cwV 2 hts gL_law_X5_carrier rfl rfl rfl (by decide +kernel) ⟨Nat.le_trans (Nat.le_of_ble_eq_true rfl) hRf, Nat.le_trans (Nat.le_of_ble_eq_true rfl) hRl⟩) (r_pV hB hw hS (ce_7 (S := S262) hk265) rfl) rfl rfl hl.1 rfl (lv_room (Nat.le_of_ble_eq_true rfl)) dL_law_715 ⟨by omega, by omega⟩) hS (fun _ _ h => h) (fun _ h => h) (fun _ _ h => h) (fun E ce q9 S267 t H1 locs ht hal _ hq hz9 hk9 hS hq9 hvm9 hfc9 => hq.1.elim) (fun r266 S267 t H1 locs ht _ h hw1 _ _ hS => ?_)
                          subst ht
                          have hw : wd D y z S267 A t.heap := hw1
                          clear hw1 h1
                          have hcu : ((((((((((((cu + k213) + k218) + k223) + k228) + k233) + k238) + k243) + k248) + k253) + k258) + k263) + k268) + ((((((((((((mc - k213) - k218) - k223) - k228) - k233) - k238) - k243) - k248) - k253) - k258) - k263) - k268) ≤ MC := by omega
                          have hsu : ((((((((((((su + n214) + n219) + n224) + n229) + n234) + n239) + n244) + n249) + n254) + n259) + n264) + n269) + ((((((((((((ms - n214) - n219) - n224) - n229) - n234) - n239) - n244) - n249) - n254) - n259) - n264) - n269) ≤ MS := by omega
                          refine lv_icmp_ge (tgt := 723) hx hb dL_law_718 (by decide) (fun hc => ?_) (fun hc => ?_)
                          · have h := h.1 hc
                            exact hB723 _ _ _ _ _ _ _ _ _ _ _ _ _ _ _ _ _ _ _ _ _ _ _ h hw hS (lv_sub hl [1, 2, 3, 4, 5, 6, 7, 8, 9, 10, 11, 12, 13, 14, 15] rfl) hcu hsu hd0
                          · have h := h.2 hc
                            exact hB721 _ _ _ _ _ _ _ _ _ h hw hS (lv_sub hl [] rfl) hcu hsu hd0
          intro S H locs ls mc ms cu su d0 v1 v3 v4 v5 v6 v7 v8 v9 v13 v14 v15 v16 v18 h hw hS hl hcu hsu hd0
          unfold wb_L_law_542 at h
          have hB := hB0 d0
          have htx := dr_words hts0 d0
          have hts : ∀ w ∈ wsL_law, w.before _ (s.setDrawn d0) = true := htx
          have hown : (s.setDrawn d0).vm.findClass RL = some m.cls := hown0
          have hK : va_K D bCl (bT y) (s.setDrawn d0) := hB.2.1
          have hNw := hB.2.2.1
          have hO := hB.2.2.2.2.2.1
          have hX := hX0 d0
          refine lv_iload hx hb dL_law_542 (lv_at hl 13 rfl) ?_
          refine lv_iload_n hx hb dL_law_544 rfl (lv_at hl 2 rfl) ?_
          refine lv_icmp_ge (tgt := 735) hx hb dL_law_545 (by decide) (fun hc => ?_) (fun hc => ?_)
          · have h := h.1 hc
            refine lv_iconst (v := (0 : Int32)) hx hb dL_law_735 (by decide) ?_
            refine lv_istore hx hb dL_law_736 hl (by decide) rfl (fun ls hl => ?_)
            have hl : lv_has ls 23 [(18, .int (0 : Int32)), (0, .ref p1), (1, .ref v1), (3, .int v3), (4, .int v4), (5, .ref v5), (6, .ref v6), (7, .int v7), (8, .int v8), (9, .int v9), (13, .ref v13), (14, .ref v14), (15, .ref v15), (16, .int v16)] := hl
            refine lv_iconst (v := (0 : Int32)) hx hb dL_law_738 (by decide) ?_
            refine lv_istore hx hb dL_law_739 hl (by decide) rfl (fun ls hl => ?_)
            have hl : lv_has ls 23 [(19, .int (0 : Int32)), (18, .int (0 : Int32)), (0, .ref p1), (1, .ref v1), (3, .int v3), (4, .int v4), (5, .ref v5), (6, .ref v6), (7, .int v7), (8, .int v8), (9, .int v9), (13, .ref v13), (14, .ref v14), (15, .ref v15), (16, .int v16)] := hl
            obtain ⟨n741, h⟩ := h
            exact hB741 n741 _ _ _ _ _ _ _ _ _ _ _ _ _ _ _ _ _ _ _ _ _ h hw hS (lv_sub hl [2, 3, 4, 5, 6, 7, 8, 9, 10, 12, 14, 1, 0] rfl) hcu hsu hd0
          · have h := h.2 hc
            refine lv_aload_n hx hb dL_law_548 rfl (lv_at hl 1 rfl) ?_
            refine lv_iload hx hb dL_law_549 (lv_at hl 13 rfl) ?_
            refine lv_iconst (v := (4 : Int32)) hx hb dL_law_551 (by decide) ?_
            obtain ⟨hk188, h⟩ := h
            obtain ⟨k191, n192, hbg1, hbg2, h⟩ := h
            have h1 := h
            refine vx_calli (vx_runV (As := [.int v18, .int (4 : Int32)]) (rest := []) ⟨hx, hb, hml, hown, hts⟩ (m_X5_station (l := l) hl0 h1) (cwV 2 hts gL_law_X5_station rfl rfl rfl (by decide +kernel) ⟨Nat.le_trans (Nat.le_of_ble_eq_true rfl) hRf, Nat.le_trans (Nat.le_of_ble_eq_true rfl) hRl⟩) (r_pV hB hw hS (ce_7 (S := S) hk188) rfl) rfl rfl hl.1 rfl (lv_room (Nat.le_of_ble_eq_true rfl)) dL_law_552 ⟨by omega, by omega⟩) hS (fun _ _ h => h) (fun _ h => h) (fun _ _ h => h) (fun E ce q9 S190 t H1 locs ht hal _ hq hz9 hk9 hS hq9 hvm9 hfc9 => hq.1.elim) (fun r189 S190 t H1 locs ht _ h hw1 _ _ hS => ?_)
            subst ht
            have hw : wd D y z S190 A t.heap := hw1
            clear hw1 h1
            have hcu : (cu + k191) + (mc - k191) ≤ MC := by omega
            have hsu : (su + n192) + (ms - n192) ≤ MS := by omega
            refine lv_aload hx hb dL_law_555 (lv_at hl 9 rfl) ?_
            refine lv_iload hx hb dL_law_557 (lv_at hl 13 rfl) ?_
            obtain ⟨hk193, h⟩ := h
            obtain ⟨hin194, h⟩ := h
            refine r_iald hx hb hK hw hk193 hin194 dL_law_559 ?_
            refine lv_icmp_ne (tgt := 593) hx hb dL_law_560 (by decide) (fun hc => ?_) (fun hc => ?_)
            · have h := h.1 hc
              exact hB593 _ _ _ _ _ _ _ _ _ h hw hS (lv_sub hl [] rfl) hcu hsu hd0
            · have h := h.2 hc
              refine lv_aload hx hb dL_law_563 (lv_at hl 9 rfl) ?_
              refine lv_iload hx hb dL_law_565 (lv_at hl 13 rfl) ?_
              obtain ⟨hin195, h⟩ := h
              refine r_iald hx hb hK hw hk193 hin195 dL_law_567 ?_
              refine lv_aload_n hx hb dL_law_568 rfl (lv_at hl 1 rfl) ?_
              refine lv_iload hx hb dL_law_569 (lv_at hl 13 rfl) ?_
              refine lv_iconst (v := (0 : Int32)) hx hb dL_law_571 (by decide) ?_
              obtain ⟨hk196, h⟩ := h
              obtain ⟨k199, n200, hbg1, hbg2, h⟩ := h
              have h1 := h
              refine vx_calli (vx_runV (As := [.int v18, .int (0 : Int32)]) (rest := [.int (gV S190 9 v13 (Int32.toNatClampNeg v18))]) ⟨hx, hb, hml, hown, hts⟩ (m_X5_station (l := l) hl0 h1) (cwV 2 hts gL_law_X5_station rfl rfl rfl (by decide +kernel) ⟨Nat.le_trans (Nat.le_of_ble_eq_true rfl) hRf, Nat.le_trans (Nat.le_of_ble_eq_true rfl) hRl⟩) (r_pV hB hw hS (ce_7 (S := S190) hk196) rfl) rfl rfl hl.1 rfl (lv_room (Nat.le_of_ble_eq_true rfl)) dL_law_572 ⟨by omega, by omega⟩) hS (fun _ _ h => h) (fun _ h => h) (fun _ _ h => h) (fun E ce q9 S198 t H1 locs ht hal _ hq hz9 hk9 hS hq9 hvm9 hfc9 => hq.1.elim) (fun r197 S198 t H1 locs ht _ h hw1 _ _ hS => ?_)
              subst ht
              have hw : wd D y z S198 A t.heap := hw1
              clear hw1 h1
              have hcu : ((cu + k191) + k199) + ((mc - k191) - k199) ≤ MC := by omega
              have hsu : ((su + n192) + n200) + ((ms - n192) - n200) ≤ MS := by omega
              refine lv_icmp_gt (tgt := 593) hx hb dL_law_575 (by decide) (fun hc => ?_) (fun hc => ?_)
              · have h := h.1 hc
                exact hB593 _ _ _ _ _ _ _ _ _ h hw hS (lv_sub hl [] rfl) hcu hsu hd0
              · have h := h.2 hc
                refine lv_aload_n hx hb dL_law_578 rfl (lv_at hl 1 rfl) ?_
                refine lv_iload hx hb dL_law_579 (lv_at hl 13 rfl) ?_
                refine lv_iconst (v := (5 : Int32)) hx hb dL_law_581 (by decide) ?_
                obtain ⟨hk201, h⟩ := h
                obtain ⟨k204, n205, hbg1, hbg2, h⟩ := h
                have h1 := h
                refine vx_calli (vx_runV (As := [.int v18, .int (5 : Int32)]) (rest := []) ⟨hx, hb, hml, hown, hts⟩ (m_X5_station (l := l) hl0 h1) (cwV 2 hts gL_law_X5_station rfl rfl rfl (by decide +kernel) ⟨Nat.le_trans (Nat.le_of_ble_eq_true rfl) hRf, Nat.le_trans (Nat.le_of_ble_eq_true rfl) hRl⟩) (r_pV hB hw hS (ce_7 (S := S198) hk201) rfl) rfl rfl hl.1 rfl (lv_room (Nat.le_of_ble_eq_true rfl)) dL_law_582 ⟨by omega, by omega⟩) hS (fun _ _ h => h) (fun _ h => h) (fun _ _ h => h) (fun E ce q9 S203 t H1 locs ht hal _ hq hz9 hk9 hS hq9 hvm9 hfc9 => hq.1.elim) (fun r202 S203 t H1 locs ht _ h hw1 _ _ hS => ?_)
                subst ht
                have hw : wd D y z S203 A t.heap := hw1
                clear hw1 h1
                have hcu : (((cu + k191) + k199) + k204) + (((mc - k191) - k199) - k204) ≤ MC := by omega
                have hsu : (((su + n192) + n200) + n205) + (((ms - n192) - n200) - n205) ≤ MS := by omega
                refine lv_aload hx hb dL_law_585 (lv_at hl 11 rfl) ?_
                refine lv_iload hx hb dL_law_587 (lv_at hl 13 rfl) ?_
                obtain ⟨hk206, h⟩ := h
                obtain ⟨hin207, h⟩ := h
                refine r_iald hx hb hK hw hk206 hin207 dL_law_589 ?_
                refine lv_icmp_eq (tgt := 595) hx hb dL_law_590 (by decide) (fun hc => ?_) (fun hc => ?_)
                · have h := h.1 hc
                  refine lv_iconst (v := (0 : Int32)) hx hb dL_law_595 (by decide) ?_
                  refine lv_istore hx hb dL_law_596 hl (by decide) rfl (fun ls hl => ?_)
                  have hl : lv_has ls 23 [(19, .int (0 : Int32)), (0, .ref p1), (1, .ref v1), (3, .int v3), (4, .int v4), (5, .ref v5), (6, .ref v6), (7, .int v7), (8, .int v8), (9, .int v9), (13, .ref v13), (14, .ref v14), (15, .ref v15), (16, .int v16), (18, .int v18)] := hl
                  obtain ⟨n598, h⟩ := h
                  exact hB598 n598 _ _ _ _ _ _ _ _ _ _ _ _ _ _ _ _ _ _ _ _ _ _ _ h hw hS (lv_sub hl [1, 2, 3, 4, 5, 6, 7, 8, 9, 10, 11, 12, 13, 14, 0] rfl) hcu hsu hd0
                · have h := h.2 hc
                  exact hB593 _ _ _ _ _ _ _ _ _ h hw hS (lv_sub hl [] rfl) hcu hsu hd0
      have hB309 : ∀ (n309 : Nat) (S : bS) (H : Heap) (locs : List Loc) (ls : Array Slot) (mc ms cu su : Nat) (d0 : Drawn) (v1 : Nat) (v3 : Int32) (v4 : Int32) (v5 : Nat) (v6 : Nat) (v7 : Int32) (v8 : Int32) (v9 : Int32) (v13 : Nat) (v14 : Nat) (v15 : Nat) (v16 : Int32) (v17 : Nat) (v18 : Int32), wb_L_law_309 xs L post (wb_L_law_105 xs L post n105) n309 mc ms v1 v3 v4 v5 v6 v7 v8 v9 v13 v14 v15 v16 v17 v18 S → wd D y z S A H → va_S A s.heap H locs → lv_has ls 23 [(0, .ref p1), (1, .ref v1), (3, .int v3), (4, .int v4), (5, .ref v5), (6, .ref v6), (7, .int v7), (8, .int v8), (9, .int v9), (13, .ref v13), (14, .ref v14), (15, .ref v15), (16, .int v16), (17, .ref v17), (18, .int v18)] → cu + mc ≤ MC → su + ms ≤ MS → s.drawn.sameBut d0 lw_cs → W p l e room_1 (s.setDrawn d0) m #[Value.ref p1] below meth c H locs cu su Q (F0 m 309 ls []) := by
        intro n309
        induction n309 with
        | zero =>
          intro S H locs ls mc ms cu su d0 v1 v3 v4 v5 v6 v7 v8 v9 v13 v14 v15 v16 v17 v18 h hw hS hl hcu hsu hd0
          exact absurd h (by unfold wb_L_law_309; exact id)
        | succ n309 ih309 =>
          have hB533 : ∀ (S : bS) (H : Heap) (locs : List Loc) (ls : Array Slot) (mc ms cu su : Nat) (d0 : Drawn) (v1 : Nat) (v3 : Int32) (v4 : Int32) (v5 : Nat) (v6 : Nat) (v7 : Int32) (v8 : Int32) (v9 : Int32) (v13 : Nat) (v14 : Nat) (v15 : Nat) (v16 : Int32) (v17 : Nat) (v18 : Int32), wb_L_law_533 xs L post (wb_L_law_105 xs L post n105) (wb_L_law_309 xs L post (wb_L_law_105 xs L post n105) n309) mc ms v1 v3 v4 v5 v6 v7 v8 v9 v13 v14 v15 v16 v17 v18 S → wd D y z S A H → va_S A s.heap H locs → lv_has ls 23 [(0, .ref p1), (1, .ref v1), (3, .int v3), (4, .int v4), (5, .ref v5), (6, .ref v6), (7, .int v7), (8, .int v8), (9, .int v9), (13, .ref v13), (14, .ref v14), (15, .ref v15), (16, .int v16), (17, .ref v17), (18, .int v18)] → cu + mc ≤ MC → su + ms ≤ MS → s.drawn.sameBut d0 lw_cs → W p l e room_1 (s.setDrawn d0) m #[Value.ref p1] below meth c H locs cu su Q (F0 m 533 ls []) := by
            intro S H locs ls mc ms cu su d0 v1 v3 v4 v5 v6 v7 v8 v9 v13 v14 v15 v16 v17 v18 h hw hS hl hcu hsu hd0
            unfold wb_L_law_533 at h
            have hB := hB0 d0
            have htx := dr_words hts0 d0
            have hts : ∀ w ∈ wsL_law, w.before _ (s.setDrawn d0) = true := htx
            have hown : (s.setDrawn d0).vm.findClass RL = some m.cls := hown0
            have hK : va_K D bCl (bT y) (s.setDrawn d0) := hB.2.1
            have hNw := hB.2.2.1
            have hO := hB.2.2.2.2.2.1
            have hX := hX0 d0
            refine lv_iinc (v := (v18 + (1 : Int32))) hx hb dL_law_533 hl (k := 14) rfl rfl (by decide) rfl (fun ls hl => ?_)
            have hl : lv_has ls 23 [(18, .int (v18 + (1 : Int32))), (0, .ref p1), (1, .ref v1), (3, .int v3), (4, .int v4), (5, .ref v5), (6, .ref v6), (7, .int v7), (8, .int v8), (9, .int v9), (13, .ref v13), (14, .ref v14), (15, .ref v15), (16, .int v16), (17, .ref v17)] := hl
            refine lv_goto (tgt := 309) hx hb dL_law_536 (by decide) ?_
            exact ih309 _ _ _ _ _ _ _ _ _ _ _ _ _ _ _ _ _ _ _ _ _ _ _ h hw hS (lv_sub hl [1, 2, 3, 4, 5, 6, 7, 8, 9, 10, 11, 12, 13, 14, 0] rfl) hcu hsu hd0
          have hB442 : ∀ (S : bS) (H : Heap) (locs : List Loc) (ls : Array Slot) (mc ms cu su : Nat) (d0 : Drawn) (v1 : Nat) (v3 : Int32) (v4 : Int32) (v5 : Nat) (v6 : Nat) (v7 : Int32) (v8 : Int32) (v9 : Int32) (v13 : Nat) (v14 : Nat) (v15 : Nat) (v16 : Int32) (v17 : Nat) (v18 : Int32) (v19 : Int32) (v20 : Int32) (v21 : Int32), wb_L_law_442 xs L post (wb_L_law_105 xs L post n105) (wb_L_law_309 xs L post (wb_L_law_105 xs L post n105) n309) mc ms v1 v3 v4 v5 v6 v7 v8 v9 v13 v14 v15 v16 v17 v18 v19 v20 v21 S → wd D y z S A H → va_S A s.heap H locs → lv_has ls 23 [(0, .ref p1), (1, .ref v1), (3, .int v3), (4, .int v4), (5, .ref v5), (6, .ref v6), (7, .int v7), (8, .int v8), (9, .int v9), (13, .ref v13), (14, .ref v14), (15, .ref v15), (16, .int v16), (17, .ref v17), (18, .int v18), (19, .int v19), (20, .int v20), (21, .int v21)] → cu + mc ≤ MC → su + ms ≤ MS → s.drawn.sameBut d0 lw_cs → W p l e room_1 (s.setDrawn d0) m #[Value.ref p1] below meth c H locs cu su Q (F0 m 442 ls []) := by
            intro S H locs ls mc ms cu su d0 v1 v3 v4 v5 v6 v7 v8 v9 v13 v14 v15 v16 v17 v18 v19 v20 v21 h hw hS hl hcu hsu hd0
            unfold wb_L_law_442 at h
            have hB := hB0 d0
            have htx := dr_words hts0 d0
            have hts : ∀ w ∈ wsL_law, w.before _ (s.setDrawn d0) = true := htx
            have hown : (s.setDrawn d0).vm.findClass RL = some m.cls := hown0
            have hK : va_K D bCl (bT y) (s.setDrawn d0) := hB.2.1
            have hNw := hB.2.2.1
            have hO := hB.2.2.2.2.2.1
            have hX := hX0 d0
            refine lv_iload hx hb dL_law_442 (lv_at hl 15 rfl) ?_
            refine lv_iconst (v := (3 : Int32)) hx hb dL_law_444 (by decide) ?_
            refine lv_icmp_ge (tgt := 451) hx hb dL_law_445 (by decide) (fun hc => ?_) (fun hc => ?_)
            · have h := h.1 hc
              refine lv_aload hx hb dL_law_451 (lv_at hl 11 rfl) ?_
              refine lv_iload hx hb dL_law_453 (lv_at hl 16 rfl) ?_
              refine lv_dup2_11 hx hb dL_law_455 rfl rfl ?_
              obtain ⟨hk155, h⟩ := h
              obtain ⟨hin156, h⟩ := h
              refine r_iald hx hb hK hw hk155 hin156 dL_law_456 ?_
              refine lv_iconst (v := (1 : Int32)) hx hb dL_law_457 (by decide) ?_
              refine lv_iadd hx hb dL_law_458 ?_
              obtain ⟨hin157, h⟩ := h
              refine r_iast hx hb hK hw hS hk155 hin157 dL_law_459 (fun H locs hw hS => ?_)
              refine lv_iload hx hb dL_law_460 (lv_at hl 12 rfl) ?_
              refine lv_iload hx hb dL_law_462 (lv_at hl 17 rfl) ?_
              refine lv_aload_n hx hb dL_law_464 rfl (lv_at hl 1 rfl) ?_
              refine lv_iload hx hb dL_law_465 (lv_at hl 14 rfl) ?_
              refine lv_iconst (v := (4 : Int32)) hx hb dL_law_467 (by decide) ?_
              obtain ⟨hk158, h⟩ := h
              obtain ⟨k161, n162, hbg1, hbg2, h⟩ := h
              have h1 := h
              refine vx_calli (vx_runV (As := [.int v18, .int (4 : Int32)]) (rest := [.int v21, .int v16]) ⟨hx, hb, hml, hown, hts⟩ (m_X5_carrier (l := l) hl0 h1) (cwV 2 hts gL_law_X5_carrier rfl rfl rfl (by decide +kernel) ⟨Nat.le_trans (Nat.le_of_ble_eq_true rfl) hRf, Nat.le_trans (Nat.le_of_ble_eq_true rfl) hRl⟩) (r_pV hB hw hS (ce_7 (S := (sV S 9 v15 (Int32.toNatClampNeg v20) ((gV S 9 v15 (Int32.toNatClampNeg v20)) + (1 : Int32)))) hk158) rfl) rfl rfl hl.1 rfl (lv_room (Nat.le_of_ble_eq_true rfl)) dL_law_468 ⟨by omega, by omega⟩) hS (fun _ _ h => h) (fun _ h => h) (fun _ _ h => h) (fun E ce q9 S160 t H1 locs ht hal _ hq hz9 hk9 hS hq9 hvm9 hfc9 => hq.1.elim) (fun r159 S160 t H1 locs ht _ h hw1 _ _ hS => ?_)
              subst ht
              have hw : wd D y z S160 A t.heap := hw1
              clear hw1 h1
              have hcu : (cu + k161) + (mc - k161) ≤ MC := by omega
              have hsu : (su + n162) + (ms - n162) ≤ MS := by omega
              refine lv_isub hx hb dL_law_471 ?_
              refine lv_iadd hx hb dL_law_472 ?_
              refine lv_istore hx hb dL_law_473 hl (by decide) rfl (fun ls hl => ?_)
              have hl : lv_has ls 23 [(16, .int (v16 + (v21 - r159))), (0, .ref p1), (1, .ref v1), (3, .int v3), (4, .int v4), (5, .ref v5), (6, .ref v6), (7, .int v7), (8, .int v8), (9, .int v9), (13, .ref v13), (14, .ref v14), (15, .ref v15), (17, .ref v17), (18, .int v18), (19, .int v19), (20, .int v20), (21, .int v21)] := hl
              refine lv_aload hx hb dL_law_475 (lv_at hl 5 rfl) ?_
              refine lv_aload hx hb dL_law_477 (lv_at hl 6 rfl) ?_
              refine lv_iload hx hb dL_law_479 (lv_at hl 14 rfl) ?_
              obtain ⟨hk163, h⟩ := h
              obtain ⟨hin164, h⟩ := h
              refine r_iald hx hb hK hw hk163 hin164 dL_law_481 ?_
              obtain ⟨hk165, h⟩ := h
              obtain ⟨hin166, h⟩ := h
              obtain ⟨b167, hb168, h⟩ := h
              refine r_rald hx hb hK hw hk165 hin166 dL_law_482 ?_
              rw [hb168]
              refine W.eq (g2 := F0 m 483 ls [.ref b167]) rfl ?_
              refine lv_iload hx hb dL_law_483 (lv_at hl 16 rfl) ?_
              obtain ⟨hk169, h⟩ := h
              obtain ⟨hin170, h⟩ := h
              refine r_iald hx hb hK hw hk169 hin170 dL_law_485 ?_
              refine lv_istore hx hb dL_law_486 hl (by decide) rfl (fun ls hl => ?_)
              have hl : lv_has ls 23 [(22, .int (gV S160 9 b167 (Int32.toNatClampNeg v20))), (16, .int (v16 + (v21 - r159))), (0, .ref p1), (1, .ref v1), (3, .int v3), (4, .int v4), (5, .ref v5), (6, .ref v6), (7, .int v7), (8, .int v8), (9, .int v9), (13, .ref v13), (14, .ref v14), (15, .ref v15), (17, .ref v17), (18, .int v18), (19, .int v19), (20, .int v20), (21, .int v21)] := hl
              refine lv_iload hx hb dL_law_488 (lv_at hl 17 rfl) ?_
              refine lv_aload_n hx hb dL_law_490 rfl (lv_at hl 3 rfl) ?_
              refine lv_iload hx hb dL_law_491 (lv_at hl 15 rfl) ?_
              refine lv_iconst (v := (2 : Int32)) hx hb dL_law_493 (by decide) ?_
              obtain ⟨hk171, h⟩ := h
              obtain ⟨k174, n175, hbg1, hbg2, h⟩ := h
              have h1 := h
              refine vx_calli (vx_runV (As := [.int v18, .int (2 : Int32)]) (rest := [.int v20]) ⟨hx, hb, hml, hown, hts⟩ (m_X5_carrier (l := l) hl0 h1) (cwV 2 hts gL_law_X5_carrier rfl rfl rfl (by decide +kernel) ⟨Nat.le_trans (Nat.le_of_ble_eq_true rfl) hRf, Nat.le_trans (Nat.le_of_ble_eq_true rfl) hRl⟩) (r_pV hB hw hS (ce_7 (S := S160) hk171) rfl) rfl rfl hl.1 rfl (lv_room (Nat.le_of_ble_eq_true rfl)) dL_law_494 ⟨by omega, by omega⟩) hS (fun _ _ h => h) (fun _ h => h) (fun _ _ h => h) (fun E ce q9 S173 t H1 locs ht hal _ hq hz9 hk9 hS hq9 hvm9 hfc9 => hq.1.elim) (fun r172 S173 t H1 locs ht _ h hw1 _ _ hS => ?_)
              subst ht
              have hw : wd D y z S173 A t.heap := hw1
              clear hw1 h1
              have hcu : ((cu + k161) + k174) + ((mc - k161) - k174) ≤ MC := by omega
              have hsu : ((su + n162) + n175) + ((ms - n162) - n175) ≤ MS := by omega
              refine lv_icmp_ne (tgt := 531) hx hb dL_law_497 (by decide) (fun hc => ?_) (fun hc => ?_)
              · have h := h.1 hc
                exact hB531 _ _ _ _ _ _ _ _ _ h hw hS (lv_sub hl [] rfl) hcu hsu hd0
              · have h := h.2 hc
                refine lv_iload hx hb dL_law_500 (lv_at hl 0 rfl) ?_
                refine lv_if_lt (tgt := 531) hx hb dL_law_502 (by decide) (fun hc => ?_) (fun hc => ?_)
                · have h := h.1 hc
                  exact hB531 _ _ _ _ _ _ _ _ _ h hw hS (lv_sub hl [] rfl) hcu hsu hd0
                · have h := h.2 hc
                  refine lv_iload hx hb dL_law_505 (lv_at hl 18 rfl) ?_
                  refine lv_aload_n hx hb dL_law_507 rfl (lv_at hl 3 rfl) ?_
                  refine lv_iload hx hb dL_law_508 (lv_at hl 15 rfl) ?_
                  refine lv_iconst (v := (4 : Int32)) hx hb dL_law_510 (by decide) ?_
                  obtain ⟨hk176, h⟩ := h
                  obtain ⟨k179, n180, hbg1, hbg2, h⟩ := h
                  have h1 := h
                  refine vx_calli (vx_runV (As := [.int v18, .int (4 : Int32)]) (rest := [.int v21]) ⟨hx, hb, hml, hown, hts⟩ (m_X5_carrier (l := l) hl0 h1) (cwV 2 hts gL_law_X5_carrier rfl rfl rfl (by decide +kernel) ⟨Nat.le_trans (Nat.le_of_ble_eq_true rfl) hRf, Nat.le_trans (Nat.le_of_ble_eq_true rfl) hRl⟩) (r_pV hB hw hS (ce_7 (S := S173) hk176) rfl) rfl rfl hl.1 rfl (lv_room (Nat.le_of_ble_eq_true rfl)) dL_law_511 ⟨by omega, by omega⟩) hS (fun _ _ h => h) (fun _ h => h) (fun _ _ h => h) (fun E ce q9 S178 t H1 locs ht hal _ hq hz9 hk9 hS hq9 hvm9 hfc9 => hq.1.elim) (fun r177 S178 t H1 locs ht _ h hw1 _ _ hS => ?_)
                  subst ht
                  have hw : wd D y z S178 A t.heap := hw1
                  clear hw1 h1
                  have hcu : (((cu + k161) + k174) + k179) + (((mc - k161) - k174) - k179) ≤ MC := by omega
                  have hsu : (((su + n162) + n175) + n180) + (((ms - n162) - n175) - n180) ≤ MS := by omega
                  refine lv_isub hx hb dL_law_514 ?_
                  refine lv_iload hx hb dL_law_515 (lv_at hl 0 rfl) ?_
                  refine lv_aload_n hx hb dL_law_517 rfl (lv_at hl 3 rfl) ?_
                  refine lv_aload hx hb dL_law_518 (lv_at hl 7 rfl) ?_
                  refine lv_iload hx hb dL_law_520 (lv_at hl 15 rfl) ?_
                  obtain ⟨hk181, h⟩ := h
                  obtain ⟨hin182, h⟩ := h
                  refine r_iald hx hb hK hw hk181 hin182 dL_law_522 ?_
                  refine lv_iconst (v := (1 : Int32)) hx hb dL_law_523 (by decide) ?_
                  obtain ⟨hk183, h⟩ := h
                  obtain ⟨k186, n187, hbg1, hbg2, h⟩ := h
                  have h1 := h
                  refine vx_calli (vx_runV (As := [.int (gV S178 9 v6 (Int32.toNatClampNeg v18)), .int (1 : Int32)]) (rest := [.int (gV S160 9 b167 (Int32.toNatClampNeg v20)), .int (v21 - r177)]) ⟨hx, hb, hml, hown, hts⟩ (m_X5_station (l := l) hl0 h1) (cwV 2 hts gL_law_X5_station rfl rfl rfl (by decide +kernel) ⟨Nat.le_trans (Nat.le_of_ble_eq_true rfl) hRf, Nat.le_trans (Nat.le_of_ble_eq_true rfl) hRl⟩) (r_pV hB hw hS (ce_7 (S := S178) hk183) rfl) rfl rfl hl.1 rfl (lv_room (Nat.le_of_ble_eq_true rfl)) dL_law_524 ⟨by omega, by omega⟩) hS (fun _ _ h => h) (fun _ h => h) (fun _ _ h => h) (fun E ce q9 S185 t H1 locs ht hal _ hq hz9 hk9 hS hq9 hvm9 hfc9 => hq.1.elim) (fun r184 S185 t H1 locs ht _ h hw1 _ _ hS => ?_)
                  subst ht
                  have hw : wd D y z S185 A t.heap := hw1
                  clear hw1 h1
                  have hcu : ((((cu + k161) + k174) + k179) + k186) + ((((mc - k161) - k174) - k179) - k186) ≤ MC := by omega
                  have hsu : ((((su + n162) + n175) + n180) + n187) + ((((ms - n162) - n175) - n180) - n187) ≤ MS := by omega
                  refine lv_iadd hx hb dL_law_527 ?_
                  refine lv_icmp_ge (tgt := 533) hx hb dL_law_528 (by decide) (fun hc => ?_) (fun hc => ?_)
                  · have h := h.1 hc
                    exact hB533 _ _ _ _ _ _ _ _ _ _ _ _ _ _ _ _ _ _ _ _ _ _ _ h hw hS (lv_sub hl [2, 3, 4, 5, 6, 7, 8, 9, 10, 11, 12, 13, 1, 14, 15] rfl) hcu hsu hd0
                  · have h := h.2 hc
                    exact hB531 _ _ _ _ _ _ _ _ _ h hw hS (lv_sub hl [] rfl) hcu hsu hd0
            · have h := h.2 hc
              refine lv_goto (tgt := 533) hx hb dL_law_448 (by decide) ?_
              exact hB533 _ _ _ _ _ _ _ _ _ _ _ _ _ _ _ _ _ _ _ _ _ _ _ h hw hS (lv_sub hl [0, 1, 2, 3, 4, 5, 6, 7, 8, 9, 10, 11, 12, 13, 14] rfl) hcu hsu hd0
          have hB391 : ∀ (S : bS) (H : Heap) (locs : List Loc) (ls : Array Slot) (mc ms cu su : Nat) (d0 : Drawn) (v1 : Nat) (v3 : Int32) (v4 : Int32) (v5 : Nat) (v6 : Nat) (v7 : Int32) (v8 : Int32) (v9 : Int32) (v13 : Nat) (v14 : Nat) (v15 : Nat) (v16 : Int32) (v17 : Nat) (v18 : Int32) (v19 : Int32) (v20 : Int32) (v21 : Int32), wb_L_law_391 xs L post (wb_L_law_105 xs L post n105) (wb_L_law_309 xs L post (wb_L_law_105 xs L post n105) n309) mc ms v1 v3 v4 v5 v6 v7 v8 v9 v13 v14 v15 v16 v17 v18 v19 v20 v21 S → wd D y z S A H → va_S A s.heap H locs → lv_has ls 23 [(0, .ref p1), (1, .ref v1), (3, .int v3), (4, .int v4), (5, .ref v5), (6, .ref v6), (7, .int v7), (8, .int v8), (9, .int v9), (13, .ref v13), (14, .ref v14), (15, .ref v15), (16, .int v16), (17, .ref v17), (18, .int v18), (19, .int v19), (20, .int v20), (21, .int v21)] → cu + mc ≤ MC → su + ms ≤ MS → s.drawn.sameBut d0 lw_cs → W p l e room_1 (s.setDrawn d0) m #[Value.ref p1] below meth c H locs cu su Q (F0 m 391 ls []) := by
            intro S H locs ls mc ms cu su d0 v1 v3 v4 v5 v6 v7 v8 v9 v13 v14 v15 v16 v17 v18 v19 v20 v21 h hw hS hl hcu hsu hd0
            unfold wb_L_law_391 at h
            have hB := hB0 d0
            have htx := dr_words hts0 d0
            have hts : ∀ w ∈ wsL_law, w.before _ (s.setDrawn d0) = true := htx
            have hown : (s.setDrawn d0).vm.findClass RL = some m.cls := hown0
            have hK : va_K D bCl (bT y) (s.setDrawn d0) := hB.2.1
            have hNw := hB.2.2.1
            have hO := hB.2.2.2.2.2.1
            have hX := hX0 d0
            refine lv_iload hx hb dL_law_391 (lv_at hl 15 rfl) ?_
            refine lv_iconst (v := (2 : Int32)) hx hb dL_law_393 (by decide) ?_
            refine lv_icmp_ne (tgt := 442) hx hb dL_law_394 (by decide) (fun hc => ?_) (fun hc => ?_)
            · have h := h.1 hc
              exact hB442 _ _ _ _ _ _ _ _ _ _ _ _ _ _ _ _ _ _ _ _ _ _ _ _ _ _ h hw hS (lv_sub hl [0, 1, 2, 3, 4, 5, 6, 7, 8, 9, 10, 11, 12, 13, 14, 15, 16, 17] rfl) hcu hsu hd0
            · have h := h.2 hc
              refine lv_aload hx hb dL_law_397 (lv_at hl 10 rfl) ?_
              refine lv_iload hx hb dL_law_399 (lv_at hl 16 rfl) ?_
              refine lv_dup2_11 hx hb dL_law_401 rfl rfl ?_
              obtain ⟨hk136, h⟩ := h
              obtain ⟨hin137, h⟩ := h
              refine r_iald hx hb hK hw hk136 hin137 dL_law_402 ?_
              refine lv_iconst (v := (1 : Int32)) hx hb dL_law_403 (by decide) ?_
              refine lv_iadd hx hb dL_law_404 ?_
              obtain ⟨hin138, h⟩ := h
              refine r_iast hx hb hK hw hS hk136 hin138 dL_law_405 (fun H locs hw hS => ?_)
              refine lv_aload hx hb dL_law_406 (lv_at hl 13 rfl) ?_
              refine lv_iload hx hb dL_law_408 (lv_at hl 16 rfl) ?_
              obtain ⟨hk139, h⟩ := h
              obtain ⟨hin140, h⟩ := h
              obtain ⟨b141, hb142, h⟩ := h
              refine r_bald hx hb hK hw hk139 hin140 dL_law_410 ?_
              rw [hb142]
              refine W.eq (g2 := F0 m 411 ls [.ref b141]) rfl ?_
              refine lv_iload hx hb dL_law_411 (lv_at hl 17 rfl) ?_
              obtain ⟨hk143, h⟩ := h
              obtain ⟨hin144, h⟩ := h
              refine r_zald hx hb hK hw hk143 hin144 dL_law_413 ?_
              refine lv_if_eq (tgt := 419) hx hb dL_law_414 (by decide) (fun hc => ?_) (fun hc => ?_)
              · have h := h.1 hc
                refine lv_aload hx hb dL_law_419 (lv_at hl 13 rfl) ?_
                refine lv_iload hx hb dL_law_421 (lv_at hl 16 rfl) ?_
                obtain ⟨hin145, h⟩ := h
                obtain ⟨b146, hb147, h⟩ := h
                refine r_bald hx hb hK hw hk139 hin145 dL_law_423 ?_
                rw [hb147]
                refine W.eq (g2 := F0 m 424 ls [.ref b146]) rfl ?_
                refine lv_iload hx hb dL_law_424 (lv_at hl 17 rfl) ?_
                refine lv_iconst (v := (1 : Int32)) hx hb dL_law_426 (by decide) ?_
                obtain ⟨hk148, h⟩ := h
                obtain ⟨hin149, h⟩ := h
                refine r_zast hx hb hK hw hS hk148 hin149 dL_law_427 (fun H locs hw hS => ?_)
                refine lv_aload_n hx hb dL_law_428 rfl (lv_at hl 1 rfl) ?_
                refine lv_iload hx hb dL_law_429 (lv_at hl 14 rfl) ?_
                refine lv_bipush (v := (6 : Int32)) hx hb dL_law_431 (by decide) ?_
                obtain ⟨hk150, h⟩ := h
                obtain ⟨k153, n154, hbg1, hbg2, h⟩ := h
                have h1 := h
                refine vx_calli (vx_runV (As := [.int v18, .int (6 : Int32)]) (rest := []) ⟨hx, hb, hml, hown, hts⟩ (m_X5_carrier (l := l) hl0 h1) (cwV 2 hts gL_law_X5_carrier rfl rfl rfl (by decide +kernel) ⟨Nat.le_trans (Nat.le_of_ble_eq_true rfl) hRf, Nat.le_trans (Nat.le_of_ble_eq_true rfl) hRl⟩) (r_pV hB hw hS (ce_7 (S := (sV (sV S 9 v14 (Int32.toNatClampNeg v20) ((gV S 9 v14 (Int32.toNatClampNeg v20)) + (1 : Int32))) 10 b146 (Int32.toNatClampNeg v21) (vp_nar .boolean (1 : Int32)))) hk150) rfl) rfl rfl hl.1 rfl (lv_room (Nat.le_of_ble_eq_true rfl)) dL_law_433 ⟨by omega, by omega⟩) hS (fun _ _ h => h) (fun _ h => h) (fun _ _ h => h) (fun E ce q9 S152 t H1 locs ht hal _ hq hz9 hk9 hS hq9 hvm9 hfc9 => hq.1.elim) (fun r151 S152 t H1 locs ht _ h hw1 _ _ hS => ?_)
                subst ht
                have hw : wd D y z S152 A t.heap := hw1
                clear hw1 h1
                have hcu : (cu + k153) + (mc - k153) ≤ MC := by omega
                have hsu : (su + n154) + (ms - n154) ≤ MS := by omega
                refine lv_iconst (v := (1 : Int32)) hx hb dL_law_436 (by decide) ?_
                refine lv_icmp_ge (tgt := 442) hx hb dL_law_437 (by decide) (fun hc => ?_) (fun hc => ?_)
                · have h := h.1 hc
                  exact hB442 _ _ _ _ _ _ _ _ _ _ _ _ _ _ _ _ _ _ _ _ _ _ _ _ _ _ h hw hS (lv_sub hl [0, 1, 2, 3, 4, 5, 6, 7, 8, 9, 10, 11, 12, 13, 14, 15, 16, 17] rfl) hcu hsu hd0
                · have h := h.2 hc
                  refine lv_iconst (v := (0 : Int32)) hx hb dL_law_440 (by decide) ?_
                  exact hret _ _ _ _ _ _ _ _ _ h hw hS (by omega) (by omega) hd0 dL_law_441
              · have h := h.2 hc
                refine lv_iconst (v := (0 : Int32)) hx hb dL_law_417 (by decide) ?_
                exact hret _ _ _ _ _ _ _ _ _ h hw hS (by omega) (by omega) hd0 dL_law_418
          intro S H locs ls mc ms cu su d0 v1 v3 v4 v5 v6 v7 v8 v9 v13 v14 v15 v16 v17 v18 h hw hS hl hcu hsu hd0
          unfold wb_L_law_309 at h
          have hB := hB0 d0
          have htx := dr_words hts0 d0
          have hts : ∀ w ∈ wsL_law, w.before _ (s.setDrawn d0) = true := htx
          have hown : (s.setDrawn d0).vm.findClass RL = some m.cls := hown0
          have hK : va_K D bCl (bT y) (s.setDrawn d0) := hB.2.1
          have hNw := hB.2.2.1
          have hO := hB.2.2.2.2.2.1
          have hX := hX0 d0
          refine lv_iload hx hb dL_law_309 (lv_at hl 14 rfl) ?_
          refine lv_iload hx hb dL_law_311 (lv_at hl 6 rfl) ?_
          refine lv_icmp_ge (tgt := 539) hx hb dL_law_313 (by decide) (fun hc => ?_) (fun hc => ?_)
          · have h := h.1 hc
            refine lv_iconst (v := (0 : Int32)) hx hb dL_law_539 (by decide) ?_
            refine lv_istore hx hb dL_law_540 hl (by decide) rfl (fun ls hl => ?_)
            have hl : lv_has ls 23 [(18, .int (0 : Int32)), (0, .ref p1), (1, .ref v1), (3, .int v3), (4, .int v4), (5, .ref v5), (6, .ref v6), (7, .int v7), (8, .int v8), (9, .int v9), (13, .ref v13), (14, .ref v14), (15, .ref v15), (16, .int v16), (17, .ref v17)] := hl
            obtain ⟨n542, h⟩ := h
            exact hB542 n542 _ _ _ _ _ _ _ _ _ _ _ _ _ _ _ _ _ _ _ _ _ _ h hw hS (lv_sub hl [1, 2, 3, 4, 5, 6, 7, 8, 9, 10, 11, 12, 13, 0] rfl) hcu hsu hd0
          · have h := h.2 hc
            refine lv_aload_n hx hb dL_law_316 rfl (lv_at hl 1 rfl) ?_
            refine lv_iload hx hb dL_law_317 (lv_at hl 14 rfl) ?_
            refine lv_iconst (v := (0 : Int32)) hx hb dL_law_319 (by decide) ?_
            obtain ⟨hk113, h⟩ := h
            obtain ⟨k116, n117, hbg1, hbg2, h⟩ := h
            have h1 := h
            refine vx_calli (vx_runV (As := [.int v18, .int (0 : Int32)]) (rest := []) ⟨hx, hb, hml, hown, hts⟩ (m_X5_carrier (l := l) hl0 h1) (cwV 2 hts gL_law_X5_carrier rfl rfl rfl (by decide +kernel) ⟨Nat.le_trans (Nat.le_of_ble_eq_true rfl) hRf, Nat.le_trans (Nat.le_of_ble_eq_true rfl) hRl⟩) (r_pV hB hw hS (ce_7 (S := S) hk113) rfl) rfl rfl hl.1 rfl (lv_room (Nat.le_of_ble_eq_true rfl)) dL_law_320 ⟨by omega, by omega⟩) hS (fun _ _ h => h) (fun _ h => h) (fun _ _ h => h) (fun E ce q9 S115 t H1 locs ht hal _ hq hz9 hk9 hS hq9 hvm9 hfc9 => hq.1.elim) (fun r114 S115 t H1 locs ht _ h hw1 _ _ hS => ?_)
            subst ht
            have hw : wd D y z S115 A t.heap := hw1
            clear hw1 h1
            have hcu : (cu + k116) + (mc - k116) ≤ MC := by omega
            have hsu : (su + n117) + (ms - n117) ≤ MS := by omega
            refine lv_istore hx hb dL_law_323 hl (by decide) rfl (fun ls hl => ?_)
            have hl : lv_has ls 23 [(19, .int r114), (0, .ref p1), (1, .ref v1), (3, .int v3), (4, .int v4), (5, .ref v5), (6, .ref v6), (7, .int v7), (8, .int v8), (9, .int v9), (13, .ref v13), (14, .ref v14), (15, .ref v15), (16, .int v16), (17, .ref v17), (18, .int v18)] := hl
            refine lv_aload_n hx hb dL_law_325 rfl (lv_at hl 2 rfl) ?_
            refine lv_iload hx hb dL_law_326 (lv_at hl 15 rfl) ?_
            refine lv_iconst (v := (1 : Int32)) hx hb dL_law_328 (by decide) ?_
            obtain ⟨hk118, h⟩ := h
            obtain ⟨k121, n122, hbg1, hbg2, h⟩ := h
            have h1 := h
            refine vx_calli (vx_runV (As := [.int v18, .int (1 : Int32)]) (rest := []) ⟨hx, hb, hml, hown, hts⟩ (m_X5_carrier (l := l) hl0 h1) (cwV 2 hts gL_law_X5_carrier rfl rfl rfl (by decide +kernel) ⟨Nat.le_trans (Nat.le_of_ble_eq_true rfl) hRf, Nat.le_trans (Nat.le_of_ble_eq_true rfl) hRl⟩) (r_pV hB hw hS (ce_7 (S := S115) hk118) rfl) rfl rfl hl.1 rfl (lv_room (Nat.le_of_ble_eq_true rfl)) dL_law_329 ⟨by omega, by omega⟩) hS (fun _ _ h => h) (fun _ h => h) (fun _ _ h => h) (fun E ce q9 S120 t H1 locs ht hal _ hq hz9 hk9 hS hq9 hvm9 hfc9 => hq.1.elim) (fun r119 S120 t H1 locs ht _ h hw1 _ _ hS => ?_)
            subst ht
            have hw : wd D y z S120 A t.heap := hw1
            clear hw1 h1
            have hcu : ((cu + k116) + k121) + ((mc - k116) - k121) ≤ MC := by omega
            have hsu : ((su + n117) + n122) + ((ms - n117) - n122) ≤ MS := by omega
            refine lv_istore hx hb dL_law_332 hl (by decide) rfl (fun ls hl => ?_)
            have hl : lv_has ls 23 [(20, .int r119), (19, .int r114), (0, .ref p1), (1, .ref v1), (3, .int v3), (4, .int v4), (5, .ref v5), (6, .ref v6), (7, .int v7), (8, .int v8), (9, .int v9), (13, .ref v13), (14, .ref v14), (15, .ref v15), (16, .int v16), (17, .ref v17), (18, .int v18)] := hl
            refine lv_aload_n hx hb dL_law_334 rfl (lv_at hl 3 rfl) ?_
            refine lv_iload hx hb dL_law_335 (lv_at hl 16 rfl) ?_
            refine lv_iconst (v := (5 : Int32)) hx hb dL_law_337 (by decide) ?_
            obtain ⟨hk123, h⟩ := h
            obtain ⟨k126, n127, hbg1, hbg2, h⟩ := h
            have h1 := h
            refine vx_calli (vx_runV (As := [.int v18, .int (5 : Int32)]) (rest := []) ⟨hx, hb, hml, hown, hts⟩ (m_X5_carrier (l := l) hl0 h1) (cwV 2 hts gL_law_X5_carrier rfl rfl rfl (by decide +kernel) ⟨Nat.le_trans (Nat.le_of_ble_eq_true rfl) hRf, Nat.le_trans (Nat.le_of_ble_eq_true rfl) hRl⟩) (r_pV hB hw hS (ce_7 (S := S120) hk123) rfl) rfl rfl hl.1 rfl (lv_room (Nat.le_of_ble_eq_true rfl)) dL_law_338 ⟨by omega, by omega⟩) hS (fun _ _ h => h) (fun _ h => h) (fun _ _ h => h) (fun E ce q9 S125 t H1 locs ht hal _ hq hz9 hk9 hS hq9 hvm9 hfc9 => hq.1.elim) (fun r124 S125 t H1 locs ht _ h hw1 _ _ hS => ?_)
            subst ht
            have hw : wd D y z S125 A t.heap := hw1
            clear hw1 h1
            have hcu : (((cu + k116) + k121) + k126) + (((mc - k116) - k121) - k126) ≤ MC := by omega
            have hsu : (((su + n117) + n122) + n127) + (((ms - n117) - n122) - n127) ≤ MS := by omega
            refine lv_istore hx hb dL_law_341 hl (by decide) rfl (fun ls hl => ?_)
            have hl : lv_has ls 23 [(21, .int r124), (20, .int r119), (19, .int r114), (0, .ref p1), (1, .ref v1), (3, .int v3), (4, .int v4), (5, .ref v5), (6, .ref v6), (7, .int v7), (8, .int v8), (9, .int v9), (13, .ref v13), (14, .ref v14), (15, .ref v15), (16, .int v16), (17, .ref v17), (18, .int v18)] := hl
            refine lv_iload hx hb dL_law_343 (lv_at hl 2 rfl) ?_
            refine lv_iconst (v := (1 : Int32)) hx hb dL_law_345 (by decide) ?_
            refine lv_icmp_lt (tgt := 374) hx hb dL_law_346 (by decide) (fun hc => ?_) (fun hc => ?_)
            · have h := h.1 hc
              exact hB374 _ _ _ _ _ _ _ _ _ h hw hS (lv_sub hl [] rfl) hcu hsu hd0
            · have h := h.2 hc
              refine lv_iload hx hb dL_law_349 (lv_at hl 2 rfl) ?_
              refine lv_iconst (v := (3 : Int32)) hx hb dL_law_351 (by decide) ?_
              refine lv_icmp_gt (tgt := 374) hx hb dL_law_352 (by decide) (fun hc => ?_) (fun hc => ?_)
              · have h := h.1 hc
                exact hB374 _ _ _ _ _ _ _ _ _ h hw hS (lv_sub hl [] rfl) hcu hsu hd0
              · have h := h.2 hc
                refine lv_iload hx hb dL_law_355 (lv_at hl 0 rfl) ?_
                refine lv_aload_n hx hb dL_law_357 rfl (lv_at hl 4 rfl) ?_
                refine lv_iload hx hb dL_law_358 (lv_at hl 17 rfl) ?_
                refine lv_iconst (v := (4 : Int32)) hx hb dL_law_360 (by decide) ?_
                obtain ⟨hk128, h⟩ := h
                obtain ⟨k131, n132, hbg1, hbg2, h⟩ := h
                have h1 := h
                refine vx_calli (vx_runV (As := [.int v18, .int (4 : Int32)]) (rest := [.int r124]) ⟨hx, hb, hml, hown, hts⟩ (m_X5_carrier (l := l) hl0 h1) (cwV 2 hts gL_law_X5_carrier rfl rfl rfl (by decide +kernel) ⟨Nat.le_trans (Nat.le_of_ble_eq_true rfl) hRf, Nat.le_trans (Nat.le_of_ble_eq_true rfl) hRl⟩) (r_pV hB hw hS (ce_7 (S := S125) hk128) rfl) rfl rfl hl.1 rfl (lv_room (Nat.le_of_ble_eq_true rfl)) dL_law_361 ⟨by omega, by omega⟩) hS (fun _ _ h => h) (fun _ h => h) (fun _ _ h => h) (fun E ce q9 S130 t H1 locs ht hal _ hq hz9 hk9 hS hq9 hvm9 hfc9 => hq.1.elim) (fun r129 S130 t H1 locs ht _ h hw1 _ _ hS => ?_)
                subst ht
                have hw : wd D y z S130 A t.heap := hw1
                clear hw1 h1
                have hcu : ((((cu + k116) + k121) + k126) + k131) + ((((mc - k116) - k121) - k126) - k131) ≤ MC := by omega
                have hsu : ((((su + n117) + n122) + n127) + n132) + ((((ms - n117) - n122) - n127) - n132) ≤ MS := by omega
                refine lv_icmp_lt (tgt := 374) hx hb dL_law_364 (by decide) (fun hc => ?_) (fun hc => ?_)
                · have h := h.1 hc
                  exact hB374 _ _ _ _ _ _ _ _ _ h hw hS (lv_sub hl [] rfl) hcu hsu hd0
                · have h := h.2 hc
                  refine lv_iload hx hb dL_law_367 (lv_at hl 0 rfl) ?_
                  refine lv_iload hx hb dL_law_369 (lv_at hl 11 rfl) ?_
                  refine lv_icmp_le (tgt := 376) hx hb dL_law_371 (by decide) (fun hc => ?_) (fun hc => ?_)
                  · have h := h.1 hc
                    refine lv_iload hx hb dL_law_376 (lv_at hl 2 rfl) ?_
                    refine lv_iconst (v := (1 : Int32)) hx hb dL_law_378 (by decide) ?_
                    refine lv_icmp_ne (tgt := 391) hx hb dL_law_379 (by decide) (fun hc => ?_) (fun hc => ?_)
                    · have h := h.1 hc
                      exact hB391 _ _ _ _ _ _ _ _ _ _ _ _ _ _ _ _ _ _ _ _ _ _ _ _ _ _ h hw hS (lv_sub hl [3, 4, 5, 6, 7, 8, 9, 10, 11, 12, 13, 14, 15, 16, 17, 2, 1, 0] rfl) hcu hsu hd0
                    · have h := h.2 hc
                      refine lv_aload hx hb dL_law_382 (lv_at hl 12 rfl) ?_
                      refine lv_iload hx hb dL_law_384 (lv_at hl 1 rfl) ?_
                      refine lv_dup2_11 hx hb dL_law_386 rfl rfl ?_
                      obtain ⟨hk133, h⟩ := h
                      obtain ⟨hin134, h⟩ := h
                      refine r_iald hx hb hK hw hk133 hin134 dL_law_387 ?_
                      refine lv_iconst (v := (1 : Int32)) hx hb dL_law_388 (by decide) ?_
                      refine lv_iadd hx hb dL_law_389 ?_
                      obtain ⟨hin135, h⟩ := h
                      refine r_iast hx hb hK hw hS hk133 hin135 dL_law_390 (fun H locs hw hS => ?_)
                      exact hB391 _ _ _ _ _ _ _ _ _ _ _ _ _ _ _ _ _ _ _ _ _ _ _ _ _ _ h hw hS (lv_sub hl [3, 4, 5, 6, 7, 8, 9, 10, 11, 12, 13, 14, 15, 16, 17, 2, 1, 0] rfl) hcu hsu hd0
                  · have h := h.2 hc
                    exact hB374 _ _ _ _ _ _ _ _ _ h hw hS (lv_sub hl [] rfl) hcu hsu hd0
      have hB219 : ∀ (S : bS) (H : Heap) (locs : List Loc) (ls : Array Slot) (mc ms cu su : Nat) (d0 : Drawn) (v1 : Nat) (v3 : Int32) (v4 : Int32) (v5 : Nat) (v6 : Nat) (v7 : Int32) (v8 : Int32) (v9 : Int32), wb_L_law_219 xs L post (wb_L_law_105 xs L post n105) mc ms v1 v3 v4 v5 v6 v7 v8 v9 S → wd D y z S A H → va_S A s.heap H locs → lv_has ls 23 [(0, .ref p1), (1, .ref v1), (3, .int v3), (4, .int v4), (5, .ref v5), (6, .ref v6), (7, .int v7), (8, .int v8), (9, .int v9)] → cu + mc ≤ MC → su + ms ≤ MS → s.drawn.sameBut d0 lw_cs → W p l e room_1 (s.setDrawn d0) m #[Value.ref p1] below meth c H locs cu su Q (F0 m 219 ls []) := by
        intro S H locs ls mc ms cu su d0 v1 v3 v4 v5 v6 v7 v8 v9 h hw hS hl hcu hsu hd0
        unfold wb_L_law_219 at h
        have hB := hB0 d0
        have htx := dr_words hts0 d0
        have hts : ∀ w ∈ wsL_law, w.before _ (s.setDrawn d0) = true := htx
        have hown : (s.setDrawn d0).vm.findClass RL = some m.cls := hown0
        have hK : va_K D bCl (bT y) (s.setDrawn d0) := hB.2.1
        have hNw := hB.2.2.1
        have hO := hB.2.2.2.2.2.1
        have hX := hX0 d0
        refine lv_iload hx hb dL_law_219 (lv_at hl 7 rfl) ?_
        refine lv_aload_n hx hb dL_law_221 rfl (lv_at hl 1 rfl) ?_
        refine lv_iconst (v := (1 : Int32)) hx hb dL_law_222 (by decide) ?_
        obtain ⟨hk70, h⟩ := h
        obtain ⟨k73, n74, hbg1, hbg2, h⟩ := h
        have h1 := h
        refine vx_calli (vx_runV (As := [.int (1 : Int32)]) (rest := [.int v8]) ⟨hx, hb, hml, hown, hts⟩ (m_X5_run (l := l) hl0 h1) (cwV 1 hts gL_law_X5_run rfl rfl rfl (by decide +kernel) ⟨Nat.le_trans (Nat.le_of_ble_eq_true rfl) hRf, Nat.le_trans (Nat.le_of_ble_eq_true rfl) hRl⟩) (r_pV hB hw hS (ce_7 (S := S) hk70) rfl) rfl rfl hl.1 rfl (lv_room (Nat.le_of_ble_eq_true rfl)) dL_law_223 ⟨by omega, by omega⟩) hS (fun _ _ h => h) (fun _ h => h) (fun _ _ h => h) (fun E ce q9 S72 t H1 locs ht hal _ hq hz9 hk9 hS hq9 hvm9 hfc9 => hq.1.elim) (fun r71 S72 t H1 locs ht _ h hw1 _ _ hS => ?_)
        subst ht
        have hw : wd D y z S72 A t.heap := hw1
        clear hw1 h1
        have hcu : (cu + k73) + (mc - k73) ≤ MC := by omega
        have hsu : (su + n74) + (ms - n74) ≤ MS := by omega
        refine lv_iadd hx hb dL_law_226 ?_
        refine lv_istore hx hb dL_law_227 hl (by decide) rfl (fun ls hl => ?_)
        have hl : lv_has ls 23 [(8, .int (v8 + r71)), (0, .ref p1), (1, .ref v1), (3, .int v3), (4, .int v4), (5, .ref v5), (6, .ref v6), (7, .int v7), (9, .int v9)] := hl
        refine lv_aload_n hx hb dL_law_229 rfl (lv_at hl 2 rfl) ?_
        refine lv_iconst (v := (0 : Int32)) hx hb dL_law_230 (by decide) ?_
        obtain ⟨hk75, h⟩ := h
        obtain ⟨k78, n79, hbg1, hbg2, h⟩ := h
        have h1 := h
        refine vx_calli (vx_runV (As := [.int (0 : Int32)]) (rest := []) ⟨hx, hb, hml, hown, hts⟩ (m_X5_count (l := l) hl0 h1) (cwV 1 hts gL_law_X5_count rfl rfl rfl (by decide +kernel) ⟨Nat.le_trans (Nat.le_of_ble_eq_true rfl) hRf, Nat.le_trans (Nat.le_of_ble_eq_true rfl) hRl⟩) (r_pV hB hw hS (ce_7 (S := S72) hk75) rfl) rfl rfl hl.1 rfl (lv_room (Nat.le_of_ble_eq_true rfl)) dL_law_231 ⟨by omega, by omega⟩) hS (fun _ _ h => h) (fun _ h => h) (fun _ _ h => h) (fun E ce q9 S77 t H1 locs ht hal _ hq hz9 hk9 hS hq9 hvm9 hfc9 => hq.1.elim) (fun r76 S77 t H1 locs ht _ h hw1 _ _ hS => ?_)
        subst ht
        have hw : wd D y z S77 A t.heap := hw1
        clear hw1 h1
        have hcu : ((cu + k73) + k78) + ((mc - k73) - k78) ≤ MC := by omega
        have hsu : ((su + n74) + n79) + ((ms - n74) - n79) ≤ MS := by omega
        refine lv_iload hx hb dL_law_234 (lv_at hl 8 rfl) ?_
        refine lv_icmp_ne (tgt := 273) hx hb dL_law_236 (by decide) (fun hc => ?_) (fun hc => ?_)
        · have h := h.1 hc
          exact hB273 _ _ _ _ _ _ _ _ _ h hw hS (lv_sub hl [] rfl) hcu hsu hd0
        · have h := h.2 hc
          refine lv_aload_n hx hb dL_law_239 rfl (lv_at hl 2 rfl) ?_
          refine lv_iconst (v := (4 : Int32)) hx hb dL_law_240 (by decide) ?_
          obtain ⟨hk80, h⟩ := h
          obtain ⟨k83, n84, hbg1, hbg2, h⟩ := h
          have h1 := h
          refine vx_calli (vx_runV (As := [.int (4 : Int32)]) (rest := []) ⟨hx, hb, hml, hown, hts⟩ (m_X5_count (l := l) hl0 h1) (cwV 1 hts gL_law_X5_count rfl rfl rfl (by decide +kernel) ⟨Nat.le_trans (Nat.le_of_ble_eq_true rfl) hRf, Nat.le_trans (Nat.le_of_ble_eq_true rfl) hRl⟩) (r_pV hB hw hS (ce_7 (S := S77) hk80) rfl) rfl rfl hl.1 rfl (lv_room (Nat.le_of_ble_eq_true rfl)) dL_law_241 ⟨by omega, by omega⟩) hS (fun _ _ h => h) (fun _ h => h) (fun _ _ h => h) (fun E ce q9 S82 t H1 locs ht hal _ hq hz9 hk9 hS hq9 hvm9 hfc9 => hq.1.elim) (fun r81 S82 t H1 locs ht _ h hw1 _ _ hS => ?_)
          subst ht
          have hw : wd D y z S82 A t.heap := hw1
          clear hw1 h1
          have hcu : (((cu + k73) + k78) + k83) + (((mc - k73) - k78) - k83) ≤ MC := by omega
          have hsu : (((su + n74) + n79) + n84) + (((ms - n74) - n79) - n84) ≤ MS := by omega
          refine lv_iload hx hb dL_law_244 (lv_at hl 7 rfl) ?_
          refine lv_icmp_ne (tgt := 273) hx hb dL_law_246 (by decide) (fun hc => ?_) (fun hc => ?_)
          · have h := h.1 hc
            exact hB273 _ _ _ _ _ _ _ _ _ h hw hS (lv_sub hl [] rfl) hcu hsu hd0
          · have h := h.2 hc
            refine lv_aload_n hx hb dL_law_249 rfl (lv_at hl 2 rfl) ?_
            refine lv_bipush (v := (6 : Int32)) hx hb dL_law_250 (by decide) ?_
            obtain ⟨hk85, h⟩ := h
            obtain ⟨k88, n89, hbg1, hbg2, h⟩ := h
            have h1 := h
            refine vx_calli (vx_runV (As := [.int (6 : Int32)]) (rest := []) ⟨hx, hb, hml, hown, hts⟩ (m_X5_count (l := l) hl0 h1) (cwV 1 hts gL_law_X5_count rfl rfl rfl (by decide +kernel) ⟨Nat.le_trans (Nat.le_of_ble_eq_true rfl) hRf, Nat.le_trans (Nat.le_of_ble_eq_true rfl) hRl⟩) (r_pV hB hw hS (ce_7 (S := S82) hk85) rfl) rfl rfl hl.1 rfl (lv_room (Nat.le_of_ble_eq_true rfl)) dL_law_252 ⟨by omega, by omega⟩) hS (fun _ _ h => h) (fun _ h => h) (fun _ _ h => h) (fun E ce q9 S87 t H1 locs ht hal _ hq hz9 hk9 hS hq9 hvm9 hfc9 => hq.1.elim) (fun r86 S87 t H1 locs ht _ h hw1 _ _ hS => ?_)
            subst ht
            have hw : wd D y z S87 A t.heap := hw1
            clear hw1 h1
            have hcu : ((((cu + k73) + k78) + k83) + k88) + ((((mc - k73) - k78) - k83) - k88) ≤ MC := by omega
            have hsu : ((((su + n74) + n79) + n84) + n89) + ((((ms - n74) - n79) - n84) - n89) ≤ MS := by omega
            refine lv_iload hx hb dL_law_255 (lv_at hl 0 rfl) ?_
            refine lv_icmp_ne (tgt := 273) hx hb dL_law_257 (by decide) (fun hc => ?_) (fun hc => ?_)
            · have h := h.1 hc
              exact hB273 _ _ _ _ _ _ _ _ _ h hw hS (lv_sub hl [] rfl) hcu hsu hd0
            · have h := h.2 hc
              refine lv_aload_n hx hb dL_law_260 rfl (lv_at hl 2 rfl) ?_
              refine lv_iconst (v := (5 : Int32)) hx hb dL_law_261 (by decide) ?_
              obtain ⟨hk90, h⟩ := h
              obtain ⟨k93, n94, hbg1, hbg2, h⟩ := h
              have h1 := h
              refine vx_calli (vx_runV (As := [.int (5 : Int32)]) (rest := []) ⟨hx, hb, hml, hown, hts⟩ (m_X5_count (l := l) hl0 h1) (cwV 1 hts gL_law_X5_count rfl rfl rfl (by decide +kernel) ⟨Nat.le_trans (Nat.le_of_ble_eq_true rfl) hRf, Nat.le_trans (Nat.le_of_ble_eq_true rfl) hRl⟩) (r_pV hB hw hS (ce_7 (S := S87) hk90) rfl) rfl rfl hl.1 rfl (lv_room (Nat.le_of_ble_eq_true rfl)) dL_law_262 ⟨by omega, by omega⟩) hS (fun _ _ h => h) (fun _ h => h) (fun _ _ h => h) (fun E ce q9 S92 t H1 locs ht hal _ hq hz9 hk9 hS hq9 hvm9 hfc9 => hq.1.elim) (fun r91 S92 t H1 locs ht _ h hw1 _ _ hS => ?_)
              subst ht
              have hw : wd D y z S92 A t.heap := hw1
              clear hw1 h1
              have hcu : (((((cu + k73) + k78) + k83) + k88) + k93) + (((((mc - k73) - k78) - k83) - k88) - k93) ≤ MC := by omega
              have hsu : (((((su + n74) + n79) + n84) + n89) + n94) + (((((ms - n74) - n79) - n84) - n89) - n94) ≤ MS := by omega
              refine lv_iload hx hb dL_law_265 (lv_at hl 7 rfl) ?_
              refine lv_iload hx hb dL_law_267 (lv_at hl 0 rfl) ?_
              refine lv_isub hx hb dL_law_269 ?_
              refine lv_icmp_eq (tgt := 275) hx hb dL_law_270 (by decide) (fun hc => ?_) (fun hc => ?_)
              · have h := h.1 hc
                refine lv_iload_n hx hb dL_law_275 rfl (lv_at hl 3 rfl) ?_
                obtain ⟨hn0, hn1, hbg1, hbg2, h⟩ := h
                refine r_newa9 hx hb (hts (.arrayClass .int) (by decide +kernel)) hK hw hS hAn hAz hn0 rfl hn1 (by omega) (by omega) dL_law_276 (fun q95 H hq96 hw hS => ?_)
                have h := h q95 hq96
                have hk97 : gK (sNew S92 q95 9 (Int32.toNatClampNeg v3)) q95 = 9 := if_pos rfl
                have hcu : ((((((cu + k73) + k78) + k83) + k88) + k93) + 1) + ((((((mc - k73) - k78) - k83) - k88) - k93) - 1) ≤ MC := by omega
                have hsu : ((((((su + n74) + n79) + n84) + n89) + n94) + (Int32.toNatClampNeg v3)) + ((((((ms - n74) - n79) - n84) - n89) - n94) - (Int32.toNatClampNeg v3)) ≤ MS := by omega
                refine lv_astore hx hb dL_law_278 hl (by decide) rfl (fun ls hl => ?_)
                have hl : lv_has ls 23 [(13, .ref q95), (8, .int (v8 + r71)), (0, .ref p1), (1, .ref v1), (3, .int v3), (4, .int v4), (5, .ref v5), (6, .ref v6), (7, .int v7), (9, .int v9)] := hl
                refine lv_iload hx hb dL_law_280 (lv_at hl 5 rfl) ?_
                obtain ⟨hn0, hn1, hbg1, hbg2, h⟩ := h
                refine r_newa9 hx hb (hts (.arrayClass .int) (by decide +kernel)) hK hw hS hAn hAz hn0 rfl hn1 (by omega) (by omega) dL_law_282 (fun q98 H hq99 hw hS => ?_)
                have h := h q98 hq99
                have hk100 : gK (sNew (sNew S92 q95 9 (Int32.toNatClampNeg v3)) q98 9 (Int32.toNatClampNeg v4)) q95 = 9 := b_old hk97 hq99 (by decide)
                have hk101 : gK (sNew (sNew S92 q95 9 (Int32.toNatClampNeg v3)) q98 9 (Int32.toNatClampNeg v4)) q98 = 9 := if_pos rfl
                have hcu : (((((((cu + k73) + k78) + k83) + k88) + k93) + 1) + 1) + (((((((mc - k73) - k78) - k83) - k88) - k93) - 1) - 1) ≤ MC := by omega
                have hsu : (((((((su + n74) + n79) + n84) + n89) + n94) + (Int32.toNatClampNeg v3)) + (Int32.toNatClampNeg v4)) + (((((((ms - n74) - n79) - n84) - n89) - n94) - (Int32.toNatClampNeg v3)) - (Int32.toNatClampNeg v4)) ≤ MS := by omega
                refine lv_astore hx hb dL_law_284 hl (by decide) rfl (fun ls hl => ?_)
                have hl : lv_has ls 23 [(14, .ref q98), (13, .ref q95), (8, .int (v8 + r71)), (0, .ref p1), (1, .ref v1), (3, .int v3), (4, .int v4), (5, .ref v5), (6, .ref v6), (7, .int v7), (9, .int v9)] := hl
                refine lv_iload_n hx hb dL_law_286 rfl (lv_at hl 5 rfl) ?_
                obtain ⟨hn0, hn1, hbg1, hbg2, h⟩ := h
                refine r_newa9 hx hb (hts (.arrayClass .int) (by decide +kernel)) hK hw hS hAn hAz hn0 rfl hn1 (by omega) (by omega) dL_law_287 (fun q102 H hq103 hw hS => ?_)
                have h := h q102 hq103
                have hk104 : gK (sNew (sNew (sNew S92 q95 9 (Int32.toNatClampNeg v3)) q98 9 (Int32.toNatClampNeg v4)) q102 9 (Int32.toNatClampNeg v3)) q95 = 9 := b_old hk100 hq103 (by decide)
                have hk105 : gK (sNew (sNew (sNew S92 q95 9 (Int32.toNatClampNeg v3)) q98 9 (Int32.toNatClampNeg v4)) q102 9 (Int32.toNatClampNeg v3)) q98 = 9 := b_old hk101 hq103 (by decide)
                have hk106 : gK (sNew (sNew (sNew S92 q95 9 (Int32.toNatClampNeg v3)) q98 9 (Int32.toNatClampNeg v4)) q102 9 (Int32.toNatClampNeg v3)) q102 = 9 := if_pos rfl
                have hcu : ((((((((cu + k73) + k78) + k83) + k88) + k93) + 1) + 1) + 1) + ((((((((mc - k73) - k78) - k83) - k88) - k93) - 1) - 1) - 1) ≤ MC := by omega
                have hsu : ((((((((su + n74) + n79) + n84) + n89) + n94) + (Int32.toNatClampNeg v3)) + (Int32.toNatClampNeg v4)) + (Int32.toNatClampNeg v3)) + ((((((((ms - n74) - n79) - n84) - n89) - n94) - (Int32.toNatClampNeg v3)) - (Int32.toNatClampNeg v4)) - (Int32.toNatClampNeg v3)) ≤ MS := by omega
                refine lv_astore hx hb dL_law_289 hl (by decide) rfl (fun ls hl => ?_)
                have hl : lv_has ls 23 [(15, .ref q102), (14, .ref q98), (13, .ref q95), (8, .int (v8 + r71)), (0, .ref p1), (1, .ref v1), (3, .int v3), (4, .int v4), (5, .ref v5), (6, .ref v6), (7, .int v7), (9, .int v9)] := hl
                refine lv_iconst (v := (0 : Int32)) hx hb dL_law_291 (by decide) ?_
                refine lv_istore hx hb dL_law_292 hl (by decide) rfl (fun ls hl => ?_)
                have hl : lv_has ls 23 [(16, .int (0 : Int32)), (15, .ref q102), (14, .ref q98), (13, .ref q95), (8, .int (v8 + r71)), (0, .ref p1), (1, .ref v1), (3, .int v3), (4, .int v4), (5, .ref v5), (6, .ref v6), (7, .int v7), (9, .int v9)] := hl
                refine lv_iload hx hb dL_law_294 (lv_at hl 8 rfl) ?_
                refine lv_iload hx hb dL_law_296 (lv_at hl 12 rfl) ?_
                refine lv_iconst (v := (1 : Int32)) hx hb dL_law_298 (by decide) ?_
                refine lv_iadd hx hb dL_law_299 ?_
                obtain ⟨hn0, hn1, hb1, hb2, hbg1, hbg2, h⟩ := h
                refine r_mnaZ hx hb hown (hts (.classLink RL 71 "[[Z") (by decide +kernel)) hO.2.2.1.2.1 (hts (.arrayClass .boolean) (by decide +kernel)) hK hw hS hAn hAz hn0 hn1 rfl rfl hb1 hb2 (by omega) (by omega) dL_law_300 (fun q107 r108 H hq9 hr9 hi9 hw hS => ?_)
                have h := h q107 r108 hq9 hr9 hi9
                have hk109 : gK (sMn 17 10 (sNew (sNew (sNew S92 q95 9 (Int32.toNatClampNeg v3)) q98 9 (Int32.toNatClampNeg v4)) q102 9 (Int32.toNatClampNeg v3)) q107 r108 (Int32.toNatClampNeg v4) (Int32.toNatClampNeg (v9 + (1 : Int32)))) q95 = 9 := b_oldM hk104 (by decide) hq9 hr9
                have hk110 : gK (sMn 17 10 (sNew (sNew (sNew S92 q95 9 (Int32.toNatClampNeg v3)) q98 9 (Int32.toNatClampNeg v4)) q102 9 (Int32.toNatClampNeg v3)) q107 r108 (Int32.toNatClampNeg v4) (Int32.toNatClampNeg (v9 + (1 : Int32)))) q98 = 9 := b_oldM hk105 (by decide) hq9 hr9
                have hk111 : gK (sMn 17 10 (sNew (sNew (sNew S92 q95 9 (Int32.toNatClampNeg v3)) q98 9 (Int32.toNatClampNeg v4)) q102 9 (Int32.toNatClampNeg v3)) q107 r108 (Int32.toNatClampNeg v4) (Int32.toNatClampNeg (v9 + (1 : Int32)))) q102 = 9 := b_oldM hk106 (by decide) hq9 hr9
                have hk112 : gK (sMn 17 10 (sNew (sNew (sNew S92 q95 9 (Int32.toNatClampNeg v3)) q98 9 (Int32.toNatClampNeg v4)) q102 9 (Int32.toNatClampNeg v3)) q107 r108 (Int32.toNatClampNeg v4) (Int32.toNatClampNeg (v9 + (1 : Int32)))) q107 = 17 := sMn_out.1
                have hcu : (((((((((cu + k73) + k78) + k83) + k88) + k93) + 1) + 1) + 1) + 1 + (Int32.toNatClampNeg v4)) + (((((((((mc - k73) - k78) - k83) - k88) - k93) - 1) - 1) - 1) - (1 + (Int32.toNatClampNeg v4))) ≤ MC := by omega
                have hsu : (((((((((su + n74) + n79) + n84) + n89) + n94) + (Int32.toNatClampNeg v3)) + (Int32.toNatClampNeg v4)) + (Int32.toNatClampNeg v3)) + (Int32.toNatClampNeg v4) + (Int32.toNatClampNeg v4) * (Int32.toNatClampNeg (v9 + (1 : Int32)))) + (((((((((ms - n74) - n79) - n84) - n89) - n94) - (Int32.toNatClampNeg v3)) - (Int32.toNatClampNeg v4)) - (Int32.toNatClampNeg v3)) - ((Int32.toNatClampNeg v4) + (Int32.toNatClampNeg v4) * (Int32.toNatClampNeg (v9 + (1 : Int32))))) ≤ MS := by omega
                refine lv_astore hx hb dL_law_304 hl (by decide) rfl (fun ls hl => ?_)
                have hl : lv_has ls 23 [(17, .ref q107), (16, .int (0 : Int32)), (15, .ref q102), (14, .ref q98), (13, .ref q95), (8, .int (v8 + r71)), (0, .ref p1), (1, .ref v1), (3, .int v3), (4, .int v4), (5, .ref v5), (6, .ref v6), (7, .int v7), (9, .int v9)] := hl
                refine lv_iconst (v := (0 : Int32)) hx hb dL_law_306 (by decide) ?_
                refine lv_istore hx hb dL_law_307 hl (by decide) rfl (fun ls hl => ?_)
                have hl : lv_has ls 23 [(18, .int (0 : Int32)), (17, .ref q107), (16, .int (0 : Int32)), (15, .ref q102), (14, .ref q98), (13, .ref q95), (8, .int (v8 + r71)), (0, .ref p1), (1, .ref v1), (3, .int v3), (4, .int v4), (5, .ref v5), (6, .ref v6), (7, .int v7), (9, .int v9)] := hl
                obtain ⟨n309, h⟩ := h
                exact hB309 n309 _ _ _ _ _ _ _ _ _ _ _ _ _ _ _ _ _ _ _ _ _ _ _ h hw hS (lv_sub hl [7, 8, 9, 10, 11, 12, 13, 6, 14, 5, 4, 3, 2, 1, 0] rfl) hcu hsu hd0
              · have h := h.2 hc
                exact hB273 _ _ _ _ _ _ _ _ _ h hw hS (lv_sub hl [] rfl) hcu hsu hd0
      intro S H locs ls mc ms cu su d0 v1 v3 v4 v5 v6 v7 v8 v9 h hw hS hl hcu hsu hd0
      unfold wb_L_law_105 at h
      have hB := hB0 d0
      have htx := dr_words hts0 d0
      have hts : ∀ w ∈ wsL_law, w.before _ (s.setDrawn d0) = true := htx
      have hown : (s.setDrawn d0).vm.findClass RL = some m.cls := hown0
      have hK : va_K D bCl (bT y) (s.setDrawn d0) := hB.2.1
      have hNw := hB.2.2.1
      have hO := hB.2.2.2.2.2.1
      have hX := hX0 d0
      refine lv_iload hx hb dL_law_105 (lv_at hl 8 rfl) ?_
      refine lv_bipush (v := (60 : Int32)) hx hb dL_law_107 (by decide) ?_
      refine lv_icmp_gt (tgt := 874) hx hb dL_law_109 (by decide) (fun hc => ?_) (fun hc => ?_)
      · have h := h.1 hc
        refine lv_iconst (v := (1 : Int32)) hx hb dL_law_874 (by decide) ?_
        exact hret _ _ _ _ _ _ _ _ _ h hw hS (by omega) (by omega) hd0 dL_law_875
      · have h := h.2 hc
        refine lv_aload_n hx hb dL_law_112 rfl (lv_at hl 0 rfl) ?_
        refine lv_iload hx hb dL_law_113 (lv_at hl 8 rfl) ?_
        refine lv_bipush (v := (16 : Int32)) hx hb dL_law_115 (by decide) ?_
        obtain ⟨hne, h⟩ := h
        refine lv_irem hx hb dL_law_117 hne ?_
        have h1 := h
        refine va_calli (va_runS (As := [.ref p1, .int (v9 - v9 / (16 : Int32) * (16 : Int32))]) (rest := []) ⟨hx, hb, hml, hown, hts⟩ (m_L_cell (l := l) h1) (cwS 2 hts gL_law_L_cell rfl rfl rfl (by decide +kernel) ⟨Nat.le_trans (Nat.le_of_ble_eq_true rfl) hRf, Nat.le_trans (Nat.le_of_ble_eq_true rfl) hRl⟩) (r_pSX hB hw hS hX hbl hbA) rfl rfl hl.1 rfl (lv_room (Nat.le_of_ble_eq_true rfl)) dL_law_118 ⟨by omega, by omega⟩) hS (fun _ _ h => h) (fun _ h => h) (fun r40 S41 t H1 locs ht _ h hw1 _ _ hS => ?_)
        subst ht
        have hw : wd D y z S41 A t.heap := hw1
        clear hw1 h1
        refine lv_iload hx hb dL_law_121 (lv_at hl 8 rfl) ?_
        refine lv_bipush (v := (16 : Int32)) hx hb dL_law_123 (by decide) ?_
        obtain ⟨hne, h⟩ := h
        refine lv_idiv hx hb dL_law_125 hne ?_
        refine lv_iconst (v := (3 : Int32)) hx hb dL_law_126 (by decide) ?_
        refine lv_imul hx hb dL_law_127 ?_
        refine lv_ishr hx hb dL_law_128 ?_
        refine lv_iload hx hb dL_law_129 (lv_at hl 8 rfl) ?_
        refine lv_iadd hx hb dL_law_131 ?_
        refine lv_istore hx hb dL_law_132 hl (by decide) rfl (fun ls hl => ?_)
        have hl : lv_has ls 23 [(10, .int ((r40 >>> (((v9 / (16 : Int32)) * (3 : Int32)) &&& 31)) + v9)), (0, .ref p1), (1, .ref v1), (3, .int v3), (4, .int v4), (5, .ref v5), (6, .ref v6), (7, .int v7), (8, .int v8), (9, .int v9)] := hl
        refine lv_iload hx hb dL_law_134 (lv_at hl 0 rfl) ?_
        refine lv_iload_n hx hb dL_law_136 rfl (lv_at hl 3 rfl) ?_
        have h1 := h
        refine va_calli (va_runS (As := [.int ((r40 >>> (((v9 / (16 : Int32)) * (3 : Int32)) &&& 31)) + v9), .int v3]) (rest := []) ⟨hx, hb, hml, hown, hts⟩ (m_L_below (l := l) h1) (cwS 2 hts gL_law_L_below rfl rfl rfl (by decide +kernel) ⟨Nat.le_trans (Nat.le_of_ble_eq_true rfl) hRf, Nat.le_trans (Nat.le_of_ble_eq_true rfl) hRl⟩) (r_pS hB hw hS) rfl rfl hl.1 rfl (lv_room (Nat.le_of_ble_eq_true rfl)) dL_law_137 ⟨by omega, by omega⟩) hS (fun _ _ h => h) (fun _ h => h) (fun r42 S43 t H1 locs ht _ h hw1 _ _ hS => ?_)
        subst ht
        have hw : wd D y z S43 A t.heap := hw1
        clear hw1 h1
        refine lv_istore hx hb dL_law_140 hl (by decide) rfl (fun ls hl => ?_)
        have hl : lv_has ls 23 [(11, .int r42), (10, .int ((r40 >>> (((v9 / (16 : Int32)) * (3 : Int32)) &&& 31)) + v9)), (0, .ref p1), (1, .ref v1), (3, .int v3), (4, .int v4), (5, .ref v5), (6, .ref v6), (7, .int v7), (8, .int v8), (9, .int v9)] := hl
        refine lv_iload hx hb dL_law_142 (lv_at hl 1 rfl) ?_
        refine lv_iconst (v := (3 : Int32)) hx hb dL_law_144 (by decide) ?_
        refine lv_ishr hx hb dL_law_145 ?_
        refine lv_iload_n hx hb dL_law_146 rfl (lv_at hl 4 rfl) ?_
        have h1 := h
        refine va_calli (va_runS (As := [.int (((r40 >>> (((v9 / (16 : Int32)) * (3 : Int32)) &&& 31)) + v9) >>> ((3 : Int32) &&& 31)), .int v3]) (rest := []) ⟨hx, hb, hml, hown, hts⟩ (m_L_below (l := l) h1) (cwS 2 hts gL_law_L_below rfl rfl rfl (by decide +kernel) ⟨Nat.le_trans (Nat.le_of_ble_eq_true rfl) hRf, Nat.le_trans (Nat.le_of_ble_eq_true rfl) hRl⟩) (r_pS hB hw hS) rfl rfl hl.1 rfl (lv_room (Nat.le_of_ble_eq_true rfl)) dL_law_147 ⟨by omega, by omega⟩) hS (fun _ _ h => h) (fun _ h => h) (fun r44 S45 t H1 locs ht _ h hw1 _ _ hS => ?_)
        subst ht
        have hw : wd D y z S45 A t.heap := hw1
        clear hw1 h1
        refine lv_istore hx hb dL_law_150 hl (by decide) rfl (fun ls hl => ?_)
        have hl : lv_has ls 23 [(12, .int r44), (11, .int r42), (10, .int ((r40 >>> (((v9 / (16 : Int32)) * (3 : Int32)) &&& 31)) + v9)), (0, .ref p1), (1, .ref v1), (3, .int v3), (4, .int v4), (5, .ref v5), (6, .ref v6), (7, .int v7), (8, .int v8), (9, .int v9)] := hl
        refine lv_iload hx hb dL_law_152 (lv_at hl 1 rfl) ?_
        refine lv_iload hx hb dL_law_154 (lv_at hl 0 rfl) ?_
        refine lv_icmp_eq (tgt := 219) hx hb dL_law_156 (by decide) (fun hc => ?_) (fun hc => ?_)
        · have h := h.1 hc
          exact hB219 _ _ _ _ _ _ _ _ _ _ _ _ _ _ _ _ _ h hw hS (lv_sub hl [3, 4, 5, 6, 7, 8, 9, 10, 11] rfl) hcu hsu hd0
        · have h := h.2 hc
          refine lv_aload_n hx hb dL_law_159 rfl (lv_at hl 4 rfl) ?_
          refine lv_iload hx hb dL_law_160 (lv_at hl 1 rfl) ?_
          refine lv_iconst (v := (4 : Int32)) hx hb dL_law_162 (by decide) ?_
          obtain ⟨hk46, h⟩ := h
          obtain ⟨k49, n50, hbg1, hbg2, h⟩ := h
          have h1 := h
          refine vx_calli (vx_runV (As := [.int r42, .int (4 : Int32)]) (rest := []) ⟨hx, hb, hml, hown, hts⟩ (m_X5_station (l := l) hl0 h1) (cwV 2 hts gL_law_X5_station rfl rfl rfl (by decide +kernel) ⟨Nat.le_trans (Nat.le_of_ble_eq_true rfl) hRf, Nat.le_trans (Nat.le_of_ble_eq_true rfl) hRl⟩) (r_pV hB hw hS (ce_7 (S := S45) hk46) rfl) rfl rfl hl.1 rfl (lv_room (Nat.le_of_ble_eq_true rfl)) dL_law_163 ⟨by omega, by omega⟩) hS (fun _ _ h => h) (fun _ h => h) (fun _ _ h => h) (fun E ce q9 S48 t H1 locs ht hal _ hq hz9 hk9 hS hq9 hvm9 hfc9 => hq.1.elim) (fun r47 S48 t H1 locs ht _ h hw1 _ _ hS => ?_)
          subst ht
          have hw : wd D y z S48 A t.heap := hw1
          clear hw1 h1
          have hcu : (cu + k49) + (mc - k49) ≤ MC := by omega
          have hsu : (su + n50) + (ms - n50) ≤ MS := by omega
          refine lv_aload_n hx hb dL_law_166 rfl (lv_at hl 4 rfl) ?_
          refine lv_iload hx hb dL_law_167 (lv_at hl 1 rfl) ?_
          refine lv_iconst (v := (0 : Int32)) hx hb dL_law_169 (by decide) ?_
          obtain ⟨hk51, h⟩ := h
          obtain ⟨k54, n55, hbg1, hbg2, h⟩ := h
          have h1 := h
          refine vx_calli (vx_runV (As := [.int r42, .int (0 : Int32)]) (rest := [.int r47]) ⟨hx, hb, hml, hown, hts⟩ (m_X5_station (l := l) hl0 h1) (cwV 2 hts gL_law_X5_station rfl rfl rfl (by decide +kernel) ⟨Nat.le_trans (Nat.le_of_ble_eq_true rfl) hRf, Nat.le_trans (Nat.le_of_ble_eq_true rfl) hRl⟩) (r_pV hB hw hS (ce_7 (S := S48) hk51) rfl) rfl rfl hl.1 rfl (lv_room (Nat.le_of_ble_eq_true rfl)) dL_law_170 ⟨by omega, by omega⟩) hS (fun _ _ h => h) (fun _ h => h) (fun _ _ h => h) (fun E ce q9 S53 t H1 locs ht hal _ hq hz9 hk9 hS hq9 hvm9 hfc9 => hq.1.elim) (fun r52 S53 t H1 locs ht _ h hw1 _ _ hS => ?_)
          subst ht
          have hw : wd D y z S53 A t.heap := hw1
          clear hw1 h1
          have hcu : ((cu + k49) + k54) + ((mc - k49) - k54) ≤ MC := by omega
          have hsu : ((su + n50) + n55) + ((ms - n50) - n55) ≤ MS := by omega
          refine lv_icmp_ge (tgt := 219) hx hb dL_law_173 (by decide) (fun hc => ?_) (fun hc => ?_)
          · have h := h.1 hc
            exact hB219 _ _ _ _ _ _ _ _ _ _ _ _ _ _ _ _ _ h hw hS (lv_sub hl [3, 4, 5, 6, 7, 8, 9, 10, 11] rfl) hcu hsu hd0
          · have h := h.2 hc
            refine lv_aload_n hx hb dL_law_176 rfl (lv_at hl 4 rfl) ?_
            refine lv_iconst (v := (5 : Int32)) hx hb dL_law_177 (by decide) ?_
            obtain ⟨hk56, h⟩ := h
            obtain ⟨k59, n60, hbg1, hbg2, h⟩ := h
            have h1 := h
            refine vx_calli (vx_runV (As := [.int (5 : Int32)]) (rest := []) ⟨hx, hb, hml, hown, hts⟩ (m_X5_count (l := l) hl0 h1) (cwV 1 hts gL_law_X5_count rfl rfl rfl (by decide +kernel) ⟨Nat.le_trans (Nat.le_of_ble_eq_true rfl) hRf, Nat.le_trans (Nat.le_of_ble_eq_true rfl) hRl⟩) (r_pV hB hw hS (ce_7 (S := S53) hk56) rfl) rfl rfl hl.1 rfl (lv_room (Nat.le_of_ble_eq_true rfl)) dL_law_178 ⟨by omega, by omega⟩) hS (fun _ _ h => h) (fun _ h => h) (fun _ _ h => h) (fun E ce q9 S58 t H1 locs ht hal _ hq hz9 hk9 hS hq9 hvm9 hfc9 => hq.1.elim) (fun r57 S58 t H1 locs ht _ h hw1 _ _ hS => ?_)
            subst ht
            have hw : wd D y z S58 A t.heap := hw1
            clear hw1 h1
            have hcu : (((cu + k49) + k54) + k59) + (((mc - k49) - k54) - k59) ≤ MC := by omega
            have hsu : (((su + n50) + n55) + n60) + (((ms - n50) - n55) - n60) ≤ MS := by omega
            refine lv_bipush (v := (40 : Int32)) hx hb dL_law_181 (by decide) ?_
            refine lv_icmp_ge (tgt := 219) hx hb dL_law_183 (by decide) (fun hc => ?_) (fun hc => ?_)
            · have h := h.1 hc
              exact hB219 _ _ _ _ _ _ _ _ _ _ _ _ _ _ _ _ _ h hw hS (lv_sub hl [3, 4, 5, 6, 7, 8, 9, 10, 11] rfl) hcu hsu hd0
            · have h := h.2 hc
              refine lv_aload_n hx hb dL_law_186 rfl (lv_at hl 4 rfl) ?_
              refine lv_iload hx hb dL_law_187 (lv_at hl 1 rfl) ?_
              refine lv_iload hx hb dL_law_189 (lv_at hl 0 rfl) ?_
              refine lv_iload hx hb dL_law_191 (lv_at hl 2 rfl) ?_
              refine lv_iconst (v := (5 : Int32)) hx hb dL_law_193 (by decide) ?_
              refine lv_ishr hx hb dL_law_194 ?_
              refine lv_iconst (v := (4 : Int32)) hx hb dL_law_195 (by decide) ?_
              have h1 := h
              refine va_calli (va_runS (As := [.int (((r40 >>> (((v9 / (16 : Int32)) * (3 : Int32)) &&& 31)) + v9) >>> ((5 : Int32) &&& 31)), .int (4 : Int32)]) (rest := [.int r44, .int r42, .ref v1]) ⟨hx, hb, hml, hown, hts⟩ (m_L_below (l := l) h1) (cwS 2 hts gL_law_L_below rfl rfl rfl (by decide +kernel) ⟨Nat.le_trans (Nat.le_of_ble_eq_true rfl) hRf, Nat.le_trans (Nat.le_of_ble_eq_true rfl) hRl⟩) (r_pS hB hw hS) rfl rfl hl.1 rfl (lv_room (Nat.le_of_ble_eq_true rfl)) dL_law_196 ⟨by omega, by omega⟩) hS (fun _ _ h => h) (fun _ h => h) (fun r61 S62 t H1 locs ht _ h hw1 _ _ hS => ?_)
              subst ht
              have hw : wd D y z S62 A t.heap := hw1
              clear hw1 h1
              obtain ⟨hk63, h⟩ := h
              obtain ⟨k66, n67, hbg1, hbg2, h⟩ := h
              have h1 := h
              refine vx_calli (vx_runV (As := [.int r42, .int r44, .int r61]) (rest := []) ⟨hx, hb, hml, hown, hts⟩ (m_X5_send (l := l) hl0 h1) (cwV 3 hts gL_law_X5_send rfl rfl rfl (by decide +kernel) ⟨Nat.le_trans (Nat.le_of_ble_eq_true rfl) hRf, Nat.le_trans (Nat.le_of_ble_eq_true rfl) hRl⟩) (r_pV hB hw hS (ce_7 (S := S62) hk63) rfl) rfl rfl hl.1 rfl (lv_room (Nat.le_of_ble_eq_true rfl)) dL_law_199 ⟨by omega, by omega⟩) hS (fun _ _ h => h) (fun _ h => h) (fun _ _ h => h) (fun E ce q9 S65 t H1 locs ht hal _ hq hz9 hk9 hS hq9 hvm9 hfc9 => hq.1.elim) (fun r64 S65 t H1 locs ht _ h hw1 _ _ hS => ?_)
              subst ht
              have hw : wd D y z S65 A t.heap := hw1
              clear hw1 h1
              have hcu : ((((cu + k49) + k54) + k59) + k66) + ((((mc - k49) - k54) - k59) - k66) ≤ MC := by omega
              have hsu : ((((su + n50) + n55) + n60) + n67) + ((((ms - n50) - n55) - n60) - n67) ≤ MS := by omega
              refine lv_iload hx hb dL_law_202 (lv_at hl 9 rfl) ?_
              refine lv_icmp_eq (tgt := 209) hx hb dL_law_204 (by decide) (fun hc => ?_) (fun hc => ?_)
              · have h := h.1 hc
                refine lv_aload hx hb dL_law_209 (lv_at hl 8 rfl) ?_
                refine lv_iload hx hb dL_law_211 (lv_at hl 9 rfl) ?_
                refine lv_iload hx hb dL_law_213 (lv_at hl 1 rfl) ?_
                obtain ⟨hk68, h⟩ := h
                obtain ⟨hin69, h⟩ := h
                refine r_iast hx hb hK hw hS hk68 hin69 dL_law_215 (fun H locs hw hS => ?_)
                refine lv_iinc (v := (v7 + (1 : Int32))) hx hb dL_law_216 hl (k := 9) rfl rfl (by decide) rfl (fun ls hl => ?_)
                have hl : lv_has ls 23 [(7, .int (v7 + (1 : Int32))), (12, .int r44), (11, .int r42), (10, .int ((r40 >>> (((v9 / (16 : Int32)) * (3 : Int32)) &&& 31)) + v9)), (0, .ref p1), (1, .ref v1), (3, .int v3), (4, .int v4), (5, .ref v5), (6, .ref v6), (8, .int v8), (9, .int v9)] := hl
                exact hB219 _ _ _ _ _ _ _ _ _ _ _ _ _ _ _ _ _ h hw hS (lv_sub hl [4, 5, 6, 7, 8, 9, 0, 10, 11] rfl) hcu hsu hd0
              · have h := h.2 hc
                refine lv_iconst (v := (0 : Int32)) hx hb dL_law_207 (by decide) ?_
                exact hret _ _ _ _ _ _ _ _ _ h hw hS (by omega) (by omega) hd0 dL_law_208
  have hB46 : ∀ (n46 : Nat) (S : bS) (H : Heap) (locs : List Loc) (ls : Array Slot) (mc ms cu su : Nat) (d0 : Drawn) (v1 : Nat) (v3 : Int32) (v4 : Int32) (v5 : Nat) (v6 : Int32), wb_L_law_46 xs L post n46 mc ms v1 v3 v4 v5 v6 S → wd D y z S A H → va_S A s.heap H locs → lv_has ls 23 [(0, .ref p1), (1, .ref v1), (3, .int v3), (4, .int v4), (5, .ref v5), (6, .int v6)] → cu + mc ≤ MC → su + ms ≤ MS → s.drawn.sameBut d0 lw_cs → W p l e room_1 (s.setDrawn d0) m #[Value.ref p1] below meth c H locs cu su Q (F0 m 46 ls []) := by
    intro n46
    induction n46 with
    | zero =>
      intro S H locs ls mc ms cu su d0 v1 v3 v4 v5 v6 h hw hS hl hcu hsu hd0
      exact absurd h (by unfold wb_L_law_46; exact id)
    | succ n46 ih46 =>
      have hB55 : ∀ (n55 : Nat) (S : bS) (H : Heap) (locs : List Loc) (ls : Array Slot) (mc ms cu su : Nat) (d0 : Drawn) (v1 : Nat) (v3 : Int32) (v4 : Int32) (v5 : Nat) (v6 : Int32) (v7 : Int32), wb_L_law_55 xs L post (wb_L_law_46 xs L post n46) n55 mc ms v1 v3 v4 v5 v6 v7 S → wd D y z S A H → va_S A s.heap H locs → lv_has ls 23 [(0, .ref p1), (1, .ref v1), (3, .int v3), (4, .int v4), (5, .ref v5), (6, .int v6), (7, .int v7)] → cu + mc ≤ MC → su + ms ≤ MS → s.drawn.sameBut d0 lw_cs → W p l e room_1 (s.setDrawn d0) m #[Value.ref p1] below meth c H locs cu su Q (F0 m 55 ls []) := by
        intro n55
        induction n55 with
        | zero =>
          intro S H locs ls mc ms cu su d0 v1 v3 v4 v5 v6 v7 h hw hS hl hcu hsu hd0
          exact absurd h (by unfold wb_L_law_55; exact id)
        | succ n55 ih55 =>
          intro S H locs ls mc ms cu su d0 v1 v3 v4 v5 v6 v7 h hw hS hl hcu hsu hd0
          unfold wb_L_law_55 at h
          have hB := hB0 d0
          have htx := dr_words hts0 d0
          have hts : ∀ w ∈ wsL_law, w.before _ (s.setDrawn d0) = true := htx
          have hown : (s.setDrawn d0).vm.findClass RL = some m.cls := hown0
          have hK : va_K D bCl (bT y) (s.setDrawn d0) := hB.2.1
          have hNw := hB.2.2.1
          have hO := hB.2.2.2.2.2.1
          have hX := hX0 d0
          refine lv_iload hx hb dL_law_55 (lv_at hl 6 rfl) ?_
          refine lv_iload_n hx hb dL_law_57 rfl (lv_at hl 2 rfl) ?_
          refine lv_icmp_ge (tgt := 83) hx hb dL_law_58 (by decide) (fun hc => ?_) (fun hc => ?_)
          · have h := h.1 hc
            refine lv_iinc (v := (v6 + (1 : Int32))) hx hb dL_law_83 hl (k := 5) rfl rfl (by decide) rfl (fun ls hl => ?_)
            have hl : lv_has ls 23 [(6, .int (v6 + (1 : Int32))), (0, .ref p1), (1, .ref v1), (3, .int v3), (4, .int v4), (5, .ref v5), (7, .int v7)] := hl
            refine lv_goto (tgt := 46) hx hb dL_law_86 (by decide) ?_
            exact ih46 _ _ _ _ _ _ _ _ _ _ _ _ _ _ h hw hS (lv_sub hl [1, 2, 3, 4, 5, 0] rfl) hcu hsu hd0
          · have h := h.2 hc
            refine lv_aload hx hb dL_law_61 (lv_at hl 4 rfl) ?_
            refine lv_iload hx hb dL_law_63 (lv_at hl 5 rfl) ?_
            obtain ⟨hk29, h⟩ := h
            obtain ⟨hin30, h⟩ := h
            obtain ⟨b31, hb32, h⟩ := h
            refine r_rald hx hb hK hw hk29 hin30 dL_law_65 ?_
            rw [hb32]
            refine W.eq (g2 := F0 m 66 ls [.ref b31]) rfl ?_
            refine lv_iload hx hb dL_law_66 (lv_at hl 6 rfl) ?_
            refine lv_aload_n hx hb dL_law_68 rfl (lv_at hl 1 rfl) ?_
            refine lv_iload hx hb dL_law_69 (lv_at hl 5 rfl) ?_
            refine lv_iload hx hb dL_law_71 (lv_at hl 6 rfl) ?_
            obtain ⟨hk33, h⟩ := h
            obtain ⟨k36, n37, hbg1, hbg2, h⟩ := h
            have h1 := h
            refine vx_calli (vx_runV (As := [.int v6, .int v7]) (rest := [.int v7, .ref b31]) ⟨hx, hb, hml, hown, hts⟩ (m_X5_time (l := l) hl0 h1) (cwV 2 hts gL_law_X5_time rfl rfl rfl (by decide +kernel) ⟨Nat.le_trans (Nat.le_of_ble_eq_true rfl) hRf, Nat.le_trans (Nat.le_of_ble_eq_true rfl) hRl⟩) (r_pV hB hw hS (ce_7 (S := S) hk33) rfl) rfl rfl hl.1 rfl (lv_room (Nat.le_of_ble_eq_true rfl)) dL_law_73 ⟨by omega, by omega⟩) hS (fun _ _ h => h) (fun _ h => h) (fun _ _ h => h) (fun E ce q9 S35 t H1 locs ht hal _ hq hz9 hk9 hS hq9 hvm9 hfc9 => hq.1.elim) (fun r34 S35 t H1 locs ht _ h hw1 _ _ hS => ?_)
            subst ht
            have hw : wd D y z S35 A t.heap := hw1
            clear hw1 h1
            have hcu : (cu + k36) + (mc - k36) ≤ MC := by omega
            have hsu : (su + n37) + (ms - n37) ≤ MS := by omega
            obtain ⟨hk38, h⟩ := h
            obtain ⟨hin39, h⟩ := h
            refine r_iast hx hb hK hw hS hk38 hin39 dL_law_76 (fun H locs hw hS => ?_)
            refine lv_iinc (v := (v7 + (1 : Int32))) hx hb dL_law_77 hl (k := 6) rfl rfl (by decide) rfl (fun ls hl => ?_)
            have hl : lv_has ls 23 [(7, .int (v7 + (1 : Int32))), (0, .ref p1), (1, .ref v1), (3, .int v3), (4, .int v4), (5, .ref v5), (6, .int v6)] := hl
            refine lv_goto (tgt := 55) hx hb dL_law_80 (by decide) ?_
            exact ih55 _ _ _ _ _ _ _ _ _ _ _ _ _ _ _ h hw hS (lv_sub hl [1, 2, 3, 4, 5, 6, 0] rfl) hcu hsu hd0
      intro S H locs ls mc ms cu su d0 v1 v3 v4 v5 v6 h hw hS hl hcu hsu hd0
      unfold wb_L_law_46 at h
      have hB := hB0 d0
      have htx := dr_words hts0 d0
      have hts : ∀ w ∈ wsL_law, w.before _ (s.setDrawn d0) = true := htx
      have hown : (s.setDrawn d0).vm.findClass RL = some m.cls := hown0
      have hK : va_K D bCl (bT y) (s.setDrawn d0) := hB.2.1
      have hNw := hB.2.2.1
      have hO := hB.2.2.2.2.2.1
      have hX := hX0 d0
      refine lv_iload hx hb dL_law_46 (lv_at hl 5 rfl) ?_
      refine lv_iload_n hx hb dL_law_48 rfl (lv_at hl 2 rfl) ?_
      refine lv_icmp_ge (tgt := 89) hx hb dL_law_49 (by decide) (fun hc => ?_) (fun hc => ?_)
      · have h := h.1 hc
        refine lv_sipush (v := (500 : Int32)) hx hb dL_law_89 (by decide) ?_
        obtain ⟨hn0, hn1, hbg1, hbg2, h⟩ := h
        refine r_newa9 hx hb (hts (.arrayClass .int) (by decide +kernel)) hK hw hS hAn hAz hn0 rfl hn1 (by omega) (by omega) dL_law_92 (fun q26 H hq27 hw hS => ?_)
        have h := h q26 hq27
        have hk28 : gK (sNew S q26 9 (Int32.toNatClampNeg (500 : Int32))) q26 = 9 := if_pos rfl
        have hcu : (cu + 1) + (mc - 1) ≤ MC := by omega
        have hsu : (su + (Int32.toNatClampNeg (500 : Int32))) + (ms - (Int32.toNatClampNeg (500 : Int32))) ≤ MS := by omega
        refine lv_astore hx hb dL_law_94 hl (by decide) rfl (fun ls hl => ?_)
        have hl : lv_has ls 23 [(6, .ref q26), (0, .ref p1), (1, .ref v1), (3, .int v3), (4, .int v4), (5, .ref v5)] := hl
        refine lv_iconst (v := (0 : Int32)) hx hb dL_law_96 (by decide) ?_
        refine lv_istore hx hb dL_law_97 hl (by decide) rfl (fun ls hl => ?_)
        have hl : lv_has ls 23 [(7, .int (0 : Int32)), (6, .ref q26), (0, .ref p1), (1, .ref v1), (3, .int v3), (4, .int v4), (5, .ref v5)] := hl
        refine lv_iconst (v := (0 : Int32)) hx hb dL_law_99 (by decide) ?_
        refine lv_istore hx hb dL_law_100 hl (by decide) rfl (fun ls hl => ?_)
        have hl : lv_has ls 23 [(8, .int (0 : Int32)), (7, .int (0 : Int32)), (6, .ref q26), (0, .ref p1), (1, .ref v1), (3, .int v3), (4, .int v4), (5, .ref v5)] := hl
        refine lv_iconst (v := (1 : Int32)) hx hb dL_law_102 (by decide) ?_
        refine lv_istore hx hb dL_law_103 hl (by decide) rfl (fun ls hl => ?_)
        have hl : lv_has ls 23 [(9, .int (1 : Int32)), (8, .int (0 : Int32)), (7, .int (0 : Int32)), (6, .ref q26), (0, .ref p1), (1, .ref v1), (3, .int v3), (4, .int v4), (5, .ref v5)] := hl
        obtain ⟨n105, h⟩ := h
        exact hB105 n105 _ _ _ _ _ _ _ _ _ _ _ _ _ _ _ _ _ h hw hS (lv_sub hl [4, 5, 6, 7, 8, 3, 2, 1, 0] rfl) hcu hsu hd0
      · have h := h.2 hc
        refine lv_iconst (v := (0 : Int32)) hx hb dL_law_52 (by decide) ?_
        refine lv_istore hx hb dL_law_53 hl (by decide) rfl (fun ls hl => ?_)
        have hl : lv_has ls 23 [(7, .int (0 : Int32)), (0, .ref p1), (1, .ref v1), (3, .int v3), (4, .int v4), (5, .ref v5), (6, .int v6)] := hl
        obtain ⟨n55, h⟩ := h
        exact hB55 n55 _ _ _ _ _ _ _ _ _ _ _ _ _ _ _ h hw hS (lv_sub hl [1, 2, 3, 4, 5, 6, 0] rfl) hcu hsu hd0
  unfold wp_L_law at h
  have hB := hB0 s.drawn
  have htx := dr_words hts0 s.drawn
  have hts : ∀ w ∈ wsL_law, w.before _ (s.setDrawn s.drawn) = true := htx
  have hown : (s.setDrawn s.drawn).vm.findClass RL = some m.cls := hown0
  have hK : va_K D bCl (bT y) (s.setDrawn s.drawn) := hB.2.1
  have hNw := hB.2.2.1
  have hO := hB.2.2.2.2.2.1
  have hX := hX0 s.drawn
  have hcu : 0 + MC ≤ MC := by omega
  have hsu : 0 + MS ≤ MS := by omega
  obtain ⟨hbg1, hbg2, h⟩ := h
  refine r_new (ci := 6) (C := RX5) (T := TX5) (N := 6) (κ := 7) (nn := 0) hx hb hts hiX5 tyX5 tyX5_ok hown (hts (.classLink RL 23 RX5) (by decide +kernel)) (hts (.instantiable RX5 6) (by decide +kernel)) (hts (.initialized RX5) (by decide +kernel)) hK hw hS hAn hAz rfl pn_7 (by decide) b_fs7 (by omega) (by omega) dL_law_0 (fun q1 H hq2 hw hS => ?_)
  have h := h q1 hq2
  have hk3 : gK (sNew S q1 7 0) q1 = 7 := if_pos rfl
  have hcu : (0 + 1) + (MC - 1) ≤ MC := by omega
  have hsu : (0 + 6) + (MS - 6) ≤ MS := by omega
  refine lv_dup hx hb dL_law_3 rfl ?_
  obtain ⟨k6, n7, hbg1, hbg2, h⟩ := h
  have h1 := h
  refine va_callv (va_runI (As := []) (rest := [.ref q1]) ⟨hx, hb, hml, hown, hts⟩ (m_X5_init (l := l) h1) (cwI 0 hts gL_law_X5_init rfl rfl rfl (hts (.initialized RX5) (by decide +kernel)) (hts (.methodLink RL 45 yX5_init) (by decide +kernel)) (hts (.instanceMethod yX5_init) (by decide +kernel)) rfl (by decide +kernel) ⟨Nat.le_trans (Nat.le_of_ble_eq_true rfl) hRf, Nat.le_trans (Nat.le_of_ble_eq_true rfl) hRl⟩) (r_pS hB hw hS) rfl rfl hl.1 rfl (lv_room (Nat.le_of_ble_eq_true rfl)) dL_law_4 ⟨by omega, by omega⟩) hS (fun _ _ h => h) (fun _ h => h) (fun S5 t H1 locs ht _ h hw1 _ _ hS => ?_)
  subst ht
  have hw : wd D y z S5 A t.heap := hw1
  clear hw1 h1
  have hcu : ((0 + 1) + k6) + ((MC - 1) - k6) ≤ MC := by omega
  have hsu : ((0 + 6) + n7) + ((MS - 6) - n7) ≤ MS := by omega
  refine lv_astore_n hx hb dL_law_7 rfl hl (by decide) rfl (fun ls hl => ?_)
  have hl : lv_has ls 23 [(1, .ref q1), (0, .ref p1)] := hl
  refine lv_aload_n hx hb dL_law_8 rfl (lv_at hl 0 rfl) ?_
  refine lv_aload_n hx hb dL_law_9 rfl (lv_at hl 1 rfl) ?_
  refine lv_bipush (v := (7 : Int32)) hx hb dL_law_10 (by decide) ?_
  obtain ⟨k10, n11, hbg1, hbg2, h⟩ := h
  have h1 := h
  refine va_callq (va_runS (As := [.ref q1, .ref p1, .int (7 : Int32)]) (rest := []) ⟨hx, hb, hml, hown, hts⟩ (m_L_build (l := l) hl0 h1) (cwS 3 hts gL_law_L_build rfl rfl rfl (by decide +kernel) ⟨Nat.le_trans (Nat.le_of_ble_eq_true rfl) hRf, Nat.le_trans (Nat.le_of_ble_eq_true rfl) hRl⟩) (r_pSX hB hw hS hX hbl hbA) rfl rfl hl.1 rfl (lv_room (Nat.le_of_ble_eq_true rfl)) dL_law_12 ⟨by omega, by omega⟩) hS (fun _ _ h => h) (fun _ h => h) (fun r8 S9 t H1 locs ht _ h hw1 _ _ hS => ?_)
  subst ht
  have hw : wd D y z S9 A t.heap := hw1
  clear hw1 h1
  have hcu : (((0 + 1) + k6) + k10) + (((MC - 1) - k6) - k10) ≤ MC := by omega
  have hsu : (((0 + 6) + n7) + n11) + (((MS - 6) - n7) - n11) ≤ MS := by omega
  rcases r8 with _ | b12
  · have h := h.1 rfl
    refine W.eq (g2 := F0 m 15 ls [.null]) rfl ?_
    refine lv_astore_nN hx hb dL_law_15 rfl hl (by decide) rfl (fun ls hl => ?_)
    have hl : lv_has ls 23 [(2, .null), (1, .ref q1), (0, .ref p1)] := hl
    refine lv_aload_nN hx hb dL_law_16 rfl (lv_at hl 0 rfl) ?_
    refine lv_ifnonnullN hx hb dL_law_17 ?_
    refine lv_iconst (v := (0 : Int32)) hx hb dL_law_20 (by decide) ?_
    exact hret _ _ _ _ _ _ _ _ _ h hw hS (by omega) (by omega) hd0 dL_law_21
  · have h := h.2 b12 rfl
    refine W.eq (g2 := F0 m 15 ls [.ref b12]) rfl ?_
    refine lv_astore_n hx hb dL_law_15 rfl hl (by decide) rfl (fun ls hl => ?_)
    have hl : lv_has ls 23 [(2, .ref b12), (1, .ref q1), (0, .ref p1)] := hl
    refine lv_aload_n hx hb dL_law_16 rfl (lv_at hl 0 rfl) ?_
    refine lv_ifnonnull (tgt := 22) hx hb dL_law_17 (by decide) ?_
    refine lv_aload_n hx hb dL_law_22 rfl (lv_at hl 0 rfl) ?_
    obtain ⟨hk13, h⟩ := h
    obtain ⟨b14, hb15, h⟩ := h
    refine r_get (ci := 7) (v := .ref b14) (C := RX7) (T := TX7) (N := 10) hx hb hts hiX7 hown hK hw (ce_8 (S := S9) hk13) rfl 1 (by decide) (hts (.fieldLink RL 50 "TubePostLaw$Sim" "stations" "[[I") (by decide +kernel)) (fun _ h9 => h9) (congrArg (fun q => some (va_rf q)) hb15) dL_law_23 ?_
    obtain ⟨hk16, h⟩ := h
    refine r_alen hx hb hK hw (S := S9) (by rw [show gK S9 b14 = 12 from hk16]; decide) rfl dL_law_26 ?_
    refine lv_istore_n hx hb dL_law_27 rfl hl (by decide) rfl (fun ls hl => ?_)
    have hl : lv_has ls 23 [(3, .int (Int32.ofNat (gN S9 b14))), (2, .ref b12), (1, .ref q1), (0, .ref p1)] := hl
    refine lv_aload_n hx hb dL_law_28 rfl (lv_at hl 1 rfl) ?_
    obtain ⟨b17, hb18, h⟩ := h
    refine r_get (ci := 7) (v := .ref b17) (C := RX7) (T := TX7) (N := 10) hx hb hts hiX7 hown hK hw (ce_8 (S := S9) hk13) rfl 2 (by decide) (hts (.fieldLink RL 38 "TubePostLaw$Sim" "tubes" "[[I") (by decide +kernel)) (fun _ h9 => h9) (congrArg (fun q => some (va_rf q)) hb18) dL_law_29 ?_
    obtain ⟨hk19, h⟩ := h
    refine r_alen hx hb hK hw (S := S9) (by rw [show gK S9 b17 = 12 from hk19]; decide) rfl dL_law_32 ?_
    refine lv_istore hx hb dL_law_33 hl (by decide) rfl (fun ls hl => ?_)
    have hl : lv_has ls 23 [(4, .int (Int32.ofNat (gN S9 b17))), (3, .int (Int32.ofNat (gN S9 b14))), (2, .ref b12), (1, .ref q1), (0, .ref p1)] := hl
    refine lv_iload_n hx hb dL_law_35 rfl (lv_at hl 1 rfl) ?_
    refine lv_iload_n hx hb dL_law_36 rfl (lv_at hl 1 rfl) ?_
    obtain ⟨hn0, hn1, hb1, hb2, hbg1, hbg2, h⟩ := h
    refine r_mnaI hx hb hown (hts (.classLink RL 53 "[[I") (by decide +kernel)) hO.2.2.1.1 (hts (.arrayClass .int) (by decide +kernel)) hK hw hS hAn hAz hn0 hn1 rfl rfl hb1 hb2 (by omega) (by omega) dL_law_37 (fun q20 r21 H hq9 hr9 hi9 hw hS => ?_)
    have h := h q20 r21 hq9 hr9 hi9
    have hk22 : gK (sMn 12 9 S9 q20 r21 (Int32.toNatClampNeg (Int32.ofNat (gN S9 b14))) (Int32.toNatClampNeg (Int32.ofNat (gN S9 b14)))) b12 = 8 := b_oldM hk13 (by decide) hq9 hr9
    have hk23 : gK (sMn 12 9 S9 q20 r21 (Int32.toNatClampNeg (Int32.ofNat (gN S9 b14))) (Int32.toNatClampNeg (Int32.ofNat (gN S9 b14)))) b14 = 12 := b_oldM hk16 (by decide) hq9 hr9
    have hk24 : gK (sMn 12 9 S9 q20 r21 (Int32.toNatClampNeg (Int32.ofNat (gN S9 b14))) (Int32.toNatClampNeg (Int32.ofNat (gN S9 b14)))) b17 = 12 := b_oldM hk19 (by decide) hq9 hr9
    have hk25 : gK (sMn 12 9 S9 q20 r21 (Int32.toNatClampNeg (Int32.ofNat (gN S9 b14))) (Int32.toNatClampNeg (Int32.ofNat (gN S9 b14)))) q20 = 12 := sMn_out.1
    have hcu : ((((0 + 1) + k6) + k10) + 1 + (Int32.toNatClampNeg (Int32.ofNat (gN S9 b14)))) + ((((MC - 1) - k6) - k10) - (1 + (Int32.toNatClampNeg (Int32.ofNat (gN S9 b14))))) ≤ MC := by omega
    have hsu : ((((0 + 6) + n7) + n11) + (Int32.toNatClampNeg (Int32.ofNat (gN S9 b14))) + (Int32.toNatClampNeg (Int32.ofNat (gN S9 b14))) * (Int32.toNatClampNeg (Int32.ofNat (gN S9 b14)))) + ((((MS - 6) - n7) - n11) - ((Int32.toNatClampNeg (Int32.ofNat (gN S9 b14))) + (Int32.toNatClampNeg (Int32.ofNat (gN S9 b14))) * (Int32.toNatClampNeg (Int32.ofNat (gN S9 b14))))) ≤ MS := by omega
    refine lv_astore hx hb dL_law_41 hl (by decide) rfl (fun ls hl => ?_)
    have hl : lv_has ls 23 [(5, .ref q20), (4, .int (Int32.ofNat (gN S9 b17))), (3, .int (Int32.ofNat (gN S9 b14))), (2, .ref b12), (1, .ref q1), (0, .ref p1)] := hl
    refine lv_iconst (v := (0 : Int32)) hx hb dL_law_43 (by decide) ?_
    refine lv_istore hx hb dL_law_44 hl (by decide) rfl (fun ls hl => ?_)
    have hl : lv_has ls 23 [(6, .int (0 : Int32)), (5, .ref q20), (4, .int (Int32.ofNat (gN S9 b17))), (3, .int (Int32.ofNat (gN S9 b14))), (2, .ref b12), (1, .ref q1), (0, .ref p1)] := hl
    obtain ⟨n46, h⟩ := h
    exact hB46 n46 _ _ _ _ _ _ _ _ _ _ _ _ _ _ h hw hS (lv_sub hl [6, 5, 3, 2, 1, 0] rfl) hcu hsu hd0
