/-- the words on nest mates and on casts, which a state keeps -/
def bNw : List Cond := [Cond.fieldLinkNest RX5 47 "TubePost$Net" "stations" "Ljava/util/ArrayList;" "TubePost", Cond.fieldLinkNest RX5 73 "TubePost$Net" "tubes" "Ljava/util/ArrayList;" "TubePost", Cond.fieldLinkNest RX5 76 "TubePost$Station" "ways" "Ljava/util/ArrayList;" "TubePost", Cond.fieldLinkNest RX5 93 "TubePost$Station" "switchedTo" "I" "TubePost", Cond.fieldLinkNest RX5 100 "TubePost$Tube" "speed" "I" "TubePost", Cond.fieldLinkNest RX5 165 "TubePost$Carrier" "state" "I" "TubePost", Cond.fieldLinkNest RX5 168 "TubePost$Carrier" "place" "I" "TubePost", Cond.fieldLinkNest RX5 171 "TubePost$Carrier" "aim" "LTubePost$Station;" "TubePost", Cond.fieldLinkNest RX5 175 "TubePost$Station" "number" "I" "TubePost", Cond.fieldLinkNest RX5 178 "TubePost$Carrier" "rank" "I" "TubePost", Cond.fieldLinkNest RX5 181 "TubePost$Carrier" "sentAt" "I" "TubePost", Cond.fieldLinkNest RX5 184 "TubePost$Carrier" "since" "I" "TubePost", Cond.fieldLinkNest RX5 187 "TubePost$Carrier" "tubesEntered" "I" "TubePost", Cond.fieldLinkNest RX5 200 "TubePost$Station" "room" "I" "TubePost", Cond.fieldLinkNest RX5 203 "TubePost$Station" "handling" "I" "TubePost", Cond.fieldLinkNest RX5 206 "TubePost$Station" "line" "Ljava/util/ArrayList;" "TubePost", Cond.fieldLinkNest RX5 209 "TubePost$Station" "received" "I" "TubePost", Cond.fieldLinkNest RX5 214 "TubePost$Tube" "from" "LTubePost$Station;" "TubePost", Cond.fieldLinkNest RX5 217 "TubePost$Tube" "to" "LTubePost$Station;" "TubePost", Cond.fieldLinkNest RX5 220 "TubePost$Tube" "length" "I" "TubePost", Cond.fieldLinkNest RX5 223 "TubePost$Tube" "bore" "I" "TubePost", Cond.fieldLinkNest RX5 226 "TubePost$Tube" "isOpen" "Z" "TubePost", Cond.fieldLinkNest RX5 230 "TubePost$Tube" "inside" "Ljava/util/ArrayList;" "TubePost", Cond.fieldLinkNest RX5 236 "TubePost$Tube" "entered" "I" "TubePost", Cond.fieldLinkNest RX5 241 "TubePost$Carrier" "number" "I" "TubePost", Cond.fieldLinkNest RX5 297 "TubePost$Entry" "sort" "I" "TubePost", Cond.fieldLinkNest RX5 300 "TubePost$Entry" "what" "I" "TubePost", Cond.fieldLinkNest RX5 303 "TubePost$Entry" "how" "I" "TubePost", Cond.fieldLinkNest RX0 40 "TubePost$Station" "number" "I" "TubePost", Cond.fieldLinkNest RX0 47 "TubePost$Tube" "number" "I" "TubePost", Cond.fieldLinkNest RX0 50 "TubePost$Tube" "timeThrough" "I" "TubePost", Cond.fieldLinkNest RX0 53 "TubePost$Tube" "inside" "Ljava/util/ArrayList;" "TubePost", Cond.fieldLinkNest RX0 63 "TubePost$Tube" "entered" "I" "TubePost", Cond.fieldLinkNest RX0 66 "TubePost$Tube" "lastEntryAt" "I" "TubePost", Cond.fieldLinkNest RX2 42 "TubePost$Station" "ways" "Ljava/util/ArrayList;" "TubePost", Cond.fieldLinkNest RX2 45 "TubePost$Tube" "number" "I" "TubePost", Cond.fieldLinkNest RX2 53 "TubePost$Tube" "isOpen" "Z" "TubePost", Cond.fieldLinkNest RX2 61 "TubePost$Station" "isReckoned" "Z" "TubePost", Cond.fieldLinkNest RX2 72 "TubePost$Station" "switchedTo" "I" "TubePost", Cond.fieldLinkNest RX2 76 "TubePost$Tube" "to" "LTubePost$Station;" "TubePost", Cond.fieldLinkNest RX2 84 "TubePost$Station" "timesToHere" "[I" "TubePost", Cond.fieldLinkNest RX2 98 "TubePost$Tube" "from" "LTubePost$Station;" "TubePost", Cond.fieldLinkNest RX2 101 "TubePost$Station" "handling" "I" "TubePost", Cond.fieldLinkNest RX2 104 "TubePost$Tube" "timeThrough" "I" "TubePost", Cond.fieldLinkNest RX3 58 "TubePost$Carrier" "rank" "I" "TubePost", Cond.fieldLinkNest RX4 70 "TubePost$Carrier" "since" "I" "TubePost", Cond.fieldLinkNest RX4 73 "TubePost$Carrier" "timeInTube" "I" "TubePost", Cond.methodLinkNest RX5 9 yX2_init "TubePost", Cond.methodLinkNest RX5 59 yX2_build "TubePost", Cond.methodLinkNest RX5 83 yX2_lay "TubePost", Cond.methodLinkNest RX5 105 yX2_set "TubePost", Cond.methodLinkNest RX5 233 yX4_isFirstAtEnd "TubePost", Cond.methodLinkNest RX5 242 yX2_leastTime "TubePost", Cond.methodLinkNest RX5 247 yX2_wayFor "TubePost", Cond.methodLinkNest RX5 278 yX2_hasStation "TubePost", Cond.methodLinkNest RX5 283 yX2_hasTube "TubePost", Cond.methodLinkNest RX5 290 yX1_isDueAt "TubePost", Cond.methodLinkNest RX5 318 yX3_hasRoom "TubePost", Cond.methodLinkNest RX5 322 yX0_comeTo "TubePost", Cond.methodLinkNest RX5 337 yX0_enter "TubePost", Cond.methodLinkNest RX5 341 yX4_canBeEnteredAt "TubePost", Cond.methodLinkNest RX5 344 yX0_init "TubePost", Cond.methodLinkNest RX0 43 yX3_lineUp "TubePost", Cond.methodLinkNest RX2 27 yX3_init "TubePost", Cond.methodLinkNest RX2 39 yX4_init "TubePost", Cond.methodLinkNest RX2 49 yX4_setSpeed "TubePost", Cond.methodLinkNest RX2 68 yX3_timeFrom "TubePost", Cond.methodLinkNest RX2 94 yX3_keepTimeFrom "TubePost", Cond.methodLinkNest RL 11 yX7_init "TubePostLaw", Cond.castable "TubePost$Carrier" "java/lang/Object", Cond.castable "TubePost$Station" "java/lang/Object", Cond.castable "TubePost$Tube" "java/lang/Object", Cond.castable "TubePost$Net" "java/lang/Object", Cond.declares (Bundle.initS "java/lang/RuntimeException"), Cond.declares (Bundle.initS "java/lang/Exception"), Cond.declares (Bundle.initS "java/lang/Throwable"), Cond.classLink RX7 27 "[LTubePostLaw$Carrier;"]
theorem bNw_0 : Cond.fieldLinkNest RX5 47 "TubePost$Net" "stations" "Ljava/util/ArrayList;" "TubePost" ∈ bNw := List.mem_of_getElem? (i := 0) rfl
theorem bNw_1 : Cond.fieldLinkNest RX5 73 "TubePost$Net" "tubes" "Ljava/util/ArrayList;" "TubePost" ∈ bNw := List.mem_of_getElem? (i := 1) rfl
theorem bNw_2 : Cond.fieldLinkNest RX5 76 "TubePost$Station" "ways" "Ljava/util/ArrayList;" "TubePost" ∈ bNw := List.mem_of_getElem? (i := 2) rfl
theorem bNw_3 : Cond.fieldLinkNest RX5 93 "TubePost$Station" "switchedTo" "I" "TubePost" ∈ bNw := List.mem_of_getElem? (i := 3) rfl
theorem bNw_4 : Cond.fieldLinkNest RX5 100 "TubePost$Tube" "speed" "I" "TubePost" ∈ bNw := List.mem_of_getElem? (i := 4) rfl
theorem bNw_5 : Cond.fieldLinkNest RX5 165 "TubePost$Carrier" "state" "I" "TubePost" ∈ bNw := List.mem_of_getElem? (i := 5) rfl
theorem bNw_6 : Cond.fieldLinkNest RX5 168 "TubePost$Carrier" "place" "I" "TubePost" ∈ bNw := List.mem_of_getElem? (i := 6) rfl
theorem bNw_7 : Cond.fieldLinkNest RX5 171 "TubePost$Carrier" "aim" "LTubePost$Station;" "TubePost" ∈ bNw := List.mem_of_getElem? (i := 7) rfl
theorem bNw_8 : Cond.fieldLinkNest RX5 175 "TubePost$Station" "number" "I" "TubePost" ∈ bNw := List.mem_of_getElem? (i := 8) rfl
theorem bNw_9 : Cond.fieldLinkNest RX5 178 "TubePost$Carrier" "rank" "I" "TubePost" ∈ bNw := List.mem_of_getElem? (i := 9) rfl
theorem bNw_10 : Cond.fieldLinkNest RX5 181 "TubePost$Carrier" "sentAt" "I" "TubePost" ∈ bNw := List.mem_of_getElem? (i := 10) rfl
theorem bNw_11 : Cond.fieldLinkNest RX5 184 "TubePost$Carrier" "since" "I" "TubePost" ∈ bNw := List.mem_of_getElem? (i := 11) rfl
theorem bNw_12 : Cond.fieldLinkNest RX5 187 "TubePost$Carrier" "tubesEntered" "I" "TubePost" ∈ bNw := List.mem_of_getElem? (i := 12) rfl
theorem bNw_13 : Cond.fieldLinkNest RX5 200 "TubePost$Station" "room" "I" "TubePost" ∈ bNw := List.mem_of_getElem? (i := 13) rfl
theorem bNw_14 : Cond.fieldLinkNest RX5 203 "TubePost$Station" "handling" "I" "TubePost" ∈ bNw := List.mem_of_getElem? (i := 14) rfl
theorem bNw_15 : Cond.fieldLinkNest RX5 206 "TubePost$Station" "line" "Ljava/util/ArrayList;" "TubePost" ∈ bNw := List.mem_of_getElem? (i := 15) rfl
theorem bNw_16 : Cond.fieldLinkNest RX5 209 "TubePost$Station" "received" "I" "TubePost" ∈ bNw := List.mem_of_getElem? (i := 16) rfl
theorem bNw_17 : Cond.fieldLinkNest RX5 214 "TubePost$Tube" "from" "LTubePost$Station;" "TubePost" ∈ bNw := List.mem_of_getElem? (i := 17) rfl
theorem bNw_18 : Cond.fieldLinkNest RX5 217 "TubePost$Tube" "to" "LTubePost$Station;" "TubePost" ∈ bNw := List.mem_of_getElem? (i := 18) rfl
theorem bNw_19 : Cond.fieldLinkNest RX5 220 "TubePost$Tube" "length" "I" "TubePost" ∈ bNw := List.mem_of_getElem? (i := 19) rfl
theorem bNw_20 : Cond.fieldLinkNest RX5 223 "TubePost$Tube" "bore" "I" "TubePost" ∈ bNw := List.mem_of_getElem? (i := 20) rfl
theorem bNw_21 : Cond.fieldLinkNest RX5 226 "TubePost$Tube" "isOpen" "Z" "TubePost" ∈ bNw := List.mem_of_getElem? (i := 21) rfl
theorem bNw_22 : Cond.fieldLinkNest RX5 230 "TubePost$Tube" "inside" "Ljava/util/ArrayList;" "TubePost" ∈ bNw := List.mem_of_getElem? (i := 22) rfl
theorem bNw_23 : Cond.fieldLinkNest RX5 236 "TubePost$Tube" "entered" "I" "TubePost" ∈ bNw := List.mem_of_getElem? (i := 23) rfl
theorem bNw_24 : Cond.fieldLinkNest RX5 241 "TubePost$Carrier" "number" "I" "TubePost" ∈ bNw := List.mem_of_getElem? (i := 24) rfl
theorem bNw_25 : Cond.fieldLinkNest RX5 297 "TubePost$Entry" "sort" "I" "TubePost" ∈ bNw := List.mem_of_getElem? (i := 25) rfl
theorem bNw_26 : Cond.fieldLinkNest RX5 300 "TubePost$Entry" "what" "I" "TubePost" ∈ bNw := List.mem_of_getElem? (i := 26) rfl
theorem bNw_27 : Cond.fieldLinkNest RX5 303 "TubePost$Entry" "how" "I" "TubePost" ∈ bNw := List.mem_of_getElem? (i := 27) rfl
theorem bNw_28 : Cond.fieldLinkNest RX0 40 "TubePost$Station" "number" "I" "TubePost" ∈ bNw := List.mem_of_getElem? (i := 28) rfl
theorem bNw_29 : Cond.fieldLinkNest RX0 47 "TubePost$Tube" "number" "I" "TubePost" ∈ bNw := List.mem_of_getElem? (i := 29) rfl
theorem bNw_30 : Cond.fieldLinkNest RX0 50 "TubePost$Tube" "timeThrough" "I" "TubePost" ∈ bNw := List.mem_of_getElem? (i := 30) rfl
theorem bNw_31 : Cond.fieldLinkNest RX0 53 "TubePost$Tube" "inside" "Ljava/util/ArrayList;" "TubePost" ∈ bNw := List.mem_of_getElem? (i := 31) rfl
theorem bNw_32 : Cond.fieldLinkNest RX0 63 "TubePost$Tube" "entered" "I" "TubePost" ∈ bNw := List.mem_of_getElem? (i := 32) rfl
theorem bNw_33 : Cond.fieldLinkNest RX0 66 "TubePost$Tube" "lastEntryAt" "I" "TubePost" ∈ bNw := List.mem_of_getElem? (i := 33) rfl
theorem bNw_34 : Cond.fieldLinkNest RX2 42 "TubePost$Station" "ways" "Ljava/util/ArrayList;" "TubePost" ∈ bNw := List.mem_of_getElem? (i := 34) rfl
theorem bNw_35 : Cond.fieldLinkNest RX2 45 "TubePost$Tube" "number" "I" "TubePost" ∈ bNw := List.mem_of_getElem? (i := 35) rfl
theorem bNw_36 : Cond.fieldLinkNest RX2 53 "TubePost$Tube" "isOpen" "Z" "TubePost" ∈ bNw := List.mem_of_getElem? (i := 36) rfl
theorem bNw_37 : Cond.fieldLinkNest RX2 61 "TubePost$Station" "isReckoned" "Z" "TubePost" ∈ bNw := List.mem_of_getElem? (i := 37) rfl
theorem bNw_38 : Cond.fieldLinkNest RX2 72 "TubePost$Station" "switchedTo" "I" "TubePost" ∈ bNw := List.mem_of_getElem? (i := 38) rfl
theorem bNw_39 : Cond.fieldLinkNest RX2 76 "TubePost$Tube" "to" "LTubePost$Station;" "TubePost" ∈ bNw := List.mem_of_getElem? (i := 39) rfl
theorem bNw_40 : Cond.fieldLinkNest RX2 84 "TubePost$Station" "timesToHere" "[I" "TubePost" ∈ bNw := List.mem_of_getElem? (i := 40) rfl
theorem bNw_41 : Cond.fieldLinkNest RX2 98 "TubePost$Tube" "from" "LTubePost$Station;" "TubePost" ∈ bNw := List.mem_of_getElem? (i := 41) rfl
theorem bNw_42 : Cond.fieldLinkNest RX2 101 "TubePost$Station" "handling" "I" "TubePost" ∈ bNw := List.mem_of_getElem? (i := 42) rfl
theorem bNw_43 : Cond.fieldLinkNest RX2 104 "TubePost$Tube" "timeThrough" "I" "TubePost" ∈ bNw := List.mem_of_getElem? (i := 43) rfl
theorem bNw_44 : Cond.fieldLinkNest RX3 58 "TubePost$Carrier" "rank" "I" "TubePost" ∈ bNw := List.mem_of_getElem? (i := 44) rfl
theorem bNw_45 : Cond.fieldLinkNest RX4 70 "TubePost$Carrier" "since" "I" "TubePost" ∈ bNw := List.mem_of_getElem? (i := 45) rfl
theorem bNw_46 : Cond.fieldLinkNest RX4 73 "TubePost$Carrier" "timeInTube" "I" "TubePost" ∈ bNw := List.mem_of_getElem? (i := 46) rfl
theorem bNw_47 : Cond.methodLinkNest RX5 9 yX2_init "TubePost" ∈ bNw := List.mem_of_getElem? (i := 47) rfl
theorem bNw_48 : Cond.methodLinkNest RX5 59 yX2_build "TubePost" ∈ bNw := List.mem_of_getElem? (i := 48) rfl
theorem bNw_49 : Cond.methodLinkNest RX5 83 yX2_lay "TubePost" ∈ bNw := List.mem_of_getElem? (i := 49) rfl
theorem bNw_50 : Cond.methodLinkNest RX5 105 yX2_set "TubePost" ∈ bNw := List.mem_of_getElem? (i := 50) rfl
theorem bNw_51 : Cond.methodLinkNest RX5 233 yX4_isFirstAtEnd "TubePost" ∈ bNw := List.mem_of_getElem? (i := 51) rfl
theorem bNw_52 : Cond.methodLinkNest RX5 242 yX2_leastTime "TubePost" ∈ bNw := List.mem_of_getElem? (i := 52) rfl
theorem bNw_53 : Cond.methodLinkNest RX5 247 yX2_wayFor "TubePost" ∈ bNw := List.mem_of_getElem? (i := 53) rfl
theorem bNw_54 : Cond.methodLinkNest RX5 278 yX2_hasStation "TubePost" ∈ bNw := List.mem_of_getElem? (i := 54) rfl
theorem bNw_55 : Cond.methodLinkNest RX5 283 yX2_hasTube "TubePost" ∈ bNw := List.mem_of_getElem? (i := 55) rfl
theorem bNw_56 : Cond.methodLinkNest RX5 290 yX1_isDueAt "TubePost" ∈ bNw := List.mem_of_getElem? (i := 56) rfl
theorem bNw_57 : Cond.methodLinkNest RX5 318 yX3_hasRoom "TubePost" ∈ bNw := List.mem_of_getElem? (i := 57) rfl
theorem bNw_58 : Cond.methodLinkNest RX5 322 yX0_comeTo "TubePost" ∈ bNw := List.mem_of_getElem? (i := 58) rfl
theorem bNw_59 : Cond.methodLinkNest RX5 337 yX0_enter "TubePost" ∈ bNw := List.mem_of_getElem? (i := 59) rfl
theorem bNw_60 : Cond.methodLinkNest RX5 341 yX4_canBeEnteredAt "TubePost" ∈ bNw := List.mem_of_getElem? (i := 60) rfl
theorem bNw_61 : Cond.methodLinkNest RX5 344 yX0_init "TubePost" ∈ bNw := List.mem_of_getElem? (i := 61) rfl
theorem bNw_62 : Cond.methodLinkNest RX0 43 yX3_lineUp "TubePost" ∈ bNw := List.mem_of_getElem? (i := 62) rfl
theorem bNw_63 : Cond.methodLinkNest RX2 27 yX3_init "TubePost" ∈ bNw := List.mem_of_getElem? (i := 63) rfl
theorem bNw_64 : Cond.methodLinkNest RX2 39 yX4_init "TubePost" ∈ bNw := List.mem_of_getElem? (i := 64) rfl
theorem bNw_65 : Cond.methodLinkNest RX2 49 yX4_setSpeed "TubePost" ∈ bNw := List.mem_of_getElem? (i := 65) rfl
theorem bNw_66 : Cond.methodLinkNest RX2 68 yX3_timeFrom "TubePost" ∈ bNw := List.mem_of_getElem? (i := 66) rfl
theorem bNw_67 : Cond.methodLinkNest RX2 94 yX3_keepTimeFrom "TubePost" ∈ bNw := List.mem_of_getElem? (i := 67) rfl
theorem bNw_68 : Cond.methodLinkNest RL 11 yX7_init "TubePostLaw" ∈ bNw := List.mem_of_getElem? (i := 68) rfl
theorem bNw_69 : Cond.castable "TubePost$Carrier" "java/lang/Object" ∈ bNw := List.mem_of_getElem? (i := 69) rfl
theorem bNw_70 : Cond.castable "TubePost$Station" "java/lang/Object" ∈ bNw := List.mem_of_getElem? (i := 70) rfl
theorem bNw_71 : Cond.castable "TubePost$Tube" "java/lang/Object" ∈ bNw := List.mem_of_getElem? (i := 71) rfl
theorem bNw_72 : Cond.castable "TubePost$Net" "java/lang/Object" ∈ bNw := List.mem_of_getElem? (i := 72) rfl
theorem bNw_73 : Cond.declares (Bundle.initS "java/lang/RuntimeException") ∈ bNw := List.mem_of_getElem? (i := 73) rfl
theorem bNw_74 : Cond.declares (Bundle.initS "java/lang/Exception") ∈ bNw := List.mem_of_getElem? (i := 74) rfl
theorem bNw_75 : Cond.declares (Bundle.initS "java/lang/Throwable") ∈ bNw := List.mem_of_getElem? (i := 75) rfl
theorem bNw_76 : Cond.classLink RX7 27 "[LTubePostLaw$Carrier;" ∈ bNw := List.mem_of_getElem? (i := 76) rfl
def bNk : Cond → Bool
  | .fieldLinkNest _ _ _ _ _ _ => true
  | .methodLinkNest _ _ _ _ => true
  | .castable _ _ => true
  | .declares _ => true
  | .classLink _ _ _ => true
  | _ => false
theorem bNw_ok : ∀ w ∈ bNw, bNk w = true := by decide +kernel
theorem bNw_warm {w : Cond} (h : bNk w = true) {s U : State} (hW : s.WarmedH U.vm) (hz : va_Nw w s) : va_Nw w U := by
  unfold bNk at h
  split at h
  · exact va_Nw.warmF hW hz
  · exact va_Nw.warmM hW hz
  · exact va_Nw.warmC hW hz
  · exact va_Nw.warmD hW hz
  · exact va_tabs rfl (rfl : (s.setVm U.vm).vm = U.vm) (Cond.classLink_shifted (args := #[]) (.of_warmed hW) hz)
  · cases h
theorem va_AOA.moved {t : FieldType} {u U : State} (hvm : u.vm.Alike U.vm) (h : va_AOA t u) : va_AOA t U := by
  have h1 : (Cond.arrayOver (.array t)).before #[] (u.setVm U.vm) = true := by rw [Cond.arrayOver_setVmC hvm]; exact h
  unfold va_AOA Cond.before Cond.holds
  unfold Cond.before Cond.holds at h1
  simp only [Cond.value] at h1 ⊢
  exact h1
/-- the texts of the class's exceptions, by their places -/
def bStr : List (String × Nat × String) := [("TubePost", 281, "there is no such station"), ("TubePost", 134, "a carrier goes to another station, its rank is 0 to 3"), ("TubePost", 140, "there is no room, or there are too many carriers"), ("TubePost", 146, "ticks are 1 to 500"), ("TubePost", 157, "no carrier has had this number"), ("TubePost", 190, "what is 0 to 6"), ("TubePost", 198, "what is 0 to 8"), ("TubePost", 212, "what is 0 to 5"), ("TubePost", 286, "there is no such tube"), ("TubePost", 239, "there is no such carrier"), ("TubePost", 42, "a room is 1 to 9, a handling 0 to 20"), ("TubePost", 56, "there are 14 stations"), ("TubePost", 67, "a tube leads to another station, a length is 1 to 60, a bore 1 to 8"), ("TubePost", 288, "a speed is 1 to 6"), ("TubePost", 81, "there are 30 tubes, or 4 ways out")]
/-- exceptions that no handler of the other's catches -/
def bNc : List (String × String) := []
def bOa (U : State) : Prop := va_AOA .int U ∧ va_AOA .boolean U ∧ va_AOA (.object "TubePostLaw$Carrier") U ∧ va_AO "TubePostLaw$Carrier" U
theorem bOa.warm {s U : State} (hW : s.WarmedH U.vm) (h : bOa s) : bOa U := ⟨h.1.moved hW.alike, h.2.1.moved hW.alike, h.2.2.1.moved hW.alike, va_AO.moved hW.alike h.2.2.2⟩
def bO2 (U : State) : Prop := bOa U ∧ va_Dc U ∧ (∃ mi : Nat, va_Mi "[Ljava/lang/Object;" mi U) ∧ (∀ q ∈ bStr, ∃ sa : Nat, vk_R q.1 q.2.1 q.2.2 sa U) ∧ ∀ q ∈ bNc, va_Nc q.1 q.2 U
def bO (U : State) : Prop := va_AO "java/lang/Object" U ∧ (∀ w ∈ bNw, va_Nw w U) ∧ bO2 U
theorem bO2.warm {s U : State} (hW : s.WarmedH U.vm) (h : bO2 s) : bO2 U := by
  obtain ⟨h1, h2, ⟨mi, h3⟩, h4, h6⟩ := h
  exact ⟨h1.warm hW, h2.moved hW.alike, ⟨mi, h3.moved hW.alike⟩, fun q hq => by obtain ⟨sa, h5⟩ := h4 q hq; exact ⟨sa, h5.warm hW⟩, fun q hq => (h6 q hq).moved hW.alike⟩
/-- the JDK's statics that the class reads: the lists' empty row, and what an exception's maker reads -/
def bZs (z : Nat) (A : Nat → Prop) (U : State) (H : Heap) : Prop := va_Z "java/util/ArrayList" "DEFAULTCAPACITY_EMPTY_ELEMENTDATA" "[Ljava/lang/Object;" (.ref z) A U H ∧ va_T (.object "java/lang/Object") z 0 (fun _ => .null) A U H ∧ vx_Zq Bundle.tN "UNASSIGNED_STACK" Bundle.steD A U H ∧ vx_Zq Bundle.tN "SUPPRESSED_SENTINEL" Bundle.listD A U H
theorem bZs.moved {z : Nat} {A : Nat → Prop} {u U : State} {H : Heap} (hvm : u.vm.Alike U.vm) (h : bZs z A u H) : bZs z A U H := ⟨h.1.moved hvm, h.2.1.moved hvm, h.2.2.1.moved hvm, h.2.2.2.moved hvm⟩
theorem bZs.kept {z : Nat} {A : Nat → Prop} {U : State} {H H1 : Heap} (h : bZs z A U H) (hq : ∀ a : Nat, a < H.size → ¬ A a → H1[a]? = H[a]?) : bZs z A U H1 := ⟨h.1.kept hq, h.2.1.kept hq, h.2.2.1.kept hq, h.2.2.2.kept hq⟩
/-- a method's start: the heap holds the store, the tables know the classes, all behind the heap's end may be made -/
def bP (D : va_G) (y : Nat → ClassId) (z : Nat) (S : bS) (A : Nat → Prop) (U : State) : Prop := wd D y z S A U.heap ∧ va_K D bCl (bT y) U ∧ (∀ w ∈ bNw, va_Nw w U) ∧ (∀ q : Nat, U.heap.size ≤ q → A q) ∧ ¬ A z ∧ bO U ∧ bZs z A U U.heap
theorem bZ {D : va_G} {y : Nat → ClassId} {z : Nat} {S : bS} {A : Nat → Prop} {s : State} (h : bP D y z S A s) : va_Z "java/util/ArrayList" "DEFAULTCAPACITY_EMPTY_ELEMENTDATA" "[Ljava/lang/Object;" (.ref z) A s s.heap := h.2.2.2.2.2.2.1
theorem bTz {D : va_G} {y : Nat → ClassId} {z : Nat} {S : bS} {A : Nat → Prop} {s : State} (h : bP D y z S A s) : va_T (.object "java/lang/Object") z 0 (fun _ => .null) A s s.heap := h.2.2.2.2.2.2.2.1
theorem b_Mi {D : va_G} {y : Nat → ClassId} {z : Nat} {S : bS} {A : Nat → Prop} {s : State} (h : bP D y z S A s) : ∃ mi : Nat, va_Mi "[Ljava/lang/Object;" mi s := h.2.2.2.2.2.1.2.2.2.2.1
theorem b_Dc {D : va_G} {y : Nat → ClassId} {z : Nat} {S : bS} {A : Nat → Prop} {s : State} (h : bP D y z S A s) : va_Dc s := h.2.2.2.2.2.1.2.2.2.1
theorem b_str {D : va_G} {y : Nat → ClassId} {z : Nat} {S : bS} {A : Nat → Prop} {s : State} (h : bP D y z S A s) (i : Nat) {q : String × Nat × String} (hq : bStr[i]? = some q) : ∃ sa : Nat, vk_R q.1 q.2.1 q.2.2 sa s := h.2.2.2.2.2.1.2.2.2.2.2.1 q (List.mem_of_getElem? hq)
theorem b_Nc {D : va_G} {y : Nat → ClassId} {z : Nat} {S : bS} {A : Nat → Prop} {s : State} (h : bP D y z S A s) (i : Nat) {q : String × String} (hq : bNc[i]? = some q) : va_Nc q.1 q.2 s := h.2.2.2.2.2.1.2.2.2.2.2.2 q (List.mem_of_getElem? hq)
theorem b_U {D : va_G} {y : Nat → ClassId} {z : Nat} {S : bS} {A : Nat → Prop} {s : State} (h : bP D y z S A s) : vx_Zq Bundle.tN "UNASSIGNED_STACK" Bundle.steD A s s.heap := h.2.2.2.2.2.2.2.2.1
theorem b_N {D : va_G} {y : Nat → ClassId} {z : Nat} {S : bS} {A : Nat → Prop} {s : State} (h : bP D y z S A s) : vx_Zq Bundle.tN "SUPPRESSED_SENTINEL" Bundle.listD A s s.heap := h.2.2.2.2.2.2.2.2.2
/-- how a method of ours leaves by an exception: the heap holds some store, of which xp says what holds -/
def bX (D : va_G) (y : Nat → ClassId) (z : Nat) (A : Nat → Prop) (xp : String → bS → Prop) : String → State → State → Prop := vx_X (fun _ : bS => True) (fun E u t => xp E u ∧ wd D y z u A t.heap) A
theorem b_grow {D : va_G} {y : Nat → ClassId} {z : Nat} {S : bS} {A : Nat → Prop} {H H1 : Heap} (hw : wd D y z S A H) (hz : H.size ≤ H1.size) (hk : ∀ q : Nat, q < H.size → H1[q]? = H[q]?) : wd D y z S A H1 := by
  obtain ⟨⟨ws, hP, hD, hx⟩, hwk⟩ := hw
  exact ⟨⟨ws, hP.kept (fun k q hq => hk q.1 (hP k q hq).lt), hD, hx⟩, hwk⟩
theorem b_growF {A : Nat → Prop} {s t : State} {H : Heap} {locs : List Loc} (hS : va_S A s.heap H locs) (hz : H.size ≤ t.heap.size) (hk : ∀ q : Nat, q < H.size → t.heap[q]? = H[q]?) : va_F A s t := ⟨Nat.le_trans hS.1 hz, fun q h1 h2 => (hk q (Nat.lt_of_lt_of_le h1 hS.1)).trans (hS.2.1 q h1 h2)⟩
theorem b_hat {D : va_G} {y : Nat → ClassId} {z : Nat} {S : bS} {A : Nat → Prop} {s : State} {args : Array Value} {L : List Cond} (h1 : ∀ w ∈ L.filter goodWord, w.before args s = true) (h2 : ∀ w ∈ L.filter (fun w => !goodWord w), w ∈ bNw) (hB : bP D y z S A s) : ∀ w ∈ L, w.before args s = true := vx_hat h1 h2 (fun w hw => va_Nw.use (by have := bNw_ok w hw; unfold bNk at this; split at this <;> first | rfl | cases this) (hB.2.2.1 w hw))
theorem bNw_all {s U : State} (hW : s.WarmedH U.vm) (h : ∀ w ∈ bNw, va_Nw w s) : ∀ w ∈ bNw, va_Nw w U := fun w hw => bNw_warm (bNw_ok w hw) hW (h w hw)
theorem bP.go {D : va_G} {y : Nat → ClassId} {z : Nat} {S0 S : bS} {A : Nat → Prop} {s : State} {H : Heap} {locs : List Loc} (hB : bP D y z S0 A s) (hw : wd D y z S A H) (hS : va_S A s.heap H locs) (U : State) (hU : U.heap = H) (hW : s.WarmedH U.vm) : bP D y z S A U := by
  obtain ⟨-, hK, hN, hA, hz, hO, hZ⟩ := hB
  subst hU
  exact ⟨hw, va_K.moved hW.alike hK, bNw_all hW hN, fun q hq => hA q (Nat.le_trans hS.1 hq), hz, ⟨va_AO.moved hW.alike hO.1, bNw_all hW hO.2.1, hO.2.2.warm hW⟩, (hZ.kept hS.2.1).moved hW.alike⟩
theorem bP.blind {D : va_G} {y : Nat → ClassId} {z : Nat} {S : bS} {A : Nat → Prop} {av : List Value} : FrameBlind (va_Pc av (bP D y z S A)) := by
  intro a U g mk q
  obtain ⟨q0, hw, hK, hN, hA, hz, hO, hZ⟩ := q
  exact ⟨q0, hw, va_K.moved (u := U) (U := U.calling g mk a) (Vm.Alike.refl U.vm) hK, fun w h => va_Nw.same (by have := bNw_ok w h; unfold bNk at this; split at this <;> first | rfl | cases this) (rfl : U.vm = (U.calling g mk a).vm) (hN w h), hA, hz, ⟨va_AO.moved (u := U) (U := U.calling g mk a) (Vm.Alike.refl U.vm) hO.1, fun w h => va_Nw.same (by have := bNw_ok w h; unfold bNk at this; split at this <;> first | rfl | cases this) (rfl : U.vm = (U.calling g mk a).vm) (hO.2.1 w h), ⟨⟨hO.2.2.1.1.moved (u := U) (U := U.calling g mk a) (Vm.Alike.refl U.vm), hO.2.2.1.2.1.moved (u := U) (U := U.calling g mk a) (Vm.Alike.refl U.vm), hO.2.2.1.2.2.1.moved (u := U) (U := U.calling g mk a) (Vm.Alike.refl U.vm), va_AO.moved (u := U) (U := U.calling g mk a) (Vm.Alike.refl U.vm) hO.2.2.1.2.2.2⟩, hO.2.2.2.1.moved (u := U) (U := U.calling g mk a) (Vm.Alike.refl U.vm), (by obtain ⟨mi, h3⟩ := hO.2.2.2.2.1; exact ⟨mi, h3.moved (u := U) (U := U.calling g mk a) (Vm.Alike.refl U.vm)⟩), fun q hq => by obtain ⟨sa, h5⟩ := hO.2.2.2.2.2.1 q hq; exact ⟨sa, vk_R.same (u := U) (U := U.calling g mk a) rfl h5⟩, fun q hq => (hO.2.2.2.2.2.2 q hq).moved (u := U) (U := U.calling g mk a) (Vm.Alike.refl U.vm)⟩⟩, hZ.moved (u := U) (U := U.calling g mk a) (Vm.Alike.refl U.vm)⟩
theorem r_pS {D : va_G} {y : Nat → ClassId} {z : Nat} {S0 S : bS} {A : Nat → Prop} {s : State} {H : Heap} {locs : List Loc} {As : List Value} (hB : bP D y z S0 A s) (hw : wd D y z S A H) (hS : va_S A s.heap H locs) : PreS s H (va_Pc As (bP D y z S A)) As := ⟨bP.blind, fun U hU hW => ⟨rfl, bP.go hB hw hS U hU hW⟩⟩
theorem wd_recv {D : va_G} {y : Nat → ClassId} {z : Nat} {S : bS} {A : Nat → Prop} {s : State} {H : Heap} {tys : List (ClassId × FieldType)} {a ci : Nat} {q : vw_C} {fs : List Value} (hK : va_K D bCl tys s) (hw : wd D y z S A H) (he : ce y S a = some (.inr (ci, fs))) (hc : bCl[ci]? = some q) : ∃ cell : Cell, H[a]? = some cell ∧ cell.vm.isStatics = false ∧ s.vm.findClass q.1 = some cell.cls := by
  obtain ⟨⟨ws, hP, hD, hx⟩, -⟩ := hw
  obtain ⟨k0, hk0⟩ := hx a _ he
  exact va_recv hK hP hc hk0
theorem r_pV {D : va_G} {y : Nat → ClassId} {z : Nat} {S0 S : bS} {A : Nat → Prop} {s : State} {H : Heap} {locs : List Loc} {b ci : Nat} {As : List Value} {q : vw_C} {fs : List Value} (hB : bP D y z S0 A s) (hw : wd D y z S A H) (hS : va_S A s.heap H locs) (he : ce y S b = some (.inr (ci, fs))) (hc : bCl[ci]? = some q) : PreV s H q.1 b (va_Pc (.ref b :: As) (bP D y z S A)) As := ⟨bP.blind, wd_recv hB.2.1 hw he hc, fun U hU hW => ⟨rfl, bP.go hB hw hS U hU hW⟩⟩
theorem b_old {S : bS} {q κ n a k : Nat} (h : gK S a = k) (hq : gK S q = 0) (hk : k ≠ 0) : gK (sNew S q κ n) a = k := by
  rw [gK_sNew, if_neg (fun e => hk (by rw [← h, e, hq]))]
  exact h
theorem b_nz {x : Int32} (h : x = 0 ∨ x = 1) : narrow .boolean (.int x) = .int x := by rcases h with rfl | rfl <;> rfl
theorem b_fz {x : Int32} (h : x = 0 ∨ x = 1) : fits .boolean (.int x) = true := by rcases h with rfl | rfl <;> rfl
theorem b_ti {x w : Int32} {k : Int} (h : x.toInt = k) (h2 : w.toInt = k) : x = w := Int32.toInt_inj.mp (h.trans h2.symm)
theorem b_fs1 : ∀ j, j < 3 → defaultValue (tyJx4a65c j) = vp_V [.int 0, .null, .int 0] j := by
  intro j hj
  rcases (show j = 0 ∨ j = 1 ∨ j = 2 by omega) with rfl | rfl | rfl <;> rfl
theorem b_fs2 : ∀ j, j < 9 → defaultValue (tyX0 j) = vp_V [.int 0, .null, .int 0, .int 0, .int 0, .int 0, .int 0, .int 0, .int 0] j := by
  intro j hj
  rcases (show j = 0 ∨ j = 1 ∨ j = 2 ∨ j = 3 ∨ j = 4 ∨ j = 5 ∨ j = 6 ∨ j = 7 ∨ j = 8 by omega) with rfl | rfl | rfl | rfl | rfl | rfl | rfl | rfl | rfl <;> rfl
theorem b_fs3 : ∀ j, j < 9 → defaultValue (tyX0 j) = vp_V [.int 0, .null, .int 0, .int 0, .int 0, .int 0, .int 0, .int 0, .int 0] j := by
  intro j hj
  rcases (show j = 0 ∨ j = 1 ∨ j = 2 ∨ j = 3 ∨ j = 4 ∨ j = 5 ∨ j = 6 ∨ j = 7 ∨ j = 8 by omega) with rfl | rfl | rfl | rfl | rfl | rfl | rfl | rfl | rfl <;> rfl
theorem b_fs4 : ∀ j, j < 2 → defaultValue (tyX2 j) = vp_V [.null, .null] j := by
  intro j hj
  rcases (show j = 0 ∨ j = 1 by omega) with rfl | rfl <;> rfl
theorem b_fs5 : ∀ j, j < 10 → defaultValue (tyX3 j) = vp_V [.int 0, .int 0, .int 0, .null, .null, .null, .int 0, .int 0, .int 0, .int 0] j := by
  intro j hj
  rcases (show j = 0 ∨ j = 1 ∨ j = 2 ∨ j = 3 ∨ j = 4 ∨ j = 5 ∨ j = 6 ∨ j = 7 ∨ j = 8 ∨ j = 9 by omega) with rfl | rfl | rfl | rfl | rfl | rfl | rfl | rfl | rfl | rfl <;> rfl
theorem b_fs6 : ∀ j, j < 11 → defaultValue (tyX4 j) = vp_V [.int 0, .null, .null, .int 0, .int 0, .null, .int 0, .int 0, .int 0, .int 0, .int 0] j := by
  intro j hj
  rcases (show j = 0 ∨ j = 1 ∨ j = 2 ∨ j = 3 ∨ j = 4 ∨ j = 5 ∨ j = 6 ∨ j = 7 ∨ j = 8 ∨ j = 9 ∨ j = 10 by omega) with rfl | rfl | rfl | rfl | rfl | rfl | rfl | rfl | rfl | rfl | rfl <;> rfl
theorem b_fs7 : ∀ j, j < 6 → defaultValue (tyX5 j) = vp_V [.null, .null, .null, .int 0, .int 0, .int 0] j := by
  intro j hj
  rcases (show j = 0 ∨ j = 1 ∨ j = 2 ∨ j = 3 ∨ j = 4 ∨ j = 5 by omega) with rfl | rfl | rfl | rfl | rfl | rfl <;> rfl
theorem b_fs8 : ∀ j, j < 10 → defaultValue (tyX7 j) = vp_V [.int 0, .null, .null, .null, .null, .null, .null, .null, .int 0, .int 0] j := by
  intro j hj
  rcases (show j = 0 ∨ j = 1 ∨ j = 2 ∨ j = 3 ∨ j = 4 ∨ j = 5 ∨ j = 6 ∨ j = 7 ∨ j = 8 ∨ j = 9 by omega) with rfl | rfl | rfl | rfl | rfl | rfl | rfl | rfl | rfl | rfl <;> rfl
theorem r_pSM {D : va_G} {y : Nat → ClassId} {z : Nat} {S0 S : bS} {A : Nat → Prop} {s : State} {H : Heap} {locs : List Loc} {As : List Value} {mi : Nat} (hB : bP D y z S0 A s) (hw : wd D y z S A H) (hS : va_S A s.heap H locs) (hMi : va_Mi "[Ljava/lang/Object;" mi s) : PreS s H (va_Pc As (fun U => bP D y z S A U ∧ va_Mi "[Ljava/lang/Object;" mi U)) As := ⟨fun a U g mk q => ⟨q.1, (bP.blind (av := As) a U g mk ⟨q.1, q.2.1⟩).2, q.2.2.moved (u := U) (U := U.calling g mk a) (Vm.Alike.refl U.vm)⟩, fun U hU hW => ⟨rfl, bP.go hB hw hS U hU hW, hMi.moved hW.alike⟩⟩
theorem wd_recvO {D : va_G} {y : Nat → ClassId} {z : Nat} {S : bS} {A : Nat → Prop} {s : State} {H : Heap} {a : Nat} (hK : va_K D bCl (bT y) s) (hw : wd D y z S A H) (h : gK S a = 11) : ∃ cell : Cell, H[a]? = some cell ∧ cell.vm.isStatics = false ∧ s.vm.findClass "[Ljava/lang/Object;" = some cell.cls := by
  obtain ⟨⟨ws, hP, hD, hx⟩, -⟩ := hw
  obtain ⟨k0, hk0⟩ := hx a _ (ce_11 h)
  obtain ⟨kA, comp, -, -, -, e1⟩ := (hK.2 2 (y 2, .object "java/lang/Object") rfl).2
  exact ⟨_, hP k0 _ hk0, rfl, e1⟩
section BR
variable {p : Program} {l : Launch} {e : Env} {R : Room} {s : State} {m : MethodId} {args : Array Value} {below : List Frame} {meth : Method} {c : Code} {H : Heap} {locs : List Loc} {cells slots : Nat} {Q : State → Prop}
variable {cc : ByteArray} {pc : Nat} {ls : Array Slot} {rest : List Value} {D : va_G} {y : Nat → ClassId} {z : Nat} {A : Nat → Prop} {a : Nat} {tys : List (ClassId × FieldType)} {S : bS} {H0 : Heap}
theorem r_alenq (hexec : p.tables.exec = Jvm.exec) (hb : c.code = cc) (hK : va_K D bCl (bT y) s) (hw : wd D y z S A H) (hT : va_T (.object "java/lang/Object") z 0 (fun _ => .null) A s s.heap) (hS : va_S A s.heap H locs) (h : gK S a = 11 ∨ gK S a = 14) (hdg : decode cc pc = .ok (.arraylength, 1))
    (kk : W p l e R s m args below meth c H locs cells slots Q (F0 m (pc + 1) ls (.int (Int32.ofNat (gN S a)) :: rest))) : W p l e R s m args below meth c H locs cells slots Q (F0 m pc ls (.ref a :: rest)) := by
  rcases h with h | h
  · exact r_alen hexec hb hK hw (by rw [h]; decide) rfl hdg kk
  · have hz : a = z := (hw.2.1 a).mp h
    subst hz
    exact va_tlen hexec hb hT hS (v := Int32.ofNat (gN S a)) (by rw [hw.2.2.1]) hdg kk
theorem r_cast (hexec : p.tables.exec = Jvm.exec) (hb : c.code = cc) {own C : String} {T : u_T} {N ci index : Nat} {fs : List Value} (hown : s.vm.findClass own = some m.cls) (hlink : (Cond.classLink own index C).before args s = true) (hK : va_K D bCl tys s) (hw : wd D y z S A H) (he : ce y S a = some (.inr (ci, fs))) (hc : bCl[ci]? = some (C, T, N)) (hdg : decode cc pc = .ok (.checkcast index, 3))
    (k : W p l e R s m args below meth c H locs cells slots Q (F0 m (pc + 3) ls (.ref a :: rest))) : W p l e R s m args below meth c H locs cells slots Q (F0 m pc ls (.ref a :: rest)) := va_castS hexec hb hown hlink ((hK.1 ci _ hc).2) (wd_recv hK hw he hc) hdg k
theorem r_new (hexec : p.tables.exec = Jvm.exec) (hb : c.code = cc) {own C : String} {T : u_T} {N ci κ nn index : Nat} {Ts : List Cond} (hts : ∀ w ∈ Ts, w.before args s = true) (hin : ∀ w ∈ u_ws C T N, w ∈ Ts) (ty : Nat → FieldType) (hty : ∀ k, k < N → parseFieldDescriptor (T k).2.2.1 = some (ty k)) (hown : s.vm.findClass own = some m.cls) (hcl : (Cond.classLink own index C).before args s = true) (hinst : (Cond.instantiable C N).before args s = true) (hini : (Cond.initialized C).before args s = true)
    (hK : va_K D bCl tys s) (hw : wd D y z S A H) (hS : va_S A H0 H locs) (hA : ∀ q, H0.size ≤ q → A q) (hz : ¬ A z) (hc : bCl[ci]? = some (C, T, N)) {fs : List Value} (hfs0 : ∀ {q : Nat}, ce y (sNew S q κ nn) q = some (.inr (ci, fs))) (hκ : κ ≠ 14 ∧ κ ≤ 17) (hfs : ∀ j, j < N → defaultValue (ty j) = vp_V fs j) (hcells : cells + 1 ≤ R.cells) (hslots : slots + N ≤ R.slots) (hdg : decode cc pc = .ok (.new index, 3))
    (kk : ∀ (q : Nat) (H1 : Heap), gK S q = 0 → wd D y z (sNew S q κ nn) A H1 → va_S A H0 H1 locs →
      W p l e R s m args below meth c H1 locs (cells + 1) (slots + N) Q (F0 m (pc + 3) ls (.ref q :: rest))) : W p l e R s m args below meth c H locs cells slots Q (F0 m pc ls rest) := by
  obtain ⟨⟨ws, hP, hD, hx⟩, hwk⟩ := hw
  refine va_new hexec hb hts hin ty hty hown hcl hinst hini hK hP hD hS hA hc hfs hcells hslots hdg (fun q H1 hP1 hD1 hS1 => ?_)
  obtain ⟨h0, hp⟩ := wd_push hx hwk hz hP1 hD1
  exact kk q H1 h0 (hp κ nn hκ hfs0) hS1
theorem r_newa9 (hexec : p.tables.exec = Jvm.exec) (hb : c.code = cc) (harr : (Cond.arrayClass .int).before args s = true) (hK : va_K D bCl (bT y) s) (hw : wd D y z S A H) (hS : va_S A H0 H locs) (hA : ∀ q, H0.size ≤ q → A q) (hz : ¬ A z) {n : Int32} {N' : Nat} (hn : ¬ n < 0) (hN : n.toNatClampNeg = N') (hbytes : N' * 4 ≤ 536870912) (hcells : cells + 1 ≤ R.cells) (hslots : slots + N' ≤ R.slots) (hdg : decode cc pc = .ok (.newarray .int, 2))
    (kk : ∀ (q : Nat) (H1 : Heap), gK S q = 0 → wd D y z (sNew S q 9 N') A H1 → va_S A H0 H1 locs →
      W p l e R s m args below meth c H1 locs (cells + 1) (slots + N') Q (F0 m (pc + 2) ls (.ref q :: rest))) : W p l e R s m args below meth c H locs cells slots Q (F0 m pc ls (.int n :: rest)) := by
  obtain ⟨⟨ws, hP, hD, hx⟩, hwk⟩ := hw
  refine va_newa (atype := .int) hexec hb harr rfl hK hP hD hS hA (N' := N') (a0 := (N', .inl (fun _ => 0))) (fun cA => rfl) hn hN hbytes hcells hslots hdg (fun q cA H1 hK1 hP1 hD1 hS1 => ?_)
  have e1 := (hK1.2 7 (cA, .int) rfl).2
  have e2 := (hK.2 0 (y 0, .int) rfl).2
  have e3 : cA = y 0 := Option.some.inj (e1.symm.trans e2)
  subst e3
  obtain ⟨h0, hp⟩ := wd_push hx hwk hz hP1 hD1
  refine kk q H1 h0 (hp 9 N' (by decide) ?_) hS1
  rw [ce_9 (S := sNew S q 9 N') (if_pos rfl)]
  simp [gN_sNew, gV_sNew, gL_sNew]
theorem r_newa10 (hexec : p.tables.exec = Jvm.exec) (hb : c.code = cc) (harr : (Cond.arrayClass .boolean).before args s = true) (hK : va_K D bCl (bT y) s) (hw : wd D y z S A H) (hS : va_S A H0 H locs) (hA : ∀ q, H0.size ≤ q → A q) (hz : ¬ A z) {n : Int32} {N' : Nat} (hn : ¬ n < 0) (hN : n.toNatClampNeg = N') (hbytes : N' * 1 ≤ 536870912) (hcells : cells + 1 ≤ R.cells) (hslots : slots + N' ≤ R.slots) (hdg : decode cc pc = .ok (.newarray .boolean, 2))
    (kk : ∀ (q : Nat) (H1 : Heap), gK S q = 0 → wd D y z (sNew S q 10 N') A H1 → va_S A H0 H1 locs →
      W p l e R s m args below meth c H1 locs (cells + 1) (slots + N') Q (F0 m (pc + 2) ls (.ref q :: rest))) : W p l e R s m args below meth c H locs cells slots Q (F0 m pc ls (.int n :: rest)) := by
  obtain ⟨⟨ws, hP, hD, hx⟩, hwk⟩ := hw
  refine va_newa (atype := .boolean) hexec hb harr rfl hK hP hD hS hA (N' := N') (a0 := (N', .inl (fun _ => 0))) (fun cA => rfl) hn hN hbytes hcells hslots hdg (fun q cA H1 hK1 hP1 hD1 hS1 => ?_)
  have e1 := (hK1.2 7 (cA, .boolean) rfl).2
  have e2 := (hK.2 1 (y 1, .boolean) rfl).2
  have e3 : cA = y 1 := Option.some.inj (e1.symm.trans e2)
  subst e3
  obtain ⟨h0, hp⟩ := wd_push hx hwk hz hP1 hD1
  refine kk q H1 h0 (hp 10 N' (by decide) ?_) hS1
  rw [ce_10 (S := sNew S q 10 N') (if_pos rfl)]
  simp [gN_sNew, gV_sNew, gL_sNew]
theorem r_newq (hexec : p.tables.exec = Jvm.exec) (hb : c.code = cc) {own : String} {index : Nat} (hown : s.vm.findClass own = some m.cls) (hclink : (Cond.classLink own index "java/lang/Object").before args s = true) (hO : bO s) (hK : va_K D bCl (bT y) s) (hw : wd D y z S A H) (hS : va_S A H0 H locs) (hA : ∀ q, H0.size ≤ q → A q) (hz : ¬ A z) {n : Int32} {N' : Nat} (hn : ¬ n < 0) (hN : n.toNatClampNeg = N') (hbytes : N' * 4 ≤ 536870912) (hcells : cells + 1 ≤ R.cells) (hslots : slots + N' ≤ R.slots) (hdg : decode cc pc = .ok (.anewarray index, 3))
    (kk : ∀ (q : Nat) (H1 : Heap), gK S q = 0 → wd D y z (sNew S q 11 N') A H1 → va_S A H0 H1 locs →
      W p l e R s m args below meth c H1 locs (cells + 1) (slots + N') Q (F0 m (pc + 3) ls (.ref q :: rest))) : W p l e R s m args below meth c H locs cells slots Q (F0 m pc ls (.int n :: rest)) := by
  obtain ⟨⟨ws, hP, hD, hx⟩, hwk⟩ := hw
  refine va_newq hexec hb hown hclink hO.1 hK hP hD hS hA hn hN hbytes hcells hslots hdg (fun q cA H1 hK1 hP1 hD1 hS1 => ?_)
  obtain ⟨kA, comp, -, -, -, e1⟩ := (hK1.2 7 (cA, .object "java/lang/Object") rfl).2
  obtain ⟨kB, compB, -, -, -, e2⟩ := (hK.2 2 (y 2, .object "java/lang/Object") rfl).2
  have e3 : cA = y 2 := Option.some.inj (e1.symm.trans e2)
  subst e3
  obtain ⟨h0, hp⟩ := wd_push hx hwk hz hP1 hD1
  refine kk q H1 h0 (hp 11 N' (by decide) ?_) hS1
  rw [ce_11 (S := sNew S q 11 N') (if_pos rfl)]
  simp [gN_sNew, gQ_sNew]
theorem b_any {v : Nat} (hO : bO s) (hK : va_K D bCl (bT y) s) (hw : wd D y z S A H) (h : 2 ≤ gK S v ∧ gK S v ≤ 6) : va_Any "java/lang/Object" s H v := by
  obtain ⟨⟨ws, hP, hD, hx⟩, -⟩ := hw
  rcases (show gK S v = 2 ∨ gK S v = 3 ∨ gK S v = 4 ∨ gK S v = 5 ∨ gK S v = 6 by omega) with h | h | h | h | h
  · obtain ⟨k0, hk0⟩ := hx v _ (ce_2 h)
    refine va_rAny hK hP hk0 (r := (RX0, TX0, 9)) rfl (fun comp c0 e1 e2 => ?_)
    obtain ⟨c1, t1, f1, f2, f3⟩ := Cond.castable_spec (va_Nw.use (A := #[]) rfl (hO.2.1 _ bNw_69))
    cases e1.symm.trans f2
    cases e2.symm.trans f1
    exact f3
  · obtain ⟨k0, hk0⟩ := hx v _ (ce_3 h)
    refine va_rAny hK hP hk0 (r := (RX0, TX0, 9)) rfl (fun comp c0 e1 e2 => ?_)
    obtain ⟨c1, t1, f1, f2, f3⟩ := Cond.castable_spec (va_Nw.use (A := #[]) rfl (hO.2.1 _ bNw_69))
    cases e1.symm.trans f2
    cases e2.symm.trans f1
    exact f3
  · obtain ⟨k0, hk0⟩ := hx v _ (ce_4 h)
    refine va_rAny hK hP hk0 (r := (RX2, TX2, 2)) rfl (fun comp c0 e1 e2 => ?_)
    obtain ⟨c1, t1, f1, f2, f3⟩ := Cond.castable_spec (va_Nw.use (A := #[]) rfl (hO.2.1 _ bNw_72))
    cases e1.symm.trans f2
    cases e2.symm.trans f1
    exact f3
  · obtain ⟨k0, hk0⟩ := hx v _ (ce_5 h)
    refine va_rAny hK hP hk0 (r := (RX3, TX3, 10)) rfl (fun comp c0 e1 e2 => ?_)
    obtain ⟨c1, t1, f1, f2, f3⟩ := Cond.castable_spec (va_Nw.use (A := #[]) rfl (hO.2.1 _ bNw_70))
    cases e1.symm.trans f2
    cases e2.symm.trans f1
    exact f3
  · obtain ⟨k0, hk0⟩ := hx v _ (ce_6 h)
    refine va_rAny hK hP hk0 (r := (RX4, TX4, 11)) rfl (fun comp c0 e1 e2 => ?_)
    obtain ⟨c1, t1, f1, f2, f3⟩ := Cond.castable_spec (va_Nw.use (A := #[]) rfl (hO.2.1 _ bNw_71))
    cases e1.symm.trans f2
    cases e2.symm.trans f1
    exact f3
theorem r_aast (hexec : p.tables.exec = Jvm.exec) (hb : c.code = cc) (hK : va_K D bCl (bT y) s) (hO : bO s) (hw : wd D y z S A H) (hS : va_S A H0 H locs) (h : gK S a = 11) {i : Int32} {v : Nat} (hv : 2 ≤ gK S v ∧ gK S v ≤ 6) (hin : vp_in i (gN S a)) (hdg : decode cc pc = .ok (.aastore, 1))
    (kk : ∀ (H1 : Heap) (locs1 : List Loc), wd D y z (sQ S 11 a i.toNatClampNeg (some v)) A H1 → va_S A H0 H1 locs1 → W p l e R s m args below meth c H1 locs1 cells slots Q (F0 m (pc + 1) ls rest)) : W p l e R s m args below meth c H locs cells slots Q (F0 m pc ls (.ref v :: .int i :: .ref a :: rest)) := by
  have hany := b_any hO hK hw hv
  obtain ⟨⟨ws, hP, hD, hx⟩, hwk⟩ := hw
  obtain ⟨k0, hk0⟩ := hx a _ (ce_11 h)
  refine va_astqM hexec hb hK hP hD hS k0 2 hk0 rfl hany hin hdg (fun H1 locs1 hP1 hD1 hS1 => kk H1 locs1 (wd_set hx hk0 hP1 hD1 (fun b hb => ce_sQ hb) ?_ (wk_of hwk (fun _ => rfl) (fun _ => rfl))) hS1)
  have hf : (fun j => gQ (sQ S 11 a i.toNatClampNeg (some v)) 11 a j) = va_up (fun j => gQ S 11 a j) i.toNatClampNeg (some v) := by funext j; simp [gQ_sQ, va_up]
  rw [ce_11 (S := sQ S 11 a i.toNatClampNeg (some v)) h, hf]
  rfl
theorem r_copyi {cc : ByteArray} (hexec : p.tables.exec = Jvm.exec) (hb : c.code = cc) (hml : c.maxLocals = ls.size) {own : String} {index : Nat} (hown : s.vm.findClass own = some m.cls) (hlink : (Cond.methodLink own index arraycopyName).before args s = true) (hnat : (Cond.native arraycopyName).before args s = true) (hstat : (Cond.static arraycopyName).before args s = true) (hini : (Cond.initialized "java/lang/System").before args s = true)
    (hK : va_K D bCl (bT y) s) (hw : wd D y z S A H) (hS : va_S A H0 H locs) {a0 a1 : Nat} (h0 : gK S a0 = 9) (h1 : gK S a1 = 9) {sp dp n : Int32} (hc : ¬ sp < 0 ∧ ¬ dp < 0 ∧ ¬ n < 0 ∧ sp.toNatClampNeg + n.toNatClampNeg ≤ gN S a0 ∧ dp.toNatClampNeg + n.toNatClampNeg ≤ gN S a1)
    (hframes : 1 ≤ R.frames) (hlocals : (rest.map fun v => v.category).sum + (nativeFrameWords "java/lang/System" "arraycopy" 5 + 11) ≤ R.locals) (hdg : decode cc pc = .ok (.invokestatic index, 3))
    (kk : ∀ (H1 : Heap) (locs1 : List Loc), wd D y z (sF S 9 a1 (va_cpy (gV S 9 a0) (gV S 9 a1) sp.toNatClampNeg dp.toNatClampNeg n.toNatClampNeg)) A H1 → va_S A H0 H1 locs1 → W p l e R s m args below meth c H1 locs1 cells slots Q (F0 m (pc + 3) ls rest)) : W p l e R s m args below meth c H locs cells slots Q (F0 m pc ls (.int n :: .int dp :: .ref a1 :: .int sp :: .ref a0 :: rest)) := by
  obtain ⟨⟨ws, hP, hD, hx⟩, hwk⟩ := hw
  obtain ⟨k0, hk0⟩ := hx a0 _ (ce_9 h0)
  obtain ⟨k1, hk1⟩ := hx a1 _ (ce_9 h1)
  obtain ⟨c1, c2, c3, c4, c5⟩ := hc
  refine va_copyi hexec hb hml hown hlink hnat hstat hini hK hP hD hS k0 k1 0 0 hk0 hk1 rfl rfl rfl c1 c2 c3 c4 c5 (fun _ _ => rfl) hframes hlocals hdg (fun H1 locs1 hP1 hD1 hS1 => kk H1 locs1 (wd_set hx hk1 hP1 hD1 (fun b hb => ce_sF hb) ?_ (wk_of hwk (fun _ => rfl) (fun _ => rfl))) hS1)
  rw [ce_9 (S := sF S 9 a1 _) h1]
  simp [gN_sF, gV_sF]
theorem r_copyq {cc : ByteArray} (hexec : p.tables.exec = Jvm.exec) (hb : c.code = cc) (hml : c.maxLocals = ls.size) {own : String} {index : Nat} (hown : s.vm.findClass own = some m.cls) (hlink : (Cond.methodLink own index arraycopyName).before args s = true) (hnat : (Cond.native arraycopyName).before args s = true) (hstat : (Cond.static arraycopyName).before args s = true) (hini : (Cond.initialized "java/lang/System").before args s = true)
    (hK : va_K D bCl (bT y) s) (hw : wd D y z S A H) (hS : va_S A H0 H locs) {a0 a1 : Nat} (h0 : gK S a0 = 11) (h1 : gK S a1 = 11) {sp dp n : Int32} (hc : ¬ sp < 0 ∧ ¬ dp < 0 ∧ ¬ n < 0 ∧ sp.toNatClampNeg + n.toNatClampNeg ≤ gN S a0 ∧ dp.toNatClampNeg + n.toNatClampNeg ≤ gN S a1) (hO : bO s) (he : ∀ i, i < n.toNatClampNeg → ∀ b, gQ S 11 a0 (sp.toNatClampNeg + i) = some b → 2 ≤ gK S b ∧ gK S b ≤ 6)
    (hframes : 1 ≤ R.frames) (hlocals : (rest.map fun v => v.category).sum + (nativeFrameWords "java/lang/System" "arraycopy" 5 + 11) ≤ R.locals) (hdg : decode cc pc = .ok (.invokestatic index, 3))
    (kk : ∀ (H1 : Heap) (locs1 : List Loc), wd D y z (sG S 11 a1 (va_cpy (gQ S 11 a0) (gQ S 11 a1) sp.toNatClampNeg dp.toNatClampNeg n.toNatClampNeg)) A H1 → va_S A H0 H1 locs1 → W p l e R s m args below meth c H1 locs1 cells slots Q (F0 m (pc + 3) ls rest)) : W p l e R s m args below meth c H locs cells slots Q (F0 m pc ls (.int n :: .int dp :: .ref a1 :: .int sp :: .ref a0 :: rest)) := by
  have hany : ∀ i : Nat, i < n.toNatClampNeg → ∀ b : Nat, gQ S 11 a0 (sp.toNatClampNeg + i) = some b → va_Any "java/lang/Object" s H b := fun i hi b hb9 => b_any hO hK hw (he i hi b hb9)
  obtain ⟨⟨ws, hP, hD, hx⟩, hwk⟩ := hw
  obtain ⟨k0, hk0⟩ := hx a0 _ (ce_11 h0)
  obtain ⟨k1, hk1⟩ := hx a1 _ (ce_11 h1)
  obtain ⟨c1, c2, c3, c4, c5⟩ := hc
  refine va_copyM hexec hb hml hown hlink hnat hstat hini hK hP hD hS k0 k1 2 2 hk0 hk1 rfl rfl c1 c2 c3 c4 c5 hany hframes hlocals hdg (fun H1 locs1 hP1 hD1 hS1 => kk H1 locs1 (wd_set hx hk1 hP1 hD1 (fun b hb => ce_sG hb) ?_ (wk_of hwk (fun _ => rfl) (fun _ => rfl))) hS1)
  rw [ce_11 (S := sG S 11 a1 _) h1]
  simp [gN_sG, gQ_sG]
end BR
/-- rows of numbers, one behind another -/
def sRw (κi : Nat) (S : bS) (r : Nat → Nat) (K : Nat) : Nat → bS
  | 0 => S
  | n + 1 => sNew (sRw κi S r K n) (r n) κi K
theorem sRw_old {κi : Nat} {S : bS} {r : Nat → Nat} {K a : Nat} : ∀ n : Nat, (∀ i, i < n → r i ≠ a) → gK (sRw κi S r K n) a = gK S a ∧ gN (sRw κi S r K n) a = gN S a ∧ (∀ κ j, gV (sRw κi S r K n) κ a j = gV S κ a j) ∧ (∀ κ j, gQ (sRw κi S r K n) κ a j = gQ S κ a j) ∧ ∀ j, gL (sRw κi S r K n) a j = gL S a j
  | 0, _ => ⟨rfl, rfl, fun _ _ => rfl, fun _ _ => rfl, fun _ => rfl⟩
  | n + 1, h => by
    obtain ⟨h1, h2, h3, h4, h5⟩ := sRw_old (κi := κi) (S := S) (r := r) (K := K) (a := a) n (fun i hi => h i (Nat.lt_succ_of_lt hi))
    have hn : ¬ a = r n := fun q => h n (Nat.lt_succ_self n) q.symm
    exact ⟨(if_neg hn).trans h1, (if_neg hn).trans h2, fun κ j => (if_neg hn).trans (h3 κ j), fun κ j => (if_neg hn).trans (h4 κ j), fun j => (if_neg hn).trans (h5 j)⟩
theorem sRw_in {κi : Nat} {S : bS} {r : Nat → Nat} {K N : Nat} (hinj : ∀ i j : Nat, i < N → j < N → r i = r j → i = j) : ∀ n : Nat, n ≤ N → ∀ i, i < n → gK (sRw κi S r K n) (r i) = κi ∧ gN (sRw κi S r K n) (r i) = K ∧ ∀ κ j, gV (sRw κi S r K n) κ (r i) j = 0
  | 0, _, i, hi => absurd hi (Nat.not_lt_zero i)
  | n + 1, hn, i, hi => by
    by_cases hin : i = n
    · subst hin
      exact ⟨if_pos rfl, if_pos rfl, fun κ j => if_pos rfl⟩
    · obtain ⟨h1, h2, h3⟩ := sRw_in (κi := κi) (S := S) (r := r) (K := K) hinj n (by omega) i (by omega)
      have hne : ¬ r i = r n := fun q => hin (hinj i n (by omega) (by omega) q)
      exact ⟨(if_neg hne).trans h1, (if_neg hne).trans h2, fun κ j => (if_neg hne).trans (h3 κ j)⟩
/-- new int[N][K] -/
def sMn (κo κi : Nat) (S : bS) (q : Nat) (r : Nat → Nat) (N K : Nat) : bS := sG (sNew (sRw κi S r K N) q κo N) κo q (fun i => if i < N then some (r i) else none)
theorem sMn_old {κo κi : Nat} {S : bS} {q : Nat} {r : Nat → Nat} {N K a : Nat} (hq : a ≠ q) (hr : ∀ i, i < N → r i ≠ a) : gK (sMn κo κi S q r N K) a = gK S a ∧ gN (sMn κo κi S q r N K) a = gN S a ∧ (∀ κ j, gV (sMn κo κi S q r N K) κ a j = gV S κ a j) ∧ (∀ κ j, gQ (sMn κo κi S q r N K) κ a j = gQ S κ a j) ∧ ∀ j, gL (sMn κo κi S q r N K) a j = gL S a j := by
  obtain ⟨h1, h2, h3, h4, h5⟩ := sRw_old (κi := κi) (S := S) (r := r) (K := K) (a := a) N hr
  exact ⟨(if_neg hq).trans h1, (if_neg hq).trans h2, fun κ j => (if_neg hq).trans (h3 κ j), fun κ j => (if_neg (fun z => hq z.2)).trans ((if_neg hq).trans (h4 κ j)), fun j => (if_neg hq).trans (h5 j)⟩
theorem sMn_row {κo κi : Nat} {S : bS} {q : Nat} {r : Nat → Nat} {N K : Nat} (hq : ∀ i, i < N → r i ≠ q) (hinj : ∀ i j : Nat, i < N → j < N → r i = r j → i = j) {i : Nat} (hi : i < N) : gK (sMn κo κi S q r N K) (r i) = κi ∧ gN (sMn κo κi S q r N K) (r i) = K ∧ ∀ κ j, gV (sMn κo κi S q r N K) κ (r i) j = 0 := by
  obtain ⟨h1, h2, h3⟩ := sRw_in (κi := κi) (S := S) (K := K) hinj N (Nat.le_refl N) i hi
  have hn : ¬ r i = q := hq i hi
  exact ⟨(if_neg hn).trans h1, (if_neg hn).trans h2, fun κ j => (if_neg hn).trans (h3 κ j)⟩
theorem sMn_out {κo κi : Nat} {S : bS} {q : Nat} {r : Nat → Nat} {N K : Nat} : gK (sMn κo κi S q r N K) q = κo ∧ gN (sMn κo κi S q r N K) q = N ∧ ∀ i, gQ (sMn κo κi S q r N K) κo q i = if i < N then some (r i) else none := ⟨if_pos rfl, if_pos rfl, fun i => if_pos ⟨rfl, rfl⟩⟩
theorem b_oldM {κo κi : Nat} {S : bS} {q : Nat} {r : Nat → Nat} {N K a k : Nat} (h : gK S a = k) (hk : k ≠ 0) (hq : gK S q = 0) (hr : ∀ i, i < N → gK S (r i) = 0 ∧ r i ≠ q) : gK (sMn κo κi S q r N K) a = k := by
  rw [(sMn_old (κo := κo) (κi := κi) (S := S) (K := K) (fun e => hk (by rw [← h, e, hq])) (fun i hi e => hk (by rw [← h, ← e, (hr i hi).1]))).1]
  exact h
theorem wd_fresh {D : va_G} {y : Nat → ClassId} {z : Nat} {S : bS} {A : Nat → Prop} {ws W2 : va_W} {a k : Nat} {e : va_E} (hx : ∀ (a : Nat) (e : va_E), ce y S a = some e → ∃ k : Nat, ws[k]? = some (a, e)) (hw : wk z S) (hz : ¬ A z) (hD1 : va_D A (ws ++ W2)) (hk : ws.length ≤ k) (ha : (ws ++ W2)[k]? = some (a, e)) : gK S a = 0 ∧ a ≠ z := by
  have hAa : A a := hD1.2 _ _ ha
  have hza : a ≠ z := fun q => hz (q ▸ hAa)
  have hn : ce y S a = none := by
    cases h : ce y S a with
    | none => rfl
    | some e' =>
      obtain ⟨k2, hk2⟩ := hx a e' h
      have hl := (List.getElem?_eq_some_iff.mp hk2).1
      have hk3 : (ws ++ W2)[k2]? = some (a, e') := by rw [List.getElem?_append_left hl]; exact hk2
      have := hD1.1 k2 k _ _ hk3 ha rfl
      omega
  have h14 : gK S a ≠ 14 := fun q => hza ((hw.1 a).mp q)
  have hle := hw.2.2 a
  refine ⟨?_, hza⟩
  generalize hk5 : gK S a = k5 at *
  rcases k5 with _ | _ | _ | _ | _ | _ | _ | _ | _ | _ | _ | _ | _ | _ | _ | _ | _ | _ | k5
  · rfl
  all_goals first | omega | (exfalso; unfold ce at hn; rw [hk5] at hn; cases hn)
section BM
variable {p : Program} {l : Launch} {e : Env} {R : Room} {s : State} {m : MethodId} {args : Array Value} {below : List Frame} {meth : Method} {c : Code} {H : Heap} {locs : List Loc} {cells slots : Nat} {Q : State → Prop}
variable {cc : ByteArray} {pc : Nat} {ls : Array Slot} {rest : List Value} {D : va_G} {y : Nat → ClassId} {z : Nat} {A : Nat → Prop} {S : bS} {H0 : Heap} {a : Nat}
theorem r_mnaI (hexec : p.tables.exec = Jvm.exec) (hb : c.code = cc) {own : String} {index : Nat} (hown : s.vm.findClass own = some m.cls) (hclink : (Cond.classLink own index "[[I").before args s = true) (hover : va_AOA .int s) (harr : (Cond.arrayClass .int).before args s = true) (hK : va_K D bCl (bT y) s) (hw : wd D y z S A H) (hS : va_S A H0 H locs) (hA : ∀ q, H0.size ≤ q → A q) (hz : ¬ A z) {n k : Int32} {N K : Nat} (hn : ¬ n < 0) (hk : ¬ k < 0) (hN : n.toNatClampNeg = N) (hM : k.toNatClampNeg = K)
    (hb1 : N * 4 ≤ 536870912) (hb2 : K * 4 ≤ 536870912) (hcells : cells + (1 + N) ≤ R.cells) (hslots : slots + (N + N * K) ≤ R.slots) (hdg : decode cc pc = .ok (.multianewarray index 2, 4))
    (kk : ∀ (q : Nat) (r : Nat → Nat) (H1 : Heap), gK S q = 0 → (∀ i, i < N → gK S (r i) = 0 ∧ r i ≠ q) → (∀ i j : Nat, i < N → j < N → r i = r j → i = j) → wd D y z (sMn 12 9 S q r N K) A H1 → va_S A H0 H1 locs →
      W p l e R s m args below meth c H1 locs (cells + 1 + N) (slots + N + N * K) Q (F0 m (pc + 4) ls (.ref q :: rest))) : W p l e R s m args below meth c H locs cells slots Q (F0 m pc ls (.int k :: .int n :: rest)) := by
  obtain ⟨⟨ws, hP, hD, hx⟩, hwk⟩ := hw
  have e0 : ws ++ va_pl [] (fun _ => (.inl (0, (0, .inl (fun _ => 0))) : va_E)) = ws := List.append_nil ws
  refine va_mna (X := ws) (L := []) (f := fun _ => .inl (0, (0, .inl (fun _ => 0)))) (cy := y 0) (ty := .int) (z := (K, .inl (fun _ => 0))) hexec hb hown hclink hover harr ((hK.2 0 _ rfl).2) hK (by rw [e0]; exact hP) (by rw [e0]; exact hD) hS hA hn hk hN hM hb1 hb2 (by omega) rfl rfl hcells hslots (fun cA => arrV_new cA K (Value.int 0)) hdg (fun q r cA H1 hinj hnin hK1 hP1 hD1 hS1 => ?_)
  have e1 := (hK1.2 7 (cA, .array .int) rfl).2
  have e2 := (hK.2 3 (y 3, .array .int) rfl).2
  have e3 : cA = y 3 := Option.some.inj (e1.symm.trans e2)
  subst e3
  rw [List.append_assoc] at hP1 hD1
  have hrow : ∀ i, i < N → (ws ++ ([(q, .inl (y 3, N, .inr (.inr (.inr (.inr (fun i => if i < N then some (r i) else none))))))] ++ va_pl ([] ++ (List.range N).map r) (vr_up (fun _ => .inl (0, (0, .inl (fun _ => 0)))) ((List.range N).map r) (.inl (y 0, (K, .inl (fun _ => 0)))))))[ws.length + (1 + i)]? = some (r i, .inl (y 0, (K, .inl (fun _ => 0)))) := by
    intro i hi
    rw [List.getElem?_append_right (by omega), Nat.add_sub_cancel_left, List.getElem?_append_right (by simp), List.length_singleton, Nat.add_sub_cancel_left]
    have hmem : r i ∈ (List.range N).map r := List.mem_map.mpr ⟨i, List.mem_range.mpr hi, rfl⟩
    simp [va_pl, hi, vr_up_in hmem]
  have hq0 : (ws ++ ([(q, .inl (y 3, N, .inr (.inr (.inr (.inr (fun i => if i < N then some (r i) else none))))))] ++ va_pl ([] ++ (List.range N).map r) (vr_up (fun _ => .inl (0, (0, .inl (fun _ => 0)))) ((List.range N).map r) (.inl (y 0, (K, .inl (fun _ => 0)))))))[ws.length]? = some (q, .inl (y 3, N, .inr (.inr (.inr (.inr (fun i => if i < N then some (r i) else none)))))) := by
    rw [List.getElem?_append_right (by omega), Nat.sub_self]
    rfl
  obtain ⟨hqf, hqz⟩ := wd_fresh (D := D) hx hwk hz hD1 (Nat.le_refl _) hq0
  have hrf : ∀ i, i < N → gK S (r i) = 0 ∧ r i ≠ z := fun i hi => wd_fresh (D := D) hx hwk hz hD1 (by omega) (hrow i hi)
  have hrq : ∀ i, i < N → r i ≠ q := fun i hi e9 => by
    have := hD1.1 _ _ _ _ (hrow i hi) hq0 e9
    omega
  refine kk q r H1 hqf (fun i hi => ⟨(hrf i hi).1, hrq i hi⟩) hinj ⟨⟨_, hP1, hD1, fun a e9 ha => ?_⟩, ⟨fun a => ?_, ?_, fun a => ?_⟩⟩ hS1
  · by_cases haq : a = q
    · subst haq
      obtain ⟨g1, g2, g3⟩ := sMn_out (κo := 12) (κi := 9) (S := S) (q := a) (r := r) (N := N) (K := K)
      rw [ce_12 g1, g2] at ha
      have hf : (fun j => gQ (sMn 12 9 S a r N K) 12 a j) = (fun i => if i < N then some (r i) else none) := funext g3
      rw [hf] at ha
      cases ha
      exact ⟨_, hq0⟩
    · by_cases har : ∃ i, i < N ∧ r i = a
      · obtain ⟨i, hi, rfl⟩ := har
        obtain ⟨g1, g2, g3⟩ := sMn_row (κo := 12) (κi := 9) (S := S) (K := K) hrq hinj hi
        rw [ce_9 g1, g2] at ha
        have hf : (fun j => gV (sMn 12 9 S q r N K) 9 (r i) j) = (fun _ => 0) := funext (g3 9)
        rw [hf] at ha
        cases ha
        exact ⟨_, hrow i hi⟩
      · obtain ⟨g1, g2, g3, g4, g5⟩ := sMn_old (κo := 12) (κi := 9) (S := S) (K := K) haq (fun i hi e8 => har ⟨i, hi, e8⟩)
        rw [ce_same g1 g2 g3 g4 g5] at ha
        obtain ⟨k9, hk9⟩ := hx a e9 ha
        exact ⟨k9, by rw [List.getElem?_append_left (List.getElem?_eq_some_iff.mp hk9).1]; exact hk9⟩
  · by_cases haq : a = q
    · rw [haq, (sMn_out (κo := 12) (κi := 9) (S := S)).1]
      constructor
      · intro h; omega
      · intro h; exact absurd h hqz
    · by_cases har : ∃ i, i < N ∧ r i = a
      · obtain ⟨i, hi, rfl⟩ := har
        rw [(sMn_row (κo := 12) (κi := 9) (S := S) (K := K) hrq hinj hi).1]
        constructor
        · intro h; omega
        · intro h; exact absurd h (hrf i hi).2
      · rw [(sMn_old (κo := 12) (κi := 9) (S := S) (K := K) haq (fun i hi e8 => har ⟨i, hi, e8⟩)).1]
        exact hwk.1 a
  · rw [(sMn_old (κo := 12) (κi := 9) (S := S) (K := K) (Ne.symm hqz) (fun i hi => (hrf i hi).2)).2.1]
    exact hwk.2.1
  · by_cases haq : a = q
    · rw [haq, (sMn_out (κo := 12) (κi := 9) (S := S)).1]; omega
    · by_cases har : ∃ i, i < N ∧ r i = a
      · obtain ⟨i, hi, rfl⟩ := har
        rw [(sMn_row (κo := 12) (κi := 9) (S := S) (K := K) hrq hinj hi).1]; omega
      · rw [(sMn_old (κo := 12) (κi := 9) (S := S) (K := K) haq (fun i hi e8 => har ⟨i, hi, e8⟩)).1]
        exact hwk.2.2 a
theorem r_mnaZ (hexec : p.tables.exec = Jvm.exec) (hb : c.code = cc) {own : String} {index : Nat} (hown : s.vm.findClass own = some m.cls) (hclink : (Cond.classLink own index "[[Z").before args s = true) (hover : va_AOA .boolean s) (harr : (Cond.arrayClass .boolean).before args s = true) (hK : va_K D bCl (bT y) s) (hw : wd D y z S A H) (hS : va_S A H0 H locs) (hA : ∀ q, H0.size ≤ q → A q) (hz : ¬ A z) {n k : Int32} {N K : Nat} (hn : ¬ n < 0) (hk : ¬ k < 0) (hN : n.toNatClampNeg = N) (hM : k.toNatClampNeg = K)
    (hb1 : N * 4 ≤ 536870912) (hb2 : K * 1 ≤ 536870912) (hcells : cells + (1 + N) ≤ R.cells) (hslots : slots + (N + N * K) ≤ R.slots) (hdg : decode cc pc = .ok (.multianewarray index 2, 4))
    (kk : ∀ (q : Nat) (r : Nat → Nat) (H1 : Heap), gK S q = 0 → (∀ i, i < N → gK S (r i) = 0 ∧ r i ≠ q) → (∀ i j : Nat, i < N → j < N → r i = r j → i = j) → wd D y z (sMn 17 10 S q r N K) A H1 → va_S A H0 H1 locs →
      W p l e R s m args below meth c H1 locs (cells + 1 + N) (slots + N + N * K) Q (F0 m (pc + 4) ls (.ref q :: rest))) : W p l e R s m args below meth c H locs cells slots Q (F0 m pc ls (.int k :: .int n :: rest)) := by
  obtain ⟨⟨ws, hP, hD, hx⟩, hwk⟩ := hw
  have e0 : ws ++ va_pl [] (fun _ => (.inl (0, (0, .inl (fun _ => 0))) : va_E)) = ws := List.append_nil ws
  refine va_mna (X := ws) (L := []) (f := fun _ => .inl (0, (0, .inl (fun _ => 0)))) (cy := y 1) (ty := .boolean) (z := (K, .inl (fun _ => 0))) hexec hb hown hclink hover harr ((hK.2 1 _ rfl).2) hK (by rw [e0]; exact hP) (by rw [e0]; exact hD) hS hA hn hk hN hM hb1 hb2 (by omega) rfl rfl hcells hslots (fun cA => arrV_new cA K (Value.int 0)) hdg (fun q r cA H1 hinj hnin hK1 hP1 hD1 hS1 => ?_)
  have e1 := (hK1.2 7 (cA, .array .boolean) rfl).2
  have e2 := (hK.2 6 (y 6, .array .boolean) rfl).2
  have e3 : cA = y 6 := Option.some.inj (e1.symm.trans e2)
  subst e3
  rw [List.append_assoc] at hP1 hD1
  have hrow : ∀ i, i < N → (ws ++ ([(q, .inl (y 6, N, .inr (.inr (.inr (.inr (fun i => if i < N then some (r i) else none))))))] ++ va_pl ([] ++ (List.range N).map r) (vr_up (fun _ => .inl (0, (0, .inl (fun _ => 0)))) ((List.range N).map r) (.inl (y 1, (K, .inl (fun _ => 0)))))))[ws.length + (1 + i)]? = some (r i, .inl (y 1, (K, .inl (fun _ => 0)))) := by
    intro i hi
    rw [List.getElem?_append_right (by omega), Nat.add_sub_cancel_left, List.getElem?_append_right (by simp), List.length_singleton, Nat.add_sub_cancel_left]
    have hmem : r i ∈ (List.range N).map r := List.mem_map.mpr ⟨i, List.mem_range.mpr hi, rfl⟩
    simp [va_pl, hi, vr_up_in hmem]
  have hq0 : (ws ++ ([(q, .inl (y 6, N, .inr (.inr (.inr (.inr (fun i => if i < N then some (r i) else none))))))] ++ va_pl ([] ++ (List.range N).map r) (vr_up (fun _ => .inl (0, (0, .inl (fun _ => 0)))) ((List.range N).map r) (.inl (y 1, (K, .inl (fun _ => 0)))))))[ws.length]? = some (q, .inl (y 6, N, .inr (.inr (.inr (.inr (fun i => if i < N then some (r i) else none)))))) := by
    rw [List.getElem?_append_right (by omega), Nat.sub_self]
    rfl
  obtain ⟨hqf, hqz⟩ := wd_fresh (D := D) hx hwk hz hD1 (Nat.le_refl _) hq0
  have hrf : ∀ i, i < N → gK S (r i) = 0 ∧ r i ≠ z := fun i hi => wd_fresh (D := D) hx hwk hz hD1 (by omega) (hrow i hi)
  have hrq : ∀ i, i < N → r i ≠ q := fun i hi e9 => by
    have := hD1.1 _ _ _ _ (hrow i hi) hq0 e9
    omega
  refine kk q r H1 hqf (fun i hi => ⟨(hrf i hi).1, hrq i hi⟩) hinj ⟨⟨_, hP1, hD1, fun a e9 ha => ?_⟩, ⟨fun a => ?_, ?_, fun a => ?_⟩⟩ hS1
  · by_cases haq : a = q
    · subst haq
      obtain ⟨g1, g2, g3⟩ := sMn_out (κo := 17) (κi := 10) (S := S) (q := a) (r := r) (N := N) (K := K)
      rw [ce_17 g1, g2] at ha
      have hf : (fun j => gQ (sMn 17 10 S a r N K) 17 a j) = (fun i => if i < N then some (r i) else none) := funext g3
      rw [hf] at ha
      cases ha
      exact ⟨_, hq0⟩
    · by_cases har : ∃ i, i < N ∧ r i = a
      · obtain ⟨i, hi, rfl⟩ := har
        obtain ⟨g1, g2, g3⟩ := sMn_row (κo := 17) (κi := 10) (S := S) (K := K) hrq hinj hi
        rw [ce_10 g1, g2] at ha
        have hf : (fun j => gV (sMn 17 10 S q r N K) 10 (r i) j) = (fun _ => 0) := funext (g3 10)
        rw [hf] at ha
        cases ha
        exact ⟨_, hrow i hi⟩
      · obtain ⟨g1, g2, g3, g4, g5⟩ := sMn_old (κo := 17) (κi := 10) (S := S) (K := K) haq (fun i hi e8 => har ⟨i, hi, e8⟩)
        rw [ce_same g1 g2 g3 g4 g5] at ha
        obtain ⟨k9, hk9⟩ := hx a e9 ha
        exact ⟨k9, by rw [List.getElem?_append_left (List.getElem?_eq_some_iff.mp hk9).1]; exact hk9⟩
  · by_cases haq : a = q
    · rw [haq, (sMn_out (κo := 17) (κi := 10) (S := S)).1]
      constructor
      · intro h; omega
      · intro h; exact absurd h hqz
    · by_cases har : ∃ i, i < N ∧ r i = a
      · obtain ⟨i, hi, rfl⟩ := har
        rw [(sMn_row (κo := 17) (κi := 10) (S := S) (K := K) hrq hinj hi).1]
        constructor
        · intro h; omega
        · intro h; exact absurd h (hrf i hi).2
      · rw [(sMn_old (κo := 17) (κi := 10) (S := S) (K := K) haq (fun i hi e8 => har ⟨i, hi, e8⟩)).1]
        exact hwk.1 a
  · rw [(sMn_old (κo := 17) (κi := 10) (S := S) (K := K) (Ne.symm hqz) (fun i hi => (hrf i hi).2)).2.1]
    exact hwk.2.1
  · by_cases haq : a = q
    · rw [haq, (sMn_out (κo := 17) (κi := 10) (S := S)).1]; omega
    · by_cases har : ∃ i, i < N ∧ r i = a
      · obtain ⟨i, hi, rfl⟩ := har
        rw [(sMn_row (κo := 17) (κi := 10) (S := S) (K := K) hrq hinj hi).1]; omega
      · rw [(sMn_old (κo := 17) (κi := 10) (S := S) (K := K) haq (fun i hi e8 => har ⟨i, hi, e8⟩)).1]
        exact hwk.2.2 a
theorem r_newA (hexec : p.tables.exec = Jvm.exec) (hb : c.code = cc) {own : String} {index κ ti : Nat} {t : FieldType} {yc : ClassId} (hown : s.vm.findClass own = some m.cls) (hclink : (Cond.classLink own index (FieldType.array t).toString).before args s = true) (hover : va_AOA t s) (hK : va_K D bCl (bT y) s) (hti : (bT y)[ti]? = some (yc, .array t)) (hκ : κ ≠ 14 ∧ κ ≤ 17) (hce : ∀ (S : bS) (q n : Nat), ce y (sNew S q κ n) q = some (.inl (yc, n, .inr (.inr (.inr (.inr (fun _ => none))))))) (hw : wd D y z S A H) (hS : va_S A H0 H locs) (hA : ∀ q, H0.size ≤ q → A q) (hz : ¬ A z) {n : Int32} {N' : Nat} (hn : ¬ n < 0) (hN : n.toNatClampNeg = N') (hbytes : N' * 4 ≤ 536870912) (hcells : cells + 1 ≤ R.cells) (hslots : slots + N' ≤ R.slots) (hdg : decode cc pc = .ok (.anewarray index, 3))
    (kk : ∀ (q : Nat) (H1 : Heap), gK S q = 0 → wd D y z (sNew S q κ N') A H1 → va_S A H0 H1 locs →
      W p l e R s m args below meth c H1 locs (cells + 1) (slots + N') Q (F0 m (pc + 3) ls (.ref q :: rest))) : W p l e R s m args below meth c H locs cells slots Q (F0 m pc ls (.int n :: rest)) := by
  obtain ⟨⟨ws, hP, hD, hx⟩, hwk⟩ := hw
  subst hN
  refine W.anewA hexec hb hown hclink (va_AOA.use hover) rfl hdg rfl hn hbytes hcells hslots fun cA kA comp f1 f2 f3 f4 => ?_
  have e2 : s.vm.findClass ("[" ++ (FieldType.array t).toString) = some yc := (hK.2 ti _ hti).2
  have e3 : cA = yc := Option.some.inj (f1.symm.trans e2)
  subst e3
  generalize hH1 : H.push ({ cls := cA, slots := Array.replicate n.toNatClampNeg .null, vm := .none } : Cell) = H1
  have z1 : H1.size = H.size + 1 := by rw [← hH1, Array.size_push]
  have e1 : H1[H.size]? = some (arrV cA n.toNatClampNeg (fun _ => .null)) := by rw [← hH1, Array.getElem?_push_size, ← arrV_new]
  have o1 : ∀ q : Nat, q < H.size → H1[q]? = H[q]? := fun q hq => by rw [← hH1, Array.getElem?_push, if_neg (Nat.ne_of_lt hq)]
  have hk : ∀ (k : Nat) (x : Nat × va_E), ws[k]? = some x → H1[x.1]? = H[x.1]? := fun k x hx => o1 x.1 ((hP k x hx).lt)
  have hP1 : va_P D bCl (ws ++ [(H.size, .inl (cA, n.toNatClampNeg, .inr (.inr (.inr (.inr (fun _ => none))))))]) H1 := (hP.kept hk).app (fun k x hx => by
    have hz : k < 1 := (List.getElem?_eq_some_iff.mp hx).1
    rw [show k = 0 by omega] at hx
    cases hx
    show H1[H.size]? = some (vp_cell _ _)
    rw [vp_cell_q]
    exact e1)
  have hD1 : va_D A (ws ++ [(H.size, .inl (cA, n.toNatClampNeg, .inr (.inr (.inr (.inr (fun _ => none))))))]) := hD.push hP rfl (hA _ hS.1)
  obtain ⟨h0, hp⟩ := wd_push hx hwk hz hP1 hD1
  exact kk H.size H1 h0 (hp κ _ hκ (hce _ _ _)) ⟨Nat.le_trans hS.1 (by omega), fun x h1 h2 => (o1 x (Nat.lt_of_lt_of_le h1 hS.1)).trans (hS.2.1 x h1 h2), hS.2.2⟩
theorem r_newc (hexec : p.tables.exec = Jvm.exec) (hb : c.code = cc) {own : String} {index : Nat} (hown : s.vm.findClass own = some m.cls) (hclink : (Cond.classLink own index "TubePostLaw$Carrier").before args s = true) (hover : va_AO "TubePostLaw$Carrier" s) (hK : va_K D bCl (bT y) s) (hw : wd D y z S A H) (hS : va_S A H0 H locs) (hA : ∀ q, H0.size ≤ q → A q) (hz : ¬ A z) {n : Int32} {N' : Nat} (hn : ¬ n < 0) (hN : n.toNatClampNeg = N') (hbytes : N' * 4 ≤ 536870912) (hcells : cells + 1 ≤ R.cells) (hslots : slots + N' ≤ R.slots) (hdg : decode cc pc = .ok (.anewarray index, 3))
    (kk : ∀ (q : Nat) (H1 : Heap), gK S q = 0 → wd D y z (sNew S q 15 N') A H1 → va_S A H0 H1 locs →
      W p l e R s m args below meth c H1 locs (cells + 1) (slots + N') Q (F0 m (pc + 3) ls (.ref q :: rest))) : W p l e R s m args below meth c H locs cells slots Q (F0 m pc ls (.int n :: rest)) := by
  obtain ⟨⟨ws, hP, hD, hx⟩, hwk⟩ := hw
  refine va_newq hexec hb hown hclink hover hK hP hD hS hA hn hN hbytes hcells hslots hdg (fun q cA H1 hK1 hP1 hD1 hS1 => ?_)
  obtain ⟨kA, comp, -, -, -, e1⟩ := (hK1.2 7 (cA, .object "TubePostLaw$Carrier") rfl).2
  obtain ⟨kB, compB, -, -, -, e2⟩ := (hK.2 4 (y 4, .object "TubePostLaw$Carrier") rfl).2
  have e3 : cA = y 4 := Option.some.inj (e1.symm.trans e2)
  subst e3
  obtain ⟨h0, hp⟩ := wd_push hx hwk hz hP1 hD1
  refine kk q H1 h0 (hp 15 N' (by decide) ?_) hS1
  rw [ce_15 (S := sNew S q 15 N') (if_pos rfl)]
  simp [gN_sNew, gQ_sNew]
theorem ce_new12 (S : bS) (q n : Nat) : ce y (sNew S q 12 n) q = some (.inl (y 3, n, .inr (.inr (.inr (.inr (fun _ => none)))))) := by
  rw [ce_12 (S := sNew S q 12 n) (if_pos rfl)]
  simp [gN_sNew, gQ_sNew]
theorem ce_new16 (S : bS) (q n : Nat) : ce y (sNew S q 16 n) q = some (.inl (y 5, n, .inr (.inr (.inr (.inr (fun _ => none)))))) := by
  rw [ce_16 (S := sNew S q 16 n) (if_pos rfl)]
  simp [gN_sNew, gQ_sNew]
theorem asg_rf (vm : Vm) (k : ClassId) : vm.assignable k k = true := by
  unfold Vm.assignable Vm.assignableAux
  simp only [beq_self_eq_true, Bool.true_or]
theorem r_aast12 (hexec : p.tables.exec = Jvm.exec) (hb : c.code = cc) (hK : va_K D bCl (bT y) s) (hover : va_AOA .int s) (hw : wd D y z S A H) (hS : va_S A H0 H locs) (h : gK S a = 12) {i : Int32} {v : Nat} (hv : gK S v = 9) (hin : vp_in i (gN S a)) (hdg : decode cc pc = .ok (.aastore, 1))
    (kk : ∀ (H1 : Heap) (locs1 : List Loc), wd D y z (sQ S 12 a i.toNatClampNeg (some v)) A H1 → va_S A H0 H1 locs1 → W p l e R s m args below meth c H1 locs1 cells slots Q (F0 m (pc + 1) ls rest)) : W p l e R s m args below meth c H locs cells slots Q (F0 m pc ls (.ref v :: .int i :: .ref a :: rest)) := by
  obtain ⟨⟨ws, hP, hD, hx⟩, hwk⟩ := hw
  obtain ⟨k0, hk0⟩ := hx a _ (ce_12 h)
  obtain ⟨k1, hk1⟩ := hx v _ (ce_9 hv)
  have hlt : i.toNatClampNeg < gN S a := Nat.not_le.mp fun q => hin (Or.inr q)
  have h0 : ¬ i < 0 := fun q => hin (Or.inl q)
  obtain ⟨comp, cA, kA, g1, g2, g3, g4, g5⟩ := arrayOverA_spec (args := args) (first := s) (o := none) (s := s) (idx := []) (va_AOA.use hover)
  have eA : cA = y 3 := Option.some.inj (g5.symm.trans (hK.2 3 _ rfl).2)
  have eC : comp = y 0 := Option.some.inj (g1.symm.trans (hK.2 0 _ rfl).2)
  subst eA
  subst eC
  obtain ⟨-, kI, hkI, -⟩ := (hK.2 0 _ rfl).1 0 (fun _ => .null)
  refine W.aast hexec hb (hP k0 _ hk0) (fun q h => by cases h) (fun h => by cases h) g3 g4 rfl hkI ⟨h0, by show _ < (arrV _ _ _).slots.size; rw [arrV_size]; exact hlt⟩ (hP k1 _ hk1) (fun q h => by cases h) hkI (asg_rf _ _) rfl rfl hdg fun H1 e z oq => ?_
  refine kk H1 _ (wd_set (e := .inl (y 3, gN S a, .inr (.inr (.inr (.inr (va_up (fun j => gQ S 12 a j) i.toNatClampNeg (some v))))))) hx hk0 (hP.set hD hk0 ?_ oq) (hD.set hk0) (fun b hb => ce_sQ hb) ?_ (wk_of hwk (fun _ => rfl) (fun _ => rfl))) (hS.put z oq (hD.2 k0 _ hk0))
  · show H1[a]? = some (vp_cell (y 3) (gN S a, .inr (.inr (.inr (.inr (va_up (fun j => gQ S 12 a j) i.toNatClampNeg (some v)))))))
    rw [e]
    rw [vp_cell_q, vp_cell_q, arrV_store]
    congr 2
    funext q
    by_cases hq : q = i.toNatClampNeg
    · subst hq
      simp [updV, va_up, va_rf]
    · simp [updV, va_up, hq]
  · have hf : (fun j => gQ (sQ S 12 a i.toNatClampNeg (some v)) 12 a j) = va_up (fun j => gQ S 12 a j) i.toNatClampNeg (some v) := by funext j; simp [gQ_sQ, va_up]
    rw [ce_12 (S := sQ S 12 a i.toNatClampNeg (some v)) h, hf]
    rfl
theorem r_aast16 (hexec : p.tables.exec = Jvm.exec) (hb : c.code = cc) (hK : va_K D bCl (bT y) s) (hover : va_AOA (.object "TubePostLaw$Carrier") s) (hw : wd D y z S A H) (hS : va_S A H0 H locs) (h : gK S a = 16) {i : Int32} {v : Nat} (hv : gK S v = 15) (hin : vp_in i (gN S a)) (hdg : decode cc pc = .ok (.aastore, 1))
    (kk : ∀ (H1 : Heap) (locs1 : List Loc), wd D y z (sQ S 16 a i.toNatClampNeg (some v)) A H1 → va_S A H0 H1 locs1 → W p l e R s m args below meth c H1 locs1 cells slots Q (F0 m (pc + 1) ls rest)) : W p l e R s m args below meth c H locs cells slots Q (F0 m pc ls (.ref v :: .int i :: .ref a :: rest)) := by
  obtain ⟨⟨ws, hP, hD, hx⟩, hwk⟩ := hw
  obtain ⟨k0, hk0⟩ := hx a _ (ce_16 h)
  obtain ⟨k1, hk1⟩ := hx v _ (ce_15 hv)
  have hlt : i.toNatClampNeg < gN S a := Nat.not_le.mp fun q => hin (Or.inr q)
  have h0 : ¬ i < 0 := fun q => hin (Or.inl q)
  obtain ⟨comp, cA, kA, g1, g2, g3, g4, g5⟩ := arrayOverA_spec (args := args) (first := s) (o := none) (s := s) (idx := []) (va_AOA.use hover)
  have eA : cA = y 5 := Option.some.inj (g5.symm.trans (hK.2 5 _ rfl).2)
  obtain ⟨kB, compB, -, -, -, e2⟩ := (hK.2 4 (y 4, .object "TubePostLaw$Carrier") rfl).2
  have eC : comp = y 4 := Option.some.inj (g1.symm.trans e2)
  subst eA
  subst eC
  obtain ⟨-, kI, hkI, -⟩ := (hK.2 4 _ rfl).1 0 (fun _ => .null)
  refine W.aast hexec hb (hP k0 _ hk0) (fun q h => by cases h) (fun h => by cases h) g3 g4 rfl hkI ⟨h0, by show _ < (arrV _ _ _).slots.size; rw [arrV_size]; exact hlt⟩ (hP k1 _ hk1) (fun q h => by cases h) hkI (asg_rf _ _) rfl rfl hdg fun H1 e z oq => ?_
  refine kk H1 _ (wd_set (e := .inl (y 5, gN S a, .inr (.inr (.inr (.inr (va_up (fun j => gQ S 16 a j) i.toNatClampNeg (some v))))))) hx hk0 (hP.set hD hk0 ?_ oq) (hD.set hk0) (fun b hb => ce_sQ hb) ?_ (wk_of hwk (fun _ => rfl) (fun _ => rfl))) (hS.put z oq (hD.2 k0 _ hk0))
  · show H1[a]? = some (vp_cell (y 5) (gN S a, .inr (.inr (.inr (.inr (va_up (fun j => gQ S 16 a j) i.toNatClampNeg (some v)))))))
    rw [e]
    rw [vp_cell_q, vp_cell_q, arrV_store]
    congr 2
    funext q
    by_cases hq : q = i.toNatClampNeg
    · subst hq
      simp [updV, va_up, va_rf]
    · simp [updV, va_up, hq]
  · have hf : (fun j => gQ (sQ S 16 a i.toNatClampNeg (some v)) 16 a j) = va_up (fun j => gQ S 16 a j) i.toNatClampNeg (some v) := by funext j; simp [gQ_sQ, va_up]
    rw [ce_16 (S := sQ S 16 a i.toNatClampNeg (some v)) h, hf]
    rfl
end BM

/-- a start of a method that reads the law's script -/
def bPX (D : va_G) (y : Nat → ClassId) (z : Nat) (S : bS) (A : Nat → Prop) (b L : Nat) (xs : Nat → Int32) (U : State) : Prop := bP D y z S A U ∧ va_X b L xs U U.heap ∧ b < U.heap.size ∧ ¬ A b
theorem r_pSX {D : va_G} {y : Nat → ClassId} {z : Nat} {S0 S : bS} {A : Nat → Prop} {s : State} {H : Heap} {locs : List Loc} {As : List Value} {b L : Nat} {xs : Nat → Int32} (hB : bP D y z S0 A s) (hw : wd D y z S A H) (hS : va_S A s.heap H locs) (hX : va_X b L xs s s.heap) (hbl : b < s.heap.size) (hbA : ¬ A b) : PreS s H (va_Pc As (bPX D y z S A b L xs)) As := ⟨fun a U g mk q => ⟨q.1, (bP.blind (av := As) a U g mk ⟨q.1, q.2.1⟩).2, q.2.2.1.moved (u := U) (U := U.calling g mk a) (Vm.Alike.refl U.vm), q.2.2.2⟩, fun U hU hW => ⟨rfl, bP.go hB hw hS U hU hW, by
  rw [hU]
  exact (hX.kept (hS.2.1 b hbl hbA)).moved hW.alike, by
  rw [hU]
  exact Nat.lt_of_lt_of_le hbl hS.1, hbA⟩⟩

