def mj_F (own : String) (idx ci k : Nat) : Prop := ∃ (C : String) (T : u_T) (N : Nat), mj_cl[ci]? = some (C, T, N) ∧ k < N ∧ Cond.fieldLink own idx (T k).1 (T k).2.1 (T k).2.2.1 ∈ mj_ws
def mj_V (own : String) (idx : Nat) (y : MethodName) : Prop := Cond.methodLink own idx y ∈ mj_ws ∧ Cond.instanceMethod y ∈ mj_ws ∧ Cond.selects y.cls y y ∈ mj_ws
def mj_T (own : String) (idx : Nat) (y : MethodName) : Prop := Cond.methodLink own idx y ∈ mj_ws ∧ Cond.static y ∈ mj_ws
theorem mj_acw : Cond.native arraycopyName ∈ mj_ws ∧ Cond.static arraycopyName ∈ mj_ws ∧ Cond.initialized "java/lang/System" ∈ mj_ws := ⟨mj_in (i := 385) (by decide +kernel) (by decide +kernel), mj_in (i := 384) (by decide +kernel) (by decide +kernel), mj_in (i := 88) (by decide +kernel) (by decide +kernel)⟩
theorem fV_36 : mj_F RV_c 36 1 0 := ⟨RV_c, TV_c, 13, rfl, by decide, mj_in (i := 109) (by decide +kernel) (by decide +kernel)⟩
theorem fA_42 : mj_F RA_c 42 1 0 := ⟨RV_c, TV_c, 13, rfl, by decide, mj_in (i := 110) (by decide +kernel) (by decide +kernel)⟩
theorem fR_47 : mj_F RR_c 47 1 0 := ⟨RV_c, TV_c, 13, rfl, by decide, mj_in (i := 111) (by decide +kernel) (by decide +kernel)⟩
theorem fC_128 : mj_F RC_c 128 1 0 := ⟨RV_c, TV_c, 13, rfl, by decide, mj_in (i := 112) (by decide +kernel) (by decide +kernel)⟩
theorem fV_40 : mj_F RV_c 40 1 1 := ⟨RV_c, TV_c, 13, rfl, by decide, mj_in (i := 113) (by decide +kernel) (by decide +kernel)⟩
theorem fA_49 : mj_F RA_c 49 1 1 := ⟨RV_c, TV_c, 13, rfl, by decide, mj_in (i := 114) (by decide +kernel) (by decide +kernel)⟩
theorem fR_58 : mj_F RR_c 58 1 1 := ⟨RV_c, TV_c, 13, rfl, by decide, mj_in (i := 115) (by decide +kernel) (by decide +kernel)⟩
theorem fC_328 : mj_F RC_c 328 1 1 := ⟨RV_c, TV_c, 13, rfl, by decide, mj_in (i := 116) (by decide +kernel) (by decide +kernel)⟩
theorem fV_43 : mj_F RV_c 43 1 2 := ⟨RV_c, TV_c, 13, rfl, by decide, mj_in (i := 117) (by decide +kernel) (by decide +kernel)⟩
theorem fR_64 : mj_F RR_c 64 1 2 := ⟨RV_c, TV_c, 13, rfl, by decide, mj_in (i := 118) (by decide +kernel) (by decide +kernel)⟩
theorem fC_171 : mj_F RC_c 171 1 2 := ⟨RV_c, TV_c, 13, rfl, by decide, mj_in (i := 119) (by decide +kernel) (by decide +kernel)⟩
theorem fV_46 : mj_F RV_c 46 1 3 := ⟨RV_c, TV_c, 13, rfl, by decide, mj_in (i := 120) (by decide +kernel) (by decide +kernel)⟩
theorem fA_53 : mj_F RA_c 53 1 3 := ⟨RV_c, TV_c, 13, rfl, by decide, mj_in (i := 121) (by decide +kernel) (by decide +kernel)⟩
theorem fR_67 : mj_F RR_c 67 1 3 := ⟨RV_c, TV_c, 13, rfl, by decide, mj_in (i := 122) (by decide +kernel) (by decide +kernel)⟩
theorem fC_174 : mj_F RC_c 174 1 3 := ⟨RV_c, TV_c, 13, rfl, by decide, mj_in (i := 123) (by decide +kernel) (by decide +kernel)⟩
theorem fV_49 : mj_F RV_c 49 1 4 := ⟨RV_c, TV_c, 13, rfl, by decide, mj_in (i := 124) (by decide +kernel) (by decide +kernel)⟩
theorem fA_61 : mj_F RA_c 61 1 4 := ⟨RV_c, TV_c, 13, rfl, by decide, mj_in (i := 125) (by decide +kernel) (by decide +kernel)⟩
theorem fC_183 : mj_F RC_c 183 1 4 := ⟨RV_c, TV_c, 13, rfl, by decide, mj_in (i := 126) (by decide +kernel) (by decide +kernel)⟩
theorem fV_9 : mj_F RV_c 9 1 5 := ⟨RV_c, TV_c, 13, rfl, by decide, mj_in (i := 127) (by decide +kernel) (by decide +kernel)⟩
theorem fA_79 : mj_F RA_c 79 1 5 := ⟨RV_c, TV_c, 13, rfl, by decide, mj_in (i := 128) (by decide +kernel) (by decide +kernel)⟩
theorem fR_74 : mj_F RR_c 74 1 5 := ⟨RV_c, TV_c, 13, rfl, by decide, mj_in (i := 129) (by decide +kernel) (by decide +kernel)⟩
theorem fC_137 : mj_F RC_c 137 1 5 := ⟨RV_c, TV_c, 13, rfl, by decide, mj_in (i := 130) (by decide +kernel) (by decide +kernel)⟩
theorem fV_15 : mj_F RV_c 15 1 6 := ⟨RV_c, TV_c, 13, rfl, by decide, mj_in (i := 131) (by decide +kernel) (by decide +kernel)⟩
theorem fA_86 : mj_F RA_c 86 1 6 := ⟨RV_c, TV_c, 13, rfl, by decide, mj_in (i := 132) (by decide +kernel) (by decide +kernel)⟩
theorem fR_78 : mj_F RR_c 78 1 6 := ⟨RV_c, TV_c, 13, rfl, by decide, mj_in (i := 133) (by decide +kernel) (by decide +kernel)⟩
theorem fC_177 : mj_F RC_c 177 1 6 := ⟨RV_c, TV_c, 13, rfl, by decide, mj_in (i := 134) (by decide +kernel) (by decide +kernel)⟩
theorem fV_18 : mj_F RV_c 18 1 7 := ⟨RV_c, TV_c, 13, rfl, by decide, mj_in (i := 135) (by decide +kernel) (by decide +kernel)⟩
theorem fA_87 : mj_F RA_c 87 1 7 := ⟨RV_c, TV_c, 13, rfl, by decide, mj_in (i := 136) (by decide +kernel) (by decide +kernel)⟩
theorem fR_81 : mj_F RR_c 81 1 7 := ⟨RV_c, TV_c, 13, rfl, by decide, mj_in (i := 137) (by decide +kernel) (by decide +kernel)⟩
theorem fC_349 : mj_F RC_c 349 1 7 := ⟨RV_c, TV_c, 13, rfl, by decide, mj_in (i := 138) (by decide +kernel) (by decide +kernel)⟩
theorem fV_21 : mj_F RV_c 21 1 8 := ⟨RV_c, TV_c, 13, rfl, by decide, mj_in (i := 139) (by decide +kernel) (by decide +kernel)⟩
theorem fA_88 : mj_F RA_c 88 1 8 := ⟨RV_c, TV_c, 13, rfl, by decide, mj_in (i := 140) (by decide +kernel) (by decide +kernel)⟩
theorem fR_84 : mj_F RR_c 84 1 8 := ⟨RV_c, TV_c, 13, rfl, by decide, mj_in (i := 141) (by decide +kernel) (by decide +kernel)⟩
theorem fC_350 : mj_F RC_c 350 1 8 := ⟨RV_c, TV_c, 13, rfl, by decide, mj_in (i := 142) (by decide +kernel) (by decide +kernel)⟩
theorem fV_24 : mj_F RV_c 24 1 9 := ⟨RV_c, TV_c, 13, rfl, by decide, mj_in (i := 143) (by decide +kernel) (by decide +kernel)⟩
theorem fA_89 : mj_F RA_c 89 1 9 := ⟨RV_c, TV_c, 13, rfl, by decide, mj_in (i := 144) (by decide +kernel) (by decide +kernel)⟩
theorem fR_87 : mj_F RR_c 87 1 9 := ⟨RV_c, TV_c, 13, rfl, by decide, mj_in (i := 145) (by decide +kernel) (by decide +kernel)⟩
theorem fC_315 : mj_F RC_c 315 1 9 := ⟨RV_c, TV_c, 13, rfl, by decide, mj_in (i := 146) (by decide +kernel) (by decide +kernel)⟩
theorem fV_27 : mj_F RV_c 27 1 10 := ⟨RV_c, TV_c, 13, rfl, by decide, mj_in (i := 147) (by decide +kernel) (by decide +kernel)⟩
theorem fC_197 : mj_F RC_c 197 1 10 := ⟨RV_c, TV_c, 13, rfl, by decide, mj_in (i := 148) (by decide +kernel) (by decide +kernel)⟩
theorem fV_30 : mj_F RV_c 30 1 11 := ⟨RV_c, TV_c, 13, rfl, by decide, mj_in (i := 149) (by decide +kernel) (by decide +kernel)⟩
theorem fV_33 : mj_F RV_c 33 1 12 := ⟨RV_c, TV_c, 13, rfl, by decide, mj_in (i := 150) (by decide +kernel) (by decide +kernel)⟩
theorem fR_9 : mj_F RR_c 9 2 0 := ⟨RR_c, TR_c, 4, rfl, by decide, mj_in (i := 187) (by decide +kernel) (by decide +kernel)⟩
theorem fR_21 : mj_F RR_c 21 2 1 := ⟨RR_c, TR_c, 4, rfl, by decide, mj_in (i := 188) (by decide +kernel) (by decide +kernel)⟩
theorem fR_25 : mj_F RR_c 25 2 2 := ⟨RR_c, TR_c, 4, rfl, by decide, mj_in (i := 189) (by decide +kernel) (by decide +kernel)⟩
theorem fR_28 : mj_F RR_c 28 2 3 := ⟨RR_c, TR_c, 4, rfl, by decide, mj_in (i := 190) (by decide +kernel) (by decide +kernel)⟩
theorem fA_48 : mj_F RA_c 48 0 0 := ⟨RA_c, TA_c, 17, rfl, by decide, mj_in (i := 206) (by decide +kernel) (by decide +kernel)⟩
theorem fS_59 : mj_F RS_c 59 0 0 := ⟨RA_c, TA_c, 17, rfl, by decide, mj_in (i := 207) (by decide +kernel) (by decide +kernel)⟩
theorem fA_52 : mj_F RA_c 52 0 1 := ⟨RA_c, TA_c, 17, rfl, by decide, mj_in (i := 208) (by decide +kernel) (by decide +kernel)⟩
theorem fA_56 : mj_F RA_c 56 0 2 := ⟨RA_c, TA_c, 17, rfl, by decide, mj_in (i := 209) (by decide +kernel) (by decide +kernel)⟩
theorem fV_58 : mj_F RV_c 58 0 2 := ⟨RA_c, TA_c, 17, rfl, by decide, mj_in (i := 210) (by decide +kernel) (by decide +kernel)⟩
theorem fC_286 : mj_F RC_c 286 0 2 := ⟨RA_c, TA_c, 17, rfl, by decide, mj_in (i := 211) (by decide +kernel) (by decide +kernel)⟩
theorem fA_57 : mj_F RA_c 57 0 3 := ⟨RA_c, TA_c, 17, rfl, by decide, mj_in (i := 212) (by decide +kernel) (by decide +kernel)⟩
theorem fC_231 : mj_F RC_c 231 0 3 := ⟨RA_c, TA_c, 17, rfl, by decide, mj_in (i := 213) (by decide +kernel) (by decide +kernel)⟩
theorem fA_64 : mj_F RA_c 64 0 4 := ⟨RA_c, TA_c, 17, rfl, by decide, mj_in (i := 214) (by decide +kernel) (by decide +kernel)⟩
theorem fV_61 : mj_F RV_c 61 0 4 := ⟨RA_c, TA_c, 17, rfl, by decide, mj_in (i := 215) (by decide +kernel) (by decide +kernel)⟩
theorem fA_69 : mj_F RA_c 69 0 5 := ⟨RA_c, TA_c, 17, rfl, by decide, mj_in (i := 216) (by decide +kernel) (by decide +kernel)⟩
theorem fA_76 : mj_F RA_c 76 0 6 := ⟨RA_c, TA_c, 17, rfl, by decide, mj_in (i := 217) (by decide +kernel) (by decide +kernel)⟩
theorem fC_293 : mj_F RC_c 293 0 6 := ⟨RA_c, TA_c, 17, rfl, by decide, mj_in (i := 218) (by decide +kernel) (by decide +kernel)⟩
theorem fA_9 : mj_F RA_c 9 0 7 := ⟨RA_c, TA_c, 17, rfl, by decide, mj_in (i := 219) (by decide +kernel) (by decide +kernel)⟩
theorem fA_15 : mj_F RA_c 15 0 8 := ⟨RA_c, TA_c, 17, rfl, by decide, mj_in (i := 220) (by decide +kernel) (by decide +kernel)⟩
theorem fV_62 : mj_F RV_c 62 0 8 := ⟨RA_c, TA_c, 17, rfl, by decide, mj_in (i := 221) (by decide +kernel) (by decide +kernel)⟩
theorem fC_306 : mj_F RC_c 306 0 8 := ⟨RA_c, TA_c, 17, rfl, by decide, mj_in (i := 222) (by decide +kernel) (by decide +kernel)⟩
theorem fA_18 : mj_F RA_c 18 0 9 := ⟨RA_c, TA_c, 17, rfl, by decide, mj_in (i := 223) (by decide +kernel) (by decide +kernel)⟩
theorem fA_21 : mj_F RA_c 21 0 10 := ⟨RA_c, TA_c, 17, rfl, by decide, mj_in (i := 224) (by decide +kernel) (by decide +kernel)⟩
theorem fC_299 : mj_F RC_c 299 0 10 := ⟨RA_c, TA_c, 17, rfl, by decide, mj_in (i := 225) (by decide +kernel) (by decide +kernel)⟩
theorem fA_24 : mj_F RA_c 24 0 11 := ⟨RA_c, TA_c, 17, rfl, by decide, mj_in (i := 226) (by decide +kernel) (by decide +kernel)⟩
theorem fA_27 : mj_F RA_c 27 0 12 := ⟨RA_c, TA_c, 17, rfl, by decide, mj_in (i := 227) (by decide +kernel) (by decide +kernel)⟩
theorem fA_30 : mj_F RA_c 30 0 13 := ⟨RA_c, TA_c, 17, rfl, by decide, mj_in (i := 228) (by decide +kernel) (by decide +kernel)⟩
theorem fA_33 : mj_F RA_c 33 0 14 := ⟨RA_c, TA_c, 17, rfl, by decide, mj_in (i := 229) (by decide +kernel) (by decide +kernel)⟩
theorem fA_36 : mj_F RA_c 36 0 15 := ⟨RA_c, TA_c, 17, rfl, by decide, mj_in (i := 230) (by decide +kernel) (by decide +kernel)⟩
theorem fC_250 : mj_F RC_c 250 0 15 := ⟨RA_c, TA_c, 17, rfl, by decide, mj_in (i := 231) (by decide +kernel) (by decide +kernel)⟩
theorem fA_39 : mj_F RA_c 39 0 16 := ⟨RA_c, TA_c, 17, rfl, by decide, mj_in (i := 232) (by decide +kernel) (by decide +kernel)⟩
theorem fS_9 : mj_F RS_c 9 3 0 := ⟨RS_c, TS_c, 6, rfl, by decide, mj_in (i := 274) (by decide +kernel) (by decide +kernel)⟩
theorem fS_18 : mj_F RS_c 18 3 1 := ⟨RS_c, TS_c, 6, rfl, by decide, mj_in (i := 275) (by decide +kernel) (by decide +kernel)⟩
theorem fS_22 : mj_F RS_c 22 3 2 := ⟨RS_c, TS_c, 6, rfl, by decide, mj_in (i := 276) (by decide +kernel) (by decide +kernel)⟩
theorem fS_15 : mj_F RS_c 15 3 3 := ⟨RS_c, TS_c, 6, rfl, by decide, mj_in (i := 277) (by decide +kernel) (by decide +kernel)⟩
theorem fC_256 : mj_F RC_c 256 3 3 := ⟨RS_c, TS_c, 6, rfl, by decide, mj_in (i := 278) (by decide +kernel) (by decide +kernel)⟩
theorem fS_26 : mj_F RS_c 26 3 4 := ⟨RS_c, TS_c, 6, rfl, by decide, mj_in (i := 279) (by decide +kernel) (by decide +kernel)⟩
theorem fC_259 : mj_F RC_c 259 3 4 := ⟨RS_c, TS_c, 6, rfl, by decide, mj_in (i := 280) (by decide +kernel) (by decide +kernel)⟩
theorem fS_39 : mj_F RS_c 39 3 5 := ⟨RS_c, TS_c, 6, rfl, by decide, mj_in (i := 281) (by decide +kernel) (by decide +kernel)⟩
theorem fC_270 : mj_F RC_c 270 3 5 := ⟨RS_c, TS_c, 6, rfl, by decide, mj_in (i := 282) (by decide +kernel) (by decide +kernel)⟩
theorem vC_77 : mj_T RC_c 77 yY_fillI := ⟨mj_in (i := 296) (by decide +kernel) (by decide +kernel), mj_in (i := 297) (by decide +kernel) (by decide +kernel)⟩
theorem fC_11 : mj_F RC_c 11 4 0 := ⟨RC_c, TC_c, 15, rfl, by decide, mj_in (i := 299) (by decide +kernel) (by decide +kernel)⟩
theorem fC_14 : mj_F RC_c 14 4 1 := ⟨RC_c, TC_c, 15, rfl, by decide, mj_in (i := 300) (by decide +kernel) (by decide +kernel)⟩
theorem fC_20 : mj_F RC_c 20 4 2 := ⟨RC_c, TC_c, 15, rfl, by decide, mj_in (i := 301) (by decide +kernel) (by decide +kernel)⟩
theorem fC_23 : mj_F RC_c 23 4 3 := ⟨RC_c, TC_c, 15, rfl, by decide, mj_in (i := 302) (by decide +kernel) (by decide +kernel)⟩
theorem fC_29 : mj_F RC_c 29 4 4 := ⟨RC_c, TC_c, 15, rfl, by decide, mj_in (i := 303) (by decide +kernel) (by decide +kernel)⟩
theorem fC_33 : mj_F RC_c 33 4 5 := ⟨RC_c, TC_c, 15, rfl, by decide, mj_in (i := 304) (by decide +kernel) (by decide +kernel)⟩
theorem fC_36 : mj_F RC_c 36 4 6 := ⟨RC_c, TC_c, 15, rfl, by decide, mj_in (i := 305) (by decide +kernel) (by decide +kernel)⟩
theorem fC_43 : mj_F RC_c 43 4 7 := ⟨RC_c, TC_c, 15, rfl, by decide, mj_in (i := 306) (by decide +kernel) (by decide +kernel)⟩
theorem fC_50 : mj_F RC_c 50 4 8 := ⟨RC_c, TC_c, 15, rfl, by decide, mj_in (i := 307) (by decide +kernel) (by decide +kernel)⟩
theorem fC_57 : mj_F RC_c 57 4 9 := ⟨RC_c, TC_c, 15, rfl, by decide, mj_in (i := 308) (by decide +kernel) (by decide +kernel)⟩
theorem fC_61 : mj_F RC_c 61 4 10 := ⟨RC_c, TC_c, 15, rfl, by decide, mj_in (i := 309) (by decide +kernel) (by decide +kernel)⟩
theorem fC_64 : mj_F RC_c 64 4 11 := ⟨RC_c, TC_c, 15, rfl, by decide, mj_in (i := 310) (by decide +kernel) (by decide +kernel)⟩
theorem fC_67 : mj_F RC_c 67 4 12 := ⟨RC_c, TC_c, 15, rfl, by decide, mj_in (i := 311) (by decide +kernel) (by decide +kernel)⟩
theorem fC_70 : mj_F RC_c 70 4 13 := ⟨RC_c, TC_c, 15, rfl, by decide, mj_in (i := 312) (by decide +kernel) (by decide +kernel)⟩
theorem fC_74 : mj_F RC_c 74 4 14 := ⟨RC_c, TC_c, 15, rfl, by decide, mj_in (i := 313) (by decide +kernel) (by decide +kernel)⟩
theorem vL_13 : mj_V RL_c 13 yC_row := ⟨mj_in (i := 345) (by decide +kernel) (by decide +kernel), mj_in (i := 346) (by decide +kernel) (by decide +kernel), mj_in (i := 347) (by decide +kernel) (by decide +kernel)⟩
theorem vC_83 : mj_T RC_c 83 yC_isRow := ⟨mj_in (i := 349) (by decide +kernel) (by decide +kernel), mj_in (i := 350) (by decide +kernel) (by decide +kernel)⟩
theorem vC_87 : mj_V RC_c 87 yC_found := ⟨mj_in (i := 352) (by decide +kernel) (by decide +kernel), mj_in (i := 354) (by decide +kernel) (by decide +kernel), mj_in (i := 0) (by decide +kernel) (by decide +kernel)⟩
theorem vL_18 : mj_V RL_c 18 yC_lay := ⟨mj_in (i := 356) (by decide +kernel) (by decide +kernel), mj_in (i := 357) (by decide +kernel) (by decide +kernel), mj_in (i := 358) (by decide +kernel) (by decide +kernel)⟩
theorem vC_91 : mj_V RC_c 91 yC_placeRefusal := ⟨mj_in (i := 360) (by decide +kernel) (by decide +kernel), mj_in (i := 362) (by decide +kernel) (by decide +kernel), mj_in (i := 1) (by decide +kernel) (by decide +kernel)⟩
theorem vC_95 : mj_V RC_c 95 yC_rowRefusal := ⟨mj_in (i := 364) (by decide +kernel) (by decide +kernel), mj_in (i := 366) (by decide +kernel) (by decide +kernel), mj_in (i := 2) (by decide +kernel) (by decide +kernel)⟩
theorem vL_23 : mj_V RL_c 23 yC_at := ⟨mj_in (i := 368) (by decide +kernel) (by decide +kernel), mj_in (i := 369) (by decide +kernel) (by decide +kernel), mj_in (i := 370) (by decide +kernel) (by decide +kernel)⟩
theorem vL_27 : mj_V RL_c 27 yC_tear := ⟨mj_in (i := 372) (by decide +kernel) (by decide +kernel), mj_in (i := 373) (by decide +kernel) (by decide +kernel), mj_in (i := 374) (by decide +kernel) (by decide +kernel)⟩
theorem vL_32 : mj_V RL_c 32 yC_copy := ⟨mj_in (i := 376) (by decide +kernel) (by decide +kernel), mj_in (i := 377) (by decide +kernel) (by decide +kernel), mj_in (i := 378) (by decide +kernel) (by decide +kernel)⟩
theorem vC_98 : mj_T RC_c 98 yC_hasPlaces := ⟨mj_in (i := 380) (by decide +kernel) (by decide +kernel), mj_in (i := 381) (by decide +kernel) (by decide +kernel)⟩
theorem vC_102 : Cond.methodLink RC_c 102 arraycopyName ∈ mj_ws := mj_in (i := 383) (by decide +kernel) (by decide +kernel)
theorem vL_37 : mj_V RL_c 37 yC_mean := ⟨mj_in (i := 386) (by decide +kernel) (by decide +kernel), mj_in (i := 387) (by decide +kernel) (by decide +kernel), mj_in (i := 388) (by decide +kernel) (by decide +kernel)⟩
theorem vL_41 : mj_V RL_c 41 yC_text := ⟨mj_in (i := 390) (by decide +kernel) (by decide +kernel), mj_in (i := 391) (by decide +kernel) (by decide +kernel), mj_in (i := 392) (by decide +kernel) (by decide +kernel)⟩
theorem vC_108 : mj_T RC_c 108 yC_isText := ⟨mj_in (i := 394) (by decide +kernel) (by decide +kernel), mj_in (i := 395) (by decide +kernel) (by decide +kernel)⟩
theorem vC_111 : mj_T RC_c 111 yY_fillB := ⟨mj_in (i := 397) (by decide +kernel) (by decide +kernel), mj_in (i := 398) (by decide +kernel) (by decide +kernel)⟩
theorem vL_45 : mj_V RL_c 45 yC_put := ⟨mj_in (i := 400) (by decide +kernel) (by decide +kernel), mj_in (i := 401) (by decide +kernel) (by decide +kernel), mj_in (i := 402) (by decide +kernel) (by decide +kernel)⟩
theorem vC_114 : mj_V RC_c 114 yC_textRefusal := ⟨mj_in (i := 404) (by decide +kernel) (by decide +kernel), mj_in (i := 406) (by decide +kernel) (by decide +kernel), mj_in (i := 3) (by decide +kernel) (by decide +kernel)⟩
theorem vL_49 : mj_V RL_c 49 yC_fault := ⟨mj_in (i := 408) (by decide +kernel) (by decide +kernel), mj_in (i := 409) (by decide +kernel) (by decide +kernel), mj_in (i := 410) (by decide +kernel) (by decide +kernel)⟩
theorem vC_117 : mj_V RC_c 117 yR_read := ⟨mj_in (i := 412) (by decide +kernel) (by decide +kernel), mj_in (i := 413) (by decide +kernel) (by decide +kernel), mj_in (i := 414) (by decide +kernel) (by decide +kernel)⟩
theorem vR_15 : mj_T RR_c 15 Lib.Math.min.name := ⟨mj_in (i := 416) (by decide +kernel) (by decide +kernel), mj_in (i := 417) (by decide +kernel) (by decide +kernel)⟩
theorem vR_31 : mj_V RR_c 31 yV_clear := ⟨mj_in (i := 419) (by decide +kernel) (by decide +kernel), mj_in (i := 420) (by decide +kernel) (by decide +kernel), mj_in (i := 421) (by decide +kernel) (by decide +kernel)⟩
theorem vR_36 : mj_V RR_c 36 yR_readHead := ⟨mj_in (i := 423) (by decide +kernel) (by decide +kernel), mj_in (i := 425) (by decide +kernel) (by decide +kernel), mj_in (i := 4) (by decide +kernel) (by decide +kernel)⟩
theorem vR_40 : mj_V RR_c 40 yR_skipBlanks := ⟨mj_in (i := 427) (by decide +kernel) (by decide +kernel), mj_in (i := 429) (by decide +kernel) (by decide +kernel), mj_in (i := 5) (by decide +kernel) (by decide +kernel)⟩
theorem vR_50 : mj_V RR_c 50 yR_sign := ⟨mj_in (i := 431) (by decide +kernel) (by decide +kernel), mj_in (i := 433) (by decide +kernel) (by decide +kernel), mj_in (i := 6) (by decide +kernel) (by decide +kernel)⟩
theorem vR_54 : mj_V RR_c 54 yR_take := ⟨mj_in (i := 435) (by decide +kernel) (by decide +kernel), mj_in (i := 437) (by decide +kernel) (by decide +kernel), mj_in (i := 7) (by decide +kernel) (by decide +kernel)⟩
theorem vR_61 : mj_V RR_c 61 yR_figure := ⟨mj_in (i := 439) (by decide +kernel) (by decide +kernel), mj_in (i := 441) (by decide +kernel) (by decide +kernel), mj_in (i := 8) (by decide +kernel) (by decide +kernel)⟩
theorem vR_43 : mj_V RR_c 43 yR_readOne := ⟨mj_in (i := 443) (by decide +kernel) (by decide +kernel), mj_in (i := 445) (by decide +kernel) (by decide +kernel), mj_in (i := 9) (by decide +kernel) (by decide +kernel)⟩
theorem vR_70 : mj_T RR_c 70 yR_kindOf := ⟨mj_in (i := 447) (by decide +kernel) (by decide +kernel), mj_in (i := 448) (by decide +kernel) (by decide +kernel)⟩
theorem vL_53 : mj_V RL_c 53 yC_cave := ⟨mj_in (i := 450) (by decide +kernel) (by decide +kernel), mj_in (i := 451) (by decide +kernel) (by decide +kernel), mj_in (i := 452) (by decide +kernel) (by decide +kernel)⟩
theorem vC_121 : mj_V RC_c 121 yV_become := ⟨mj_in (i := 454) (by decide +kernel) (by decide +kernel), mj_in (i := 455) (by decide +kernel) (by decide +kernel), mj_in (i := 456) (by decide +kernel) (by decide +kernel)⟩
theorem vV_52 : Cond.methodLink RV_c 52 arraycopyName ∈ mj_ws := mj_in (i := 458) (by decide +kernel) (by decide +kernel)
theorem vC_125 : mj_V RC_c 125 yC_forgetKept := ⟨mj_in (i := 459) (by decide +kernel) (by decide +kernel), mj_in (i := 461) (by decide +kernel) (by decide +kernel), mj_in (i := 10) (by decide +kernel) (by decide +kernel)⟩
theorem vC_362 : mj_V RC_c 362 yV_clear := ⟨mj_in (i := 463) (by decide +kernel) (by decide +kernel), mj_in (i := 420) (by decide +kernel) (by decide +kernel), mj_in (i := 421) (by decide +kernel) (by decide +kernel)⟩
theorem vL_57 : mj_V RL_c 57 yC_person := ⟨mj_in (i := 464) (by decide +kernel) (by decide +kernel), mj_in (i := 465) (by decide +kernel) (by decide +kernel), mj_in (i := 466) (by decide +kernel) (by decide +kernel)⟩
theorem vC_131 : mj_V RC_c 131 yC_isOne := ⟨mj_in (i := 468) (by decide +kernel) (by decide +kernel), mj_in (i := 470) (by decide +kernel) (by decide +kernel), mj_in (i := 11) (by decide +kernel) (by decide +kernel)⟩
theorem vC_134 : mj_V RC_c 134 yC_ofPerson := ⟨mj_in (i := 472) (by decide +kernel) (by decide +kernel), mj_in (i := 474) (by decide +kernel) (by decide +kernel), mj_in (i := 12) (by decide +kernel) (by decide +kernel)⟩
theorem vC_144 : mj_V RC_c 144 yA_begin := ⟨mj_in (i := 476) (by decide +kernel) (by decide +kernel), mj_in (i := 477) (by decide +kernel) (by decide +kernel), mj_in (i := 478) (by decide +kernel) (by decide +kernel)⟩
theorem vA_65 : mj_V RA_c 65 yV_lastHolder := ⟨mj_in (i := 480) (by decide +kernel) (by decide +kernel), mj_in (i := 481) (by decide +kernel) (by decide +kernel), mj_in (i := 482) (by decide +kernel) (by decide +kernel)⟩
theorem vA_72 : mj_V RA_c 72 yV_bitsOfKind := ⟨mj_in (i := 484) (by decide +kernel) (by decide +kernel), mj_in (i := 485) (by decide +kernel) (by decide +kernel), mj_in (i := 486) (by decide +kernel) (by decide +kernel)⟩
theorem vA_80 : Cond.methodLink RA_c 80 arraycopyName ∈ mj_ws := mj_in (i := 491) (by decide +kernel) (by decide +kernel)
theorem vA_90 : mj_T RA_c 90 yY_fillI := ⟨mj_in (i := 492) (by decide +kernel) (by decide +kernel), mj_in (i := 297) (by decide +kernel) (by decide +kernel)⟩
theorem vA_96 : mj_V RA_c 96 yA_seatTogether := ⟨mj_in (i := 493) (by decide +kernel) (by decide +kernel), mj_in (i := 495) (by decide +kernel) (by decide +kernel), mj_in (i := 13) (by decide +kernel) (by decide +kernel)⟩
theorem vA_103 : mj_V RA_c 103 yA_isHere := ⟨mj_in (i := 497) (by decide +kernel) (by decide +kernel), mj_in (i := 498) (by decide +kernel) (by decide +kernel), mj_in (i := 499) (by decide +kernel) (by decide +kernel)⟩
theorem vA_100 : mj_V RA_c 100 yA_countCalmBeside := ⟨mj_in (i := 501) (by decide +kernel) (by decide +kernel), mj_in (i := 503) (by decide +kernel) (by decide +kernel), mj_in (i := 14) (by decide +kernel) (by decide +kernel)⟩
theorem vA_111 : mj_T RA_c 111 yI_bitCount := ⟨mj_in (i := 506) (by decide +kernel) (by decide +kernel), mj_in (i := 507) (by decide +kernel) (by decide +kernel)⟩
theorem cI_265 : Cond.constant RI_c 265 (1431655765) ∈ mj_ws := mj_in (i := 509) (by decide +kernel) (by decide +kernel)
theorem cI_266 : Cond.constant RI_c 266 (858993459) ∈ mj_ws := mj_in (i := 510) (by decide +kernel) (by decide +kernel)
theorem cI_267 : Cond.constant RI_c 267 (252645135) ∈ mj_ws := mj_in (i := 511) (by decide +kernel) (by decide +kernel)
theorem vC_353 : mj_V RC_c 353 yA_shows := ⟨mj_in (i := 512) (by decide +kernel) (by decide +kernel), mj_in (i := 513) (by decide +kernel) (by decide +kernel), mj_in (i := 514) (by decide +kernel) (by decide +kernel)⟩
theorem vL_61 : mj_V RL_c 61 yC_mark := ⟨mj_in (i := 516) (by decide +kernel) (by decide +kernel), mj_in (i := 517) (by decide +kernel) (by decide +kernel), mj_in (i := 518) (by decide +kernel) (by decide +kernel)⟩
theorem vC_140 : mj_T RC_c 140 yC_isOfKind := ⟨mj_in (i := 520) (by decide +kernel) (by decide +kernel), mj_in (i := 489) (by decide +kernel) (by decide +kernel)⟩
theorem vC_147 : mj_V RC_c 147 yA_bitsBeside := ⟨mj_in (i := 521) (by decide +kernel) (by decide +kernel), mj_in (i := 522) (by decide +kernel) (by decide +kernel), mj_in (i := 523) (by decide +kernel) (by decide +kernel)⟩
theorem vC_150 : mj_T RC_c 150 yI_bitCount := ⟨mj_in (i := 525) (by decide +kernel) (by decide +kernel), mj_in (i := 507) (by decide +kernel) (by decide +kernel)⟩
theorem vC_155 : mj_V RC_c 155 yA_moreAfraid := ⟨mj_in (i := 526) (by decide +kernel) (by decide +kernel), mj_in (i := 527) (by decide +kernel) (by decide +kernel), mj_in (i := 528) (by decide +kernel) (by decide +kernel)⟩
theorem vC_158 : mj_V RC_c 158 yA_bitsOfAll := ⟨mj_in (i := 530) (by decide +kernel) (by decide +kernel), mj_in (i := 531) (by decide +kernel) (by decide +kernel), mj_in (i := 532) (by decide +kernel) (by decide +kernel)⟩
theorem vC_162 : mj_V RC_c 162 yA_singers := ⟨mj_in (i := 534) (by decide +kernel) (by decide +kernel), mj_in (i := 535) (by decide +kernel) (by decide +kernel), mj_in (i := 536) (by decide +kernel) (by decide +kernel)⟩
theorem vC_165 : mj_V RC_c 165 yV_timesHeld := ⟨mj_in (i := 538) (by decide +kernel) (by decide +kernel), mj_in (i := 539) (by decide +kernel) (by decide +kernel), mj_in (i := 540) (by decide +kernel) (by decide +kernel)⟩
theorem vL_65 : mj_V RL_c 65 yC_law := ⟨mj_in (i := 542) (by decide +kernel) (by decide +kernel), mj_in (i := 543) (by decide +kernel) (by decide +kernel), mj_in (i := 544) (by decide +kernel) (by decide +kernel)⟩
theorem vC_168 : mj_T RC_c 168 yC_isLaw := ⟨mj_in (i := 546) (by decide +kernel) (by decide +kernel), mj_in (i := 547) (by decide +kernel) (by decide +kernel)⟩
theorem vL_69 : mj_V RL_c 69 yC_oil := ⟨mj_in (i := 549) (by decide +kernel) (by decide +kernel), mj_in (i := 550) (by decide +kernel) (by decide +kernel), mj_in (i := 551) (by decide +kernel) (by decide +kernel)⟩
theorem vL_73 : mj_V RL_c 73 yC_fear := ⟨mj_in (i := 553) (by decide +kernel) (by decide +kernel), mj_in (i := 554) (by decide +kernel) (by decide +kernel), mj_in (i := 555) (by decide +kernel) (by decide +kernel)⟩
theorem vL_77 : mj_V RL_c 77 yC_minutes := ⟨mj_in (i := 557) (by decide +kernel) (by decide +kernel), mj_in (i := 558) (by decide +kernel) (by decide +kernel), mj_in (i := 559) (by decide +kernel) (by decide +kernel)⟩
theorem vC_180 : mj_T RC_c 180 yC_isSpan := ⟨mj_in (i := 561) (by decide +kernel) (by decide +kernel), mj_in (i := 562) (by decide +kernel) (by decide +kernel)⟩
theorem vC_186 : mj_V RC_c 186 yA_isOver := ⟨mj_in (i := 564) (by decide +kernel) (by decide +kernel), mj_in (i := 565) (by decide +kernel) (by decide +kernel), mj_in (i := 566) (by decide +kernel) (by decide +kernel)⟩
theorem vA_140 : mj_V RA_c 140 yA_whoScream := ⟨mj_in (i := 568) (by decide +kernel) (by decide +kernel), mj_in (i := 569) (by decide +kernel) (by decide +kernel), mj_in (i := 570) (by decide +kernel) (by decide +kernel)⟩
theorem vC_190 : mj_V RC_c 190 yA_byLaw := ⟨mj_in (i := 572) (by decide +kernel) (by decide +kernel), mj_in (i := 573) (by decide +kernel) (by decide +kernel), mj_in (i := 574) (by decide +kernel) (by decide +kernel)⟩
theorem vA_116 : mj_V RA_c 116 yA_bitsBeside := ⟨mj_in (i := 576) (by decide +kernel) (by decide +kernel), mj_in (i := 522) (by decide +kernel) (by decide +kernel), mj_in (i := 523) (by decide +kernel) (by decide +kernel)⟩
theorem vA_119 : mj_V RA_c 119 yA_showsMost := ⟨mj_in (i := 577) (by decide +kernel) (by decide +kernel), mj_in (i := 579) (by decide +kernel) (by decide +kernel), mj_in (i := 15) (by decide +kernel) (by decide +kernel)⟩
theorem vA_125 : mj_V RA_c 125 yA_shows := ⟨mj_in (i := 581) (by decide +kernel) (by decide +kernel), mj_in (i := 513) (by decide +kernel) (by decide +kernel), mj_in (i := 514) (by decide +kernel) (by decide +kernel)⟩
theorem vA_122 : mj_V RA_c 122 yA_bitsOfAll := ⟨mj_in (i := 582) (by decide +kernel) (by decide +kernel), mj_in (i := 531) (by decide +kernel) (by decide +kernel), mj_in (i := 532) (by decide +kernel) (by decide +kernel)⟩
theorem vC_193 : mj_V RC_c 193 yC_passMinute := ⟨mj_in (i := 583) (by decide +kernel) (by decide +kernel), mj_in (i := 585) (by decide +kernel) (by decide +kernel), mj_in (i := 16) (by decide +kernel) (by decide +kernel)⟩
theorem vC_365 : mj_V RC_c 365 yV_remember := ⟨mj_in (i := 587) (by decide +kernel) (by decide +kernel), mj_in (i := 588) (by decide +kernel) (by decide +kernel), mj_in (i := 589) (by decide +kernel) (by decide +kernel)⟩
theorem vC_241 : mj_V RC_c 241 yA_pass := ⟨mj_in (i := 591) (by decide +kernel) (by decide +kernel), mj_in (i := 592) (by decide +kernel) (by decide +kernel), mj_in (i := 593) (by decide +kernel) (by decide +kernel)⟩
theorem vA_128 : mj_V RA_c 128 yA_moreAfraid := ⟨mj_in (i := 595) (by decide +kernel) (by decide +kernel), mj_in (i := 527) (by decide +kernel) (by decide +kernel), mj_in (i := 528) (by decide +kernel) (by decide +kernel)⟩
theorem vA_132 : mj_T RA_c 132 Lib.Math.max.name := ⟨mj_in (i := 596) (by decide +kernel) (by decide +kernel), mj_in (i := 597) (by decide +kernel) (by decide +kernel)⟩
theorem vA_137 : mj_T RA_c 137 Lib.Math.min.name := ⟨mj_in (i := 599) (by decide +kernel) (by decide +kernel), mj_in (i := 417) (by decide +kernel) (by decide +kernel)⟩
theorem vC_209 : mj_V RC_c 209 yV_take := ⟨mj_in (i := 600) (by decide +kernel) (by decide +kernel), mj_in (i := 601) (by decide +kernel) (by decide +kernel), mj_in (i := 602) (by decide +kernel) (by decide +kernel)⟩
theorem vL_81 : mj_V RL_c 81 yC_hand := ⟨mj_in (i := 604) (by decide +kernel) (by decide +kernel), mj_in (i := 605) (by decide +kernel) (by decide +kernel), mj_in (i := 606) (by decide +kernel) (by decide +kernel)⟩
theorem vL_85 : mj_V RL_c 85 yC_next := ⟨mj_in (i := 608) (by decide +kernel) (by decide +kernel), mj_in (i := 609) (by decide +kernel) (by decide +kernel), mj_in (i := 610) (by decide +kernel) (by decide +kernel)⟩
theorem vL_90 : mj_V RL_c 90 yC_had := ⟨mj_in (i := 612) (by decide +kernel) (by decide +kernel), mj_in (i := 613) (by decide +kernel) (by decide +kernel), mj_in (i := 614) (by decide +kernel) (by decide +kernel)⟩
theorem vL_94 : mj_V RL_c 94 yC_undo := ⟨mj_in (i := 616) (by decide +kernel) (by decide +kernel), mj_in (i := 617) (by decide +kernel) (by decide +kernel), mj_in (i := 618) (by decide +kernel) (by decide +kernel)⟩
theorem vC_200 : mj_V RC_c 200 yV_backTo := ⟨mj_in (i := 620) (by decide +kernel) (by decide +kernel), mj_in (i := 621) (by decide +kernel) (by decide +kernel), mj_in (i := 622) (by decide +kernel) (by decide +kernel)⟩
theorem vL_98 : mj_V RL_c 98 yC_over := ⟨mj_in (i := 624) (by decide +kernel) (by decide +kernel), mj_in (i := 625) (by decide +kernel) (by decide +kernel), mj_in (i := 626) (by decide +kernel) (by decide +kernel)⟩
theorem vC_203 : mj_V RC_c 203 yA_whoScream := ⟨mj_in (i := 628) (by decide +kernel) (by decide +kernel), mj_in (i := 569) (by decide +kernel) (by decide +kernel), mj_in (i := 570) (by decide +kernel) (by decide +kernel)⟩
theorem vL_102 : mj_V RL_c 102 yC_story := ⟨mj_in (i := 629) (by decide +kernel) (by decide +kernel), mj_in (i := 630) (by decide +kernel) (by decide +kernel), mj_in (i := 631) (by decide +kernel) (by decide +kernel)⟩
theorem vC_206 : mj_V RC_c 206 yA_tellStory := ⟨mj_in (i := 633) (by decide +kernel) (by decide +kernel), mj_in (i := 634) (by decide +kernel) (by decide +kernel), mj_in (i := 635) (by decide +kernel) (by decide +kernel)⟩
theorem vC_213 : mj_V RC_c 213 yA_fearTogether := ⟨mj_in (i := 637) (by decide +kernel) (by decide +kernel), mj_in (i := 638) (by decide +kernel) (by decide +kernel), mj_in (i := 639) (by decide +kernel) (by decide +kernel)⟩
theorem vL_106 : mj_V RL_c 106 yC_song := ⟨mj_in (i := 641) (by decide +kernel) (by decide +kernel), mj_in (i := 642) (by decide +kernel) (by decide +kernel), mj_in (i := 643) (by decide +kernel) (by decide +kernel)⟩
theorem vC_216 : mj_V RC_c 216 yA_greatestFear := ⟨mj_in (i := 645) (by decide +kernel) (by decide +kernel), mj_in (i := 646) (by decide +kernel) (by decide +kernel), mj_in (i := 647) (by decide +kernel) (by decide +kernel)⟩
theorem vA_157 : mj_V RA_c 157 yA_mostAfraid := ⟨mj_in (i := 649) (by decide +kernel) (by decide +kernel), mj_in (i := 650) (by decide +kernel) (by decide +kernel), mj_in (i := 651) (by decide +kernel) (by decide +kernel)⟩
theorem vC_219 : mj_V RC_c 219 yA_sing := ⟨mj_in (i := 653) (by decide +kernel) (by decide +kernel), mj_in (i := 654) (by decide +kernel) (by decide +kernel), mj_in (i := 655) (by decide +kernel) (by decide +kernel)⟩
theorem vA_160 : mj_V RA_c 160 yA_singers := ⟨mj_in (i := 657) (by decide +kernel) (by decide +kernel), mj_in (i := 535) (by decide +kernel) (by decide +kernel), mj_in (i := 536) (by decide +kernel) (by decide +kernel)⟩
theorem vL_110 : mj_V RL_c 110 yC_keep := ⟨mj_in (i := 658) (by decide +kernel) (by decide +kernel), mj_in (i := 659) (by decide +kernel) (by decide +kernel), mj_in (i := 660) (by decide +kernel) (by decide +kernel)⟩
theorem vC_222 : mj_T RC_c 222 yC_isKeepingPlace := ⟨mj_in (i := 662) (by decide +kernel) (by decide +kernel), mj_in (i := 663) (by decide +kernel) (by decide +kernel)⟩
theorem vL_114 : mj_V RL_c 114 yC_on := ⟨mj_in (i := 665) (by decide +kernel) (by decide +kernel), mj_in (i := 666) (by decide +kernel) (by decide +kernel), mj_in (i := 667) (by decide +kernel) (by decide +kernel)⟩
theorem vL_118 : mj_V RL_c 118 yC_holds := ⟨mj_in (i := 669) (by decide +kernel) (by decide +kernel), mj_in (i := 670) (by decide +kernel) (by decide +kernel), mj_in (i := 671) (by decide +kernel) (by decide +kernel)⟩
theorem vC_225 : mj_V RC_c 225 yA_howLong := ⟨mj_in (i := 673) (by decide +kernel) (by decide +kernel), mj_in (i := 674) (by decide +kernel) (by decide +kernel), mj_in (i := 675) (by decide +kernel) (by decide +kernel)⟩
theorem vA_154 : mj_V RA_c 154 yA_goOn := ⟨mj_in (i := 677) (by decide +kernel) (by decide +kernel), mj_in (i := 678) (by decide +kernel) (by decide +kernel), mj_in (i := 679) (by decide +kernel) (by decide +kernel)⟩
theorem vA_143 : mj_V RA_c 143 yA_isOver := ⟨mj_in (i := 681) (by decide +kernel) (by decide +kernel), mj_in (i := 565) (by decide +kernel) (by decide +kernel), mj_in (i := 566) (by decide +kernel) (by decide +kernel)⟩
theorem vA_147 : mj_V RA_c 147 yA_byLaw := ⟨mj_in (i := 682) (by decide +kernel) (by decide +kernel), mj_in (i := 573) (by decide +kernel) (by decide +kernel), mj_in (i := 574) (by decide +kernel) (by decide +kernel)⟩
theorem vA_150 : mj_V RA_c 150 yA_pass := ⟨mj_in (i := 683) (by decide +kernel) (by decide +kernel), mj_in (i := 592) (by decide +kernel) (by decide +kernel), mj_in (i := 593) (by decide +kernel) (by decide +kernel)⟩
theorem vL_122 : mj_V RL_c 122 yC_best := ⟨mj_in (i := 684) (by decide +kernel) (by decide +kernel), mj_in (i := 685) (by decide +kernel) (by decide +kernel), mj_in (i := 686) (by decide +kernel) (by decide +kernel)⟩
theorem vC_228 : mj_T RC_c 228 yC_isLonger := ⟨mj_in (i := 688) (by decide +kernel) (by decide +kernel), mj_in (i := 689) (by decide +kernel) (by decide +kernel)⟩
theorem vL_126 : mj_V RL_c 126 yC_rest := ⟨mj_in (i := 691) (by decide +kernel) (by decide +kernel), mj_in (i := 692) (by decide +kernel) (by decide +kernel), mj_in (i := 693) (by decide +kernel) (by decide +kernel)⟩
theorem vC_235 : mj_V RC_c 235 yA_isAsSaved := ⟨mj_in (i := 695) (by decide +kernel) (by decide +kernel), mj_in (i := 696) (by decide +kernel) (by decide +kernel), mj_in (i := 697) (by decide +kernel) (by decide +kernel)⟩
theorem vC_238 : mj_V RC_c 238 yA_save := ⟨mj_in (i := 699) (by decide +kernel) (by decide +kernel), mj_in (i := 700) (by decide +kernel) (by decide +kernel), mj_in (i := 701) (by decide +kernel) (by decide +kernel)⟩
theorem vL_130 : mj_V RL_c 130 yC_worst := ⟨mj_in (i := 703) (by decide +kernel) (by decide +kernel), mj_in (i := 704) (by decide +kernel) (by decide +kernel), mj_in (i := 705) (by decide +kernel) (by decide +kernel)⟩
theorem vC_244 : mj_V RC_c 244 yA_goOn := ⟨mj_in (i := 707) (by decide +kernel) (by decide +kernel), mj_in (i := 678) (by decide +kernel) (by decide +kernel), mj_in (i := 679) (by decide +kernel) (by decide +kernel)⟩
theorem vC_247 : mj_V RC_c 247 yA_mostAfraid := ⟨mj_in (i := 708) (by decide +kernel) (by decide +kernel), mj_in (i := 650) (by decide +kernel) (by decide +kernel), mj_in (i := 651) (by decide +kernel) (by decide +kernel)⟩
theorem vL_134 : mj_V RL_c 134 yC_often := ⟨mj_in (i := 709) (by decide +kernel) (by decide +kernel), mj_in (i := 710) (by decide +kernel) (by decide +kernel), mj_in (i := 711) (by decide +kernel) (by decide +kernel)⟩
theorem vL_138 : mj_V RL_c 138 yC_longest := ⟨mj_in (i := 713) (by decide +kernel) (by decide +kernel), mj_in (i := 714) (by decide +kernel) (by decide +kernel), mj_in (i := 715) (by decide +kernel) (by decide +kernel)⟩
theorem vC_253 : mj_V RC_c 253 yS_findLongest := ⟨mj_in (i := 717) (by decide +kernel) (by decide +kernel), mj_in (i := 718) (by decide +kernel) (by decide +kernel), mj_in (i := 719) (by decide +kernel) (by decide +kernel)⟩
theorem vS_29 : mj_V RS_c 29 yS_start := ⟨mj_in (i := 721) (by decide +kernel) (by decide +kernel), mj_in (i := 723) (by decide +kernel) (by decide +kernel), mj_in (i := 17) (by decide +kernel) (by decide +kernel)⟩
theorem vS_42 : mj_V RS_c 42 yA_isOver := ⟨mj_in (i := 725) (by decide +kernel) (by decide +kernel), mj_in (i := 565) (by decide +kernel) (by decide +kernel), mj_in (i := 566) (by decide +kernel) (by decide +kernel)⟩
theorem vS_48 : mj_V RS_c 48 yS_handFrom := ⟨mj_in (i := 726) (by decide +kernel) (by decide +kernel), mj_in (i := 728) (by decide +kernel) (by decide +kernel), mj_in (i := 18) (by decide +kernel) (by decide +kernel)⟩
theorem vS_52 : mj_V RS_c 52 yS_weigh := ⟨mj_in (i := 730) (by decide +kernel) (by decide +kernel), mj_in (i := 732) (by decide +kernel) (by decide +kernel), mj_in (i := 19) (by decide +kernel) (by decide +kernel)⟩
theorem vS_71 : mj_V RS_c 71 yA_greatestFear := ⟨mj_in (i := 734) (by decide +kernel) (by decide +kernel), mj_in (i := 646) (by decide +kernel) (by decide +kernel), mj_in (i := 647) (by decide +kernel) (by decide +kernel)⟩
theorem vS_75 : Cond.methodLink RS_c 75 arraycopyName ∈ mj_ws := mj_in (i := 735) (by decide +kernel) (by decide +kernel)
theorem vS_55 : mj_V RS_c 55 yA_save := ⟨mj_in (i := 736) (by decide +kernel) (by decide +kernel), mj_in (i := 700) (by decide +kernel) (by decide +kernel), mj_in (i := 701) (by decide +kernel) (by decide +kernel)⟩
theorem vS_62 : mj_V RS_c 62 yS_isSettled := ⟨mj_in (i := 737) (by decide +kernel) (by decide +kernel), mj_in (i := 739) (by decide +kernel) (by decide +kernel), mj_in (i := 20) (by decide +kernel) (by decide +kernel)⟩
theorem vS_65 : mj_V RS_c 65 yA_pass := ⟨mj_in (i := 741) (by decide +kernel) (by decide +kernel), mj_in (i := 592) (by decide +kernel) (by decide +kernel), mj_in (i := 593) (by decide +kernel) (by decide +kernel)⟩
theorem vS_68 : mj_V RS_c 68 yA_restore := ⟨mj_in (i := 742) (by decide +kernel) (by decide +kernel), mj_in (i := 743) (by decide +kernel) (by decide +kernel), mj_in (i := 744) (by decide +kernel) (by decide +kernel)⟩
theorem vC_262 : mj_V RC_c 262 yC_fillRow := ⟨mj_in (i := 746) (by decide +kernel) (by decide +kernel), mj_in (i := 748) (by decide +kernel) (by decide +kernel), mj_in (i := 21) (by decide +kernel) (by decide +kernel)⟩
theorem vC_341 : mj_T RC_c 341 Lib.Math.max.name := ⟨mj_in (i := 750) (by decide +kernel) (by decide +kernel), mj_in (i := 597) (by decide +kernel) (by decide +kernel)⟩
theorem vC_346 : mj_T RC_c 346 Lib.Math.min.name := ⟨mj_in (i := 751) (by decide +kernel) (by decide +kernel), mj_in (i := 417) (by decide +kernel) (by decide +kernel)⟩
theorem vL_142 : mj_V RL_c 142 yC_calmest := ⟨mj_in (i := 752) (by decide +kernel) (by decide +kernel), mj_in (i := 753) (by decide +kernel) (by decide +kernel), mj_in (i := 754) (by decide +kernel) (by decide +kernel)⟩
theorem vC_266 : mj_V RC_c 266 yS_findCalmest := ⟨mj_in (i := 756) (by decide +kernel) (by decide +kernel), mj_in (i := 757) (by decide +kernel) (by decide +kernel), mj_in (i := 758) (by decide +kernel) (by decide +kernel)⟩
theorem vS_33 : mj_T RS_c 33 Lib.Math.min.name := ⟨mj_in (i := 760) (by decide +kernel) (by decide +kernel), mj_in (i := 417) (by decide +kernel) (by decide +kernel)⟩
theorem vL_146 : mj_V RL_c 146 yC_order := ⟨mj_in (i := 761) (by decide +kernel) (by decide +kernel), mj_in (i := 762) (by decide +kernel) (by decide +kernel), mj_in (i := 763) (by decide +kernel) (by decide +kernel)⟩
theorem vC_273 : mj_V RC_c 273 yC_sitByNumbers := ⟨mj_in (i := 765) (by decide +kernel) (by decide +kernel), mj_in (i := 767) (by decide +kernel) (by decide +kernel), mj_in (i := 22) (by decide +kernel) (by decide +kernel)⟩
theorem vC_276 : mj_V RC_c 276 yC_holdingAsSeated := ⟨mj_in (i := 769) (by decide +kernel) (by decide +kernel), mj_in (i := 771) (by decide +kernel) (by decide +kernel), mj_in (i := 23) (by decide +kernel) (by decide +kernel)⟩
theorem vC_368 : mj_V RC_c 368 yA_sit := ⟨mj_in (i := 773) (by decide +kernel) (by decide +kernel), mj_in (i := 774) (by decide +kernel) (by decide +kernel), mj_in (i := 775) (by decide +kernel) (by decide +kernel)⟩
theorem vC_279 : mj_V RC_c 279 yC_nextSeating := ⟨mj_in (i := 777) (by decide +kernel) (by decide +kernel), mj_in (i := 779) (by decide +kernel) (by decide +kernel), mj_in (i := 24) (by decide +kernel) (by decide +kernel)⟩
theorem vC_282 : mj_V RC_c 282 yC_exchangeSeats := ⟨mj_in (i := 781) (by decide +kernel) (by decide +kernel), mj_in (i := 783) (by decide +kernel) (by decide +kernel), mj_in (i := 25) (by decide +kernel) (by decide +kernel)⟩
theorem vL_150 : mj_V RL_c 150 yC_swap := ⟨mj_in (i := 785) (by decide +kernel) (by decide +kernel), mj_in (i := 786) (by decide +kernel) (by decide +kernel), mj_in (i := 787) (by decide +kernel) (by decide +kernel)⟩
theorem vL_154 : mj_V RL_c 154 yC_spare := ⟨mj_in (i := 789) (by decide +kernel) (by decide +kernel), mj_in (i := 790) (by decide +kernel) (by decide +kernel), mj_in (i := 791) (by decide +kernel) (by decide +kernel)⟩
theorem vL_158 : mj_V RL_c 158 yC_teller := ⟨mj_in (i := 793) (by decide +kernel) (by decide +kernel), mj_in (i := 794) (by decide +kernel) (by decide +kernel), mj_in (i := 795) (by decide +kernel) (by decide +kernel)⟩
theorem vL_162 : mj_V RL_c 162 yC_judge := ⟨mj_in (i := 797) (by decide +kernel) (by decide +kernel), mj_in (i := 798) (by decide +kernel) (by decide +kernel), mj_in (i := 799) (by decide +kernel) (by decide +kernel)⟩
theorem vC_287 : mj_V RC_c 287 yC_handingsRefusal := ⟨mj_in (i := 801) (by decide +kernel) (by decide +kernel), mj_in (i := 803) (by decide +kernel) (by decide +kernel), mj_in (i := 26) (by decide +kernel) (by decide +kernel)⟩
theorem vL_166 : mj_V RL_c 166 yC_liars := ⟨mj_in (i := 805) (by decide +kernel) (by decide +kernel), mj_in (i := 806) (by decide +kernel) (by decide +kernel), mj_in (i := 807) (by decide +kernel) (by decide +kernel)⟩
theorem vC_290 : mj_V RC_c 290 yV_bitsOfKind := ⟨mj_in (i := 809) (by decide +kernel) (by decide +kernel), mj_in (i := 485) (by decide +kernel) (by decide +kernel), mj_in (i := 486) (by decide +kernel) (by decide +kernel)⟩
theorem vC_296 : mj_V RC_c 296 yC_allByLaw := ⟨mj_in (i := 810) (by decide +kernel) (by decide +kernel), mj_in (i := 812) (by decide +kernel) (by decide +kernel), mj_in (i := 27) (by decide +kernel) (by decide +kernel)⟩
theorem vL_170 : mj_V RL_c 170 yC_grows := ⟨mj_in (i := 814) (by decide +kernel) (by decide +kernel), mj_in (i := 815) (by decide +kernel) (by decide +kernel), mj_in (i := 816) (by decide +kernel) (by decide +kernel)⟩
theorem vC_302 : mj_V RC_c 302 yC_figuresThatFit := ⟨mj_in (i := 818) (by decide +kernel) (by decide +kernel), mj_in (i := 820) (by decide +kernel) (by decide +kernel), mj_in (i := 28) (by decide +kernel) (by decide +kernel)⟩
theorem vL_174 : mj_V RL_c 174 yC_fears := ⟨mj_in (i := 822) (by decide +kernel) (by decide +kernel), mj_in (i := 823) (by decide +kernel) (by decide +kernel), mj_in (i := 824) (by decide +kernel) (by decide +kernel)⟩
theorem vL_178 : mj_V RL_c 178 yC_tell := ⟨mj_in (i := 826) (by decide +kernel) (by decide +kernel), mj_in (i := 827) (by decide +kernel) (by decide +kernel), mj_in (i := 828) (by decide +kernel) (by decide +kernel)⟩
theorem vL_182 : mj_V RL_c 182 yC_visit := ⟨mj_in (i := 830) (by decide +kernel) (by decide +kernel), mj_in (i := 831) (by decide +kernel) (by decide +kernel), mj_in (i := 832) (by decide +kernel) (by decide +kernel)⟩
theorem cC_307 : Cond.constantLong RC_c 307 (2147483647) ∈ mj_ws := mj_in (i := 834) (by decide +kernel) (by decide +kernel)
theorem cC_309 : Cond.constantLong RC_c 309 (48271) ∈ mj_ws := mj_in (i := 835) (by decide +kernel) (by decide +kernel)
theorem vL_186 : mj_V RL_c 186 yC_asked := ⟨mj_in (i := 836) (by decide +kernel) (by decide +kernel), mj_in (i := 837) (by decide +kernel) (by decide +kernel), mj_in (i := 838) (by decide +kernel) (by decide +kernel)⟩
theorem vL_190 : mj_V RL_c 190 yC_upper := ⟨mj_in (i := 840) (by decide +kernel) (by decide +kernel), mj_in (i := 841) (by decide +kernel) (by decide +kernel), mj_in (i := 842) (by decide +kernel) (by decide +kernel)⟩
theorem vC_311 : mj_V RC_c 311 yV_sumOf := ⟨mj_in (i := 844) (by decide +kernel) (by decide +kernel), mj_in (i := 845) (by decide +kernel) (by decide +kernel), mj_in (i := 846) (by decide +kernel) (by decide +kernel)⟩
theorem vC_318 : mj_T RC_c 318 yC_greatestDivisor := ⟨mj_in (i := 848) (by decide +kernel) (by decide +kernel), mj_in (i := 849) (by decide +kernel) (by decide +kernel)⟩
theorem vL_195 : mj_V RL_c 195 yC_lower := ⟨mj_in (i := 851) (by decide +kernel) (by decide +kernel), mj_in (i := 852) (by decide +kernel) (by decide +kernel), mj_in (i := 853) (by decide +kernel) (by decide +kernel)⟩
theorem vL_199 : mj_V RL_c 199 yC_count := ⟨mj_in (i := 855) (by decide +kernel) (by decide +kernel), mj_in (i := 856) (by decide +kernel) (by decide +kernel), mj_in (i := 857) (by decide +kernel) (by decide +kernel)⟩
theorem vC_321 : mj_V RC_c 321 yC_howMany := ⟨mj_in (i := 859) (by decide +kernel) (by decide +kernel), mj_in (i := 861) (by decide +kernel) (by decide +kernel), mj_in (i := 29) (by decide +kernel) (by decide +kernel)⟩
theorem vC_356 : mj_V RC_c 356 yC_keptCaves := ⟨mj_in (i := 863) (by decide +kernel) (by decide +kernel), mj_in (i := 865) (by decide +kernel) (by decide +kernel), mj_in (i := 30) (by decide +kernel) (by decide +kernel)⟩
theorem vC_331 : mj_V RC_c 331 yC_keptMinute := ⟨mj_in (i := 867) (by decide +kernel) (by decide +kernel), mj_in (i := 869) (by decide +kernel) (by decide +kernel), mj_in (i := 31) (by decide +kernel) (by decide +kernel)⟩
theorem vC_359 : mj_T RC_c 359 yC_thereOf := ⟨mj_in (i := 871) (by decide +kernel) (by decide +kernel), mj_in (i := 872) (by decide +kernel) (by decide +kernel)⟩
theorem vL_203 : mj_V RL_c 203 yC_finding := ⟨mj_in (i := 874) (by decide +kernel) (by decide +kernel), mj_in (i := 875) (by decide +kernel) (by decide +kernel), mj_in (i := 876) (by decide +kernel) (by decide +kernel)⟩
theorem vL_207 : mj_V RL_c 207 yC_findings := ⟨mj_in (i := 878) (by decide +kernel) (by decide +kernel), mj_in (i := 879) (by decide +kernel) (by decide +kernel), mj_in (i := 880) (by decide +kernel) (by decide +kernel)⟩
theorem vL_211 : mj_V RL_c 211 yC_digest := ⟨mj_in (i := 882) (by decide +kernel) (by decide +kernel), mj_in (i := 883) (by decide +kernel) (by decide +kernel), mj_in (i := 884) (by decide +kernel) (by decide +kernel)⟩
theorem cC_324 : Cond.constantLong RC_c 324 (17) ∈ mj_ws := mj_in (i := 886) (by decide +kernel) (by decide +kernel)
theorem cC_326 : Cond.constantLong RC_c 326 (31) ∈ mj_ws := mj_in (i := 887) (by decide +kernel) (by decide +kernel)
theorem vC_334 : mj_V RC_c 334 yC_withRows := ⟨mj_in (i := 888) (by decide +kernel) (by decide +kernel), mj_in (i := 890) (by decide +kernel) (by decide +kernel), mj_in (i := 32) (by decide +kernel) (by decide +kernel)⟩
theorem vC_338 : mj_V RC_c 338 yC_withTexts := ⟨mj_in (i := 892) (by decide +kernel) (by decide +kernel), mj_in (i := 894) (by decide +kernel) (by decide +kernel), mj_in (i := 33) (by decide +kernel) (by decide +kernel)⟩
theorem fM_86 : mj_F RM_c 86 5 0 := ⟨RM_c, TM_c, 45, rfl, by decide, mj_in (i := 902) (by decide +kernel) (by decide +kernel)⟩
theorem fM_7 : mj_F RM_c 7 5 1 := ⟨RM_c, TM_c, 45, rfl, by decide, mj_in (i := 903) (by decide +kernel) (by decide +kernel)⟩
theorem fM_89 : mj_F RM_c 89 5 2 := ⟨RM_c, TM_c, 45, rfl, by decide, mj_in (i := 904) (by decide +kernel) (by decide +kernel)⟩
theorem fM_13 : mj_F RM_c 13 5 3 := ⟨RM_c, TM_c, 45, rfl, by decide, mj_in (i := 905) (by decide +kernel) (by decide +kernel)⟩
theorem fM_16 : mj_F RM_c 16 5 4 := ⟨RM_c, TM_c, 45, rfl, by decide, mj_in (i := 906) (by decide +kernel) (by decide +kernel)⟩
theorem fM_19 : mj_F RM_c 19 5 5 := ⟨RM_c, TM_c, 45, rfl, by decide, mj_in (i := 907) (by decide +kernel) (by decide +kernel)⟩
theorem fM_22 : mj_F RM_c 22 5 6 := ⟨RM_c, TM_c, 45, rfl, by decide, mj_in (i := 908) (by decide +kernel) (by decide +kernel)⟩
theorem fM_25 : mj_F RM_c 25 5 7 := ⟨RM_c, TM_c, 45, rfl, by decide, mj_in (i := 909) (by decide +kernel) (by decide +kernel)⟩
theorem fM_161 : mj_F RM_c 161 5 8 := ⟨RM_c, TM_c, 45, rfl, by decide, mj_in (i := 910) (by decide +kernel) (by decide +kernel)⟩
theorem fM_164 : mj_F RM_c 164 5 9 := ⟨RM_c, TM_c, 45, rfl, by decide, mj_in (i := 911) (by decide +kernel) (by decide +kernel)⟩
theorem fM_167 : mj_F RM_c 167 5 10 := ⟨RM_c, TM_c, 45, rfl, by decide, mj_in (i := 912) (by decide +kernel) (by decide +kernel)⟩
theorem fM_170 : mj_F RM_c 170 5 11 := ⟨RM_c, TM_c, 45, rfl, by decide, mj_in (i := 913) (by decide +kernel) (by decide +kernel)⟩
theorem fM_28 : mj_F RM_c 28 5 12 := ⟨RM_c, TM_c, 45, rfl, by decide, mj_in (i := 914) (by decide +kernel) (by decide +kernel)⟩
theorem fM_31 : mj_F RM_c 31 5 13 := ⟨RM_c, TM_c, 45, rfl, by decide, mj_in (i := 915) (by decide +kernel) (by decide +kernel)⟩
theorem fM_34 : mj_F RM_c 34 5 14 := ⟨RM_c, TM_c, 45, rfl, by decide, mj_in (i := 916) (by decide +kernel) (by decide +kernel)⟩
theorem fM_37 : mj_F RM_c 37 5 15 := ⟨RM_c, TM_c, 45, rfl, by decide, mj_in (i := 917) (by decide +kernel) (by decide +kernel)⟩
theorem fM_40 : mj_F RM_c 40 5 16 := ⟨RM_c, TM_c, 45, rfl, by decide, mj_in (i := 918) (by decide +kernel) (by decide +kernel)⟩
theorem fM_127 : mj_F RM_c 127 5 17 := ⟨RM_c, TM_c, 45, rfl, by decide, mj_in (i := 919) (by decide +kernel) (by decide +kernel)⟩
theorem fM_149 : mj_F RM_c 149 5 18 := ⟨RM_c, TM_c, 45, rfl, by decide, mj_in (i := 920) (by decide +kernel) (by decide +kernel)⟩
theorem fM_137 : mj_F RM_c 137 5 19 := ⟨RM_c, TM_c, 45, rfl, by decide, mj_in (i := 921) (by decide +kernel) (by decide +kernel)⟩
theorem fM_140 : mj_F RM_c 140 5 20 := ⟨RM_c, TM_c, 45, rfl, by decide, mj_in (i := 922) (by decide +kernel) (by decide +kernel)⟩
theorem fM_143 : mj_F RM_c 143 5 21 := ⟨RM_c, TM_c, 45, rfl, by decide, mj_in (i := 923) (by decide +kernel) (by decide +kernel)⟩
theorem fM_43 : mj_F RM_c 43 5 22 := ⟨RM_c, TM_c, 45, rfl, by decide, mj_in (i := 924) (by decide +kernel) (by decide +kernel)⟩
theorem fM_47 : mj_F RM_c 47 5 23 := ⟨RM_c, TM_c, 45, rfl, by decide, mj_in (i := 925) (by decide +kernel) (by decide +kernel)⟩
theorem fM_173 : mj_F RM_c 173 5 24 := ⟨RM_c, TM_c, 45, rfl, by decide, mj_in (i := 926) (by decide +kernel) (by decide +kernel)⟩
theorem fM_50 : mj_F RM_c 50 5 25 := ⟨RM_c, TM_c, 45, rfl, by decide, mj_in (i := 927) (by decide +kernel) (by decide +kernel)⟩
theorem fM_53 : mj_F RM_c 53 5 26 := ⟨RM_c, TM_c, 45, rfl, by decide, mj_in (i := 928) (by decide +kernel) (by decide +kernel)⟩
theorem fM_56 : mj_F RM_c 56 5 27 := ⟨RM_c, TM_c, 45, rfl, by decide, mj_in (i := 929) (by decide +kernel) (by decide +kernel)⟩
theorem fM_59 : mj_F RM_c 59 5 28 := ⟨RM_c, TM_c, 45, rfl, by decide, mj_in (i := 930) (by decide +kernel) (by decide +kernel)⟩
theorem fM_62 : mj_F RM_c 62 5 29 := ⟨RM_c, TM_c, 45, rfl, by decide, mj_in (i := 931) (by decide +kernel) (by decide +kernel)⟩
theorem fM_65 : mj_F RM_c 65 5 30 := ⟨RM_c, TM_c, 45, rfl, by decide, mj_in (i := 932) (by decide +kernel) (by decide +kernel)⟩
theorem fM_225 : mj_F RM_c 225 5 31 := ⟨RM_c, TM_c, 45, rfl, by decide, mj_in (i := 933) (by decide +kernel) (by decide +kernel)⟩
theorem fM_68 : mj_F RM_c 68 5 32 := ⟨RM_c, TM_c, 45, rfl, by decide, mj_in (i := 934) (by decide +kernel) (by decide +kernel)⟩
theorem fM_244 : mj_F RM_c 244 5 33 := ⟨RM_c, TM_c, 45, rfl, by decide, mj_in (i := 935) (by decide +kernel) (by decide +kernel)⟩
theorem fM_71 : mj_F RM_c 71 5 34 := ⟨RM_c, TM_c, 45, rfl, by decide, mj_in (i := 936) (by decide +kernel) (by decide +kernel)⟩
theorem fM_74 : mj_F RM_c 74 5 35 := ⟨RM_c, TM_c, 45, rfl, by decide, mj_in (i := 937) (by decide +kernel) (by decide +kernel)⟩
theorem fM_77 : mj_F RM_c 77 5 36 := ⟨RM_c, TM_c, 45, rfl, by decide, mj_in (i := 938) (by decide +kernel) (by decide +kernel)⟩
theorem fM_257 : mj_F RM_c 257 5 37 := ⟨RM_c, TM_c, 45, rfl, by decide, mj_in (i := 939) (by decide +kernel) (by decide +kernel)⟩
theorem fM_278 : mj_F RM_c 278 5 38 := ⟨RM_c, TM_c, 45, rfl, by decide, mj_in (i := 940) (by decide +kernel) (by decide +kernel)⟩
theorem fM_80 : mj_F RM_c 80 5 39 := ⟨RM_c, TM_c, 45, rfl, by decide, mj_in (i := 941) (by decide +kernel) (by decide +kernel)⟩
theorem fM_83 : mj_F RM_c 83 5 40 := ⟨RM_c, TM_c, 45, rfl, by decide, mj_in (i := 942) (by decide +kernel) (by decide +kernel)⟩
theorem fM_291 : mj_F RM_c 291 5 41 := ⟨RM_c, TM_c, 45, rfl, by decide, mj_in (i := 943) (by decide +kernel) (by decide +kernel)⟩
theorem fM_287 : mj_F RM_c 287 5 42 := ⟨RM_c, TM_c, 45, rfl, by decide, mj_in (i := 944) (by decide +kernel) (by decide +kernel)⟩
theorem fM_297 : mj_F RM_c 297 5 43 := ⟨RM_c, TM_c, 45, rfl, by decide, mj_in (i := 945) (by decide +kernel) (by decide +kernel)⟩
theorem fM_325 : mj_F RM_c 325 5 44 := ⟨RM_c, TM_c, 45, rfl, by decide, mj_in (i := 946) (by decide +kernel) (by decide +kernel)⟩
theorem vL_17 : mj_V RL_c 17 yM_row := ⟨mj_in (i := 1038) (by decide +kernel) (by decide +kernel), mj_in (i := 1039) (by decide +kernel) (by decide +kernel), mj_in (i := 1040) (by decide +kernel) (by decide +kernel)⟩
theorem vM_96 : mj_T RM_c 96 yM_isRow := ⟨mj_in (i := 1042) (by decide +kernel) (by decide +kernel), mj_in (i := 1043) (by decide +kernel) (by decide +kernel)⟩
theorem vM_92 : mj_T RM_c 92 yM_in := ⟨mj_in (i := 1045) (by decide +kernel) (by decide +kernel), mj_in (i := 1046) (by decide +kernel) (by decide +kernel)⟩
theorem vM_100 : mj_V RM_c 100 yM_meet := ⟨mj_in (i := 1048) (by decide +kernel) (by decide +kernel), mj_in (i := 1050) (by decide +kernel) (by decide +kernel), mj_in (i := 34) (by decide +kernel) (by decide +kernel)⟩
theorem vM_107 : mj_V RM_c 107 yM_setRow := ⟨mj_in (i := 1052) (by decide +kernel) (by decide +kernel), mj_in (i := 1054) (by decide +kernel) (by decide +kernel), mj_in (i := 35) (by decide +kernel) (by decide +kernel)⟩
theorem vL_26 : mj_V RL_c 26 yM_at := ⟨mj_in (i := 1056) (by decide +kernel) (by decide +kernel), mj_in (i := 1057) (by decide +kernel) (by decide +kernel), mj_in (i := 1058) (by decide +kernel) (by decide +kernel)⟩
theorem vM_111 : mj_V RM_c 111 yM_askedRow := ⟨mj_in (i := 1060) (by decide +kernel) (by decide +kernel), mj_in (i := 1062) (by decide +kernel) (by decide +kernel), mj_in (i := 36) (by decide +kernel) (by decide +kernel)⟩
theorem vM_114 : mj_V RM_c 114 yM_rowAt := ⟨mj_in (i := 1064) (by decide +kernel) (by decide +kernel), mj_in (i := 1066) (by decide +kernel) (by decide +kernel), mj_in (i := 37) (by decide +kernel) (by decide +kernel)⟩
theorem vM_118 : mj_V RM_c 118 yM_ask := ⟨mj_in (i := 1068) (by decide +kernel) (by decide +kernel), mj_in (i := 1070) (by decide +kernel) (by decide +kernel), mj_in (i := 38) (by decide +kernel) (by decide +kernel)⟩
theorem vL_22 : mj_V RL_c 22 yM_lay := ⟨mj_in (i := 1072) (by decide +kernel) (by decide +kernel), mj_in (i := 1073) (by decide +kernel) (by decide +kernel), mj_in (i := 1074) (by decide +kernel) (by decide +kernel)⟩
theorem vM_121 : mj_V RM_c 121 yM_at := ⟨mj_in (i := 1076) (by decide +kernel) (by decide +kernel), mj_in (i := 1057) (by decide +kernel) (by decide +kernel), mj_in (i := 1058) (by decide +kernel) (by decide +kernel)⟩
theorem vL_31 : mj_V RL_c 31 yM_tear := ⟨mj_in (i := 1077) (by decide +kernel) (by decide +kernel), mj_in (i := 1078) (by decide +kernel) (by decide +kernel), mj_in (i := 1079) (by decide +kernel) (by decide +kernel)⟩
theorem vL_36 : mj_V RL_c 36 yM_copy := ⟨mj_in (i := 1081) (by decide +kernel) (by decide +kernel), mj_in (i := 1082) (by decide +kernel) (by decide +kernel), mj_in (i := 1083) (by decide +kernel) (by decide +kernel)⟩
theorem vL_40 : mj_V RL_c 40 yM_mean := ⟨mj_in (i := 1085) (by decide +kernel) (by decide +kernel), mj_in (i := 1086) (by decide +kernel) (by decide +kernel), mj_in (i := 1087) (by decide +kernel) (by decide +kernel)⟩
theorem vL_44 : mj_V RL_c 44 yM_text := ⟨mj_in (i := 1089) (by decide +kernel) (by decide +kernel), mj_in (i := 1090) (by decide +kernel) (by decide +kernel), mj_in (i := 1091) (by decide +kernel) (by decide +kernel)⟩
theorem vM_104 : mj_T RM_c 104 yM_isText := ⟨mj_in (i := 1093) (by decide +kernel) (by decide +kernel), mj_in (i := 1094) (by decide +kernel) (by decide +kernel)⟩
theorem vL_48 : mj_V RL_c 48 yM_put := ⟨mj_in (i := 1096) (by decide +kernel) (by decide +kernel), mj_in (i := 1097) (by decide +kernel) (by decide +kernel), mj_in (i := 1098) (by decide +kernel) (by decide +kernel)⟩
theorem vM_124 : mj_V RM_c 124 yM_askedText := ⟨mj_in (i := 1100) (by decide +kernel) (by decide +kernel), mj_in (i := 1102) (by decide +kernel) (by decide +kernel), mj_in (i := 39) (by decide +kernel) (by decide +kernel)⟩
theorem vL_52 : mj_V RL_c 52 yM_fault := ⟨mj_in (i := 1104) (by decide +kernel) (by decide +kernel), mj_in (i := 1105) (by decide +kernel) (by decide +kernel), mj_in (i := 1106) (by decide +kernel) (by decide +kernel)⟩
theorem vM_158 : mj_V RM_c 158 yM_goesOn := ⟨mj_in (i := 1108) (by decide +kernel) (by decide +kernel), mj_in (i := 1110) (by decide +kernel) (by decide +kernel), mj_in (i := 40) (by decide +kernel) (by decide +kernel)⟩
theorem vM_130 : mj_V RM_c 130 yM_here := ⟨mj_in (i := 1112) (by decide +kernel) (by decide +kernel), mj_in (i := 1114) (by decide +kernel) (by decide +kernel), mj_in (i := 41) (by decide +kernel) (by decide +kernel)⟩
theorem vM_152 : mj_V RM_c 152 yM_readsHead := ⟨mj_in (i := 1116) (by decide +kernel) (by decide +kernel), mj_in (i := 1118) (by decide +kernel) (by decide +kernel), mj_in (i := 42) (by decide +kernel) (by decide +kernel)⟩
theorem vM_133 : mj_V RM_c 133 yM_figure := ⟨mj_in (i := 1120) (by decide +kernel) (by decide +kernel), mj_in (i := 1122) (by decide +kernel) (by decide +kernel), mj_in (i := 43) (by decide +kernel) (by decide +kernel)⟩
theorem vM_155 : mj_V RM_c 155 yM_readsPerson := ⟨mj_in (i := 1124) (by decide +kernel) (by decide +kernel), mj_in (i := 1126) (by decide +kernel) (by decide +kernel), mj_in (i := 44) (by decide +kernel) (by decide +kernel)⟩
theorem vM_146 : mj_T RM_c 146 yM_kindOf := ⟨mj_in (i := 1128) (by decide +kernel) (by decide +kernel), mj_in (i := 1129) (by decide +kernel) (by decide +kernel)⟩
theorem vL_56 : mj_V RL_c 56 yM_cave := ⟨mj_in (i := 1131) (by decide +kernel) (by decide +kernel), mj_in (i := 1132) (by decide +kernel) (by decide +kernel), mj_in (i := 1133) (by decide +kernel) (by decide +kernel)⟩
theorem vL_60 : mj_V RL_c 60 yM_person := ⟨mj_in (i := 1135) (by decide +kernel) (by decide +kernel), mj_in (i := 1136) (by decide +kernel) (by decide +kernel), mj_in (i := 1137) (by decide +kernel) (by decide +kernel)⟩
theorem vM_183 : mj_V RM_c 183 yM_isOne := ⟨mj_in (i := 1139) (by decide +kernel) (by decide +kernel), mj_in (i := 1141) (by decide +kernel) (by decide +kernel), mj_in (i := 45) (by decide +kernel) (by decide +kernel)⟩
theorem vM_186 : mj_V RM_c 186 yM_personOf := ⟨mj_in (i := 1143) (by decide +kernel) (by decide +kernel), mj_in (i := 1145) (by decide +kernel) (by decide +kernel), mj_in (i := 46) (by decide +kernel) (by decide +kernel)⟩
theorem vM_180 : mj_V RM_c 180 yM_showsOf := ⟨mj_in (i := 1147) (by decide +kernel) (by decide +kernel), mj_in (i := 1149) (by decide +kernel) (by decide +kernel), mj_in (i := 47) (by decide +kernel) (by decide +kernel)⟩
theorem vM_176 : mj_T RM_c 176 yM_has := ⟨mj_in (i := 1151) (by decide +kernel) (by decide +kernel), mj_in (i := 1152) (by decide +kernel) (by decide +kernel)⟩
theorem vL_64 : mj_V RL_c 64 yM_mark := ⟨mj_in (i := 1154) (by decide +kernel) (by decide +kernel), mj_in (i := 1155) (by decide +kernel) (by decide +kernel), mj_in (i := 1156) (by decide +kernel) (by decide +kernel)⟩
theorem vM_189 : mj_V RM_c 189 yM_isCalm := ⟨mj_in (i := 1158) (by decide +kernel) (by decide +kernel), mj_in (i := 1160) (by decide +kernel) (by decide +kernel), mj_in (i := 48) (by decide +kernel) (by decide +kernel)⟩
theorem vM_192 : mj_V RM_c 192 yM_isBeside := ⟨mj_in (i := 1162) (by decide +kernel) (by decide +kernel), mj_in (i := 1164) (by decide +kernel) (by decide +kernel), mj_in (i := 49) (by decide +kernel) (by decide +kernel)⟩
theorem vL_68 : mj_V RL_c 68 yM_law := ⟨mj_in (i := 1166) (by decide +kernel) (by decide +kernel), mj_in (i := 1167) (by decide +kernel) (by decide +kernel), mj_in (i := 1168) (by decide +kernel) (by decide +kernel)⟩
theorem vL_72 : mj_V RL_c 72 yM_oil := ⟨mj_in (i := 1170) (by decide +kernel) (by decide +kernel), mj_in (i := 1171) (by decide +kernel) (by decide +kernel), mj_in (i := 1172) (by decide +kernel) (by decide +kernel)⟩
theorem vL_76 : mj_V RL_c 76 yM_fear := ⟨mj_in (i := 1174) (by decide +kernel) (by decide +kernel), mj_in (i := 1175) (by decide +kernel) (by decide +kernel), mj_in (i := 1176) (by decide +kernel) (by decide +kernel)⟩
theorem vL_80 : mj_V RL_c 80 yM_minutes := ⟨mj_in (i := 1178) (by decide +kernel) (by decide +kernel), mj_in (i := 1179) (by decide +kernel) (by decide +kernel), mj_in (i := 1180) (by decide +kernel) (by decide +kernel)⟩
theorem vM_206 : mj_V RM_c 206 yM_isOver := ⟨mj_in (i := 1182) (by decide +kernel) (by decide +kernel), mj_in (i := 1184) (by decide +kernel) (by decide +kernel), mj_in (i := 50) (by decide +kernel) (by decide +kernel)⟩
theorem vM_198 : mj_V RM_c 198 yM_screaming := ⟨mj_in (i := 1186) (by decide +kernel) (by decide +kernel), mj_in (i := 1188) (by decide +kernel) (by decide +kernel), mj_in (i := 51) (by decide +kernel) (by decide +kernel)⟩
theorem vM_210 : mj_V RM_c 210 yM_nextBy := ⟨mj_in (i := 1190) (by decide +kernel) (by decide +kernel), mj_in (i := 1192) (by decide +kernel) (by decide +kernel), mj_in (i := 52) (by decide +kernel) (by decide +kernel)⟩
theorem vM_195 : mj_V RM_c 195 yM_mostOf := ⟨mj_in (i := 1194) (by decide +kernel) (by decide +kernel), mj_in (i := 1196) (by decide +kernel) (by decide +kernel), mj_in (i := 53) (by decide +kernel) (by decide +kernel)⟩
theorem vM_213 : mj_V RM_c 213 yM_goMinute := ⟨mj_in (i := 1198) (by decide +kernel) (by decide +kernel), mj_in (i := 1200) (by decide +kernel) (by decide +kernel), mj_in (i := 54) (by decide +kernel) (by decide +kernel)⟩
theorem vM_202 : mj_V RM_c 202 yM_passMinute := ⟨mj_in (i := 1202) (by decide +kernel) (by decide +kernel), mj_in (i := 1204) (by decide +kernel) (by decide +kernel), mj_in (i := 55) (by decide +kernel) (by decide +kernel)⟩
theorem vL_84 : mj_V RL_c 84 yM_hand := ⟨mj_in (i := 1206) (by decide +kernel) (by decide +kernel), mj_in (i := 1207) (by decide +kernel) (by decide +kernel), mj_in (i := 1208) (by decide +kernel) (by decide +kernel)⟩
theorem vL_89 : mj_V RL_c 89 yM_next := ⟨mj_in (i := 1210) (by decide +kernel) (by decide +kernel), mj_in (i := 1211) (by decide +kernel) (by decide +kernel), mj_in (i := 1212) (by decide +kernel) (by decide +kernel)⟩
theorem vL_93 : mj_V RL_c 93 yM_had := ⟨mj_in (i := 1214) (by decide +kernel) (by decide +kernel), mj_in (i := 1215) (by decide +kernel) (by decide +kernel), mj_in (i := 1216) (by decide +kernel) (by decide +kernel)⟩
theorem vL_97 : mj_V RL_c 97 yM_undo := ⟨mj_in (i := 1218) (by decide +kernel) (by decide +kernel), mj_in (i := 1219) (by decide +kernel) (by decide +kernel), mj_in (i := 1220) (by decide +kernel) (by decide +kernel)⟩
theorem vL_101 : mj_V RL_c 101 yM_over := ⟨mj_in (i := 1222) (by decide +kernel) (by decide +kernel), mj_in (i := 1223) (by decide +kernel) (by decide +kernel), mj_in (i := 1224) (by decide +kernel) (by decide +kernel)⟩
theorem vL_105 : mj_V RL_c 105 yM_story := ⟨mj_in (i := 1226) (by decide +kernel) (by decide +kernel), mj_in (i := 1227) (by decide +kernel) (by decide +kernel), mj_in (i := 1228) (by decide +kernel) (by decide +kernel)⟩
theorem vM_216 : mj_V RM_c 216 yM_tellStory := ⟨mj_in (i := 1230) (by decide +kernel) (by decide +kernel), mj_in (i := 1232) (by decide +kernel) (by decide +kernel), mj_in (i := 56) (by decide +kernel) (by decide +kernel)⟩
theorem vM_219 : mj_V RM_c 219 yM_allFears := ⟨mj_in (i := 1234) (by decide +kernel) (by decide +kernel), mj_in (i := 1236) (by decide +kernel) (by decide +kernel), mj_in (i := 57) (by decide +kernel) (by decide +kernel)⟩
theorem vL_109 : mj_V RL_c 109 yM_song := ⟨mj_in (i := 1238) (by decide +kernel) (by decide +kernel), mj_in (i := 1239) (by decide +kernel) (by decide +kernel), mj_in (i := 1240) (by decide +kernel) (by decide +kernel)⟩
theorem vL_113 : mj_V RL_c 113 yM_keep := ⟨mj_in (i := 1242) (by decide +kernel) (by decide +kernel), mj_in (i := 1243) (by decide +kernel) (by decide +kernel), mj_in (i := 1244) (by decide +kernel) (by decide +kernel)⟩
theorem vL_117 : mj_V RL_c 117 yM_on := ⟨mj_in (i := 1246) (by decide +kernel) (by decide +kernel), mj_in (i := 1247) (by decide +kernel) (by decide +kernel), mj_in (i := 1248) (by decide +kernel) (by decide +kernel)⟩
theorem vL_121 : mj_V RL_c 121 yM_holds := ⟨mj_in (i := 1250) (by decide +kernel) (by decide +kernel), mj_in (i := 1251) (by decide +kernel) (by decide +kernel), mj_in (i := 1252) (by decide +kernel) (by decide +kernel)⟩
theorem vM_231 : mj_V RM_c 231 yM_holdsOf := ⟨mj_in (i := 1254) (by decide +kernel) (by decide +kernel), mj_in (i := 1256) (by decide +kernel) (by decide +kernel), mj_in (i := 58) (by decide +kernel) (by decide +kernel)⟩
theorem vM_222 : mj_V RM_c 222 yM_putAside := ⟨mj_in (i := 1258) (by decide +kernel) (by decide +kernel), mj_in (i := 1260) (by decide +kernel) (by decide +kernel), mj_in (i := 59) (by decide +kernel) (by decide +kernel)⟩
theorem vM_228 : mj_V RM_c 228 yM_comeBack := ⟨mj_in (i := 1262) (by decide +kernel) (by decide +kernel), mj_in (i := 1264) (by decide +kernel) (by decide +kernel), mj_in (i := 60) (by decide +kernel) (by decide +kernel)⟩
theorem vL_125 : mj_V RL_c 125 yM_best := ⟨mj_in (i := 1266) (by decide +kernel) (by decide +kernel), mj_in (i := 1267) (by decide +kernel) (by decide +kernel), mj_in (i := 1268) (by decide +kernel) (by decide +kernel)⟩
theorem vM_235 : mj_T RM_c 235 yM_longBy := ⟨mj_in (i := 1270) (by decide +kernel) (by decide +kernel), mj_in (i := 1271) (by decide +kernel) (by decide +kernel)⟩
theorem cM_234 : Cond.constant RM_c 234 (1048576) ∈ mj_ws := mj_in (i := 1273) (by decide +kernel) (by decide +kernel)
theorem vL_129 : mj_V RL_c 129 yM_rest := ⟨mj_in (i := 1274) (by decide +kernel) (by decide +kernel), mj_in (i := 1275) (by decide +kernel) (by decide +kernel), mj_in (i := 1276) (by decide +kernel) (by decide +kernel)⟩
theorem vM_238 : mj_V RM_c 238 yM_setPast := ⟨mj_in (i := 1278) (by decide +kernel) (by decide +kernel), mj_in (i := 1280) (by decide +kernel) (by decide +kernel), mj_in (i := 61) (by decide +kernel) (by decide +kernel)⟩
theorem vM_241 : mj_V RM_c 241 yM_isPast := ⟨mj_in (i := 1282) (by decide +kernel) (by decide +kernel), mj_in (i := 1284) (by decide +kernel) (by decide +kernel), mj_in (i := 62) (by decide +kernel) (by decide +kernel)⟩
theorem vL_133 : mj_V RL_c 133 yM_worst := ⟨mj_in (i := 1286) (by decide +kernel) (by decide +kernel), mj_in (i := 1287) (by decide +kernel) (by decide +kernel), mj_in (i := 1288) (by decide +kernel) (by decide +kernel)⟩
theorem vM_247 : mj_T RM_c 247 yM_isSpan := ⟨mj_in (i := 1290) (by decide +kernel) (by decide +kernel), mj_in (i := 1291) (by decide +kernel) (by decide +kernel)⟩
theorem vM_250 : mj_V RM_c 250 yM_pass := ⟨mj_in (i := 1293) (by decide +kernel) (by decide +kernel), mj_in (i := 1295) (by decide +kernel) (by decide +kernel), mj_in (i := 63) (by decide +kernel) (by decide +kernel)⟩
theorem vM_254 : mj_V RM_c 254 yM_greatest := ⟨mj_in (i := 1297) (by decide +kernel) (by decide +kernel), mj_in (i := 1299) (by decide +kernel) (by decide +kernel), mj_in (i := 64) (by decide +kernel) (by decide +kernel)⟩
theorem vL_137 : mj_V RL_c 137 yM_often := ⟨mj_in (i := 1301) (by decide +kernel) (by decide +kernel), mj_in (i := 1302) (by decide +kernel) (by decide +kernel), mj_in (i := 1303) (by decide +kernel) (by decide +kernel)⟩
theorem vL_141 : mj_V RL_c 141 yM_longest := ⟨mj_in (i := 1305) (by decide +kernel) (by decide +kernel), mj_in (i := 1306) (by decide +kernel) (by decide +kernel), mj_in (i := 1307) (by decide +kernel) (by decide +kernel)⟩
theorem vM_266 : mj_V RM_c 266 yM_longOn := ⟨mj_in (i := 1309) (by decide +kernel) (by decide +kernel), mj_in (i := 1311) (by decide +kernel) (by decide +kernel), mj_in (i := 65) (by decide +kernel) (by decide +kernel)⟩
theorem vM_260 : mj_V RM_c 260 yM_copyLaid := ⟨mj_in (i := 1313) (by decide +kernel) (by decide +kernel), mj_in (i := 1315) (by decide +kernel) (by decide +kernel), mj_in (i := 66) (by decide +kernel) (by decide +kernel)⟩
theorem vM_263 : mj_V RM_c 263 yM_putDepth := ⟨mj_in (i := 1317) (by decide +kernel) (by decide +kernel), mj_in (i := 1319) (by decide +kernel) (by decide +kernel), mj_in (i := 67) (by decide +kernel) (by decide +kernel)⟩
theorem vM_269 : mj_V RM_c 269 yM_backTo := ⟨mj_in (i := 1321) (by decide +kernel) (by decide +kernel), mj_in (i := 1323) (by decide +kernel) (by decide +kernel), mj_in (i := 68) (by decide +kernel) (by decide +kernel)⟩
theorem vM_275 : mj_V RM_c 275 yM_layBest := ⟨mj_in (i := 1325) (by decide +kernel) (by decide +kernel), mj_in (i := 1327) (by decide +kernel) (by decide +kernel), mj_in (i := 69) (by decide +kernel) (by decide +kernel)⟩
theorem vM_272 : mj_V RM_c 272 yM_row := ⟨mj_in (i := 1329) (by decide +kernel) (by decide +kernel), mj_in (i := 1039) (by decide +kernel) (by decide +kernel), mj_in (i := 1040) (by decide +kernel) (by decide +kernel)⟩
theorem vL_145 : mj_V RL_c 145 yM_calmest := ⟨mj_in (i := 1330) (by decide +kernel) (by decide +kernel), mj_in (i := 1331) (by decide +kernel) (by decide +kernel), mj_in (i := 1332) (by decide +kernel) (by decide +kernel)⟩
theorem vM_281 : mj_V RM_c 281 yM_calmOn := ⟨mj_in (i := 1334) (by decide +kernel) (by decide +kernel), mj_in (i := 1336) (by decide +kernel) (by decide +kernel), mj_in (i := 70) (by decide +kernel) (by decide +kernel)⟩
theorem vL_149 : mj_V RL_c 149 yM_order := ⟨mj_in (i := 1338) (by decide +kernel) (by decide +kernel), mj_in (i := 1339) (by decide +kernel) (by decide +kernel), mj_in (i := 1340) (by decide +kernel) (by decide +kernel)⟩
theorem vM_294 : mj_V RM_c 294 yM_orderOn := ⟨mj_in (i := 1342) (by decide +kernel) (by decide +kernel), mj_in (i := 1344) (by decide +kernel) (by decide +kernel), mj_in (i := 71) (by decide +kernel) (by decide +kernel)⟩
theorem vM_284 : mj_V RM_c 284 yM_holdsSo := ⟨mj_in (i := 1346) (by decide +kernel) (by decide +kernel), mj_in (i := 1348) (by decide +kernel) (by decide +kernel), mj_in (i := 72) (by decide +kernel) (by decide +kernel)⟩
theorem vL_153 : mj_V RL_c 153 yM_swap := ⟨mj_in (i := 1350) (by decide +kernel) (by decide +kernel), mj_in (i := 1351) (by decide +kernel) (by decide +kernel), mj_in (i := 1352) (by decide +kernel) (by decide +kernel)⟩
theorem vL_157 : mj_V RL_c 157 yM_spare := ⟨mj_in (i := 1354) (by decide +kernel) (by decide +kernel), mj_in (i := 1355) (by decide +kernel) (by decide +kernel), mj_in (i := 1356) (by decide +kernel) (by decide +kernel)⟩
theorem vL_161 : mj_V RL_c 161 yM_teller := ⟨mj_in (i := 1358) (by decide +kernel) (by decide +kernel), mj_in (i := 1359) (by decide +kernel) (by decide +kernel), mj_in (i := 1360) (by decide +kernel) (by decide +kernel)⟩
theorem vL_165 : mj_V RL_c 165 yM_judge := ⟨mj_in (i := 1362) (by decide +kernel) (by decide +kernel), mj_in (i := 1363) (by decide +kernel) (by decide +kernel), mj_in (i := 1364) (by decide +kernel) (by decide +kernel)⟩
theorem vM_300 : mj_V RM_c 300 yM_askedHandings := ⟨mj_in (i := 1366) (by decide +kernel) (by decide +kernel), mj_in (i := 1368) (by decide +kernel) (by decide +kernel), mj_in (i := 73) (by decide +kernel) (by decide +kernel)⟩
theorem vM_303 : mj_V RM_c 303 yM_judged := ⟨mj_in (i := 1370) (by decide +kernel) (by decide +kernel), mj_in (i := 1372) (by decide +kernel) (by decide +kernel), mj_in (i := 74) (by decide +kernel) (by decide +kernel)⟩
theorem vL_169 : mj_V RL_c 169 yM_liars := ⟨mj_in (i := 1374) (by decide +kernel) (by decide +kernel), mj_in (i := 1375) (by decide +kernel) (by decide +kernel), mj_in (i := 1376) (by decide +kernel) (by decide +kernel)⟩
theorem vL_173 : mj_V RL_c 173 yM_grows := ⟨mj_in (i := 1378) (by decide +kernel) (by decide +kernel), mj_in (i := 1379) (by decide +kernel) (by decide +kernel), mj_in (i := 1380) (by decide +kernel) (by decide +kernel)⟩
theorem vM_306 : mj_V RM_c 306 yM_askedOf := ⟨mj_in (i := 1382) (by decide +kernel) (by decide +kernel), mj_in (i := 1384) (by decide +kernel) (by decide +kernel), mj_in (i := 75) (by decide +kernel) (by decide +kernel)⟩
theorem vL_177 : mj_V RL_c 177 yM_fears := ⟨mj_in (i := 1386) (by decide +kernel) (by decide +kernel), mj_in (i := 1387) (by decide +kernel) (by decide +kernel), mj_in (i := 1388) (by decide +kernel) (by decide +kernel)⟩
theorem vL_181 : mj_V RL_c 181 yM_tell := ⟨mj_in (i := 1390) (by decide +kernel) (by decide +kernel), mj_in (i := 1391) (by decide +kernel) (by decide +kernel), mj_in (i := 1392) (by decide +kernel) (by decide +kernel)⟩
theorem vL_185 : mj_V RL_c 185 yM_visit := ⟨mj_in (i := 1394) (by decide +kernel) (by decide +kernel), mj_in (i := 1395) (by decide +kernel) (by decide +kernel), mj_in (i := 1396) (by decide +kernel) (by decide +kernel)⟩
theorem cM_309 : Cond.constant RM_c 309 (2147483646) ∈ mj_ws := mj_in (i := 1398) (by decide +kernel) (by decide +kernel)
theorem cM_310 : Cond.constantLong RM_c 310 (48271) ∈ mj_ws := mj_in (i := 1399) (by decide +kernel) (by decide +kernel)
theorem cM_312 : Cond.constantLong RM_c 312 (2147483647) ∈ mj_ws := mj_in (i := 1400) (by decide +kernel) (by decide +kernel)
theorem vL_189 : mj_V RL_c 189 yM_asked := ⟨mj_in (i := 1401) (by decide +kernel) (by decide +kernel), mj_in (i := 1402) (by decide +kernel) (by decide +kernel), mj_in (i := 1403) (by decide +kernel) (by decide +kernel)⟩
theorem vL_194 : mj_V RL_c 194 yM_upper := ⟨mj_in (i := 1405) (by decide +kernel) (by decide +kernel), mj_in (i := 1406) (by decide +kernel) (by decide +kernel), mj_in (i := 1407) (by decide +kernel) (by decide +kernel)⟩
theorem vM_314 : mj_V RM_c 314 yM_allScreams := ⟨mj_in (i := 1409) (by decide +kernel) (by decide +kernel), mj_in (i := 1411) (by decide +kernel) (by decide +kernel), mj_in (i := 76) (by decide +kernel) (by decide +kernel)⟩
theorem vM_317 : mj_T RM_c 317 yM_divisor := ⟨mj_in (i := 1413) (by decide +kernel) (by decide +kernel), mj_in (i := 1414) (by decide +kernel) (by decide +kernel)⟩
theorem vL_198 : mj_V RL_c 198 yM_lower := ⟨mj_in (i := 1416) (by decide +kernel) (by decide +kernel), mj_in (i := 1417) (by decide +kernel) (by decide +kernel), mj_in (i := 1418) (by decide +kernel) (by decide +kernel)⟩
theorem vL_202 : mj_V RL_c 202 yM_count := ⟨mj_in (i := 1420) (by decide +kernel) (by decide +kernel), mj_in (i := 1421) (by decide +kernel) (by decide +kernel), mj_in (i := 1422) (by decide +kernel) (by decide +kernel)⟩
theorem vM_320 : mj_V RM_c 320 yM_tells := ⟨mj_in (i := 1424) (by decide +kernel) (by decide +kernel), mj_in (i := 1426) (by decide +kernel) (by decide +kernel), mj_in (i := 77) (by decide +kernel) (by decide +kernel)⟩
theorem vL_206 : mj_V RL_c 206 yM_finding := ⟨mj_in (i := 1428) (by decide +kernel) (by decide +kernel), mj_in (i := 1429) (by decide +kernel) (by decide +kernel), mj_in (i := 1430) (by decide +kernel) (by decide +kernel)⟩
theorem vL_210 : mj_V RL_c 210 yM_findings := ⟨mj_in (i := 1432) (by decide +kernel) (by decide +kernel), mj_in (i := 1433) (by decide +kernel) (by decide +kernel), mj_in (i := 1434) (by decide +kernel) (by decide +kernel)⟩
theorem vL_214 : mj_V RL_c 214 yM_digest := ⟨mj_in (i := 1436) (by decide +kernel) (by decide +kernel), mj_in (i := 1437) (by decide +kernel) (by decide +kernel), mj_in (i := 1438) (by decide +kernel) (by decide +kernel)⟩
theorem cM_332 : Cond.constantLong RM_c 332 (17) ∈ mj_ws := mj_in (i := 1440) (by decide +kernel) (by decide +kernel)
theorem vM_329 : mj_V RM_c 329 yM_mix := ⟨mj_in (i := 1441) (by decide +kernel) (by decide +kernel), mj_in (i := 1443) (by decide +kernel) (by decide +kernel), mj_in (i := 78) (by decide +kernel) (by decide +kernel)⟩
theorem cM_323 : Cond.constantLong RM_c 323 (31) ∈ mj_ws := mj_in (i := 1445) (by decide +kernel) (by decide +kernel)
theorem vM_334 : mj_V RM_c 334 yM_mixCave := ⟨mj_in (i := 1446) (by decide +kernel) (by decide +kernel), mj_in (i := 1448) (by decide +kernel) (by decide +kernel), mj_in (i := 79) (by decide +kernel) (by decide +kernel)⟩
