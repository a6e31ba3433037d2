theorem dM_passMinute_0 : decode bM_passMinute 0 = .ok (.aload_n 0, 1) := by decide +kernel
theorem dM_passMinute_1 : decode bM_passMinute 1 = .ok (.getfield 170, 3) := by decide +kernel
theorem dM_passMinute_4 : decode bM_passMinute 4 = .ok (.ifCond .le 7, 3) := by decide +kernel
theorem dM_passMinute_7 : decode bM_passMinute 7 = .ok (.iconst 1, 1) := by decide +kernel
theorem dM_passMinute_8 : decode bM_passMinute 8 = .ok (.goto 4, 3) := by decide +kernel
theorem dM_passMinute_11 : decode bM_passMinute 11 = .ok (.iconst 0, 1) := by decide +kernel
theorem dM_passMinute_12 : decode bM_passMinute 12 = .ok (.istore_n 2, 1) := by decide +kernel
theorem dM_passMinute_13 : decode bM_passMinute 13 = .ok (.aload_n 0, 1) := by decide +kernel
theorem dM_passMinute_14 : decode bM_passMinute 14 = .ok (.dup, 1) := by decide +kernel
theorem dM_passMinute_15 : decode bM_passMinute 15 = .ok (.getfield 170, 3) := by decide +kernel
theorem dM_passMinute_18 : decode bM_passMinute 18 = .ok (.iload_n 2, 1) := by decide +kernel
theorem dM_passMinute_19 : decode bM_passMinute 19 = .ok (.ifCond .eq 7, 3) := by decide +kernel
theorem dM_passMinute_22 : decode bM_passMinute 22 = .ok (.iconst 1, 1) := by decide +kernel
theorem dM_passMinute_23 : decode bM_passMinute 23 = .ok (.goto 4, 3) := by decide +kernel
theorem dM_passMinute_26 : decode bM_passMinute 26 = .ok (.iconst 0, 1) := by decide +kernel
theorem dM_passMinute_27 : decode bM_passMinute 27 = .ok (.isub, 1) := by decide +kernel
theorem dM_passMinute_28 : decode bM_passMinute 28 = .ok (.putfield 170, 3) := by decide +kernel
theorem dM_passMinute_31 : decode bM_passMinute 31 = .ok (.iconst 0, 1) := by decide +kernel
theorem dM_passMinute_32 : decode bM_passMinute 32 = .ok (.istore_n 3, 1) := by decide +kernel
theorem dM_passMinute_33 : decode bM_passMinute 33 = .ok (.iload_n 3, 1) := by decide +kernel
theorem dM_passMinute_34 : decode bM_passMinute 34 = .ok (.aload_n 0, 1) := by decide +kernel
theorem dM_passMinute_35 : decode bM_passMinute 35 = .ok (.getfield 161, 3) := by decide +kernel
theorem dM_passMinute_38 : decode bM_passMinute 38 = .ok (.if_icmp .ge 202, 3) := by decide +kernel
theorem dM_passMinute_41 : decode bM_passMinute 41 = .ok (.aload_n 0, 1) := by decide +kernel
theorem dM_passMinute_42 : decode bM_passMinute 42 = .ok (.getfield 31, 3) := by decide +kernel
theorem dM_passMinute_45 : decode bM_passMinute 45 = .ok (.iload_n 3, 1) := by decide +kernel
theorem dM_passMinute_46 : decode bM_passMinute 46 = .ok (.iaload, 1) := by decide +kernel
theorem dM_passMinute_47 : decode bM_passMinute 47 = .ok (.istore 4, 2) := by decide +kernel
theorem dM_passMinute_49 : decode bM_passMinute 49 = .ok (.iconst 0, 1) := by decide +kernel
theorem dM_passMinute_50 : decode bM_passMinute 50 = .ok (.istore 5, 2) := by decide +kernel
theorem dM_passMinute_52 : decode bM_passMinute 52 = .ok (.iconst 0, 1) := by decide +kernel
theorem dM_passMinute_53 : decode bM_passMinute 53 = .ok (.istore 6, 2) := by decide +kernel
theorem dM_passMinute_55 : decode bM_passMinute 55 = .ok (.iconst 0, 1) := by decide +kernel
theorem dM_passMinute_56 : decode bM_passMinute 56 = .ok (.istore 7, 2) := by decide +kernel
theorem dM_passMinute_58 : decode bM_passMinute 58 = .ok (.iload 7, 2) := by decide +kernel
theorem dM_passMinute_60 : decode bM_passMinute 60 = .ok (.aload_n 0, 1) := by decide +kernel
theorem dM_passMinute_61 : decode bM_passMinute 61 = .ok (.getfield 161, 3) := by decide +kernel
theorem dM_passMinute_64 : decode bM_passMinute 64 = .ok (.if_icmp .ge 84, 3) := by decide +kernel
theorem dM_passMinute_67 : decode bM_passMinute 67 = .ok (.iload 5, 2) := by decide +kernel
theorem dM_passMinute_69 : decode bM_passMinute 69 = .ok (.aload_n 0, 1) := by decide +kernel
theorem dM_passMinute_70 : decode bM_passMinute 70 = .ok (.iload_n 3, 1) := by decide +kernel
theorem dM_passMinute_71 : decode bM_passMinute 71 = .ok (.iload 7, 2) := by decide +kernel
theorem dM_passMinute_73 : decode bM_passMinute 73 = .ok (.invokevirtual 192, 3) := by decide +kernel
theorem dM_passMinute_76 : decode bM_passMinute 76 = .ok (.ifCond .eq 16, 3) := by decide +kernel
theorem dM_passMinute_79 : decode bM_passMinute 79 = .ok (.aload_n 0, 1) := by decide +kernel
theorem dM_passMinute_80 : decode bM_passMinute 80 = .ok (.iload 7, 2) := by decide +kernel
theorem dM_passMinute_82 : decode bM_passMinute 82 = .ok (.invokevirtual 189, 3) := by decide +kernel
theorem dM_passMinute_85 : decode bM_passMinute 85 = .ok (.ifCond .eq 7, 3) := by decide +kernel
theorem dM_passMinute_88 : decode bM_passMinute 88 = .ok (.iconst 1, 1) := by decide +kernel
theorem dM_passMinute_89 : decode bM_passMinute 89 = .ok (.goto 4, 3) := by decide +kernel
theorem dM_passMinute_92 : decode bM_passMinute 92 = .ok (.iconst 0, 1) := by decide +kernel
theorem dM_passMinute_93 : decode bM_passMinute 93 = .ok (.iadd, 1) := by decide +kernel
theorem dM_passMinute_94 : decode bM_passMinute 94 = .ok (.istore 5, 2) := by decide +kernel
theorem dM_passMinute_96 : decode bM_passMinute 96 = .ok (.iload 6, 2) := by decide +kernel
theorem dM_passMinute_98 : decode bM_passMinute 98 = .ok (.aload_n 0, 1) := by decide +kernel
theorem dM_passMinute_99 : decode bM_passMinute 99 = .ok (.iload_n 3, 1) := by decide +kernel
theorem dM_passMinute_100 : decode bM_passMinute 100 = .ok (.iload 7, 2) := by decide +kernel
theorem dM_passMinute_102 : decode bM_passMinute 102 = .ok (.invokevirtual 192, 3) := by decide +kernel
theorem dM_passMinute_105 : decode bM_passMinute 105 = .ok (.ifCond .eq 33, 3) := by decide +kernel
theorem dM_passMinute_108 : decode bM_passMinute 108 = .ok (.aload_n 0, 1) := by decide +kernel
theorem dM_passMinute_109 : decode bM_passMinute 109 = .ok (.getfield 31, 3) := by decide +kernel
theorem dM_passMinute_112 : decode bM_passMinute 112 = .ok (.iload 7, 2) := by decide +kernel
theorem dM_passMinute_114 : decode bM_passMinute 114 = .ok (.iaload, 1) := by decide +kernel
theorem dM_passMinute_115 : decode bM_passMinute 115 = .ok (.aload_n 0, 1) := by decide +kernel
theorem dM_passMinute_116 : decode bM_passMinute 116 = .ok (.getfield 31, 3) := by decide +kernel
theorem dM_passMinute_119 : decode bM_passMinute 119 = .ok (.iload_n 3, 1) := by decide +kernel
theorem dM_passMinute_120 : decode bM_passMinute 120 = .ok (.iaload, 1) := by decide +kernel
theorem dM_passMinute_121 : decode bM_passMinute 121 = .ok (.if_icmp .le 17, 3) := by decide +kernel
theorem dM_passMinute_124 : decode bM_passMinute 124 = .ok (.aload_n 0, 1) := by decide +kernel
theorem dM_passMinute_125 : decode bM_passMinute 125 = .ok (.getfield 28, 3) := by decide +kernel
theorem dM_passMinute_128 : decode bM_passMinute 128 = .ok (.iload_n 3, 1) := by decide +kernel
theorem dM_passMinute_129 : decode bM_passMinute 129 = .ok (.iaload, 1) := by decide +kernel
theorem dM_passMinute_130 : decode bM_passMinute 130 = .ok (.iconst 2, 1) := by decide +kernel
theorem dM_passMinute_131 : decode bM_passMinute 131 = .ok (.if_icmp .ne 7, 3) := by decide +kernel
theorem dM_passMinute_134 : decode bM_passMinute 134 = .ok (.iconst 1, 1) := by decide +kernel
theorem dM_passMinute_135 : decode bM_passMinute 135 = .ok (.goto 4, 3) := by decide +kernel
theorem dM_passMinute_138 : decode bM_passMinute 138 = .ok (.iconst 0, 1) := by decide +kernel
theorem dM_passMinute_139 : decode bM_passMinute 139 = .ok (.iadd, 1) := by decide +kernel
theorem dM_passMinute_140 : decode bM_passMinute 140 = .ok (.istore 6, 2) := by decide +kernel
theorem dM_passMinute_142 : decode bM_passMinute 142 = .ok (.iinc 7 1, 3) := by decide +kernel
theorem dM_passMinute_145 : decode bM_passMinute 145 = .ok (.goto (-87), 3) := by decide +kernel
theorem dM_passMinute_148 : decode bM_passMinute 148 = .ok (.iload_n 2, 1) := by decide +kernel
theorem dM_passMinute_149 : decode bM_passMinute 149 = .ok (.ifCond .eq 22, 3) := by decide +kernel
theorem dM_passMinute_152 : decode bM_passMinute 152 = .ok (.iload_n 3, 1) := by decide +kernel
theorem dM_passMinute_153 : decode bM_passMinute 153 = .ok (.iload_n 1, 1) := by decide +kernel
theorem dM_passMinute_154 : decode bM_passMinute 154 = .ok (.if_icmp .ne 17, 3) := by decide +kernel
theorem dM_passMinute_157 : decode bM_passMinute 157 = .ok (.iload 4, 2) := by decide +kernel
theorem dM_passMinute_159 : decode bM_passMinute 159 = .ok (.aload_n 0, 1) := by decide +kernel
theorem dM_passMinute_160 : decode bM_passMinute 160 = .ok (.getfield 37, 3) := by decide +kernel
theorem dM_passMinute_163 : decode bM_passMinute 163 = .ok (.iload_n 3, 1) := by decide +kernel
theorem dM_passMinute_164 : decode bM_passMinute 164 = .ok (.iaload, 1) := by decide +kernel
theorem dM_passMinute_165 : decode bM_passMinute 165 = .ok (.isub, 1) := by decide +kernel
theorem dM_passMinute_166 : decode bM_passMinute 166 = .ok (.istore 4, 2) := by decide +kernel
theorem dM_passMinute_168 : decode bM_passMinute 168 = .ok (.goto 30, 3) := by decide +kernel
theorem dM_passMinute_171 : decode bM_passMinute 171 = .ok (.iload_n 2, 1) := by decide +kernel
theorem dM_passMinute_172 : decode bM_passMinute 172 = .ok (.ifCond .eq 12, 3) := by decide +kernel
theorem dM_passMinute_175 : decode bM_passMinute 175 = .ok (.aload_n 0, 1) := by decide +kernel
theorem dM_passMinute_176 : decode bM_passMinute 176 = .ok (.iload_n 1, 1) := by decide +kernel
theorem dM_passMinute_177 : decode bM_passMinute 177 = .ok (.iload_n 3, 1) := by decide +kernel
theorem dM_passMinute_178 : decode bM_passMinute 178 = .ok (.invokevirtual 192, 3) := by decide +kernel
theorem dM_passMinute_181 : decode bM_passMinute 181 = .ok (.ifCond .ne 17, 3) := by decide +kernel
theorem dM_passMinute_184 : decode bM_passMinute 184 = .ok (.iload 4, 2) := by decide +kernel
theorem dM_passMinute_186 : decode bM_passMinute 186 = .ok (.aload_n 0, 1) := by decide +kernel
theorem dM_passMinute_187 : decode bM_passMinute 187 = .ok (.getfield 34, 3) := by decide +kernel
theorem dM_passMinute_190 : decode bM_passMinute 190 = .ok (.iload_n 3, 1) := by decide +kernel
theorem dM_passMinute_191 : decode bM_passMinute 191 = .ok (.iaload, 1) := by decide +kernel
theorem dM_passMinute_192 : decode bM_passMinute 192 = .ok (.iload 6, 2) := by decide +kernel
theorem dM_passMinute_194 : decode bM_passMinute 194 = .ok (.iadd, 1) := by decide +kernel
theorem dM_passMinute_195 : decode bM_passMinute 195 = .ok (.iadd, 1) := by decide +kernel
theorem dM_passMinute_196 : decode bM_passMinute 196 = .ok (.istore 4, 2) := by decide +kernel
theorem dM_passMinute_198 : decode bM_passMinute 198 = .ok (.iload 4, 2) := by decide +kernel
theorem dM_passMinute_200 : decode bM_passMinute 200 = .ok (.iload 5, 2) := by decide +kernel
theorem dM_passMinute_202 : decode bM_passMinute 202 = .ok (.isub, 1) := by decide +kernel
theorem dM_passMinute_203 : decode bM_passMinute 203 = .ok (.istore 4, 2) := by decide +kernel
theorem dM_passMinute_205 : decode bM_passMinute 205 = .ok (.aload_n 0, 1) := by decide +kernel
theorem dM_passMinute_206 : decode bM_passMinute 206 = .ok (.getfield 59, 3) := by decide +kernel
theorem dM_passMinute_209 : decode bM_passMinute 209 = .ok (.iload_n 3, 1) := by decide +kernel
theorem dM_passMinute_210 : decode bM_passMinute 210 = .ok (.iload 4, 2) := by decide +kernel
theorem dM_passMinute_212 : decode bM_passMinute 212 = .ok (.ifCond .ge 7, 3) := by decide +kernel
theorem dM_passMinute_215 : decode bM_passMinute 215 = .ok (.iconst 0, 1) := by decide +kernel
theorem dM_passMinute_216 : decode bM_passMinute 216 = .ok (.goto 17, 3) := by decide +kernel
theorem dM_passMinute_219 : decode bM_passMinute 219 = .ok (.iload 4, 2) := by decide +kernel
theorem dM_passMinute_221 : decode bM_passMinute 221 = .ok (.bipush 99, 2) := by decide +kernel
theorem dM_passMinute_223 : decode bM_passMinute 223 = .ok (.if_icmp .le 8, 3) := by decide +kernel
theorem dM_passMinute_226 : decode bM_passMinute 226 = .ok (.bipush 99, 2) := by decide +kernel
theorem dM_passMinute_228 : decode bM_passMinute 228 = .ok (.goto 5, 3) := by decide +kernel
theorem dM_passMinute_231 : decode bM_passMinute 231 = .ok (.iload 4, 2) := by decide +kernel
theorem dM_passMinute_233 : decode bM_passMinute 233 = .ok (.iastore, 1) := by decide +kernel
theorem dM_passMinute_234 : decode bM_passMinute 234 = .ok (.iinc 3 1, 3) := by decide +kernel
theorem dM_passMinute_237 : decode bM_passMinute 237 = .ok (.goto (-204), 3) := by decide +kernel
theorem dM_passMinute_240 : decode bM_passMinute 240 = .ok (.iconst 0, 1) := by decide +kernel
theorem dM_passMinute_241 : decode bM_passMinute 241 = .ok (.istore_n 3, 1) := by decide +kernel
theorem dM_passMinute_242 : decode bM_passMinute 242 = .ok (.iload_n 3, 1) := by decide +kernel
theorem dM_passMinute_243 : decode bM_passMinute 243 = .ok (.aload_n 0, 1) := by decide +kernel
theorem dM_passMinute_244 : decode bM_passMinute 244 = .ok (.getfield 161, 3) := by decide +kernel
theorem dM_passMinute_247 : decode bM_passMinute 247 = .ok (.if_icmp .ge 21, 3) := by decide +kernel
theorem dM_passMinute_250 : decode bM_passMinute 250 = .ok (.aload_n 0, 1) := by decide +kernel
theorem dM_passMinute_251 : decode bM_passMinute 251 = .ok (.getfield 31, 3) := by decide +kernel
theorem dM_passMinute_254 : decode bM_passMinute 254 = .ok (.iload_n 3, 1) := by decide +kernel
theorem dM_passMinute_255 : decode bM_passMinute 255 = .ok (.aload_n 0, 1) := by decide +kernel
theorem dM_passMinute_256 : decode bM_passMinute 256 = .ok (.getfield 59, 3) := by decide +kernel
theorem dM_passMinute_259 : decode bM_passMinute 259 = .ok (.iload_n 3, 1) := by decide +kernel
theorem dM_passMinute_260 : decode bM_passMinute 260 = .ok (.iaload, 1) := by decide +kernel
theorem dM_passMinute_261 : decode bM_passMinute 261 = .ok (.iastore, 1) := by decide +kernel
theorem dM_passMinute_262 : decode bM_passMinute 262 = .ok (.iinc 3 1, 3) := by decide +kernel
theorem dM_passMinute_265 : decode bM_passMinute 265 = .ok (.goto (-23), 3) := by decide +kernel
theorem dM_passMinute_268 : decode bM_passMinute 268 = .ok (.aload_n 0, 1) := by decide +kernel
theorem dM_passMinute_269 : decode bM_passMinute 269 = .ok (.iload_n 1, 1) := by decide +kernel
theorem dM_passMinute_270 : decode bM_passMinute 270 = .ok (.putfield 50, 3) := by decide +kernel
theorem dM_passMinute_273 : decode bM_passMinute 273 = .ok (.aload_n 0, 1) := by decide +kernel
theorem dM_passMinute_274 : decode bM_passMinute 274 = .ok (.dup, 1) := by decide +kernel
theorem dM_passMinute_275 : decode bM_passMinute 275 = .ok (.getfield 173, 3) := by decide +kernel
theorem dM_passMinute_278 : decode bM_passMinute 278 = .ok (.iconst 1, 1) := by decide +kernel
theorem dM_passMinute_279 : decode bM_passMinute 279 = .ok (.iadd, 1) := by decide +kernel
theorem dM_passMinute_280 : decode bM_passMinute 280 = .ok (.putfield 173, 3) := by decide +kernel
theorem dM_passMinute_283 : decode bM_passMinute 283 = .ok (.return_, 1) := by decide +kernel
def f_M_passMinute_58 (n : Nat) (k0 : Int32 → Int32 → Int32 → mb_T → Option (mb_T)) (y1 : Int32) (y2 : Int32) (y3 : Int32) (y4 : Int32) : Nat → Int32 → Int32 → Int32 → mb_T → Option (mb_T)
  | 0, _, _, _, _ => none
  | f + 1, w5, w6, w7, s => if (s.1 200 8) ≤ w7 then k0 w5 w6 w7 s else mb_cl (f_M_isBeside n y3 w7 s) fun r_14 s_12 => mb_jn (fun (x_22 : Int32) (s_23 : mb_T) => mb_cl (f_M_isBeside n y3 w7 s_23) fun r_26 s_24 => mb_jn (fun (x_41 : Int32) (s_42 : mb_T) => f_M_passMinute_58 n k0 y1 y2 y3 y4 f (w5 + x_22) (w6 + x_41) (w7 + 1) s_42) fun j_27 => if r_26 = 0 then j_27 0 s_24 else mb_rd s_24 213 10 w7 fun x_29 => mb_rd s_24 213 10 y3 fun x_32 => if x_29 ≤ x_32 then j_27 0 s_24 else mb_rd s_24 212 10 y3 fun x_36 => j_27 (if x_36 = 2 then 1 else 0 : Int32) s_24) fun j_15 => if r_14 = 0 then j_15 0 s_12 else mb_cl (f_M_isCalm n w7 s_12) fun r_19 s_17 => j_15 (if r_19 = 0 then 0 else 1 : Int32) s_17
def f_M_passMinute_33 (n : Nat) (k0 : Int32 → mb_T → Option (mb_T)) (y1 : Int32) (y2 : Int32) : Nat → Int32 → mb_T → Option (mb_T)
  | 0, _, _ => none
  | f + 1, w3, s => if (s.1 200 8) ≤ w3 then k0 w3 s else mb_rd s 213 10 w3 fun x_8 => f_M_passMinute_58 n (fun x_45 x_46 x_47 s_48 => mb_jn (fun (x_68 : Int32) (s_69 : mb_T) => mb_wr s_69 228 5 w3 (if 0 ≤ (x_68 - x_45) then (if (x_68 - x_45) ≤ 99 then (x_68 - x_45) else 99 : Int32) else 0 : Int32) fun s_73 => f_M_passMinute_33 n k0 y1 y2 f (w3 + 1) s_73) fun j_50 => mb_jn (fun (s_56 : mb_T) => mb_jn (fun (s_63 : mb_T) => mb_rd s_63 214 10 w3 fun x_64 => j_50 (x_8 + (x_64 + x_46)) s_63) fun j_57 => if y2 = 0 then j_57 s_56 else mb_cl (f_M_isBeside n y1 w3 s_56) fun r_61 s_59 => if r_61 = 0 then j_57 s_59 else j_50 x_8 s_59) fun j_49 => if y2 = 0 then j_49 s_48 else if w3 = y1 then (mb_rd s_48 215 10 w3 fun x_53 => j_50 (x_8 - x_53) s_48) else j_49 s_48) y1 y2 w3 x_8 n 0 0 0 s
def f_M_passMinute_242 (n : Nat) (k0 : Int32 → mb_T → Option (mb_T)) (y1 : Int32) : Nat → Int32 → mb_T → Option (mb_T)
  | 0, _, _ => none
  | f + 1, w3, s => if (s.1 200 8) ≤ w3 then k0 w3 s else mb_rd s 228 5 w3 fun x_81 => mb_wr s 213 10 w3 x_81 fun s_84 => f_M_passMinute_242 n k0 y1 f (w3 + 1) s_84
def f_M_passMinute (n : Nat) (x1 : Int32) (s : mb_T) : Option (mb_T) := mb_bd (sF s 200 11 ((s.1 200 11) - (if (if (s.1 200 11) ≤ 0 then 0 else 1 : Int32) = 0 then 0 else 1 : Int32))) fun s_5 => f_M_passMinute_33 n (fun x_78 s_79 => f_M_passMinute_242 n (fun x_87 s_88 => mb_bd (sF s_88 200 25 x1) fun s_89 => mb_bd (sF s_89 200 24 ((s_89.1 200 24) + 1)) fun s_91 => some s_91) x1 n 0 s_79) x1 (if (s.1 200 11) ≤ 0 then 0 else 1 : Int32) n 0 s_5
set_option maxHeartbeats 4000000 in
set_option maxRecDepth 100000 in
theorem tl_M_passMinute_58 {dd n : Nat} {K : mj_KT} {out : mb_T} (hK : mj_C (dd + 2) 0 0 RM_c "passMinute" bM_passMinute 8 K) (hR : mj_R bM_passMinute none (fun r2 S2 => r2 = none ∧ S2 = mb_s out) K) {k0 : Int32 → Int32 → Int32 → mb_T → Option (mb_T)} {y1 : Int32} {y2 : Int32} {y3 : Int32} {y4 : Int32} (hk0 : ∀ (w5 : Int32) (w6 : Int32) (w7 : Int32) (s : mb_T), k0 w5 w6 w7 s = some out → K 0 0 148 [.ref 200, .int y1, .int y2, .int y3, .int y4, .int w5, .int w6, .int w7] [] (mb_s s)) : ∀ (f : Nat) (w5 : Int32) (w6 : Int32) (w7 : Int32) (s : mb_T), f_M_passMinute_58 n k0 y1 y2 y3 y4 f w5 w6 w7 s = some out → K 0 0 58 [.ref 200, .int y1, .int y2, .int y3, .int y4, .int w5, .int w6, .int w7] [] (mb_s s) := by
  intro f
  induction f with
  | zero =>
    intro w5 w6 w7 s h
    cases h
  | succ f ih =>
    intro w5 w6 w7 s h
    rw [f_M_passMinute_58] at h
    refine ro_iload hK dM_passMinute_58 rfl ?_
    refine ro_aload_n hK dM_passMinute_60 rfl ?_
    refine rb_get hK fM_161 mb_oM rfl dM_passMinute_61 ?_
    refine ro_icmp_ge (tgt := 148) hK dM_passMinute_64 (by decide) (fun c_11 => ?_) (fun c_11 => ?_)
    · replace h := mb_ift c_11 h
      refine ro_fg (lv' := [.ref 200, .int y1, .int y2, .int y3, .int y4, .int w5, .int w6, .int w7]) hK ⟨Or.inr rfl, ⟨Or.inr rfl, ⟨Or.inr rfl, ⟨Or.inr rfl, ⟨Or.inr rfl, ⟨Or.inr rfl, ⟨Or.inr rfl, ⟨Or.inr rfl, trivial⟩⟩⟩⟩⟩⟩⟩⟩ ?_
      exact hk0 _ _ _ _ h
    · replace h := mb_iff c_11 h
      refine ro_iload hK dM_passMinute_67 rfl ?_
      refine ro_aload_n hK dM_passMinute_69 rfl ?_
      refine ro_iload_n hK dM_passMinute_70 rfl ?_
      refine ro_iload hK dM_passMinute_71 rfl ?_
      obtain ⟨r_14, s_12, q_13, h⟩ := mb_cl_e h
      refine rb_callV hK mM_isBeside vM_192 (t_M_isBeside (dd := dd + 0) q_13) rfl mb_oM rfl (Nat.le_of_ble_eq_true rfl) dM_passMinute_73 rfl ⟨Nat.le_refl _, Nat.le_refl _⟩ ?_
      show K 0 0 76 [.ref 200, .int y1, .int y2, .int y3, .int y4, .int w5, .int w6, .int w7] [.int r_14, .int w5] (mb_s s_12)
      obtain ⟨j_15, e_44, h⟩ := mb_jn_e h
      have hj_15 : ∀ (x_22 : Int32) (s_23 : mb_T), j_15 x_22 s_23 = some out → K 0 0 93 [.ref 200, .int y1, .int y2, .int y3, .int y4, .int w5, .int w6, .int w7] [.int x_22, .int w5] (mb_s s_23) := by
        intro x_22 s_23 h
        rw [e_44] at h
        refine ro_iadd hK dM_passMinute_93 ?_
        refine ro_istore hK dM_passMinute_94 (by decide) ?_
        show K 0 0 96 [.ref 200, .int y1, .int y2, .int y3, .int y4, .int (w5 + x_22), .int w6, .int w7] [] (mb_s s_23)
        refine ro_iload hK dM_passMinute_96 rfl ?_
        refine ro_aload_n hK dM_passMinute_98 rfl ?_
        refine ro_iload_n hK dM_passMinute_99 rfl ?_
        refine ro_iload hK dM_passMinute_100 rfl ?_
        obtain ⟨r_26, s_24, q_25, h⟩ := mb_cl_e h
        refine rb_callV hK mM_isBeside vM_192 (t_M_isBeside (dd := dd + 0) q_25) rfl mb_oM rfl (Nat.le_of_ble_eq_true rfl) dM_passMinute_102 rfl ⟨Nat.le_refl _, Nat.le_refl _⟩ ?_
        show K 0 0 105 [.ref 200, .int y1, .int y2, .int y3, .int y4, .int (w5 + x_22), .int w6, .int w7] [.int r_26, .int w6] (mb_s s_24)
        obtain ⟨j_27, e_43, h⟩ := mb_jn_e h
        have hj_27 : ∀ (x_41 : Int32) (s_42 : mb_T), j_27 x_41 s_42 = some out → K 0 0 139 [.ref 200, .int y1, .int y2, .int y3, .int y4, .int (w5 + x_22), .int w6, .int w7] [.int x_41, .int w6] (mb_s s_42) := by
          intro x_41 s_42 h
          rw [e_43] at h
          refine ro_iadd hK dM_passMinute_139 ?_
          refine ro_istore hK dM_passMinute_140 (by decide) ?_
          show K 0 0 142 [.ref 200, .int y1, .int y2, .int y3, .int y4, .int (w5 + x_22), .int (w6 + x_41), .int w7] [] (mb_s s_42)
          refine ro_iincv (c := 1) hK (by decide) dM_passMinute_142 rfl (by decide) ?_
          show K 0 0 145 [.ref 200, .int y1, .int y2, .int y3, .int y4, .int (w5 + x_22), .int (w6 + x_41), .int (w7 + 1)] [] (mb_s s_42)
          refine ro_goto (tgt := 58) hK dM_passMinute_145 (by decide) ?_
          refine ro_fg (lv' := [.ref 200, .int y1, .int y2, .int y3, .int y4, .int (w5 + x_22), .int (w6 + x_41), .int (w7 + 1)]) hK ⟨Or.inr rfl, ⟨Or.inr rfl, ⟨Or.inr rfl, ⟨Or.inr rfl, ⟨Or.inr rfl, ⟨Or.inr rfl, ⟨Or.inr rfl, ⟨Or.inr rfl, trivial⟩⟩⟩⟩⟩⟩⟩⟩ ?_
          exact ih _ _ _ _ h
        refine ro_if_eq (tgt := 138) hK dM_passMinute_105 (by decide) (fun c_28 => ?_) (fun c_28 => ?_)
        · replace h := mb_ift c_28 h
          refine ro_iconst (x := 0) hK (by decide) dM_passMinute_138 ?_
          refine ro_fg (lv' := [.ref 200, .int y1, .int y2, .int y3, .int y4, .int (w5 + x_22), .int w6, .int w7]) hK ⟨Or.inr rfl, ⟨Or.inr rfl, ⟨Or.inr rfl, ⟨Or.inr rfl, ⟨Or.inr rfl, ⟨Or.inr rfl, ⟨Or.inr rfl, ⟨Or.inr rfl, trivial⟩⟩⟩⟩⟩⟩⟩⟩ ?_
          exact hj_27 _ _ h
        · replace h := mb_iff c_28 h
          refine ro_aload_n hK dM_passMinute_108 rfl ?_
          refine rb_get hK fM_31 mb_oM rfl dM_passMinute_109 ?_
          refine ro_iload hK dM_passMinute_112 rfl ?_
          obtain ⟨x_29, e_30, i_31, h⟩ := mb_rd_e h
          refine rb_iald hK ai_213 i_31 e_30 dM_passMinute_114 ?_
          refine ro_aload_n hK dM_passMinute_115 rfl ?_
          refine rb_get hK fM_31 mb_oM rfl dM_passMinute_116 ?_
          refine ro_iload_n hK dM_passMinute_119 rfl ?_
          obtain ⟨x_32, e_33, i_34, h⟩ := mb_rd_e h
          refine rb_iald hK ai_213 i_34 e_33 dM_passMinute_120 ?_
          refine ro_icmp_le (tgt := 138) hK dM_passMinute_121 (by decide) (fun c_35 => ?_) (fun c_35 => ?_)
          · replace h := mb_ift c_35 h
            refine ro_iconst (x := 0) hK (by decide) dM_passMinute_138 ?_
            refine ro_fg (lv' := [.ref 200, .int y1, .int y2, .int y3, .int y4, .int (w5 + x_22), .int w6, .int w7]) hK ⟨Or.inr rfl, ⟨Or.inr rfl, ⟨Or.inr rfl, ⟨Or.inr rfl, ⟨Or.inr rfl, ⟨Or.inr rfl, ⟨Or.inr rfl, ⟨Or.inr rfl, trivial⟩⟩⟩⟩⟩⟩⟩⟩ ?_
            exact hj_27 _ _ h
          · replace h := mb_iff c_35 h
            refine ro_aload_n hK dM_passMinute_124 rfl ?_
            refine rb_get hK fM_28 mb_oM rfl dM_passMinute_125 ?_
            refine ro_iload_n hK dM_passMinute_128 rfl ?_
            obtain ⟨x_36, e_37, i_38, h⟩ := mb_rd_e h
            refine rb_iald hK ai_212 i_38 e_37 dM_passMinute_129 ?_
            refine ro_iconst (x := 2) hK (by decide) dM_passMinute_130 ?_
            have j_40 : ∀ w_ : Int32, w_ = (if x_36 = 2 then 1 else 0 : Int32) → K 0 0 139 [.ref 200, .int y1, .int y2, .int y3, .int y4, .int (w5 + x_22), .int w6, .int w7] [.int w_, .int w6] (mb_s s_24) → K 0 0 131 [.ref 200, .int y1, .int y2, .int y3, .int y4, .int (w5 + x_22), .int w6, .int w7] [.int 2, .int x_36, .int w6] (mb_s s_24) := by
              intro w_ hw hj
              refine ro_icmp_ne (tgt := 138) hK dM_passMinute_131 (by decide) (fun c_39 => ?_) (fun c_39 => ?_)
              · skip
                refine ro_iconst (x := 0) hK (by decide) dM_passMinute_138 ?_
                have hw := (hw.trans (if_neg c_39))
                subst hw
                exact hj
              · skip
                refine ro_iconst (x := 1) hK (by decide) dM_passMinute_134 ?_
                refine ro_goto (tgt := 139) hK dM_passMinute_135 (by decide) ?_
                have hw := (hw.trans (if_pos c_39))
                subst hw
                exact hj
            refine j_40 _ rfl ?_
            refine ro_fg (lv' := [.ref 200, .int y1, .int y2, .int y3, .int y4, .int (w5 + x_22), .int w6, .int w7]) hK ⟨Or.inr rfl, ⟨Or.inr rfl, ⟨Or.inr rfl, ⟨Or.inr rfl, ⟨Or.inr rfl, ⟨Or.inr rfl, ⟨Or.inr rfl, ⟨Or.inr rfl, trivial⟩⟩⟩⟩⟩⟩⟩⟩ ?_
            exact hj_27 _ _ h
      refine ro_if_eq (tgt := 92) hK dM_passMinute_76 (by decide) (fun c_16 => ?_) (fun c_16 => ?_)
      · replace h := mb_ift c_16 h
        refine ro_iconst (x := 0) hK (by decide) dM_passMinute_92 ?_
        refine ro_fg (lv' := [.ref 200, .int y1, .int y2, .int y3, .int y4, .int w5, .int w6, .int w7]) hK ⟨Or.inr rfl, ⟨Or.inr rfl, ⟨Or.inr rfl, ⟨Or.inr rfl, ⟨Or.inr rfl, ⟨Or.inr rfl, ⟨Or.inr rfl, ⟨Or.inr rfl, trivial⟩⟩⟩⟩⟩⟩⟩⟩ ?_
        exact hj_15 _ _ h
      · replace h := mb_iff c_16 h
        refine ro_aload_n hK dM_passMinute_79 rfl ?_
        refine ro_iload hK dM_passMinute_80 rfl ?_
        obtain ⟨r_19, s_17, q_18, h⟩ := mb_cl_e h
        refine rb_callV hK mM_isCalm vM_189 (t_M_isCalm (dd := dd + 0) q_18) rfl mb_oM rfl (Nat.le_of_ble_eq_true rfl) dM_passMinute_82 rfl ⟨Nat.le_refl _, Nat.le_refl _⟩ ?_
        show K 0 0 85 [.ref 200, .int y1, .int y2, .int y3, .int y4, .int w5, .int w6, .int w7] [.int r_19, .int w5] (mb_s s_17)
        have j_21 : ∀ w_ : Int32, w_ = (if r_19 = 0 then 0 else 1 : Int32) → K 0 0 93 [.ref 200, .int y1, .int y2, .int y3, .int y4, .int w5, .int w6, .int w7] [.int w_, .int w5] (mb_s s_17) → K 0 0 85 [.ref 200, .int y1, .int y2, .int y3, .int y4, .int w5, .int w6, .int w7] [.int r_19, .int w5] (mb_s s_17) := by
          intro w_ hw hj
          refine ro_if_eq (tgt := 92) hK dM_passMinute_85 (by decide) (fun c_20 => ?_) (fun c_20 => ?_)
          · skip
            refine ro_iconst (x := 0) hK (by decide) dM_passMinute_92 ?_
            have hw := (hw.trans (if_pos c_20))
            subst hw
            exact hj
          · skip
            refine ro_iconst (x := 1) hK (by decide) dM_passMinute_88 ?_
            refine ro_goto (tgt := 93) hK dM_passMinute_89 (by decide) ?_
            have hw := (hw.trans (if_neg c_20))
            subst hw
            exact hj
        refine j_21 _ rfl ?_
        refine ro_fg (lv' := [.ref 200, .int y1, .int y2, .int y3, .int y4, .int w5, .int w6, .int w7]) hK ⟨Or.inr rfl, ⟨Or.inr rfl, ⟨Or.inr rfl, ⟨Or.inr rfl, ⟨Or.inr rfl, ⟨Or.inr rfl, ⟨Or.inr rfl, ⟨Or.inr rfl, trivial⟩⟩⟩⟩⟩⟩⟩⟩ ?_
        exact hj_15 _ _ h
set_option maxHeartbeats 4000000 in
set_option maxRecDepth 100000 in
theorem tl_M_passMinute_33 {dd n : Nat} {K : mj_KT} {out : mb_T} (hK : mj_C (dd + 2) 0 0 RM_c "passMinute" bM_passMinute 8 K) (hR : mj_R bM_passMinute none (fun r2 S2 => r2 = none ∧ S2 = mb_s out) K) {k0 : Int32 → mb_T → Option (mb_T)} {y1 : Int32} {y2 : Int32} (hk0 : ∀ (w3 : Int32) (s : mb_T), k0 w3 s = some out → K 0 0 240 [.ref 200, .int y1, .int y2, .int w3, .retAddr 0, .retAddr 0, .retAddr 0, .retAddr 0] [] (mb_s s)) : ∀ (f : Nat) (w3 : Int32) (s : mb_T), f_M_passMinute_33 n k0 y1 y2 f w3 s = some out → K 0 0 33 [.ref 200, .int y1, .int y2, .int w3, .retAddr 0, .retAddr 0, .retAddr 0, .retAddr 0] [] (mb_s s) := by
  intro f
  induction f with
  | zero =>
    intro w3 s h
    cases h
  | succ f ih =>
    intro w3 s h
    rw [f_M_passMinute_33] at h
    refine ro_iload_n hK dM_passMinute_33 rfl ?_
    refine ro_aload_n hK dM_passMinute_34 rfl ?_
    refine rb_get hK fM_161 mb_oM rfl dM_passMinute_35 ?_
    refine ro_icmp_ge (tgt := 240) hK dM_passMinute_38 (by decide) (fun c_7 => ?_) (fun c_7 => ?_)
    · replace h := mb_ift c_7 h
      refine ro_fg (lv' := [.ref 200, .int y1, .int y2, .int w3, .retAddr 0, .retAddr 0, .retAddr 0, .retAddr 0]) hK ⟨Or.inr rfl, ⟨Or.inr rfl, ⟨Or.inr rfl, ⟨Or.inr rfl, ⟨Or.inl rfl, ⟨Or.inl rfl, ⟨Or.inl rfl, ⟨Or.inl rfl, trivial⟩⟩⟩⟩⟩⟩⟩⟩ ?_
      exact hk0 _ _ h
    · replace h := mb_iff c_7 h
      refine ro_aload_n hK dM_passMinute_41 rfl ?_
      refine rb_get hK fM_31 mb_oM rfl dM_passMinute_42 ?_
      refine ro_iload_n hK dM_passMinute_45 rfl ?_
      obtain ⟨x_8, e_9, i_10, h⟩ := mb_rd_e h
      refine rb_iald hK ai_213 i_10 e_9 dM_passMinute_46 ?_
      refine ro_istore hK dM_passMinute_47 (by decide) ?_
      show K 0 0 49 [.ref 200, .int y1, .int y2, .int w3, .int x_8, .retAddr 0, .retAddr 0, .retAddr 0] [] (mb_s s)
      refine ro_iconst (x := 0) hK (by decide) dM_passMinute_49 ?_
      refine ro_istore hK dM_passMinute_50 (by decide) ?_
      show K 0 0 52 [.ref 200, .int y1, .int y2, .int w3, .int x_8, .int 0, .retAddr 0, .retAddr 0] [] (mb_s s)
      refine ro_iconst (x := 0) hK (by decide) dM_passMinute_52 ?_
      refine ro_istore hK dM_passMinute_53 (by decide) ?_
      show K 0 0 55 [.ref 200, .int y1, .int y2, .int w3, .int x_8, .int 0, .int 0, .retAddr 0] [] (mb_s s)
      refine ro_iconst (x := 0) hK (by decide) dM_passMinute_55 ?_
      refine ro_istore hK dM_passMinute_56 (by decide) ?_
      show K 0 0 58 [.ref 200, .int y1, .int y2, .int w3, .int x_8, .int 0, .int 0, .int 0] [] (mb_s s)
      refine ro_fg (lv' := [.ref 200, .int y1, .int y2, .int w3, .int x_8, .int 0, .int 0, .int 0]) hK ⟨Or.inr rfl, ⟨Or.inr rfl, ⟨Or.inr rfl, ⟨Or.inr rfl, ⟨Or.inr rfl, ⟨Or.inr rfl, ⟨Or.inr rfl, ⟨Or.inr rfl, trivial⟩⟩⟩⟩⟩⟩⟩⟩ ?_
      refine tl_M_passMinute_58 (dd := dd) hK hR (fun x_45 x_46 x_47 s_48 h => ?_) n _ _ _ _ h
      refine ro_iload_n hK dM_passMinute_148 rfl ?_
      obtain ⟨j_50, e_77, h⟩ := mb_jn_e h
      have hj_50 : ∀ (x_68 : Int32) (s_69 : mb_T), j_50 x_68 s_69 = some out → K 0 0 198 [.ref 200, .int y1, .int y2, .int w3, .int x_68, .int x_45, .int x_46, .int x_47] [] (mb_s s_69) := by
        intro x_68 s_69 h
        rw [e_77] at h
        refine ro_iload hK dM_passMinute_198 rfl ?_
        refine ro_iload hK dM_passMinute_200 rfl ?_
        refine ro_isub hK dM_passMinute_202 ?_
        refine ro_istore hK dM_passMinute_203 (by decide) ?_
        show K 0 0 205 [.ref 200, .int y1, .int y2, .int w3, .int (x_68 - x_45), .int x_45, .int x_46, .int x_47] [] (mb_s s_69)
        refine ro_aload_n hK dM_passMinute_205 rfl ?_
        refine rb_get hK fM_59 mb_oM rfl dM_passMinute_206 ?_
        refine ro_iload_n hK dM_passMinute_209 rfl ?_
        refine ro_iload hK dM_passMinute_210 rfl ?_
        have j_72 : ∀ w_ : Int32, w_ = (if 0 ≤ (x_68 - x_45) then (if (x_68 - x_45) ≤ 99 then (x_68 - x_45) else 99 : Int32) else 0 : Int32) → K 0 0 233 [.ref 200, .int y1, .int y2, .int w3, .int (x_68 - x_45), .int x_45, .int x_46, .int x_47] [.int w_, .int w3, .ref 228] (mb_s s_69) → K 0 0 212 [.ref 200, .int y1, .int y2, .int w3, .int (x_68 - x_45), .int x_45, .int x_46, .int x_47] [.int (x_68 - x_45), .int w3, .ref 228] (mb_s s_69) := by
          intro w_ hw hj
          refine ro_if_ge (tgt := 219) hK dM_passMinute_212 (by decide) (fun c_70 => ?_) (fun c_70 => ?_)
          · skip
            refine ro_iload hK dM_passMinute_219 rfl ?_
            refine ro_bipush (x := 99) hK (by decide) dM_passMinute_221 ?_
            refine ro_icmp_le (tgt := 231) hK dM_passMinute_223 (by decide) (fun c_71 => ?_) (fun c_71 => ?_)
            · skip
              refine ro_iload hK dM_passMinute_231 rfl ?_
              have hw := ((hw.trans (if_pos c_70)).trans (if_pos c_71))
              subst hw
              exact hj
            · skip
              refine ro_bipush (x := 99) hK (by decide) dM_passMinute_226 ?_
              refine ro_goto (tgt := 233) hK dM_passMinute_228 (by decide) ?_
              have hw := ((hw.trans (if_pos c_70)).trans (if_neg c_71))
              subst hw
              exact hj
          · skip
            refine ro_iconst (x := 0) hK (by decide) dM_passMinute_215 ?_
            refine ro_goto (tgt := 233) hK dM_passMinute_216 (by decide) ?_
            have hw := (hw.trans (if_neg c_70))
            subst hw
            exact hj
        refine j_72 _ rfl ?_
        obtain ⟨s_73, e_74, i_75, h⟩ := mb_wr_e h
        refine rb_iast hK ai_228 i_75 e_74 dM_passMinute_233 ?_
        refine ro_iincv (c := 1) hK (by decide) dM_passMinute_234 rfl (by decide) ?_
        show K 0 0 237 [.ref 200, .int y1, .int y2, .int (w3 + 1), .int (x_68 - x_45), .int x_45, .int x_46, .int x_47] [] (mb_s s_73)
        refine ro_goto (tgt := 33) hK dM_passMinute_237 (by decide) ?_
        refine ro_fg (lv' := [.ref 200, .int y1, .int y2, .int (w3 + 1), .retAddr 0, .retAddr 0, .retAddr 0, .retAddr 0]) hK ⟨Or.inr rfl, ⟨Or.inr rfl, ⟨Or.inr rfl, ⟨Or.inr rfl, ⟨Or.inl rfl, ⟨Or.inl rfl, ⟨Or.inl rfl, ⟨Or.inl rfl, trivial⟩⟩⟩⟩⟩⟩⟩⟩ ?_
        exact ih _ _ h
      obtain ⟨j_49, e_76, h⟩ := mb_jn_e h
      have hj_49 : ∀ (s_56 : mb_T), j_49 s_56 = some out → K 0 0 171 [.ref 200, .int y1, .int y2, .int w3, .int x_8, .int x_45, .int x_46, .int x_47] [] (mb_s s_56) := by
        intro s_56 h
        rw [e_76] at h
        refine ro_iload_n hK dM_passMinute_171 rfl ?_
        obtain ⟨j_57, e_67, h⟩ := mb_jn_e h
        have hj_57 : ∀ (s_63 : mb_T), j_57 s_63 = some out → K 0 0 184 [.ref 200, .int y1, .int y2, .int w3, .int x_8, .int x_45, .int x_46, .int x_47] [] (mb_s s_63) := by
          intro s_63 h
          rw [e_67] at h
          refine ro_iload hK dM_passMinute_184 rfl ?_
          refine ro_aload_n hK dM_passMinute_186 rfl ?_
          refine rb_get hK fM_34 mb_oM rfl dM_passMinute_187 ?_
          refine ro_iload_n hK dM_passMinute_190 rfl ?_
          obtain ⟨x_64, e_65, i_66, h⟩ := mb_rd_e h
          refine rb_iald hK ai_214 i_66 e_65 dM_passMinute_191 ?_
          refine ro_iload hK dM_passMinute_192 rfl ?_
          refine ro_iadd hK dM_passMinute_194 ?_
          refine ro_iadd hK dM_passMinute_195 ?_
          refine ro_istore hK dM_passMinute_196 (by decide) ?_
          show K 0 0 198 [.ref 200, .int y1, .int y2, .int w3, .int (x_8 + (x_64 + x_46)), .int x_45, .int x_46, .int x_47] [] (mb_s s_63)
          refine ro_fg (lv' := [.ref 200, .int y1, .int y2, .int w3, .int (x_8 + (x_64 + x_46)), .int x_45, .int x_46, .int x_47]) hK ⟨Or.inr rfl, ⟨Or.inr rfl, ⟨Or.inr rfl, ⟨Or.inr rfl, ⟨Or.inr rfl, ⟨Or.inr rfl, ⟨Or.inr rfl, ⟨Or.inr rfl, trivial⟩⟩⟩⟩⟩⟩⟩⟩ ?_
          exact hj_50 _ _ h
        refine ro_if_eq (tgt := 184) hK dM_passMinute_172 (by decide) (fun c_58 => ?_) (fun c_58 => ?_)
        · replace h := mb_ift c_58 h
          refine ro_fg (lv' := [.ref 200, .int y1, .int y2, .int w3, .int x_8, .int x_45, .int x_46, .int x_47]) hK ⟨Or.inr rfl, ⟨Or.inr rfl, ⟨Or.inr rfl, ⟨Or.inr rfl, ⟨Or.inr rfl, ⟨Or.inr rfl, ⟨Or.inr rfl, ⟨Or.inr rfl, trivial⟩⟩⟩⟩⟩⟩⟩⟩ ?_
          exact hj_57 _ h
        · replace h := mb_iff c_58 h
          refine ro_aload_n hK dM_passMinute_175 rfl ?_
          refine ro_iload_n hK dM_passMinute_176 rfl ?_
          refine ro_iload_n hK dM_passMinute_177 rfl ?_
          obtain ⟨r_61, s_59, q_60, h⟩ := mb_cl_e h
          refine rb_callV hK mM_isBeside vM_192 (t_M_isBeside (dd := dd + 0) q_60) rfl mb_oM rfl (Nat.le_of_ble_eq_true rfl) dM_passMinute_178 rfl ⟨Nat.le_refl _, Nat.le_refl _⟩ ?_
          show K 0 0 181 [.ref 200, .int y1, .int y2, .int w3, .int x_8, .int x_45, .int x_46, .int x_47] [.int r_61] (mb_s s_59)
          refine ro_if_ne (tgt := 198) hK dM_passMinute_181 (by decide) (fun c_62 => ?_) (fun c_62 => ?_)
          · replace h := mb_iff c_62 h
            refine ro_fg (lv' := [.ref 200, .int y1, .int y2, .int w3, .int x_8, .int x_45, .int x_46, .int x_47]) hK ⟨Or.inr rfl, ⟨Or.inr rfl, ⟨Or.inr rfl, ⟨Or.inr rfl, ⟨Or.inr rfl, ⟨Or.inr rfl, ⟨Or.inr rfl, ⟨Or.inr rfl, trivial⟩⟩⟩⟩⟩⟩⟩⟩ ?_
            exact hj_50 _ _ h
          · replace h := mb_ift c_62 h
            refine ro_fg (lv' := [.ref 200, .int y1, .int y2, .int w3, .int x_8, .int x_45, .int x_46, .int x_47]) hK ⟨Or.inr rfl, ⟨Or.inr rfl, ⟨Or.inr rfl, ⟨Or.inr rfl, ⟨Or.inr rfl, ⟨Or.inr rfl, ⟨Or.inr rfl, ⟨Or.inr rfl, trivial⟩⟩⟩⟩⟩⟩⟩⟩ ?_
            exact hj_57 _ h
      refine ro_if_eq (tgt := 171) hK dM_passMinute_149 (by decide) (fun c_51 => ?_) (fun c_51 => ?_)
      · replace h := mb_ift c_51 h
        refine ro_fg (lv' := [.ref 200, .int y1, .int y2, .int w3, .int x_8, .int x_45, .int x_46, .int x_47]) hK ⟨Or.inr rfl, ⟨Or.inr rfl, ⟨Or.inr rfl, ⟨Or.inr rfl, ⟨Or.inr rfl, ⟨Or.inr rfl, ⟨Or.inr rfl, ⟨Or.inr rfl, trivial⟩⟩⟩⟩⟩⟩⟩⟩ ?_
        exact hj_49 _ h
      · replace h := mb_iff c_51 h
        refine ro_iload_n hK dM_passMinute_152 rfl ?_
        refine ro_iload_n hK dM_passMinute_153 rfl ?_
        refine ro_icmp_ne (tgt := 171) hK dM_passMinute_154 (by decide) (fun c_52 => ?_) (fun c_52 => ?_)
        · replace h := mb_iff c_52 h
          refine ro_fg (lv' := [.ref 200, .int y1, .int y2, .int w3, .int x_8, .int x_45, .int x_46, .int x_47]) hK ⟨Or.inr rfl, ⟨Or.inr rfl, ⟨Or.inr rfl, ⟨Or.inr rfl, ⟨Or.inr rfl, ⟨Or.inr rfl, ⟨Or.inr rfl, ⟨Or.inr rfl, trivial⟩⟩⟩⟩⟩⟩⟩⟩ ?_
          exact hj_49 _ h
        · replace h := mb_ift c_52 h
          refine ro_iload hK dM_passMinute_157 rfl ?_
          refine ro_aload_n hK dM_passMinute_159 rfl ?_
          refine rb_get hK fM_37 mb_oM rfl dM_passMinute_160 ?_
          refine ro_iload_n hK dM_passMinute_163 rfl ?_
          obtain ⟨x_53, e_54, i_55, h⟩ := mb_rd_e h
          refine rb_iald hK ai_215 i_55 e_54 dM_passMinute_164 ?_
          refine ro_isub hK dM_passMinute_165 ?_
          refine ro_istore hK dM_passMinute_166 (by decide) ?_
          show K 0 0 168 [.ref 200, .int y1, .int y2, .int w3, .int (x_8 - x_53), .int x_45, .int x_46, .int x_47] [] (mb_s s_48)
          refine ro_goto (tgt := 198) hK dM_passMinute_168 (by decide) ?_
          refine ro_fg (lv' := [.ref 200, .int y1, .int y2, .int w3, .int (x_8 - x_53), .int x_45, .int x_46, .int x_47]) hK ⟨Or.inr rfl, ⟨Or.inr rfl, ⟨Or.inr rfl, ⟨Or.inr rfl, ⟨Or.inr rfl, ⟨Or.inr rfl, ⟨Or.inr rfl, ⟨Or.inr rfl, trivial⟩⟩⟩⟩⟩⟩⟩⟩ ?_
          exact hj_50 _ _ h
set_option maxHeartbeats 4000000 in
set_option maxRecDepth 100000 in
theorem tl_M_passMinute_242 {dd n : Nat} {K : mj_KT} {out : mb_T} (hK : mj_C (dd + 2) 0 0 RM_c "passMinute" bM_passMinute 8 K) (hR : mj_R bM_passMinute none (fun r2 S2 => r2 = none ∧ S2 = mb_s out) K) {k0 : Int32 → mb_T → Option (mb_T)} {y1 : Int32} (hk0 : ∀ (w3 : Int32) (s : mb_T), k0 w3 s = some out → K 0 0 268 [.ref 200, .int y1, .retAddr 0, .int w3, .retAddr 0, .retAddr 0, .retAddr 0, .retAddr 0] [] (mb_s s)) : ∀ (f : Nat) (w3 : Int32) (s : mb_T), f_M_passMinute_242 n k0 y1 f w3 s = some out → K 0 0 242 [.ref 200, .int y1, .retAddr 0, .int w3, .retAddr 0, .retAddr 0, .retAddr 0, .retAddr 0] [] (mb_s s) := by
  intro f
  induction f with
  | zero =>
    intro w3 s h
    cases h
  | succ f ih =>
    intro w3 s h
    rw [f_M_passMinute_242] at h
    refine ro_iload_n hK dM_passMinute_242 rfl ?_
    refine ro_aload_n hK dM_passMinute_243 rfl ?_
    refine rb_get hK fM_161 mb_oM rfl dM_passMinute_244 ?_
    refine ro_icmp_ge (tgt := 268) hK dM_passMinute_247 (by decide) (fun c_80 => ?_) (fun c_80 => ?_)
    · replace h := mb_ift c_80 h
      refine ro_fg (lv' := [.ref 200, .int y1, .retAddr 0, .int w3, .retAddr 0, .retAddr 0, .retAddr 0, .retAddr 0]) hK ⟨Or.inr rfl, ⟨Or.inr rfl, ⟨Or.inl rfl, ⟨Or.inr rfl, ⟨Or.inl rfl, ⟨Or.inl rfl, ⟨Or.inl rfl, ⟨Or.inl rfl, trivial⟩⟩⟩⟩⟩⟩⟩⟩ ?_
      exact hk0 _ _ h
    · replace h := mb_iff c_80 h
      refine ro_aload_n hK dM_passMinute_250 rfl ?_
      refine rb_get hK fM_31 mb_oM rfl dM_passMinute_251 ?_
      refine ro_iload_n hK dM_passMinute_254 rfl ?_
      refine ro_aload_n hK dM_passMinute_255 rfl ?_
      refine rb_get hK fM_59 mb_oM rfl dM_passMinute_256 ?_
      refine ro_iload_n hK dM_passMinute_259 rfl ?_
      obtain ⟨x_81, e_82, i_83, h⟩ := mb_rd_e h
      refine rb_iald hK ai_228 i_83 e_82 dM_passMinute_260 ?_
      obtain ⟨s_84, e_85, i_86, h⟩ := mb_wr_e h
      refine rb_iast hK ai_213 i_86 e_85 dM_passMinute_261 ?_
      refine ro_iincv (c := 1) hK (by decide) dM_passMinute_262 rfl (by decide) ?_
      show K 0 0 265 [.ref 200, .int y1, .retAddr 0, .int (w3 + 1), .retAddr 0, .retAddr 0, .retAddr 0, .retAddr 0] [] (mb_s s_84)
      refine ro_goto (tgt := 242) hK dM_passMinute_265 (by decide) ?_
      refine ro_fg (lv' := [.ref 200, .int y1, .retAddr 0, .int (w3 + 1), .retAddr 0, .retAddr 0, .retAddr 0, .retAddr 0]) hK ⟨Or.inr rfl, ⟨Or.inr rfl, ⟨Or.inl rfl, ⟨Or.inr rfl, ⟨Or.inl rfl, ⟨Or.inl rfl, ⟨Or.inl rfl, ⟨Or.inl rfl, trivial⟩⟩⟩⟩⟩⟩⟩⟩ ?_
      exact ih _ _ h
set_option maxHeartbeats 4000000 in
set_option maxRecDepth 100000 in
theorem t_M_passMinute {dd n : Nat} {x1 : Int32} {s : mb_T} {out : mb_T}  (h : f_M_passMinute n x1 s = some out) : mb_MC (dd + 2) yM_passMinute bM_passMinute 8 none [.ref 200, .int x1] s none out := by
  unfold f_M_passMinute at h
  refine mj_mc (lv := [.ref 200, .int x1, .retAddr 0, .retAddr 0, .retAddr 0, .retAddr 0, .retAddr 0, .retAddr 0]) mM_passMinute rfl rfl (Nat.le_of_ble_eq_true rfl) (fun K hK hR => ?_)
  have hK : mj_C (dd + 2) 0 0 RM_c "passMinute" bM_passMinute 8 K := hK
  refine ro_aload_n hK dM_passMinute_0 rfl ?_
  refine rb_get hK fM_170 mb_oM rfl dM_passMinute_1 ?_
  have j_2 : ∀ w_ : Int32, w_ = (if (s.1 200 11) ≤ 0 then 0 else 1 : Int32) → K 0 0 12 [.ref 200, .int x1, .retAddr 0, .retAddr 0, .retAddr 0, .retAddr 0, .retAddr 0, .retAddr 0] [.int w_] (mb_s s) → K 0 0 4 [.ref 200, .int x1, .retAddr 0, .retAddr 0, .retAddr 0, .retAddr 0, .retAddr 0, .retAddr 0] [.int (s.1 200 11)] (mb_s s) := by
    intro w_ hw hj
    refine ro_if_le (tgt := 11) hK dM_passMinute_4 (by decide) (fun c_1 => ?_) (fun c_1 => ?_)
    · skip
      refine ro_iconst (x := 0) hK (by decide) dM_passMinute_11 ?_
      have hw := (hw.trans (if_pos c_1))
      subst hw
      exact hj
    · skip
      refine ro_iconst (x := 1) hK (by decide) dM_passMinute_7 ?_
      refine ro_goto (tgt := 12) hK dM_passMinute_8 (by decide) ?_
      have hw := (hw.trans (if_neg c_1))
      subst hw
      exact hj
  refine j_2 _ rfl ?_
  refine ro_istore_n hK dM_passMinute_12 (by decide) ?_
  show K 0 0 13 [.ref 200, .int x1, .int (if (s.1 200 11) ≤ 0 then 0 else 1 : Int32), .retAddr 0, .retAddr 0, .retAddr 0, .retAddr 0, .retAddr 0] [] (mb_s s)
  refine ro_aload_n hK dM_passMinute_13 rfl ?_
  refine ro_dup hK dM_passMinute_14 rfl ?_
  refine rb_get hK fM_170 mb_oM rfl dM_passMinute_15 ?_
  refine ro_iload_n hK dM_passMinute_18 rfl ?_
  have j_4 : ∀ w_ : Int32, w_ = (if (if (s.1 200 11) ≤ 0 then 0 else 1 : Int32) = 0 then 0 else 1 : Int32) → K 0 0 27 [.ref 200, .int x1, .int (if (s.1 200 11) ≤ 0 then 0 else 1 : Int32), .retAddr 0, .retAddr 0, .retAddr 0, .retAddr 0, .retAddr 0] [.int w_, .int (s.1 200 11), .ref 200] (mb_s s) → K 0 0 19 [.ref 200, .int x1, .int (if (s.1 200 11) ≤ 0 then 0 else 1 : Int32), .retAddr 0, .retAddr 0, .retAddr 0, .retAddr 0, .retAddr 0] [.int (if (s.1 200 11) ≤ 0 then 0 else 1 : Int32), .int (s.1 200 11), .ref 200] (mb_s s) := by
    intro w_ hw hj
    refine ro_if_eq (tgt := 26) hK dM_passMinute_19 (by decide) (fun c_3 => ?_) (fun c_3 => ?_)
    · skip
      refine ro_iconst (x := 0) hK (by decide) dM_passMinute_26 ?_
      have hw := (hw.trans (if_pos c_3))
      subst hw
      exact hj
    · skip
      refine ro_iconst (x := 1) hK (by decide) dM_passMinute_22 ?_
      refine ro_goto (tgt := 27) hK dM_passMinute_23 (by decide) ?_
      have hw := (hw.trans (if_neg c_3))
      subst hw
      exact hj
  refine j_4 _ rfl ?_
  refine ro_isub hK dM_passMinute_27 ?_
  obtain ⟨s_5, e_6, h⟩ := mb_bd_e h
  refine rb_put hK gM_170 mb_oM rfl (by show 11 < 45; decide) rfl rfl e_6 dM_passMinute_28 ?_
  refine ro_iconst (x := 0) hK (by decide) dM_passMinute_31 ?_
  refine ro_istore_n hK dM_passMinute_32 (by decide) ?_
  show K 0 0 33 [.ref 200, .int x1, .int (if (s.1 200 11) ≤ 0 then 0 else 1 : Int32), .int 0, .retAddr 0, .retAddr 0, .retAddr 0, .retAddr 0] [] (mb_s s_5)
  refine ro_fg (lv' := [.ref 200, .int x1, .int (if (s.1 200 11) ≤ 0 then 0 else 1 : Int32), .int 0, .retAddr 0, .retAddr 0, .retAddr 0, .retAddr 0]) hK ⟨Or.inr rfl, ⟨Or.inr rfl, ⟨Or.inr rfl, ⟨Or.inr rfl, ⟨Or.inl rfl, ⟨Or.inl rfl, ⟨Or.inl rfl, ⟨Or.inl rfl, trivial⟩⟩⟩⟩⟩⟩⟩⟩ ?_
  refine tl_M_passMinute_33 (dd := dd) hK hR (fun x_78 s_79 h => ?_) n _ _ h
  refine ro_iconst (x := 0) hK (by decide) dM_passMinute_240 ?_
  refine ro_istore_n hK dM_passMinute_241 (by decide) ?_
  show K 0 0 242 [.ref 200, .int x1, .int (if (s.1 200 11) ≤ 0 then 0 else 1 : Int32), .int 0, .retAddr 0, .retAddr 0, .retAddr 0, .retAddr 0] [] (mb_s s_79)
  refine ro_fg (lv' := [.ref 200, .int x1, .retAddr 0, .int 0, .retAddr 0, .retAddr 0, .retAddr 0, .retAddr 0]) hK ⟨Or.inr rfl, ⟨Or.inr rfl, ⟨Or.inl rfl, ⟨Or.inr rfl, ⟨Or.inl rfl, ⟨Or.inl rfl, ⟨Or.inl rfl, ⟨Or.inl rfl, trivial⟩⟩⟩⟩⟩⟩⟩⟩ ?_
  refine tl_M_passMinute_242 (dd := dd) hK hR (fun x_87 s_88 h => ?_) n _ _ h
  refine ro_aload_n hK dM_passMinute_268 rfl ?_
  refine ro_iload_n hK dM_passMinute_269 rfl ?_
  obtain ⟨s_89, e_90, h⟩ := mb_bd_e h
  refine rb_put hK gM_50 mb_oM rfl (by show 25 < 45; decide) rfl rfl e_90 dM_passMinute_270 ?_
  refine ro_aload_n hK dM_passMinute_273 rfl ?_
  refine ro_dup hK dM_passMinute_274 rfl ?_
  refine rb_get hK fM_173 mb_oM rfl dM_passMinute_275 ?_
  refine ro_iconst (x := 1) hK (by decide) dM_passMinute_278 ?_
  refine ro_iadd hK dM_passMinute_279 ?_
  obtain ⟨s_91, e_92, h⟩ := mb_bd_e h
  refine rb_put hK gM_173 mb_oM rfl (by show 24 < 45; decide) rfl rfl e_92 dM_passMinute_280 ?_
  cases h
  exact hR.2.2 0 0 283 _ _ rfl dM_passMinute_283 ⟨rfl, rfl⟩
theorem dM_showsOf_0 : decode bM_showsOf 0 = .ok (.aload_n 0, 1) := by decide +kernel
theorem dM_showsOf_1 : decode bM_showsOf 1 = .ok (.getfield 43, 3) := by decide +kernel
theorem dM_showsOf_4 : decode bM_showsOf 4 = .ok (.bipush (-9), 2) := by decide +kernel
theorem dM_showsOf_6 : decode bM_showsOf 6 = .ok (.if_icmp .ne 21, 3) := by decide +kernel
theorem dM_showsOf_9 : decode bM_showsOf 9 = .ok (.aload_n 0, 1) := by decide +kernel
theorem dM_showsOf_10 : decode bM_showsOf 10 = .ok (.getfield 28, 3) := by decide +kernel
theorem dM_showsOf_13 : decode bM_showsOf 13 = .ok (.iload_n 1, 1) := by decide +kernel
theorem dM_showsOf_14 : decode bM_showsOf 14 = .ok (.iaload, 1) := by decide +kernel
theorem dM_showsOf_15 : decode bM_showsOf 15 = .ok (.iconst 3, 1) := by decide +kernel
theorem dM_showsOf_16 : decode bM_showsOf 16 = .ok (.if_icmp .ne 7, 3) := by decide +kernel
theorem dM_showsOf_19 : decode bM_showsOf 19 = .ok (.iconst 1, 1) := by decide +kernel
theorem dM_showsOf_20 : decode bM_showsOf 20 = .ok (.goto 15, 3) := by decide +kernel
theorem dM_showsOf_23 : decode bM_showsOf 23 = .ok (.iconst 0, 1) := by decide +kernel
theorem dM_showsOf_24 : decode bM_showsOf 24 = .ok (.goto 11, 3) := by decide +kernel
theorem dM_showsOf_27 : decode bM_showsOf 27 = .ok (.aload_n 0, 1) := by decide +kernel
theorem dM_showsOf_28 : decode bM_showsOf 28 = .ok (.getfield 43, 3) := by decide +kernel
theorem dM_showsOf_31 : decode bM_showsOf 31 = .ok (.iload_n 1, 1) := by decide +kernel
theorem dM_showsOf_32 : decode bM_showsOf 32 = .ok (.invokestatic 176, 3) := by decide +kernel
theorem dM_showsOf_35 : decode bM_showsOf 35 = .ok (.istore_n 2, 1) := by decide +kernel
theorem dM_showsOf_36 : decode bM_showsOf 36 = .ok (.aload_n 0, 1) := by decide +kernel
theorem dM_showsOf_37 : decode bM_showsOf 37 = .ok (.getfield 28, 3) := by decide +kernel
theorem dM_showsOf_40 : decode bM_showsOf 40 = .ok (.iload_n 1, 1) := by decide +kernel
theorem dM_showsOf_41 : decode bM_showsOf 41 = .ok (.iaload, 1) := by decide +kernel
theorem dM_showsOf_42 : decode bM_showsOf 42 = .ok (.iconst 5, 1) := by decide +kernel
theorem dM_showsOf_43 : decode bM_showsOf 43 = .ok (.if_icmp .ne 7, 3) := by decide +kernel
theorem dM_showsOf_46 : decode bM_showsOf 46 = .ok (.iconst (-1), 1) := by decide +kernel
theorem dM_showsOf_47 : decode bM_showsOf 47 = .ok (.goto 20, 3) := by decide +kernel
theorem dM_showsOf_50 : decode bM_showsOf 50 = .ok (.aload_n 0, 1) := by decide +kernel
theorem dM_showsOf_51 : decode bM_showsOf 51 = .ok (.getfield 31, 3) := by decide +kernel
theorem dM_showsOf_54 : decode bM_showsOf 54 = .ok (.iload_n 1, 1) := by decide +kernel
theorem dM_showsOf_55 : decode bM_showsOf 55 = .ok (.iaload, 1) := by decide +kernel
theorem dM_showsOf_56 : decode bM_showsOf 56 = .ok (.iload_n 2, 1) := by decide +kernel
theorem dM_showsOf_57 : decode bM_showsOf 57 = .ok (.ifCond .eq 8, 3) := by decide +kernel
theorem dM_showsOf_60 : decode bM_showsOf 60 = .ok (.bipush 9, 2) := by decide +kernel
theorem dM_showsOf_62 : decode bM_showsOf 62 = .ok (.goto 4, 3) := by decide +kernel
theorem dM_showsOf_65 : decode bM_showsOf 65 = .ok (.iconst 0, 1) := by decide +kernel
theorem dM_showsOf_66 : decode bM_showsOf 66 = .ok (.iadd, 1) := by decide +kernel
theorem dM_showsOf_67 : decode bM_showsOf 67 = .ok (.ireturn, 1) := by decide +kernel
def f_M_showsOf (n : Nat) (x1 : Int32) (s : mb_T) : Option (Int32 × mb_T) := mb_jn (fun (x_11 : Int32) (s_12 : mb_T) => mb_rd s_12 212 10 x1 fun x_13 => if x_13 = 5 then some ((-1), s_12) else mb_rd s_12 213 10 x1 fun x_17 => some ((x_17 + (if x_11 = 0 then 0 else 9 : Int32)), s_12)) fun j_1 => if (s.1 200 22) = (-9) then (mb_rd s 212 10 x1 fun x_6 => j_1 (if x_6 = 3 then 1 else 0 : Int32) s) else mb_cl (f_M_has n (s.1 200 22) x1 s) fun r_5 s_3 => j_1 r_5 s_3
set_option maxHeartbeats 4000000 in
set_option maxRecDepth 100000 in
theorem t_M_showsOf {dd n : Nat} {x1 : Int32} {s : mb_T} {out : Int32 × mb_T}  (h : f_M_showsOf n x1 s = some out) : mb_MC (dd + 2) yM_showsOf bM_showsOf 3 (some .int) [.ref 200, .int x1] s (some (.int out.1)) out.2 := by
  unfold f_M_showsOf at h
  refine mj_mc (lv := [.ref 200, .int x1, .retAddr 0]) mM_showsOf rfl rfl (Nat.le_of_ble_eq_true rfl) (fun K hK hR => ?_)
  have hK : mj_C (dd + 2) 0 0 RM_c "showsOf" bM_showsOf 3 K := hK
  refine ro_aload_n hK dM_showsOf_0 rfl ?_
  refine rb_get hK fM_43 mb_oM rfl dM_showsOf_1 ?_
  refine ro_bipush (x := (-9)) hK (by decide) dM_showsOf_4 ?_
  obtain ⟨j_1, e_22, h⟩ := mb_jn_e h
  have hj_1 : ∀ (x_11 : Int32) (s_12 : mb_T), j_1 x_11 s_12 = some out → K 0 0 35 [.ref 200, .int x1, .retAddr 0] [.int x_11] (mb_s s_12) := by
    intro x_11 s_12 h
    rw [e_22] at h
    refine ro_istore_n hK dM_showsOf_35 (by decide) ?_
    show K 0 0 36 [.ref 200, .int x1, .int x_11] [] (mb_s s_12)
    refine ro_aload_n hK dM_showsOf_36 rfl ?_
    refine rb_get hK fM_28 mb_oM rfl dM_showsOf_37 ?_
    refine ro_iload_n hK dM_showsOf_40 rfl ?_
    obtain ⟨x_13, e_14, i_15, h⟩ := mb_rd_e h
    refine rb_iald hK ai_212 i_15 e_14 dM_showsOf_41 ?_
    refine ro_iconst (x := 5) hK (by decide) dM_showsOf_42 ?_
    refine ro_icmp_ne (tgt := 50) hK dM_showsOf_43 (by decide) (fun c_16 => ?_) (fun c_16 => ?_)
    · replace h := mb_iff c_16 h
      refine ro_aload_n hK dM_showsOf_50 rfl ?_
      refine rb_get hK fM_31 mb_oM rfl dM_showsOf_51 ?_
      refine ro_iload_n hK dM_showsOf_54 rfl ?_
      obtain ⟨x_17, e_18, i_19, h⟩ := mb_rd_e h
      refine rb_iald hK ai_213 i_19 e_18 dM_showsOf_55 ?_
      refine ro_iload_n hK dM_showsOf_56 rfl ?_
      have j_21 : ∀ w_ : Int32, w_ = (if x_11 = 0 then 0 else 9 : Int32) → K 0 0 66 [.ref 200, .int x1, .int x_11] [.int w_, .int x_17] (mb_s s_12) → K 0 0 57 [.ref 200, .int x1, .int x_11] [.int x_11, .int x_17] (mb_s s_12) := by
        intro w_ hw hj
        refine ro_if_eq (tgt := 65) hK dM_showsOf_57 (by decide) (fun c_20 => ?_) (fun c_20 => ?_)
        · skip
          refine ro_iconst (x := 0) hK (by decide) dM_showsOf_65 ?_
          have hw := (hw.trans (if_pos c_20))
          subst hw
          exact hj
        · skip
          refine ro_bipush (x := 9) hK (by decide) dM_showsOf_60 ?_
          refine ro_goto (tgt := 66) hK dM_showsOf_62 (by decide) ?_
          have hw := (hw.trans (if_neg c_20))
          subst hw
          exact hj
      refine j_21 _ rfl ?_
      refine ro_iadd hK dM_showsOf_66 ?_
      cases h
      exact hR.1 0 0 67 _ _ _ _ rfl rfl dM_showsOf_67 ⟨rfl, rfl⟩
    · replace h := mb_ift c_16 h
      refine ro_iconst (x := (-1)) hK (by decide) dM_showsOf_46 ?_
      refine ro_goto (tgt := 67) hK dM_showsOf_47 (by decide) ?_
      cases h
      exact hR.1 0 0 67 _ _ _ _ rfl rfl dM_showsOf_67 ⟨rfl, rfl⟩
  refine ro_icmp_ne (tgt := 27) hK dM_showsOf_6 (by decide) (fun c_2 => ?_) (fun c_2 => ?_)
  · replace h := mb_iff c_2 h
    refine ro_aload_n hK dM_showsOf_27 rfl ?_
    refine rb_get hK fM_43 mb_oM rfl dM_showsOf_28 ?_
    refine ro_iload_n hK dM_showsOf_31 rfl ?_
    obtain ⟨r_5, s_3, q_4, h⟩ := mb_cl_e h
    refine rb_callS hK mM_has vM_176 (t_M_has (dd := dd + 0) q_4) rfl (Nat.le_of_ble_eq_true rfl) dM_showsOf_32 rfl ⟨Nat.le_refl _, Nat.le_refl _⟩ ?_
    show K 0 0 35 [.ref 200, .int x1, .retAddr 0] [.int r_5] (mb_s s_3)
    refine ro_fg (lv' := [.ref 200, .int x1, .retAddr 0]) hK ⟨Or.inr rfl, ⟨Or.inr rfl, ⟨Or.inl rfl, trivial⟩⟩⟩ ?_
    exact hj_1 _ _ h
  · replace h := mb_ift c_2 h
    refine ro_aload_n hK dM_showsOf_9 rfl ?_
    refine rb_get hK fM_28 mb_oM rfl dM_showsOf_10 ?_
    refine ro_iload_n hK dM_showsOf_13 rfl ?_
    obtain ⟨x_6, e_7, i_8, h⟩ := mb_rd_e h
    refine rb_iald hK ai_212 i_8 e_7 dM_showsOf_14 ?_
    refine ro_iconst (x := 3) hK (by decide) dM_showsOf_15 ?_
    have j_10 : ∀ w_ : Int32, w_ = (if x_6 = 3 then 1 else 0 : Int32) → K 0 0 35 [.ref 200, .int x1, .retAddr 0] [.int w_] (mb_s s) → K 0 0 16 [.ref 200, .int x1, .retAddr 0] [.int 3, .int x_6] (mb_s s) := by
      intro w_ hw hj
      refine ro_icmp_ne (tgt := 23) hK dM_showsOf_16 (by decide) (fun c_9 => ?_) (fun c_9 => ?_)
      · skip
        refine ro_iconst (x := 0) hK (by decide) dM_showsOf_23 ?_
        refine ro_goto (tgt := 35) hK dM_showsOf_24 (by decide) ?_
        have hw := (hw.trans (if_neg c_9))
        subst hw
        exact hj
      · skip
        refine ro_iconst (x := 1) hK (by decide) dM_showsOf_19 ?_
        refine ro_goto (tgt := 35) hK dM_showsOf_20 (by decide) ?_
        have hw := (hw.trans (if_pos c_9))
        subst hw
        exact hj
    refine j_10 _ rfl ?_
    refine ro_fg (lv' := [.ref 200, .int x1, .retAddr 0]) hK ⟨Or.inr rfl, ⟨Or.inr rfl, ⟨Or.inl rfl, trivial⟩⟩⟩ ?_
    exact hj_1 _ _ h
theorem dM_tellStory_0 : decode bM_tellStory 0 = .ok (.iconst 0, 1) := by decide +kernel
theorem dM_tellStory_1 : decode bM_tellStory 1 = .ok (.istore_n 2, 1) := by decide +kernel
theorem dM_tellStory_2 : decode bM_tellStory 2 = .ok (.iload_n 2, 1) := by decide +kernel
theorem dM_tellStory_3 : decode bM_tellStory 3 = .ok (.aload_n 0, 1) := by decide +kernel
theorem dM_tellStory_4 : decode bM_tellStory 4 = .ok (.getfield 161, 3) := by decide +kernel
theorem dM_tellStory_7 : decode bM_tellStory 7 = .ok (.if_icmp .ge 46, 3) := by decide +kernel
theorem dM_tellStory_10 : decode bM_tellStory 10 = .ok (.aload_n 0, 1) := by decide +kernel
theorem dM_tellStory_11 : decode bM_tellStory 11 = .ok (.iload_n 1, 1) := by decide +kernel
theorem dM_tellStory_12 : decode bM_tellStory 12 = .ok (.iload_n 2, 1) := by decide +kernel
theorem dM_tellStory_13 : decode bM_tellStory 13 = .ok (.invokevirtual 192, 3) := by decide +kernel
theorem dM_tellStory_16 : decode bM_tellStory 16 = .ok (.ifCond .eq 31, 3) := by decide +kernel
theorem dM_tellStory_19 : decode bM_tellStory 19 = .ok (.aload_n 0, 1) := by decide +kernel
theorem dM_tellStory_20 : decode bM_tellStory 20 = .ok (.getfield 31, 3) := by decide +kernel
theorem dM_tellStory_23 : decode bM_tellStory 23 = .ok (.iload_n 2, 1) := by decide +kernel
theorem dM_tellStory_24 : decode bM_tellStory 24 = .ok (.aload_n 0, 1) := by decide +kernel
theorem dM_tellStory_25 : decode bM_tellStory 25 = .ok (.getfield 31, 3) := by decide +kernel
theorem dM_tellStory_28 : decode bM_tellStory 28 = .ok (.iload_n 2, 1) := by decide +kernel
theorem dM_tellStory_29 : decode bM_tellStory 29 = .ok (.iaload, 1) := by decide +kernel
theorem dM_tellStory_30 : decode bM_tellStory 30 = .ok (.iconst 2, 1) := by decide +kernel
theorem dM_tellStory_31 : decode bM_tellStory 31 = .ok (.if_icmp .ge 7, 3) := by decide +kernel
theorem dM_tellStory_34 : decode bM_tellStory 34 = .ok (.iconst 0, 1) := by decide +kernel
theorem dM_tellStory_35 : decode bM_tellStory 35 = .ok (.goto 11, 3) := by decide +kernel
theorem dM_tellStory_38 : decode bM_tellStory 38 = .ok (.aload_n 0, 1) := by decide +kernel
theorem dM_tellStory_39 : decode bM_tellStory 39 = .ok (.getfield 31, 3) := by decide +kernel
theorem dM_tellStory_42 : decode bM_tellStory 42 = .ok (.iload_n 2, 1) := by decide +kernel
theorem dM_tellStory_43 : decode bM_tellStory 43 = .ok (.iaload, 1) := by decide +kernel
theorem dM_tellStory_44 : decode bM_tellStory 44 = .ok (.iconst 2, 1) := by decide +kernel
theorem dM_tellStory_45 : decode bM_tellStory 45 = .ok (.isub, 1) := by decide +kernel
theorem dM_tellStory_46 : decode bM_tellStory 46 = .ok (.iastore, 1) := by decide +kernel
theorem dM_tellStory_47 : decode bM_tellStory 47 = .ok (.iinc 2 1, 3) := by decide +kernel
theorem dM_tellStory_50 : decode bM_tellStory 50 = .ok (.goto (-48), 3) := by decide +kernel
theorem dM_tellStory_53 : decode bM_tellStory 53 = .ok (.aload_n 0, 1) := by decide +kernel
theorem dM_tellStory_54 : decode bM_tellStory 54 = .ok (.getfield 31, 3) := by decide +kernel
theorem dM_tellStory_57 : decode bM_tellStory 57 = .ok (.iload_n 1, 1) := by decide +kernel
theorem dM_tellStory_58 : decode bM_tellStory 58 = .ok (.dup2, 1) := by decide +kernel
theorem dM_tellStory_59 : decode bM_tellStory 59 = .ok (.iaload, 1) := by decide +kernel
theorem dM_tellStory_60 : decode bM_tellStory 60 = .ok (.aload_n 0, 1) := by decide +kernel
theorem dM_tellStory_61 : decode bM_tellStory 61 = .ok (.getfield 28, 3) := by decide +kernel
theorem dM_tellStory_64 : decode bM_tellStory 64 = .ok (.iload_n 1, 1) := by decide +kernel
theorem dM_tellStory_65 : decode bM_tellStory 65 = .ok (.iaload, 1) := by decide +kernel
theorem dM_tellStory_66 : decode bM_tellStory 66 = .ok (.iconst 4, 1) := by decide +kernel
theorem dM_tellStory_67 : decode bM_tellStory 67 = .ok (.if_icmp .ne 7, 3) := by decide +kernel
theorem dM_tellStory_70 : decode bM_tellStory 70 = .ok (.iconst 0, 1) := by decide +kernel
theorem dM_tellStory_71 : decode bM_tellStory 71 = .ok (.goto 4, 3) := by decide +kernel
theorem dM_tellStory_74 : decode bM_tellStory 74 = .ok (.iconst 1, 1) := by decide +kernel
theorem dM_tellStory_75 : decode bM_tellStory 75 = .ok (.iadd, 1) := by decide +kernel
theorem dM_tellStory_76 : decode bM_tellStory 76 = .ok (.iastore, 1) := by decide +kernel
theorem dM_tellStory_77 : decode bM_tellStory 77 = .ok (.return_, 1) := by decide +kernel
def f_M_tellStory_2 (n : Nat) (k0 : Int32 → mb_T → Option (mb_T)) (y1 : Int32) : Nat → Int32 → mb_T → Option (mb_T)
  | 0, _, _ => none
  | f + 1, w2, s => if (s.1 200 8) ≤ w2 then k0 w2 s else mb_cl (f_M_isBeside n y1 w2 s) fun r_4 s_2 => if r_4 = 0 then f_M_tellStory_2 n k0 y1 f (w2 + 1) s_2 else mb_rd s_2 213 10 w2 fun x_6 => if 2 ≤ x_6 then (mb_rd s_2 213 10 w2 fun x_10 => mb_wr s_2 213 10 w2 (x_10 - 2) fun s_13 => f_M_tellStory_2 n k0 y1 f (w2 + 1) s_13) else mb_wr s_2 213 10 w2 0 fun s_16 => f_M_tellStory_2 n k0 y1 f (w2 + 1) s_16
def f_M_tellStory (n : Nat) (x1 : Int32) (s : mb_T) : Option (mb_T) := f_M_tellStory_2 n (fun x_19 s_20 => mb_rd s_20 213 10 x1 fun x_21 => mb_rd s_20 212 10 x1 fun x_24 => mb_wr s_20 213 10 x1 (x_21 + (if x_24 = 4 then 0 else 1 : Int32)) fun s_29 => some s_29) x1 n 0 s
set_option maxHeartbeats 4000000 in
set_option maxRecDepth 100000 in
theorem tl_M_tellStory_2 {dd n : Nat} {K : mj_KT} {out : mb_T} (hK : mj_C (dd + 2) 0 0 RM_c "tellStory" bM_tellStory 3 K) (hR : mj_R bM_tellStory none (fun r2 S2 => r2 = none ∧ S2 = mb_s out) K) {k0 : Int32 → mb_T → Option (mb_T)} {y1 : Int32} (hk0 : ∀ (w2 : Int32) (s : mb_T), k0 w2 s = some out → K 0 0 53 [.ref 200, .int y1, .int w2] [] (mb_s s)) : ∀ (f : Nat) (w2 : Int32) (s : mb_T), f_M_tellStory_2 n k0 y1 f w2 s = some out → K 0 0 2 [.ref 200, .int y1, .int w2] [] (mb_s s) := by
  intro f
  induction f with
  | zero =>
    intro w2 s h
    cases h
  | succ f ih =>
    intro w2 s h
    rw [f_M_tellStory_2] at h
    refine ro_iload_n hK dM_tellStory_2 rfl ?_
    refine ro_aload_n hK dM_tellStory_3 rfl ?_
    refine rb_get hK fM_161 mb_oM rfl dM_tellStory_4 ?_
    refine ro_icmp_ge (tgt := 53) hK dM_tellStory_7 (by decide) (fun c_1 => ?_) (fun c_1 => ?_)
    · replace h := mb_ift c_1 h
      refine ro_fg (lv' := [.ref 200, .int y1, .int w2]) hK ⟨Or.inr rfl, ⟨Or.inr rfl, ⟨Or.inr rfl, trivial⟩⟩⟩ ?_
      exact hk0 _ _ h
    · replace h := mb_iff c_1 h
      refine ro_aload_n hK dM_tellStory_10 rfl ?_
      refine ro_iload_n hK dM_tellStory_11 rfl ?_
      refine ro_iload_n hK dM_tellStory_12 rfl ?_
      obtain ⟨r_4, s_2, q_3, h⟩ := mb_cl_e h
      refine rb_callV hK mM_isBeside vM_192 (t_M_isBeside (dd := dd + 0) q_3) rfl mb_oM rfl (Nat.le_of_ble_eq_true rfl) dM_tellStory_13 rfl ⟨Nat.le_refl _, Nat.le_refl _⟩ ?_
      show K 0 0 16 [.ref 200, .int y1, .int w2] [.int r_4] (mb_s s_2)
      refine ro_if_eq (tgt := 47) hK dM_tellStory_16 (by decide) (fun c_5 => ?_) (fun c_5 => ?_)
      · replace h := mb_ift c_5 h
        refine ro_iincv (c := 1) hK (by decide) dM_tellStory_47 rfl (by decide) ?_
        show K 0 0 50 [.ref 200, .int y1, .int (w2 + 1)] [] (mb_s s_2)
        refine ro_goto (tgt := 2) hK dM_tellStory_50 (by decide) ?_
        refine ro_fg (lv' := [.ref 200, .int y1, .int (w2 + 1)]) hK ⟨Or.inr rfl, ⟨Or.inr rfl, ⟨Or.inr rfl, trivial⟩⟩⟩ ?_
        exact ih _ _ h
      · replace h := mb_iff c_5 h
        refine ro_aload_n hK dM_tellStory_19 rfl ?_
        refine rb_get hK fM_31 mb_oM rfl dM_tellStory_20 ?_
        refine ro_iload_n hK dM_tellStory_23 rfl ?_
        refine ro_aload_n hK dM_tellStory_24 rfl ?_
        refine rb_get hK fM_31 mb_oM rfl dM_tellStory_25 ?_
        refine ro_iload_n hK dM_tellStory_28 rfl ?_
        obtain ⟨x_6, e_7, i_8, h⟩ := mb_rd_e h
        refine rb_iald hK ai_213 i_8 e_7 dM_tellStory_29 ?_
        refine ro_iconst (x := 2) hK (by decide) dM_tellStory_30 ?_
        refine ro_icmp_ge (tgt := 38) hK dM_tellStory_31 (by decide) (fun c_9 => ?_) (fun c_9 => ?_)
        · replace h := mb_ift c_9 h
          refine ro_aload_n hK dM_tellStory_38 rfl ?_
          refine rb_get hK fM_31 mb_oM rfl dM_tellStory_39 ?_
          refine ro_iload_n hK dM_tellStory_42 rfl ?_
          obtain ⟨x_10, e_11, i_12, h⟩ := mb_rd_e h
          refine rb_iald hK ai_213 i_12 e_11 dM_tellStory_43 ?_
          refine ro_iconst (x := 2) hK (by decide) dM_tellStory_44 ?_
          refine ro_isub hK dM_tellStory_45 ?_
          obtain ⟨s_13, e_14, i_15, h⟩ := mb_wr_e h
          refine rb_iast hK ai_213 i_15 e_14 dM_tellStory_46 ?_
          refine ro_iincv (c := 1) hK (by decide) dM_tellStory_47 rfl (by decide) ?_
          show K 0 0 50 [.ref 200, .int y1, .int (w2 + 1)] [] (mb_s s_13)
          refine ro_goto (tgt := 2) hK dM_tellStory_50 (by decide) ?_
          refine ro_fg (lv' := [.ref 200, .int y1, .int (w2 + 1)]) hK ⟨Or.inr rfl, ⟨Or.inr rfl, ⟨Or.inr rfl, trivial⟩⟩⟩ ?_
          exact ih _ _ h
        · replace h := mb_iff c_9 h
          refine ro_iconst (x := 0) hK (by decide) dM_tellStory_34 ?_
          refine ro_goto (tgt := 46) hK dM_tellStory_35 (by decide) ?_
          obtain ⟨s_16, e_17, i_18, h⟩ := mb_wr_e h
          refine rb_iast hK ai_213 i_18 e_17 dM_tellStory_46 ?_
          refine ro_iincv (c := 1) hK (by decide) dM_tellStory_47 rfl (by decide) ?_
          show K 0 0 50 [.ref 200, .int y1, .int (w2 + 1)] [] (mb_s s_16)
          refine ro_goto (tgt := 2) hK dM_tellStory_50 (by decide) ?_
          refine ro_fg (lv' := [.ref 200, .int y1, .int (w2 + 1)]) hK ⟨Or.inr rfl, ⟨Or.inr rfl, ⟨Or.inr rfl, trivial⟩⟩⟩ ?_
          exact ih _ _ h
set_option maxHeartbeats 4000000 in
set_option maxRecDepth 100000 in
theorem t_M_tellStory {dd n : Nat} {x1 : Int32} {s : mb_T} {out : mb_T}  (h : f_M_tellStory n x1 s = some out) : mb_MC (dd + 2) yM_tellStory bM_tellStory 3 none [.ref 200, .int x1] s none out := by
  unfold f_M_tellStory at h
  refine mj_mc (lv := [.ref 200, .int x1, .retAddr 0]) mM_tellStory rfl rfl (Nat.le_of_ble_eq_true rfl) (fun K hK hR => ?_)
  have hK : mj_C (dd + 2) 0 0 RM_c "tellStory" bM_tellStory 3 K := hK
  refine ro_iconst (x := 0) hK (by decide) dM_tellStory_0 ?_
  refine ro_istore_n hK dM_tellStory_1 (by decide) ?_
  show K 0 0 2 [.ref 200, .int x1, .int 0] [] (mb_s s)
  refine ro_fg (lv' := [.ref 200, .int x1, .int 0]) hK ⟨Or.inr rfl, ⟨Or.inr rfl, ⟨Or.inr rfl, trivial⟩⟩⟩ ?_
  refine tl_M_tellStory_2 (dd := dd) hK hR (fun x_19 s_20 h => ?_) n _ _ h
  refine ro_aload_n hK dM_tellStory_53 rfl ?_
  refine rb_get hK fM_31 mb_oM rfl dM_tellStory_54 ?_
  refine ro_iload_n hK dM_tellStory_57 rfl ?_
  refine ro_dup2 hK dM_tellStory_58 rfl rfl ?_
  obtain ⟨x_21, e_22, i_23, h⟩ := mb_rd_e h
  refine rb_iald hK ai_213 i_23 e_22 dM_tellStory_59 ?_
  refine ro_aload_n hK dM_tellStory_60 rfl ?_
  refine rb_get hK fM_28 mb_oM rfl dM_tellStory_61 ?_
  refine ro_iload_n hK dM_tellStory_64 rfl ?_
  obtain ⟨x_24, e_25, i_26, h⟩ := mb_rd_e h
  refine rb_iald hK ai_212 i_26 e_25 dM_tellStory_65 ?_
  refine ro_iconst (x := 4) hK (by decide) dM_tellStory_66 ?_
  have j_28 : ∀ w_ : Int32, w_ = (if x_24 = 4 then 0 else 1 : Int32) → K 0 0 75 [.ref 200, .int x1, .int x_19] [.int w_, .int x_21, .int x1, .ref 213] (mb_s s_20) → K 0 0 67 [.ref 200, .int x1, .int x_19] [.int 4, .int x_24, .int x_21, .int x1, .ref 213] (mb_s s_20) := by
    intro w_ hw hj
    refine ro_icmp_ne (tgt := 74) hK dM_tellStory_67 (by decide) (fun c_27 => ?_) (fun c_27 => ?_)
    · skip
      refine ro_iconst (x := 1) hK (by decide) dM_tellStory_74 ?_
      have hw := (hw.trans (if_neg c_27))
      subst hw
      exact hj
    · skip
      refine ro_iconst (x := 0) hK (by decide) dM_tellStory_70 ?_
      refine ro_goto (tgt := 75) hK dM_tellStory_71 (by decide) ?_
      have hw := (hw.trans (if_pos c_27))
      subst hw
      exact hj
  refine j_28 _ rfl ?_
  refine ro_iadd hK dM_tellStory_75 ?_
  obtain ⟨s_29, e_30, i_31, h⟩ := mb_wr_e h
  refine rb_iast hK ai_213 i_31 e_30 dM_tellStory_76 ?_
  cases h
  exact hR.2.2 0 0 77 _ _ rfl dM_tellStory_77 ⟨rfl, rfl⟩
theorem dM_tells_0 : decode bM_tells 0 = .ok (.iconst 0, 1) := by decide +kernel
theorem dM_tells_1 : decode bM_tells 1 = .ok (.istore_n 2, 1) := by decide +kernel
theorem dM_tells_2 : decode bM_tells 2 = .ok (.iconst 0, 1) := by decide +kernel
theorem dM_tells_3 : decode bM_tells 3 = .ok (.istore_n 3, 1) := by decide +kernel
theorem dM_tells_4 : decode bM_tells 4 = .ok (.iload_n 3, 1) := by decide +kernel
theorem dM_tells_5 : decode bM_tells 5 = .ok (.bipush 6, 2) := by decide +kernel
theorem dM_tells_7 : decode bM_tells 7 = .ok (.if_icmp .ge 122, 3) := by decide +kernel
theorem dM_tells_10 : decode bM_tells 10 = .ok (.iload_n 2, 1) := by decide +kernel
theorem dM_tells_11 : decode bM_tells 11 = .ok (.iload_n 1, 1) := by decide +kernel
theorem dM_tells_12 : decode bM_tells 12 = .ok (.iconst 3, 1) := by decide +kernel
theorem dM_tells_13 : decode bM_tells 13 = .ok (.if_icmp .ne 19, 3) := by decide +kernel
theorem dM_tells_16 : decode bM_tells 16 = .ok (.iload_n 3, 1) := by decide +kernel
theorem dM_tells_17 : decode bM_tells 17 = .ok (.aload_n 0, 1) := by decide +kernel
theorem dM_tells_18 : decode bM_tells 18 = .ok (.getfield 161, 3) := by decide +kernel
theorem dM_tells_21 : decode bM_tells 21 = .ok (.if_icmp .ge 11, 3) := by decide +kernel
theorem dM_tells_24 : decode bM_tells 24 = .ok (.aload_n 0, 1) := by decide +kernel
theorem dM_tells_25 : decode bM_tells 25 = .ok (.iload_n 3, 1) := by decide +kernel
theorem dM_tells_26 : decode bM_tells 26 = .ok (.invokevirtual 189, 3) := by decide +kernel
theorem dM_tells_29 : decode bM_tells 29 = .ok (.ifCond .ne 87, 3) := by decide +kernel
theorem dM_tells_32 : decode bM_tells 32 = .ok (.iload_n 1, 1) := by decide +kernel
theorem dM_tells_33 : decode bM_tells 33 = .ok (.iconst 4, 1) := by decide +kernel
theorem dM_tells_34 : decode bM_tells 34 = .ok (.if_icmp .ne 22, 3) := by decide +kernel
theorem dM_tells_37 : decode bM_tells 37 = .ok (.iload_n 3, 1) := by decide +kernel
theorem dM_tells_38 : decode bM_tells 38 = .ok (.aload_n 0, 1) := by decide +kernel
theorem dM_tells_39 : decode bM_tells 39 = .ok (.getfield 161, 3) := by decide +kernel
theorem dM_tells_42 : decode bM_tells 42 = .ok (.if_icmp .ge 14, 3) := by decide +kernel
theorem dM_tells_45 : decode bM_tells 45 = .ok (.aload_n 0, 1) := by decide +kernel
theorem dM_tells_46 : decode bM_tells 46 = .ok (.invokevirtual 198, 3) := by decide +kernel
theorem dM_tells_49 : decode bM_tells 49 = .ok (.iload_n 3, 1) := by decide +kernel
theorem dM_tells_50 : decode bM_tells 50 = .ok (.invokestatic 176, 3) := by decide +kernel
theorem dM_tells_53 : decode bM_tells 53 = .ok (.ifCond .ne 63, 3) := by decide +kernel
theorem dM_tells_56 : decode bM_tells 56 = .ok (.iload_n 1, 1) := by decide +kernel
theorem dM_tells_57 : decode bM_tells 57 = .ok (.iconst 5, 1) := by decide +kernel
theorem dM_tells_58 : decode bM_tells 58 = .ok (.if_icmp .ne 23, 3) := by decide +kernel
theorem dM_tells_61 : decode bM_tells 61 = .ok (.iload_n 3, 1) := by decide +kernel
theorem dM_tells_62 : decode bM_tells 62 = .ok (.iconst 3, 1) := by decide +kernel
theorem dM_tells_63 : decode bM_tells 63 = .ok (.if_icmp .ge 18, 3) := by decide +kernel
theorem dM_tells_66 : decode bM_tells 66 = .ok (.aload_n 0, 1) := by decide +kernel
theorem dM_tells_67 : decode bM_tells 67 = .ok (.getfield 62, 3) := by decide +kernel
theorem dM_tells_70 : decode bM_tells 70 = .ok (.sipush 850, 3) := by decide +kernel
theorem dM_tells_73 : decode bM_tells 73 = .ok (.iload_n 3, 1) := by decide +kernel
theorem dM_tells_74 : decode bM_tells 74 = .ok (.imul, 1) := by decide +kernel
theorem dM_tells_75 : decode bM_tells 75 = .ok (.iaload, 1) := by decide +kernel
theorem dM_tells_76 : decode bM_tells 76 = .ok (.bipush (-9), 2) := by decide +kernel
theorem dM_tells_78 : decode bM_tells 78 = .ok (.if_icmp .ne 38, 3) := by decide +kernel
theorem dM_tells_81 : decode bM_tells 81 = .ok (.iload_n 1, 1) := by decide +kernel
theorem dM_tells_82 : decode bM_tells 82 = .ok (.bipush 6, 2) := by decide +kernel
theorem dM_tells_84 : decode bM_tells 84 = .ok (.if_icmp .ne 12, 3) := by decide +kernel
theorem dM_tells_87 : decode bM_tells 87 = .ok (.aload_n 0, 1) := by decide +kernel
theorem dM_tells_88 : decode bM_tells 88 = .ok (.getfield 13, 3) := by decide +kernel
theorem dM_tells_91 : decode bM_tells 91 = .ok (.iload_n 3, 1) := by decide +kernel
theorem dM_tells_92 : decode bM_tells 92 = .ok (.iaload, 1) := by decide +kernel
theorem dM_tells_93 : decode bM_tells 93 = .ok (.ifCond .ge 23, 3) := by decide +kernel
theorem dM_tells_96 : decode bM_tells 96 = .ok (.iload_n 1, 1) := by decide +kernel
theorem dM_tells_97 : decode bM_tells 97 = .ok (.bipush 7, 2) := by decide +kernel
theorem dM_tells_99 : decode bM_tells 99 = .ok (.if_icmp .ne 21, 3) := by decide +kernel
theorem dM_tells_102 : decode bM_tells 102 = .ok (.iload_n 3, 1) := by decide +kernel
theorem dM_tells_103 : decode bM_tells 103 = .ok (.iconst 4, 1) := by decide +kernel
theorem dM_tells_104 : decode bM_tells 104 = .ok (.if_icmp .ge 16, 3) := by decide +kernel
theorem dM_tells_107 : decode bM_tells 107 = .ok (.aload_n 0, 1) := by decide +kernel
theorem dM_tells_108 : decode bM_tells 108 = .ok (.getfield 22, 3) := by decide +kernel
theorem dM_tells_111 : decode bM_tells 111 = .ok (.iload_n 3, 1) := by decide +kernel
theorem dM_tells_112 : decode bM_tells 112 = .ok (.iaload, 1) := by decide +kernel
theorem dM_tells_113 : decode bM_tells 113 = .ok (.ifCond .lt 7, 3) := by decide +kernel
theorem dM_tells_116 : decode bM_tells 116 = .ok (.iconst 1, 1) := by decide +kernel
theorem dM_tells_117 : decode bM_tells 117 = .ok (.goto 4, 3) := by decide +kernel
theorem dM_tells_120 : decode bM_tells 120 = .ok (.iconst 0, 1) := by decide +kernel
theorem dM_tells_121 : decode bM_tells 121 = .ok (.iadd, 1) := by decide +kernel
theorem dM_tells_122 : decode bM_tells 122 = .ok (.istore_n 2, 1) := by decide +kernel
theorem dM_tells_123 : decode bM_tells 123 = .ok (.iinc 3 1, 3) := by decide +kernel
theorem dM_tells_126 : decode bM_tells 126 = .ok (.goto (-122), 3) := by decide +kernel
theorem dM_tells_129 : decode bM_tells 129 = .ok (.iload_n 1, 1) := by decide +kernel
theorem dM_tells_130 : decode bM_tells 130 = .ok (.ifCond .ne 10, 3) := by decide +kernel
theorem dM_tells_133 : decode bM_tells 133 = .ok (.aload_n 0, 1) := by decide +kernel
theorem dM_tells_134 : decode bM_tells 134 = .ok (.getfield 161, 3) := by decide +kernel
theorem dM_tells_137 : decode bM_tells 137 = .ok (.goto 28, 3) := by decide +kernel
theorem dM_tells_140 : decode bM_tells 140 = .ok (.iload_n 1, 1) := by decide +kernel
theorem dM_tells_141 : decode bM_tells 141 = .ok (.iconst 1, 1) := by decide +kernel
theorem dM_tells_142 : decode bM_tells 142 = .ok (.if_icmp .ne 10, 3) := by decide +kernel
theorem dM_tells_145 : decode bM_tells 145 = .ok (.aload_n 0, 1) := by decide +kernel
theorem dM_tells_146 : decode bM_tells 146 = .ok (.getfield 173, 3) := by decide +kernel
theorem dM_tells_149 : decode bM_tells 149 = .ok (.goto 16, 3) := by decide +kernel
theorem dM_tells_152 : decode bM_tells 152 = .ok (.iload_n 1, 1) := by decide +kernel
theorem dM_tells_153 : decode bM_tells 153 = .ok (.iconst 2, 1) := by decide +kernel
theorem dM_tells_154 : decode bM_tells 154 = .ok (.if_icmp .ne 10, 3) := by decide +kernel
theorem dM_tells_157 : decode bM_tells 157 = .ok (.aload_n 0, 1) := by decide +kernel
theorem dM_tells_158 : decode bM_tells 158 = .ok (.getfield 170, 3) := by decide +kernel
theorem dM_tells_161 : decode bM_tells 161 = .ok (.goto 4, 3) := by decide +kernel
theorem dM_tells_164 : decode bM_tells 164 = .ok (.iload_n 2, 1) := by decide +kernel
theorem dM_tells_165 : decode bM_tells 165 = .ok (.ireturn, 1) := by decide +kernel
def f_M_tells_4 (n : Nat) (k0 : Int32 → Int32 → mb_T → Option (Int32 × mb_T)) (y1 : Int32) : Nat → Int32 → Int32 → mb_T → Option (Int32 × mb_T)
  | 0, _, _, _ => none
  | f + 1, w2, w3, s => if 6 ≤ w3 then k0 w2 w3 s else mb_jn (fun (x_47 : Int32) (s_48 : mb_T) => f_M_tells_4 n k0 y1 f (w2 + x_47) (w3 + 1) s_48) fun j_3 => mb_jn (fun (s_10 : mb_T) => mb_jn (fun (s_21 : mb_T) => mb_jn (fun (s_29 : mb_T) => mb_jn (fun (s_36 : mb_T) => if y1 = 7 then (if 4 ≤ w3 then j_3 0 s_36 else mb_rd s_36 206 4 w3 fun x_39 => j_3 (if x_39 < 0 then 0 else 1 : Int32) s_36) else j_3 0 s_36) fun j_30 => if y1 = 6 then (mb_rd s_29 203 6 w3 fun x_32 => if 0 ≤ x_32 then j_3 1 s_29 else j_30 s_29) else j_30 s_29) fun j_22 => if y1 = 5 then (if 3 ≤ w3 then j_22 s_21 else mb_rd s_21 229 2550 (850 * w3) fun x_25 => if x_25 = (-9) then j_22 s_21 else j_3 1 s_21) else j_22 s_21) fun j_11 => if y1 = 4 then (if (s_10.1 200 8) ≤ w3 then j_11 s_10 else mb_cl (f_M_screaming n s_10) fun r_16 s_14 => mb_cl (f_M_has n r_16 w3 s_14) fun r_19 s_17 => if r_19 = 0 then j_11 s_17 else j_3 1 s_17) else j_11 s_10) fun j_2 => if y1 = 3 then (if (s.1 200 8) ≤ w3 then j_2 s else mb_cl (f_M_isCalm n w3 s) fun r_8 s_6 => if r_8 = 0 then j_2 s_6 else j_3 1 s_6) else j_2 s
def f_M_tells (n : Nat) (x1 : Int32) (s : mb_T) : Option (Int32 × mb_T) := f_M_tells_4 n (fun x_51 x_52 s_53 => some ((if x1 = 0 then (s_53.1 200 8) else (if x1 = 1 then (s_53.1 200 24) else (if x1 = 2 then (s_53.1 200 11) else x_51 : Int32) : Int32) : Int32), s_53)) x1 n 0 0 s
set_option maxHeartbeats 4000000 in
set_option maxRecDepth 100000 in
theorem tl_M_tells_4 {dd n : Nat} {K : mj_KT} {out : Int32 × mb_T} (hK : mj_C (dd + 2) 0 0 RM_c "tells" bM_tells 4 K) (hR : mj_R bM_tells (some .int) (fun r2 S2 => r2 = some (.int out.1) ∧ S2 = mb_s out.2) K) {k0 : Int32 → Int32 → mb_T → Option (Int32 × mb_T)} {y1 : Int32} (hk0 : ∀ (w2 : Int32) (w3 : Int32) (s : mb_T), k0 w2 w3 s = some out → K 0 0 129 [.ref 200, .int y1, .int w2, .int w3] [] (mb_s s)) : ∀ (f : Nat) (w2 : Int32) (w3 : Int32) (s : mb_T), f_M_tells_4 n k0 y1 f w2 w3 s = some out → K 0 0 4 [.ref 200, .int y1, .int w2, .int w3] [] (mb_s s) := by
  intro f
  induction f with
  | zero =>
    intro w2 w3 s h
    cases h
  | succ f ih =>
    intro w2 w3 s h
    rw [f_M_tells_4] at h
    refine ro_iload_n hK dM_tells_4 rfl ?_
    refine ro_bipush (x := 6) hK (by decide) dM_tells_5 ?_
    refine ro_icmp_ge (tgt := 129) hK dM_tells_7 (by decide) (fun c_1 => ?_) (fun c_1 => ?_)
    · replace h := mb_ift c_1 h
      refine ro_fg (lv' := [.ref 200, .int y1, .int w2, .int w3]) hK ⟨Or.inr rfl, ⟨Or.inr rfl, ⟨Or.inr rfl, ⟨Or.inr rfl, trivial⟩⟩⟩⟩ ?_
      exact hk0 _ _ _ h
    · replace h := mb_iff c_1 h
      refine ro_iload_n hK dM_tells_10 rfl ?_
      refine ro_iload_n hK dM_tells_11 rfl ?_
      refine ro_iconst (x := 3) hK (by decide) dM_tells_12 ?_
      obtain ⟨j_3, e_50, h⟩ := mb_jn_e h
      have hj_3 : ∀ (x_47 : Int32) (s_48 : mb_T), j_3 x_47 s_48 = some out → K 0 0 121 [.ref 200, .int y1, .int w2, .int w3] [.int x_47, .int w2] (mb_s s_48) := by
        intro x_47 s_48 h
        rw [e_50] at h
        refine ro_iadd hK dM_tells_121 ?_
        refine ro_istore_n hK dM_tells_122 (by decide) ?_
        show K 0 0 123 [.ref 200, .int y1, .int (w2 + x_47), .int w3] [] (mb_s s_48)
        refine ro_iincv (c := 1) hK (by decide) dM_tells_123 rfl (by decide) ?_
        show K 0 0 126 [.ref 200, .int y1, .int (w2 + x_47), .int (w3 + 1)] [] (mb_s s_48)
        refine ro_goto (tgt := 4) hK dM_tells_126 (by decide) ?_
        refine ro_fg (lv' := [.ref 200, .int y1, .int (w2 + x_47), .int (w3 + 1)]) hK ⟨Or.inr rfl, ⟨Or.inr rfl, ⟨Or.inr rfl, ⟨Or.inr rfl, trivial⟩⟩⟩⟩ ?_
        exact ih _ _ _ h
      obtain ⟨j_2, e_49, h⟩ := mb_jn_e h
      have hj_2 : ∀ (s_10 : mb_T), j_2 s_10 = some out → K 0 0 32 [.ref 200, .int y1, .int w2, .int w3] [.int w2] (mb_s s_10) := by
        intro s_10 h
        rw [e_49] at h
        refine ro_iload_n hK dM_tells_32 rfl ?_
        refine ro_iconst (x := 4) hK (by decide) dM_tells_33 ?_
        obtain ⟨j_11, e_46, h⟩ := mb_jn_e h
        have hj_11 : ∀ (s_21 : mb_T), j_11 s_21 = some out → K 0 0 56 [.ref 200, .int y1, .int w2, .int w3] [.int w2] (mb_s s_21) := by
          intro s_21 h
          rw [e_46] at h
          refine ro_iload_n hK dM_tells_56 rfl ?_
          refine ro_iconst (x := 5) hK (by decide) dM_tells_57 ?_
          obtain ⟨j_22, e_45, h⟩ := mb_jn_e h
          have hj_22 : ∀ (s_29 : mb_T), j_22 s_29 = some out → K 0 0 81 [.ref 200, .int y1, .int w2, .int w3] [.int w2] (mb_s s_29) := by
            intro s_29 h
            rw [e_45] at h
            refine ro_iload_n hK dM_tells_81 rfl ?_
            refine ro_bipush (x := 6) hK (by decide) dM_tells_82 ?_
            obtain ⟨j_30, e_44, h⟩ := mb_jn_e h
            have hj_30 : ∀ (s_36 : mb_T), j_30 s_36 = some out → K 0 0 96 [.ref 200, .int y1, .int w2, .int w3] [.int w2] (mb_s s_36) := by
              intro s_36 h
              rw [e_44] at h
              refine ro_iload_n hK dM_tells_96 rfl ?_
              refine ro_bipush (x := 7) hK (by decide) dM_tells_97 ?_
              refine ro_icmp_ne (tgt := 120) hK dM_tells_99 (by decide) (fun c_37 => ?_) (fun c_37 => ?_)
              · replace h := mb_iff c_37 h
                refine ro_iconst (x := 0) hK (by decide) dM_tells_120 ?_
                refine ro_fg (lv' := [.ref 200, .int y1, .int w2, .int w3]) hK ⟨Or.inr rfl, ⟨Or.inr rfl, ⟨Or.inr rfl, ⟨Or.inr rfl, trivial⟩⟩⟩⟩ ?_
                exact hj_3 _ _ h
              · replace h := mb_ift c_37 h
                refine ro_iload_n hK dM_tells_102 rfl ?_
                refine ro_iconst (x := 4) hK (by decide) dM_tells_103 ?_
                refine ro_icmp_ge (tgt := 120) hK dM_tells_104 (by decide) (fun c_38 => ?_) (fun c_38 => ?_)
                · replace h := mb_ift c_38 h
                  refine ro_iconst (x := 0) hK (by decide) dM_tells_120 ?_
                  refine ro_fg (lv' := [.ref 200, .int y1, .int w2, .int w3]) hK ⟨Or.inr rfl, ⟨Or.inr rfl, ⟨Or.inr rfl, ⟨Or.inr rfl, trivial⟩⟩⟩⟩ ?_
                  exact hj_3 _ _ h
                · replace h := mb_iff c_38 h
                  refine ro_aload_n hK dM_tells_107 rfl ?_
                  refine rb_get hK fM_22 mb_oM rfl dM_tells_108 ?_
                  refine ro_iload_n hK dM_tells_111 rfl ?_
                  obtain ⟨x_39, e_40, i_41, h⟩ := mb_rd_e h
                  refine rb_iald hK ai_206 i_41 e_40 dM_tells_112 ?_
                  have j_43 : ∀ w_ : Int32, w_ = (if x_39 < 0 then 0 else 1 : Int32) → K 0 0 121 [.ref 200, .int y1, .int w2, .int w3] [.int w_, .int w2] (mb_s s_36) → K 0 0 113 [.ref 200, .int y1, .int w2, .int w3] [.int x_39, .int w2] (mb_s s_36) := by
                    intro w_ hw hj
                    refine ro_if_lt (tgt := 120) hK dM_tells_113 (by decide) (fun c_42 => ?_) (fun c_42 => ?_)
                    · skip
                      refine ro_iconst (x := 0) hK (by decide) dM_tells_120 ?_
                      have hw := (hw.trans (if_pos c_42))
                      subst hw
                      exact hj
                    · skip
                      refine ro_iconst (x := 1) hK (by decide) dM_tells_116 ?_
                      refine ro_goto (tgt := 121) hK dM_tells_117 (by decide) ?_
                      have hw := (hw.trans (if_neg c_42))
                      subst hw
                      exact hj
                  refine j_43 _ rfl ?_
                  refine ro_fg (lv' := [.ref 200, .int y1, .int w2, .int w3]) hK ⟨Or.inr rfl, ⟨Or.inr rfl, ⟨Or.inr rfl, ⟨Or.inr rfl, trivial⟩⟩⟩⟩ ?_
                  exact hj_3 _ _ h
            refine ro_icmp_ne (tgt := 96) hK dM_tells_84 (by decide) (fun c_31 => ?_) (fun c_31 => ?_)
            · replace h := mb_iff c_31 h
              refine ro_fg (lv' := [.ref 200, .int y1, .int w2, .int w3]) hK ⟨Or.inr rfl, ⟨Or.inr rfl, ⟨Or.inr rfl, ⟨Or.inr rfl, trivial⟩⟩⟩⟩ ?_
              exact hj_30 _ h
            · replace h := mb_ift c_31 h
              refine ro_aload_n hK dM_tells_87 rfl ?_
              refine rb_get hK fM_13 mb_oM rfl dM_tells_88 ?_
              refine ro_iload_n hK dM_tells_91 rfl ?_
              obtain ⟨x_32, e_33, i_34, h⟩ := mb_rd_e h
              refine rb_iald hK ai_203 i_34 e_33 dM_tells_92 ?_
              refine ro_if_ge (tgt := 116) hK dM_tells_93 (by decide) (fun c_35 => ?_) (fun c_35 => ?_)
              · replace h := mb_ift c_35 h
                refine ro_iconst (x := 1) hK (by decide) dM_tells_116 ?_
                refine ro_goto (tgt := 121) hK dM_tells_117 (by decide) ?_
                refine ro_fg (lv' := [.ref 200, .int y1, .int w2, .int w3]) hK ⟨Or.inr rfl, ⟨Or.inr rfl, ⟨Or.inr rfl, ⟨Or.inr rfl, trivial⟩⟩⟩⟩ ?_
                exact hj_3 _ _ h
              · replace h := mb_iff c_35 h
                refine ro_fg (lv' := [.ref 200, .int y1, .int w2, .int w3]) hK ⟨Or.inr rfl, ⟨Or.inr rfl, ⟨Or.inr rfl, ⟨Or.inr rfl, trivial⟩⟩⟩⟩ ?_
                exact hj_30 _ h
          refine ro_icmp_ne (tgt := 81) hK dM_tells_58 (by decide) (fun c_23 => ?_) (fun c_23 => ?_)
          · replace h := mb_iff c_23 h
            refine ro_fg (lv' := [.ref 200, .int y1, .int w2, .int w3]) hK ⟨Or.inr rfl, ⟨Or.inr rfl, ⟨Or.inr rfl, ⟨Or.inr rfl, trivial⟩⟩⟩⟩ ?_
            exact hj_22 _ h
          · replace h := mb_ift c_23 h
            refine ro_iload_n hK dM_tells_61 rfl ?_
            refine ro_iconst (x := 3) hK (by decide) dM_tells_62 ?_
            refine ro_icmp_ge (tgt := 81) hK dM_tells_63 (by decide) (fun c_24 => ?_) (fun c_24 => ?_)
            · replace h := mb_ift c_24 h
              refine ro_fg (lv' := [.ref 200, .int y1, .int w2, .int w3]) hK ⟨Or.inr rfl, ⟨Or.inr rfl, ⟨Or.inr rfl, ⟨Or.inr rfl, trivial⟩⟩⟩⟩ ?_
              exact hj_22 _ h
            · replace h := mb_iff c_24 h
              refine ro_aload_n hK dM_tells_66 rfl ?_
              refine rb_get hK fM_62 mb_oM rfl dM_tells_67 ?_
              refine ro_sipush (x := 850) hK (by decide) dM_tells_70 ?_
              refine ro_iload_n hK dM_tells_73 rfl ?_
              refine ro_imul hK dM_tells_74 ?_
              obtain ⟨x_25, e_26, i_27, h⟩ := mb_rd_e h
              refine rb_iald hK ai_229 i_27 e_26 dM_tells_75 ?_
              refine ro_bipush (x := (-9)) hK (by decide) dM_tells_76 ?_
              refine ro_icmp_ne (tgt := 116) hK dM_tells_78 (by decide) (fun c_28 => ?_) (fun c_28 => ?_)
              · replace h := mb_iff c_28 h
                refine ro_iconst (x := 1) hK (by decide) dM_tells_116 ?_
                refine ro_goto (tgt := 121) hK dM_tells_117 (by decide) ?_
                refine ro_fg (lv' := [.ref 200, .int y1, .int w2, .int w3]) hK ⟨Or.inr rfl, ⟨Or.inr rfl, ⟨Or.inr rfl, ⟨Or.inr rfl, trivial⟩⟩⟩⟩ ?_
                exact hj_3 _ _ h
              · replace h := mb_ift c_28 h
                refine ro_fg (lv' := [.ref 200, .int y1, .int w2, .int w3]) hK ⟨Or.inr rfl, ⟨Or.inr rfl, ⟨Or.inr rfl, ⟨Or.inr rfl, trivial⟩⟩⟩⟩ ?_
                exact hj_22 _ h
        refine ro_icmp_ne (tgt := 56) hK dM_tells_34 (by decide) (fun c_12 => ?_) (fun c_12 => ?_)
        · replace h := mb_iff c_12 h
          refine ro_fg (lv' := [.ref 200, .int y1, .int w2, .int w3]) hK ⟨Or.inr rfl, ⟨Or.inr rfl, ⟨Or.inr rfl, ⟨Or.inr rfl, trivial⟩⟩⟩⟩ ?_
          exact hj_11 _ h
        · replace h := mb_ift c_12 h
          refine ro_iload_n hK dM_tells_37 rfl ?_
          refine ro_aload_n hK dM_tells_38 rfl ?_
          refine rb_get hK fM_161 mb_oM rfl dM_tells_39 ?_
          refine ro_icmp_ge (tgt := 56) hK dM_tells_42 (by decide) (fun c_13 => ?_) (fun c_13 => ?_)
          · replace h := mb_ift c_13 h
            refine ro_fg (lv' := [.ref 200, .int y1, .int w2, .int w3]) hK ⟨Or.inr rfl, ⟨Or.inr rfl, ⟨Or.inr rfl, ⟨Or.inr rfl, trivial⟩⟩⟩⟩ ?_
            exact hj_11 _ h
          · replace h := mb_iff c_13 h
            refine ro_aload_n hK dM_tells_45 rfl ?_
            obtain ⟨r_16, s_14, q_15, h⟩ := mb_cl_e h
            refine rb_callV hK mM_screaming vM_198 (t_M_screaming (dd := dd + 0) q_15) rfl mb_oM rfl (Nat.le_of_ble_eq_true rfl) dM_tells_46 rfl ⟨Nat.le_refl _, Nat.le_refl _⟩ ?_
            show K 0 0 49 [.ref 200, .int y1, .int w2, .int w3] [.int r_16, .int w2] (mb_s s_14)
            refine ro_iload_n hK dM_tells_49 rfl ?_
            obtain ⟨r_19, s_17, q_18, h⟩ := mb_cl_e h
            refine rb_callS hK mM_has vM_176 (t_M_has (dd := dd + 0) q_18) rfl (Nat.le_of_ble_eq_true rfl) dM_tells_50 rfl ⟨Nat.le_refl _, Nat.le_refl _⟩ ?_
            show K 0 0 53 [.ref 200, .int y1, .int w2, .int w3] [.int r_19, .int w2] (mb_s s_17)
            refine ro_if_ne (tgt := 116) hK dM_tells_53 (by decide) (fun c_20 => ?_) (fun c_20 => ?_)
            · replace h := mb_iff c_20 h
              refine ro_iconst (x := 1) hK (by decide) dM_tells_116 ?_
              refine ro_goto (tgt := 121) hK dM_tells_117 (by decide) ?_
              refine ro_fg (lv' := [.ref 200, .int y1, .int w2, .int w3]) hK ⟨Or.inr rfl, ⟨Or.inr rfl, ⟨Or.inr rfl, ⟨Or.inr rfl, trivial⟩⟩⟩⟩ ?_
              exact hj_3 _ _ h
            · replace h := mb_ift c_20 h
              refine ro_fg (lv' := [.ref 200, .int y1, .int w2, .int w3]) hK ⟨Or.inr rfl, ⟨Or.inr rfl, ⟨Or.inr rfl, ⟨Or.inr rfl, trivial⟩⟩⟩⟩ ?_
              exact hj_11 _ h
      refine ro_icmp_ne (tgt := 32) hK dM_tells_13 (by decide) (fun c_4 => ?_) (fun c_4 => ?_)
      · replace h := mb_iff c_4 h
        refine ro_fg (lv' := [.ref 200, .int y1, .int w2, .int w3]) hK ⟨Or.inr rfl, ⟨Or.inr rfl, ⟨Or.inr rfl, ⟨Or.inr rfl, trivial⟩⟩⟩⟩ ?_
        exact hj_2 _ h
      · replace h := mb_ift c_4 h
        refine ro_iload_n hK dM_tells_16 rfl ?_
        refine ro_aload_n hK dM_tells_17 rfl ?_
        refine rb_get hK fM_161 mb_oM rfl dM_tells_18 ?_
        refine ro_icmp_ge (tgt := 32) hK dM_tells_21 (by decide) (fun c_5 => ?_) (fun c_5 => ?_)
        · replace h := mb_ift c_5 h
          refine ro_fg (lv' := [.ref 200, .int y1, .int w2, .int w3]) hK ⟨Or.inr rfl, ⟨Or.inr rfl, ⟨Or.inr rfl, ⟨Or.inr rfl, trivial⟩⟩⟩⟩ ?_
          exact hj_2 _ h
        · replace h := mb_iff c_5 h
          refine ro_aload_n hK dM_tells_24 rfl ?_
          refine ro_iload_n hK dM_tells_25 rfl ?_
          obtain ⟨r_8, s_6, q_7, h⟩ := mb_cl_e h
          refine rb_callV hK mM_isCalm vM_189 (t_M_isCalm (dd := dd + 0) q_7) rfl mb_oM rfl (Nat.le_of_ble_eq_true rfl) dM_tells_26 rfl ⟨Nat.le_refl _, Nat.le_refl _⟩ ?_
          show K 0 0 29 [.ref 200, .int y1, .int w2, .int w3] [.int r_8, .int w2] (mb_s s_6)
          refine ro_if_ne (tgt := 116) hK dM_tells_29 (by decide) (fun c_9 => ?_) (fun c_9 => ?_)
          · replace h := mb_iff c_9 h
            refine ro_iconst (x := 1) hK (by decide) dM_tells_116 ?_
            refine ro_goto (tgt := 121) hK dM_tells_117 (by decide) ?_
            refine ro_fg (lv' := [.ref 200, .int y1, .int w2, .int w3]) hK ⟨Or.inr rfl, ⟨Or.inr rfl, ⟨Or.inr rfl, ⟨Or.inr rfl, trivial⟩⟩⟩⟩ ?_
            exact hj_3 _ _ h
          · replace h := mb_ift c_9 h
            refine ro_fg (lv' := [.ref 200, .int y1, .int w2, .int w3]) hK ⟨Or.inr rfl, ⟨Or.inr rfl, ⟨Or.inr rfl, ⟨Or.inr rfl, trivial⟩⟩⟩⟩ ?_
            exact hj_2 _ h
set_option maxHeartbeats 4000000 in
set_option maxRecDepth 100000 in
theorem t_M_tells {dd n : Nat} {x1 : Int32} {s : mb_T} {out : Int32 × mb_T}  (h : f_M_tells n x1 s = some out) : mb_MC (dd + 2) yM_tells bM_tells 4 (some .int) [.ref 200, .int x1] s (some (.int out.1)) out.2 := by
  unfold f_M_tells at h
  refine mj_mc (lv := [.ref 200, .int x1, .retAddr 0, .retAddr 0]) mM_tells rfl rfl (Nat.le_of_ble_eq_true rfl) (fun K hK hR => ?_)
  have hK : mj_C (dd + 2) 0 0 RM_c "tells" bM_tells 4 K := hK
  refine ro_iconst (x := 0) hK (by decide) dM_tells_0 ?_
  refine ro_istore_n hK dM_tells_1 (by decide) ?_
  show K 0 0 2 [.ref 200, .int x1, .int 0, .retAddr 0] [] (mb_s s)
  refine ro_iconst (x := 0) hK (by decide) dM_tells_2 ?_
  refine ro_istore_n hK dM_tells_3 (by decide) ?_
  show K 0 0 4 [.ref 200, .int x1, .int 0, .int 0] [] (mb_s s)
  refine ro_fg (lv' := [.ref 200, .int x1, .int 0, .int 0]) hK ⟨Or.inr rfl, ⟨Or.inr rfl, ⟨Or.inr rfl, ⟨Or.inr rfl, trivial⟩⟩⟩⟩ ?_
  refine tl_M_tells_4 (dd := dd) hK hR (fun x_51 x_52 s_53 h => ?_) n _ _ _ h
  refine ro_iload_n hK dM_tells_129 rfl ?_
  have j_57 : ∀ w_ : Int32, w_ = (if x1 = 0 then (s_53.1 200 8) else (if x1 = 1 then (s_53.1 200 24) else (if x1 = 2 then (s_53.1 200 11) else x_51 : Int32) : Int32) : Int32) → K 0 0 165 [.ref 200, .int x1, .int x_51, .int x_52] [.int w_] (mb_s s_53) → K 0 0 130 [.ref 200, .int x1, .int x_51, .int x_52] [.int x1] (mb_s s_53) := by
    intro w_ hw hj
    refine ro_if_ne (tgt := 140) hK dM_tells_130 (by decide) (fun c_54 => ?_) (fun c_54 => ?_)
    · skip
      refine ro_iload_n hK dM_tells_140 rfl ?_
      refine ro_iconst (x := 1) hK (by decide) dM_tells_141 ?_
      refine ro_icmp_ne (tgt := 152) hK dM_tells_142 (by decide) (fun c_55 => ?_) (fun c_55 => ?_)
      · skip
        refine ro_iload_n hK dM_tells_152 rfl ?_
        refine ro_iconst (x := 2) hK (by decide) dM_tells_153 ?_
        refine ro_icmp_ne (tgt := 164) hK dM_tells_154 (by decide) (fun c_56 => ?_) (fun c_56 => ?_)
        · skip
          refine ro_iload_n hK dM_tells_164 rfl ?_
          have hw := (((hw.trans (if_neg c_54)).trans (if_neg c_55)).trans (if_neg c_56))
          subst hw
          exact hj
        · skip
          refine ro_aload_n hK dM_tells_157 rfl ?_
          refine rb_get hK fM_170 mb_oM rfl dM_tells_158 ?_
          refine ro_goto (tgt := 165) hK dM_tells_161 (by decide) ?_
          have hw := (((hw.trans (if_neg c_54)).trans (if_neg c_55)).trans (if_pos c_56))
          subst hw
          exact hj
      · skip
        refine ro_aload_n hK dM_tells_145 rfl ?_
        refine rb_get hK fM_173 mb_oM rfl dM_tells_146 ?_
        refine ro_goto (tgt := 165) hK dM_tells_149 (by decide) ?_
        have hw := ((hw.trans (if_neg c_54)).trans (if_pos c_55))
        subst hw
        exact hj
    · skip
      refine ro_aload_n hK dM_tells_133 rfl ?_
      refine rb_get hK fM_161 mb_oM rfl dM_tells_134 ?_
      refine ro_goto (tgt := 165) hK dM_tells_137 (by decide) ?_
      have hw := (hw.trans (if_pos c_54))
      subst hw
      exact hj
  refine j_57 _ rfl ?_
  cases h
  exact hR.1 0 0 165 _ _ _ _ rfl rfl dM_tells_165 ⟨rfl, rfl⟩
theorem dM_undo_0 : decode bM_undo 0 = .ok (.iload_n 1, 1) := by decide +kernel
theorem dM_undo_1 : decode bM_undo 1 = .ok (.iconst 0, 1) := by decide +kernel
theorem dM_undo_2 : decode bM_undo 2 = .ok (.aload_n 0, 1) := by decide +kernel
theorem dM_undo_3 : decode bM_undo 3 = .ok (.getfield 173, 3) := by decide +kernel
theorem dM_undo_6 : decode bM_undo 6 = .ok (.invokestatic 92, 3) := by decide +kernel
theorem dM_undo_9 : decode bM_undo 9 = .ok (.ifCond .ne 5, 3) := by decide +kernel
theorem dM_undo_12 : decode bM_undo 12 = .ok (.iconst (-1), 1) := by decide +kernel
theorem dM_undo_13 : decode bM_undo 13 = .ok (.ireturn, 1) := by decide +kernel
theorem dM_undo_14 : decode bM_undo 14 = .ok (.aload_n 0, 1) := by decide +kernel
theorem dM_undo_15 : decode bM_undo 15 = .ok (.getfield 173, 3) := by decide +kernel
theorem dM_undo_18 : decode bM_undo 18 = .ok (.iload_n 1, 1) := by decide +kernel
theorem dM_undo_19 : decode bM_undo 19 = .ok (.isub, 1) := by decide +kernel
theorem dM_undo_20 : decode bM_undo 20 = .ok (.istore_n 2, 1) := by decide +kernel
theorem dM_undo_21 : decode bM_undo 21 = .ok (.iload_n 2, 1) := by decide +kernel
theorem dM_undo_22 : decode bM_undo 22 = .ok (.ifCond .le 74, 3) := by decide +kernel
theorem dM_undo_25 : decode bM_undo 25 = .ok (.aload_n 0, 1) := by decide +kernel
theorem dM_undo_26 : decode bM_undo 26 = .ok (.aload_n 0, 1) := by decide +kernel
theorem dM_undo_27 : decode bM_undo 27 = .ok (.getfield 56, 3) := by decide +kernel
theorem dM_undo_30 : decode bM_undo 30 = .ok (.bipush 6, 2) := by decide +kernel
theorem dM_undo_32 : decode bM_undo 32 = .ok (.iload_n 1, 1) := by decide +kernel
theorem dM_undo_33 : decode bM_undo 33 = .ok (.imul, 1) := by decide +kernel
theorem dM_undo_34 : decode bM_undo 34 = .ok (.iaload, 1) := by decide +kernel
theorem dM_undo_35 : decode bM_undo 35 = .ok (.putfield 170, 3) := by decide +kernel
theorem dM_undo_38 : decode bM_undo 38 = .ok (.iconst 0, 1) := by decide +kernel
theorem dM_undo_39 : decode bM_undo 39 = .ok (.istore_n 3, 1) := by decide +kernel
theorem dM_undo_40 : decode bM_undo 40 = .ok (.iload_n 3, 1) := by decide +kernel
theorem dM_undo_41 : decode bM_undo 41 = .ok (.iconst 5, 1) := by decide +kernel
theorem dM_undo_42 : decode bM_undo 42 = .ok (.if_icmp .ge 28, 3) := by decide +kernel
theorem dM_undo_45 : decode bM_undo 45 = .ok (.aload_n 0, 1) := by decide +kernel
theorem dM_undo_46 : decode bM_undo 46 = .ok (.getfield 31, 3) := by decide +kernel
theorem dM_undo_49 : decode bM_undo 49 = .ok (.iload_n 3, 1) := by decide +kernel
theorem dM_undo_50 : decode bM_undo 50 = .ok (.aload_n 0, 1) := by decide +kernel
theorem dM_undo_51 : decode bM_undo 51 = .ok (.getfield 56, 3) := by decide +kernel
theorem dM_undo_54 : decode bM_undo 54 = .ok (.bipush 6, 2) := by decide +kernel
theorem dM_undo_56 : decode bM_undo 56 = .ok (.iload_n 1, 1) := by decide +kernel
theorem dM_undo_57 : decode bM_undo 57 = .ok (.imul, 1) := by decide +kernel
theorem dM_undo_58 : decode bM_undo 58 = .ok (.iconst 1, 1) := by decide +kernel
theorem dM_undo_59 : decode bM_undo 59 = .ok (.iadd, 1) := by decide +kernel
theorem dM_undo_60 : decode bM_undo 60 = .ok (.iload_n 3, 1) := by decide +kernel
theorem dM_undo_61 : decode bM_undo 61 = .ok (.iadd, 1) := by decide +kernel
theorem dM_undo_62 : decode bM_undo 62 = .ok (.iaload, 1) := by decide +kernel
theorem dM_undo_63 : decode bM_undo 63 = .ok (.iastore, 1) := by decide +kernel
theorem dM_undo_64 : decode bM_undo 64 = .ok (.iinc 3 1, 3) := by decide +kernel
theorem dM_undo_67 : decode bM_undo 67 = .ok (.goto (-27), 3) := by decide +kernel
theorem dM_undo_70 : decode bM_undo 70 = .ok (.aload_n 0, 1) := by decide +kernel
theorem dM_undo_71 : decode bM_undo 71 = .ok (.iload_n 1, 1) := by decide +kernel
theorem dM_undo_72 : decode bM_undo 72 = .ok (.putfield 173, 3) := by decide +kernel
theorem dM_undo_75 : decode bM_undo 75 = .ok (.aload_n 0, 1) := by decide +kernel
theorem dM_undo_76 : decode bM_undo 76 = .ok (.iload_n 1, 1) := by decide +kernel
theorem dM_undo_77 : decode bM_undo 77 = .ok (.ifCond .ne 8, 3) := by decide +kernel
theorem dM_undo_80 : decode bM_undo 80 = .ok (.bipush (-9), 2) := by decide +kernel
theorem dM_undo_82 : decode bM_undo 82 = .ok (.goto 11, 3) := by decide +kernel
theorem dM_undo_85 : decode bM_undo 85 = .ok (.aload_n 0, 1) := by decide +kernel
theorem dM_undo_86 : decode bM_undo 86 = .ok (.getfield 53, 3) := by decide +kernel
theorem dM_undo_89 : decode bM_undo 89 = .ok (.iload_n 1, 1) := by decide +kernel
theorem dM_undo_90 : decode bM_undo 90 = .ok (.iconst 1, 1) := by decide +kernel
theorem dM_undo_91 : decode bM_undo 91 = .ok (.isub, 1) := by decide +kernel
theorem dM_undo_92 : decode bM_undo 92 = .ok (.iaload, 1) := by decide +kernel
theorem dM_undo_93 : decode bM_undo 93 = .ok (.putfield 50, 3) := by decide +kernel
theorem dM_undo_96 : decode bM_undo 96 = .ok (.iload_n 2, 1) := by decide +kernel
theorem dM_undo_97 : decode bM_undo 97 = .ok (.ireturn, 1) := by decide +kernel
def f_M_undo_40 (n : Nat) (k0 : Int32 → mb_T → Option (Int32 × mb_T)) (y1 : Int32) (y2 : Int32) : Nat → Int32 → mb_T → Option (Int32 × mb_T)
  | 0, _, _ => none
  | f + 1, w3, s => if 5 ≤ w3 then k0 w3 s else mb_rd s 227 720 (((6 * y1) + 1) + w3) fun x_12 => mb_wr s 213 10 w3 x_12 fun s_15 => f_M_undo_40 n k0 y1 y2 f (w3 + 1) s_15
def f_M_undo (n : Nat) (x1 : Int32) (s : mb_T) : Option (Int32 × mb_T) := mb_cl (f_M_in n x1 0 (s.1 200 24) s) fun r_3 s_1 => if r_3 = 0 then some ((-1), s_1) else if ((s_1.1 200 24) - x1) ≤ 0 then some (((s_1.1 200 24) - x1), s_1) else mb_rd s_1 227 720 (6 * x1) fun x_6 => mb_bd (sF s_1 200 11 x_6) fun s_9 => f_M_undo_40 n (fun x_18 s_19 => mb_bd (sF s_19 200 24 x1) fun s_20 => if x1 = 0 then (mb_bd (sF s_20 200 25 (-9)) fun s_28 => some (((s_1.1 200 24) - x1), s_28)) else mb_rd s_20 226 120 (x1 - 1) fun x_23 => mb_bd (sF s_20 200 25 x_23) fun s_26 => some (((s_1.1 200 24) - x1), s_26)) x1 ((s_1.1 200 24) - x1) n 0 s_9
set_option maxHeartbeats 4000000 in
set_option maxRecDepth 100000 in
theorem tl_M_undo_40 {dd n : Nat} {K : mj_KT} {out : Int32 × mb_T} (hK : mj_C (dd + 2) 0 0 RM_c "undo" bM_undo 4 K) (hR : mj_R bM_undo (some .int) (fun r2 S2 => r2 = some (.int out.1) ∧ S2 = mb_s out.2) K) {k0 : Int32 → mb_T → Option (Int32 × mb_T)} {y1 : Int32} {y2 : Int32} (hk0 : ∀ (w3 : Int32) (s : mb_T), k0 w3 s = some out → K 0 0 70 [.ref 200, .int y1, .int y2, .int w3] [] (mb_s s)) : ∀ (f : Nat) (w3 : Int32) (s : mb_T), f_M_undo_40 n k0 y1 y2 f w3 s = some out → K 0 0 40 [.ref 200, .int y1, .int y2, .int w3] [] (mb_s s) := by
  intro f
  induction f with
  | zero =>
    intro w3 s h
    cases h
  | succ f ih =>
    intro w3 s h
    rw [f_M_undo_40] at h
    refine ro_iload_n hK dM_undo_40 rfl ?_
    refine ro_iconst (x := 5) hK (by decide) dM_undo_41 ?_
    refine ro_icmp_ge (tgt := 70) hK dM_undo_42 (by decide) (fun c_11 => ?_) (fun c_11 => ?_)
    · replace h := mb_ift c_11 h
      refine ro_fg (lv' := [.ref 200, .int y1, .int y2, .int w3]) hK ⟨Or.inr rfl, ⟨Or.inr rfl, ⟨Or.inr rfl, ⟨Or.inr rfl, trivial⟩⟩⟩⟩ ?_
      exact hk0 _ _ h
    · replace h := mb_iff c_11 h
      refine ro_aload_n hK dM_undo_45 rfl ?_
      refine rb_get hK fM_31 mb_oM rfl dM_undo_46 ?_
      refine ro_iload_n hK dM_undo_49 rfl ?_
      refine ro_aload_n hK dM_undo_50 rfl ?_
      refine rb_get hK fM_56 mb_oM rfl dM_undo_51 ?_
      refine ro_bipush (x := 6) hK (by decide) dM_undo_54 ?_
      refine ro_iload_n hK dM_undo_56 rfl ?_
      refine ro_imul hK dM_undo_57 ?_
      refine ro_iconst (x := 1) hK (by decide) dM_undo_58 ?_
      refine ro_iadd hK dM_undo_59 ?_
      refine ro_iload_n hK dM_undo_60 rfl ?_
      refine ro_iadd hK dM_undo_61 ?_
      obtain ⟨x_12, e_13, i_14, h⟩ := mb_rd_e h
      refine rb_iald hK ai_227 i_14 e_13 dM_undo_62 ?_
      obtain ⟨s_15, e_16, i_17, h⟩ := mb_wr_e h
      refine rb_iast hK ai_213 i_17 e_16 dM_undo_63 ?_
      refine ro_iincv (c := 1) hK (by decide) dM_undo_64 rfl (by decide) ?_
      show K 0 0 67 [.ref 200, .int y1, .int y2, .int (w3 + 1)] [] (mb_s s_15)
      refine ro_goto (tgt := 40) hK dM_undo_67 (by decide) ?_
      refine ro_fg (lv' := [.ref 200, .int y1, .int y2, .int (w3 + 1)]) hK ⟨Or.inr rfl, ⟨Or.inr rfl, ⟨Or.inr rfl, ⟨Or.inr rfl, trivial⟩⟩⟩⟩ ?_
      exact ih _ _ h
set_option maxHeartbeats 4000000 in
set_option maxRecDepth 100000 in
theorem t_M_undo {dd n : Nat} {x1 : Int32} {s : mb_T} {out : Int32 × mb_T}  (h : f_M_undo n x1 s = some out) : mb_MC (dd + 2) yM_undo bM_undo 4 (some .int) [.ref 200, .int x1] s (some (.int out.1)) out.2 := by
  unfold f_M_undo at h
  refine mj_mc (lv := [.ref 200, .int x1, .retAddr 0, .retAddr 0]) mM_undo rfl rfl (Nat.le_of_ble_eq_true rfl) (fun K hK hR => ?_)
  have hK : mj_C (dd + 2) 0 0 RM_c "undo" bM_undo 4 K := hK
  refine ro_iload_n hK dM_undo_0 rfl ?_
  refine ro_iconst (x := 0) hK (by decide) dM_undo_1 ?_
  refine ro_aload_n hK dM_undo_2 rfl ?_
  refine rb_get hK fM_173 mb_oM rfl dM_undo_3 ?_
  obtain ⟨r_3, s_1, q_2, h⟩ := mb_cl_e h
  refine rb_callS hK mM_in vM_92 (t_M_in (dd := dd + 0) q_2) rfl (Nat.le_of_ble_eq_true rfl) dM_undo_6 rfl ⟨Nat.le_refl _, Nat.le_refl _⟩ ?_
  show K 0 0 9 [.ref 200, .int x1, .retAddr 0, .retAddr 0] [.int r_3] (mb_s s_1)
  refine ro_if_ne (tgt := 14) hK dM_undo_9 (by decide) (fun c_4 => ?_) (fun c_4 => ?_)
  · replace h := mb_iff c_4 h
    refine ro_aload_n hK dM_undo_14 rfl ?_
    refine rb_get hK fM_173 mb_oM rfl dM_undo_15 ?_
    refine ro_iload_n hK dM_undo_18 rfl ?_
    refine ro_isub hK dM_undo_19 ?_
    refine ro_istore_n hK dM_undo_20 (by decide) ?_
    show K 0 0 21 [.ref 200, .int x1, .int ((s_1.1 200 24) - x1), .retAddr 0] [] (mb_s s_1)
    refine ro_iload_n hK dM_undo_21 rfl ?_
    refine ro_if_le (tgt := 96) hK dM_undo_22 (by decide) (fun c_5 => ?_) (fun c_5 => ?_)
    · replace h := mb_ift c_5 h
      refine ro_iload_n hK dM_undo_96 rfl ?_
      cases h
      exact hR.1 0 0 97 _ _ _ _ rfl rfl dM_undo_97 ⟨rfl, rfl⟩
    · replace h := mb_iff c_5 h
      refine ro_aload_n hK dM_undo_25 rfl ?_
      refine ro_aload_n hK dM_undo_26 rfl ?_
      refine rb_get hK fM_56 mb_oM rfl dM_undo_27 ?_
      refine ro_bipush (x := 6) hK (by decide) dM_undo_30 ?_
      refine ro_iload_n hK dM_undo_32 rfl ?_
      refine ro_imul hK dM_undo_33 ?_
      obtain ⟨x_6, e_7, i_8, h⟩ := mb_rd_e h
      refine rb_iald hK ai_227 i_8 e_7 dM_undo_34 ?_
      obtain ⟨s_9, e_10, h⟩ := mb_bd_e h
      refine rb_put hK gM_170 mb_oM rfl (by show 11 < 45; decide) rfl rfl e_10 dM_undo_35 ?_
      refine ro_iconst (x := 0) hK (by decide) dM_undo_38 ?_
      refine ro_istore_n hK dM_undo_39 (by decide) ?_
      show K 0 0 40 [.ref 200, .int x1, .int ((s_1.1 200 24) - x1), .int 0] [] (mb_s s_9)
      refine ro_fg (lv' := [.ref 200, .int x1, .int ((s_1.1 200 24) - x1), .int 0]) hK ⟨Or.inr rfl, ⟨Or.inr rfl, ⟨Or.inr rfl, ⟨Or.inr rfl, trivial⟩⟩⟩⟩ ?_
      refine tl_M_undo_40 (dd := dd) hK hR (fun x_18 s_19 h => ?_) n _ _ h
      refine ro_aload_n hK dM_undo_70 rfl ?_
      refine ro_iload_n hK dM_undo_71 rfl ?_
      obtain ⟨s_20, e_21, h⟩ := mb_bd_e h
      refine rb_put hK gM_173 mb_oM rfl (by show 24 < 45; decide) rfl rfl e_21 dM_undo_72 ?_
      refine ro_aload_n hK dM_undo_75 rfl ?_
      refine ro_iload_n hK dM_undo_76 rfl ?_
      refine ro_if_ne (tgt := 85) hK dM_undo_77 (by decide) (fun c_22 => ?_) (fun c_22 => ?_)
      · replace h := mb_iff c_22 h
        refine ro_aload_n hK dM_undo_85 rfl ?_
        refine rb_get hK fM_53 mb_oM rfl dM_undo_86 ?_
        refine ro_iload_n hK dM_undo_89 rfl ?_
        refine ro_iconst (x := 1) hK (by decide) dM_undo_90 ?_
        refine ro_isub hK dM_undo_91 ?_
        obtain ⟨x_23, e_24, i_25, h⟩ := mb_rd_e h
        refine rb_iald hK ai_226 i_25 e_24 dM_undo_92 ?_
        obtain ⟨s_26, e_27, h⟩ := mb_bd_e h
        refine rb_put hK gM_50 mb_oM rfl (by show 25 < 45; decide) rfl rfl e_27 dM_undo_93 ?_
        refine ro_iload_n hK dM_undo_96 rfl ?_
        cases h
        exact hR.1 0 0 97 _ _ _ _ rfl rfl dM_undo_97 ⟨rfl, rfl⟩
      · replace h := mb_ift c_22 h
        refine ro_bipush (x := (-9)) hK (by decide) dM_undo_80 ?_
        refine ro_goto (tgt := 93) hK dM_undo_82 (by decide) ?_
        obtain ⟨s_28, e_29, h⟩ := mb_bd_e h
        refine rb_put hK gM_50 mb_oM rfl (by show 25 < 45; decide) rfl rfl e_29 dM_undo_93 ?_
        refine ro_iload_n hK dM_undo_96 rfl ?_
        cases h
        exact hR.1 0 0 97 _ _ _ _ rfl rfl dM_undo_97 ⟨rfl, rfl⟩
  · replace h := mb_ift c_4 h
    refine ro_iconst (x := (-1)) hK (by decide) dM_undo_12 ?_
    cases h
    exact hR.1 0 0 13 _ _ _ _ rfl rfl dM_undo_13 ⟨rfl, rfl⟩
theorem dM_upper_0 : decode bM_upper 0 = .ok (.aload_n 0, 1) := by decide +kernel
theorem dM_upper_1 : decode bM_upper 1 = .ok (.getfield 161, 3) := by decide +kernel
theorem dM_upper_4 : decode bM_upper 4 = .ok (.ifCond .ne 7, 3) := by decide +kernel
theorem dM_upper_7 : decode bM_upper 7 = .ok (.lconst 0, 1) := by decide +kernel
theorem dM_upper_8 : decode bM_upper 8 = .ok (.goto 20, 3) := by decide +kernel
theorem dM_upper_11 : decode bM_upper 11 = .ok (.aload_n 0, 1) := by decide +kernel
theorem dM_upper_12 : decode bM_upper 12 = .ok (.invokevirtual 219, 3) := by decide +kernel
theorem dM_upper_15 : decode bM_upper 15 = .ok (.aload_n 0, 1) := by decide +kernel
theorem dM_upper_16 : decode bM_upper 16 = .ok (.invokevirtual 219, 3) := by decide +kernel
theorem dM_upper_19 : decode bM_upper 19 = .ok (.aload_n 0, 1) := by decide +kernel
theorem dM_upper_20 : decode bM_upper 20 = .ok (.invokevirtual 314, 3) := by decide +kernel
theorem dM_upper_23 : decode bM_upper 23 = .ok (.invokestatic 317, 3) := by decide +kernel
theorem dM_upper_26 : decode bM_upper 26 = .ok (.idiv, 1) := by decide +kernel
theorem dM_upper_27 : decode bM_upper 27 = .ok (.i2l, 1) := by decide +kernel
theorem dM_upper_28 : decode bM_upper 28 = .ok (.lreturn, 1) := by decide +kernel
def f_M_upper (n : Nat)  (s : mb_T) : Option (Int64 × mb_T) := if (s.1 200 8) = 0 then some (0, s) else mb_cl (f_M_allFears n s) fun r_4 s_2 => mb_cl (f_M_allFears n s_2) fun r_7 s_5 => mb_cl (f_M_allScreams n s_5) fun r_10 s_8 => mb_cl (f_M_divisor n r_7 r_10 s_8) fun r_13 s_11 => mb_dv r_13 (some ((Int32.toInt64 (r_4 / r_13)), s_11))
set_option maxHeartbeats 4000000 in
set_option maxRecDepth 100000 in
theorem t_M_upper {dd n : Nat}  {s : mb_T} {out : Int64 × mb_T}  (h : f_M_upper n  s = some out) : mb_MC (dd + 2) yM_upper bM_upper 1 (some .long) [.ref 200] s (some (.long out.1)) out.2 := by
  unfold f_M_upper at h
  refine mj_mc (lv := [.ref 200]) mM_upper rfl rfl (Nat.le_of_ble_eq_true rfl) (fun K hK hR => ?_)
  have hK : mj_C (dd + 2) 0 0 RM_c "upper" bM_upper 1 K := hK
  refine ro_aload_n hK dM_upper_0 rfl ?_
  refine rb_get hK fM_161 mb_oM rfl dM_upper_1 ?_
  refine ro_if_ne (tgt := 11) hK dM_upper_4 (by decide) (fun c_1 => ?_) (fun c_1 => ?_)
  · replace h := mb_iff c_1 h
    refine ro_aload_n hK dM_upper_11 rfl ?_
    obtain ⟨r_4, s_2, q_3, h⟩ := mb_cl_e h
    refine rb_callV hK mM_allFears vM_219 (t_M_allFears (dd := dd + 0) q_3) rfl mb_oM rfl (Nat.le_of_ble_eq_true rfl) dM_upper_12 rfl ⟨Nat.le_refl _, Nat.le_refl _⟩ ?_
    show K 0 0 15 [.ref 200] [.int r_4] (mb_s s_2)
    refine ro_aload_n hK dM_upper_15 rfl ?_
    obtain ⟨r_7, s_5, q_6, h⟩ := mb_cl_e h
    refine rb_callV hK mM_allFears vM_219 (t_M_allFears (dd := dd + 0) q_6) rfl mb_oM rfl (Nat.le_of_ble_eq_true rfl) dM_upper_16 rfl ⟨Nat.le_refl _, Nat.le_refl _⟩ ?_
    show K 0 0 19 [.ref 200] [.int r_7, .int r_4] (mb_s s_5)
    refine ro_aload_n hK dM_upper_19 rfl ?_
    obtain ⟨r_10, s_8, q_9, h⟩ := mb_cl_e h
    refine rb_callV hK mM_allScreams vM_314 (t_M_allScreams (dd := dd + 0) q_9) rfl mb_oM rfl (Nat.le_of_ble_eq_true rfl) dM_upper_20 rfl ⟨Nat.le_refl _, Nat.le_refl _⟩ ?_
    show K 0 0 23 [.ref 200] [.int r_10, .int r_7, .int r_4] (mb_s s_8)
    obtain ⟨r_13, s_11, q_12, h⟩ := mb_cl_e h
    refine rb_callS hK mM_divisor vM_317 (t_M_divisor (dd := dd + 0) q_12) rfl (Nat.le_of_ble_eq_true rfl) dM_upper_23 rfl ⟨Nat.le_refl _, Nat.le_refl _⟩ ?_
    show K 0 0 26 [.ref 200] [.int r_13, .int r_4] (mb_s s_11)
    obtain ⟨z_14, h⟩ := mb_dv_e h
    refine ro_idiv hK dM_upper_26 z_14 ?_
    refine ro_i2l hK dM_upper_27 ?_
    cases h
    exact hR.2.1 0 0 28 _ _ _ rfl dM_upper_28 ⟨rfl, rfl⟩
  · replace h := mb_ift c_1 h
    refine ro_lconst (x := 0) hK (by decide) dM_upper_7 ?_
    refine ro_goto (tgt := 28) hK dM_upper_8 (by decide) ?_
    cases h
    exact hR.2.1 0 0 28 _ _ _ rfl dM_upper_28 ⟨rfl, rfl⟩
theorem dC_mean_0 : decode bC_mean 0 = .ok (.aload_n 0, 1) := by decide +kernel
theorem dC_mean_1 : decode bC_mean 1 = .ok (.iload_n 1, 1) := by decide +kernel
theorem dC_mean_2 : decode bC_mean 2 = .ok (.invokevirtual 95, 3) := by decide +kernel
theorem dC_mean_5 : decode bC_mean 5 = .ok (.istore_n 2, 1) := by decide +kernel
theorem dC_mean_6 : decode bC_mean 6 = .ok (.iload_n 2, 1) := by decide +kernel
theorem dC_mean_7 : decode bC_mean 7 = .ok (.ifCond .eq 5, 3) := by decide +kernel
theorem dC_mean_10 : decode bC_mean 10 = .ok (.iload_n 2, 1) := by decide +kernel
theorem dC_mean_11 : decode bC_mean 11 = .ok (.ireturn, 1) := by decide +kernel
theorem dC_mean_12 : decode bC_mean 12 = .ok (.aload_n 0, 1) := by decide +kernel
theorem dC_mean_13 : decode bC_mean 13 = .ok (.getfield 14, 3) := by decide +kernel
theorem dC_mean_16 : decode bC_mean 16 = .ok (.iload_n 1, 1) := by decide +kernel
theorem dC_mean_17 : decode bC_mean 17 = .ok (.iaload, 1) := by decide +kernel
theorem dC_mean_18 : decode bC_mean 18 = .ok (.istore_n 3, 1) := by decide +kernel
theorem dC_mean_19 : decode bC_mean 19 = .ok (.iload_n 3, 1) := by decide +kernel
theorem dC_mean_20 : decode bC_mean 20 = .ok (.ifCond .gt 9, 3) := by decide +kernel
theorem dC_mean_23 : decode bC_mean 23 = .ok (.aload_n 0, 1) := by decide +kernel
theorem dC_mean_24 : decode bC_mean 24 = .ok (.iconst 4, 1) := by decide +kernel
theorem dC_mean_25 : decode bC_mean 25 = .ok (.invokevirtual 87, 3) := by decide +kernel
theorem dC_mean_28 : decode bC_mean 28 = .ok (.ireturn, 1) := by decide +kernel
theorem dC_mean_29 : decode bC_mean 29 = .ok (.lconst 0, 1) := by decide +kernel
theorem dC_mean_30 : decode bC_mean 30 = .ok (.lstore 4, 2) := by decide +kernel
theorem dC_mean_32 : decode bC_mean 32 = .ok (.iconst 0, 1) := by decide +kernel
theorem dC_mean_33 : decode bC_mean 33 = .ok (.istore 6, 2) := by decide +kernel
theorem dC_mean_35 : decode bC_mean 35 = .ok (.iload 6, 2) := by decide +kernel
theorem dC_mean_37 : decode bC_mean 37 = .ok (.iload_n 3, 1) := by decide +kernel
theorem dC_mean_38 : decode bC_mean 38 = .ok (.if_icmp .ge 24, 3) := by decide +kernel
theorem dC_mean_41 : decode bC_mean 41 = .ok (.lload 4, 2) := by decide +kernel
theorem dC_mean_43 : decode bC_mean 43 = .ok (.aload_n 0, 1) := by decide +kernel
theorem dC_mean_44 : decode bC_mean 44 = .ok (.getfield 11, 3) := by decide +kernel
theorem dC_mean_47 : decode bC_mean 47 = .ok (.iload_n 1, 1) := by decide +kernel
theorem dC_mean_48 : decode bC_mean 48 = .ok (.aaload, 1) := by decide +kernel
theorem dC_mean_49 : decode bC_mean 49 = .ok (.iload 6, 2) := by decide +kernel
theorem dC_mean_51 : decode bC_mean 51 = .ok (.iaload, 1) := by decide +kernel
theorem dC_mean_52 : decode bC_mean 52 = .ok (.i2l, 1) := by decide +kernel
theorem dC_mean_53 : decode bC_mean 53 = .ok (.ladd, 1) := by decide +kernel
theorem dC_mean_54 : decode bC_mean 54 = .ok (.lstore 4, 2) := by decide +kernel
theorem dC_mean_56 : decode bC_mean 56 = .ok (.iinc 6 1, 3) := by decide +kernel
theorem dC_mean_59 : decode bC_mean 59 = .ok (.goto (-24), 3) := by decide +kernel
theorem dC_mean_62 : decode bC_mean 62 = .ok (.aload_n 0, 1) := by decide +kernel
theorem dC_mean_63 : decode bC_mean 63 = .ok (.lload 4, 2) := by decide +kernel
theorem dC_mean_65 : decode bC_mean 65 = .ok (.iload_n 3, 1) := by decide +kernel
theorem dC_mean_66 : decode bC_mean 66 = .ok (.i2l, 1) := by decide +kernel
theorem dC_mean_67 : decode bC_mean 67 = .ok (.ldiv, 1) := by decide +kernel
theorem dC_mean_68 : decode bC_mean 68 = .ok (.l2i, 1) := by decide +kernel
theorem dC_mean_69 : decode bC_mean 69 = .ok (.putfield 74, 3) := by decide +kernel
theorem dC_mean_72 : decode bC_mean 72 = .ok (.iconst 1, 1) := by decide +kernel
theorem dC_mean_73 : decode bC_mean 73 = .ok (.ireturn, 1) := by decide +kernel
def f_C_mean_35 (n : Nat) (k0 : Int64 → Int32 → mb_T → Option (Int32 × mb_T)) (y1 : Int32) (y3 : Int32) : Nat → Int64 → Int32 → mb_T → Option (Int32 × mb_T)
  | 0, _, _, _ => none
  | f + 1, w4, w6, s => if y3 ≤ w6 then k0 w4 w6 s else mb_ix y1 6 (mb_rd s (20 + y1.toNatClampNeg) 60 w6 fun x_11 => f_C_mean_35 n k0 y1 y3 f (w4 + (Int32.toInt64 x_11)) (w6 + 1) s)
def f_C_mean (n : Nat) (x1 : Int32) (s : mb_T) : Option (Int32 × mb_T) := mb_cl (f_C_rowRefusal n x1 s) fun r_3 s_1 => if r_3 = 0 then (mb_rd s_1 1 6 x1 fun x_5 => if 0 < x_5 then (f_C_mean_35 n (fun x_14 x_15 s_16 => mb_dl (Int32.toInt64 x_5) (mb_bd (sF s_16 0 14 (Int64.toInt32 (x_14 / (Int32.toInt64 x_5)))) fun s_18 => some (1, s_18))) x1 x_5 n 0 0 s_1) else mb_cl (f_C_found n 4 s_1) fun r_22 s_20 => some (r_22, s_20)) else some (r_3, s_1)
set_option maxHeartbeats 4000000 in
set_option maxRecDepth 100000 in
theorem tl_C_mean_35 {dd n : Nat} {K : mj_KT} {out : Int32 × mb_T} (hK : mj_C (dd + 3) 0 0 RC_c "mean" bC_mean 7 K) (hR : mj_R bC_mean (some .int) (fun r2 S2 => r2 = some (.int out.1) ∧ S2 = mb_s out.2) K) {k0 : Int64 → Int32 → mb_T → Option (Int32 × mb_T)} {y1 : Int32} {y3 : Int32} (hk0 : ∀ (w4 : Int64) (w6 : Int32) (s : mb_T), k0 w4 w6 s = some out → K 0 0 62 [.ref 0, .int y1, .retAddr 0, .int y3, .long w4, .retAddr 0, .int w6] [] (mb_s s)) : ∀ (f : Nat) (w4 : Int64) (w6 : Int32) (s : mb_T), f_C_mean_35 n k0 y1 y3 f w4 w6 s = some out → K 0 0 35 [.ref 0, .int y1, .retAddr 0, .int y3, .long w4, .retAddr 0, .int w6] [] (mb_s s) := by
  intro f
  induction f with
  | zero =>
    intro w4 w6 s h
    cases h
  | succ f ih =>
    intro w4 w6 s h
    rw [f_C_mean_35] at h
    refine ro_iload hK dC_mean_35 rfl ?_
    refine ro_iload_n hK dC_mean_37 rfl ?_
    refine ro_icmp_ge (tgt := 62) hK dC_mean_38 (by decide) (fun c_9 => ?_) (fun c_9 => ?_)
    · replace h := mb_ift c_9 h
      refine ro_fg (lv' := [.ref 0, .int y1, .retAddr 0, .int y3, .long w4, .retAddr 0, .int w6]) hK ⟨Or.inr rfl, ⟨Or.inr rfl, ⟨Or.inl rfl, ⟨Or.inr rfl, ⟨Or.inr rfl, ⟨Or.inl rfl, ⟨Or.inr rfl, trivial⟩⟩⟩⟩⟩⟩⟩ ?_
      exact hk0 _ _ _ h
    · replace h := mb_iff c_9 h
      refine ro_lload hK dC_mean_41 rfl ?_
      refine ro_aload_n hK dC_mean_43 rfl ?_
      refine rb_get hK fC_11 mb_oC rfl dC_mean_44 ?_
      refine ro_iload_n hK dC_mean_47 rfl ?_
      obtain ⟨i_10, h⟩ := mb_ix_e h
      refine rb_rows hK i_10 dC_mean_48 ?_
      refine ro_iload hK dC_mean_49 rfl ?_
      obtain ⟨x_11, e_12, i_13, h⟩ := mb_rd_e h
      refine rb_iald hK (mb_rw i_10) i_13 e_12 dC_mean_51 ?_
      refine ro_i2l hK dC_mean_52 ?_
      refine ro_ladd hK dC_mean_53 ?_
      refine ro_lstore hK dC_mean_54 (by decide) ?_
      show K 0 0 56 [.ref 0, .int y1, .retAddr 0, .int y3, .long (w4 + (Int32.toInt64 x_11)), .retAddr 0, .int w6] [] (mb_s s)
      refine ro_iincv (c := 1) hK (by decide) dC_mean_56 rfl (by decide) ?_
      show K 0 0 59 [.ref 0, .int y1, .retAddr 0, .int y3, .long (w4 + (Int32.toInt64 x_11)), .retAddr 0, .int (w6 + 1)] [] (mb_s s)
      refine ro_goto (tgt := 35) hK dC_mean_59 (by decide) ?_
      refine ro_fg (lv' := [.ref 0, .int y1, .retAddr 0, .int y3, .long (w4 + (Int32.toInt64 x_11)), .retAddr 0, .int (w6 + 1)]) hK ⟨Or.inr rfl, ⟨Or.inr rfl, ⟨Or.inl rfl, ⟨Or.inr rfl, ⟨Or.inr rfl, ⟨Or.inl rfl, ⟨Or.inr rfl, trivial⟩⟩⟩⟩⟩⟩⟩ ?_
      exact ih _ _ _ h
set_option maxHeartbeats 4000000 in
set_option maxRecDepth 100000 in
theorem t_C_mean {dd n : Nat} {x1 : Int32} {s : mb_T} {out : Int32 × mb_T}  (h : f_C_mean n x1 s = some out) : mb_MC (dd + 3) yC_mean bC_mean 7 (some .int) [.ref 0, .int x1] s (some (.int out.1)) out.2 := by
  unfold f_C_mean at h
  refine mj_mc (lv := [.ref 0, .int x1, .retAddr 0, .retAddr 0, .retAddr 0, .retAddr 0, .retAddr 0]) mC_mean rfl rfl (Nat.le_of_ble_eq_true rfl) (fun K hK hR => ?_)
  have hK : mj_C (dd + 3) 0 0 RC_c "mean" bC_mean 7 K := hK
  refine ro_aload_n hK dC_mean_0 rfl ?_
  refine ro_iload_n hK dC_mean_1 rfl ?_
  obtain ⟨r_3, s_1, q_2, h⟩ := mb_cl_e h
  refine rb_callV hK mC_rowRefusal vC_95 (t_C_rowRefusal (dd := dd + 0) q_2) rfl mb_oC rfl (Nat.le_of_ble_eq_true rfl) dC_mean_2 rfl ⟨Nat.le_refl _, Nat.le_refl _⟩ ?_
  show K 0 0 5 [.ref 0, .int x1, .retAddr 0, .retAddr 0, .retAddr 0, .retAddr 0, .retAddr 0] [.int r_3] (mb_s s_1)
  refine ro_istore_n hK dC_mean_5 (by decide) ?_
  show K 0 0 6 [.ref 0, .int x1, .int r_3, .retAddr 0, .retAddr 0, .retAddr 0, .retAddr 0] [] (mb_s s_1)
  refine ro_iload_n hK dC_mean_6 rfl ?_
  refine ro_if_eq (tgt := 12) hK dC_mean_7 (by decide) (fun c_4 => ?_) (fun c_4 => ?_)
  · replace h := mb_ift c_4 h
    refine ro_aload_n hK dC_mean_12 rfl ?_
    refine rb_get hK fC_14 mb_oC rfl dC_mean_13 ?_
    refine ro_iload_n hK dC_mean_16 rfl ?_
    obtain ⟨x_5, e_6, i_7, h⟩ := mb_rd_e h
    refine rb_iald hK ai_1 i_7 e_6 dC_mean_17 ?_
    refine ro_istore_n hK dC_mean_18 (by decide) ?_
    show K 0 0 19 [.ref 0, .int x1, .int r_3, .int x_5, .retAddr 0, .retAddr 0, .retAddr 0] [] (mb_s s_1)
    refine ro_iload_n hK dC_mean_19 rfl ?_
    refine ro_if_gt (tgt := 29) hK dC_mean_20 (by decide) (fun c_8 => ?_) (fun c_8 => ?_)
    · replace h := mb_ift c_8 h
      refine ro_lconst (x := 0) hK (by decide) dC_mean_29 ?_
      refine ro_lstore hK dC_mean_30 (by decide) ?_
      show K 0 0 32 [.ref 0, .int x1, .int r_3, .int x_5, .long 0, .retAddr 0, .retAddr 0] [] (mb_s s_1)
      refine ro_iconst (x := 0) hK (by decide) dC_mean_32 ?_
      refine ro_istore hK dC_mean_33 (by decide) ?_
      show K 0 0 35 [.ref 0, .int x1, .int r_3, .int x_5, .long 0, .retAddr 0, .int 0] [] (mb_s s_1)
      refine ro_fg (lv' := [.ref 0, .int x1, .retAddr 0, .int x_5, .long 0, .retAddr 0, .int 0]) hK ⟨Or.inr rfl, ⟨Or.inr rfl, ⟨Or.inl rfl, ⟨Or.inr rfl, ⟨Or.inr rfl, ⟨Or.inl rfl, ⟨Or.inr rfl, trivial⟩⟩⟩⟩⟩⟩⟩ ?_
      refine tl_C_mean_35 (dd := dd) hK hR (fun x_14 x_15 s_16 h => ?_) n _ _ _ h
      refine ro_aload_n hK dC_mean_62 rfl ?_
      refine ro_lload hK dC_mean_63 rfl ?_
      refine ro_iload_n hK dC_mean_65 rfl ?_
      refine ro_i2l hK dC_mean_66 ?_
      obtain ⟨z_17, h⟩ := mb_dl_e h
      refine ro_ldiv hK dC_mean_67 z_17 ?_
      refine ro_l2i hK dC_mean_68 ?_
      obtain ⟨s_18, e_19, h⟩ := mb_bd_e h
      refine rb_put hK gC_74 mb_oC rfl (by show 14 < 15; decide) rfl rfl e_19 dC_mean_69 ?_
      refine ro_iconst (x := 1) hK (by decide) dC_mean_72 ?_
      cases h
      exact hR.1 0 0 73 _ _ _ _ rfl rfl dC_mean_73 ⟨rfl, rfl⟩
    · replace h := mb_iff c_8 h
      refine ro_aload_n hK dC_mean_23 rfl ?_
      refine ro_iconst (x := 4) hK (by decide) dC_mean_24 ?_
      obtain ⟨r_22, s_20, q_21, h⟩ := mb_cl_e h
      refine rb_callV hK mC_found vC_87 (t_C_found (dd := dd + 1) q_21) rfl mb_oC rfl (Nat.le_of_ble_eq_true rfl) dC_mean_25 rfl ⟨Nat.le_refl _, Nat.le_refl _⟩ ?_
      show K 0 0 28 [.ref 0, .int x1, .int r_3, .int x_5, .retAddr 0, .retAddr 0, .retAddr 0] [.int r_22] (mb_s s_20)
      cases h
      exact hR.1 0 0 28 _ _ _ _ rfl rfl dC_mean_28 ⟨rfl, rfl⟩
  · replace h := mb_iff c_4 h
    refine ro_iload_n hK dC_mean_10 rfl ?_
    cases h
    exact hR.1 0 0 11 _ _ _ _ rfl rfl dC_mean_11 ⟨rfl, rfl⟩
