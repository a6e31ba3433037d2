def f_L_c0 (n L : Nat) (xs : Nat → Int32) (k : Int32 → mb_T → Option Unit) (w3 : Int32) (s : mb_T) : Option Unit := mb_sr L xs (w3 + 1) fun x_54 => mb_sr L xs (w3 + 2) fun x_57 => mb_cl (f_C_row n x_54 x_57 s) fun r_62 s_60 => mb_sr L xs (w3 + 1) fun x_63 => mb_sr L xs (w3 + 2) fun x_66 => mb_cl (f_M_row n x_63 x_66 s_60) fun r_71 s_69 => if r_62 = r_71 then k (w3 + 6) s_69 else none
set_option maxHeartbeats 4000000 in
set_option maxRecDepth 100000 in
theorem tc_L_0 {dd n L f : Nat} {mn : String} {xs : Nat → Int32} {K : mj_KT} {k : Int32 → mb_T → Option Unit} {w3 : Int32} {s : mb_T} {u v : Nat} (hX : mj_X (dd + 19) 600000 7302249 RL_c mn code 4 L xs K) (hK : mj_C (dd + 19) 600000 7302249 RL_c mn code 4 K) (hk : ∀ (w3 : Int32) (s : mb_T) (u v : Nat), u + 9 * f ≤ 600000 → v + 878 * f ≤ 7302249 → k w3 s = some () → K u v 18 [.float 0, .ref 0, .ref 200, .int w3] [] (mb_s s)) (hu : u + 9 * (f + 1) ≤ 600000) (hv : v + 878 * (f + 1) ≤ 7302249) (h : f_L_c0 n L xs k w3 s = some ()) : K u v 244 [.float 0, .ref 0, .ref 200, .int w3] [] (mb_s s) := by
  unfold f_L_c0 at h
  have hb : u ≤ 600000 ∧ v ≤ 7302249 := ⟨by omega, by omega⟩
  have hb2 : u + 9 ≤ 600000 ∧ v + 878 ≤ 7302249 := ⟨by omega, by omega⟩
  refine ro_aload_n hK dL_law_244 rfl ?_
  refine ro_aload_nF hK dL_law_245 rfl ?_
  refine ro_iload_n hK dL_law_246 rfl ?_
  refine ro_iconst (x := 1) hK (by decide) dL_law_247 ?_
  refine ro_iadd hK dL_law_248 ?_
  obtain ⟨x_54, e_55, i_56, h⟩ := mb_sr_e h
  refine ro_sld hX i_56 e_55 dL_law_249 ?_
  refine ro_aload_nF hK dL_law_250 rfl ?_
  refine ro_iload_n hK dL_law_251 rfl ?_
  refine ro_iconst (x := 2) hK (by decide) dL_law_252 ?_
  refine ro_iadd hK dL_law_253 ?_
  obtain ⟨x_57, e_58, i_59, h⟩ := mb_sr_e h
  refine ro_sld hX i_59 e_58 dL_law_254 ?_
  obtain ⟨r_62, s_60, q_61, h⟩ := mb_cl_e h
  refine rb_callV hK mC_row vL_13 (t_C_row (dd := dd + 16) q_61) rfl mb_oC rfl (Nat.le_of_ble_eq_true rfl) dL_law_255 rfl hb ?_
  show K u v 258 [.float 0, .ref 0, .ref 200, .int w3] [.int r_62] (mb_s s_60)
  refine ro_aload_n hK dL_law_258 rfl ?_
  refine ro_aload_nF hK dL_law_259 rfl ?_
  refine ro_iload_n hK dL_law_260 rfl ?_
  refine ro_iconst (x := 1) hK (by decide) dL_law_261 ?_
  refine ro_iadd hK dL_law_262 ?_
  obtain ⟨x_63, e_64, i_65, h⟩ := mb_sr_e h
  refine ro_sld hX i_65 e_64 dL_law_263 ?_
  refine ro_aload_nF hK dL_law_264 rfl ?_
  refine ro_iload_n hK dL_law_265 rfl ?_
  refine ro_iconst (x := 2) hK (by decide) dL_law_266 ?_
  refine ro_iadd hK dL_law_267 ?_
  obtain ⟨x_66, e_67, i_68, h⟩ := mb_sr_e h
  refine ro_sld hX i_68 e_67 dL_law_268 ?_
  obtain ⟨r_71, s_69, q_70, h⟩ := mb_cl_e h
  refine rb_callV hK mM_row vL_17 (t_M_row (dd := dd + 15) q_70) rfl mb_oM rfl (Nat.le_of_ble_eq_true rfl) dL_law_269 rfl hb ?_
  show K u v 272 [.float 0, .ref 0, .ref 200, .int w3] [.int r_71, .int r_62] (mb_s s_69)
  refine ro_icmp_eq (tgt := 1474) hK dL_law_272 (by decide) (fun c_72 => ?_) (fun c_72 => ?_)
  · replace h := mb_ift c_72 h
    refine ro_iincv (c := 6) hK (by decide) dL_law_1474 rfl (by decide) ?_
    show K u v 1477 [.float 0, .ref 0, .ref 200, .int (w3 + 6)] [] (mb_s s_69)
    refine ro_goto (tgt := 18) hK dL_law_1477 (by decide) ?_
    exact hk _ _ _ _ (by omega) (by omega) h
  · replace h := mb_iff c_72 h
    refine ro_iconst (x := 0) hK (by decide) dL_law_275 ?_
    cases h
def f_L_c1 (n L : Nat) (xs : Nat → Int32) (k : Int32 → mb_T → Option Unit) (w3 : Int32) (s : mb_T) : Option Unit := mb_sr L xs (w3 + 1) fun x_73 => mb_sr L xs (w3 + 2) fun x_76 => mb_sr L xs (w3 + 3) fun x_79 => mb_cl (f_C_lay n x_73 x_76 x_79 s) fun r_84 s_82 => mb_sr L xs (w3 + 1) fun x_85 => mb_sr L xs (w3 + 2) fun x_88 => mb_sr L xs (w3 + 3) fun x_91 => mb_cl (f_M_lay n x_85 x_88 x_91 s_82) fun r_96 s_94 => if r_84 = r_96 then k (w3 + 6) s_94 else none
set_option maxHeartbeats 4000000 in
set_option maxRecDepth 100000 in
theorem tc_L_1 {dd n L f : Nat} {mn : String} {xs : Nat → Int32} {K : mj_KT} {k : Int32 → mb_T → Option Unit} {w3 : Int32} {s : mb_T} {u v : Nat} (hX : mj_X (dd + 19) 600000 7302249 RL_c mn code 4 L xs K) (hK : mj_C (dd + 19) 600000 7302249 RL_c mn code 4 K) (hk : ∀ (w3 : Int32) (s : mb_T) (u v : Nat), u + 9 * f ≤ 600000 → v + 878 * f ≤ 7302249 → k w3 s = some () → K u v 18 [.float 0, .ref 0, .ref 200, .int w3] [] (mb_s s)) (hu : u + 9 * (f + 1) ≤ 600000) (hv : v + 878 * (f + 1) ≤ 7302249) (h : f_L_c1 n L xs k w3 s = some ()) : K u v 277 [.float 0, .ref 0, .ref 200, .int w3] [] (mb_s s) := by
  unfold f_L_c1 at h
  have hb : u ≤ 600000 ∧ v ≤ 7302249 := ⟨by omega, by omega⟩
  have hb2 : u + 9 ≤ 600000 ∧ v + 878 ≤ 7302249 := ⟨by omega, by omega⟩
  refine ro_aload_n hK dL_law_277 rfl ?_
  refine ro_aload_nF hK dL_law_278 rfl ?_
  refine ro_iload_n hK dL_law_279 rfl ?_
  refine ro_iconst (x := 1) hK (by decide) dL_law_280 ?_
  refine ro_iadd hK dL_law_281 ?_
  obtain ⟨x_73, e_74, i_75, h⟩ := mb_sr_e h
  refine ro_sld hX i_75 e_74 dL_law_282 ?_
  refine ro_aload_nF hK dL_law_283 rfl ?_
  refine ro_iload_n hK dL_law_284 rfl ?_
  refine ro_iconst (x := 2) hK (by decide) dL_law_285 ?_
  refine ro_iadd hK dL_law_286 ?_
  obtain ⟨x_76, e_77, i_78, h⟩ := mb_sr_e h
  refine ro_sld hX i_78 e_77 dL_law_287 ?_
  refine ro_aload_nF hK dL_law_288 rfl ?_
  refine ro_iload_n hK dL_law_289 rfl ?_
  refine ro_iconst (x := 3) hK (by decide) dL_law_290 ?_
  refine ro_iadd hK dL_law_291 ?_
  obtain ⟨x_79, e_80, i_81, h⟩ := mb_sr_e h
  refine ro_sld hX i_81 e_80 dL_law_292 ?_
  obtain ⟨r_84, s_82, q_83, h⟩ := mb_cl_e h
  refine rb_callV hK mC_lay vL_18 (t_C_lay (dd := dd + 14) q_83) rfl mb_oC rfl (Nat.le_of_ble_eq_true rfl) dL_law_293 rfl hb ?_
  show K u v 296 [.float 0, .ref 0, .ref 200, .int w3] [.int r_84] (mb_s s_82)
  refine ro_aload_n hK dL_law_296 rfl ?_
  refine ro_aload_nF hK dL_law_297 rfl ?_
  refine ro_iload_n hK dL_law_298 rfl ?_
  refine ro_iconst (x := 1) hK (by decide) dL_law_299 ?_
  refine ro_iadd hK dL_law_300 ?_
  obtain ⟨x_85, e_86, i_87, h⟩ := mb_sr_e h
  refine ro_sld hX i_87 e_86 dL_law_301 ?_
  refine ro_aload_nF hK dL_law_302 rfl ?_
  refine ro_iload_n hK dL_law_303 rfl ?_
  refine ro_iconst (x := 2) hK (by decide) dL_law_304 ?_
  refine ro_iadd hK dL_law_305 ?_
  obtain ⟨x_88, e_89, i_90, h⟩ := mb_sr_e h
  refine ro_sld hX i_90 e_89 dL_law_306 ?_
  refine ro_aload_nF hK dL_law_307 rfl ?_
  refine ro_iload_n hK dL_law_308 rfl ?_
  refine ro_iconst (x := 3) hK (by decide) dL_law_309 ?_
  refine ro_iadd hK dL_law_310 ?_
  obtain ⟨x_91, e_92, i_93, h⟩ := mb_sr_e h
  refine ro_sld hX i_93 e_92 dL_law_311 ?_
  obtain ⟨r_96, s_94, q_95, h⟩ := mb_cl_e h
  refine rb_callV hK mM_lay vL_22 (t_M_lay (dd := dd + 13) q_95) rfl mb_oM rfl (Nat.le_of_ble_eq_true rfl) dL_law_312 rfl hb ?_
  show K u v 315 [.float 0, .ref 0, .ref 200, .int w3] [.int r_96, .int r_84] (mb_s s_94)
  refine ro_icmp_eq (tgt := 1474) hK dL_law_315 (by decide) (fun c_97 => ?_) (fun c_97 => ?_)
  · replace h := mb_ift c_97 h
    refine ro_iincv (c := 6) hK (by decide) dL_law_1474 rfl (by decide) ?_
    show K u v 1477 [.float 0, .ref 0, .ref 200, .int (w3 + 6)] [] (mb_s s_94)
    refine ro_goto (tgt := 18) hK dL_law_1477 (by decide) ?_
    exact hk _ _ _ _ (by omega) (by omega) h
  · replace h := mb_iff c_97 h
    refine ro_iconst (x := 0) hK (by decide) dL_law_318 ?_
    cases h
def f_L_c2 (n L : Nat) (xs : Nat → Int32) (k : Int32 → mb_T → Option Unit) (w3 : Int32) (s : mb_T) : Option Unit := mb_sr L xs (w3 + 1) fun x_98 => mb_sr L xs (w3 + 2) fun x_101 => mb_cl (f_C_at n x_98 x_101 s) fun r_106 s_104 => mb_sr L xs (w3 + 1) fun x_107 => mb_sr L xs (w3 + 2) fun x_110 => mb_cl (f_M_at n x_107 x_110 s_104) fun r_115 s_113 => if r_106 = r_115 then k (w3 + 6) s_113 else none
set_option maxHeartbeats 4000000 in
set_option maxRecDepth 100000 in
theorem tc_L_2 {dd n L f : Nat} {mn : String} {xs : Nat → Int32} {K : mj_KT} {k : Int32 → mb_T → Option Unit} {w3 : Int32} {s : mb_T} {u v : Nat} (hX : mj_X (dd + 19) 600000 7302249 RL_c mn code 4 L xs K) (hK : mj_C (dd + 19) 600000 7302249 RL_c mn code 4 K) (hk : ∀ (w3 : Int32) (s : mb_T) (u v : Nat), u + 9 * f ≤ 600000 → v + 878 * f ≤ 7302249 → k w3 s = some () → K u v 18 [.float 0, .ref 0, .ref 200, .int w3] [] (mb_s s)) (hu : u + 9 * (f + 1) ≤ 600000) (hv : v + 878 * (f + 1) ≤ 7302249) (h : f_L_c2 n L xs k w3 s = some ()) : K u v 320 [.float 0, .ref 0, .ref 200, .int w3] [] (mb_s s) := by
  unfold f_L_c2 at h
  have hb : u ≤ 600000 ∧ v ≤ 7302249 := ⟨by omega, by omega⟩
  have hb2 : u + 9 ≤ 600000 ∧ v + 878 ≤ 7302249 := ⟨by omega, by omega⟩
  refine ro_aload_n hK dL_law_320 rfl ?_
  refine ro_aload_nF hK dL_law_321 rfl ?_
  refine ro_iload_n hK dL_law_322 rfl ?_
  refine ro_iconst (x := 1) hK (by decide) dL_law_323 ?_
  refine ro_iadd hK dL_law_324 ?_
  obtain ⟨x_98, e_99, i_100, h⟩ := mb_sr_e h
  refine ro_sld hX i_100 e_99 dL_law_325 ?_
  refine ro_aload_nF hK dL_law_326 rfl ?_
  refine ro_iload_n hK dL_law_327 rfl ?_
  refine ro_iconst (x := 2) hK (by decide) dL_law_328 ?_
  refine ro_iadd hK dL_law_329 ?_
  obtain ⟨x_101, e_102, i_103, h⟩ := mb_sr_e h
  refine ro_sld hX i_103 e_102 dL_law_330 ?_
  obtain ⟨r_106, s_104, q_105, h⟩ := mb_cl_e h
  refine rb_callV hK mC_at vL_23 (t_C_at (dd := dd + 14) q_105) rfl mb_oC rfl (Nat.le_of_ble_eq_true rfl) dL_law_331 rfl hb ?_
  show K u v 334 [.float 0, .ref 0, .ref 200, .int w3] [.int r_106] (mb_s s_104)
  refine ro_aload_n hK dL_law_334 rfl ?_
  refine ro_aload_nF hK dL_law_335 rfl ?_
  refine ro_iload_n hK dL_law_336 rfl ?_
  refine ro_iconst (x := 1) hK (by decide) dL_law_337 ?_
  refine ro_iadd hK dL_law_338 ?_
  obtain ⟨x_107, e_108, i_109, h⟩ := mb_sr_e h
  refine ro_sld hX i_109 e_108 dL_law_339 ?_
  refine ro_aload_nF hK dL_law_340 rfl ?_
  refine ro_iload_n hK dL_law_341 rfl ?_
  refine ro_iconst (x := 2) hK (by decide) dL_law_342 ?_
  refine ro_iadd hK dL_law_343 ?_
  obtain ⟨x_110, e_111, i_112, h⟩ := mb_sr_e h
  refine ro_sld hX i_112 e_111 dL_law_344 ?_
  obtain ⟨r_115, s_113, q_114, h⟩ := mb_cl_e h
  refine rb_callV hK mM_at vL_26 (t_M_at (dd := dd + 14) q_114) rfl mb_oM rfl (Nat.le_of_ble_eq_true rfl) dL_law_345 rfl hb ?_
  show K u v 348 [.float 0, .ref 0, .ref 200, .int w3] [.int r_115, .int r_106] (mb_s s_113)
  refine ro_icmp_eq (tgt := 1474) hK dL_law_348 (by decide) (fun c_116 => ?_) (fun c_116 => ?_)
  · replace h := mb_ift c_116 h
    refine ro_iincv (c := 6) hK (by decide) dL_law_1474 rfl (by decide) ?_
    show K u v 1477 [.float 0, .ref 0, .ref 200, .int (w3 + 6)] [] (mb_s s_113)
    refine ro_goto (tgt := 18) hK dL_law_1477 (by decide) ?_
    exact hk _ _ _ _ (by omega) (by omega) h
  · replace h := mb_iff c_116 h
    refine ro_iconst (x := 0) hK (by decide) dL_law_351 ?_
    cases h
def f_L_c3 (n L : Nat) (xs : Nat → Int32) (k : Int32 → mb_T → Option Unit) (w3 : Int32) (s : mb_T) : Option Unit := mb_sr L xs (w3 + 1) fun x_117 => mb_cl (f_C_tear n x_117 s) fun r_122 s_120 => mb_sr L xs (w3 + 1) fun x_123 => mb_cl (f_M_tear n x_123 s_120) fun r_128 s_126 => if r_122 = r_128 then k (w3 + 6) s_126 else none
set_option maxHeartbeats 4000000 in
set_option maxRecDepth 100000 in
theorem tc_L_3 {dd n L f : Nat} {mn : String} {xs : Nat → Int32} {K : mj_KT} {k : Int32 → mb_T → Option Unit} {w3 : Int32} {s : mb_T} {u v : Nat} (hX : mj_X (dd + 19) 600000 7302249 RL_c mn code 4 L xs K) (hK : mj_C (dd + 19) 600000 7302249 RL_c mn code 4 K) (hk : ∀ (w3 : Int32) (s : mb_T) (u v : Nat), u + 9 * f ≤ 600000 → v + 878 * f ≤ 7302249 → k w3 s = some () → K u v 18 [.float 0, .ref 0, .ref 200, .int w3] [] (mb_s s)) (hu : u + 9 * (f + 1) ≤ 600000) (hv : v + 878 * (f + 1) ≤ 7302249) (h : f_L_c3 n L xs k w3 s = some ()) : K u v 353 [.float 0, .ref 0, .ref 200, .int w3] [] (mb_s s) := by
  unfold f_L_c3 at h
  have hb : u ≤ 600000 ∧ v ≤ 7302249 := ⟨by omega, by omega⟩
  have hb2 : u + 9 ≤ 600000 ∧ v + 878 ≤ 7302249 := ⟨by omega, by omega⟩
  refine ro_aload_n hK dL_law_353 rfl ?_
  refine ro_aload_nF hK dL_law_354 rfl ?_
  refine ro_iload_n hK dL_law_355 rfl ?_
  refine ro_iconst (x := 1) hK (by decide) dL_law_356 ?_
  refine ro_iadd hK dL_law_357 ?_
  obtain ⟨x_117, e_118, i_119, h⟩ := mb_sr_e h
  refine ro_sld hX i_119 e_118 dL_law_358 ?_
  obtain ⟨r_122, s_120, q_121, h⟩ := mb_cl_e h
  refine rb_callV hK mC_tear vL_27 (t_C_tear (dd := dd + 15) q_121) rfl mb_oC rfl (Nat.le_of_ble_eq_true rfl) dL_law_359 rfl hb ?_
  show K u v 362 [.float 0, .ref 0, .ref 200, .int w3] [.int r_122] (mb_s s_120)
  refine ro_aload_n hK dL_law_362 rfl ?_
  refine ro_aload_nF hK dL_law_363 rfl ?_
  refine ro_iload_n hK dL_law_364 rfl ?_
  refine ro_iconst (x := 1) hK (by decide) dL_law_365 ?_
  refine ro_iadd hK dL_law_366 ?_
  obtain ⟨x_123, e_124, i_125, h⟩ := mb_sr_e h
  refine ro_sld hX i_125 e_124 dL_law_367 ?_
  obtain ⟨r_128, s_126, q_127, h⟩ := mb_cl_e h
  refine rb_callV hK mM_tear vL_31 (t_M_tear (dd := dd + 14) q_127) rfl mb_oM rfl (Nat.le_of_ble_eq_true rfl) dL_law_368 rfl hb ?_
  show K u v 371 [.float 0, .ref 0, .ref 200, .int w3] [.int r_128, .int r_122] (mb_s s_126)
  refine ro_icmp_eq (tgt := 1474) hK dL_law_371 (by decide) (fun c_129 => ?_) (fun c_129 => ?_)
  · replace h := mb_ift c_129 h
    refine ro_iincv (c := 6) hK (by decide) dL_law_1474 rfl (by decide) ?_
    show K u v 1477 [.float 0, .ref 0, .ref 200, .int (w3 + 6)] [] (mb_s s_126)
    refine ro_goto (tgt := 18) hK dL_law_1477 (by decide) ?_
    exact hk _ _ _ _ (by omega) (by omega) h
  · replace h := mb_iff c_129 h
    refine ro_iconst (x := 0) hK (by decide) dL_law_374 ?_
    cases h
def f_L_c4 (n L : Nat) (xs : Nat → Int32) (k : Int32 → mb_T → Option Unit) (w3 : Int32) (s : mb_T) : Option Unit := mb_sr L xs (w3 + 1) fun x_130 => mb_sr L xs (w3 + 2) fun x_133 => mb_sr L xs (w3 + 3) fun x_136 => mb_sr L xs (w3 + 4) fun x_139 => mb_sr L xs (w3 + 5) fun x_142 => mb_cl (f_C_copy n x_130 x_133 x_136 x_139 x_142 s) fun r_147 s_145 => mb_sr L xs (w3 + 1) fun x_148 => mb_sr L xs (w3 + 2) fun x_151 => mb_sr L xs (w3 + 3) fun x_154 => mb_sr L xs (w3 + 4) fun x_157 => mb_sr L xs (w3 + 5) fun x_160 => mb_cl (f_M_copy n x_148 x_151 x_154 x_157 x_160 s_145) fun r_165 s_163 => if r_147 = r_165 then k (w3 + 6) s_163 else none
set_option maxHeartbeats 4000000 in
set_option maxRecDepth 100000 in
theorem tc_L_4 {dd n L f : Nat} {mn : String} {xs : Nat → Int32} {K : mj_KT} {k : Int32 → mb_T → Option Unit} {w3 : Int32} {s : mb_T} {u v : Nat} (hX : mj_X (dd + 19) 600000 7302249 RL_c mn code 4 L xs K) (hK : mj_C (dd + 19) 600000 7302249 RL_c mn code 4 K) (hk : ∀ (w3 : Int32) (s : mb_T) (u v : Nat), u + 9 * f ≤ 600000 → v + 878 * f ≤ 7302249 → k w3 s = some () → K u v 18 [.float 0, .ref 0, .ref 200, .int w3] [] (mb_s s)) (hu : u + 9 * (f + 1) ≤ 600000) (hv : v + 878 * (f + 1) ≤ 7302249) (h : f_L_c4 n L xs k w3 s = some ()) : K u v 376 [.float 0, .ref 0, .ref 200, .int w3] [] (mb_s s) := by
  unfold f_L_c4 at h
  have hb : u ≤ 600000 ∧ v ≤ 7302249 := ⟨by omega, by omega⟩
  have hb2 : u + 9 ≤ 600000 ∧ v + 878 ≤ 7302249 := ⟨by omega, by omega⟩
  refine ro_aload_n hK dL_law_376 rfl ?_
  refine ro_aload_nF hK dL_law_377 rfl ?_
  refine ro_iload_n hK dL_law_378 rfl ?_
  refine ro_iconst (x := 1) hK (by decide) dL_law_379 ?_
  refine ro_iadd hK dL_law_380 ?_
  obtain ⟨x_130, e_131, i_132, h⟩ := mb_sr_e h
  refine ro_sld hX i_132 e_131 dL_law_381 ?_
  refine ro_aload_nF hK dL_law_382 rfl ?_
  refine ro_iload_n hK dL_law_383 rfl ?_
  refine ro_iconst (x := 2) hK (by decide) dL_law_384 ?_
  refine ro_iadd hK dL_law_385 ?_
  obtain ⟨x_133, e_134, i_135, h⟩ := mb_sr_e h
  refine ro_sld hX i_135 e_134 dL_law_386 ?_
  refine ro_aload_nF hK dL_law_387 rfl ?_
  refine ro_iload_n hK dL_law_388 rfl ?_
  refine ro_iconst (x := 3) hK (by decide) dL_law_389 ?_
  refine ro_iadd hK dL_law_390 ?_
  obtain ⟨x_136, e_137, i_138, h⟩ := mb_sr_e h
  refine ro_sld hX i_138 e_137 dL_law_391 ?_
  refine ro_aload_nF hK dL_law_392 rfl ?_
  refine ro_iload_n hK dL_law_393 rfl ?_
  refine ro_iconst (x := 4) hK (by decide) dL_law_394 ?_
  refine ro_iadd hK dL_law_395 ?_
  obtain ⟨x_139, e_140, i_141, h⟩ := mb_sr_e h
  refine ro_sld hX i_141 e_140 dL_law_396 ?_
  refine ro_aload_nF hK dL_law_397 rfl ?_
  refine ro_iload_n hK dL_law_398 rfl ?_
  refine ro_iconst (x := 5) hK (by decide) dL_law_399 ?_
  refine ro_iadd hK dL_law_400 ?_
  obtain ⟨x_142, e_143, i_144, h⟩ := mb_sr_e h
  refine ro_sld hX i_144 e_143 dL_law_401 ?_
  obtain ⟨r_147, s_145, q_146, h⟩ := mb_cl_e h
  refine rb_callV hK mC_copy vL_32 (t_C_copy (dd := dd + 16) q_146) rfl mb_oC rfl (Nat.le_of_ble_eq_true rfl) dL_law_402 rfl hb ?_
  show K u v 405 [.float 0, .ref 0, .ref 200, .int w3] [.int r_147] (mb_s s_145)
  refine ro_aload_n hK dL_law_405 rfl ?_
  refine ro_aload_nF hK dL_law_406 rfl ?_
  refine ro_iload_n hK dL_law_407 rfl ?_
  refine ro_iconst (x := 1) hK (by decide) dL_law_408 ?_
  refine ro_iadd hK dL_law_409 ?_
  obtain ⟨x_148, e_149, i_150, h⟩ := mb_sr_e h
  refine ro_sld hX i_150 e_149 dL_law_410 ?_
  refine ro_aload_nF hK dL_law_411 rfl ?_
  refine ro_iload_n hK dL_law_412 rfl ?_
  refine ro_iconst (x := 2) hK (by decide) dL_law_413 ?_
  refine ro_iadd hK dL_law_414 ?_
  obtain ⟨x_151, e_152, i_153, h⟩ := mb_sr_e h
  refine ro_sld hX i_153 e_152 dL_law_415 ?_
  refine ro_aload_nF hK dL_law_416 rfl ?_
  refine ro_iload_n hK dL_law_417 rfl ?_
  refine ro_iconst (x := 3) hK (by decide) dL_law_418 ?_
  refine ro_iadd hK dL_law_419 ?_
  obtain ⟨x_154, e_155, i_156, h⟩ := mb_sr_e h
  refine ro_sld hX i_156 e_155 dL_law_420 ?_
  refine ro_aload_nF hK dL_law_421 rfl ?_
  refine ro_iload_n hK dL_law_422 rfl ?_
  refine ro_iconst (x := 4) hK (by decide) dL_law_423 ?_
  refine ro_iadd hK dL_law_424 ?_
  obtain ⟨x_157, e_158, i_159, h⟩ := mb_sr_e h
  refine ro_sld hX i_159 e_158 dL_law_425 ?_
  refine ro_aload_nF hK dL_law_426 rfl ?_
  refine ro_iload_n hK dL_law_427 rfl ?_
  refine ro_iconst (x := 5) hK (by decide) dL_law_428 ?_
  refine ro_iadd hK dL_law_429 ?_
  obtain ⟨x_160, e_161, i_162, h⟩ := mb_sr_e h
  refine ro_sld hX i_162 e_161 dL_law_430 ?_
  obtain ⟨r_165, s_163, q_164, h⟩ := mb_cl_e h
  refine rb_callV hK mM_copy vL_36 (t_M_copy (dd := dd + 15) q_164) rfl mb_oM rfl (Nat.le_of_ble_eq_true rfl) dL_law_431 rfl hb ?_
  show K u v 434 [.float 0, .ref 0, .ref 200, .int w3] [.int r_165, .int r_147] (mb_s s_163)
  refine ro_icmp_eq (tgt := 1474) hK dL_law_434 (by decide) (fun c_166 => ?_) (fun c_166 => ?_)
  · replace h := mb_ift c_166 h
    refine ro_iincv (c := 6) hK (by decide) dL_law_1474 rfl (by decide) ?_
    show K u v 1477 [.float 0, .ref 0, .ref 200, .int (w3 + 6)] [] (mb_s s_163)
    refine ro_goto (tgt := 18) hK dL_law_1477 (by decide) ?_
    exact hk _ _ _ _ (by omega) (by omega) h
  · replace h := mb_iff c_166 h
    refine ro_iconst (x := 0) hK (by decide) dL_law_437 ?_
    cases h
def f_L_c5 (n L : Nat) (xs : Nat → Int32) (k : Int32 → mb_T → Option Unit) (w3 : Int32) (s : mb_T) : Option Unit := mb_sr L xs (w3 + 1) fun x_167 => mb_cl (f_C_mean n x_167 s) fun r_172 s_170 => mb_sr L xs (w3 + 1) fun x_173 => mb_cl (f_M_mean n x_173 s_170) fun r_178 s_176 => if r_172 = r_178 then k (w3 + 6) s_176 else none
set_option maxHeartbeats 4000000 in
set_option maxRecDepth 100000 in
theorem tc_L_5 {dd n L f : Nat} {mn : String} {xs : Nat → Int32} {K : mj_KT} {k : Int32 → mb_T → Option Unit} {w3 : Int32} {s : mb_T} {u v : Nat} (hX : mj_X (dd + 19) 600000 7302249 RL_c mn code 4 L xs K) (hK : mj_C (dd + 19) 600000 7302249 RL_c mn code 4 K) (hk : ∀ (w3 : Int32) (s : mb_T) (u v : Nat), u + 9 * f ≤ 600000 → v + 878 * f ≤ 7302249 → k w3 s = some () → K u v 18 [.float 0, .ref 0, .ref 200, .int w3] [] (mb_s s)) (hu : u + 9 * (f + 1) ≤ 600000) (hv : v + 878 * (f + 1) ≤ 7302249) (h : f_L_c5 n L xs k w3 s = some ()) : K u v 439 [.float 0, .ref 0, .ref 200, .int w3] [] (mb_s s) := by
  unfold f_L_c5 at h
  have hb : u ≤ 600000 ∧ v ≤ 7302249 := ⟨by omega, by omega⟩
  have hb2 : u + 9 ≤ 600000 ∧ v + 878 ≤ 7302249 := ⟨by omega, by omega⟩
  refine ro_aload_n hK dL_law_439 rfl ?_
  refine ro_aload_nF hK dL_law_440 rfl ?_
  refine ro_iload_n hK dL_law_441 rfl ?_
  refine ro_iconst (x := 1) hK (by decide) dL_law_442 ?_
  refine ro_iadd hK dL_law_443 ?_
  obtain ⟨x_167, e_168, i_169, h⟩ := mb_sr_e h
  refine ro_sld hX i_169 e_168 dL_law_444 ?_
  obtain ⟨r_172, s_170, q_171, h⟩ := mb_cl_e h
  refine rb_callV hK mC_mean vL_37 (t_C_mean (dd := dd + 15) q_171) rfl mb_oC rfl (Nat.le_of_ble_eq_true rfl) dL_law_445 rfl hb ?_
  show K u v 448 [.float 0, .ref 0, .ref 200, .int w3] [.int r_172] (mb_s s_170)
  refine ro_aload_n hK dL_law_448 rfl ?_
  refine ro_aload_nF hK dL_law_449 rfl ?_
  refine ro_iload_n hK dL_law_450 rfl ?_
  refine ro_iconst (x := 1) hK (by decide) dL_law_451 ?_
  refine ro_iadd hK dL_law_452 ?_
  obtain ⟨x_173, e_174, i_175, h⟩ := mb_sr_e h
  refine ro_sld hX i_175 e_174 dL_law_453 ?_
  obtain ⟨r_178, s_176, q_177, h⟩ := mb_cl_e h
  refine rb_callV hK mM_mean vL_40 (t_M_mean (dd := dd + 14) q_177) rfl mb_oM rfl (Nat.le_of_ble_eq_true rfl) dL_law_454 rfl hb ?_
  show K u v 457 [.float 0, .ref 0, .ref 200, .int w3] [.int r_178, .int r_172] (mb_s s_176)
  refine ro_icmp_eq (tgt := 1474) hK dL_law_457 (by decide) (fun c_179 => ?_) (fun c_179 => ?_)
  · replace h := mb_ift c_179 h
    refine ro_iincv (c := 6) hK (by decide) dL_law_1474 rfl (by decide) ?_
    show K u v 1477 [.float 0, .ref 0, .ref 200, .int (w3 + 6)] [] (mb_s s_176)
    refine ro_goto (tgt := 18) hK dL_law_1477 (by decide) ?_
    exact hk _ _ _ _ (by omega) (by omega) h
  · replace h := mb_iff c_179 h
    refine ro_iconst (x := 0) hK (by decide) dL_law_460 ?_
    cases h
def f_L_c6 (n L : Nat) (xs : Nat → Int32) (k : Int32 → mb_T → Option Unit) (w3 : Int32) (s : mb_T) : Option Unit := mb_sr L xs (w3 + 1) fun x_180 => mb_sr L xs (w3 + 2) fun x_183 => mb_cl (f_C_text n x_180 x_183 s) fun r_188 s_186 => mb_sr L xs (w3 + 1) fun x_189 => mb_sr L xs (w3 + 2) fun x_192 => mb_cl (f_M_text n x_189 x_192 s_186) fun r_197 s_195 => if r_188 = r_197 then k (w3 + 6) s_195 else none
set_option maxHeartbeats 4000000 in
set_option maxRecDepth 100000 in
theorem tc_L_6 {dd n L f : Nat} {mn : String} {xs : Nat → Int32} {K : mj_KT} {k : Int32 → mb_T → Option Unit} {w3 : Int32} {s : mb_T} {u v : Nat} (hX : mj_X (dd + 19) 600000 7302249 RL_c mn code 4 L xs K) (hK : mj_C (dd + 19) 600000 7302249 RL_c mn code 4 K) (hk : ∀ (w3 : Int32) (s : mb_T) (u v : Nat), u + 9 * f ≤ 600000 → v + 878 * f ≤ 7302249 → k w3 s = some () → K u v 18 [.float 0, .ref 0, .ref 200, .int w3] [] (mb_s s)) (hu : u + 9 * (f + 1) ≤ 600000) (hv : v + 878 * (f + 1) ≤ 7302249) (h : f_L_c6 n L xs k w3 s = some ()) : K u v 462 [.float 0, .ref 0, .ref 200, .int w3] [] (mb_s s) := by
  unfold f_L_c6 at h
  have hb : u ≤ 600000 ∧ v ≤ 7302249 := ⟨by omega, by omega⟩
  have hb2 : u + 9 ≤ 600000 ∧ v + 878 ≤ 7302249 := ⟨by omega, by omega⟩
  refine ro_aload_n hK dL_law_462 rfl ?_
  refine ro_aload_nF hK dL_law_463 rfl ?_
  refine ro_iload_n hK dL_law_464 rfl ?_
  refine ro_iconst (x := 1) hK (by decide) dL_law_465 ?_
  refine ro_iadd hK dL_law_466 ?_
  obtain ⟨x_180, e_181, i_182, h⟩ := mb_sr_e h
  refine ro_sld hX i_182 e_181 dL_law_467 ?_
  refine ro_aload_nF hK dL_law_468 rfl ?_
  refine ro_iload_n hK dL_law_469 rfl ?_
  refine ro_iconst (x := 2) hK (by decide) dL_law_470 ?_
  refine ro_iadd hK dL_law_471 ?_
  obtain ⟨x_183, e_184, i_185, h⟩ := mb_sr_e h
  refine ro_sld hX i_185 e_184 dL_law_472 ?_
  obtain ⟨r_188, s_186, q_187, h⟩ := mb_cl_e h
  refine rb_callV hK mC_text vL_41 (t_C_text (dd := dd + 16) q_187) rfl mb_oC rfl (Nat.le_of_ble_eq_true rfl) dL_law_473 rfl hb ?_
  show K u v 476 [.float 0, .ref 0, .ref 200, .int w3] [.int r_188] (mb_s s_186)
  refine ro_aload_n hK dL_law_476 rfl ?_
  refine ro_aload_nF hK dL_law_477 rfl ?_
  refine ro_iload_n hK dL_law_478 rfl ?_
  refine ro_iconst (x := 1) hK (by decide) dL_law_479 ?_
  refine ro_iadd hK dL_law_480 ?_
  obtain ⟨x_189, e_190, i_191, h⟩ := mb_sr_e h
  refine ro_sld hX i_191 e_190 dL_law_481 ?_
  refine ro_aload_nF hK dL_law_482 rfl ?_
  refine ro_iload_n hK dL_law_483 rfl ?_
  refine ro_iconst (x := 2) hK (by decide) dL_law_484 ?_
  refine ro_iadd hK dL_law_485 ?_
  obtain ⟨x_192, e_193, i_194, h⟩ := mb_sr_e h
  refine ro_sld hX i_194 e_193 dL_law_486 ?_
  obtain ⟨r_197, s_195, q_196, h⟩ := mb_cl_e h
  refine rb_callV hK mM_text vL_44 (t_M_text (dd := dd + 15) q_196) rfl mb_oM rfl (Nat.le_of_ble_eq_true rfl) dL_law_487 rfl hb ?_
  show K u v 490 [.float 0, .ref 0, .ref 200, .int w3] [.int r_197, .int r_188] (mb_s s_195)
  refine ro_icmp_eq (tgt := 1474) hK dL_law_490 (by decide) (fun c_198 => ?_) (fun c_198 => ?_)
  · replace h := mb_ift c_198 h
    refine ro_iincv (c := 6) hK (by decide) dL_law_1474 rfl (by decide) ?_
    show K u v 1477 [.float 0, .ref 0, .ref 200, .int (w3 + 6)] [] (mb_s s_195)
    refine ro_goto (tgt := 18) hK dL_law_1477 (by decide) ?_
    exact hk _ _ _ _ (by omega) (by omega) h
  · replace h := mb_iff c_198 h
    refine ro_iconst (x := 0) hK (by decide) dL_law_493 ?_
    cases h
def f_L_c7 (n L : Nat) (xs : Nat → Int32) (k : Int32 → mb_T → Option Unit) (w3 : Int32) (s : mb_T) : Option Unit := mb_sr L xs (w3 + 1) fun x_199 => mb_sr L xs (w3 + 2) fun x_202 => mb_sr L xs (w3 + 3) fun x_205 => mb_cl (f_C_put n x_199 x_202 x_205 s) fun r_210 s_208 => mb_sr L xs (w3 + 1) fun x_211 => mb_sr L xs (w3 + 2) fun x_214 => mb_sr L xs (w3 + 3) fun x_217 => mb_cl (f_M_put n x_211 x_214 x_217 s_208) fun r_222 s_220 => if r_210 = r_222 then k (w3 + 6) s_220 else none
set_option maxHeartbeats 4000000 in
set_option maxRecDepth 100000 in
theorem tc_L_7 {dd n L f : Nat} {mn : String} {xs : Nat → Int32} {K : mj_KT} {k : Int32 → mb_T → Option Unit} {w3 : Int32} {s : mb_T} {u v : Nat} (hX : mj_X (dd + 19) 600000 7302249 RL_c mn code 4 L xs K) (hK : mj_C (dd + 19) 600000 7302249 RL_c mn code 4 K) (hk : ∀ (w3 : Int32) (s : mb_T) (u v : Nat), u + 9 * f ≤ 600000 → v + 878 * f ≤ 7302249 → k w3 s = some () → K u v 18 [.float 0, .ref 0, .ref 200, .int w3] [] (mb_s s)) (hu : u + 9 * (f + 1) ≤ 600000) (hv : v + 878 * (f + 1) ≤ 7302249) (h : f_L_c7 n L xs k w3 s = some ()) : K u v 495 [.float 0, .ref 0, .ref 200, .int w3] [] (mb_s s) := by
  unfold f_L_c7 at h
  have hb : u ≤ 600000 ∧ v ≤ 7302249 := ⟨by omega, by omega⟩
  have hb2 : u + 9 ≤ 600000 ∧ v + 878 ≤ 7302249 := ⟨by omega, by omega⟩
  refine ro_aload_n hK dL_law_495 rfl ?_
  refine ro_aload_nF hK dL_law_496 rfl ?_
  refine ro_iload_n hK dL_law_497 rfl ?_
  refine ro_iconst (x := 1) hK (by decide) dL_law_498 ?_
  refine ro_iadd hK dL_law_499 ?_
  obtain ⟨x_199, e_200, i_201, h⟩ := mb_sr_e h
  refine ro_sld hX i_201 e_200 dL_law_500 ?_
  refine ro_aload_nF hK dL_law_501 rfl ?_
  refine ro_iload_n hK dL_law_502 rfl ?_
  refine ro_iconst (x := 2) hK (by decide) dL_law_503 ?_
  refine ro_iadd hK dL_law_504 ?_
  obtain ⟨x_202, e_203, i_204, h⟩ := mb_sr_e h
  refine ro_sld hX i_204 e_203 dL_law_505 ?_
  refine ro_aload_nF hK dL_law_506 rfl ?_
  refine ro_iload_n hK dL_law_507 rfl ?_
  refine ro_iconst (x := 3) hK (by decide) dL_law_508 ?_
  refine ro_iadd hK dL_law_509 ?_
  obtain ⟨x_205, e_206, i_207, h⟩ := mb_sr_e h
  refine ro_sld hX i_207 e_206 dL_law_510 ?_
  obtain ⟨r_210, s_208, q_209, h⟩ := mb_cl_e h
  refine rb_callV hK mC_put vL_45 (t_C_put (dd := dd + 15) q_209) rfl mb_oC rfl (Nat.le_of_ble_eq_true rfl) dL_law_511 rfl hb ?_
  show K u v 514 [.float 0, .ref 0, .ref 200, .int w3] [.int r_210] (mb_s s_208)
  refine ro_aload_n hK dL_law_514 rfl ?_
  refine ro_aload_nF hK dL_law_515 rfl ?_
  refine ro_iload_n hK dL_law_516 rfl ?_
  refine ro_iconst (x := 1) hK (by decide) dL_law_517 ?_
  refine ro_iadd hK dL_law_518 ?_
  obtain ⟨x_211, e_212, i_213, h⟩ := mb_sr_e h
  refine ro_sld hX i_213 e_212 dL_law_519 ?_
  refine ro_aload_nF hK dL_law_520 rfl ?_
  refine ro_iload_n hK dL_law_521 rfl ?_
  refine ro_iconst (x := 2) hK (by decide) dL_law_522 ?_
  refine ro_iadd hK dL_law_523 ?_
  obtain ⟨x_214, e_215, i_216, h⟩ := mb_sr_e h
  refine ro_sld hX i_216 e_215 dL_law_524 ?_
  refine ro_aload_nF hK dL_law_525 rfl ?_
  refine ro_iload_n hK dL_law_526 rfl ?_
  refine ro_iconst (x := 3) hK (by decide) dL_law_527 ?_
  refine ro_iadd hK dL_law_528 ?_
  obtain ⟨x_217, e_218, i_219, h⟩ := mb_sr_e h
  refine ro_sld hX i_219 e_218 dL_law_529 ?_
  obtain ⟨r_222, s_220, q_221, h⟩ := mb_cl_e h
  refine rb_callV hK mM_put vL_48 (t_M_put (dd := dd + 14) q_221) rfl mb_oM rfl (Nat.le_of_ble_eq_true rfl) dL_law_530 rfl hb ?_
  show K u v 533 [.float 0, .ref 0, .ref 200, .int w3] [.int r_222, .int r_210] (mb_s s_220)
  refine ro_icmp_eq (tgt := 1474) hK dL_law_533 (by decide) (fun c_223 => ?_) (fun c_223 => ?_)
  · replace h := mb_ift c_223 h
    refine ro_iincv (c := 6) hK (by decide) dL_law_1474 rfl (by decide) ?_
    show K u v 1477 [.float 0, .ref 0, .ref 200, .int (w3 + 6)] [] (mb_s s_220)
    refine ro_goto (tgt := 18) hK dL_law_1477 (by decide) ?_
    exact hk _ _ _ _ (by omega) (by omega) h
  · replace h := mb_iff c_223 h
    refine ro_iconst (x := 0) hK (by decide) dL_law_536 ?_
    cases h
def f_L_c8 (n L : Nat) (xs : Nat → Int32) (k : Int32 → mb_T → Option Unit) (w3 : Int32) (s : mb_T) : Option Unit := mb_sr L xs (w3 + 1) fun x_224 => mb_cl (f_C_fault n x_224 s) fun r_229 s_227 => mb_sr L xs (w3 + 1) fun x_230 => mb_cl (f_M_fault n x_230 s_227) fun r_235 s_233 => if r_229 = r_235 then k (w3 + 6) s_233 else none
set_option maxHeartbeats 4000000 in
set_option maxRecDepth 100000 in
theorem tc_L_8 {dd n L f : Nat} {mn : String} {xs : Nat → Int32} {K : mj_KT} {k : Int32 → mb_T → Option Unit} {w3 : Int32} {s : mb_T} {u v : Nat} (hX : mj_X (dd + 19) 600000 7302249 RL_c mn code 4 L xs K) (hK : mj_C (dd + 19) 600000 7302249 RL_c mn code 4 K) (hk : ∀ (w3 : Int32) (s : mb_T) (u v : Nat), u + 9 * f ≤ 600000 → v + 878 * f ≤ 7302249 → k w3 s = some () → K u v 18 [.float 0, .ref 0, .ref 200, .int w3] [] (mb_s s)) (hu : u + 9 * (f + 1) ≤ 600000) (hv : v + 878 * (f + 1) ≤ 7302249) (h : f_L_c8 n L xs k w3 s = some ()) : K u v 538 [.float 0, .ref 0, .ref 200, .int w3] [] (mb_s s) := by
  unfold f_L_c8 at h
  have hb : u ≤ 600000 ∧ v ≤ 7302249 := ⟨by omega, by omega⟩
  have hb2 : u + 9 ≤ 600000 ∧ v + 878 ≤ 7302249 := ⟨by omega, by omega⟩
  refine ro_aload_n hK dL_law_538 rfl ?_
  refine ro_aload_nF hK dL_law_539 rfl ?_
  refine ro_iload_n hK dL_law_540 rfl ?_
  refine ro_iconst (x := 1) hK (by decide) dL_law_541 ?_
  refine ro_iadd hK dL_law_542 ?_
  obtain ⟨x_224, e_225, i_226, h⟩ := mb_sr_e h
  refine ro_sld hX i_226 e_225 dL_law_543 ?_
  obtain ⟨r_229, s_227, q_228, h⟩ := mb_cl_e h
  refine rb_callV hK mC_fault vL_49 (t_C_fault (dd := dd + 13) q_228) rfl mb_oC rfl (Nat.le_of_ble_eq_true rfl) dL_law_544 rfl hb ?_
  show K u v 547 [.float 0, .ref 0, .ref 200, .int w3] [.int r_229] (mb_s s_227)
  refine ro_aload_n hK dL_law_547 rfl ?_
  refine ro_aload_nF hK dL_law_548 rfl ?_
  refine ro_iload_n hK dL_law_549 rfl ?_
  refine ro_iconst (x := 1) hK (by decide) dL_law_550 ?_
  refine ro_iadd hK dL_law_551 ?_
  obtain ⟨x_230, e_231, i_232, h⟩ := mb_sr_e h
  refine ro_sld hX i_232 e_231 dL_law_552 ?_
  obtain ⟨r_235, s_233, q_234, h⟩ := mb_cl_e h
  refine rb_callV hK mM_fault vL_52 (t_M_fault (dd := dd + 13) q_234) rfl mb_oM rfl (Nat.le_of_ble_eq_true rfl) dL_law_553 rfl hb ?_
  show K u v 556 [.float 0, .ref 0, .ref 200, .int w3] [.int r_235, .int r_229] (mb_s s_233)
  refine ro_icmp_eq (tgt := 1474) hK dL_law_556 (by decide) (fun c_236 => ?_) (fun c_236 => ?_)
  · replace h := mb_ift c_236 h
    refine ro_iincv (c := 6) hK (by decide) dL_law_1474 rfl (by decide) ?_
    show K u v 1477 [.float 0, .ref 0, .ref 200, .int (w3 + 6)] [] (mb_s s_233)
    refine ro_goto (tgt := 18) hK dL_law_1477 (by decide) ?_
    exact hk _ _ _ _ (by omega) (by omega) h
  · replace h := mb_iff c_236 h
    refine ro_iconst (x := 0) hK (by decide) dL_law_559 ?_
    cases h
def f_L_c9 (n L : Nat) (xs : Nat → Int32) (k : Int32 → mb_T → Option Unit) (w3 : Int32) (s : mb_T) : Option Unit := mb_sr L xs (w3 + 1) fun x_237 => mb_cl (f_C_cave n x_237 s) fun r_242 s_240 => mb_sr L xs (w3 + 1) fun x_243 => mb_cl (f_M_cave n x_243 s_240) fun r_248 s_246 => if r_242 = r_248 then k (w3 + 6) s_246 else none
set_option maxHeartbeats 4000000 in
set_option maxRecDepth 100000 in
theorem tc_L_9 {dd n L f : Nat} {mn : String} {xs : Nat → Int32} {K : mj_KT} {k : Int32 → mb_T → Option Unit} {w3 : Int32} {s : mb_T} {u v : Nat} (hX : mj_X (dd + 19) 600000 7302249 RL_c mn code 4 L xs K) (hK : mj_C (dd + 19) 600000 7302249 RL_c mn code 4 K) (hk : ∀ (w3 : Int32) (s : mb_T) (u v : Nat), u + 9 * f ≤ 600000 → v + 878 * f ≤ 7302249 → k w3 s = some () → K u v 18 [.float 0, .ref 0, .ref 200, .int w3] [] (mb_s s)) (hu : u + 9 * (f + 1) ≤ 600000) (hv : v + 878 * (f + 1) ≤ 7302249) (h : f_L_c9 n L xs k w3 s = some ()) : K u v 561 [.float 0, .ref 0, .ref 200, .int w3] [] (mb_s s) := by
  unfold f_L_c9 at h
  have hb : u ≤ 600000 ∧ v ≤ 7302249 := ⟨by omega, by omega⟩
  have hb2 : u + 9 ≤ 600000 ∧ v + 878 ≤ 7302249 := ⟨by omega, by omega⟩
  refine ro_aload_n hK dL_law_561 rfl ?_
  refine ro_aload_nF hK dL_law_562 rfl ?_
  refine ro_iload_n hK dL_law_563 rfl ?_
  refine ro_iconst (x := 1) hK (by decide) dL_law_564 ?_
  refine ro_iadd hK dL_law_565 ?_
  obtain ⟨x_237, e_238, i_239, h⟩ := mb_sr_e h
  refine ro_sld hX i_239 e_238 dL_law_566 ?_
  obtain ⟨r_242, s_240, q_241, h⟩ := mb_cl_e h
  refine rb_callV hK mC_cave vL_53 (t_C_cave (dd := dd + 13) q_241) rfl mb_oC rfl (Nat.le_of_ble_eq_true rfl) dL_law_567 rfl hb ?_
  show K u v 570 [.float 0, .ref 0, .ref 200, .int w3] [.int r_242] (mb_s s_240)
  refine ro_aload_n hK dL_law_570 rfl ?_
  refine ro_aload_nF hK dL_law_571 rfl ?_
  refine ro_iload_n hK dL_law_572 rfl ?_
  refine ro_iconst (x := 1) hK (by decide) dL_law_573 ?_
  refine ro_iadd hK dL_law_574 ?_
  obtain ⟨x_243, e_244, i_245, h⟩ := mb_sr_e h
  refine ro_sld hX i_245 e_244 dL_law_575 ?_
  obtain ⟨r_248, s_246, q_247, h⟩ := mb_cl_e h
  refine rb_callV hK mM_cave vL_56 (t_M_cave (dd := dd + 13) q_247) rfl mb_oM rfl (Nat.le_of_ble_eq_true rfl) dL_law_576 rfl hb ?_
  show K u v 579 [.float 0, .ref 0, .ref 200, .int w3] [.int r_248, .int r_242] (mb_s s_246)
  refine ro_icmp_eq (tgt := 1474) hK dL_law_579 (by decide) (fun c_249 => ?_) (fun c_249 => ?_)
  · replace h := mb_ift c_249 h
    refine ro_iincv (c := 6) hK (by decide) dL_law_1474 rfl (by decide) ?_
    show K u v 1477 [.float 0, .ref 0, .ref 200, .int (w3 + 6)] [] (mb_s s_246)
    refine ro_goto (tgt := 18) hK dL_law_1477 (by decide) ?_
    exact hk _ _ _ _ (by omega) (by omega) h
  · replace h := mb_iff c_249 h
    refine ro_iconst (x := 0) hK (by decide) dL_law_582 ?_
    cases h
def f_L_c10 (n L : Nat) (xs : Nat → Int32) (k : Int32 → mb_T → Option Unit) (w3 : Int32) (s : mb_T) : Option Unit := mb_sr L xs (w3 + 1) fun x_250 => mb_sr L xs (w3 + 2) fun x_253 => mb_cl (f_C_person n x_250 x_253 s) fun r_258 s_256 => mb_sr L xs (w3 + 1) fun x_259 => mb_sr L xs (w3 + 2) fun x_262 => mb_cl (f_M_person n x_259 x_262 s_256) fun r_267 s_265 => if r_258 = r_267 then k (w3 + 6) s_265 else none
set_option maxHeartbeats 4000000 in
set_option maxRecDepth 100000 in
theorem tc_L_10 {dd n L f : Nat} {mn : String} {xs : Nat → Int32} {K : mj_KT} {k : Int32 → mb_T → Option Unit} {w3 : Int32} {s : mb_T} {u v : Nat} (hX : mj_X (dd + 19) 600000 7302249 RL_c mn code 4 L xs K) (hK : mj_C (dd + 19) 600000 7302249 RL_c mn code 4 K) (hk : ∀ (w3 : Int32) (s : mb_T) (u v : Nat), u + 9 * f ≤ 600000 → v + 878 * f ≤ 7302249 → k w3 s = some () → K u v 18 [.float 0, .ref 0, .ref 200, .int w3] [] (mb_s s)) (hu : u + 9 * (f + 1) ≤ 600000) (hv : v + 878 * (f + 1) ≤ 7302249) (h : f_L_c10 n L xs k w3 s = some ()) : K u v 584 [.float 0, .ref 0, .ref 200, .int w3] [] (mb_s s) := by
  unfold f_L_c10 at h
  have hb : u ≤ 600000 ∧ v ≤ 7302249 := ⟨by omega, by omega⟩
  have hb2 : u + 9 ≤ 600000 ∧ v + 878 ≤ 7302249 := ⟨by omega, by omega⟩
  refine ro_aload_n hK dL_law_584 rfl ?_
  refine ro_aload_nF hK dL_law_585 rfl ?_
  refine ro_iload_n hK dL_law_586 rfl ?_
  refine ro_iconst (x := 1) hK (by decide) dL_law_587 ?_
  refine ro_iadd hK dL_law_588 ?_
  obtain ⟨x_250, e_251, i_252, h⟩ := mb_sr_e h
  refine ro_sld hX i_252 e_251 dL_law_589 ?_
  refine ro_aload_nF hK dL_law_590 rfl ?_
  refine ro_iload_n hK dL_law_591 rfl ?_
  refine ro_iconst (x := 2) hK (by decide) dL_law_592 ?_
  refine ro_iadd hK dL_law_593 ?_
  obtain ⟨x_253, e_254, i_255, h⟩ := mb_sr_e h
  refine ro_sld hX i_255 e_254 dL_law_594 ?_
  obtain ⟨r_258, s_256, q_257, h⟩ := mb_cl_e h
  refine rb_callV hK mC_person vL_57 (t_C_person (dd := dd + 13) q_257) rfl mb_oC rfl (Nat.le_of_ble_eq_true rfl) dL_law_595 rfl hb ?_
  show K u v 598 [.float 0, .ref 0, .ref 200, .int w3] [.int r_258] (mb_s s_256)
  refine ro_aload_n hK dL_law_598 rfl ?_
  refine ro_aload_nF hK dL_law_599 rfl ?_
  refine ro_iload_n hK dL_law_600 rfl ?_
  refine ro_iconst (x := 1) hK (by decide) dL_law_601 ?_
  refine ro_iadd hK dL_law_602 ?_
  obtain ⟨x_259, e_260, i_261, h⟩ := mb_sr_e h
  refine ro_sld hX i_261 e_260 dL_law_603 ?_
  refine ro_aload_nF hK dL_law_604 rfl ?_
  refine ro_iload_n hK dL_law_605 rfl ?_
  refine ro_iconst (x := 2) hK (by decide) dL_law_606 ?_
  refine ro_iadd hK dL_law_607 ?_
  obtain ⟨x_262, e_263, i_264, h⟩ := mb_sr_e h
  refine ro_sld hX i_264 e_263 dL_law_608 ?_
  obtain ⟨r_267, s_265, q_266, h⟩ := mb_cl_e h
  refine rb_callV hK mM_person vL_60 (t_M_person (dd := dd + 14) q_266) rfl mb_oM rfl (Nat.le_of_ble_eq_true rfl) dL_law_609 rfl hb ?_
  show K u v 612 [.float 0, .ref 0, .ref 200, .int w3] [.int r_267, .int r_258] (mb_s s_265)
  refine ro_icmp_eq (tgt := 1474) hK dL_law_612 (by decide) (fun c_268 => ?_) (fun c_268 => ?_)
  · replace h := mb_ift c_268 h
    refine ro_iincv (c := 6) hK (by decide) dL_law_1474 rfl (by decide) ?_
    show K u v 1477 [.float 0, .ref 0, .ref 200, .int (w3 + 6)] [] (mb_s s_265)
    refine ro_goto (tgt := 18) hK dL_law_1477 (by decide) ?_
    exact hk _ _ _ _ (by omega) (by omega) h
  · replace h := mb_iff c_268 h
    refine ro_iconst (x := 0) hK (by decide) dL_law_615 ?_
    cases h
def f_L_c11 (n L : Nat) (xs : Nat → Int32) (k : Int32 → mb_T → Option Unit) (w3 : Int32) (s : mb_T) : Option Unit := mb_sr L xs (w3 + 1) fun x_269 => mb_sr L xs (w3 + 2) fun x_272 => mb_cl (f_C_mark n x_269 x_272 s) fun r_277 s_275 => mb_sr L xs (w3 + 1) fun x_278 => mb_sr L xs (w3 + 2) fun x_281 => mb_cl (f_M_mark n x_278 x_281 s_275) fun r_286 s_284 => if r_277 = r_286 then k (w3 + 6) s_284 else none
set_option maxHeartbeats 4000000 in
set_option maxRecDepth 100000 in
theorem tc_L_11 {dd n L f : Nat} {mn : String} {xs : Nat → Int32} {K : mj_KT} {k : Int32 → mb_T → Option Unit} {w3 : Int32} {s : mb_T} {u v : Nat} (hX : mj_X (dd + 19) 600000 7302249 RL_c mn code 4 L xs K) (hK : mj_C (dd + 19) 600000 7302249 RL_c mn code 4 K) (hk : ∀ (w3 : Int32) (s : mb_T) (u v : Nat), u + 9 * f ≤ 600000 → v + 878 * f ≤ 7302249 → k w3 s = some () → K u v 18 [.float 0, .ref 0, .ref 200, .int w3] [] (mb_s s)) (hu : u + 9 * (f + 1) ≤ 600000) (hv : v + 878 * (f + 1) ≤ 7302249) (h : f_L_c11 n L xs k w3 s = some ()) : K u v 617 [.float 0, .ref 0, .ref 200, .int w3] [] (mb_s s) := by
  unfold f_L_c11 at h
  have hb : u ≤ 600000 ∧ v ≤ 7302249 := ⟨by omega, by omega⟩
  have hb2 : u + 9 ≤ 600000 ∧ v + 878 ≤ 7302249 := ⟨by omega, by omega⟩
  refine ro_aload_n hK dL_law_617 rfl ?_
  refine ro_aload_nF hK dL_law_618 rfl ?_
  refine ro_iload_n hK dL_law_619 rfl ?_
  refine ro_iconst (x := 1) hK (by decide) dL_law_620 ?_
  refine ro_iadd hK dL_law_621 ?_
  obtain ⟨x_269, e_270, i_271, h⟩ := mb_sr_e h
  refine ro_sld hX i_271 e_270 dL_law_622 ?_
  refine ro_aload_nF hK dL_law_623 rfl ?_
  refine ro_iload_n hK dL_law_624 rfl ?_
  refine ro_iconst (x := 2) hK (by decide) dL_law_625 ?_
  refine ro_iadd hK dL_law_626 ?_
  obtain ⟨x_272, e_273, i_274, h⟩ := mb_sr_e h
  refine ro_sld hX i_274 e_273 dL_law_627 ?_
  obtain ⟨r_277, s_275, q_276, h⟩ := mb_cl_e h
  refine rb_callV hK mC_mark vL_61 (t_C_mark (dd := dd + 14) q_276) rfl mb_oC rfl (Nat.le_of_ble_eq_true rfl) dL_law_628 rfl hb ?_
  show K u v 631 [.float 0, .ref 0, .ref 200, .int w3] [.int r_277] (mb_s s_275)
  refine ro_aload_n hK dL_law_631 rfl ?_
  refine ro_aload_nF hK dL_law_632 rfl ?_
  refine ro_iload_n hK dL_law_633 rfl ?_
  refine ro_iconst (x := 1) hK (by decide) dL_law_634 ?_
  refine ro_iadd hK dL_law_635 ?_
  obtain ⟨x_278, e_279, i_280, h⟩ := mb_sr_e h
  refine ro_sld hX i_280 e_279 dL_law_636 ?_
  refine ro_aload_nF hK dL_law_637 rfl ?_
  refine ro_iload_n hK dL_law_638 rfl ?_
  refine ro_iconst (x := 2) hK (by decide) dL_law_639 ?_
  refine ro_iadd hK dL_law_640 ?_
  obtain ⟨x_281, e_282, i_283, h⟩ := mb_sr_e h
  refine ro_sld hX i_283 e_282 dL_law_641 ?_
  obtain ⟨r_286, s_284, q_285, h⟩ := mb_cl_e h
  refine rb_callV hK mM_mark vL_64 (t_M_mark (dd := dd + 15) q_285) rfl mb_oM rfl (Nat.le_of_ble_eq_true rfl) dL_law_642 rfl hb ?_
  show K u v 645 [.float 0, .ref 0, .ref 200, .int w3] [.int r_286, .int r_277] (mb_s s_284)
  refine ro_icmp_eq (tgt := 1474) hK dL_law_645 (by decide) (fun c_287 => ?_) (fun c_287 => ?_)
  · replace h := mb_ift c_287 h
    refine ro_iincv (c := 6) hK (by decide) dL_law_1474 rfl (by decide) ?_
    show K u v 1477 [.float 0, .ref 0, .ref 200, .int (w3 + 6)] [] (mb_s s_284)
    refine ro_goto (tgt := 18) hK dL_law_1477 (by decide) ?_
    exact hk _ _ _ _ (by omega) (by omega) h
  · replace h := mb_iff c_287 h
    refine ro_iconst (x := 0) hK (by decide) dL_law_648 ?_
    cases h
def f_L_c12 (n L : Nat) (xs : Nat → Int32) (k : Int32 → mb_T → Option Unit) (w3 : Int32) (s : mb_T) : Option Unit := mb_sr L xs (w3 + 1) fun x_288 => mb_cl (f_C_law n x_288 s) fun r_293 s_291 => mb_sr L xs (w3 + 1) fun x_294 => mb_cl (f_M_law n x_294 s_291) fun r_299 s_297 => if r_293 = r_299 then k (w3 + 6) s_297 else none
set_option maxHeartbeats 4000000 in
set_option maxRecDepth 100000 in
theorem tc_L_12 {dd n L f : Nat} {mn : String} {xs : Nat → Int32} {K : mj_KT} {k : Int32 → mb_T → Option Unit} {w3 : Int32} {s : mb_T} {u v : Nat} (hX : mj_X (dd + 19) 600000 7302249 RL_c mn code 4 L xs K) (hK : mj_C (dd + 19) 600000 7302249 RL_c mn code 4 K) (hk : ∀ (w3 : Int32) (s : mb_T) (u v : Nat), u + 9 * f ≤ 600000 → v + 878 * f ≤ 7302249 → k w3 s = some () → K u v 18 [.float 0, .ref 0, .ref 200, .int w3] [] (mb_s s)) (hu : u + 9 * (f + 1) ≤ 600000) (hv : v + 878 * (f + 1) ≤ 7302249) (h : f_L_c12 n L xs k w3 s = some ()) : K u v 650 [.float 0, .ref 0, .ref 200, .int w3] [] (mb_s s) := by
  unfold f_L_c12 at h
  have hb : u ≤ 600000 ∧ v ≤ 7302249 := ⟨by omega, by omega⟩
  have hb2 : u + 9 ≤ 600000 ∧ v + 878 ≤ 7302249 := ⟨by omega, by omega⟩
  refine ro_aload_n hK dL_law_650 rfl ?_
  refine ro_aload_nF hK dL_law_651 rfl ?_
  refine ro_iload_n hK dL_law_652 rfl ?_
  refine ro_iconst (x := 1) hK (by decide) dL_law_653 ?_
  refine ro_iadd hK dL_law_654 ?_
  obtain ⟨x_288, e_289, i_290, h⟩ := mb_sr_e h
  refine ro_sld hX i_290 e_289 dL_law_655 ?_
  obtain ⟨r_293, s_291, q_292, h⟩ := mb_cl_e h
  refine rb_callV hK mC_law vL_65 (t_C_law (dd := dd + 16) q_292) rfl mb_oC rfl (Nat.le_of_ble_eq_true rfl) dL_law_656 rfl hb ?_
  show K u v 659 [.float 0, .ref 0, .ref 200, .int w3] [.int r_293] (mb_s s_291)
  refine ro_aload_n hK dL_law_659 rfl ?_
  refine ro_aload_nF hK dL_law_660 rfl ?_
  refine ro_iload_n hK dL_law_661 rfl ?_
  refine ro_iconst (x := 1) hK (by decide) dL_law_662 ?_
  refine ro_iadd hK dL_law_663 ?_
  obtain ⟨x_294, e_295, i_296, h⟩ := mb_sr_e h
  refine ro_sld hX i_296 e_295 dL_law_664 ?_
  obtain ⟨r_299, s_297, q_298, h⟩ := mb_cl_e h
  refine rb_callV hK mM_law vL_68 (t_M_law (dd := dd + 16) q_298) rfl mb_oM rfl (Nat.le_of_ble_eq_true rfl) dL_law_665 rfl hb ?_
  show K u v 668 [.float 0, .ref 0, .ref 200, .int w3] [.int r_299, .int r_293] (mb_s s_297)
  refine ro_icmp_eq (tgt := 1474) hK dL_law_668 (by decide) (fun c_300 => ?_) (fun c_300 => ?_)
  · replace h := mb_ift c_300 h
    refine ro_iincv (c := 6) hK (by decide) dL_law_1474 rfl (by decide) ?_
    show K u v 1477 [.float 0, .ref 0, .ref 200, .int (w3 + 6)] [] (mb_s s_297)
    refine ro_goto (tgt := 18) hK dL_law_1477 (by decide) ?_
    exact hk _ _ _ _ (by omega) (by omega) h
  · replace h := mb_iff c_300 h
    refine ro_iconst (x := 0) hK (by decide) dL_law_671 ?_
    cases h
def f_L_c13 (n L : Nat) (xs : Nat → Int32) (k : Int32 → mb_T → Option Unit) (w3 : Int32) (s : mb_T) : Option Unit := mb_sr L xs (w3 + 1) fun x_301 => mb_cl (f_C_oil n x_301 s) fun r_306 s_304 => mb_sr L xs (w3 + 1) fun x_307 => mb_cl (f_M_oil n x_307 s_304) fun r_312 s_310 => if r_306 = r_312 then k (w3 + 6) s_310 else none
set_option maxHeartbeats 4000000 in
set_option maxRecDepth 100000 in
theorem tc_L_13 {dd n L f : Nat} {mn : String} {xs : Nat → Int32} {K : mj_KT} {k : Int32 → mb_T → Option Unit} {w3 : Int32} {s : mb_T} {u v : Nat} (hX : mj_X (dd + 19) 600000 7302249 RL_c mn code 4 L xs K) (hK : mj_C (dd + 19) 600000 7302249 RL_c mn code 4 K) (hk : ∀ (w3 : Int32) (s : mb_T) (u v : Nat), u + 9 * f ≤ 600000 → v + 878 * f ≤ 7302249 → k w3 s = some () → K u v 18 [.float 0, .ref 0, .ref 200, .int w3] [] (mb_s s)) (hu : u + 9 * (f + 1) ≤ 600000) (hv : v + 878 * (f + 1) ≤ 7302249) (h : f_L_c13 n L xs k w3 s = some ()) : K u v 673 [.float 0, .ref 0, .ref 200, .int w3] [] (mb_s s) := by
  unfold f_L_c13 at h
  have hb : u ≤ 600000 ∧ v ≤ 7302249 := ⟨by omega, by omega⟩
  have hb2 : u + 9 ≤ 600000 ∧ v + 878 ≤ 7302249 := ⟨by omega, by omega⟩
  refine ro_aload_n hK dL_law_673 rfl ?_
  refine ro_aload_nF hK dL_law_674 rfl ?_
  refine ro_iload_n hK dL_law_675 rfl ?_
  refine ro_iconst (x := 1) hK (by decide) dL_law_676 ?_
  refine ro_iadd hK dL_law_677 ?_
  obtain ⟨x_301, e_302, i_303, h⟩ := mb_sr_e h
  refine ro_sld hX i_303 e_302 dL_law_678 ?_
  obtain ⟨r_306, s_304, q_305, h⟩ := mb_cl_e h
  refine rb_callV hK mC_oil vL_69 (t_C_oil (dd := dd + 17) q_305) rfl mb_oC rfl (Nat.le_of_ble_eq_true rfl) dL_law_679 rfl hb ?_
  show K u v 682 [.float 0, .ref 0, .ref 200, .int w3] [.int r_306] (mb_s s_304)
  refine ro_aload_n hK dL_law_682 rfl ?_
  refine ro_aload_nF hK dL_law_683 rfl ?_
  refine ro_iload_n hK dL_law_684 rfl ?_
  refine ro_iconst (x := 1) hK (by decide) dL_law_685 ?_
  refine ro_iadd hK dL_law_686 ?_
  obtain ⟨x_307, e_308, i_309, h⟩ := mb_sr_e h
  refine ro_sld hX i_309 e_308 dL_law_687 ?_
  obtain ⟨r_312, s_310, q_311, h⟩ := mb_cl_e h
  refine rb_callV hK mM_oil vL_72 (t_M_oil (dd := dd + 16) q_311) rfl mb_oM rfl (Nat.le_of_ble_eq_true rfl) dL_law_688 rfl hb ?_
  show K u v 691 [.float 0, .ref 0, .ref 200, .int w3] [.int r_312, .int r_306] (mb_s s_310)
  refine ro_icmp_eq (tgt := 1474) hK dL_law_691 (by decide) (fun c_313 => ?_) (fun c_313 => ?_)
  · replace h := mb_ift c_313 h
    refine ro_iincv (c := 6) hK (by decide) dL_law_1474 rfl (by decide) ?_
    show K u v 1477 [.float 0, .ref 0, .ref 200, .int (w3 + 6)] [] (mb_s s_310)
    refine ro_goto (tgt := 18) hK dL_law_1477 (by decide) ?_
    exact hk _ _ _ _ (by omega) (by omega) h
  · replace h := mb_iff c_313 h
    refine ro_iconst (x := 0) hK (by decide) dL_law_694 ?_
    cases h
def f_L_c14 (n L : Nat) (xs : Nat → Int32) (k : Int32 → mb_T → Option Unit) (w3 : Int32) (s : mb_T) : Option Unit := mb_sr L xs (w3 + 1) fun x_314 => mb_sr L xs (w3 + 2) fun x_317 => mb_cl (f_C_fear n x_314 x_317 s) fun r_322 s_320 => mb_sr L xs (w3 + 1) fun x_323 => mb_sr L xs (w3 + 2) fun x_326 => mb_cl (f_M_fear n x_323 x_326 s_320) fun r_331 s_329 => if r_322 = r_331 then k (w3 + 6) s_329 else none
set_option maxHeartbeats 4000000 in
set_option maxRecDepth 100000 in
theorem tc_L_14 {dd n L f : Nat} {mn : String} {xs : Nat → Int32} {K : mj_KT} {k : Int32 → mb_T → Option Unit} {w3 : Int32} {s : mb_T} {u v : Nat} (hX : mj_X (dd + 19) 600000 7302249 RL_c mn code 4 L xs K) (hK : mj_C (dd + 19) 600000 7302249 RL_c mn code 4 K) (hk : ∀ (w3 : Int32) (s : mb_T) (u v : Nat), u + 9 * f ≤ 600000 → v + 878 * f ≤ 7302249 → k w3 s = some () → K u v 18 [.float 0, .ref 0, .ref 200, .int w3] [] (mb_s s)) (hu : u + 9 * (f + 1) ≤ 600000) (hv : v + 878 * (f + 1) ≤ 7302249) (h : f_L_c14 n L xs k w3 s = some ()) : K u v 696 [.float 0, .ref 0, .ref 200, .int w3] [] (mb_s s) := by
  unfold f_L_c14 at h
  have hb : u ≤ 600000 ∧ v ≤ 7302249 := ⟨by omega, by omega⟩
  have hb2 : u + 9 ≤ 600000 ∧ v + 878 ≤ 7302249 := ⟨by omega, by omega⟩
  refine ro_aload_n hK dL_law_696 rfl ?_
  refine ro_aload_nF hK dL_law_697 rfl ?_
  refine ro_iload_n hK dL_law_698 rfl ?_
  refine ro_iconst (x := 1) hK (by decide) dL_law_699 ?_
  refine ro_iadd hK dL_law_700 ?_
  obtain ⟨x_314, e_315, i_316, h⟩ := mb_sr_e h
  refine ro_sld hX i_316 e_315 dL_law_701 ?_
  refine ro_aload_nF hK dL_law_702 rfl ?_
  refine ro_iload_n hK dL_law_703 rfl ?_
  refine ro_iconst (x := 2) hK (by decide) dL_law_704 ?_
  refine ro_iadd hK dL_law_705 ?_
  obtain ⟨x_317, e_318, i_319, h⟩ := mb_sr_e h
  refine ro_sld hX i_319 e_318 dL_law_706 ?_
  obtain ⟨r_322, s_320, q_321, h⟩ := mb_cl_e h
  refine rb_callV hK mC_fear vL_73 (t_C_fear (dd := dd + 16) q_321) rfl mb_oC rfl (Nat.le_of_ble_eq_true rfl) dL_law_707 rfl hb ?_
  show K u v 710 [.float 0, .ref 0, .ref 200, .int w3] [.int r_322] (mb_s s_320)
  refine ro_aload_n hK dL_law_710 rfl ?_
  refine ro_aload_nF hK dL_law_711 rfl ?_
  refine ro_iload_n hK dL_law_712 rfl ?_
  refine ro_iconst (x := 1) hK (by decide) dL_law_713 ?_
  refine ro_iadd hK dL_law_714 ?_
  obtain ⟨x_323, e_324, i_325, h⟩ := mb_sr_e h
  refine ro_sld hX i_325 e_324 dL_law_715 ?_
  refine ro_aload_nF hK dL_law_716 rfl ?_
  refine ro_iload_n hK dL_law_717 rfl ?_
  refine ro_iconst (x := 2) hK (by decide) dL_law_718 ?_
  refine ro_iadd hK dL_law_719 ?_
  obtain ⟨x_326, e_327, i_328, h⟩ := mb_sr_e h
  refine ro_sld hX i_328 e_327 dL_law_720 ?_
  obtain ⟨r_331, s_329, q_330, h⟩ := mb_cl_e h
  refine rb_callV hK mM_fear vL_76 (t_M_fear (dd := dd + 15) q_330) rfl mb_oM rfl (Nat.le_of_ble_eq_true rfl) dL_law_721 rfl hb ?_
  show K u v 724 [.float 0, .ref 0, .ref 200, .int w3] [.int r_331, .int r_322] (mb_s s_329)
  refine ro_icmp_eq (tgt := 1474) hK dL_law_724 (by decide) (fun c_332 => ?_) (fun c_332 => ?_)
  · replace h := mb_ift c_332 h
    refine ro_iincv (c := 6) hK (by decide) dL_law_1474 rfl (by decide) ?_
    show K u v 1477 [.float 0, .ref 0, .ref 200, .int (w3 + 6)] [] (mb_s s_329)
    refine ro_goto (tgt := 18) hK dL_law_1477 (by decide) ?_
    exact hk _ _ _ _ (by omega) (by omega) h
  · replace h := mb_iff c_332 h
    refine ro_iconst (x := 0) hK (by decide) dL_law_727 ?_
    cases h
def f_L_c15 (n L : Nat) (xs : Nat → Int32) (k : Int32 → mb_T → Option Unit) (w3 : Int32) (s : mb_T) : Option Unit := mb_sr L xs (w3 + 1) fun x_333 => mb_cl (f_C_minutes n x_333 s) fun r_338 s_336 => mb_sr L xs (w3 + 1) fun x_339 => mb_cl (f_M_minutes n x_339 s_336) fun r_344 s_342 => if r_338 = r_344 then k (w3 + 6) s_342 else none
set_option maxHeartbeats 4000000 in
set_option maxRecDepth 100000 in
theorem tc_L_15 {dd n L f : Nat} {mn : String} {xs : Nat → Int32} {K : mj_KT} {k : Int32 → mb_T → Option Unit} {w3 : Int32} {s : mb_T} {u v : Nat} (hX : mj_X (dd + 19) 600000 7302249 RL_c mn code 4 L xs K) (hK : mj_C (dd + 19) 600000 7302249 RL_c mn code 4 K) (hk : ∀ (w3 : Int32) (s : mb_T) (u v : Nat), u + 9 * f ≤ 600000 → v + 878 * f ≤ 7302249 → k w3 s = some () → K u v 18 [.float 0, .ref 0, .ref 200, .int w3] [] (mb_s s)) (hu : u + 9 * (f + 1) ≤ 600000) (hv : v + 878 * (f + 1) ≤ 7302249) (h : f_L_c15 n L xs k w3 s = some ()) : K u v 729 [.float 0, .ref 0, .ref 200, .int w3] [] (mb_s s) := by
  unfold f_L_c15 at h
  have hb : u ≤ 600000 ∧ v ≤ 7302249 := ⟨by omega, by omega⟩
  have hb2 : u + 9 ≤ 600000 ∧ v + 878 ≤ 7302249 := ⟨by omega, by omega⟩
  refine ro_aload_n hK dL_law_729 rfl ?_
  refine ro_aload_nF hK dL_law_730 rfl ?_
  refine ro_iload_n hK dL_law_731 rfl ?_
  refine ro_iconst (x := 1) hK (by decide) dL_law_732 ?_
  refine ro_iadd hK dL_law_733 ?_
  obtain ⟨x_333, e_334, i_335, h⟩ := mb_sr_e h
  refine ro_sld hX i_335 e_334 dL_law_734 ?_
  obtain ⟨r_338, s_336, q_337, h⟩ := mb_cl_e h
  refine rb_callV hK mC_minutes vL_77 (t_C_minutes (dd := dd + 13) q_337) rfl mb_oC rfl (Nat.le_of_ble_eq_true rfl) dL_law_735 rfl hb ?_
  show K u v 738 [.float 0, .ref 0, .ref 200, .int w3] [.int r_338] (mb_s s_336)
  refine ro_aload_n hK dL_law_738 rfl ?_
  refine ro_aload_nF hK dL_law_739 rfl ?_
  refine ro_iload_n hK dL_law_740 rfl ?_
  refine ro_iconst (x := 1) hK (by decide) dL_law_741 ?_
  refine ro_iadd hK dL_law_742 ?_
  obtain ⟨x_339, e_340, i_341, h⟩ := mb_sr_e h
  refine ro_sld hX i_341 e_340 dL_law_743 ?_
  obtain ⟨r_344, s_342, q_343, h⟩ := mb_cl_e h
  refine rb_callV hK mM_minutes vL_80 (t_M_minutes (dd := dd + 13) q_343) rfl mb_oM rfl (Nat.le_of_ble_eq_true rfl) dL_law_744 rfl hb ?_
  show K u v 747 [.float 0, .ref 0, .ref 200, .int w3] [.int r_344, .int r_338] (mb_s s_342)
  refine ro_icmp_eq (tgt := 1474) hK dL_law_747 (by decide) (fun c_345 => ?_) (fun c_345 => ?_)
  · replace h := mb_ift c_345 h
    refine ro_iincv (c := 6) hK (by decide) dL_law_1474 rfl (by decide) ?_
    show K u v 1477 [.float 0, .ref 0, .ref 200, .int (w3 + 6)] [] (mb_s s_342)
    refine ro_goto (tgt := 18) hK dL_law_1477 (by decide) ?_
    exact hk _ _ _ _ (by omega) (by omega) h
  · replace h := mb_iff c_345 h
    refine ro_iconst (x := 0) hK (by decide) dL_law_750 ?_
    cases h
def f_L_c16 (n L : Nat) (xs : Nat → Int32) (k : Int32 → mb_T → Option Unit) (w3 : Int32) (s : mb_T) : Option Unit := mb_sr L xs (w3 + 1) fun x_346 => mb_cl (f_C_hand n x_346 s) fun r_351 s_349 => mb_sr L xs (w3 + 1) fun x_352 => mb_cl (f_M_hand n x_352 s_349) fun r_357 s_355 => if r_351 = r_357 then k (w3 + 6) s_355 else none
set_option maxHeartbeats 4000000 in
set_option maxRecDepth 100000 in
theorem tc_L_16 {dd n L f : Nat} {mn : String} {xs : Nat → Int32} {K : mj_KT} {k : Int32 → mb_T → Option Unit} {w3 : Int32} {s : mb_T} {u v : Nat} (hX : mj_X (dd + 19) 600000 7302249 RL_c mn code 4 L xs K) (hK : mj_C (dd + 19) 600000 7302249 RL_c mn code 4 K) (hk : ∀ (w3 : Int32) (s : mb_T) (u v : Nat), u + 9 * f ≤ 600000 → v + 878 * f ≤ 7302249 → k w3 s = some () → K u v 18 [.float 0, .ref 0, .ref 200, .int w3] [] (mb_s s)) (hu : u + 9 * (f + 1) ≤ 600000) (hv : v + 878 * (f + 1) ≤ 7302249) (h : f_L_c16 n L xs k w3 s = some ()) : K u v 752 [.float 0, .ref 0, .ref 200, .int w3] [] (mb_s s) := by
  unfold f_L_c16 at h
  have hb : u ≤ 600000 ∧ v ≤ 7302249 := ⟨by omega, by omega⟩
  have hb2 : u + 9 ≤ 600000 ∧ v + 878 ≤ 7302249 := ⟨by omega, by omega⟩
  refine ro_aload_n hK dL_law_752 rfl ?_
  refine ro_aload_nF hK dL_law_753 rfl ?_
  refine ro_iload_n hK dL_law_754 rfl ?_
  refine ro_iconst (x := 1) hK (by decide) dL_law_755 ?_
  refine ro_iadd hK dL_law_756 ?_
  obtain ⟨x_346, e_347, i_348, h⟩ := mb_sr_e h
  refine ro_sld hX i_348 e_347 dL_law_757 ?_
  obtain ⟨r_351, s_349, q_350, h⟩ := mb_cl_e h
  refine rb_callV hK mC_hand vL_81 (t_C_hand (dd := dd + 14) q_350) rfl mb_oC rfl (Nat.le_of_ble_eq_true rfl) dL_law_758 rfl hb ?_
  show K u v 761 [.float 0, .ref 0, .ref 200, .int w3] [.int r_351] (mb_s s_349)
  refine ro_aload_n hK dL_law_761 rfl ?_
  refine ro_aload_nF hK dL_law_762 rfl ?_
  refine ro_iload_n hK dL_law_763 rfl ?_
  refine ro_iconst (x := 1) hK (by decide) dL_law_764 ?_
  refine ro_iadd hK dL_law_765 ?_
  obtain ⟨x_352, e_353, i_354, h⟩ := mb_sr_e h
  refine ro_sld hX i_354 e_353 dL_law_766 ?_
  obtain ⟨r_357, s_355, q_356, h⟩ := mb_cl_e h
  refine rb_callV hK mM_hand vL_84 (t_M_hand (dd := dd + 14) q_356) rfl mb_oM rfl (Nat.le_of_ble_eq_true rfl) dL_law_767 rfl hb ?_
  show K u v 770 [.float 0, .ref 0, .ref 200, .int w3] [.int r_357, .int r_351] (mb_s s_355)
  refine ro_icmp_eq (tgt := 1474) hK dL_law_770 (by decide) (fun c_358 => ?_) (fun c_358 => ?_)
  · replace h := mb_ift c_358 h
    refine ro_iincv (c := 6) hK (by decide) dL_law_1474 rfl (by decide) ?_
    show K u v 1477 [.float 0, .ref 0, .ref 200, .int (w3 + 6)] [] (mb_s s_355)
    refine ro_goto (tgt := 18) hK dL_law_1477 (by decide) ?_
    exact hk _ _ _ _ (by omega) (by omega) h
  · replace h := mb_iff c_358 h
    refine ro_iconst (x := 0) hK (by decide) dL_law_773 ?_
    cases h
def f_L_c17 (n L : Nat) (xs : Nat → Int32) (k : Int32 → mb_T → Option Unit) (w3 : Int32) (s : mb_T) : Option Unit := mb_cl (f_C_next n s) fun r_361 s_359 => mb_cl (f_M_next n s_359) fun r_364 s_362 => if r_361 = r_364 then k (w3 + 6) s_362 else none
set_option maxHeartbeats 4000000 in
set_option maxRecDepth 100000 in
theorem tc_L_17 {dd n L f : Nat} {mn : String} {xs : Nat → Int32} {K : mj_KT} {k : Int32 → mb_T → Option Unit} {w3 : Int32} {s : mb_T} {u v : Nat} (hX : mj_X (dd + 19) 600000 7302249 RL_c mn code 4 L xs K) (hK : mj_C (dd + 19) 600000 7302249 RL_c mn code 4 K) (hk : ∀ (w3 : Int32) (s : mb_T) (u v : Nat), u + 9 * f ≤ 600000 → v + 878 * f ≤ 7302249 → k w3 s = some () → K u v 18 [.float 0, .ref 0, .ref 200, .int w3] [] (mb_s s)) (hu : u + 9 * (f + 1) ≤ 600000) (hv : v + 878 * (f + 1) ≤ 7302249) (h : f_L_c17 n L xs k w3 s = some ()) : K u v 775 [.float 0, .ref 0, .ref 200, .int w3] [] (mb_s s) := by
  unfold f_L_c17 at h
  have hb : u ≤ 600000 ∧ v ≤ 7302249 := ⟨by omega, by omega⟩
  have hb2 : u + 9 ≤ 600000 ∧ v + 878 ≤ 7302249 := ⟨by omega, by omega⟩
  refine ro_aload_n hK dL_law_775 rfl ?_
  obtain ⟨r_361, s_359, q_360, h⟩ := mb_cl_e h
  refine rb_callV hK mC_next vL_85 (t_C_next (dd := dd + 13) q_360) rfl mb_oC rfl (Nat.le_of_ble_eq_true rfl) dL_law_776 rfl hb ?_
  show K u v 779 [.float 0, .ref 0, .ref 200, .int w3] [.int r_361] (mb_s s_359)
  refine ro_aload_n hK dL_law_779 rfl ?_
  obtain ⟨r_364, s_362, q_363, h⟩ := mb_cl_e h
  refine rb_callV hK mM_next vL_89 (t_M_next (dd := dd + 13) q_363) rfl mb_oM rfl (Nat.le_of_ble_eq_true rfl) dL_law_780 rfl hb ?_
  show K u v 783 [.float 0, .ref 0, .ref 200, .int w3] [.int r_364, .int r_361] (mb_s s_362)
  refine ro_icmp_eq (tgt := 1474) hK dL_law_783 (by decide) (fun c_365 => ?_) (fun c_365 => ?_)
  · replace h := mb_ift c_365 h
    refine ro_iincv (c := 6) hK (by decide) dL_law_1474 rfl (by decide) ?_
    show K u v 1477 [.float 0, .ref 0, .ref 200, .int (w3 + 6)] [] (mb_s s_362)
    refine ro_goto (tgt := 18) hK dL_law_1477 (by decide) ?_
    exact hk _ _ _ _ (by omega) (by omega) h
  · replace h := mb_iff c_365 h
    refine ro_iconst (x := 0) hK (by decide) dL_law_786 ?_
    cases h
def f_L_c18 (n L : Nat) (xs : Nat → Int32) (k : Int32 → mb_T → Option Unit) (w3 : Int32) (s : mb_T) : Option Unit := mb_sr L xs (w3 + 1) fun x_366 => mb_cl (f_C_had n x_366 s) fun r_371 s_369 => mb_sr L xs (w3 + 1) fun x_372 => mb_cl (f_M_had n x_372 s_369) fun r_377 s_375 => if r_371 = r_377 then k (w3 + 6) s_375 else none
set_option maxHeartbeats 4000000 in
set_option maxRecDepth 100000 in
theorem tc_L_18 {dd n L f : Nat} {mn : String} {xs : Nat → Int32} {K : mj_KT} {k : Int32 → mb_T → Option Unit} {w3 : Int32} {s : mb_T} {u v : Nat} (hX : mj_X (dd + 19) 600000 7302249 RL_c mn code 4 L xs K) (hK : mj_C (dd + 19) 600000 7302249 RL_c mn code 4 K) (hk : ∀ (w3 : Int32) (s : mb_T) (u v : Nat), u + 9 * f ≤ 600000 → v + 878 * f ≤ 7302249 → k w3 s = some () → K u v 18 [.float 0, .ref 0, .ref 200, .int w3] [] (mb_s s)) (hu : u + 9 * (f + 1) ≤ 600000) (hv : v + 878 * (f + 1) ≤ 7302249) (h : f_L_c18 n L xs k w3 s = some ()) : K u v 788 [.float 0, .ref 0, .ref 200, .int w3] [] (mb_s s) := by
  unfold f_L_c18 at h
  have hb : u ≤ 600000 ∧ v ≤ 7302249 := ⟨by omega, by omega⟩
  have hb2 : u + 9 ≤ 600000 ∧ v + 878 ≤ 7302249 := ⟨by omega, by omega⟩
  refine ro_aload_n hK dL_law_788 rfl ?_
  refine ro_aload_nF hK dL_law_789 rfl ?_
  refine ro_iload_n hK dL_law_790 rfl ?_
  refine ro_iconst (x := 1) hK (by decide) dL_law_791 ?_
  refine ro_iadd hK dL_law_792 ?_
  obtain ⟨x_366, e_367, i_368, h⟩ := mb_sr_e h
  refine ro_sld hX i_368 e_367 dL_law_793 ?_
  obtain ⟨r_371, s_369, q_370, h⟩ := mb_cl_e h
  refine rb_callV hK mC_had vL_90 (t_C_had (dd := dd + 16) q_370) rfl mb_oC rfl (Nat.le_of_ble_eq_true rfl) dL_law_794 rfl hb ?_
  show K u v 797 [.float 0, .ref 0, .ref 200, .int w3] [.int r_371] (mb_s s_369)
  refine ro_aload_n hK dL_law_797 rfl ?_
  refine ro_aload_nF hK dL_law_798 rfl ?_
  refine ro_iload_n hK dL_law_799 rfl ?_
  refine ro_iconst (x := 1) hK (by decide) dL_law_800 ?_
  refine ro_iadd hK dL_law_801 ?_
  obtain ⟨x_372, e_373, i_374, h⟩ := mb_sr_e h
  refine ro_sld hX i_374 e_373 dL_law_802 ?_
  obtain ⟨r_377, s_375, q_376, h⟩ := mb_cl_e h
  refine rb_callV hK mM_had vL_93 (t_M_had (dd := dd + 16) q_376) rfl mb_oM rfl (Nat.le_of_ble_eq_true rfl) dL_law_803 rfl hb ?_
  show K u v 806 [.float 0, .ref 0, .ref 200, .int w3] [.int r_377, .int r_371] (mb_s s_375)
  refine ro_icmp_eq (tgt := 1474) hK dL_law_806 (by decide) (fun c_378 => ?_) (fun c_378 => ?_)
  · replace h := mb_ift c_378 h
    refine ro_iincv (c := 6) hK (by decide) dL_law_1474 rfl (by decide) ?_
    show K u v 1477 [.float 0, .ref 0, .ref 200, .int (w3 + 6)] [] (mb_s s_375)
    refine ro_goto (tgt := 18) hK dL_law_1477 (by decide) ?_
    exact hk _ _ _ _ (by omega) (by omega) h
  · replace h := mb_iff c_378 h
    refine ro_iconst (x := 0) hK (by decide) dL_law_809 ?_
    cases h
def f_L_c19 (n L : Nat) (xs : Nat → Int32) (k : Int32 → mb_T → Option Unit) (w3 : Int32) (s : mb_T) : Option Unit := mb_sr L xs (w3 + 1) fun x_379 => mb_cl (f_C_undo n x_379 s) fun r_384 s_382 => mb_sr L xs (w3 + 1) fun x_385 => mb_cl (f_M_undo n x_385 s_382) fun r_390 s_388 => if r_384 = r_390 then k (w3 + 6) s_388 else none
set_option maxHeartbeats 4000000 in
set_option maxRecDepth 100000 in
theorem tc_L_19 {dd n L f : Nat} {mn : String} {xs : Nat → Int32} {K : mj_KT} {k : Int32 → mb_T → Option Unit} {w3 : Int32} {s : mb_T} {u v : Nat} (hX : mj_X (dd + 19) 600000 7302249 RL_c mn code 4 L xs K) (hK : mj_C (dd + 19) 600000 7302249 RL_c mn code 4 K) (hk : ∀ (w3 : Int32) (s : mb_T) (u v : Nat), u + 9 * f ≤ 600000 → v + 878 * f ≤ 7302249 → k w3 s = some () → K u v 18 [.float 0, .ref 0, .ref 200, .int w3] [] (mb_s s)) (hu : u + 9 * (f + 1) ≤ 600000) (hv : v + 878 * (f + 1) ≤ 7302249) (h : f_L_c19 n L xs k w3 s = some ()) : K u v 811 [.float 0, .ref 0, .ref 200, .int w3] [] (mb_s s) := by
  unfold f_L_c19 at h
  have hb : u ≤ 600000 ∧ v ≤ 7302249 := ⟨by omega, by omega⟩
  have hb2 : u + 9 ≤ 600000 ∧ v + 878 ≤ 7302249 := ⟨by omega, by omega⟩
  refine ro_aload_n hK dL_law_811 rfl ?_
  refine ro_aload_nF hK dL_law_812 rfl ?_
  refine ro_iload_n hK dL_law_813 rfl ?_
  refine ro_iconst (x := 1) hK (by decide) dL_law_814 ?_
  refine ro_iadd hK dL_law_815 ?_
  obtain ⟨x_379, e_380, i_381, h⟩ := mb_sr_e h
  refine ro_sld hX i_381 e_380 dL_law_816 ?_
  obtain ⟨r_384, s_382, q_383, h⟩ := mb_cl_e h
  refine rb_callV hK mC_undo vL_94 (t_C_undo (dd := dd + 16) q_383) rfl mb_oC rfl (Nat.le_of_ble_eq_true rfl) dL_law_817 rfl hb ?_
  show K u v 820 [.float 0, .ref 0, .ref 200, .int w3] [.int r_384] (mb_s s_382)
  refine ro_aload_n hK dL_law_820 rfl ?_
  refine ro_aload_nF hK dL_law_821 rfl ?_
  refine ro_iload_n hK dL_law_822 rfl ?_
  refine ro_iconst (x := 1) hK (by decide) dL_law_823 ?_
  refine ro_iadd hK dL_law_824 ?_
  obtain ⟨x_385, e_386, i_387, h⟩ := mb_sr_e h
  refine ro_sld hX i_387 e_386 dL_law_825 ?_
  obtain ⟨r_390, s_388, q_389, h⟩ := mb_cl_e h
  refine rb_callV hK mM_undo vL_97 (t_M_undo (dd := dd + 16) q_389) rfl mb_oM rfl (Nat.le_of_ble_eq_true rfl) dL_law_826 rfl hb ?_
  show K u v 829 [.float 0, .ref 0, .ref 200, .int w3] [.int r_390, .int r_384] (mb_s s_388)
  refine ro_icmp_eq (tgt := 1474) hK dL_law_829 (by decide) (fun c_391 => ?_) (fun c_391 => ?_)
  · replace h := mb_ift c_391 h
    refine ro_iincv (c := 6) hK (by decide) dL_law_1474 rfl (by decide) ?_
    show K u v 1477 [.float 0, .ref 0, .ref 200, .int (w3 + 6)] [] (mb_s s_388)
    refine ro_goto (tgt := 18) hK dL_law_1477 (by decide) ?_
    exact hk _ _ _ _ (by omega) (by omega) h
  · replace h := mb_iff c_391 h
    refine ro_iconst (x := 0) hK (by decide) dL_law_832 ?_
    cases h
def f_L_c20 (n L : Nat) (xs : Nat → Int32) (k : Int32 → mb_T → Option Unit) (w3 : Int32) (s : mb_T) : Option Unit := mb_cl (f_C_over n s) fun r_394 s_392 => mb_cl (f_M_over n s_392) fun r_397 s_395 => if r_394 = r_397 then k (w3 + 6) s_395 else none
set_option maxHeartbeats 4000000 in
set_option maxRecDepth 100000 in
theorem tc_L_20 {dd n L f : Nat} {mn : String} {xs : Nat → Int32} {K : mj_KT} {k : Int32 → mb_T → Option Unit} {w3 : Int32} {s : mb_T} {u v : Nat} (hX : mj_X (dd + 19) 600000 7302249 RL_c mn code 4 L xs K) (hK : mj_C (dd + 19) 600000 7302249 RL_c mn code 4 K) (hk : ∀ (w3 : Int32) (s : mb_T) (u v : Nat), u + 9 * f ≤ 600000 → v + 878 * f ≤ 7302249 → k w3 s = some () → K u v 18 [.float 0, .ref 0, .ref 200, .int w3] [] (mb_s s)) (hu : u + 9 * (f + 1) ≤ 600000) (hv : v + 878 * (f + 1) ≤ 7302249) (h : f_L_c20 n L xs k w3 s = some ()) : K u v 834 [.float 0, .ref 0, .ref 200, .int w3] [] (mb_s s) := by
  unfold f_L_c20 at h
  have hb : u ≤ 600000 ∧ v ≤ 7302249 := ⟨by omega, by omega⟩
  have hb2 : u + 9 ≤ 600000 ∧ v + 878 ≤ 7302249 := ⟨by omega, by omega⟩
  refine ro_aload_n hK dL_law_834 rfl ?_
  obtain ⟨r_394, s_392, q_393, h⟩ := mb_cl_e h
  refine rb_callV hK mC_over vL_98 (t_C_over (dd := dd + 14) q_393) rfl mb_oC rfl (Nat.le_of_ble_eq_true rfl) dL_law_835 rfl hb ?_
  show K u v 838 [.float 0, .ref 0, .ref 200, .int w3] [.int r_394] (mb_s s_392)
  refine ro_aload_n hK dL_law_838 rfl ?_
  obtain ⟨r_397, s_395, q_396, h⟩ := mb_cl_e h
  refine rb_callV hK mM_over vL_101 (t_M_over (dd := dd + 15) q_396) rfl mb_oM rfl (Nat.le_of_ble_eq_true rfl) dL_law_839 rfl hb ?_
  show K u v 842 [.float 0, .ref 0, .ref 200, .int w3] [.int r_397, .int r_394] (mb_s s_395)
  refine ro_icmp_eq (tgt := 1474) hK dL_law_842 (by decide) (fun c_398 => ?_) (fun c_398 => ?_)
  · replace h := mb_ift c_398 h
    refine ro_iincv (c := 6) hK (by decide) dL_law_1474 rfl (by decide) ?_
    show K u v 1477 [.float 0, .ref 0, .ref 200, .int (w3 + 6)] [] (mb_s s_395)
    refine ro_goto (tgt := 18) hK dL_law_1477 (by decide) ?_
    exact hk _ _ _ _ (by omega) (by omega) h
  · replace h := mb_iff c_398 h
    refine ro_iconst (x := 0) hK (by decide) dL_law_845 ?_
    cases h
def f_L_c21 (n L : Nat) (xs : Nat → Int32) (k : Int32 → mb_T → Option Unit) (w3 : Int32) (s : mb_T) : Option Unit := mb_sr L xs (w3 + 1) fun x_399 => mb_cl (f_C_story n x_399 s) fun r_404 s_402 => mb_sr L xs (w3 + 1) fun x_405 => mb_cl (f_M_story n x_405 s_402) fun r_410 s_408 => if r_404 = r_410 then k (w3 + 6) s_408 else none
set_option maxHeartbeats 4000000 in
set_option maxRecDepth 100000 in
theorem tc_L_21 {dd n L f : Nat} {mn : String} {xs : Nat → Int32} {K : mj_KT} {k : Int32 → mb_T → Option Unit} {w3 : Int32} {s : mb_T} {u v : Nat} (hX : mj_X (dd + 19) 600000 7302249 RL_c mn code 4 L xs K) (hK : mj_C (dd + 19) 600000 7302249 RL_c mn code 4 K) (hk : ∀ (w3 : Int32) (s : mb_T) (u v : Nat), u + 9 * f ≤ 600000 → v + 878 * f ≤ 7302249 → k w3 s = some () → K u v 18 [.float 0, .ref 0, .ref 200, .int w3] [] (mb_s s)) (hu : u + 9 * (f + 1) ≤ 600000) (hv : v + 878 * (f + 1) ≤ 7302249) (h : f_L_c21 n L xs k w3 s = some ()) : K u v 847 [.float 0, .ref 0, .ref 200, .int w3] [] (mb_s s) := by
  unfold f_L_c21 at h
  have hb : u ≤ 600000 ∧ v ≤ 7302249 := ⟨by omega, by omega⟩
  have hb2 : u + 9 ≤ 600000 ∧ v + 878 ≤ 7302249 := ⟨by omega, by omega⟩
  refine ro_aload_n hK dL_law_847 rfl ?_
  refine ro_aload_nF hK dL_law_848 rfl ?_
  refine ro_iload_n hK dL_law_849 rfl ?_
  refine ro_iconst (x := 1) hK (by decide) dL_law_850 ?_
  refine ro_iadd hK dL_law_851 ?_
  obtain ⟨x_399, e_400, i_401, h⟩ := mb_sr_e h
  refine ro_sld hX i_401 e_400 dL_law_852 ?_
  obtain ⟨r_404, s_402, q_403, h⟩ := mb_cl_e h
  refine rb_callV hK mC_story vL_102 (t_C_story (dd := dd + 14) q_403) rfl mb_oC rfl (Nat.le_of_ble_eq_true rfl) dL_law_853 rfl hb ?_
  show K u v 856 [.float 0, .ref 0, .ref 200, .int w3] [.int r_404] (mb_s s_402)
  refine ro_aload_n hK dL_law_856 rfl ?_
  refine ro_aload_nF hK dL_law_857 rfl ?_
  refine ro_iload_n hK dL_law_858 rfl ?_
  refine ro_iconst (x := 1) hK (by decide) dL_law_859 ?_
  refine ro_iadd hK dL_law_860 ?_
  obtain ⟨x_405, e_406, i_407, h⟩ := mb_sr_e h
  refine ro_sld hX i_407 e_406 dL_law_861 ?_
  obtain ⟨r_410, s_408, q_409, h⟩ := mb_cl_e h
  refine rb_callV hK mM_story vL_105 (t_M_story (dd := dd + 15) q_409) rfl mb_oM rfl (Nat.le_of_ble_eq_true rfl) dL_law_862 rfl hb ?_
  show K u v 865 [.float 0, .ref 0, .ref 200, .int w3] [.int r_410, .int r_404] (mb_s s_408)
  refine ro_icmp_eq (tgt := 1474) hK dL_law_865 (by decide) (fun c_411 => ?_) (fun c_411 => ?_)
  · replace h := mb_ift c_411 h
    refine ro_iincv (c := 6) hK (by decide) dL_law_1474 rfl (by decide) ?_
    show K u v 1477 [.float 0, .ref 0, .ref 200, .int (w3 + 6)] [] (mb_s s_408)
    refine ro_goto (tgt := 18) hK dL_law_1477 (by decide) ?_
    exact hk _ _ _ _ (by omega) (by omega) h
  · replace h := mb_iff c_411 h
    refine ro_iconst (x := 0) hK (by decide) dL_law_868 ?_
    cases h
def f_L_c22 (n L : Nat) (xs : Nat → Int32) (k : Int32 → mb_T → Option Unit) (w3 : Int32) (s : mb_T) : Option Unit := mb_sr L xs (w3 + 1) fun x_412 => mb_cl (f_C_song n x_412 s) fun r_417 s_415 => mb_sr L xs (w3 + 1) fun x_418 => mb_cl (f_M_song n x_418 s_415) fun r_423 s_421 => if r_417 = r_423 then k (w3 + 6) s_421 else none
set_option maxHeartbeats 4000000 in
set_option maxRecDepth 100000 in
theorem tc_L_22 {dd n L f : Nat} {mn : String} {xs : Nat → Int32} {K : mj_KT} {k : Int32 → mb_T → Option Unit} {w3 : Int32} {s : mb_T} {u v : Nat} (hX : mj_X (dd + 19) 600000 7302249 RL_c mn code 4 L xs K) (hK : mj_C (dd + 19) 600000 7302249 RL_c mn code 4 K) (hk : ∀ (w3 : Int32) (s : mb_T) (u v : Nat), u + 9 * f ≤ 600000 → v + 878 * f ≤ 7302249 → k w3 s = some () → K u v 18 [.float 0, .ref 0, .ref 200, .int w3] [] (mb_s s)) (hu : u + 9 * (f + 1) ≤ 600000) (hv : v + 878 * (f + 1) ≤ 7302249) (h : f_L_c22 n L xs k w3 s = some ()) : K u v 870 [.float 0, .ref 0, .ref 200, .int w3] [] (mb_s s) := by
  unfold f_L_c22 at h
  have hb : u ≤ 600000 ∧ v ≤ 7302249 := ⟨by omega, by omega⟩
  have hb2 : u + 9 ≤ 600000 ∧ v + 878 ≤ 7302249 := ⟨by omega, by omega⟩
  refine ro_aload_n hK dL_law_870 rfl ?_
  refine ro_aload_nF hK dL_law_871 rfl ?_
  refine ro_iload_n hK dL_law_872 rfl ?_
  refine ro_iconst (x := 1) hK (by decide) dL_law_873 ?_
  refine ro_iadd hK dL_law_874 ?_
  obtain ⟨x_412, e_413, i_414, h⟩ := mb_sr_e h
  refine ro_sld hX i_414 e_413 dL_law_875 ?_
  obtain ⟨r_417, s_415, q_416, h⟩ := mb_cl_e h
  refine rb_callV hK mC_song vL_106 (t_C_song (dd := dd + 14) q_416) rfl mb_oC rfl (Nat.le_of_ble_eq_true rfl) dL_law_876 rfl hb ?_
  show K u v 879 [.float 0, .ref 0, .ref 200, .int w3] [.int r_417] (mb_s s_415)
  refine ro_aload_n hK dL_law_879 rfl ?_
  refine ro_aload_nF hK dL_law_880 rfl ?_
  refine ro_iload_n hK dL_law_881 rfl ?_
  refine ro_iconst (x := 1) hK (by decide) dL_law_882 ?_
  refine ro_iadd hK dL_law_883 ?_
  obtain ⟨x_418, e_419, i_420, h⟩ := mb_sr_e h
  refine ro_sld hX i_420 e_419 dL_law_884 ?_
  obtain ⟨r_423, s_421, q_422, h⟩ := mb_cl_e h
  refine rb_callV hK mM_song vL_109 (t_M_song (dd := dd + 15) q_422) rfl mb_oM rfl (Nat.le_of_ble_eq_true rfl) dL_law_885 rfl hb ?_
  show K u v 888 [.float 0, .ref 0, .ref 200, .int w3] [.int r_423, .int r_417] (mb_s s_421)
  refine ro_icmp_eq (tgt := 1474) hK dL_law_888 (by decide) (fun c_424 => ?_) (fun c_424 => ?_)
  · replace h := mb_ift c_424 h
    refine ro_iincv (c := 6) hK (by decide) dL_law_1474 rfl (by decide) ?_
    show K u v 1477 [.float 0, .ref 0, .ref 200, .int (w3 + 6)] [] (mb_s s_421)
    refine ro_goto (tgt := 18) hK dL_law_1477 (by decide) ?_
    exact hk _ _ _ _ (by omega) (by omega) h
  · replace h := mb_iff c_424 h
    refine ro_iconst (x := 0) hK (by decide) dL_law_891 ?_
    cases h
def f_L_c23 (n L : Nat) (xs : Nat → Int32) (k : Int32 → mb_T → Option Unit) (w3 : Int32) (s : mb_T) : Option Unit := mb_sr L xs (w3 + 1) fun x_425 => mb_cl (f_C_keep n x_425 s) fun r_428 s_429 => mb_sr L xs (w3 + 1) fun x_431 => mb_cl (f_M_keep n x_431 s_429) fun r_436 s_434 => if r_428 = r_436 then k (w3 + 6) s_434 else none
set_option maxHeartbeats 4000000 in
set_option maxRecDepth 100000 in
theorem tc_L_23 {dd n L f : Nat} {mn : String} {xs : Nat → Int32} {K : mj_KT} {k : Int32 → mb_T → Option Unit} {w3 : Int32} {s : mb_T} {u v : Nat} (hX : mj_X (dd + 19) 600000 7302249 RL_c mn code 4 L xs K) (hK : mj_C (dd + 19) 600000 7302249 RL_c mn code 4 K) (hk : ∀ (w3 : Int32) (s : mb_T) (u v : Nat), u + 9 * f ≤ 600000 → v + 878 * f ≤ 7302249 → k w3 s = some () → K u v 18 [.float 0, .ref 0, .ref 200, .int w3] [] (mb_s s)) (hu : u + 9 * (f + 1) ≤ 600000) (hv : v + 878 * (f + 1) ≤ 7302249) (h : f_L_c23 n L xs k w3 s = some ()) : K u v 893 [.float 0, .ref 0, .ref 200, .int w3] [] (mb_s s) := by
  unfold f_L_c23 at h
  have hb : u ≤ 600000 ∧ v ≤ 7302249 := ⟨by omega, by omega⟩
  have hb2 : u + 9 ≤ 600000 ∧ v + 878 ≤ 7302249 := ⟨by omega, by omega⟩
  refine ro_aload_n hK dL_law_893 rfl ?_
  refine ro_aload_nF hK dL_law_894 rfl ?_
  refine ro_iload_n hK dL_law_895 rfl ?_
  refine ro_iconst (x := 1) hK (by decide) dL_law_896 ?_
  refine ro_iadd hK dL_law_897 ?_
  obtain ⟨x_425, e_426, i_427, h⟩ := mb_sr_e h
  refine ro_sld hX i_427 e_426 dL_law_898 ?_
  obtain ⟨r_428, s_429, q_430, h⟩ := mb_cl_e h
  refine ro_callV hK mC_keep vL_110 (t_C_keep (dd := dd + 15) q_430) rfl (mb_oC _) rfl (Nat.le_of_ble_eq_true rfl) ⟨by omega, by omega⟩ dL_law_899 rfl (fun r9 S9 q9 => ?_)
  obtain ⟨rfl, rfl⟩ := q9
  show K (u + 9) (v + 878) 902 [.float 0, .ref 0, .ref 200, .int w3] [.int r_428] (mb_s s_429)
  refine ro_aload_n hK dL_law_902 rfl ?_
  refine ro_aload_nF hK dL_law_903 rfl ?_
  refine ro_iload_n hK dL_law_904 rfl ?_
  refine ro_iconst (x := 1) hK (by decide) dL_law_905 ?_
  refine ro_iadd hK dL_law_906 ?_
  obtain ⟨x_431, e_432, i_433, h⟩ := mb_sr_e h
  refine ro_sld hX i_433 e_432 dL_law_907 ?_
  obtain ⟨r_436, s_434, q_435, h⟩ := mb_cl_e h
  refine rb_callV hK mM_keep vL_113 (t_M_keep (dd := dd + 16) q_435) rfl mb_oM rfl (Nat.le_of_ble_eq_true rfl) dL_law_908 rfl hb2 ?_
  show K (u + 9) (v + 878) 911 [.float 0, .ref 0, .ref 200, .int w3] [.int r_436, .int r_428] (mb_s s_434)
  refine ro_icmp_eq (tgt := 1474) hK dL_law_911 (by decide) (fun c_437 => ?_) (fun c_437 => ?_)
  · replace h := mb_ift c_437 h
    refine ro_iincv (c := 6) hK (by decide) dL_law_1474 rfl (by decide) ?_
    show K (u + 9) (v + 878) 1477 [.float 0, .ref 0, .ref 200, .int (w3 + 6)] [] (mb_s s_434)
    refine ro_goto (tgt := 18) hK dL_law_1477 (by decide) ?_
    exact hk _ _ _ _ (by omega) (by omega) h
  · replace h := mb_iff c_437 h
    refine ro_iconst (x := 0) hK (by decide) dL_law_914 ?_
    cases h
def f_L_c24 (n L : Nat) (xs : Nat → Int32) (k : Int32 → mb_T → Option Unit) (w3 : Int32) (s : mb_T) : Option Unit := mb_sr L xs (w3 + 1) fun x_438 => mb_cl (f_C_on n x_438 s) fun r_443 s_441 => mb_sr L xs (w3 + 1) fun x_444 => mb_cl (f_M_on n x_444 s_441) fun r_449 s_447 => if r_443 = r_449 then k (w3 + 6) s_447 else none
set_option maxHeartbeats 4000000 in
set_option maxRecDepth 100000 in
theorem tc_L_24 {dd n L f : Nat} {mn : String} {xs : Nat → Int32} {K : mj_KT} {k : Int32 → mb_T → Option Unit} {w3 : Int32} {s : mb_T} {u v : Nat} (hX : mj_X (dd + 19) 600000 7302249 RL_c mn code 4 L xs K) (hK : mj_C (dd + 19) 600000 7302249 RL_c mn code 4 K) (hk : ∀ (w3 : Int32) (s : mb_T) (u v : Nat), u + 9 * f ≤ 600000 → v + 878 * f ≤ 7302249 → k w3 s = some () → K u v 18 [.float 0, .ref 0, .ref 200, .int w3] [] (mb_s s)) (hu : u + 9 * (f + 1) ≤ 600000) (hv : v + 878 * (f + 1) ≤ 7302249) (h : f_L_c24 n L xs k w3 s = some ()) : K u v 916 [.float 0, .ref 0, .ref 200, .int w3] [] (mb_s s) := by
  unfold f_L_c24 at h
  have hb : u ≤ 600000 ∧ v ≤ 7302249 := ⟨by omega, by omega⟩
  have hb2 : u + 9 ≤ 600000 ∧ v + 878 ≤ 7302249 := ⟨by omega, by omega⟩
  refine ro_aload_n hK dL_law_916 rfl ?_
  refine ro_aload_nF hK dL_law_917 rfl ?_
  refine ro_iload_n hK dL_law_918 rfl ?_
  refine ro_iconst (x := 1) hK (by decide) dL_law_919 ?_
  refine ro_iadd hK dL_law_920 ?_
  obtain ⟨x_438, e_439, i_440, h⟩ := mb_sr_e h
  refine ro_sld hX i_440 e_439 dL_law_921 ?_
  obtain ⟨r_443, s_441, q_442, h⟩ := mb_cl_e h
  refine rb_callV hK mC_on vL_114 (t_C_on (dd := dd + 16) q_442) rfl mb_oC rfl (Nat.le_of_ble_eq_true rfl) dL_law_922 rfl hb ?_
  show K u v 925 [.float 0, .ref 0, .ref 200, .int w3] [.int r_443] (mb_s s_441)
  refine ro_aload_n hK dL_law_925 rfl ?_
  refine ro_aload_nF hK dL_law_926 rfl ?_
  refine ro_iload_n hK dL_law_927 rfl ?_
  refine ro_iconst (x := 1) hK (by decide) dL_law_928 ?_
  refine ro_iadd hK dL_law_929 ?_
  obtain ⟨x_444, e_445, i_446, h⟩ := mb_sr_e h
  refine ro_sld hX i_446 e_445 dL_law_930 ?_
  obtain ⟨r_449, s_447, q_448, h⟩ := mb_cl_e h
  refine rb_callV hK mM_on vL_117 (t_M_on (dd := dd + 16) q_448) rfl mb_oM rfl (Nat.le_of_ble_eq_true rfl) dL_law_931 rfl hb ?_
  show K u v 934 [.float 0, .ref 0, .ref 200, .int w3] [.int r_449, .int r_443] (mb_s s_447)
  refine ro_icmp_eq (tgt := 1474) hK dL_law_934 (by decide) (fun c_450 => ?_) (fun c_450 => ?_)
  · replace h := mb_ift c_450 h
    refine ro_iincv (c := 6) hK (by decide) dL_law_1474 rfl (by decide) ?_
    show K u v 1477 [.float 0, .ref 0, .ref 200, .int (w3 + 6)] [] (mb_s s_447)
    refine ro_goto (tgt := 18) hK dL_law_1477 (by decide) ?_
    exact hk _ _ _ _ (by omega) (by omega) h
  · replace h := mb_iff c_450 h
    refine ro_iconst (x := 0) hK (by decide) dL_law_937 ?_
    cases h
def f_L_c25 (n L : Nat) (xs : Nat → Int32) (k : Int32 → mb_T → Option Unit) (w3 : Int32) (s : mb_T) : Option Unit := mb_sr L xs (w3 + 1) fun x_451 => mb_cl (f_C_holds n x_451 s) fun r_456 s_454 => mb_sr L xs (w3 + 1) fun x_457 => mb_cl (f_M_holds n x_457 s_454) fun r_462 s_460 => if r_456 = r_462 then k (w3 + 6) s_460 else none
set_option maxHeartbeats 4000000 in
set_option maxRecDepth 100000 in
theorem tc_L_25 {dd n L f : Nat} {mn : String} {xs : Nat → Int32} {K : mj_KT} {k : Int32 → mb_T → Option Unit} {w3 : Int32} {s : mb_T} {u v : Nat} (hX : mj_X (dd + 19) 600000 7302249 RL_c mn code 4 L xs K) (hK : mj_C (dd + 19) 600000 7302249 RL_c mn code 4 K) (hk : ∀ (w3 : Int32) (s : mb_T) (u v : Nat), u + 9 * f ≤ 600000 → v + 878 * f ≤ 7302249 → k w3 s = some () → K u v 18 [.float 0, .ref 0, .ref 200, .int w3] [] (mb_s s)) (hu : u + 9 * (f + 1) ≤ 600000) (hv : v + 878 * (f + 1) ≤ 7302249) (h : f_L_c25 n L xs k w3 s = some ()) : K u v 939 [.float 0, .ref 0, .ref 200, .int w3] [] (mb_s s) := by
  unfold f_L_c25 at h
  have hb : u ≤ 600000 ∧ v ≤ 7302249 := ⟨by omega, by omega⟩
  have hb2 : u + 9 ≤ 600000 ∧ v + 878 ≤ 7302249 := ⟨by omega, by omega⟩
  refine ro_aload_n hK dL_law_939 rfl ?_
  refine ro_aload_nF hK dL_law_940 rfl ?_
  refine ro_iload_n hK dL_law_941 rfl ?_
  refine ro_iconst (x := 1) hK (by decide) dL_law_942 ?_
  refine ro_iadd hK dL_law_943 ?_
  obtain ⟨x_451, e_452, i_453, h⟩ := mb_sr_e h
  refine ro_sld hX i_453 e_452 dL_law_944 ?_
  obtain ⟨r_456, s_454, q_455, h⟩ := mb_cl_e h
  refine rb_callV hK mC_holds vL_118 (t_C_holds (dd := dd + 11) q_455) rfl mb_oC rfl (Nat.le_of_ble_eq_true rfl) dL_law_945 rfl hb ?_
  show K u v 948 [.float 0, .ref 0, .ref 200, .int w3] [.int r_456] (mb_s s_454)
  refine ro_aload_n hK dL_law_948 rfl ?_
  refine ro_aload_nF hK dL_law_949 rfl ?_
  refine ro_iload_n hK dL_law_950 rfl ?_
  refine ro_iconst (x := 1) hK (by decide) dL_law_951 ?_
  refine ro_iadd hK dL_law_952 ?_
  obtain ⟨x_457, e_458, i_459, h⟩ := mb_sr_e h
  refine ro_sld hX i_459 e_458 dL_law_953 ?_
  obtain ⟨r_462, s_460, q_461, h⟩ := mb_cl_e h
  refine rb_callV hK mM_holds vL_121 (t_M_holds (dd := dd + 12) q_461) rfl mb_oM rfl (Nat.le_of_ble_eq_true rfl) dL_law_954 rfl hb ?_
  show K u v 957 [.float 0, .ref 0, .ref 200, .int w3] [.int r_462, .int r_456] (mb_s s_460)
  refine ro_icmp_eq (tgt := 1474) hK dL_law_957 (by decide) (fun c_463 => ?_) (fun c_463 => ?_)
  · replace h := mb_ift c_463 h
    refine ro_iincv (c := 6) hK (by decide) dL_law_1474 rfl (by decide) ?_
    show K u v 1477 [.float 0, .ref 0, .ref 200, .int (w3 + 6)] [] (mb_s s_460)
    refine ro_goto (tgt := 18) hK dL_law_1477 (by decide) ?_
    exact hk _ _ _ _ (by omega) (by omega) h
  · replace h := mb_iff c_463 h
    refine ro_iconst (x := 0) hK (by decide) dL_law_960 ?_
    cases h
def f_L_c26 (n L : Nat) (xs : Nat → Int32) (k : Int32 → mb_T → Option Unit) (w3 : Int32) (s : mb_T) : Option Unit := mb_cl (f_C_best n s) fun r_466 s_464 => mb_cl (f_M_best n s_464) fun r_469 s_467 => if r_466 = r_469 then k (w3 + 6) s_467 else none
set_option maxHeartbeats 4000000 in
set_option maxRecDepth 100000 in
theorem tc_L_26 {dd n L f : Nat} {mn : String} {xs : Nat → Int32} {K : mj_KT} {k : Int32 → mb_T → Option Unit} {w3 : Int32} {s : mb_T} {u v : Nat} (hX : mj_X (dd + 19) 600000 7302249 RL_c mn code 4 L xs K) (hK : mj_C (dd + 19) 600000 7302249 RL_c mn code 4 K) (hk : ∀ (w3 : Int32) (s : mb_T) (u v : Nat), u + 9 * f ≤ 600000 → v + 878 * f ≤ 7302249 → k w3 s = some () → K u v 18 [.float 0, .ref 0, .ref 200, .int w3] [] (mb_s s)) (hu : u + 9 * (f + 1) ≤ 600000) (hv : v + 878 * (f + 1) ≤ 7302249) (h : f_L_c26 n L xs k w3 s = some ()) : K u v 962 [.float 0, .ref 0, .ref 200, .int w3] [] (mb_s s) := by
  unfold f_L_c26 at h
  have hb : u ≤ 600000 ∧ v ≤ 7302249 := ⟨by omega, by omega⟩
  have hb2 : u + 9 ≤ 600000 ∧ v + 878 ≤ 7302249 := ⟨by omega, by omega⟩
  refine ro_aload_n hK dL_law_962 rfl ?_
  obtain ⟨r_466, s_464, q_465, h⟩ := mb_cl_e h
  refine rb_callV hK mC_best vL_122 (t_C_best (dd := dd + 11) q_465) rfl mb_oC rfl (Nat.le_of_ble_eq_true rfl) dL_law_963 rfl hb ?_
  show K u v 966 [.float 0, .ref 0, .ref 200, .int w3] [.int r_466] (mb_s s_464)
  refine ro_aload_n hK dL_law_966 rfl ?_
  obtain ⟨r_469, s_467, q_468, h⟩ := mb_cl_e h
  refine rb_callV hK mM_best vL_125 (t_M_best (dd := dd + 12) q_468) rfl mb_oM rfl (Nat.le_of_ble_eq_true rfl) dL_law_967 rfl hb ?_
  show K u v 970 [.float 0, .ref 0, .ref 200, .int w3] [.int r_469, .int r_466] (mb_s s_467)
  refine ro_icmp_eq (tgt := 1474) hK dL_law_970 (by decide) (fun c_470 => ?_) (fun c_470 => ?_)
  · replace h := mb_ift c_470 h
    refine ro_iincv (c := 6) hK (by decide) dL_law_1474 rfl (by decide) ?_
    show K u v 1477 [.float 0, .ref 0, .ref 200, .int (w3 + 6)] [] (mb_s s_467)
    refine ro_goto (tgt := 18) hK dL_law_1477 (by decide) ?_
    exact hk _ _ _ _ (by omega) (by omega) h
  · replace h := mb_iff c_470 h
    refine ro_iconst (x := 0) hK (by decide) dL_law_973 ?_
    cases h
def f_L_c27 (n L : Nat) (xs : Nat → Int32) (k : Int32 → mb_T → Option Unit) (w3 : Int32) (s : mb_T) : Option Unit := mb_cl (f_C_rest n s) fun r_473 s_471 => mb_cl (f_M_rest n s_471) fun r_476 s_474 => if r_473 = r_476 then k (w3 + 6) s_474 else none
set_option maxHeartbeats 4000000 in
set_option maxRecDepth 100000 in
theorem tc_L_27 {dd n L f : Nat} {mn : String} {xs : Nat → Int32} {K : mj_KT} {k : Int32 → mb_T → Option Unit} {w3 : Int32} {s : mb_T} {u v : Nat} (hX : mj_X (dd + 19) 600000 7302249 RL_c mn code 4 L xs K) (hK : mj_C (dd + 19) 600000 7302249 RL_c mn code 4 K) (hk : ∀ (w3 : Int32) (s : mb_T) (u v : Nat), u + 9 * f ≤ 600000 → v + 878 * f ≤ 7302249 → k w3 s = some () → K u v 18 [.float 0, .ref 0, .ref 200, .int w3] [] (mb_s s)) (hu : u + 9 * (f + 1) ≤ 600000) (hv : v + 878 * (f + 1) ≤ 7302249) (h : f_L_c27 n L xs k w3 s = some ()) : K u v 975 [.float 0, .ref 0, .ref 200, .int w3] [] (mb_s s) := by
  unfold f_L_c27 at h
  have hb : u ≤ 600000 ∧ v ≤ 7302249 := ⟨by omega, by omega⟩
  have hb2 : u + 9 ≤ 600000 ∧ v + 878 ≤ 7302249 := ⟨by omega, by omega⟩
  refine ro_aload_n hK dL_law_975 rfl ?_
  obtain ⟨r_473, s_471, q_472, h⟩ := mb_cl_e h
  refine rb_callV hK mC_rest vL_126 (t_C_rest (dd := dd + 13) q_472) rfl mb_oC rfl (Nat.le_of_ble_eq_true rfl) dL_law_976 rfl hb ?_
  show K u v 979 [.float 0, .ref 0, .ref 200, .int w3] [.int r_473] (mb_s s_471)
  refine ro_aload_n hK dL_law_979 rfl ?_
  obtain ⟨r_476, s_474, q_475, h⟩ := mb_cl_e h
  refine rb_callV hK mM_rest vL_129 (t_M_rest (dd := dd + 13) q_475) rfl mb_oM rfl (Nat.le_of_ble_eq_true rfl) dL_law_980 rfl hb ?_
  show K u v 983 [.float 0, .ref 0, .ref 200, .int w3] [.int r_476, .int r_473] (mb_s s_474)
  refine ro_icmp_eq (tgt := 1474) hK dL_law_983 (by decide) (fun c_477 => ?_) (fun c_477 => ?_)
  · replace h := mb_ift c_477 h
    refine ro_iincv (c := 6) hK (by decide) dL_law_1474 rfl (by decide) ?_
    show K u v 1477 [.float 0, .ref 0, .ref 200, .int (w3 + 6)] [] (mb_s s_474)
    refine ro_goto (tgt := 18) hK dL_law_1477 (by decide) ?_
    exact hk _ _ _ _ (by omega) (by omega) h
  · replace h := mb_iff c_477 h
    refine ro_iconst (x := 0) hK (by decide) dL_law_986 ?_
    cases h
def f_L_c28 (n L : Nat) (xs : Nat → Int32) (k : Int32 → mb_T → Option Unit) (w3 : Int32) (s : mb_T) : Option Unit := mb_sr L xs (w3 + 1) fun x_478 => mb_cl (f_C_worst n x_478 s) fun r_483 s_481 => mb_sr L xs (w3 + 1) fun x_484 => mb_cl (f_M_worst n x_484 s_481) fun r_489 s_487 => if r_483 = r_489 then k (w3 + 6) s_487 else none
set_option maxHeartbeats 4000000 in
set_option maxRecDepth 100000 in
theorem tc_L_28 {dd n L f : Nat} {mn : String} {xs : Nat → Int32} {K : mj_KT} {k : Int32 → mb_T → Option Unit} {w3 : Int32} {s : mb_T} {u v : Nat} (hX : mj_X (dd + 19) 600000 7302249 RL_c mn code 4 L xs K) (hK : mj_C (dd + 19) 600000 7302249 RL_c mn code 4 K) (hk : ∀ (w3 : Int32) (s : mb_T) (u v : Nat), u + 9 * f ≤ 600000 → v + 878 * f ≤ 7302249 → k w3 s = some () → K u v 18 [.float 0, .ref 0, .ref 200, .int w3] [] (mb_s s)) (hu : u + 9 * (f + 1) ≤ 600000) (hv : v + 878 * (f + 1) ≤ 7302249) (h : f_L_c28 n L xs k w3 s = some ()) : K u v 988 [.float 0, .ref 0, .ref 200, .int w3] [] (mb_s s) := by
  unfold f_L_c28 at h
  have hb : u ≤ 600000 ∧ v ≤ 7302249 := ⟨by omega, by omega⟩
  have hb2 : u + 9 ≤ 600000 ∧ v + 878 ≤ 7302249 := ⟨by omega, by omega⟩
  refine ro_aload_n hK dL_law_988 rfl ?_
  refine ro_aload_nF hK dL_law_989 rfl ?_
  refine ro_iload_n hK dL_law_990 rfl ?_
  refine ro_iconst (x := 1) hK (by decide) dL_law_991 ?_
  refine ro_iadd hK dL_law_992 ?_
  obtain ⟨x_478, e_479, i_480, h⟩ := mb_sr_e h
  refine ro_sld hX i_480 e_479 dL_law_993 ?_
  obtain ⟨r_483, s_481, q_482, h⟩ := mb_cl_e h
  refine rb_callV hK mC_worst vL_130 (t_C_worst (dd := dd + 12) q_482) rfl mb_oC rfl (Nat.le_of_ble_eq_true rfl) dL_law_994 rfl hb ?_
  show K u v 997 [.float 0, .ref 0, .ref 200, .int w3] [.int r_483] (mb_s s_481)
  refine ro_aload_n hK dL_law_997 rfl ?_
  refine ro_aload_nF hK dL_law_998 rfl ?_
  refine ro_iload_n hK dL_law_999 rfl ?_
  refine ro_iconst (x := 1) hK (by decide) dL_law_1000 ?_
  refine ro_iadd hK dL_law_1001 ?_
  obtain ⟨x_484, e_485, i_486, h⟩ := mb_sr_e h
  refine ro_sld hX i_486 e_485 dL_law_1002 ?_
  obtain ⟨r_489, s_487, q_488, h⟩ := mb_cl_e h
  refine rb_callV hK mM_worst vL_133 (t_M_worst (dd := dd + 12) q_488) rfl mb_oM rfl (Nat.le_of_ble_eq_true rfl) dL_law_1003 rfl hb ?_
  show K u v 1006 [.float 0, .ref 0, .ref 200, .int w3] [.int r_489, .int r_483] (mb_s s_487)
  refine ro_icmp_eq (tgt := 1474) hK dL_law_1006 (by decide) (fun c_490 => ?_) (fun c_490 => ?_)
  · replace h := mb_ift c_490 h
    refine ro_iincv (c := 6) hK (by decide) dL_law_1474 rfl (by decide) ?_
    show K u v 1477 [.float 0, .ref 0, .ref 200, .int (w3 + 6)] [] (mb_s s_487)
    refine ro_goto (tgt := 18) hK dL_law_1477 (by decide) ?_
    exact hk _ _ _ _ (by omega) (by omega) h
  · replace h := mb_iff c_490 h
    refine ro_iconst (x := 0) hK (by decide) dL_law_1009 ?_
    cases h
def f_L_c29 (n L : Nat) (xs : Nat → Int32) (k : Int32 → mb_T → Option Unit) (w3 : Int32) (s : mb_T) : Option Unit := mb_sr L xs (w3 + 1) fun x_491 => mb_sr L xs (w3 + 2) fun x_494 => mb_cl (f_C_often n x_491 x_494 s) fun r_499 s_497 => mb_sr L xs (w3 + 1) fun x_500 => mb_sr L xs (w3 + 2) fun x_503 => mb_cl (f_M_often n x_500 x_503 s_497) fun r_508 s_506 => if r_499 = r_508 then k (w3 + 6) s_506 else none
set_option maxHeartbeats 4000000 in
set_option maxRecDepth 100000 in
theorem tc_L_29 {dd n L f : Nat} {mn : String} {xs : Nat → Int32} {K : mj_KT} {k : Int32 → mb_T → Option Unit} {w3 : Int32} {s : mb_T} {u v : Nat} (hX : mj_X (dd + 19) 600000 7302249 RL_c mn code 4 L xs K) (hK : mj_C (dd + 19) 600000 7302249 RL_c mn code 4 K) (hk : ∀ (w3 : Int32) (s : mb_T) (u v : Nat), u + 9 * f ≤ 600000 → v + 878 * f ≤ 7302249 → k w3 s = some () → K u v 18 [.float 0, .ref 0, .ref 200, .int w3] [] (mb_s s)) (hu : u + 9 * (f + 1) ≤ 600000) (hv : v + 878 * (f + 1) ≤ 7302249) (h : f_L_c29 n L xs k w3 s = some ()) : K u v 1011 [.float 0, .ref 0, .ref 200, .int w3] [] (mb_s s) := by
  unfold f_L_c29 at h
  have hb : u ≤ 600000 ∧ v ≤ 7302249 := ⟨by omega, by omega⟩
  have hb2 : u + 9 ≤ 600000 ∧ v + 878 ≤ 7302249 := ⟨by omega, by omega⟩
  refine ro_aload_n hK dL_law_1011 rfl ?_
  refine ro_aload_nF hK dL_law_1012 rfl ?_
  refine ro_iload_n hK dL_law_1013 rfl ?_
  refine ro_iconst (x := 1) hK (by decide) dL_law_1014 ?_
  refine ro_iadd hK dL_law_1015 ?_
  obtain ⟨x_491, e_492, i_493, h⟩ := mb_sr_e h
  refine ro_sld hX i_493 e_492 dL_law_1016 ?_
  refine ro_aload_nF hK dL_law_1017 rfl ?_
  refine ro_iload_n hK dL_law_1018 rfl ?_
  refine ro_iconst (x := 2) hK (by decide) dL_law_1019 ?_
  refine ro_iadd hK dL_law_1020 ?_
  obtain ⟨x_494, e_495, i_496, h⟩ := mb_sr_e h
  refine ro_sld hX i_496 e_495 dL_law_1021 ?_
  obtain ⟨r_499, s_497, q_498, h⟩ := mb_cl_e h
  refine rb_callV hK mC_often vL_134 (t_C_often (dd := dd + 12) q_498) rfl mb_oC rfl (Nat.le_of_ble_eq_true rfl) dL_law_1022 rfl hb ?_
  show K u v 1025 [.float 0, .ref 0, .ref 200, .int w3] [.int r_499] (mb_s s_497)
  refine ro_aload_n hK dL_law_1025 rfl ?_
  refine ro_aload_nF hK dL_law_1026 rfl ?_
  refine ro_iload_n hK dL_law_1027 rfl ?_
  refine ro_iconst (x := 1) hK (by decide) dL_law_1028 ?_
  refine ro_iadd hK dL_law_1029 ?_
  obtain ⟨x_500, e_501, i_502, h⟩ := mb_sr_e h
  refine ro_sld hX i_502 e_501 dL_law_1030 ?_
  refine ro_aload_nF hK dL_law_1031 rfl ?_
  refine ro_iload_n hK dL_law_1032 rfl ?_
  refine ro_iconst (x := 2) hK (by decide) dL_law_1033 ?_
  refine ro_iadd hK dL_law_1034 ?_
  obtain ⟨x_503, e_504, i_505, h⟩ := mb_sr_e h
  refine ro_sld hX i_505 e_504 dL_law_1035 ?_
  obtain ⟨r_508, s_506, q_507, h⟩ := mb_cl_e h
  refine rb_callV hK mM_often vL_137 (t_M_often (dd := dd + 12) q_507) rfl mb_oM rfl (Nat.le_of_ble_eq_true rfl) dL_law_1036 rfl hb ?_
  show K u v 1039 [.float 0, .ref 0, .ref 200, .int w3] [.int r_508, .int r_499] (mb_s s_506)
  refine ro_icmp_eq (tgt := 1474) hK dL_law_1039 (by decide) (fun c_509 => ?_) (fun c_509 => ?_)
  · replace h := mb_ift c_509 h
    refine ro_iincv (c := 6) hK (by decide) dL_law_1474 rfl (by decide) ?_
    show K u v 1477 [.float 0, .ref 0, .ref 200, .int (w3 + 6)] [] (mb_s s_506)
    refine ro_goto (tgt := 18) hK dL_law_1477 (by decide) ?_
    exact hk _ _ _ _ (by omega) (by omega) h
  · replace h := mb_iff c_509 h
    refine ro_iconst (x := 0) hK (by decide) dL_law_1042 ?_
    cases h
def f_L_c30 (n L : Nat) (xs : Nat → Int32) (k : Int32 → mb_T → Option Unit) (w3 : Int32) (s : mb_T) : Option Unit := mb_sr L xs (w3 + 1) fun x_510 => mb_cl (f_C_longest n x_510 s) fun r_515 s_513 => mb_sr L xs (w3 + 1) fun x_516 => mb_cl (f_M_longest n x_516 s_513) fun r_521 s_519 => if r_515 = r_521 then k (w3 + 6) s_519 else none
set_option maxHeartbeats 4000000 in
set_option maxRecDepth 100000 in
theorem tc_L_30 {dd n L f : Nat} {mn : String} {xs : Nat → Int32} {K : mj_KT} {k : Int32 → mb_T → Option Unit} {w3 : Int32} {s : mb_T} {u v : Nat} (hX : mj_X (dd + 19) 600000 7302249 RL_c mn code 4 L xs K) (hK : mj_C (dd + 19) 600000 7302249 RL_c mn code 4 K) (hk : ∀ (w3 : Int32) (s : mb_T) (u v : Nat), u + 9 * f ≤ 600000 → v + 878 * f ≤ 7302249 → k w3 s = some () → K u v 18 [.float 0, .ref 0, .ref 200, .int w3] [] (mb_s s)) (hu : u + 9 * (f + 1) ≤ 600000) (hv : v + 878 * (f + 1) ≤ 7302249) (h : f_L_c30 n L xs k w3 s = some ()) : K u v 1044 [.float 0, .ref 0, .ref 200, .int w3] [] (mb_s s) := by
  unfold f_L_c30 at h
  have hb : u ≤ 600000 ∧ v ≤ 7302249 := ⟨by omega, by omega⟩
  have hb2 : u + 9 ≤ 600000 ∧ v + 878 ≤ 7302249 := ⟨by omega, by omega⟩
  refine ro_aload_n hK dL_law_1044 rfl ?_
  refine ro_aload_nF hK dL_law_1045 rfl ?_
  refine ro_iload_n hK dL_law_1046 rfl ?_
  refine ro_iconst (x := 1) hK (by decide) dL_law_1047 ?_
  refine ro_iadd hK dL_law_1048 ?_
  obtain ⟨x_510, e_511, i_512, h⟩ := mb_sr_e h
  refine ro_sld hX i_512 e_511 dL_law_1049 ?_
  obtain ⟨r_515, s_513, q_514, h⟩ := mb_cl_e h
  refine rb_callV hK mC_longest vL_138 (t_C_longest (dd := dd + 1) q_514) rfl mb_oC rfl (Nat.le_of_ble_eq_true rfl) dL_law_1050 rfl hb ?_
  show K u v 1053 [.float 0, .ref 0, .ref 200, .int w3] [.int r_515] (mb_s s_513)
  refine ro_aload_n hK dL_law_1053 rfl ?_
  refine ro_aload_nF hK dL_law_1054 rfl ?_
  refine ro_iload_n hK dL_law_1055 rfl ?_
  refine ro_iconst (x := 1) hK (by decide) dL_law_1056 ?_
  refine ro_iadd hK dL_law_1057 ?_
  obtain ⟨x_516, e_517, i_518, h⟩ := mb_sr_e h
  refine ro_sld hX i_518 e_517 dL_law_1058 ?_
  obtain ⟨r_521, s_519, q_520, h⟩ := mb_cl_e h
  refine rb_callV hK mM_longest vL_141 (t_M_longest (dd := dd + 4) q_520) rfl mb_oM rfl (Nat.le_of_ble_eq_true rfl) dL_law_1059 rfl hb ?_
  show K u v 1062 [.float 0, .ref 0, .ref 200, .int w3] [.int r_521, .int r_515] (mb_s s_519)
  refine ro_icmp_eq (tgt := 1474) hK dL_law_1062 (by decide) (fun c_522 => ?_) (fun c_522 => ?_)
  · replace h := mb_ift c_522 h
    refine ro_iincv (c := 6) hK (by decide) dL_law_1474 rfl (by decide) ?_
    show K u v 1477 [.float 0, .ref 0, .ref 200, .int (w3 + 6)] [] (mb_s s_519)
    refine ro_goto (tgt := 18) hK dL_law_1477 (by decide) ?_
    exact hk _ _ _ _ (by omega) (by omega) h
  · replace h := mb_iff c_522 h
    refine ro_iconst (x := 0) hK (by decide) dL_law_1065 ?_
    cases h
def f_L_c31 (n L : Nat) (xs : Nat → Int32) (k : Int32 → mb_T → Option Unit) (w3 : Int32) (s : mb_T) : Option Unit := mb_sr L xs (w3 + 1) fun x_523 => mb_sr L xs (w3 + 2) fun x_526 => mb_cl (f_C_calmest n x_523 x_526 s) fun r_531 s_529 => mb_sr L xs (w3 + 1) fun x_532 => mb_sr L xs (w3 + 2) fun x_535 => mb_cl (f_M_calmest n x_532 x_535 s_529) fun r_540 s_538 => if r_531 = r_540 then k (w3 + 6) s_538 else none
set_option maxHeartbeats 4000000 in
set_option maxRecDepth 100000 in
theorem tc_L_31 {dd n L f : Nat} {mn : String} {xs : Nat → Int32} {K : mj_KT} {k : Int32 → mb_T → Option Unit} {w3 : Int32} {s : mb_T} {u v : Nat} (hX : mj_X (dd + 19) 600000 7302249 RL_c mn code 4 L xs K) (hK : mj_C (dd + 19) 600000 7302249 RL_c mn code 4 K) (hk : ∀ (w3 : Int32) (s : mb_T) (u v : Nat), u + 9 * f ≤ 600000 → v + 878 * f ≤ 7302249 → k w3 s = some () → K u v 18 [.float 0, .ref 0, .ref 200, .int w3] [] (mb_s s)) (hu : u + 9 * (f + 1) ≤ 600000) (hv : v + 878 * (f + 1) ≤ 7302249) (h : f_L_c31 n L xs k w3 s = some ()) : K u v 1067 [.float 0, .ref 0, .ref 200, .int w3] [] (mb_s s) := by
  unfold f_L_c31 at h
  have hb : u ≤ 600000 ∧ v ≤ 7302249 := ⟨by omega, by omega⟩
  have hb2 : u + 9 ≤ 600000 ∧ v + 878 ≤ 7302249 := ⟨by omega, by omega⟩
  refine ro_aload_n hK dL_law_1067 rfl ?_
  refine ro_aload_nF hK dL_law_1068 rfl ?_
  refine ro_iload_n hK dL_law_1069 rfl ?_
  refine ro_iconst (x := 1) hK (by decide) dL_law_1070 ?_
  refine ro_iadd hK dL_law_1071 ?_
  obtain ⟨x_523, e_524, i_525, h⟩ := mb_sr_e h
  refine ro_sld hX i_525 e_524 dL_law_1072 ?_
  refine ro_aload_nF hK dL_law_1073 rfl ?_
  refine ro_iload_n hK dL_law_1074 rfl ?_
  refine ro_iconst (x := 2) hK (by decide) dL_law_1075 ?_
  refine ro_iadd hK dL_law_1076 ?_
  obtain ⟨x_526, e_527, i_528, h⟩ := mb_sr_e h
  refine ro_sld hX i_528 e_527 dL_law_1077 ?_
  obtain ⟨r_531, s_529, q_530, h⟩ := mb_cl_e h
  refine rb_callV hK mC_calmest vL_142 (t_C_calmest (dd := dd + 1) q_530) rfl mb_oC rfl (Nat.le_of_ble_eq_true rfl) dL_law_1078 rfl hb ?_
  show K u v 1081 [.float 0, .ref 0, .ref 200, .int w3] [.int r_531] (mb_s s_529)
  refine ro_aload_n hK dL_law_1081 rfl ?_
  refine ro_aload_nF hK dL_law_1082 rfl ?_
  refine ro_iload_n hK dL_law_1083 rfl ?_
  refine ro_iconst (x := 1) hK (by decide) dL_law_1084 ?_
  refine ro_iadd hK dL_law_1085 ?_
  obtain ⟨x_532, e_533, i_534, h⟩ := mb_sr_e h
  refine ro_sld hX i_534 e_533 dL_law_1086 ?_
  refine ro_aload_nF hK dL_law_1087 rfl ?_
  refine ro_iload_n hK dL_law_1088 rfl ?_
  refine ro_iconst (x := 2) hK (by decide) dL_law_1089 ?_
  refine ro_iadd hK dL_law_1090 ?_
  obtain ⟨x_535, e_536, i_537, h⟩ := mb_sr_e h
  refine ro_sld hX i_537 e_536 dL_law_1091 ?_
  obtain ⟨r_540, s_538, q_539, h⟩ := mb_cl_e h
  refine rb_callV hK mM_calmest vL_145 (t_M_calmest (dd := dd + 4) q_539) rfl mb_oM rfl (Nat.le_of_ble_eq_true rfl) dL_law_1092 rfl hb ?_
  show K u v 1095 [.float 0, .ref 0, .ref 200, .int w3] [.int r_540, .int r_531] (mb_s s_538)
  refine ro_icmp_eq (tgt := 1474) hK dL_law_1095 (by decide) (fun c_541 => ?_) (fun c_541 => ?_)
  · replace h := mb_ift c_541 h
    refine ro_iincv (c := 6) hK (by decide) dL_law_1474 rfl (by decide) ?_
    show K u v 1477 [.float 0, .ref 0, .ref 200, .int (w3 + 6)] [] (mb_s s_538)
    refine ro_goto (tgt := 18) hK dL_law_1477 (by decide) ?_
    exact hk _ _ _ _ (by omega) (by omega) h
  · replace h := mb_iff c_541 h
    refine ro_iconst (x := 0) hK (by decide) dL_law_1098 ?_
    cases h
def f_L_c32 (n L : Nat) (xs : Nat → Int32) (k : Int32 → mb_T → Option Unit) (w3 : Int32) (s : mb_T) : Option Unit := mb_sr L xs (w3 + 1) fun x_542 => mb_cl (f_C_order n x_542 s) fun r_547 s_545 => mb_sr L xs (w3 + 1) fun x_548 => mb_cl (f_M_order n x_548 s_545) fun r_553 s_551 => if r_547 = r_553 then k (w3 + 6) s_551 else none
set_option maxHeartbeats 4000000 in
set_option maxRecDepth 100000 in
theorem tc_L_32 {dd n L f : Nat} {mn : String} {xs : Nat → Int32} {K : mj_KT} {k : Int32 → mb_T → Option Unit} {w3 : Int32} {s : mb_T} {u v : Nat} (hX : mj_X (dd + 19) 600000 7302249 RL_c mn code 4 L xs K) (hK : mj_C (dd + 19) 600000 7302249 RL_c mn code 4 K) (hk : ∀ (w3 : Int32) (s : mb_T) (u v : Nat), u + 9 * f ≤ 600000 → v + 878 * f ≤ 7302249 → k w3 s = some () → K u v 18 [.float 0, .ref 0, .ref 200, .int w3] [] (mb_s s)) (hu : u + 9 * (f + 1) ≤ 600000) (hv : v + 878 * (f + 1) ≤ 7302249) (h : f_L_c32 n L xs k w3 s = some ()) : K u v 1100 [.float 0, .ref 0, .ref 200, .int w3] [] (mb_s s) := by
  unfold f_L_c32 at h
  have hb : u ≤ 600000 ∧ v ≤ 7302249 := ⟨by omega, by omega⟩
  have hb2 : u + 9 ≤ 600000 ∧ v + 878 ≤ 7302249 := ⟨by omega, by omega⟩
  refine ro_aload_n hK dL_law_1100 rfl ?_
  refine ro_aload_nF hK dL_law_1101 rfl ?_
  refine ro_iload_n hK dL_law_1102 rfl ?_
  refine ro_iconst (x := 1) hK (by decide) dL_law_1103 ?_
  refine ro_iadd hK dL_law_1104 ?_
  obtain ⟨x_542, e_543, i_544, h⟩ := mb_sr_e h
  refine ro_sld hX i_544 e_543 dL_law_1105 ?_
  obtain ⟨r_547, s_545, q_546, h⟩ := mb_cl_e h
  refine rb_callV hK mC_order vL_146 (t_C_order (dd := dd + 10) q_546) rfl mb_oC rfl (Nat.le_of_ble_eq_true rfl) dL_law_1106 rfl hb ?_
  show K u v 1109 [.float 0, .ref 0, .ref 200, .int w3] [.int r_547] (mb_s s_545)
  refine ro_aload_n hK dL_law_1109 rfl ?_
  refine ro_aload_nF hK dL_law_1110 rfl ?_
  refine ro_iload_n hK dL_law_1111 rfl ?_
  refine ro_iconst (x := 1) hK (by decide) dL_law_1112 ?_
  refine ro_iadd hK dL_law_1113 ?_
  obtain ⟨x_548, e_549, i_550, h⟩ := mb_sr_e h
  refine ro_sld hX i_550 e_549 dL_law_1114 ?_
  obtain ⟨r_553, s_551, q_552, h⟩ := mb_cl_e h
  refine rb_callV hK mM_order vL_149 (t_M_order (dd := dd + 0) q_552) rfl mb_oM rfl (Nat.le_of_ble_eq_true rfl) dL_law_1115 rfl hb ?_
  show K u v 1118 [.float 0, .ref 0, .ref 200, .int w3] [.int r_553, .int r_547] (mb_s s_551)
  refine ro_icmp_eq (tgt := 1474) hK dL_law_1118 (by decide) (fun c_554 => ?_) (fun c_554 => ?_)
  · replace h := mb_ift c_554 h
    refine ro_iincv (c := 6) hK (by decide) dL_law_1474 rfl (by decide) ?_
    show K u v 1477 [.float 0, .ref 0, .ref 200, .int (w3 + 6)] [] (mb_s s_551)
    refine ro_goto (tgt := 18) hK dL_law_1477 (by decide) ?_
    exact hk _ _ _ _ (by omega) (by omega) h
  · replace h := mb_iff c_554 h
    refine ro_iconst (x := 0) hK (by decide) dL_law_1121 ?_
    cases h
def f_L_c33 (n L : Nat) (xs : Nat → Int32) (k : Int32 → mb_T → Option Unit) (w3 : Int32) (s : mb_T) : Option Unit := mb_cl (f_C_swap n s) fun r_557 s_555 => mb_cl (f_M_swap n s_555) fun r_560 s_558 => if r_557 = r_560 then k (w3 + 6) s_558 else none
set_option maxHeartbeats 4000000 in
set_option maxRecDepth 100000 in
theorem tc_L_33 {dd n L f : Nat} {mn : String} {xs : Nat → Int32} {K : mj_KT} {k : Int32 → mb_T → Option Unit} {w3 : Int32} {s : mb_T} {u v : Nat} (hX : mj_X (dd + 19) 600000 7302249 RL_c mn code 4 L xs K) (hK : mj_C (dd + 19) 600000 7302249 RL_c mn code 4 K) (hk : ∀ (w3 : Int32) (s : mb_T) (u v : Nat), u + 9 * f ≤ 600000 → v + 878 * f ≤ 7302249 → k w3 s = some () → K u v 18 [.float 0, .ref 0, .ref 200, .int w3] [] (mb_s s)) (hu : u + 9 * (f + 1) ≤ 600000) (hv : v + 878 * (f + 1) ≤ 7302249) (h : f_L_c33 n L xs k w3 s = some ()) : K u v 1123 [.float 0, .ref 0, .ref 200, .int w3] [] (mb_s s) := by
  unfold f_L_c33 at h
  have hb : u ≤ 600000 ∧ v ≤ 7302249 := ⟨by omega, by omega⟩
  have hb2 : u + 9 ≤ 600000 ∧ v + 878 ≤ 7302249 := ⟨by omega, by omega⟩
  refine ro_aload_n hK dL_law_1123 rfl ?_
  obtain ⟨r_557, s_555, q_556, h⟩ := mb_cl_e h
  refine rb_callV hK mC_swap vL_150 (t_C_swap (dd := dd + 10) q_556) rfl mb_oC rfl (Nat.le_of_ble_eq_true rfl) dL_law_1124 rfl hb ?_
  show K u v 1127 [.float 0, .ref 0, .ref 200, .int w3] [.int r_557] (mb_s s_555)
  refine ro_aload_n hK dL_law_1127 rfl ?_
  obtain ⟨r_560, s_558, q_559, h⟩ := mb_cl_e h
  refine rb_callV hK mM_swap vL_153 (t_M_swap (dd := dd + 11) q_559) rfl mb_oM rfl (Nat.le_of_ble_eq_true rfl) dL_law_1128 rfl hb ?_
  show K u v 1131 [.float 0, .ref 0, .ref 200, .int w3] [.int r_560, .int r_557] (mb_s s_558)
  refine ro_icmp_eq (tgt := 1474) hK dL_law_1131 (by decide) (fun c_561 => ?_) (fun c_561 => ?_)
  · replace h := mb_ift c_561 h
    refine ro_iincv (c := 6) hK (by decide) dL_law_1474 rfl (by decide) ?_
    show K u v 1477 [.float 0, .ref 0, .ref 200, .int (w3 + 6)] [] (mb_s s_558)
    refine ro_goto (tgt := 18) hK dL_law_1477 (by decide) ?_
    exact hk _ _ _ _ (by omega) (by omega) h
  · replace h := mb_iff c_561 h
    refine ro_iconst (x := 0) hK (by decide) dL_law_1134 ?_
    cases h
def f_L_c34 (n L : Nat) (xs : Nat → Int32) (k : Int32 → mb_T → Option Unit) (w3 : Int32) (s : mb_T) : Option Unit := mb_sr L xs (w3 + 1) fun x_562 => mb_cl (f_C_spare n x_562 s) fun r_567 s_565 => mb_sr L xs (w3 + 1) fun x_568 => mb_cl (f_M_spare n x_568 s_565) fun r_573 s_571 => if r_567 = r_573 then k (w3 + 6) s_571 else none
set_option maxHeartbeats 4000000 in
set_option maxRecDepth 100000 in
theorem tc_L_34 {dd n L f : Nat} {mn : String} {xs : Nat → Int32} {K : mj_KT} {k : Int32 → mb_T → Option Unit} {w3 : Int32} {s : mb_T} {u v : Nat} (hX : mj_X (dd + 19) 600000 7302249 RL_c mn code 4 L xs K) (hK : mj_C (dd + 19) 600000 7302249 RL_c mn code 4 K) (hk : ∀ (w3 : Int32) (s : mb_T) (u v : Nat), u + 9 * f ≤ 600000 → v + 878 * f ≤ 7302249 → k w3 s = some () → K u v 18 [.float 0, .ref 0, .ref 200, .int w3] [] (mb_s s)) (hu : u + 9 * (f + 1) ≤ 600000) (hv : v + 878 * (f + 1) ≤ 7302249) (h : f_L_c34 n L xs k w3 s = some ()) : K u v 1136 [.float 0, .ref 0, .ref 200, .int w3] [] (mb_s s) := by
  unfold f_L_c34 at h
  have hb : u ≤ 600000 ∧ v ≤ 7302249 := ⟨by omega, by omega⟩
  have hb2 : u + 9 ≤ 600000 ∧ v + 878 ≤ 7302249 := ⟨by omega, by omega⟩
  refine ro_aload_n hK dL_law_1136 rfl ?_
  refine ro_aload_nF hK dL_law_1137 rfl ?_
  refine ro_iload_n hK dL_law_1138 rfl ?_
  refine ro_iconst (x := 1) hK (by decide) dL_law_1139 ?_
  refine ro_iadd hK dL_law_1140 ?_
  obtain ⟨x_562, e_563, i_564, h⟩ := mb_sr_e h
  refine ro_sld hX i_564 e_563 dL_law_1141 ?_
  obtain ⟨r_567, s_565, q_566, h⟩ := mb_cl_e h
  refine rb_callV hK mC_spare vL_154 (t_C_spare (dd := dd + 11) q_566) rfl mb_oC rfl (Nat.le_of_ble_eq_true rfl) dL_law_1142 rfl hb ?_
  show K u v 1145 [.float 0, .ref 0, .ref 200, .int w3] [.int r_567] (mb_s s_565)
  refine ro_aload_n hK dL_law_1145 rfl ?_
  refine ro_aload_nF hK dL_law_1146 rfl ?_
  refine ro_iload_n hK dL_law_1147 rfl ?_
  refine ro_iconst (x := 1) hK (by decide) dL_law_1148 ?_
  refine ro_iadd hK dL_law_1149 ?_
  obtain ⟨x_568, e_569, i_570, h⟩ := mb_sr_e h
  refine ro_sld hX i_570 e_569 dL_law_1150 ?_
  obtain ⟨r_573, s_571, q_572, h⟩ := mb_cl_e h
  refine rb_callV hK mM_spare vL_157 (t_M_spare (dd := dd + 13) q_572) rfl mb_oM rfl (Nat.le_of_ble_eq_true rfl) dL_law_1151 rfl hb ?_
  show K u v 1154 [.float 0, .ref 0, .ref 200, .int w3] [.int r_573, .int r_567] (mb_s s_571)
  refine ro_icmp_eq (tgt := 1474) hK dL_law_1154 (by decide) (fun c_574 => ?_) (fun c_574 => ?_)
  · replace h := mb_ift c_574 h
    refine ro_iincv (c := 6) hK (by decide) dL_law_1474 rfl (by decide) ?_
    show K u v 1477 [.float 0, .ref 0, .ref 200, .int (w3 + 6)] [] (mb_s s_571)
    refine ro_goto (tgt := 18) hK dL_law_1477 (by decide) ?_
    exact hk _ _ _ _ (by omega) (by omega) h
  · replace h := mb_iff c_574 h
    refine ro_iconst (x := 0) hK (by decide) dL_law_1157 ?_
    cases h
def f_L_c35 (n L : Nat) (xs : Nat → Int32) (k : Int32 → mb_T → Option Unit) (w3 : Int32) (s : mb_T) : Option Unit := mb_cl (f_C_teller n s) fun r_577 s_575 => mb_cl (f_M_teller n s_575) fun r_580 s_578 => if r_577 = r_580 then k (w3 + 6) s_578 else none
set_option maxHeartbeats 4000000 in
set_option maxRecDepth 100000 in
theorem tc_L_35 {dd n L f : Nat} {mn : String} {xs : Nat → Int32} {K : mj_KT} {k : Int32 → mb_T → Option Unit} {w3 : Int32} {s : mb_T} {u v : Nat} (hX : mj_X (dd + 19) 600000 7302249 RL_c mn code 4 L xs K) (hK : mj_C (dd + 19) 600000 7302249 RL_c mn code 4 K) (hk : ∀ (w3 : Int32) (s : mb_T) (u v : Nat), u + 9 * f ≤ 600000 → v + 878 * f ≤ 7302249 → k w3 s = some () → K u v 18 [.float 0, .ref 0, .ref 200, .int w3] [] (mb_s s)) (hu : u + 9 * (f + 1) ≤ 600000) (hv : v + 878 * (f + 1) ≤ 7302249) (h : f_L_c35 n L xs k w3 s = some ()) : K u v 1159 [.float 0, .ref 0, .ref 200, .int w3] [] (mb_s s) := by
  unfold f_L_c35 at h
  have hb : u ≤ 600000 ∧ v ≤ 7302249 := ⟨by omega, by omega⟩
  have hb2 : u + 9 ≤ 600000 ∧ v + 878 ≤ 7302249 := ⟨by omega, by omega⟩
  refine ro_aload_n hK dL_law_1159 rfl ?_
  obtain ⟨r_577, s_575, q_576, h⟩ := mb_cl_e h
  refine rb_callV hK mC_teller vL_158 (t_C_teller (dd := dd + 14) q_576) rfl mb_oC rfl (Nat.le_of_ble_eq_true rfl) dL_law_1160 rfl hb ?_
  show K u v 1163 [.float 0, .ref 0, .ref 200, .int w3] [.int r_577] (mb_s s_575)
  refine ro_aload_n hK dL_law_1163 rfl ?_
  obtain ⟨r_580, s_578, q_579, h⟩ := mb_cl_e h
  refine rb_callV hK mM_teller vL_161 (t_M_teller (dd := dd + 15) q_579) rfl mb_oM rfl (Nat.le_of_ble_eq_true rfl) dL_law_1164 rfl hb ?_
  show K u v 1167 [.float 0, .ref 0, .ref 200, .int w3] [.int r_580, .int r_577] (mb_s s_578)
  refine ro_icmp_eq (tgt := 1474) hK dL_law_1167 (by decide) (fun c_581 => ?_) (fun c_581 => ?_)
  · replace h := mb_ift c_581 h
    refine ro_iincv (c := 6) hK (by decide) dL_law_1474 rfl (by decide) ?_
    show K u v 1477 [.float 0, .ref 0, .ref 200, .int (w3 + 6)] [] (mb_s s_578)
    refine ro_goto (tgt := 18) hK dL_law_1477 (by decide) ?_
    exact hk _ _ _ _ (by omega) (by omega) h
  · replace h := mb_iff c_581 h
    refine ro_iconst (x := 0) hK (by decide) dL_law_1170 ?_
    cases h
def f_L_c36 (n L : Nat) (xs : Nat → Int32) (k : Int32 → mb_T → Option Unit) (w3 : Int32) (s : mb_T) : Option Unit := mb_sr L xs (w3 + 1) fun x_582 => mb_cl (f_C_judge n x_582 s) fun r_587 s_585 => mb_sr L xs (w3 + 1) fun x_588 => mb_cl (f_M_judge n x_588 s_585) fun r_593 s_591 => if r_587 = r_593 then k (w3 + 6) s_591 else none
set_option maxHeartbeats 4000000 in
set_option maxRecDepth 100000 in
theorem tc_L_36 {dd n L f : Nat} {mn : String} {xs : Nat → Int32} {K : mj_KT} {k : Int32 → mb_T → Option Unit} {w3 : Int32} {s : mb_T} {u v : Nat} (hX : mj_X (dd + 19) 600000 7302249 RL_c mn code 4 L xs K) (hK : mj_C (dd + 19) 600000 7302249 RL_c mn code 4 K) (hk : ∀ (w3 : Int32) (s : mb_T) (u v : Nat), u + 9 * f ≤ 600000 → v + 878 * f ≤ 7302249 → k w3 s = some () → K u v 18 [.float 0, .ref 0, .ref 200, .int w3] [] (mb_s s)) (hu : u + 9 * (f + 1) ≤ 600000) (hv : v + 878 * (f + 1) ≤ 7302249) (h : f_L_c36 n L xs k w3 s = some ()) : K u v 1172 [.float 0, .ref 0, .ref 200, .int w3] [] (mb_s s) := by
  unfold f_L_c36 at h
  have hb : u ≤ 600000 ∧ v ≤ 7302249 := ⟨by omega, by omega⟩
  have hb2 : u + 9 ≤ 600000 ∧ v + 878 ≤ 7302249 := ⟨by omega, by omega⟩
  refine ro_aload_n hK dL_law_1172 rfl ?_
  refine ro_aload_nF hK dL_law_1173 rfl ?_
  refine ro_iload_n hK dL_law_1174 rfl ?_
  refine ro_iconst (x := 1) hK (by decide) dL_law_1175 ?_
  refine ro_iadd hK dL_law_1176 ?_
  obtain ⟨x_582, e_583, i_584, h⟩ := mb_sr_e h
  refine ro_sld hX i_584 e_583 dL_law_1177 ?_
  obtain ⟨r_587, s_585, q_586, h⟩ := mb_cl_e h
  refine rb_callV hK mC_judge vL_162 (t_C_judge (dd := dd + 13) q_586) rfl mb_oC rfl (Nat.le_of_ble_eq_true rfl) dL_law_1178 rfl hb ?_
  show K u v 1181 [.float 0, .ref 0, .ref 200, .int w3] [.int r_587] (mb_s s_585)
  refine ro_aload_n hK dL_law_1181 rfl ?_
  refine ro_aload_nF hK dL_law_1182 rfl ?_
  refine ro_iload_n hK dL_law_1183 rfl ?_
  refine ro_iconst (x := 1) hK (by decide) dL_law_1184 ?_
  refine ro_iadd hK dL_law_1185 ?_
  obtain ⟨x_588, e_589, i_590, h⟩ := mb_sr_e h
  refine ro_sld hX i_590 e_589 dL_law_1186 ?_
  obtain ⟨r_593, s_591, q_592, h⟩ := mb_cl_e h
  refine rb_callV hK mM_judge vL_165 (t_M_judge (dd := dd + 12) q_592) rfl mb_oM rfl (Nat.le_of_ble_eq_true rfl) dL_law_1187 rfl hb ?_
  show K u v 1190 [.float 0, .ref 0, .ref 200, .int w3] [.int r_593, .int r_587] (mb_s s_591)
  refine ro_icmp_eq (tgt := 1474) hK dL_law_1190 (by decide) (fun c_594 => ?_) (fun c_594 => ?_)
  · replace h := mb_ift c_594 h
    refine ro_iincv (c := 6) hK (by decide) dL_law_1474 rfl (by decide) ?_
    show K u v 1477 [.float 0, .ref 0, .ref 200, .int (w3 + 6)] [] (mb_s s_591)
    refine ro_goto (tgt := 18) hK dL_law_1477 (by decide) ?_
    exact hk _ _ _ _ (by omega) (by omega) h
  · replace h := mb_iff c_594 h
    refine ro_iconst (x := 0) hK (by decide) dL_law_1193 ?_
    cases h
def f_L_c37 (n L : Nat) (xs : Nat → Int32) (k : Int32 → mb_T → Option Unit) (w3 : Int32) (s : mb_T) : Option Unit := mb_sr L xs (w3 + 1) fun x_595 => mb_cl (f_C_liars n x_595 s) fun r_600 s_598 => mb_sr L xs (w3 + 1) fun x_601 => mb_cl (f_M_liars n x_601 s_598) fun r_606 s_604 => if r_600 = r_606 then k (w3 + 6) s_604 else none
set_option maxHeartbeats 4000000 in
set_option maxRecDepth 100000 in
theorem tc_L_37 {dd n L f : Nat} {mn : String} {xs : Nat → Int32} {K : mj_KT} {k : Int32 → mb_T → Option Unit} {w3 : Int32} {s : mb_T} {u v : Nat} (hX : mj_X (dd + 19) 600000 7302249 RL_c mn code 4 L xs K) (hK : mj_C (dd + 19) 600000 7302249 RL_c mn code 4 K) (hk : ∀ (w3 : Int32) (s : mb_T) (u v : Nat), u + 9 * f ≤ 600000 → v + 878 * f ≤ 7302249 → k w3 s = some () → K u v 18 [.float 0, .ref 0, .ref 200, .int w3] [] (mb_s s)) (hu : u + 9 * (f + 1) ≤ 600000) (hv : v + 878 * (f + 1) ≤ 7302249) (h : f_L_c37 n L xs k w3 s = some ()) : K u v 1195 [.float 0, .ref 0, .ref 200, .int w3] [] (mb_s s) := by
  unfold f_L_c37 at h
  have hb : u ≤ 600000 ∧ v ≤ 7302249 := ⟨by omega, by omega⟩
  have hb2 : u + 9 ≤ 600000 ∧ v + 878 ≤ 7302249 := ⟨by omega, by omega⟩
  refine ro_aload_n hK dL_law_1195 rfl ?_
  refine ro_aload_nF hK dL_law_1196 rfl ?_
  refine ro_iload_n hK dL_law_1197 rfl ?_
  refine ro_iconst (x := 1) hK (by decide) dL_law_1198 ?_
  refine ro_iadd hK dL_law_1199 ?_
  obtain ⟨x_595, e_596, i_597, h⟩ := mb_sr_e h
  refine ro_sld hX i_597 e_596 dL_law_1200 ?_
  obtain ⟨r_600, s_598, q_599, h⟩ := mb_cl_e h
  refine rb_callV hK mC_liars vL_166 (t_C_liars (dd := dd + 12) q_599) rfl mb_oC rfl (Nat.le_of_ble_eq_true rfl) dL_law_1201 rfl hb ?_
  show K u v 1204 [.float 0, .ref 0, .ref 200, .int w3] [.int r_600] (mb_s s_598)
  refine ro_aload_n hK dL_law_1204 rfl ?_
  refine ro_aload_nF hK dL_law_1205 rfl ?_
  refine ro_iload_n hK dL_law_1206 rfl ?_
  refine ro_iconst (x := 1) hK (by decide) dL_law_1207 ?_
  refine ro_iadd hK dL_law_1208 ?_
  obtain ⟨x_601, e_602, i_603, h⟩ := mb_sr_e h
  refine ro_sld hX i_603 e_602 dL_law_1209 ?_
  obtain ⟨r_606, s_604, q_605, h⟩ := mb_cl_e h
  refine rb_callV hK mM_liars vL_169 (t_M_liars (dd := dd + 12) q_605) rfl mb_oM rfl (Nat.le_of_ble_eq_true rfl) dL_law_1210 rfl hb ?_
  show K u v 1213 [.float 0, .ref 0, .ref 200, .int w3] [.int r_606, .int r_600] (mb_s s_604)
  refine ro_icmp_eq (tgt := 1474) hK dL_law_1213 (by decide) (fun c_607 => ?_) (fun c_607 => ?_)
  · replace h := mb_ift c_607 h
    refine ro_iincv (c := 6) hK (by decide) dL_law_1474 rfl (by decide) ?_
    show K u v 1477 [.float 0, .ref 0, .ref 200, .int (w3 + 6)] [] (mb_s s_604)
    refine ro_goto (tgt := 18) hK dL_law_1477 (by decide) ?_
    exact hk _ _ _ _ (by omega) (by omega) h
  · replace h := mb_iff c_607 h
    refine ro_iconst (x := 0) hK (by decide) dL_law_1216 ?_
    cases h
def f_L_c38 (n L : Nat) (xs : Nat → Int32) (k : Int32 → mb_T → Option Unit) (w3 : Int32) (s : mb_T) : Option Unit := mb_sr L xs (w3 + 1) fun x_608 => mb_sr L xs (w3 + 2) fun x_611 => mb_cl (f_C_grows n x_608 x_611 s) fun r_616 s_614 => mb_sr L xs (w3 + 1) fun x_617 => mb_sr L xs (w3 + 2) fun x_620 => mb_cl (f_M_grows n x_617 x_620 s_614) fun r_625 s_623 => if r_616 = r_625 then k (w3 + 6) s_623 else none
set_option maxHeartbeats 4000000 in
set_option maxRecDepth 100000 in
theorem tc_L_38 {dd n L f : Nat} {mn : String} {xs : Nat → Int32} {K : mj_KT} {k : Int32 → mb_T → Option Unit} {w3 : Int32} {s : mb_T} {u v : Nat} (hX : mj_X (dd + 19) 600000 7302249 RL_c mn code 4 L xs K) (hK : mj_C (dd + 19) 600000 7302249 RL_c mn code 4 K) (hk : ∀ (w3 : Int32) (s : mb_T) (u v : Nat), u + 9 * f ≤ 600000 → v + 878 * f ≤ 7302249 → k w3 s = some () → K u v 18 [.float 0, .ref 0, .ref 200, .int w3] [] (mb_s s)) (hu : u + 9 * (f + 1) ≤ 600000) (hv : v + 878 * (f + 1) ≤ 7302249) (h : f_L_c38 n L xs k w3 s = some ()) : K u v 1218 [.float 0, .ref 0, .ref 200, .int w3] [] (mb_s s) := by
  unfold f_L_c38 at h
  have hb : u ≤ 600000 ∧ v ≤ 7302249 := ⟨by omega, by omega⟩
  have hb2 : u + 9 ≤ 600000 ∧ v + 878 ≤ 7302249 := ⟨by omega, by omega⟩
  refine ro_aload_n hK dL_law_1218 rfl ?_
  refine ro_aload_nF hK dL_law_1219 rfl ?_
  refine ro_iload_n hK dL_law_1220 rfl ?_
  refine ro_iconst (x := 1) hK (by decide) dL_law_1221 ?_
  refine ro_iadd hK dL_law_1222 ?_
  obtain ⟨x_608, e_609, i_610, h⟩ := mb_sr_e h
  refine ro_sld hX i_610 e_609 dL_law_1223 ?_
  refine ro_aload_nF hK dL_law_1224 rfl ?_
  refine ro_iload_n hK dL_law_1225 rfl ?_
  refine ro_iconst (x := 2) hK (by decide) dL_law_1226 ?_
  refine ro_iadd hK dL_law_1227 ?_
  obtain ⟨x_611, e_612, i_613, h⟩ := mb_sr_e h
  refine ro_sld hX i_613 e_612 dL_law_1228 ?_
  obtain ⟨r_616, s_614, q_615, h⟩ := mb_cl_e h
  refine rb_callV hK mC_grows vL_170 (t_C_grows (dd := dd + 11) q_615) rfl mb_oC rfl (Nat.le_of_ble_eq_true rfl) dL_law_1229 rfl hb ?_
  show K u v 1232 [.float 0, .ref 0, .ref 200, .int w3] [.int r_616] (mb_s s_614)
  refine ro_aload_n hK dL_law_1232 rfl ?_
  refine ro_aload_nF hK dL_law_1233 rfl ?_
  refine ro_iload_n hK dL_law_1234 rfl ?_
  refine ro_iconst (x := 1) hK (by decide) dL_law_1235 ?_
  refine ro_iadd hK dL_law_1236 ?_
  obtain ⟨x_617, e_618, i_619, h⟩ := mb_sr_e h
  refine ro_sld hX i_619 e_618 dL_law_1237 ?_
  refine ro_aload_nF hK dL_law_1238 rfl ?_
  refine ro_iload_n hK dL_law_1239 rfl ?_
  refine ro_iconst (x := 2) hK (by decide) dL_law_1240 ?_
  refine ro_iadd hK dL_law_1241 ?_
  obtain ⟨x_620, e_621, i_622, h⟩ := mb_sr_e h
  refine ro_sld hX i_622 e_621 dL_law_1242 ?_
  obtain ⟨r_625, s_623, q_624, h⟩ := mb_cl_e h
  refine rb_callV hK mM_grows vL_173 (t_M_grows (dd := dd + 12) q_624) rfl mb_oM rfl (Nat.le_of_ble_eq_true rfl) dL_law_1243 rfl hb ?_
  show K u v 1246 [.float 0, .ref 0, .ref 200, .int w3] [.int r_625, .int r_616] (mb_s s_623)
  refine ro_icmp_eq (tgt := 1474) hK dL_law_1246 (by decide) (fun c_626 => ?_) (fun c_626 => ?_)
  · replace h := mb_ift c_626 h
    refine ro_iincv (c := 6) hK (by decide) dL_law_1474 rfl (by decide) ?_
    show K u v 1477 [.float 0, .ref 0, .ref 200, .int (w3 + 6)] [] (mb_s s_623)
    refine ro_goto (tgt := 18) hK dL_law_1477 (by decide) ?_
    exact hk _ _ _ _ (by omega) (by omega) h
  · replace h := mb_iff c_626 h
    refine ro_iconst (x := 0) hK (by decide) dL_law_1249 ?_
    cases h
def f_L_c39 (n L : Nat) (xs : Nat → Int32) (k : Int32 → mb_T → Option Unit) (w3 : Int32) (s : mb_T) : Option Unit := mb_sr L xs (w3 + 1) fun x_627 => mb_sr L xs (w3 + 2) fun x_630 => mb_cl (f_C_fears n x_627 x_630 s) fun r_635 s_633 => mb_sr L xs (w3 + 1) fun x_636 => mb_sr L xs (w3 + 2) fun x_639 => mb_cl (f_M_fears n x_636 x_639 s_633) fun r_644 s_642 => if r_635 = r_644 then k (w3 + 6) s_642 else none
set_option maxHeartbeats 4000000 in
set_option maxRecDepth 100000 in
theorem tc_L_39 {dd n L f : Nat} {mn : String} {xs : Nat → Int32} {K : mj_KT} {k : Int32 → mb_T → Option Unit} {w3 : Int32} {s : mb_T} {u v : Nat} (hX : mj_X (dd + 19) 600000 7302249 RL_c mn code 4 L xs K) (hK : mj_C (dd + 19) 600000 7302249 RL_c mn code 4 K) (hk : ∀ (w3 : Int32) (s : mb_T) (u v : Nat), u + 9 * f ≤ 600000 → v + 878 * f ≤ 7302249 → k w3 s = some () → K u v 18 [.float 0, .ref 0, .ref 200, .int w3] [] (mb_s s)) (hu : u + 9 * (f + 1) ≤ 600000) (hv : v + 878 * (f + 1) ≤ 7302249) (h : f_L_c39 n L xs k w3 s = some ()) : K u v 1251 [.float 0, .ref 0, .ref 200, .int w3] [] (mb_s s) := by
  unfold f_L_c39 at h
  have hb : u ≤ 600000 ∧ v ≤ 7302249 := ⟨by omega, by omega⟩
  have hb2 : u + 9 ≤ 600000 ∧ v + 878 ≤ 7302249 := ⟨by omega, by omega⟩
  refine ro_aload_n hK dL_law_1251 rfl ?_
  refine ro_aload_nF hK dL_law_1252 rfl ?_
  refine ro_iload_n hK dL_law_1253 rfl ?_
  refine ro_iconst (x := 1) hK (by decide) dL_law_1254 ?_
  refine ro_iadd hK dL_law_1255 ?_
  obtain ⟨x_627, e_628, i_629, h⟩ := mb_sr_e h
  refine ro_sld hX i_629 e_628 dL_law_1256 ?_
  refine ro_aload_nF hK dL_law_1257 rfl ?_
  refine ro_iload_n hK dL_law_1258 rfl ?_
  refine ro_iconst (x := 2) hK (by decide) dL_law_1259 ?_
  refine ro_iadd hK dL_law_1260 ?_
  obtain ⟨x_630, e_631, i_632, h⟩ := mb_sr_e h
  refine ro_sld hX i_632 e_631 dL_law_1261 ?_
  obtain ⟨r_635, s_633, q_634, h⟩ := mb_cl_e h
  refine rb_callV hK mC_fears vL_174 (t_C_fears (dd := dd + 11) q_634) rfl mb_oC rfl (Nat.le_of_ble_eq_true rfl) dL_law_1262 rfl hb ?_
  show K u v 1265 [.float 0, .ref 0, .ref 200, .int w3] [.int r_635] (mb_s s_633)
  refine ro_aload_n hK dL_law_1265 rfl ?_
  refine ro_aload_nF hK dL_law_1266 rfl ?_
  refine ro_iload_n hK dL_law_1267 rfl ?_
  refine ro_iconst (x := 1) hK (by decide) dL_law_1268 ?_
  refine ro_iadd hK dL_law_1269 ?_
  obtain ⟨x_636, e_637, i_638, h⟩ := mb_sr_e h
  refine ro_sld hX i_638 e_637 dL_law_1270 ?_
  refine ro_aload_nF hK dL_law_1271 rfl ?_
  refine ro_iload_n hK dL_law_1272 rfl ?_
  refine ro_iconst (x := 2) hK (by decide) dL_law_1273 ?_
  refine ro_iadd hK dL_law_1274 ?_
  obtain ⟨x_639, e_640, i_641, h⟩ := mb_sr_e h
  refine ro_sld hX i_641 e_640 dL_law_1275 ?_
  obtain ⟨r_644, s_642, q_643, h⟩ := mb_cl_e h
  refine rb_callV hK mM_fears vL_177 (t_M_fears (dd := dd + 12) q_643) rfl mb_oM rfl (Nat.le_of_ble_eq_true rfl) dL_law_1276 rfl hb ?_
  show K u v 1279 [.float 0, .ref 0, .ref 200, .int w3] [.int r_644, .int r_635] (mb_s s_642)
  refine ro_icmp_eq (tgt := 1474) hK dL_law_1279 (by decide) (fun c_645 => ?_) (fun c_645 => ?_)
  · replace h := mb_ift c_645 h
    refine ro_iincv (c := 6) hK (by decide) dL_law_1474 rfl (by decide) ?_
    show K u v 1477 [.float 0, .ref 0, .ref 200, .int (w3 + 6)] [] (mb_s s_642)
    refine ro_goto (tgt := 18) hK dL_law_1477 (by decide) ?_
    exact hk _ _ _ _ (by omega) (by omega) h
  · replace h := mb_iff c_645 h
    refine ro_iconst (x := 0) hK (by decide) dL_law_1282 ?_
    cases h
def f_L_c40 (n L : Nat) (xs : Nat → Int32) (k : Int32 → mb_T → Option Unit) (w3 : Int32) (s : mb_T) : Option Unit := mb_sr L xs (w3 + 1) fun x_646 => mb_sr L xs (w3 + 2) fun x_649 => mb_sr L xs (w3 + 3) fun x_652 => mb_cl (f_C_tell n x_646 x_649 x_652 s) fun r_657 s_655 => mb_sr L xs (w3 + 1) fun x_658 => mb_sr L xs (w3 + 2) fun x_661 => mb_sr L xs (w3 + 3) fun x_664 => mb_cl (f_M_tell n x_658 x_661 x_664 s_655) fun r_669 s_667 => if r_657 = r_669 then k (w3 + 6) s_667 else none
set_option maxHeartbeats 4000000 in
set_option maxRecDepth 100000 in
theorem tc_L_40 {dd n L f : Nat} {mn : String} {xs : Nat → Int32} {K : mj_KT} {k : Int32 → mb_T → Option Unit} {w3 : Int32} {s : mb_T} {u v : Nat} (hX : mj_X (dd + 19) 600000 7302249 RL_c mn code 4 L xs K) (hK : mj_C (dd + 19) 600000 7302249 RL_c mn code 4 K) (hk : ∀ (w3 : Int32) (s : mb_T) (u v : Nat), u + 9 * f ≤ 600000 → v + 878 * f ≤ 7302249 → k w3 s = some () → K u v 18 [.float 0, .ref 0, .ref 200, .int w3] [] (mb_s s)) (hu : u + 9 * (f + 1) ≤ 600000) (hv : v + 878 * (f + 1) ≤ 7302249) (h : f_L_c40 n L xs k w3 s = some ()) : K u v 1284 [.float 0, .ref 0, .ref 200, .int w3] [] (mb_s s) := by
  unfold f_L_c40 at h
  have hb : u ≤ 600000 ∧ v ≤ 7302249 := ⟨by omega, by omega⟩
  have hb2 : u + 9 ≤ 600000 ∧ v + 878 ≤ 7302249 := ⟨by omega, by omega⟩
  refine ro_aload_n hK dL_law_1284 rfl ?_
  refine ro_aload_nF hK dL_law_1285 rfl ?_
  refine ro_iload_n hK dL_law_1286 rfl ?_
  refine ro_iconst (x := 1) hK (by decide) dL_law_1287 ?_
  refine ro_iadd hK dL_law_1288 ?_
  obtain ⟨x_646, e_647, i_648, h⟩ := mb_sr_e h
  refine ro_sld hX i_648 e_647 dL_law_1289 ?_
  refine ro_aload_nF hK dL_law_1290 rfl ?_
  refine ro_iload_n hK dL_law_1291 rfl ?_
  refine ro_iconst (x := 2) hK (by decide) dL_law_1292 ?_
  refine ro_iadd hK dL_law_1293 ?_
  obtain ⟨x_649, e_650, i_651, h⟩ := mb_sr_e h
  refine ro_sld hX i_651 e_650 dL_law_1294 ?_
  refine ro_aload_nF hK dL_law_1295 rfl ?_
  refine ro_iload_n hK dL_law_1296 rfl ?_
  refine ro_iconst (x := 3) hK (by decide) dL_law_1297 ?_
  refine ro_iadd hK dL_law_1298 ?_
  obtain ⟨x_652, e_653, i_654, h⟩ := mb_sr_e h
  refine ro_sld hX i_654 e_653 dL_law_1299 ?_
  obtain ⟨r_657, s_655, q_656, h⟩ := mb_cl_e h
  refine rb_callV hK mC_tell vL_178 (t_C_tell (dd := dd + 12) q_656) rfl mb_oC rfl (Nat.le_of_ble_eq_true rfl) dL_law_1300 rfl hb ?_
  show K u v 1303 [.float 0, .ref 0, .ref 200, .int w3] [.int r_657] (mb_s s_655)
  refine ro_aload_n hK dL_law_1303 rfl ?_
  refine ro_aload_nF hK dL_law_1304 rfl ?_
  refine ro_iload_n hK dL_law_1305 rfl ?_
  refine ro_iconst (x := 1) hK (by decide) dL_law_1306 ?_
  refine ro_iadd hK dL_law_1307 ?_
  obtain ⟨x_658, e_659, i_660, h⟩ := mb_sr_e h
  refine ro_sld hX i_660 e_659 dL_law_1308 ?_
  refine ro_aload_nF hK dL_law_1309 rfl ?_
  refine ro_iload_n hK dL_law_1310 rfl ?_
  refine ro_iconst (x := 2) hK (by decide) dL_law_1311 ?_
  refine ro_iadd hK dL_law_1312 ?_
  obtain ⟨x_661, e_662, i_663, h⟩ := mb_sr_e h
  refine ro_sld hX i_663 e_662 dL_law_1313 ?_
  refine ro_aload_nF hK dL_law_1314 rfl ?_
  refine ro_iload_n hK dL_law_1315 rfl ?_
  refine ro_iconst (x := 3) hK (by decide) dL_law_1316 ?_
  refine ro_iadd hK dL_law_1317 ?_
  obtain ⟨x_664, e_665, i_666, h⟩ := mb_sr_e h
  refine ro_sld hX i_666 e_665 dL_law_1318 ?_
  obtain ⟨r_669, s_667, q_668, h⟩ := mb_cl_e h
  refine rb_callV hK mM_tell vL_181 (t_M_tell (dd := dd + 13) q_668) rfl mb_oM rfl (Nat.le_of_ble_eq_true rfl) dL_law_1319 rfl hb ?_
  show K u v 1322 [.float 0, .ref 0, .ref 200, .int w3] [.int r_669, .int r_657] (mb_s s_667)
  refine ro_icmp_eq (tgt := 1474) hK dL_law_1322 (by decide) (fun c_670 => ?_) (fun c_670 => ?_)
  · replace h := mb_ift c_670 h
    refine ro_iincv (c := 6) hK (by decide) dL_law_1474 rfl (by decide) ?_
    show K u v 1477 [.float 0, .ref 0, .ref 200, .int (w3 + 6)] [] (mb_s s_667)
    refine ro_goto (tgt := 18) hK dL_law_1477 (by decide) ?_
    exact hk _ _ _ _ (by omega) (by omega) h
  · replace h := mb_iff c_670 h
    refine ro_iconst (x := 0) hK (by decide) dL_law_1325 ?_
    cases h
def f_L_c41 (n L : Nat) (xs : Nat → Int32) (k : Int32 → mb_T → Option Unit) (w3 : Int32) (s : mb_T) : Option Unit := mb_sr L xs (w3 + 1) fun x_671 => mb_sr L xs (w3 + 2) fun x_674 => mb_cl (f_C_visit n x_671 x_674 s) fun r_679 s_677 => mb_sr L xs (w3 + 1) fun x_680 => mb_sr L xs (w3 + 2) fun x_683 => mb_cl (f_M_visit n x_680 x_683 s_677) fun r_688 s_686 => if r_679 = r_688 then k (w3 + 6) s_686 else none
set_option maxHeartbeats 4000000 in
set_option maxRecDepth 100000 in
theorem tc_L_41 {dd n L f : Nat} {mn : String} {xs : Nat → Int32} {K : mj_KT} {k : Int32 → mb_T → Option Unit} {w3 : Int32} {s : mb_T} {u v : Nat} (hX : mj_X (dd + 19) 600000 7302249 RL_c mn code 4 L xs K) (hK : mj_C (dd + 19) 600000 7302249 RL_c mn code 4 K) (hk : ∀ (w3 : Int32) (s : mb_T) (u v : Nat), u + 9 * f ≤ 600000 → v + 878 * f ≤ 7302249 → k w3 s = some () → K u v 18 [.float 0, .ref 0, .ref 200, .int w3] [] (mb_s s)) (hu : u + 9 * (f + 1) ≤ 600000) (hv : v + 878 * (f + 1) ≤ 7302249) (h : f_L_c41 n L xs k w3 s = some ()) : K u v 1327 [.float 0, .ref 0, .ref 200, .int w3] [] (mb_s s) := by
  unfold f_L_c41 at h
  have hb : u ≤ 600000 ∧ v ≤ 7302249 := ⟨by omega, by omega⟩
  have hb2 : u + 9 ≤ 600000 ∧ v + 878 ≤ 7302249 := ⟨by omega, by omega⟩
  refine ro_aload_n hK dL_law_1327 rfl ?_
  refine ro_aload_nF hK dL_law_1328 rfl ?_
  refine ro_iload_n hK dL_law_1329 rfl ?_
  refine ro_iconst (x := 1) hK (by decide) dL_law_1330 ?_
  refine ro_iadd hK dL_law_1331 ?_
  obtain ⟨x_671, e_672, i_673, h⟩ := mb_sr_e h
  refine ro_sld hX i_673 e_672 dL_law_1332 ?_
  refine ro_aload_nF hK dL_law_1333 rfl ?_
  refine ro_iload_n hK dL_law_1334 rfl ?_
  refine ro_iconst (x := 2) hK (by decide) dL_law_1335 ?_
  refine ro_iadd hK dL_law_1336 ?_
  obtain ⟨x_674, e_675, i_676, h⟩ := mb_sr_e h
  refine ro_sld hX i_676 e_675 dL_law_1337 ?_
  obtain ⟨r_679, s_677, q_678, h⟩ := mb_cl_e h
  refine rb_callV hK mC_visit vL_182 (t_C_visit (dd := dd + 14) q_678) rfl mb_oC rfl (Nat.le_of_ble_eq_true rfl) dL_law_1338 rfl hb ?_
  show K u v 1341 [.float 0, .ref 0, .ref 200, .int w3] [.int r_679] (mb_s s_677)
  refine ro_aload_n hK dL_law_1341 rfl ?_
  refine ro_aload_nF hK dL_law_1342 rfl ?_
  refine ro_iload_n hK dL_law_1343 rfl ?_
  refine ro_iconst (x := 1) hK (by decide) dL_law_1344 ?_
  refine ro_iadd hK dL_law_1345 ?_
  obtain ⟨x_680, e_681, i_682, h⟩ := mb_sr_e h
  refine ro_sld hX i_682 e_681 dL_law_1346 ?_
  refine ro_aload_nF hK dL_law_1347 rfl ?_
  refine ro_iload_n hK dL_law_1348 rfl ?_
  refine ro_iconst (x := 2) hK (by decide) dL_law_1349 ?_
  refine ro_iadd hK dL_law_1350 ?_
  obtain ⟨x_683, e_684, i_685, h⟩ := mb_sr_e h
  refine ro_sld hX i_685 e_684 dL_law_1351 ?_
  obtain ⟨r_688, s_686, q_687, h⟩ := mb_cl_e h
  refine rb_callV hK mM_visit vL_185 (t_M_visit (dd := dd + 15) q_687) rfl mb_oM rfl (Nat.le_of_ble_eq_true rfl) dL_law_1352 rfl hb ?_
  show K u v 1355 [.float 0, .ref 0, .ref 200, .int w3] [.int r_688, .int r_679] (mb_s s_686)
  refine ro_icmp_eq (tgt := 1474) hK dL_law_1355 (by decide) (fun c_689 => ?_) (fun c_689 => ?_)
  · replace h := mb_ift c_689 h
    refine ro_iincv (c := 6) hK (by decide) dL_law_1474 rfl (by decide) ?_
    show K u v 1477 [.float 0, .ref 0, .ref 200, .int (w3 + 6)] [] (mb_s s_686)
    refine ro_goto (tgt := 18) hK dL_law_1477 (by decide) ?_
    exact hk _ _ _ _ (by omega) (by omega) h
  · replace h := mb_iff c_689 h
    refine ro_iconst (x := 0) hK (by decide) dL_law_1358 ?_
    cases h
def f_L_c42 (n L : Nat) (xs : Nat → Int32) (k : Int32 → mb_T → Option Unit) (w3 : Int32) (s : mb_T) : Option Unit := mb_cl (f_C_asked n s) fun r_692 s_690 => mb_cl (f_M_asked n s_690) fun r_695 s_693 => if r_692 = r_695 then k (w3 + 6) s_693 else none
set_option maxHeartbeats 4000000 in
set_option maxRecDepth 100000 in
theorem tc_L_42 {dd n L f : Nat} {mn : String} {xs : Nat → Int32} {K : mj_KT} {k : Int32 → mb_T → Option Unit} {w3 : Int32} {s : mb_T} {u v : Nat} (hX : mj_X (dd + 19) 600000 7302249 RL_c mn code 4 L xs K) (hK : mj_C (dd + 19) 600000 7302249 RL_c mn code 4 K) (hk : ∀ (w3 : Int32) (s : mb_T) (u v : Nat), u + 9 * f ≤ 600000 → v + 878 * f ≤ 7302249 → k w3 s = some () → K u v 18 [.float 0, .ref 0, .ref 200, .int w3] [] (mb_s s)) (hu : u + 9 * (f + 1) ≤ 600000) (hv : v + 878 * (f + 1) ≤ 7302249) (h : f_L_c42 n L xs k w3 s = some ()) : K u v 1360 [.float 0, .ref 0, .ref 200, .int w3] [] (mb_s s) := by
  unfold f_L_c42 at h
  have hb : u ≤ 600000 ∧ v ≤ 7302249 := ⟨by omega, by omega⟩
  have hb2 : u + 9 ≤ 600000 ∧ v + 878 ≤ 7302249 := ⟨by omega, by omega⟩
  refine ro_aload_n hK dL_law_1360 rfl ?_
  obtain ⟨r_692, s_690, q_691, h⟩ := mb_cl_e h
  refine rb_callV hK mC_asked vL_186 (t_C_asked (dd := dd + 17) q_691) rfl mb_oC rfl (Nat.le_of_ble_eq_true rfl) dL_law_1361 rfl hb ?_
  show K u v 1364 [.float 0, .ref 0, .ref 200, .int w3] [.int r_692] (mb_s s_690)
  refine ro_aload_n hK dL_law_1364 rfl ?_
  obtain ⟨r_695, s_693, q_694, h⟩ := mb_cl_e h
  refine rb_callV hK mM_asked vL_189 (t_M_asked (dd := dd + 17) q_694) rfl mb_oM rfl (Nat.le_of_ble_eq_true rfl) dL_law_1365 rfl hb ?_
  show K u v 1368 [.float 0, .ref 0, .ref 200, .int w3] [.int r_695, .int r_692] (mb_s s_693)
  refine ro_icmp_eq (tgt := 1474) hK dL_law_1368 (by decide) (fun c_696 => ?_) (fun c_696 => ?_)
  · replace h := mb_ift c_696 h
    refine ro_iincv (c := 6) hK (by decide) dL_law_1474 rfl (by decide) ?_
    show K u v 1477 [.float 0, .ref 0, .ref 200, .int (w3 + 6)] [] (mb_s s_693)
    refine ro_goto (tgt := 18) hK dL_law_1477 (by decide) ?_
    exact hk _ _ _ _ (by omega) (by omega) h
  · replace h := mb_iff c_696 h
    refine ro_iconst (x := 0) hK (by decide) dL_law_1371 ?_
    cases h
def f_L_c43 (n L : Nat) (xs : Nat → Int32) (k : Int32 → mb_T → Option Unit) (w3 : Int32) (s : mb_T) : Option Unit := mb_cl (f_C_upper n s) fun r_699 s_697 => mb_cl (f_M_upper n s_697) fun r_702 s_700 => if (lg_cmp r_699 r_702) = 0 then k (w3 + 6) s_700 else none
set_option maxHeartbeats 4000000 in
set_option maxRecDepth 100000 in
theorem tc_L_43 {dd n L f : Nat} {mn : String} {xs : Nat → Int32} {K : mj_KT} {k : Int32 → mb_T → Option Unit} {w3 : Int32} {s : mb_T} {u v : Nat} (hX : mj_X (dd + 19) 600000 7302249 RL_c mn code 4 L xs K) (hK : mj_C (dd + 19) 600000 7302249 RL_c mn code 4 K) (hk : ∀ (w3 : Int32) (s : mb_T) (u v : Nat), u + 9 * f ≤ 600000 → v + 878 * f ≤ 7302249 → k w3 s = some () → K u v 18 [.float 0, .ref 0, .ref 200, .int w3] [] (mb_s s)) (hu : u + 9 * (f + 1) ≤ 600000) (hv : v + 878 * (f + 1) ≤ 7302249) (h : f_L_c43 n L xs k w3 s = some ()) : K u v 1373 [.float 0, .ref 0, .ref 200, .int w3] [] (mb_s s) := by
  unfold f_L_c43 at h
  have hb : u ≤ 600000 ∧ v ≤ 7302249 := ⟨by omega, by omega⟩
  have hb2 : u + 9 ≤ 600000 ∧ v + 878 ≤ 7302249 := ⟨by omega, by omega⟩
  refine ro_aload_n hK dL_law_1373 rfl ?_
  obtain ⟨r_699, s_697, q_698, h⟩ := mb_cl_e h
  refine rb_callV hK mC_upper vL_190 (t_C_upper (dd := dd + 16) q_698) rfl mb_oC rfl (Nat.le_of_ble_eq_true rfl) dL_law_1374 rfl hb ?_
  show K u v 1377 [.float 0, .ref 0, .ref 200, .int w3] [.long r_699] (mb_s s_697)
  refine ro_aload_n hK dL_law_1377 rfl ?_
  obtain ⟨r_702, s_700, q_701, h⟩ := mb_cl_e h
  refine rb_callV hK mM_upper vL_194 (t_M_upper (dd := dd + 16) q_701) rfl mb_oM rfl (Nat.le_of_ble_eq_true rfl) dL_law_1378 rfl hb ?_
  show K u v 1381 [.float 0, .ref 0, .ref 200, .int w3] [.long r_702, .long r_699] (mb_s s_700)
  refine ro_lcmp hK dL_law_1381 ?_
  refine ro_if_eq (tgt := 1474) hK dL_law_1382 (by decide) (fun c_703 => ?_) (fun c_703 => ?_)
  · replace h := mb_ift c_703 h
    refine ro_iincv (c := 6) hK (by decide) dL_law_1474 rfl (by decide) ?_
    show K u v 1477 [.float 0, .ref 0, .ref 200, .int (w3 + 6)] [] (mb_s s_700)
    refine ro_goto (tgt := 18) hK dL_law_1477 (by decide) ?_
    exact hk _ _ _ _ (by omega) (by omega) h
  · replace h := mb_iff c_703 h
    refine ro_iconst (x := 0) hK (by decide) dL_law_1385 ?_
    cases h
def f_L_c44 (n L : Nat) (xs : Nat → Int32) (k : Int32 → mb_T → Option Unit) (w3 : Int32) (s : mb_T) : Option Unit := mb_cl (f_C_lower n s) fun r_706 s_704 => mb_cl (f_M_lower n s_704) fun r_709 s_707 => if (lg_cmp r_706 r_709) = 0 then k (w3 + 6) s_707 else none
set_option maxHeartbeats 4000000 in
set_option maxRecDepth 100000 in
theorem tc_L_44 {dd n L f : Nat} {mn : String} {xs : Nat → Int32} {K : mj_KT} {k : Int32 → mb_T → Option Unit} {w3 : Int32} {s : mb_T} {u v : Nat} (hX : mj_X (dd + 19) 600000 7302249 RL_c mn code 4 L xs K) (hK : mj_C (dd + 19) 600000 7302249 RL_c mn code 4 K) (hk : ∀ (w3 : Int32) (s : mb_T) (u v : Nat), u + 9 * f ≤ 600000 → v + 878 * f ≤ 7302249 → k w3 s = some () → K u v 18 [.float 0, .ref 0, .ref 200, .int w3] [] (mb_s s)) (hu : u + 9 * (f + 1) ≤ 600000) (hv : v + 878 * (f + 1) ≤ 7302249) (h : f_L_c44 n L xs k w3 s = some ()) : K u v 1387 [.float 0, .ref 0, .ref 200, .int w3] [] (mb_s s) := by
  unfold f_L_c44 at h
  have hb : u ≤ 600000 ∧ v ≤ 7302249 := ⟨by omega, by omega⟩
  have hb2 : u + 9 ≤ 600000 ∧ v + 878 ≤ 7302249 := ⟨by omega, by omega⟩
  refine ro_aload_n hK dL_law_1387 rfl ?_
  obtain ⟨r_706, s_704, q_705, h⟩ := mb_cl_e h
  refine rb_callV hK mC_lower vL_195 (t_C_lower (dd := dd + 16) q_705) rfl mb_oC rfl (Nat.le_of_ble_eq_true rfl) dL_law_1388 rfl hb ?_
  show K u v 1391 [.float 0, .ref 0, .ref 200, .int w3] [.long r_706] (mb_s s_704)
  refine ro_aload_n hK dL_law_1391 rfl ?_
  obtain ⟨r_709, s_707, q_708, h⟩ := mb_cl_e h
  refine rb_callV hK mM_lower vL_198 (t_M_lower (dd := dd + 16) q_708) rfl mb_oM rfl (Nat.le_of_ble_eq_true rfl) dL_law_1392 rfl hb ?_
  show K u v 1395 [.float 0, .ref 0, .ref 200, .int w3] [.long r_709, .long r_706] (mb_s s_707)
  refine ro_lcmp hK dL_law_1395 ?_
  refine ro_if_eq (tgt := 1474) hK dL_law_1396 (by decide) (fun c_710 => ?_) (fun c_710 => ?_)
  · replace h := mb_ift c_710 h
    refine ro_iincv (c := 6) hK (by decide) dL_law_1474 rfl (by decide) ?_
    show K u v 1477 [.float 0, .ref 0, .ref 200, .int (w3 + 6)] [] (mb_s s_707)
    refine ro_goto (tgt := 18) hK dL_law_1477 (by decide) ?_
    exact hk _ _ _ _ (by omega) (by omega) h
  · replace h := mb_iff c_710 h
    refine ro_iconst (x := 0) hK (by decide) dL_law_1399 ?_
    cases h
def f_L_c45 (n L : Nat) (xs : Nat → Int32) (k : Int32 → mb_T → Option Unit) (w3 : Int32) (s : mb_T) : Option Unit := mb_sr L xs (w3 + 1) fun x_711 => mb_cl (f_C_count n x_711 s) fun r_716 s_714 => mb_sr L xs (w3 + 1) fun x_717 => mb_cl (f_M_count n x_717 s_714) fun r_722 s_720 => if r_716 = r_722 then k (w3 + 6) s_720 else none
set_option maxHeartbeats 4000000 in
set_option maxRecDepth 100000 in
theorem tc_L_45 {dd n L f : Nat} {mn : String} {xs : Nat → Int32} {K : mj_KT} {k : Int32 → mb_T → Option Unit} {w3 : Int32} {s : mb_T} {u v : Nat} (hX : mj_X (dd + 19) 600000 7302249 RL_c mn code 4 L xs K) (hK : mj_C (dd + 19) 600000 7302249 RL_c mn code 4 K) (hk : ∀ (w3 : Int32) (s : mb_T) (u v : Nat), u + 9 * f ≤ 600000 → v + 878 * f ≤ 7302249 → k w3 s = some () → K u v 18 [.float 0, .ref 0, .ref 200, .int w3] [] (mb_s s)) (hu : u + 9 * (f + 1) ≤ 600000) (hv : v + 878 * (f + 1) ≤ 7302249) (h : f_L_c45 n L xs k w3 s = some ()) : K u v 1401 [.float 0, .ref 0, .ref 200, .int w3] [] (mb_s s) := by
  unfold f_L_c45 at h
  have hb : u ≤ 600000 ∧ v ≤ 7302249 := ⟨by omega, by omega⟩
  have hb2 : u + 9 ≤ 600000 ∧ v + 878 ≤ 7302249 := ⟨by omega, by omega⟩
  refine ro_aload_n hK dL_law_1401 rfl ?_
  refine ro_aload_nF hK dL_law_1402 rfl ?_
  refine ro_iload_n hK dL_law_1403 rfl ?_
  refine ro_iconst (x := 1) hK (by decide) dL_law_1404 ?_
  refine ro_iadd hK dL_law_1405 ?_
  obtain ⟨x_711, e_712, i_713, h⟩ := mb_sr_e h
  refine ro_sld hX i_713 e_712 dL_law_1406 ?_
  obtain ⟨r_716, s_714, q_715, h⟩ := mb_cl_e h
  refine rb_callV hK mC_count vL_199 (t_C_count (dd := dd + 13) q_715) rfl mb_oC rfl (Nat.le_of_ble_eq_true rfl) dL_law_1407 rfl hb ?_
  show K u v 1410 [.float 0, .ref 0, .ref 200, .int w3] [.int r_716] (mb_s s_714)
  refine ro_aload_n hK dL_law_1410 rfl ?_
  refine ro_aload_nF hK dL_law_1411 rfl ?_
  refine ro_iload_n hK dL_law_1412 rfl ?_
  refine ro_iconst (x := 1) hK (by decide) dL_law_1413 ?_
  refine ro_iadd hK dL_law_1414 ?_
  obtain ⟨x_717, e_718, i_719, h⟩ := mb_sr_e h
  refine ro_sld hX i_719 e_718 dL_law_1415 ?_
  obtain ⟨r_722, s_720, q_721, h⟩ := mb_cl_e h
  refine rb_callV hK mM_count vL_202 (t_M_count (dd := dd + 15) q_721) rfl mb_oM rfl (Nat.le_of_ble_eq_true rfl) dL_law_1416 rfl hb ?_
  show K u v 1419 [.float 0, .ref 0, .ref 200, .int w3] [.int r_722, .int r_716] (mb_s s_720)
  refine ro_icmp_eq (tgt := 1474) hK dL_law_1419 (by decide) (fun c_723 => ?_) (fun c_723 => ?_)
  · replace h := mb_ift c_723 h
    refine ro_iincv (c := 6) hK (by decide) dL_law_1474 rfl (by decide) ?_
    show K u v 1477 [.float 0, .ref 0, .ref 200, .int (w3 + 6)] [] (mb_s s_720)
    refine ro_goto (tgt := 18) hK dL_law_1477 (by decide) ?_
    exact hk _ _ _ _ (by omega) (by omega) h
  · replace h := mb_iff c_723 h
    refine ro_iconst (x := 0) hK (by decide) dL_law_1422 ?_
    cases h
def f_L_c46 (n L : Nat) (xs : Nat → Int32) (k : Int32 → mb_T → Option Unit) (w3 : Int32) (s : mb_T) : Option Unit := mb_cl (f_C_finding n s) fun r_726 s_724 => mb_cl (f_M_finding n s_724) fun r_729 s_727 => if r_726 = r_729 then k (w3 + 6) s_727 else none
set_option maxHeartbeats 4000000 in
set_option maxRecDepth 100000 in
theorem tc_L_46 {dd n L f : Nat} {mn : String} {xs : Nat → Int32} {K : mj_KT} {k : Int32 → mb_T → Option Unit} {w3 : Int32} {s : mb_T} {u v : Nat} (hX : mj_X (dd + 19) 600000 7302249 RL_c mn code 4 L xs K) (hK : mj_C (dd + 19) 600000 7302249 RL_c mn code 4 K) (hk : ∀ (w3 : Int32) (s : mb_T) (u v : Nat), u + 9 * f ≤ 600000 → v + 878 * f ≤ 7302249 → k w3 s = some () → K u v 18 [.float 0, .ref 0, .ref 200, .int w3] [] (mb_s s)) (hu : u + 9 * (f + 1) ≤ 600000) (hv : v + 878 * (f + 1) ≤ 7302249) (h : f_L_c46 n L xs k w3 s = some ()) : K u v 1424 [.float 0, .ref 0, .ref 200, .int w3] [] (mb_s s) := by
  unfold f_L_c46 at h
  have hb : u ≤ 600000 ∧ v ≤ 7302249 := ⟨by omega, by omega⟩
  have hb2 : u + 9 ≤ 600000 ∧ v + 878 ≤ 7302249 := ⟨by omega, by omega⟩
  refine ro_aload_n hK dL_law_1424 rfl ?_
  obtain ⟨r_726, s_724, q_725, h⟩ := mb_cl_e h
  refine rb_callV hK mC_finding vL_203 (t_C_finding (dd := dd + 17) q_725) rfl mb_oC rfl (Nat.le_of_ble_eq_true rfl) dL_law_1425 rfl hb ?_
  show K u v 1428 [.float 0, .ref 0, .ref 200, .int w3] [.int r_726] (mb_s s_724)
  refine ro_aload_n hK dL_law_1428 rfl ?_
  obtain ⟨r_729, s_727, q_728, h⟩ := mb_cl_e h
  refine rb_callV hK mM_finding vL_206 (t_M_finding (dd := dd + 17) q_728) rfl mb_oM rfl (Nat.le_of_ble_eq_true rfl) dL_law_1429 rfl hb ?_
  show K u v 1432 [.float 0, .ref 0, .ref 200, .int w3] [.int r_729, .int r_726] (mb_s s_727)
  refine ro_icmp_eq (tgt := 1474) hK dL_law_1432 (by decide) (fun c_730 => ?_) (fun c_730 => ?_)
  · replace h := mb_ift c_730 h
    refine ro_iincv (c := 6) hK (by decide) dL_law_1474 rfl (by decide) ?_
    show K u v 1477 [.float 0, .ref 0, .ref 200, .int (w3 + 6)] [] (mb_s s_727)
    refine ro_goto (tgt := 18) hK dL_law_1477 (by decide) ?_
    exact hk _ _ _ _ (by omega) (by omega) h
  · replace h := mb_iff c_730 h
    refine ro_iconst (x := 0) hK (by decide) dL_law_1435 ?_
    cases h
def f_L_c47 (n L : Nat) (xs : Nat → Int32) (k : Int32 → mb_T → Option Unit) (w3 : Int32) (s : mb_T) : Option Unit := mb_sr L xs (w3 + 1) fun x_731 => mb_cl (f_C_findings n x_731 s) fun r_736 s_734 => mb_sr L xs (w3 + 1) fun x_737 => mb_cl (f_M_findings n x_737 s_734) fun r_742 s_740 => if r_736 = r_742 then k (w3 + 6) s_740 else none
set_option maxHeartbeats 4000000 in
set_option maxRecDepth 100000 in
theorem tc_L_47 {dd n L f : Nat} {mn : String} {xs : Nat → Int32} {K : mj_KT} {k : Int32 → mb_T → Option Unit} {w3 : Int32} {s : mb_T} {u v : Nat} (hX : mj_X (dd + 19) 600000 7302249 RL_c mn code 4 L xs K) (hK : mj_C (dd + 19) 600000 7302249 RL_c mn code 4 K) (hk : ∀ (w3 : Int32) (s : mb_T) (u v : Nat), u + 9 * f ≤ 600000 → v + 878 * f ≤ 7302249 → k w3 s = some () → K u v 18 [.float 0, .ref 0, .ref 200, .int w3] [] (mb_s s)) (hu : u + 9 * (f + 1) ≤ 600000) (hv : v + 878 * (f + 1) ≤ 7302249) (h : f_L_c47 n L xs k w3 s = some ()) : K u v 1437 [.float 0, .ref 0, .ref 200, .int w3] [] (mb_s s) := by
  unfold f_L_c47 at h
  have hb : u ≤ 600000 ∧ v ≤ 7302249 := ⟨by omega, by omega⟩
  have hb2 : u + 9 ≤ 600000 ∧ v + 878 ≤ 7302249 := ⟨by omega, by omega⟩
  refine ro_aload_n hK dL_law_1437 rfl ?_
  refine ro_aload_nF hK dL_law_1438 rfl ?_
  refine ro_iload_n hK dL_law_1439 rfl ?_
  refine ro_iconst (x := 1) hK (by decide) dL_law_1440 ?_
  refine ro_iadd hK dL_law_1441 ?_
  obtain ⟨x_731, e_732, i_733, h⟩ := mb_sr_e h
  refine ro_sld hX i_733 e_732 dL_law_1442 ?_
  obtain ⟨r_736, s_734, q_735, h⟩ := mb_cl_e h
  refine rb_callV hK mC_findings vL_207 (t_C_findings (dd := dd + 17) q_735) rfl mb_oC rfl (Nat.le_of_ble_eq_true rfl) dL_law_1443 rfl hb ?_
  show K u v 1446 [.float 0, .ref 0, .ref 200, .int w3] [.int r_736] (mb_s s_734)
  refine ro_aload_n hK dL_law_1446 rfl ?_
  refine ro_aload_nF hK dL_law_1447 rfl ?_
  refine ro_iload_n hK dL_law_1448 rfl ?_
  refine ro_iconst (x := 1) hK (by decide) dL_law_1449 ?_
  refine ro_iadd hK dL_law_1450 ?_
  obtain ⟨x_737, e_738, i_739, h⟩ := mb_sr_e h
  refine ro_sld hX i_739 e_738 dL_law_1451 ?_
  obtain ⟨r_742, s_740, q_741, h⟩ := mb_cl_e h
  refine rb_callV hK mM_findings vL_210 (t_M_findings (dd := dd + 16) q_741) rfl mb_oM rfl (Nat.le_of_ble_eq_true rfl) dL_law_1452 rfl hb ?_
  show K u v 1455 [.float 0, .ref 0, .ref 200, .int w3] [.int r_742, .int r_736] (mb_s s_740)
  refine ro_icmp_eq (tgt := 1474) hK dL_law_1455 (by decide) (fun c_743 => ?_) (fun c_743 => ?_)
  · replace h := mb_ift c_743 h
    refine ro_iincv (c := 6) hK (by decide) dL_law_1474 rfl (by decide) ?_
    show K u v 1477 [.float 0, .ref 0, .ref 200, .int (w3 + 6)] [] (mb_s s_740)
    refine ro_goto (tgt := 18) hK dL_law_1477 (by decide) ?_
    exact hk _ _ _ _ (by omega) (by omega) h
  · replace h := mb_iff c_743 h
    refine ro_iconst (x := 0) hK (by decide) dL_law_1458 ?_
    cases h
def f_L_c48 (n L : Nat) (xs : Nat → Int32) (k : Int32 → mb_T → Option Unit) (w3 : Int32) (s : mb_T) : Option Unit := mb_cl (f_C_digest n s) fun r_746 s_744 => mb_cl (f_M_digest n s_744) fun r_749 s_747 => if (lg_cmp r_746 r_749) = 0 then k (w3 + 6) s_747 else none
set_option maxHeartbeats 4000000 in
set_option maxRecDepth 100000 in
theorem tc_L_48 {dd n L f : Nat} {mn : String} {xs : Nat → Int32} {K : mj_KT} {k : Int32 → mb_T → Option Unit} {w3 : Int32} {s : mb_T} {u v : Nat} (hX : mj_X (dd + 19) 600000 7302249 RL_c mn code 4 L xs K) (hK : mj_C (dd + 19) 600000 7302249 RL_c mn code 4 K) (hk : ∀ (w3 : Int32) (s : mb_T) (u v : Nat), u + 9 * f ≤ 600000 → v + 878 * f ≤ 7302249 → k w3 s = some () → K u v 18 [.float 0, .ref 0, .ref 200, .int w3] [] (mb_s s)) (hu : u + 9 * (f + 1) ≤ 600000) (hv : v + 878 * (f + 1) ≤ 7302249) (h : f_L_c48 n L xs k w3 s = some ()) : K u v 1460 [.float 0, .ref 0, .ref 200, .int w3] [] (mb_s s) := by
  unfold f_L_c48 at h
  have hb : u ≤ 600000 ∧ v ≤ 7302249 := ⟨by omega, by omega⟩
  have hb2 : u + 9 ≤ 600000 ∧ v + 878 ≤ 7302249 := ⟨by omega, by omega⟩
  refine ro_aload_n hK dL_law_1460 rfl ?_
  obtain ⟨r_746, s_744, q_745, h⟩ := mb_cl_e h
  refine rb_callV hK mC_digest vL_211 (t_C_digest (dd := dd + 13) q_745) rfl mb_oC rfl (Nat.le_of_ble_eq_true rfl) dL_law_1461 rfl hb ?_
  show K u v 1464 [.float 0, .ref 0, .ref 200, .int w3] [.long r_746] (mb_s s_744)
  refine ro_aload_n hK dL_law_1464 rfl ?_
  obtain ⟨r_749, s_747, q_748, h⟩ := mb_cl_e h
  refine rb_callV hK mM_digest vL_214 (t_M_digest (dd := dd + 13) q_748) rfl mb_oM rfl (Nat.le_of_ble_eq_true rfl) dL_law_1465 rfl hb ?_
  show K u v 1468 [.float 0, .ref 0, .ref 200, .int w3] [.long r_749, .long r_746] (mb_s s_747)
  refine ro_lcmp hK dL_law_1468 ?_
  refine ro_if_eq (tgt := 1474) hK dL_law_1469 (by decide) (fun c_750 => ?_) (fun c_750 => ?_)
  · replace h := mb_ift c_750 h
    refine ro_iincv (c := 6) hK (by decide) dL_law_1474 rfl (by decide) ?_
    show K u v 1477 [.float 0, .ref 0, .ref 200, .int (w3 + 6)] [] (mb_s s_747)
    refine ro_goto (tgt := 18) hK dL_law_1477 (by decide) ?_
    exact hk _ _ _ _ (by omega) (by omega) h
  · replace h := mb_iff c_750 h
    refine ro_iconst (x := 0) hK (by decide) dL_law_1472 ?_
    cases h
def f_L_b (n L : Nat) (xs : Nat → Int32) (k : Int32 → mb_T → Option Unit) (w3 : Int32) (s : mb_T) : Option Unit := if ((Int32.ofNat L) - 6) < w3 then some () else mb_sr L xs w3 fun x_2 => if (x_2 &&& 63) = 0 then f_L_c0 n L xs k w3 s else if (x_2 &&& 63) = 1 then f_L_c1 n L xs k w3 s else if (x_2 &&& 63) = 2 then f_L_c2 n L xs k w3 s else if (x_2 &&& 63) = 3 then f_L_c3 n L xs k w3 s else if (x_2 &&& 63) = 4 then f_L_c4 n L xs k w3 s else if (x_2 &&& 63) = 5 then f_L_c5 n L xs k w3 s else if (x_2 &&& 63) = 6 then f_L_c6 n L xs k w3 s else if (x_2 &&& 63) = 7 then f_L_c7 n L xs k w3 s else if (x_2 &&& 63) = 8 then f_L_c8 n L xs k w3 s else if (x_2 &&& 63) = 9 then f_L_c9 n L xs k w3 s else if (x_2 &&& 63) = 10 then f_L_c10 n L xs k w3 s else if (x_2 &&& 63) = 11 then f_L_c11 n L xs k w3 s else if (x_2 &&& 63) = 12 then f_L_c12 n L xs k w3 s else if (x_2 &&& 63) = 13 then f_L_c13 n L xs k w3 s else if (x_2 &&& 63) = 14 then f_L_c14 n L xs k w3 s else if (x_2 &&& 63) = 15 then f_L_c15 n L xs k w3 s else if (x_2 &&& 63) = 16 then f_L_c16 n L xs k w3 s else if (x_2 &&& 63) = 17 then f_L_c17 n L xs k w3 s else if (x_2 &&& 63) = 18 then f_L_c18 n L xs k w3 s else if (x_2 &&& 63) = 19 then f_L_c19 n L xs k w3 s else if (x_2 &&& 63) = 20 then f_L_c20 n L xs k w3 s else if (x_2 &&& 63) = 21 then f_L_c21 n L xs k w3 s else if (x_2 &&& 63) = 22 then f_L_c22 n L xs k w3 s else if (x_2 &&& 63) = 23 then f_L_c23 n L xs k w3 s else if (x_2 &&& 63) = 24 then f_L_c24 n L xs k w3 s else if (x_2 &&& 63) = 25 then f_L_c25 n L xs k w3 s else if (x_2 &&& 63) = 26 then f_L_c26 n L xs k w3 s else if (x_2 &&& 63) = 27 then f_L_c27 n L xs k w3 s else if (x_2 &&& 63) = 28 then f_L_c28 n L xs k w3 s else if (x_2 &&& 63) = 29 then f_L_c29 n L xs k w3 s else if (x_2 &&& 63) = 30 then f_L_c30 n L xs k w3 s else if (x_2 &&& 63) = 31 then f_L_c31 n L xs k w3 s else if (x_2 &&& 63) = 32 then f_L_c32 n L xs k w3 s else if (x_2 &&& 63) = 33 then f_L_c33 n L xs k w3 s else if (x_2 &&& 63) = 34 then f_L_c34 n L xs k w3 s else if (x_2 &&& 63) = 35 then f_L_c35 n L xs k w3 s else if (x_2 &&& 63) = 36 then f_L_c36 n L xs k w3 s else if (x_2 &&& 63) = 37 then f_L_c37 n L xs k w3 s else if (x_2 &&& 63) = 38 then f_L_c38 n L xs k w3 s else if (x_2 &&& 63) = 39 then f_L_c39 n L xs k w3 s else if (x_2 &&& 63) = 40 then f_L_c40 n L xs k w3 s else if (x_2 &&& 63) = 41 then f_L_c41 n L xs k w3 s else if (x_2 &&& 63) = 42 then f_L_c42 n L xs k w3 s else if (x_2 &&& 63) = 43 then f_L_c43 n L xs k w3 s else if (x_2 &&& 63) = 44 then f_L_c44 n L xs k w3 s else if (x_2 &&& 63) = 45 then f_L_c45 n L xs k w3 s else if (x_2 &&& 63) = 46 then f_L_c46 n L xs k w3 s else if (x_2 &&& 63) = 47 then f_L_c47 n L xs k w3 s else if (x_2 &&& 63) = 48 then f_L_c48 n L xs k w3 s else k (w3 + 6) s
def f_L_loop (n L : Nat) (xs : Nat → Int32) : Nat → Int32 → mb_T → Option Unit
  | 0 => fun _ _ => none
  | f + 1 => f_L_b n L xs (f_L_loop n L xs f)
set_option maxHeartbeats 8000000 in
set_option maxRecDepth 100000 in
theorem tb_L {dd n L f : Nat} {mn : String} {xs : Nat → Int32} {K : mj_KT} {k : Int32 → mb_T → Option Unit} {w3 : Int32} {s : mb_T} {u v : Nat} (hX : mj_X (dd + 19) 600000 7302249 RL_c mn code 4 L xs K) (hK : mj_C (dd + 19) 600000 7302249 RL_c mn code 4 K) (hret : ∀ (u v pc : Nat) (lv : List Value) (S : mj_S), decode code pc = .ok (.ireturn, 1) → K u v pc lv [.int 1] S) (hk : ∀ (w3 : Int32) (s : mb_T) (u v : Nat), u + 9 * f ≤ 600000 → v + 878 * f ≤ 7302249 → k w3 s = some () → K u v 18 [.float 0, .ref 0, .ref 200, .int w3] [] (mb_s s)) (hu : u + 9 * (f + 1) ≤ 600000) (hv : v + 878 * (f + 1) ≤ 7302249) (h : f_L_b n L xs k w3 s = some ()) : K u v 18 [.float 0, .ref 0, .ref 200, .int w3] [] (mb_s s) := by
  unfold f_L_b at h
  have hb : u ≤ 600000 ∧ v ≤ 7302249 := ⟨by omega, by omega⟩
  refine ro_iload_n hK dL_law_18 rfl ?_
  refine ro_aload_nF hK dL_law_19 rfl ?_
  refine ro_slen hX dL_law_20 ?_
  refine ro_bipush (x := 6) hK (by decide) dL_law_21 ?_
  refine ro_isub hK dL_law_23 ?_
  refine ro_icmp_gt (tgt := 1480) hK dL_law_24 (by decide) (fun c_1 => ?_) (fun c_1 => ?_)
  · replace h := mb_ift c_1 h
    refine ro_iconst (x := 1) hK (by decide) dL_law_1480 ?_
    exact hret _ _ _ _ _ dL_law_1481
  · replace h := mb_iff c_1 h
    refine ro_aload_nF hK dL_law_27 rfl ?_
    refine ro_iload_n hK dL_law_28 rfl ?_
    obtain ⟨x_2, e_3, i_4, h⟩ := mb_sr_e h
    refine ro_sld hX i_4 e_3 dL_law_29 ?_
    refine ro_bipush (x := 63) hK (by decide) dL_law_30 ?_
    refine ro_iand hK dL_law_32 ?_
    by_cases c_5 : (x_2 &&& 63) = 0
    · replace h := mb_ift c_5 h
      refine ro_tabIn (off := 211) (tgt := 244) hK dL_law_33 (by rw [c_5]; decide) (by rw [c_5]; decide) (by rw [c_5]; decide) (by decide) ?_
      exact tc_L_0 hX hK hk hu hv h
    replace h := mb_iff c_5 h
    by_cases c_6 : (x_2 &&& 63) = 1
    · replace h := mb_ift c_6 h
      refine ro_tabIn (off := 244) (tgt := 277) hK dL_law_33 (by rw [c_6]; decide) (by rw [c_6]; decide) (by rw [c_6]; decide) (by decide) ?_
      exact tc_L_1 hX hK hk hu hv h
    replace h := mb_iff c_6 h
    by_cases c_7 : (x_2 &&& 63) = 2
    · replace h := mb_ift c_7 h
      refine ro_tabIn (off := 287) (tgt := 320) hK dL_law_33 (by rw [c_7]; decide) (by rw [c_7]; decide) (by rw [c_7]; decide) (by decide) ?_
      exact tc_L_2 hX hK hk hu hv h
    replace h := mb_iff c_7 h
    by_cases c_8 : (x_2 &&& 63) = 3
    · replace h := mb_ift c_8 h
      refine ro_tabIn (off := 320) (tgt := 353) hK dL_law_33 (by rw [c_8]; decide) (by rw [c_8]; decide) (by rw [c_8]; decide) (by decide) ?_
      exact tc_L_3 hX hK hk hu hv h
    replace h := mb_iff c_8 h
    by_cases c_9 : (x_2 &&& 63) = 4
    · replace h := mb_ift c_9 h
      refine ro_tabIn (off := 343) (tgt := 376) hK dL_law_33 (by rw [c_9]; decide) (by rw [c_9]; decide) (by rw [c_9]; decide) (by decide) ?_
      exact tc_L_4 hX hK hk hu hv h
    replace h := mb_iff c_9 h
    by_cases c_10 : (x_2 &&& 63) = 5
    · replace h := mb_ift c_10 h
      refine ro_tabIn (off := 406) (tgt := 439) hK dL_law_33 (by rw [c_10]; decide) (by rw [c_10]; decide) (by rw [c_10]; decide) (by decide) ?_
      exact tc_L_5 hX hK hk hu hv h
    replace h := mb_iff c_10 h
    by_cases c_11 : (x_2 &&& 63) = 6
    · replace h := mb_ift c_11 h
      refine ro_tabIn (off := 429) (tgt := 462) hK dL_law_33 (by rw [c_11]; decide) (by rw [c_11]; decide) (by rw [c_11]; decide) (by decide) ?_
      exact tc_L_6 hX hK hk hu hv h
    replace h := mb_iff c_11 h
    by_cases c_12 : (x_2 &&& 63) = 7
    · replace h := mb_ift c_12 h
      refine ro_tabIn (off := 462) (tgt := 495) hK dL_law_33 (by rw [c_12]; decide) (by rw [c_12]; decide) (by rw [c_12]; decide) (by decide) ?_
      exact tc_L_7 hX hK hk hu hv h
    replace h := mb_iff c_12 h
    by_cases c_13 : (x_2 &&& 63) = 8
    · replace h := mb_ift c_13 h
      refine ro_tabIn (off := 505) (tgt := 538) hK dL_law_33 (by rw [c_13]; decide) (by rw [c_13]; decide) (by rw [c_13]; decide) (by decide) ?_
      exact tc_L_8 hX hK hk hu hv h
    replace h := mb_iff c_13 h
    by_cases c_14 : (x_2 &&& 63) = 9
    · replace h := mb_ift c_14 h
      refine ro_tabIn (off := 528) (tgt := 561) hK dL_law_33 (by rw [c_14]; decide) (by rw [c_14]; decide) (by rw [c_14]; decide) (by decide) ?_
      exact tc_L_9 hX hK hk hu hv h
    replace h := mb_iff c_14 h
    by_cases c_15 : (x_2 &&& 63) = 10
    · replace h := mb_ift c_15 h
      refine ro_tabIn (off := 551) (tgt := 584) hK dL_law_33 (by rw [c_15]; decide) (by rw [c_15]; decide) (by rw [c_15]; decide) (by decide) ?_
      exact tc_L_10 hX hK hk hu hv h
    replace h := mb_iff c_15 h
    by_cases c_16 : (x_2 &&& 63) = 11
    · replace h := mb_ift c_16 h
      refine ro_tabIn (off := 584) (tgt := 617) hK dL_law_33 (by rw [c_16]; decide) (by rw [c_16]; decide) (by rw [c_16]; decide) (by decide) ?_
      exact tc_L_11 hX hK hk hu hv h
    replace h := mb_iff c_16 h
    by_cases c_17 : (x_2 &&& 63) = 12
    · replace h := mb_ift c_17 h
      refine ro_tabIn (off := 617) (tgt := 650) hK dL_law_33 (by rw [c_17]; decide) (by rw [c_17]; decide) (by rw [c_17]; decide) (by decide) ?_
      exact tc_L_12 hX hK hk hu hv h
    replace h := mb_iff c_17 h
    by_cases c_18 : (x_2 &&& 63) = 13
    · replace h := mb_ift c_18 h
      refine ro_tabIn (off := 640) (tgt := 673) hK dL_law_33 (by rw [c_18]; decide) (by rw [c_18]; decide) (by rw [c_18]; decide) (by decide) ?_
      exact tc_L_13 hX hK hk hu hv h
    replace h := mb_iff c_18 h
    by_cases c_19 : (x_2 &&& 63) = 14
    · replace h := mb_ift c_19 h
      refine ro_tabIn (off := 663) (tgt := 696) hK dL_law_33 (by rw [c_19]; decide) (by rw [c_19]; decide) (by rw [c_19]; decide) (by decide) ?_
      exact tc_L_14 hX hK hk hu hv h
    replace h := mb_iff c_19 h
    by_cases c_20 : (x_2 &&& 63) = 15
    · replace h := mb_ift c_20 h
      refine ro_tabIn (off := 696) (tgt := 729) hK dL_law_33 (by rw [c_20]; decide) (by rw [c_20]; decide) (by rw [c_20]; decide) (by decide) ?_
      exact tc_L_15 hX hK hk hu hv h
    replace h := mb_iff c_20 h
    by_cases c_21 : (x_2 &&& 63) = 16
    · replace h := mb_ift c_21 h
      refine ro_tabIn (off := 719) (tgt := 752) hK dL_law_33 (by rw [c_21]; decide) (by rw [c_21]; decide) (by rw [c_21]; decide) (by decide) ?_
      exact tc_L_16 hX hK hk hu hv h
    replace h := mb_iff c_21 h
    by_cases c_22 : (x_2 &&& 63) = 17
    · replace h := mb_ift c_22 h
      refine ro_tabIn (off := 742) (tgt := 775) hK dL_law_33 (by rw [c_22]; decide) (by rw [c_22]; decide) (by rw [c_22]; decide) (by decide) ?_
      exact tc_L_17 hX hK hk hu hv h
    replace h := mb_iff c_22 h
    by_cases c_23 : (x_2 &&& 63) = 18
    · replace h := mb_ift c_23 h
      refine ro_tabIn (off := 755) (tgt := 788) hK dL_law_33 (by rw [c_23]; decide) (by rw [c_23]; decide) (by rw [c_23]; decide) (by decide) ?_
      exact tc_L_18 hX hK hk hu hv h
    replace h := mb_iff c_23 h
    by_cases c_24 : (x_2 &&& 63) = 19
    · replace h := mb_ift c_24 h
      refine ro_tabIn (off := 778) (tgt := 811) hK dL_law_33 (by rw [c_24]; decide) (by rw [c_24]; decide) (by rw [c_24]; decide) (by decide) ?_
      exact tc_L_19 hX hK hk hu hv h
    replace h := mb_iff c_24 h
    by_cases c_25 : (x_2 &&& 63) = 20
    · replace h := mb_ift c_25 h
      refine ro_tabIn (off := 801) (tgt := 834) hK dL_law_33 (by rw [c_25]; decide) (by rw [c_25]; decide) (by rw [c_25]; decide) (by decide) ?_
      exact tc_L_20 hX hK hk hu hv h
    replace h := mb_iff c_25 h
    by_cases c_26 : (x_2 &&& 63) = 21
    · replace h := mb_ift c_26 h
      refine ro_tabIn (off := 814) (tgt := 847) hK dL_law_33 (by rw [c_26]; decide) (by rw [c_26]; decide) (by rw [c_26]; decide) (by decide) ?_
      exact tc_L_21 hX hK hk hu hv h
    replace h := mb_iff c_26 h
    by_cases c_27 : (x_2 &&& 63) = 22
    · replace h := mb_ift c_27 h
      refine ro_tabIn (off := 837) (tgt := 870) hK dL_law_33 (by rw [c_27]; decide) (by rw [c_27]; decide) (by rw [c_27]; decide) (by decide) ?_
      exact tc_L_22 hX hK hk hu hv h
    replace h := mb_iff c_27 h
    by_cases c_28 : (x_2 &&& 63) = 23
    · replace h := mb_ift c_28 h
      refine ro_tabIn (off := 860) (tgt := 893) hK dL_law_33 (by rw [c_28]; decide) (by rw [c_28]; decide) (by rw [c_28]; decide) (by decide) ?_
      exact tc_L_23 hX hK hk hu hv h
    replace h := mb_iff c_28 h
    by_cases c_29 : (x_2 &&& 63) = 24
    · replace h := mb_ift c_29 h
      refine ro_tabIn (off := 883) (tgt := 916) hK dL_law_33 (by rw [c_29]; decide) (by rw [c_29]; decide) (by rw [c_29]; decide) (by decide) ?_
      exact tc_L_24 hX hK hk hu hv h
    replace h := mb_iff c_29 h
    by_cases c_30 : (x_2 &&& 63) = 25
    · replace h := mb_ift c_30 h
      refine ro_tabIn (off := 906) (tgt := 939) hK dL_law_33 (by rw [c_30]; decide) (by rw [c_30]; decide) (by rw [c_30]; decide) (by decide) ?_
      exact tc_L_25 hX hK hk hu hv h
    replace h := mb_iff c_30 h
    by_cases c_31 : (x_2 &&& 63) = 26
    · replace h := mb_ift c_31 h
      refine ro_tabIn (off := 929) (tgt := 962) hK dL_law_33 (by rw [c_31]; decide) (by rw [c_31]; decide) (by rw [c_31]; decide) (by decide) ?_
      exact tc_L_26 hX hK hk hu hv h
    replace h := mb_iff c_31 h
    by_cases c_32 : (x_2 &&& 63) = 27
    · replace h := mb_ift c_32 h
      refine ro_tabIn (off := 942) (tgt := 975) hK dL_law_33 (by rw [c_32]; decide) (by rw [c_32]; decide) (by rw [c_32]; decide) (by decide) ?_
      exact tc_L_27 hX hK hk hu hv h
    replace h := mb_iff c_32 h
    by_cases c_33 : (x_2 &&& 63) = 28
    · replace h := mb_ift c_33 h
      refine ro_tabIn (off := 955) (tgt := 988) hK dL_law_33 (by rw [c_33]; decide) (by rw [c_33]; decide) (by rw [c_33]; decide) (by decide) ?_
      exact tc_L_28 hX hK hk hu hv h
    replace h := mb_iff c_33 h
    by_cases c_34 : (x_2 &&& 63) = 29
    · replace h := mb_ift c_34 h
      refine ro_tabIn (off := 978) (tgt := 1011) hK dL_law_33 (by rw [c_34]; decide) (by rw [c_34]; decide) (by rw [c_34]; decide) (by decide) ?_
      exact tc_L_29 hX hK hk hu hv h
    replace h := mb_iff c_34 h
    by_cases c_35 : (x_2 &&& 63) = 30
    · replace h := mb_ift c_35 h
      refine ro_tabIn (off := 1011) (tgt := 1044) hK dL_law_33 (by rw [c_35]; decide) (by rw [c_35]; decide) (by rw [c_35]; decide) (by decide) ?_
      exact tc_L_30 hX hK hk hu hv h
    replace h := mb_iff c_35 h
    by_cases c_36 : (x_2 &&& 63) = 31
    · replace h := mb_ift c_36 h
      refine ro_tabIn (off := 1034) (tgt := 1067) hK dL_law_33 (by rw [c_36]; decide) (by rw [c_36]; decide) (by rw [c_36]; decide) (by decide) ?_
      exact tc_L_31 hX hK hk hu hv h
    replace h := mb_iff c_36 h
    by_cases c_37 : (x_2 &&& 63) = 32
    · replace h := mb_ift c_37 h
      refine ro_tabIn (off := 1067) (tgt := 1100) hK dL_law_33 (by rw [c_37]; decide) (by rw [c_37]; decide) (by rw [c_37]; decide) (by decide) ?_
      exact tc_L_32 hX hK hk hu hv h
    replace h := mb_iff c_37 h
    by_cases c_38 : (x_2 &&& 63) = 33
    · replace h := mb_ift c_38 h
      refine ro_tabIn (off := 1090) (tgt := 1123) hK dL_law_33 (by rw [c_38]; decide) (by rw [c_38]; decide) (by rw [c_38]; decide) (by decide) ?_
      exact tc_L_33 hX hK hk hu hv h
    replace h := mb_iff c_38 h
    by_cases c_39 : (x_2 &&& 63) = 34
    · replace h := mb_ift c_39 h
      refine ro_tabIn (off := 1103) (tgt := 1136) hK dL_law_33 (by rw [c_39]; decide) (by rw [c_39]; decide) (by rw [c_39]; decide) (by decide) ?_
      exact tc_L_34 hX hK hk hu hv h
    replace h := mb_iff c_39 h
    by_cases c_40 : (x_2 &&& 63) = 35
    · replace h := mb_ift c_40 h
      refine ro_tabIn (off := 1126) (tgt := 1159) hK dL_law_33 (by rw [c_40]; decide) (by rw [c_40]; decide) (by rw [c_40]; decide) (by decide) ?_
      exact tc_L_35 hX hK hk hu hv h
    replace h := mb_iff c_40 h
    by_cases c_41 : (x_2 &&& 63) = 36
    · replace h := mb_ift c_41 h
      refine ro_tabIn (off := 1139) (tgt := 1172) hK dL_law_33 (by rw [c_41]; decide) (by rw [c_41]; decide) (by rw [c_41]; decide) (by decide) ?_
      exact tc_L_36 hX hK hk hu hv h
    replace h := mb_iff c_41 h
    by_cases c_42 : (x_2 &&& 63) = 37
    · replace h := mb_ift c_42 h
      refine ro_tabIn (off := 1162) (tgt := 1195) hK dL_law_33 (by rw [c_42]; decide) (by rw [c_42]; decide) (by rw [c_42]; decide) (by decide) ?_
      exact tc_L_37 hX hK hk hu hv h
    replace h := mb_iff c_42 h
    by_cases c_43 : (x_2 &&& 63) = 38
    · replace h := mb_ift c_43 h
      refine ro_tabIn (off := 1185) (tgt := 1218) hK dL_law_33 (by rw [c_43]; decide) (by rw [c_43]; decide) (by rw [c_43]; decide) (by decide) ?_
      exact tc_L_38 hX hK hk hu hv h
    replace h := mb_iff c_43 h
    by_cases c_44 : (x_2 &&& 63) = 39
    · replace h := mb_ift c_44 h
      refine ro_tabIn (off := 1218) (tgt := 1251) hK dL_law_33 (by rw [c_44]; decide) (by rw [c_44]; decide) (by rw [c_44]; decide) (by decide) ?_
      exact tc_L_39 hX hK hk hu hv h
    replace h := mb_iff c_44 h
    by_cases c_45 : (x_2 &&& 63) = 40
    · replace h := mb_ift c_45 h
      refine ro_tabIn (off := 1251) (tgt := 1284) hK dL_law_33 (by rw [c_45]; decide) (by rw [c_45]; decide) (by rw [c_45]; decide) (by decide) ?_
      exact tc_L_40 hX hK hk hu hv h
    replace h := mb_iff c_45 h
    by_cases c_46 : (x_2 &&& 63) = 41
    · replace h := mb_ift c_46 h
      refine ro_tabIn (off := 1294) (tgt := 1327) hK dL_law_33 (by rw [c_46]; decide) (by rw [c_46]; decide) (by rw [c_46]; decide) (by decide) ?_
      exact tc_L_41 hX hK hk hu hv h
    replace h := mb_iff c_46 h
    by_cases c_47 : (x_2 &&& 63) = 42
    · replace h := mb_ift c_47 h
      refine ro_tabIn (off := 1327) (tgt := 1360) hK dL_law_33 (by rw [c_47]; decide) (by rw [c_47]; decide) (by rw [c_47]; decide) (by decide) ?_
      exact tc_L_42 hX hK hk hu hv h
    replace h := mb_iff c_47 h
    by_cases c_48 : (x_2 &&& 63) = 43
    · replace h := mb_ift c_48 h
      refine ro_tabIn (off := 1340) (tgt := 1373) hK dL_law_33 (by rw [c_48]; decide) (by rw [c_48]; decide) (by rw [c_48]; decide) (by decide) ?_
      exact tc_L_43 hX hK hk hu hv h
    replace h := mb_iff c_48 h
    by_cases c_49 : (x_2 &&& 63) = 44
    · replace h := mb_ift c_49 h
      refine ro_tabIn (off := 1354) (tgt := 1387) hK dL_law_33 (by rw [c_49]; decide) (by rw [c_49]; decide) (by rw [c_49]; decide) (by decide) ?_
      exact tc_L_44 hX hK hk hu hv h
    replace h := mb_iff c_49 h
    by_cases c_50 : (x_2 &&& 63) = 45
    · replace h := mb_ift c_50 h
      refine ro_tabIn (off := 1368) (tgt := 1401) hK dL_law_33 (by rw [c_50]; decide) (by rw [c_50]; decide) (by rw [c_50]; decide) (by decide) ?_
      exact tc_L_45 hX hK hk hu hv h
    replace h := mb_iff c_50 h
    by_cases c_51 : (x_2 &&& 63) = 46
    · replace h := mb_ift c_51 h
      refine ro_tabIn (off := 1391) (tgt := 1424) hK dL_law_33 (by rw [c_51]; decide) (by rw [c_51]; decide) (by rw [c_51]; decide) (by decide) ?_
      exact tc_L_46 hX hK hk hu hv h
    replace h := mb_iff c_51 h
    by_cases c_52 : (x_2 &&& 63) = 47
    · replace h := mb_ift c_52 h
      refine ro_tabIn (off := 1404) (tgt := 1437) hK dL_law_33 (by rw [c_52]; decide) (by rw [c_52]; decide) (by rw [c_52]; decide) (by decide) ?_
      exact tc_L_47 hX hK hk hu hv h
    replace h := mb_iff c_52 h
    by_cases c_53 : (x_2 &&& 63) = 48
    · replace h := mb_ift c_53 h
      refine ro_tabIn (off := 1427) (tgt := 1460) hK dL_law_33 (by rw [c_53]; decide) (by rw [c_53]; decide) (by rw [c_53]; decide) (by decide) ?_
      exact tc_L_48 hX hK hk hu hv h
    replace h := mb_iff c_53 h
    have hz : Int32.toInt (x_2 &&& 63) < 0 ∨ 48 < Int32.toInt (x_2 &&& 63) := by
      refine mb_tab49 (fun z hz => ?_)
      match z, hz with
      | 0, _ => exact c_5
      | 1, _ => exact c_6
      | 2, _ => exact c_7
      | 3, _ => exact c_8
      | 4, _ => exact c_9
      | 5, _ => exact c_10
      | 6, _ => exact c_11
      | 7, _ => exact c_12
      | 8, _ => exact c_13
      | 9, _ => exact c_14
      | 10, _ => exact c_15
      | 11, _ => exact c_16
      | 12, _ => exact c_17
      | 13, _ => exact c_18
      | 14, _ => exact c_19
      | 15, _ => exact c_20
      | 16, _ => exact c_21
      | 17, _ => exact c_22
      | 18, _ => exact c_23
      | 19, _ => exact c_24
      | 20, _ => exact c_25
      | 21, _ => exact c_26
      | 22, _ => exact c_27
      | 23, _ => exact c_28
      | 24, _ => exact c_29
      | 25, _ => exact c_30
      | 26, _ => exact c_31
      | 27, _ => exact c_32
      | 28, _ => exact c_33
      | 29, _ => exact c_34
      | 30, _ => exact c_35
      | 31, _ => exact c_36
      | 32, _ => exact c_37
      | 33, _ => exact c_38
      | 34, _ => exact c_39
      | 35, _ => exact c_40
      | 36, _ => exact c_41
      | 37, _ => exact c_42
      | 38, _ => exact c_43
      | 39, _ => exact c_44
      | 40, _ => exact c_45
      | 41, _ => exact c_46
      | 42, _ => exact c_47
      | 43, _ => exact c_48
      | 44, _ => exact c_49
      | 45, _ => exact c_50
      | 46, _ => exact c_51
      | 47, _ => exact c_52
      | 48, _ => exact c_53
      | z + 49, hz => exact absurd hz (by omega)
    refine ro_tabOut (tgt := 1474) hK dL_law_33 hz (by decide) ?_
    refine ro_iincv (c := 6) hK (by decide) dL_law_1474 rfl (by decide) ?_
    show K u v 1477 [.float 0, .ref 0, .ref 200, .int (w3 + 6)] [] (mb_s s)
    refine ro_goto (tgt := 18) hK dL_law_1477 (by decide) ?_
    exact hk _ _ _ _ (by omega) (by omega) h
theorem tl_L {dd n L : Nat} {mn : String} {xs : Nat → Int32} {K : mj_KT} (hX : mj_X (dd + 19) 600000 7302249 RL_c mn code 4 L xs K) (hret : ∀ (u v pc : Nat) (lv : List Value) (S : mj_S), decode code pc = .ok (.ireturn, 1) → K u v pc lv [.int 1] S) : ∀ (f : Nat) (w3 : Int32) (s : mb_T) (u v : Nat), u + 9 * f ≤ 600000 → v + 878 * f ≤ 7302249 → f_L_loop n L xs f w3 s = some () → K u v 18 [.float 0, .ref 0, .ref 200, .int w3] [] (mb_s s)
  | 0, w3, s, u, v, _, _, h => by cases h
  | f + 1, w3, s, u, v, hu, hv, h => tb_L (f := f) hX hX.C hret (tl_L hX hret f) hu hv h
