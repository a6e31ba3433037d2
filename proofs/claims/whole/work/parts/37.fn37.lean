theorem dM_calmest_0 : decode bM_calmest 0 = .ok (.iload_n 1, 1) := by decide +kernel
theorem dM_calmest_1 : decode bM_calmest 1 = .ok (.iconst 0, 1) := by decide +kernel
theorem dM_calmest_2 : decode bM_calmest 2 = .ok (.bipush 6, 2) := by decide +kernel
theorem dM_calmest_4 : decode bM_calmest 4 = .ok (.invokestatic 92, 3) := by decide +kernel
theorem dM_calmest_7 : decode bM_calmest 7 = .ok (.ifCond .eq 10, 3) := by decide +kernel
theorem dM_calmest_10 : decode bM_calmest 10 = .ok (.iload_n 2, 1) := by decide +kernel
theorem dM_calmest_11 : decode bM_calmest 11 = .ok (.invokestatic 96, 3) := by decide +kernel
theorem dM_calmest_14 : decode bM_calmest 14 = .ok (.ifCond .ne 5, 3) := by decide +kernel
theorem dM_calmest_17 : decode bM_calmest 17 = .ok (.iconst (-1), 1) := by decide +kernel
theorem dM_calmest_18 : decode bM_calmest 18 = .ok (.ireturn, 1) := by decide +kernel
theorem dM_calmest_19 : decode bM_calmest 19 = .ok (.aload_n 0, 1) := by decide +kernel
theorem dM_calmest_20 : decode bM_calmest 20 = .ok (.getfield 161, 3) := by decide +kernel
theorem dM_calmest_23 : decode bM_calmest 23 = .ok (.ifCond .ne 6, 3) := by decide +kernel
theorem dM_calmest_26 : decode bM_calmest 26 = .ok (.bipush (-4), 2) := by decide +kernel
theorem dM_calmest_28 : decode bM_calmest 28 = .ok (.ireturn, 1) := by decide +kernel
theorem dM_calmest_29 : decode bM_calmest 29 = .ok (.aload_n 0, 1) := by decide +kernel
theorem dM_calmest_30 : decode bM_calmest 30 = .ok (.ldc 234, 2) := by decide +kernel
theorem dM_calmest_32 : decode bM_calmest 32 = .ok (.putfield 278, 3) := by decide +kernel
theorem dM_calmest_35 : decode bM_calmest 35 = .ok (.aload_n 0, 1) := by decide +kernel
theorem dM_calmest_36 : decode bM_calmest 36 = .ok (.iconst 0, 1) := by decide +kernel
theorem dM_calmest_37 : decode bM_calmest 37 = .ok (.iload_n 1, 1) := by decide +kernel
theorem dM_calmest_38 : decode bM_calmest 38 = .ok (.invokevirtual 281, 3) := by decide +kernel
theorem dM_calmest_41 : decode bM_calmest 41 = .ok (.aload_n 0, 1) := by decide +kernel
theorem dM_calmest_42 : decode bM_calmest 42 = .ok (.getfield 278, 3) := by decide +kernel
theorem dM_calmest_45 : decode bM_calmest 45 = .ok (.ldc 234, 2) := by decide +kernel
theorem dM_calmest_47 : decode bM_calmest 47 = .ok (.if_icmp .ne 6, 3) := by decide +kernel
theorem dM_calmest_50 : decode bM_calmest 50 = .ok (.bipush (-9), 2) := by decide +kernel
theorem dM_calmest_52 : decode bM_calmest 52 = .ok (.ireturn, 1) := by decide +kernel
theorem dM_calmest_53 : decode bM_calmest 53 = .ok (.aload_n 0, 1) := by decide +kernel
theorem dM_calmest_54 : decode bM_calmest 54 = .ok (.iload_n 2, 1) := by decide +kernel
theorem dM_calmest_55 : decode bM_calmest 55 = .ok (.iload_n 1, 1) := by decide +kernel
theorem dM_calmest_56 : decode bM_calmest 56 = .ok (.invokevirtual 275, 3) := by decide +kernel
theorem dM_calmest_59 : decode bM_calmest 59 = .ok (.aload_n 0, 1) := by decide +kernel
theorem dM_calmest_60 : decode bM_calmest 60 = .ok (.getfield 278, 3) := by decide +kernel
theorem dM_calmest_63 : decode bM_calmest 63 = .ok (.ireturn, 1) := by decide +kernel
def f_M_calmest (n : Nat) (x1 : Int32) (x2 : Int32) (s : mb_T) : Option (Int32 × mb_T) := mb_cl (f_M_in n x1 0 6 s) fun r_3 s_1 => if r_3 = 0 then some ((-1), s_1) else mb_cl (f_M_isRow n x2 s_1) fun r_7 s_5 => if r_7 = 0 then some ((-1), s_5) else if (s_5.1 200 8) = 0 then some ((-4), s_5) else mb_bd (sF s_5 200 38 1048576) fun s_10 => mb_cw (f_M_calmOn n 10 0 x1 s_10) fun s_12 => if (s_12.1 200 38) = 1048576 then some ((-9), s_12) else mb_cw (f_M_layBest n x2 x1 s_12) fun s_15 => some ((s_15.1 200 38), s_15)
set_option maxHeartbeats 4000000 in
set_option maxRecDepth 100000 in
theorem t_M_calmest {dd n : Nat} {x1 : Int32} {x2 : Int32} {s : mb_T} {out : Int32 × mb_T}  (h : f_M_calmest n x1 x2 s = some out) : mb_MC (dd + 14) yM_calmest bM_calmest 3 (some .int) [.ref 200, .int x1, .int x2] s (some (.int out.1)) out.2 := by
  unfold f_M_calmest at h
  refine mj_mc (lv := [.ref 200, .int x1, .int x2]) mM_calmest rfl rfl (Nat.le_of_ble_eq_true rfl) (fun K hK hR => ?_)
  have hK : mj_C (dd + 14) 0 0 RM_c "calmest" bM_calmest 3 K := hK
  refine ro_iload_n hK dM_calmest_0 rfl ?_
  refine ro_iconst (x := 0) hK (by decide) dM_calmest_1 ?_
  refine ro_bipush (x := 6) hK (by decide) dM_calmest_2 ?_
  obtain ⟨r_3, s_1, q_2, h⟩ := mb_cl_e h
  refine rb_callS hK mM_in vM_92 (t_M_in (dd := dd + 12) q_2) rfl (Nat.le_of_ble_eq_true rfl) dM_calmest_4 rfl ⟨Nat.le_refl _, Nat.le_refl _⟩ ?_
  show K 0 0 7 [.ref 200, .int x1, .int x2] [.int r_3] (mb_s s_1)
  refine ro_if_eq (tgt := 17) hK dM_calmest_7 (by decide) (fun c_4 => ?_) (fun c_4 => ?_)
  · replace h := mb_ift c_4 h
    refine ro_iconst (x := (-1)) hK (by decide) dM_calmest_17 ?_
    cases h
    exact hR.1 0 0 18 _ _ _ _ rfl rfl dM_calmest_18 ⟨rfl, rfl⟩
  · replace h := mb_iff c_4 h
    refine ro_iload_n hK dM_calmest_10 rfl ?_
    obtain ⟨r_7, s_5, q_6, h⟩ := mb_cl_e h
    refine rb_callS hK mM_isRow vM_96 (t_M_isRow (dd := dd + 11) q_6) rfl (Nat.le_of_ble_eq_true rfl) dM_calmest_11 rfl ⟨Nat.le_refl _, Nat.le_refl _⟩ ?_
    show K 0 0 14 [.ref 200, .int x1, .int x2] [.int r_7] (mb_s s_5)
    refine ro_if_ne (tgt := 19) hK dM_calmest_14 (by decide) (fun c_8 => ?_) (fun c_8 => ?_)
    · replace h := mb_iff c_8 h
      refine ro_aload_n hK dM_calmest_19 rfl ?_
      refine rb_get hK fM_161 mb_oM rfl dM_calmest_20 ?_
      refine ro_if_ne (tgt := 29) hK dM_calmest_23 (by decide) (fun c_9 => ?_) (fun c_9 => ?_)
      · replace h := mb_iff c_9 h
        refine ro_aload_n hK dM_calmest_29 rfl ?_
        refine ro_ldc hK cM_234 dM_calmest_30 ?_
        obtain ⟨s_10, e_11, h⟩ := mb_bd_e h
        refine rb_put hK gM_278 mb_oM rfl (by show 38 < 45; decide) rfl rfl e_11 dM_calmest_32 ?_
        refine ro_aload_n hK dM_calmest_35 rfl ?_
        refine ro_iconst (x := 0) hK (by decide) dM_calmest_36 ?_
        refine ro_iload_n hK dM_calmest_37 rfl ?_
        obtain ⟨s_12, q_13, h⟩ := mb_cw_e h
        refine rb_callV hK mM_calmOn vM_281 (t_M_calmOn 10 (dd := dd + 0) q_13) rfl mb_oM rfl (Nat.le_of_ble_eq_true rfl) dM_calmest_38 rfl ⟨Nat.le_refl _, Nat.le_refl _⟩ ?_
        show K 0 0 41 [.ref 200, .int x1, .int x2] [] (mb_s s_12)
        refine ro_aload_n hK dM_calmest_41 rfl ?_
        refine rb_get hK fM_278 mb_oM rfl dM_calmest_42 ?_
        refine ro_ldc hK cM_234 dM_calmest_45 ?_
        refine ro_icmp_ne (tgt := 53) hK dM_calmest_47 (by decide) (fun c_14 => ?_) (fun c_14 => ?_)
        · replace h := mb_iff c_14 h
          refine ro_aload_n hK dM_calmest_53 rfl ?_
          refine ro_iload_n hK dM_calmest_54 rfl ?_
          refine ro_iload_n hK dM_calmest_55 rfl ?_
          obtain ⟨s_15, q_16, h⟩ := mb_cw_e h
          refine rb_callV hK mM_layBest vM_275 (t_M_layBest (dd := dd + 9) q_16) rfl mb_oM rfl (Nat.le_of_ble_eq_true rfl) dM_calmest_56 rfl ⟨Nat.le_refl _, Nat.le_refl _⟩ ?_
          show K 0 0 59 [.ref 200, .int x1, .int x2] [] (mb_s s_15)
          refine ro_aload_n hK dM_calmest_59 rfl ?_
          refine rb_get hK fM_278 mb_oM rfl dM_calmest_60 ?_
          cases h
          exact hR.1 0 0 63 _ _ _ _ rfl rfl dM_calmest_63 ⟨rfl, rfl⟩
        · replace h := mb_ift c_14 h
          refine ro_bipush (x := (-9)) hK (by decide) dM_calmest_50 ?_
          cases h
          exact hR.1 0 0 52 _ _ _ _ rfl rfl dM_calmest_52 ⟨rfl, rfl⟩
      · replace h := mb_ift c_9 h
        refine ro_bipush (x := (-4)) hK (by decide) dM_calmest_26 ?_
        cases h
        exact hR.1 0 0 28 _ _ _ _ rfl rfl dM_calmest_28 ⟨rfl, rfl⟩
    · replace h := mb_ift c_8 h
      refine ro_iconst (x := (-1)) hK (by decide) dM_calmest_17 ?_
      cases h
      exact hR.1 0 0 18 _ _ _ _ rfl rfl dM_calmest_18 ⟨rfl, rfl⟩
theorem dM_longest_0 : decode bM_longest 0 = .ok (.iload_n 1, 1) := by decide +kernel
theorem dM_longest_1 : decode bM_longest 1 = .ok (.invokestatic 96, 3) := by decide +kernel
theorem dM_longest_4 : decode bM_longest 4 = .ok (.ifCond .ne 5, 3) := by decide +kernel
theorem dM_longest_7 : decode bM_longest 7 = .ok (.iconst (-1), 1) := by decide +kernel
theorem dM_longest_8 : decode bM_longest 8 = .ok (.ireturn, 1) := by decide +kernel
theorem dM_longest_9 : decode bM_longest 9 = .ok (.aload_n 0, 1) := by decide +kernel
theorem dM_longest_10 : decode bM_longest 10 = .ok (.getfield 161, 3) := by decide +kernel
theorem dM_longest_13 : decode bM_longest 13 = .ok (.ifCond .ne 6, 3) := by decide +kernel
theorem dM_longest_16 : decode bM_longest 16 = .ok (.bipush (-4), 2) := by decide +kernel
theorem dM_longest_18 : decode bM_longest 18 = .ok (.ireturn, 1) := by decide +kernel
theorem dM_longest_19 : decode bM_longest 19 = .ok (.aload_n 0, 1) := by decide +kernel
theorem dM_longest_20 : decode bM_longest 20 = .ok (.iconst 0, 1) := by decide +kernel
theorem dM_longest_21 : decode bM_longest 21 = .ok (.putfield 257, 3) := by decide +kernel
theorem dM_longest_24 : decode bM_longest 24 = .ok (.aload_n 0, 1) := by decide +kernel
theorem dM_longest_25 : decode bM_longest 25 = .ok (.iconst 0, 1) := by decide +kernel
theorem dM_longest_26 : decode bM_longest 26 = .ok (.invokevirtual 266, 3) := by decide +kernel
theorem dM_longest_29 : decode bM_longest 29 = .ok (.aload_n 0, 1) := by decide +kernel
theorem dM_longest_30 : decode bM_longest 30 = .ok (.iload_n 1, 1) := by decide +kernel
theorem dM_longest_31 : decode bM_longest 31 = .ok (.aload_n 0, 1) := by decide +kernel
theorem dM_longest_32 : decode bM_longest 32 = .ok (.getfield 257, 3) := by decide +kernel
theorem dM_longest_35 : decode bM_longest 35 = .ok (.invokevirtual 275, 3) := by decide +kernel
theorem dM_longest_38 : decode bM_longest 38 = .ok (.aload_n 0, 1) := by decide +kernel
theorem dM_longest_39 : decode bM_longest 39 = .ok (.getfield 257, 3) := by decide +kernel
theorem dM_longest_42 : decode bM_longest 42 = .ok (.ireturn, 1) := by decide +kernel
def f_M_longest (n : Nat) (x1 : Int32) (s : mb_T) : Option (Int32 × mb_T) := mb_cl (f_M_isRow n x1 s) fun r_3 s_1 => if r_3 = 0 then some ((-1), s_1) else if (s_1.1 200 8) = 0 then some ((-4), s_1) else mb_bd (sF s_1 200 37 0) fun s_6 => mb_cw (f_M_longOn n 10 0 s_6) fun s_8 => mb_cw (f_M_layBest n x1 (s_8.1 200 37) s_8) fun s_10 => some ((s_10.1 200 37), s_10)
set_option maxHeartbeats 4000000 in
set_option maxRecDepth 100000 in
theorem t_M_longest {dd n : Nat} {x1 : Int32} {s : mb_T} {out : Int32 × mb_T}  (h : f_M_longest n x1 s = some out) : mb_MC (dd + 14) yM_longest bM_longest 2 (some .int) [.ref 200, .int x1] s (some (.int out.1)) out.2 := by
  unfold f_M_longest at h
  refine mj_mc (lv := [.ref 200, .int x1]) mM_longest rfl rfl (Nat.le_of_ble_eq_true rfl) (fun K hK hR => ?_)
  have hK : mj_C (dd + 14) 0 0 RM_c "longest" bM_longest 2 K := hK
  refine ro_iload_n hK dM_longest_0 rfl ?_
  obtain ⟨r_3, s_1, q_2, h⟩ := mb_cl_e h
  refine rb_callS hK mM_isRow vM_96 (t_M_isRow (dd := dd + 11) q_2) rfl (Nat.le_of_ble_eq_true rfl) dM_longest_1 rfl ⟨Nat.le_refl _, Nat.le_refl _⟩ ?_
  show K 0 0 4 [.ref 200, .int x1] [.int r_3] (mb_s s_1)
  refine ro_if_ne (tgt := 9) hK dM_longest_4 (by decide) (fun c_4 => ?_) (fun c_4 => ?_)
  · replace h := mb_iff c_4 h
    refine ro_aload_n hK dM_longest_9 rfl ?_
    refine rb_get hK fM_161 mb_oM rfl dM_longest_10 ?_
    refine ro_if_ne (tgt := 19) hK dM_longest_13 (by decide) (fun c_5 => ?_) (fun c_5 => ?_)
    · replace h := mb_iff c_5 h
      refine ro_aload_n hK dM_longest_19 rfl ?_
      refine ro_iconst (x := 0) hK (by decide) dM_longest_20 ?_
      obtain ⟨s_6, e_7, h⟩ := mb_bd_e h
      refine rb_put hK gM_257 mb_oM rfl (by show 37 < 45; decide) rfl rfl e_7 dM_longest_21 ?_
      refine ro_aload_n hK dM_longest_24 rfl ?_
      refine ro_iconst (x := 0) hK (by decide) dM_longest_25 ?_
      obtain ⟨s_8, q_9, h⟩ := mb_cw_e h
      refine rb_callV hK mM_longOn vM_266 (t_M_longOn 10 (dd := dd + 0) q_9) rfl mb_oM rfl (Nat.le_of_ble_eq_true rfl) dM_longest_26 rfl ⟨Nat.le_refl _, Nat.le_refl _⟩ ?_
      show K 0 0 29 [.ref 200, .int x1] [] (mb_s s_8)
      refine ro_aload_n hK dM_longest_29 rfl ?_
      refine ro_iload_n hK dM_longest_30 rfl ?_
      refine ro_aload_n hK dM_longest_31 rfl ?_
      refine rb_get hK fM_257 mb_oM rfl dM_longest_32 ?_
      obtain ⟨s_10, q_11, h⟩ := mb_cw_e h
      refine rb_callV hK mM_layBest vM_275 (t_M_layBest (dd := dd + 9) q_11) rfl mb_oM rfl (Nat.le_of_ble_eq_true rfl) dM_longest_35 rfl ⟨Nat.le_refl _, Nat.le_refl _⟩ ?_
      show K 0 0 38 [.ref 200, .int x1] [] (mb_s s_10)
      refine ro_aload_n hK dM_longest_38 rfl ?_
      refine rb_get hK fM_257 mb_oM rfl dM_longest_39 ?_
      cases h
      exact hR.1 0 0 42 _ _ _ _ rfl rfl dM_longest_42 ⟨rfl, rfl⟩
    · replace h := mb_ift c_5 h
      refine ro_bipush (x := (-4)) hK (by decide) dM_longest_16 ?_
      cases h
      exact hR.1 0 0 18 _ _ _ _ rfl rfl dM_longest_18 ⟨rfl, rfl⟩
  · replace h := mb_ift c_4 h
    refine ro_iconst (x := (-1)) hK (by decide) dM_longest_7 ?_
    cases h
    exact hR.1 0 0 8 _ _ _ _ rfl rfl dM_longest_8 ⟨rfl, rfl⟩
theorem dS_start_0 : decode bS_start 0 = .ok (.aload_n 1, 1) := by decide +kernel
theorem dS_start_1 : decode bS_start 1 = .ok (.invokevirtual 42, 3) := by decide +kernel
theorem dS_start_4 : decode bS_start 4 = .ok (.ifCond .ne 9, 3) := by decide +kernel
theorem dS_start_7 : decode bS_start 7 = .ok (.aload_n 0, 1) := by decide +kernel
theorem dS_start_8 : decode bS_start 8 = .ok (.aload_n 1, 1) := by decide +kernel
theorem dS_start_9 : decode bS_start 9 = .ok (.iconst 0, 1) := by decide +kernel
theorem dS_start_10 : decode bS_start 10 = .ok (.invokevirtual 48, 3) := by decide +kernel
theorem dS_start_13 : decode bS_start 13 = .ok (.return_, 1) := by decide +kernel
def f_S_start (n : Nat)  (s : mb_T) : Option (mb_T) := mb_cl (f_A_isOver n s) fun r_3 s_1 => if r_3 = 0 then (mb_cw (f_S_handFrom n 10 0 s_1) fun s_5 => some s_5) else some s_1
set_option maxHeartbeats 4000000 in
set_option maxRecDepth 100000 in
theorem t_S_start {dd n : Nat}  {s : mb_T} {out : mb_T}  (h : f_S_start n  s = some out) : mb_MC (dd + 15) yS_start bS_start 2 none [.ref 60, .ref 40] s none out := by
  unfold f_S_start at h
  refine mj_mc (lv := [.ref 60, .ref 40]) mS_start rfl rfl (Nat.le_of_ble_eq_true rfl) (fun K hK hR => ?_)
  have hK : mj_C (dd + 15) 0 0 RS_c "start" bS_start 2 K := hK
  refine ro_aload_n hK dS_start_0 rfl ?_
  obtain ⟨r_3, s_1, q_2, h⟩ := mb_cl_e h
  refine rb_callV hK mA_isOver vS_42 (t_A_isOver (dd := dd + 12) q_2) rfl mb_oA rfl (Nat.le_of_ble_eq_true rfl) dS_start_1 rfl ⟨Nat.le_refl _, Nat.le_refl _⟩ ?_
  show K 0 0 4 [.ref 60, .ref 40] [.int r_3] (mb_s s_1)
  refine ro_if_ne (tgt := 13) hK dS_start_4 (by decide) (fun c_4 => ?_) (fun c_4 => ?_)
  · replace h := mb_iff c_4 h
    cases h
    exact hR.2.2 0 0 13 _ _ rfl dS_start_13 ⟨rfl, rfl⟩
  · replace h := mb_ift c_4 h
    refine ro_aload_n hK dS_start_7 rfl ?_
    refine ro_aload_n hK dS_start_8 rfl ?_
    refine ro_iconst (x := 0) hK (by decide) dS_start_9 ?_
    obtain ⟨s_5, q_6, h⟩ := mb_cw_e h
    refine rb_callV hK mS_handFrom vS_48 (t_S_handFrom 10 (dd := dd + 0) q_6) rfl mb_oS rfl (Nat.le_of_ble_eq_true rfl) dS_start_10 rfl ⟨Nat.le_refl _, Nat.le_refl _⟩ ?_
    show K 0 0 13 [.ref 60, .ref 40] [] (mb_s s_5)
    cases h
    exact hR.2.2 0 0 13 _ _ rfl dS_start_13 ⟨rfl, rfl⟩
theorem dS_findCalmest_0 : decode bS_findCalmest 0 = .ok (.aload_n 0, 1) := by decide +kernel
theorem dS_findCalmest_1 : decode bS_findCalmest 1 = .ok (.iconst 0, 1) := by decide +kernel
theorem dS_findCalmest_2 : decode bS_findCalmest 2 = .ok (.putfield 18, 3) := by decide +kernel
theorem dS_findCalmest_5 : decode bS_findCalmest 5 = .ok (.aload_n 0, 1) := by decide +kernel
theorem dS_findCalmest_6 : decode bS_findCalmest 6 = .ok (.iload_n 2, 1) := by decide +kernel
theorem dS_findCalmest_7 : decode bS_findCalmest 7 = .ok (.bipush 6, 2) := by decide +kernel
theorem dS_findCalmest_9 : decode bS_findCalmest 9 = .ok (.invokestatic 33, 3) := by decide +kernel
theorem dS_findCalmest_12 : decode bS_findCalmest 12 = .ok (.putfield 22, 3) := by decide +kernel
theorem dS_findCalmest_15 : decode bS_findCalmest 15 = .ok (.aload_n 0, 1) := by decide +kernel
theorem dS_findCalmest_16 : decode bS_findCalmest 16 = .ok (.iconst (-1), 1) := by decide +kernel
theorem dS_findCalmest_17 : decode bS_findCalmest 17 = .ok (.putfield 26, 3) := by decide +kernel
theorem dS_findCalmest_20 : decode bS_findCalmest 20 = .ok (.aload_n 0, 1) := by decide +kernel
theorem dS_findCalmest_21 : decode bS_findCalmest 21 = .ok (.bipush 100, 2) := by decide +kernel
theorem dS_findCalmest_23 : decode bS_findCalmest 23 = .ok (.putfield 39, 3) := by decide +kernel
theorem dS_findCalmest_26 : decode bS_findCalmest 26 = .ok (.aload_n 0, 1) := by decide +kernel
theorem dS_findCalmest_27 : decode bS_findCalmest 27 = .ok (.aload_n 1, 1) := by decide +kernel
theorem dS_findCalmest_28 : decode bS_findCalmest 28 = .ok (.invokevirtual 29, 3) := by decide +kernel
theorem dS_findCalmest_31 : decode bS_findCalmest 31 = .ok (.return_, 1) := by decide +kernel
def f_S_findCalmest (n : Nat) (x2 : Int32) (s : mb_T) : Option (mb_T) := mb_bd (sF s 60 1 0) fun s_1 => mb_bd (sF s_1 60 2 (if 6 < x2 then 6 else x2 : Int32)) fun s_3 => mb_bd (sF s_3 60 4 (-1)) fun s_5 => mb_bd (sF s_5 60 5 100) fun s_7 => mb_cw (f_S_start n s_7) fun s_9 => some s_9
set_option maxHeartbeats 4000000 in
set_option maxRecDepth 100000 in
theorem t_S_findCalmest {dd n : Nat} {x2 : Int32} {s : mb_T} {out : mb_T}  (h : f_S_findCalmest n x2 s = some out) : mb_MC (dd + 16) yS_findCalmest bS_findCalmest 3 none [.ref 60, .ref 40, .int x2] s none out := by
  unfold f_S_findCalmest at h
  refine mj_mc (lv := [.ref 60, .ref 40, .int x2]) mS_findCalmest rfl rfl (Nat.le_of_ble_eq_true rfl) (fun K hK hR => ?_)
  have hK : mj_C (dd + 16) 0 0 RS_c "findCalmest" bS_findCalmest 3 K := hK
  refine ro_aload_n hK dS_findCalmest_0 rfl ?_
  refine ro_iconst (x := 0) hK (by decide) dS_findCalmest_1 ?_
  obtain ⟨s_1, e_2, h⟩ := mb_bd_e h
  refine rb_put hK gS_18 mb_oS rfl (by show 1 < 6; decide) (by decide) rfl e_2 dS_findCalmest_2 ?_
  refine ro_aload_n hK dS_findCalmest_5 rfl ?_
  refine ro_iload_n hK dS_findCalmest_6 rfl ?_
  refine ro_bipush (x := 6) hK (by decide) dS_findCalmest_7 ?_
  refine ro_mmin hK vS_33 (by omega) (Nat.le_of_ble_eq_true rfl) dS_findCalmest_9 ?_
  obtain ⟨s_3, e_4, h⟩ := mb_bd_e h
  refine rb_put hK gS_22 mb_oS rfl (by show 2 < 6; decide) rfl rfl e_4 dS_findCalmest_12 ?_
  refine ro_aload_n hK dS_findCalmest_15 rfl ?_
  refine ro_iconst (x := (-1)) hK (by decide) dS_findCalmest_16 ?_
  obtain ⟨s_5, e_6, h⟩ := mb_bd_e h
  refine rb_put hK gS_26 mb_oS rfl (by show 4 < 6; decide) rfl rfl e_6 dS_findCalmest_17 ?_
  refine ro_aload_n hK dS_findCalmest_20 rfl ?_
  refine ro_bipush (x := 100) hK (by decide) dS_findCalmest_21 ?_
  obtain ⟨s_7, e_8, h⟩ := mb_bd_e h
  refine rb_put hK gS_39 mb_oS rfl (by show 5 < 6; decide) rfl rfl e_8 dS_findCalmest_23 ?_
  refine ro_aload_n hK dS_findCalmest_26 rfl ?_
  refine ro_aload_n hK dS_findCalmest_27 rfl ?_
  obtain ⟨s_9, q_10, h⟩ := mb_cw_e h
  refine rb_callV hK mS_start vS_29 (t_S_start (dd := dd + 0) q_10) rfl mb_oS rfl (Nat.le_of_ble_eq_true rfl) dS_findCalmest_28 rfl ⟨Nat.le_refl _, Nat.le_refl _⟩ ?_
  show K 0 0 31 [.ref 60, .ref 40, .int x2] [] (mb_s s_9)
  cases h
  exact hR.2.2 0 0 31 _ _ rfl dS_findCalmest_31 ⟨rfl, rfl⟩
theorem dS_findLongest_0 : decode bS_findLongest 0 = .ok (.aload_n 0, 1) := by decide +kernel
theorem dS_findLongest_1 : decode bS_findLongest 1 = .ok (.iconst 1, 1) := by decide +kernel
theorem dS_findLongest_2 : decode bS_findLongest 2 = .ok (.putfield 18, 3) := by decide +kernel
theorem dS_findLongest_5 : decode bS_findLongest 5 = .ok (.aload_n 0, 1) := by decide +kernel
theorem dS_findLongest_6 : decode bS_findLongest 6 = .ok (.bipush 6, 2) := by decide +kernel
theorem dS_findLongest_8 : decode bS_findLongest 8 = .ok (.putfield 22, 3) := by decide +kernel
theorem dS_findLongest_11 : decode bS_findLongest 11 = .ok (.aload_n 0, 1) := by decide +kernel
theorem dS_findLongest_12 : decode bS_findLongest 12 = .ok (.iconst 0, 1) := by decide +kernel
theorem dS_findLongest_13 : decode bS_findLongest 13 = .ok (.putfield 26, 3) := by decide +kernel
theorem dS_findLongest_16 : decode bS_findLongest 16 = .ok (.aload_n 0, 1) := by decide +kernel
theorem dS_findLongest_17 : decode bS_findLongest 17 = .ok (.aload_n 1, 1) := by decide +kernel
theorem dS_findLongest_18 : decode bS_findLongest 18 = .ok (.invokevirtual 29, 3) := by decide +kernel
theorem dS_findLongest_21 : decode bS_findLongest 21 = .ok (.return_, 1) := by decide +kernel
def f_S_findLongest (n : Nat)  (s : mb_T) : Option (mb_T) := mb_bd (sF s 60 1 1) fun s_1 => mb_bd (sF s_1 60 2 6) fun s_3 => mb_bd (sF s_3 60 4 0) fun s_5 => mb_cw (f_S_start n s_5) fun s_7 => some s_7
set_option maxHeartbeats 4000000 in
set_option maxRecDepth 100000 in
theorem t_S_findLongest {dd n : Nat}  {s : mb_T} {out : mb_T}  (h : f_S_findLongest n  s = some out) : mb_MC (dd + 16) yS_findLongest bS_findLongest 2 none [.ref 60, .ref 40] s none out := by
  unfold f_S_findLongest at h
  refine mj_mc (lv := [.ref 60, .ref 40]) mS_findLongest rfl rfl (Nat.le_of_ble_eq_true rfl) (fun K hK hR => ?_)
  have hK : mj_C (dd + 16) 0 0 RS_c "findLongest" bS_findLongest 2 K := hK
  refine ro_aload_n hK dS_findLongest_0 rfl ?_
  refine ro_iconst (x := 1) hK (by decide) dS_findLongest_1 ?_
  obtain ⟨s_1, e_2, h⟩ := mb_bd_e h
  refine rb_put hK gS_18 mb_oS rfl (by show 1 < 6; decide) (by decide) rfl e_2 dS_findLongest_2 ?_
  refine ro_aload_n hK dS_findLongest_5 rfl ?_
  refine ro_bipush (x := 6) hK (by decide) dS_findLongest_6 ?_
  obtain ⟨s_3, e_4, h⟩ := mb_bd_e h
  refine rb_put hK gS_22 mb_oS rfl (by show 2 < 6; decide) rfl rfl e_4 dS_findLongest_8 ?_
  refine ro_aload_n hK dS_findLongest_11 rfl ?_
  refine ro_iconst (x := 0) hK (by decide) dS_findLongest_12 ?_
  obtain ⟨s_5, e_6, h⟩ := mb_bd_e h
  refine rb_put hK gS_26 mb_oS rfl (by show 4 < 6; decide) rfl rfl e_6 dS_findLongest_13 ?_
  refine ro_aload_n hK dS_findLongest_16 rfl ?_
  refine ro_aload_n hK dS_findLongest_17 rfl ?_
  obtain ⟨s_7, q_8, h⟩ := mb_cw_e h
  refine rb_callV hK mS_start vS_29 (t_S_start (dd := dd + 0) q_8) rfl mb_oS rfl (Nat.le_of_ble_eq_true rfl) dS_findLongest_18 rfl ⟨Nat.le_refl _, Nat.le_refl _⟩ ?_
  show K 0 0 21 [.ref 60, .ref 40] [] (mb_s s_7)
  cases h
  exact hR.2.2 0 0 21 _ _ rfl dS_findLongest_21 ⟨rfl, rfl⟩
theorem dC_calmest_0 : decode bC_calmest 0 = .ok (.iload_n 1, 1) := by decide +kernel
theorem dC_calmest_1 : decode bC_calmest 1 = .ok (.ifCond .lt 16, 3) := by decide +kernel
theorem dC_calmest_4 : decode bC_calmest 4 = .ok (.iload_n 1, 1) := by decide +kernel
theorem dC_calmest_5 : decode bC_calmest 5 = .ok (.bipush 6, 2) := by decide +kernel
theorem dC_calmest_7 : decode bC_calmest 7 = .ok (.if_icmp .gt 10, 3) := by decide +kernel
theorem dC_calmest_10 : decode bC_calmest 10 = .ok (.iload_n 2, 1) := by decide +kernel
theorem dC_calmest_11 : decode bC_calmest 11 = .ok (.invokestatic 83, 3) := by decide +kernel
theorem dC_calmest_14 : decode bC_calmest 14 = .ok (.ifCond .ne 5, 3) := by decide +kernel
theorem dC_calmest_17 : decode bC_calmest 17 = .ok (.iconst (-1), 1) := by decide +kernel
theorem dC_calmest_18 : decode bC_calmest 18 = .ok (.ireturn, 1) := by decide +kernel
theorem dC_calmest_19 : decode bC_calmest 19 = .ok (.aload_n 0, 1) := by decide +kernel
theorem dC_calmest_20 : decode bC_calmest 20 = .ok (.getfield 29, 3) := by decide +kernel
theorem dC_calmest_23 : decode bC_calmest 23 = .ok (.getfield 128, 3) := by decide +kernel
theorem dC_calmest_26 : decode bC_calmest 26 = .ok (.ifCond .ne 6, 3) := by decide +kernel
theorem dC_calmest_29 : decode bC_calmest 29 = .ok (.bipush (-4), 2) := by decide +kernel
theorem dC_calmest_31 : decode bC_calmest 31 = .ok (.ireturn, 1) := by decide +kernel
theorem dC_calmest_32 : decode bC_calmest 32 = .ok (.aload_n 0, 1) := by decide +kernel
theorem dC_calmest_33 : decode bC_calmest 33 = .ok (.getfield 50, 3) := by decide +kernel
theorem dC_calmest_36 : decode bC_calmest 36 = .ok (.aload_n 0, 1) := by decide +kernel
theorem dC_calmest_37 : decode bC_calmest 37 = .ok (.getfield 29, 3) := by decide +kernel
theorem dC_calmest_40 : decode bC_calmest 40 = .ok (.invokevirtual 144, 3) := by decide +kernel
theorem dC_calmest_43 : decode bC_calmest 43 = .ok (.aload_n 0, 1) := by decide +kernel
theorem dC_calmest_44 : decode bC_calmest 44 = .ok (.getfield 57, 3) := by decide +kernel
theorem dC_calmest_47 : decode bC_calmest 47 = .ok (.aload_n 0, 1) := by decide +kernel
theorem dC_calmest_48 : decode bC_calmest 48 = .ok (.getfield 50, 3) := by decide +kernel
theorem dC_calmest_51 : decode bC_calmest 51 = .ok (.iload_n 1, 1) := by decide +kernel
theorem dC_calmest_52 : decode bC_calmest 52 = .ok (.invokevirtual 266, 3) := by decide +kernel
theorem dC_calmest_55 : decode bC_calmest 55 = .ok (.aload_n 0, 1) := by decide +kernel
theorem dC_calmest_56 : decode bC_calmest 56 = .ok (.getfield 57, 3) := by decide +kernel
theorem dC_calmest_59 : decode bC_calmest 59 = .ok (.getfield 259, 3) := by decide +kernel
theorem dC_calmest_62 : decode bC_calmest 62 = .ok (.ifCond .ge 6, 3) := by decide +kernel
theorem dC_calmest_65 : decode bC_calmest 65 = .ok (.bipush (-9), 2) := by decide +kernel
theorem dC_calmest_67 : decode bC_calmest 67 = .ok (.ireturn, 1) := by decide +kernel
theorem dC_calmest_68 : decode bC_calmest 68 = .ok (.aload_n 0, 1) := by decide +kernel
theorem dC_calmest_69 : decode bC_calmest 69 = .ok (.iload_n 2, 1) := by decide +kernel
theorem dC_calmest_70 : decode bC_calmest 70 = .ok (.aload_n 0, 1) := by decide +kernel
theorem dC_calmest_71 : decode bC_calmest 71 = .ok (.getfield 57, 3) := by decide +kernel
theorem dC_calmest_74 : decode bC_calmest 74 = .ok (.getfield 256, 3) := by decide +kernel
theorem dC_calmest_77 : decode bC_calmest 77 = .ok (.aload_n 0, 1) := by decide +kernel
theorem dC_calmest_78 : decode bC_calmest 78 = .ok (.getfield 57, 3) := by decide +kernel
theorem dC_calmest_81 : decode bC_calmest 81 = .ok (.getfield 259, 3) := by decide +kernel
theorem dC_calmest_84 : decode bC_calmest 84 = .ok (.invokevirtual 262, 3) := by decide +kernel
theorem dC_calmest_87 : decode bC_calmest 87 = .ok (.aload_n 0, 1) := by decide +kernel
theorem dC_calmest_88 : decode bC_calmest 88 = .ok (.getfield 57, 3) := by decide +kernel
theorem dC_calmest_91 : decode bC_calmest 91 = .ok (.getfield 270, 3) := by decide +kernel
theorem dC_calmest_94 : decode bC_calmest 94 = .ok (.ireturn, 1) := by decide +kernel
def f_C_calmest (n : Nat) (x1 : Int32) (x2 : Int32) (s : mb_T) : Option (Int32 × mb_T) := if x1 < 0 then some ((-1), s) else if 6 < x1 then some ((-1), s) else mb_cl (f_C_isRow n x2 s) fun r_5 s_3 => if r_5 = 0 then some ((-1), s_3) else if (s_3.1 100 0) = 0 then some ((-4), s_3) else mb_cw (f_A_begin n 100 s_3) fun s_8 => mb_cw (f_S_findCalmest n x1 s_8) fun s_10 => if 0 ≤ (s_10.1 60 4) then (mb_cw (f_C_fillRow n x2 64 6 (s_10.1 60 4) s_10) fun s_13 => some ((s_13.1 60 5), s_13)) else some ((-9), s_10)
set_option maxHeartbeats 4000000 in
set_option maxRecDepth 100000 in
theorem t_C_calmest {dd n : Nat} {x1 : Int32} {x2 : Int32} {s : mb_T} {out : Int32 × mb_T}  (h : f_C_calmest n x1 x2 s = some out) : mb_MC (dd + 17) yC_calmest bC_calmest 3 (some .int) [.ref 0, .int x1, .int x2] s (some (.int out.1)) out.2 := by
  unfold f_C_calmest at h
  refine mj_mc (lv := [.ref 0, .int x1, .int x2]) mC_calmest rfl rfl (Nat.le_of_ble_eq_true rfl) (fun K hK hR => ?_)
  have hK : mj_C (dd + 17) 0 0 RC_c "calmest" bC_calmest 3 K := hK
  refine ro_iload_n hK dC_calmest_0 rfl ?_
  refine ro_if_lt (tgt := 17) hK dC_calmest_1 (by decide) (fun c_1 => ?_) (fun c_1 => ?_)
  · replace h := mb_ift c_1 h
    refine ro_iconst (x := (-1)) hK (by decide) dC_calmest_17 ?_
    cases h
    exact hR.1 0 0 18 _ _ _ _ rfl rfl dC_calmest_18 ⟨rfl, rfl⟩
  · replace h := mb_iff c_1 h
    refine ro_iload_n hK dC_calmest_4 rfl ?_
    refine ro_bipush (x := 6) hK (by decide) dC_calmest_5 ?_
    refine ro_icmp_gt (tgt := 17) hK dC_calmest_7 (by decide) (fun c_2 => ?_) (fun c_2 => ?_)
    · replace h := mb_ift c_2 h
      refine ro_iconst (x := (-1)) hK (by decide) dC_calmest_17 ?_
      cases h
      exact hR.1 0 0 18 _ _ _ _ rfl rfl dC_calmest_18 ⟨rfl, rfl⟩
    · replace h := mb_iff c_2 h
      refine ro_iload_n hK dC_calmest_10 rfl ?_
      obtain ⟨r_5, s_3, q_4, h⟩ := mb_cl_e h
      refine rb_callS hK mC_isRow vC_83 (t_C_isRow (dd := dd + 15) q_4) rfl (Nat.le_of_ble_eq_true rfl) dC_calmest_11 rfl ⟨Nat.le_refl _, Nat.le_refl _⟩ ?_
      show K 0 0 14 [.ref 0, .int x1, .int x2] [.int r_5] (mb_s s_3)
      refine ro_if_ne (tgt := 19) hK dC_calmest_14 (by decide) (fun c_6 => ?_) (fun c_6 => ?_)
      · replace h := mb_iff c_6 h
        refine ro_aload_n hK dC_calmest_19 rfl ?_
        refine rb_get hK fC_29 mb_oC rfl dC_calmest_20 ?_
        refine rb_get hK fC_128 (mb_cvo (Or.inl rfl)) rfl dC_calmest_23 ?_
        refine ro_if_ne (tgt := 32) hK dC_calmest_26 (by decide) (fun c_7 => ?_) (fun c_7 => ?_)
        · replace h := mb_iff c_7 h
          refine ro_aload_n hK dC_calmest_32 rfl ?_
          refine rb_get hK fC_50 mb_oC rfl dC_calmest_33 ?_
          refine ro_aload_n hK dC_calmest_36 rfl ?_
          refine rb_get hK fC_29 mb_oC rfl dC_calmest_37 ?_
          obtain ⟨s_8, q_9, h⟩ := mb_cw_e h
          refine rb_callV hK mA_begin vC_144 (t_A_begin (dd := dd + 13) (Or.inl rfl) q_9) rfl mb_oA rfl (Nat.le_of_ble_eq_true rfl) dC_calmest_40 rfl ⟨Nat.le_refl _, Nat.le_refl _⟩ ?_
          show K 0 0 43 [.ref 0, .int x1, .int x2] [] (mb_s s_8)
          refine ro_aload_n hK dC_calmest_43 rfl ?_
          refine rb_get hK fC_57 mb_oC rfl dC_calmest_44 ?_
          refine ro_aload_n hK dC_calmest_47 rfl ?_
          refine rb_get hK fC_50 mb_oC rfl dC_calmest_48 ?_
          refine ro_iload_n hK dC_calmest_51 rfl ?_
          obtain ⟨s_10, q_11, h⟩ := mb_cw_e h
          refine rb_callV hK mS_findCalmest vC_266 (t_S_findCalmest (dd := dd + 0) q_11) rfl mb_oS rfl (Nat.le_of_ble_eq_true rfl) dC_calmest_52 rfl ⟨Nat.le_refl _, Nat.le_refl _⟩ ?_
          show K 0 0 55 [.ref 0, .int x1, .int x2] [] (mb_s s_10)
          refine ro_aload_n hK dC_calmest_55 rfl ?_
          refine rb_get hK fC_57 mb_oC rfl dC_calmest_56 ?_
          refine rb_get hK fC_259 mb_oS rfl dC_calmest_59 ?_
          refine ro_if_ge (tgt := 68) hK dC_calmest_62 (by decide) (fun c_12 => ?_) (fun c_12 => ?_)
          · replace h := mb_ift c_12 h
            refine ro_aload_n hK dC_calmest_68 rfl ?_
            refine ro_iload_n hK dC_calmest_69 rfl ?_
            refine ro_aload_n hK dC_calmest_70 rfl ?_
            refine rb_get hK fC_57 mb_oC rfl dC_calmest_71 ?_
            refine rb_get hK fC_256 mb_oS rfl dC_calmest_74 ?_
            refine ro_aload_n hK dC_calmest_77 rfl ?_
            refine rb_get hK fC_57 mb_oC rfl dC_calmest_78 ?_
            refine rb_get hK fC_259 mb_oS rfl dC_calmest_81 ?_
            obtain ⟨s_13, q_14, h⟩ := mb_cw_e h
            refine rb_callV hK mC_fillRow vC_262 (t_C_fillRow (dd := dd + 15) ai_64 q_14) rfl mb_oC rfl (Nat.le_of_ble_eq_true rfl) dC_calmest_84 rfl ⟨Nat.le_refl _, Nat.le_refl _⟩ ?_
            show K 0 0 87 [.ref 0, .int x1, .int x2] [] (mb_s s_13)
            refine ro_aload_n hK dC_calmest_87 rfl ?_
            refine rb_get hK fC_57 mb_oC rfl dC_calmest_88 ?_
            refine rb_get hK fC_270 mb_oS rfl dC_calmest_91 ?_
            cases h
            exact hR.1 0 0 94 _ _ _ _ rfl rfl dC_calmest_94 ⟨rfl, rfl⟩
          · replace h := mb_iff c_12 h
            refine ro_bipush (x := (-9)) hK (by decide) dC_calmest_65 ?_
            cases h
            exact hR.1 0 0 67 _ _ _ _ rfl rfl dC_calmest_67 ⟨rfl, rfl⟩
        · replace h := mb_ift c_7 h
          refine ro_bipush (x := (-4)) hK (by decide) dC_calmest_29 ?_
          cases h
          exact hR.1 0 0 31 _ _ _ _ rfl rfl dC_calmest_31 ⟨rfl, rfl⟩
      · replace h := mb_ift c_6 h
        refine ro_iconst (x := (-1)) hK (by decide) dC_calmest_17 ?_
        cases h
        exact hR.1 0 0 18 _ _ _ _ rfl rfl dC_calmest_18 ⟨rfl, rfl⟩
theorem dC_longest_0 : decode bC_longest 0 = .ok (.iload_n 1, 1) := by decide +kernel
theorem dC_longest_1 : decode bC_longest 1 = .ok (.invokestatic 83, 3) := by decide +kernel
theorem dC_longest_4 : decode bC_longest 4 = .ok (.ifCond .ne 5, 3) := by decide +kernel
theorem dC_longest_7 : decode bC_longest 7 = .ok (.iconst (-1), 1) := by decide +kernel
theorem dC_longest_8 : decode bC_longest 8 = .ok (.ireturn, 1) := by decide +kernel
theorem dC_longest_9 : decode bC_longest 9 = .ok (.aload_n 0, 1) := by decide +kernel
theorem dC_longest_10 : decode bC_longest 10 = .ok (.getfield 29, 3) := by decide +kernel
theorem dC_longest_13 : decode bC_longest 13 = .ok (.getfield 128, 3) := by decide +kernel
theorem dC_longest_16 : decode bC_longest 16 = .ok (.ifCond .ne 6, 3) := by decide +kernel
theorem dC_longest_19 : decode bC_longest 19 = .ok (.bipush (-4), 2) := by decide +kernel
theorem dC_longest_21 : decode bC_longest 21 = .ok (.ireturn, 1) := by decide +kernel
theorem dC_longest_22 : decode bC_longest 22 = .ok (.aload_n 0, 1) := by decide +kernel
theorem dC_longest_23 : decode bC_longest 23 = .ok (.getfield 50, 3) := by decide +kernel
theorem dC_longest_26 : decode bC_longest 26 = .ok (.aload_n 0, 1) := by decide +kernel
theorem dC_longest_27 : decode bC_longest 27 = .ok (.getfield 29, 3) := by decide +kernel
theorem dC_longest_30 : decode bC_longest 30 = .ok (.invokevirtual 144, 3) := by decide +kernel
theorem dC_longest_33 : decode bC_longest 33 = .ok (.aload_n 0, 1) := by decide +kernel
theorem dC_longest_34 : decode bC_longest 34 = .ok (.getfield 57, 3) := by decide +kernel
theorem dC_longest_37 : decode bC_longest 37 = .ok (.aload_n 0, 1) := by decide +kernel
theorem dC_longest_38 : decode bC_longest 38 = .ok (.getfield 50, 3) := by decide +kernel
theorem dC_longest_41 : decode bC_longest 41 = .ok (.invokevirtual 253, 3) := by decide +kernel
theorem dC_longest_44 : decode bC_longest 44 = .ok (.aload_n 0, 1) := by decide +kernel
theorem dC_longest_45 : decode bC_longest 45 = .ok (.iload_n 1, 1) := by decide +kernel
theorem dC_longest_46 : decode bC_longest 46 = .ok (.aload_n 0, 1) := by decide +kernel
theorem dC_longest_47 : decode bC_longest 47 = .ok (.getfield 57, 3) := by decide +kernel
theorem dC_longest_50 : decode bC_longest 50 = .ok (.getfield 256, 3) := by decide +kernel
theorem dC_longest_53 : decode bC_longest 53 = .ok (.aload_n 0, 1) := by decide +kernel
theorem dC_longest_54 : decode bC_longest 54 = .ok (.getfield 57, 3) := by decide +kernel
theorem dC_longest_57 : decode bC_longest 57 = .ok (.getfield 259, 3) := by decide +kernel
theorem dC_longest_60 : decode bC_longest 60 = .ok (.invokevirtual 262, 3) := by decide +kernel
theorem dC_longest_63 : decode bC_longest 63 = .ok (.aload_n 0, 1) := by decide +kernel
theorem dC_longest_64 : decode bC_longest 64 = .ok (.getfield 57, 3) := by decide +kernel
theorem dC_longest_67 : decode bC_longest 67 = .ok (.getfield 259, 3) := by decide +kernel
theorem dC_longest_70 : decode bC_longest 70 = .ok (.ireturn, 1) := by decide +kernel
def f_C_longest (n : Nat) (x1 : Int32) (s : mb_T) : Option (Int32 × mb_T) := mb_cl (f_C_isRow n x1 s) fun r_3 s_1 => if r_3 = 0 then some ((-1), s_1) else if (s_1.1 100 0) = 0 then some ((-4), s_1) else mb_cw (f_A_begin n 100 s_1) fun s_6 => mb_cw (f_S_findLongest n s_6) fun s_8 => mb_cw (f_C_fillRow n x1 64 6 (s_8.1 60 4) s_8) fun s_10 => some ((s_10.1 60 4), s_10)
set_option maxHeartbeats 4000000 in
set_option maxRecDepth 100000 in
theorem t_C_longest {dd n : Nat} {x1 : Int32} {s : mb_T} {out : Int32 × mb_T}  (h : f_C_longest n x1 s = some out) : mb_MC (dd + 17) yC_longest bC_longest 2 (some .int) [.ref 0, .int x1] s (some (.int out.1)) out.2 := by
  unfold f_C_longest at h
  refine mj_mc (lv := [.ref 0, .int x1]) mC_longest rfl rfl (Nat.le_of_ble_eq_true rfl) (fun K hK hR => ?_)
  have hK : mj_C (dd + 17) 0 0 RC_c "longest" bC_longest 2 K := hK
  refine ro_iload_n hK dC_longest_0 rfl ?_
  obtain ⟨r_3, s_1, q_2, h⟩ := mb_cl_e h
  refine rb_callS hK mC_isRow vC_83 (t_C_isRow (dd := dd + 15) q_2) rfl (Nat.le_of_ble_eq_true rfl) dC_longest_1 rfl ⟨Nat.le_refl _, Nat.le_refl _⟩ ?_
  show K 0 0 4 [.ref 0, .int x1] [.int r_3] (mb_s s_1)
  refine ro_if_ne (tgt := 9) hK dC_longest_4 (by decide) (fun c_4 => ?_) (fun c_4 => ?_)
  · replace h := mb_iff c_4 h
    refine ro_aload_n hK dC_longest_9 rfl ?_
    refine rb_get hK fC_29 mb_oC rfl dC_longest_10 ?_
    refine rb_get hK fC_128 (mb_cvo (Or.inl rfl)) rfl dC_longest_13 ?_
    refine ro_if_ne (tgt := 22) hK dC_longest_16 (by decide) (fun c_5 => ?_) (fun c_5 => ?_)
    · replace h := mb_iff c_5 h
      refine ro_aload_n hK dC_longest_22 rfl ?_
      refine rb_get hK fC_50 mb_oC rfl dC_longest_23 ?_
      refine ro_aload_n hK dC_longest_26 rfl ?_
      refine rb_get hK fC_29 mb_oC rfl dC_longest_27 ?_
      obtain ⟨s_6, q_7, h⟩ := mb_cw_e h
      refine rb_callV hK mA_begin vC_144 (t_A_begin (dd := dd + 13) (Or.inl rfl) q_7) rfl mb_oA rfl (Nat.le_of_ble_eq_true rfl) dC_longest_30 rfl ⟨Nat.le_refl _, Nat.le_refl _⟩ ?_
      show K 0 0 33 [.ref 0, .int x1] [] (mb_s s_6)
      refine ro_aload_n hK dC_longest_33 rfl ?_
      refine rb_get hK fC_57 mb_oC rfl dC_longest_34 ?_
      refine ro_aload_n hK dC_longest_37 rfl ?_
      refine rb_get hK fC_50 mb_oC rfl dC_longest_38 ?_
      obtain ⟨s_8, q_9, h⟩ := mb_cw_e h
      refine rb_callV hK mS_findLongest vC_253 (t_S_findLongest (dd := dd + 0) q_9) rfl mb_oS rfl (Nat.le_of_ble_eq_true rfl) dC_longest_41 rfl ⟨Nat.le_refl _, Nat.le_refl _⟩ ?_
      show K 0 0 44 [.ref 0, .int x1] [] (mb_s s_8)
      refine ro_aload_n hK dC_longest_44 rfl ?_
      refine ro_iload_n hK dC_longest_45 rfl ?_
      refine ro_aload_n hK dC_longest_46 rfl ?_
      refine rb_get hK fC_57 mb_oC rfl dC_longest_47 ?_
      refine rb_get hK fC_256 mb_oS rfl dC_longest_50 ?_
      refine ro_aload_n hK dC_longest_53 rfl ?_
      refine rb_get hK fC_57 mb_oC rfl dC_longest_54 ?_
      refine rb_get hK fC_259 mb_oS rfl dC_longest_57 ?_
      obtain ⟨s_10, q_11, h⟩ := mb_cw_e h
      refine rb_callV hK mC_fillRow vC_262 (t_C_fillRow (dd := dd + 15) ai_64 q_11) rfl mb_oC rfl (Nat.le_of_ble_eq_true rfl) dC_longest_60 rfl ⟨Nat.le_refl _, Nat.le_refl _⟩ ?_
      show K 0 0 63 [.ref 0, .int x1] [] (mb_s s_10)
      refine ro_aload_n hK dC_longest_63 rfl ?_
      refine rb_get hK fC_57 mb_oC rfl dC_longest_64 ?_
      refine rb_get hK fC_259 mb_oS rfl dC_longest_67 ?_
      cases h
      exact hR.1 0 0 70 _ _ _ _ rfl rfl dC_longest_70 ⟨rfl, rfl⟩
    · replace h := mb_ift c_5 h
      refine ro_bipush (x := (-4)) hK (by decide) dC_longest_19 ?_
      cases h
      exact hR.1 0 0 21 _ _ _ _ rfl rfl dC_longest_21 ⟨rfl, rfl⟩
  · replace h := mb_ift c_4 h
    refine ro_iconst (x := (-1)) hK (by decide) dC_longest_7 ?_
    cases h
    exact hR.1 0 0 8 _ _ _ _ rfl rfl dC_longest_8 ⟨rfl, rfl⟩
theorem dM_orderOn_0 : decode bM_orderOn 0 = .ok (.iload_n 1, 1) := by decide +kernel
theorem dM_orderOn_1 : decode bM_orderOn 1 = .ok (.aload_n 0, 1) := by decide +kernel
theorem dM_orderOn_2 : decode bM_orderOn 2 = .ok (.getfield 161, 3) := by decide +kernel
theorem dM_orderOn_5 : decode bM_orderOn 5 = .ok (.if_icmp .ne 72, 3) := by decide +kernel
theorem dM_orderOn_8 : decode bM_orderOn 8 = .ok (.aload_n 0, 1) := by decide +kernel
theorem dM_orderOn_9 : decode bM_orderOn 9 = .ok (.invokevirtual 284, 3) := by decide +kernel
theorem dM_orderOn_12 : decode bM_orderOn 12 = .ok (.istore_n 3, 1) := by decide +kernel
theorem dM_orderOn_13 : decode bM_orderOn 13 = .ok (.aload_n 0, 1) := by decide +kernel
theorem dM_orderOn_14 : decode bM_orderOn 14 = .ok (.getfield 287, 3) := by decide +kernel
theorem dM_orderOn_17 : decode bM_orderOn 17 = .ok (.ifCond .eq 17, 3) := by decide +kernel
theorem dM_orderOn_20 : decode bM_orderOn 20 = .ok (.iload_n 3, 1) := by decide +kernel
theorem dM_orderOn_21 : decode bM_orderOn 21 = .ok (.invokestatic 235, 3) := by decide +kernel
theorem dM_orderOn_24 : decode bM_orderOn 24 = .ok (.aload_n 0, 1) := by decide +kernel
theorem dM_orderOn_25 : decode bM_orderOn 25 = .ok (.getfield 291, 3) := by decide +kernel
theorem dM_orderOn_28 : decode bM_orderOn 28 = .ok (.invokestatic 235, 3) := by decide +kernel
theorem dM_orderOn_31 : decode bM_orderOn 31 = .ok (.if_icmp .le 45, 3) := by decide +kernel
theorem dM_orderOn_34 : decode bM_orderOn 34 = .ok (.aload_n 0, 1) := by decide +kernel
theorem dM_orderOn_35 : decode bM_orderOn 35 = .ok (.iconst 1, 1) := by decide +kernel
theorem dM_orderOn_36 : decode bM_orderOn 36 = .ok (.putfield 287, 3) := by decide +kernel
theorem dM_orderOn_39 : decode bM_orderOn 39 = .ok (.aload_n 0, 1) := by decide +kernel
theorem dM_orderOn_40 : decode bM_orderOn 40 = .ok (.iload_n 3, 1) := by decide +kernel
theorem dM_orderOn_41 : decode bM_orderOn 41 = .ok (.putfield 291, 3) := by decide +kernel
theorem dM_orderOn_44 : decode bM_orderOn 44 = .ok (.iconst 0, 1) := by decide +kernel
theorem dM_orderOn_45 : decode bM_orderOn 45 = .ok (.istore 4, 2) := by decide +kernel
theorem dM_orderOn_47 : decode bM_orderOn 47 = .ok (.iload 4, 2) := by decide +kernel
theorem dM_orderOn_49 : decode bM_orderOn 49 = .ok (.aload_n 0, 1) := by decide +kernel
theorem dM_orderOn_50 : decode bM_orderOn 50 = .ok (.getfield 161, 3) := by decide +kernel
theorem dM_orderOn_53 : decode bM_orderOn 53 = .ok (.if_icmp .ge 23, 3) := by decide +kernel
theorem dM_orderOn_56 : decode bM_orderOn 56 = .ok (.aload_n 0, 1) := by decide +kernel
theorem dM_orderOn_57 : decode bM_orderOn 57 = .ok (.getfield 83, 3) := by decide +kernel
theorem dM_orderOn_60 : decode bM_orderOn 60 = .ok (.iload 4, 2) := by decide +kernel
theorem dM_orderOn_62 : decode bM_orderOn 62 = .ok (.aload_n 0, 1) := by decide +kernel
theorem dM_orderOn_63 : decode bM_orderOn 63 = .ok (.getfield 80, 3) := by decide +kernel
theorem dM_orderOn_66 : decode bM_orderOn 66 = .ok (.iload 4, 2) := by decide +kernel
theorem dM_orderOn_68 : decode bM_orderOn 68 = .ok (.iaload, 1) := by decide +kernel
theorem dM_orderOn_69 : decode bM_orderOn 69 = .ok (.iastore, 1) := by decide +kernel
theorem dM_orderOn_70 : decode bM_orderOn 70 = .ok (.iinc 4 1, 3) := by decide +kernel
theorem dM_orderOn_73 : decode bM_orderOn 73 = .ok (.goto (-26), 3) := by decide +kernel
theorem dM_orderOn_76 : decode bM_orderOn 76 = .ok (.return_, 1) := by decide +kernel
theorem dM_orderOn_77 : decode bM_orderOn 77 = .ok (.iconst 0, 1) := by decide +kernel
theorem dM_orderOn_78 : decode bM_orderOn 78 = .ok (.istore_n 3, 1) := by decide +kernel
theorem dM_orderOn_79 : decode bM_orderOn 79 = .ok (.iload_n 3, 1) := by decide +kernel
theorem dM_orderOn_80 : decode bM_orderOn 80 = .ok (.aload_n 0, 1) := by decide +kernel
theorem dM_orderOn_81 : decode bM_orderOn 81 = .ok (.getfield 161, 3) := by decide +kernel
theorem dM_orderOn_84 : decode bM_orderOn 84 = .ok (.if_icmp .ge 38, 3) := by decide +kernel
theorem dM_orderOn_87 : decode bM_orderOn 87 = .ok (.iload_n 2, 1) := by decide +kernel
theorem dM_orderOn_88 : decode bM_orderOn 88 = .ok (.iload_n 3, 1) := by decide +kernel
theorem dM_orderOn_89 : decode bM_orderOn 89 = .ok (.invokestatic 176, 3) := by decide +kernel
theorem dM_orderOn_92 : decode bM_orderOn 92 = .ok (.ifCond .eq 24, 3) := by decide +kernel
theorem dM_orderOn_95 : decode bM_orderOn 95 = .ok (.aload_n 0, 1) := by decide +kernel
theorem dM_orderOn_96 : decode bM_orderOn 96 = .ok (.getfield 80, 3) := by decide +kernel
theorem dM_orderOn_99 : decode bM_orderOn 99 = .ok (.iload_n 1, 1) := by decide +kernel
theorem dM_orderOn_100 : decode bM_orderOn 100 = .ok (.iload_n 3, 1) := by decide +kernel
theorem dM_orderOn_101 : decode bM_orderOn 101 = .ok (.iastore, 1) := by decide +kernel
theorem dM_orderOn_102 : decode bM_orderOn 102 = .ok (.aload_n 0, 1) := by decide +kernel
theorem dM_orderOn_103 : decode bM_orderOn 103 = .ok (.iload_n 1, 1) := by decide +kernel
theorem dM_orderOn_104 : decode bM_orderOn 104 = .ok (.iconst 1, 1) := by decide +kernel
theorem dM_orderOn_105 : decode bM_orderOn 105 = .ok (.iadd, 1) := by decide +kernel
theorem dM_orderOn_106 : decode bM_orderOn 106 = .ok (.iload_n 2, 1) := by decide +kernel
theorem dM_orderOn_107 : decode bM_orderOn 107 = .ok (.iconst 1, 1) := by decide +kernel
theorem dM_orderOn_108 : decode bM_orderOn 108 = .ok (.iload_n 3, 1) := by decide +kernel
theorem dM_orderOn_109 : decode bM_orderOn 109 = .ok (.ishl, 1) := by decide +kernel
theorem dM_orderOn_110 : decode bM_orderOn 110 = .ok (.iconst (-1), 1) := by decide +kernel
theorem dM_orderOn_111 : decode bM_orderOn 111 = .ok (.ixor, 1) := by decide +kernel
theorem dM_orderOn_112 : decode bM_orderOn 112 = .ok (.iand, 1) := by decide +kernel
theorem dM_orderOn_113 : decode bM_orderOn 113 = .ok (.invokevirtual 294, 3) := by decide +kernel
theorem dM_orderOn_116 : decode bM_orderOn 116 = .ok (.iinc 3 1, 3) := by decide +kernel
theorem dM_orderOn_119 : decode bM_orderOn 119 = .ok (.goto (-40), 3) := by decide +kernel
theorem dM_orderOn_122 : decode bM_orderOn 122 = .ok (.return_, 1) := by decide +kernel
def f_M_orderOn_79 (n : Nat) (rec : Int32 → Int32 → mb_T → Option (mb_T)) (k0 : Int32 → mb_T → Option (mb_T)) (y1 : Int32) (y2 : Int32) : Nat → Int32 → mb_T → Option (mb_T)
  | 0, _, _ => none
  | f + 1, w3, s => if (s.1 200 8) ≤ w3 then k0 w3 s else mb_cl (f_M_has n y2 w3 s) fun r_5 s_3 => if r_5 = 0 then f_M_orderOn_79 n rec k0 y1 y2 f (w3 + 1) s_3 else mb_wr s_3 239 5 y1 w3 fun s_7 => mb_cw (rec (y1 + 1) (y2 &&& ((1 <<< (w3 &&& 31)) ^^^ (-1))) s_7) fun s_10 => f_M_orderOn_79 n rec k0 y1 y2 f (w3 + 1) s_10
def f_M_orderOn_47 (n : Nat) (k0 : Int32 → mb_T → Option (mb_T))  : Nat → Int32 → mb_T → Option (mb_T)
  | 0, _, _ => none
  | f + 1, w4, s => if (s.1 200 8) ≤ w4 then k0 w4 s else mb_rd s 239 5 w4 fun x_32 => mb_wr s 240 5 w4 x_32 fun s_35 => f_M_orderOn_47 n k0 f (w4 + 1) s_35
def f_M_orderOn_b (n : Nat) (rec : Int32 → Int32 → mb_T → Option (mb_T)) (x1 : Int32) (x2 : Int32) (s : mb_T) : Option (mb_T) := if x1 = (s.1 200 8) then (mb_cl (f_M_holdsSo n s) fun r_16 s_14 => mb_jn (fun (s_26 : mb_T) => mb_bd (sF s_26 200 42 1) fun s_27 => mb_bd (sF s_27 200 41 r_16) fun s_29 => f_M_orderOn_47 n (fun x_38 s_39 => some s_39) n 0 s_29) fun j_17 => if (s_14.1 200 42) = 0 then j_17 s_14 else mb_cl (f_M_longBy n r_16 s_14) fun r_21 s_19 => mb_cl (f_M_longBy n (s_19.1 200 41) s_19) fun r_24 s_22 => if r_21 ≤ r_24 then some s_22 else j_17 s_22) else f_M_orderOn_79 n rec (fun x_12 s_13 => some s_13) x1 x2 n 0 s
def f_M_orderOn (n : Nat) : Nat → Int32 → Int32 → mb_T → Option (mb_T)
  | 0 => fun _ _ _ => none
  | q + 1 => f_M_orderOn_b n (f_M_orderOn n q)
set_option maxHeartbeats 4000000 in
set_option maxRecDepth 100000 in
theorem tl_M_orderOn_79 {dd n : Nat} {K : mj_KT} {out : mb_T} (hK : mj_C (dd + 7) 0 0 RM_c "orderOn" bM_orderOn 5 K) (hR : mj_R bM_orderOn none (fun r2 S2 => r2 = none ∧ S2 = mb_s out) K) {rec : Int32 → Int32 → mb_T → Option (mb_T)} (hrec : ∀ {x1 x2 : Int32} {s s1 : mb_T}, rec x1 x2 s = some s1 → mb_MC (dd + 6) yM_orderOn bM_orderOn 5 none [.ref 200, .int x1, .int x2] s none s1) {k0 : Int32 → mb_T → Option (mb_T)} {y1 : Int32} {y2 : Int32} (hk0 : ∀ (w3 : Int32) (s : mb_T), k0 w3 s = some out → K 0 0 122 [.ref 200, .int y1, .int y2, .int w3, .retAddr 0] [] (mb_s s)) : ∀ (f : Nat) (w3 : Int32) (s : mb_T), f_M_orderOn_79 n rec k0 y1 y2 f w3 s = some out → K 0 0 79 [.ref 200, .int y1, .int y2, .int w3, .retAddr 0] [] (mb_s s) := by
  intro f
  induction f with
  | zero =>
    intro w3 s h
    cases h
  | succ f ih =>
    intro w3 s h
    rw [f_M_orderOn_79] at h
    refine ro_iload_n hK dM_orderOn_79 rfl ?_
    refine ro_aload_n hK dM_orderOn_80 rfl ?_
    refine rb_get hK fM_161 mb_oM rfl dM_orderOn_81 ?_
    refine ro_icmp_ge (tgt := 122) hK dM_orderOn_84 (by decide) (fun c_2 => ?_) (fun c_2 => ?_)
    · replace h := mb_ift c_2 h
      refine ro_fg (lv' := [.ref 200, .int y1, .int y2, .int w3, .retAddr 0]) hK ⟨Or.inr rfl, ⟨Or.inr rfl, ⟨Or.inr rfl, ⟨Or.inr rfl, ⟨Or.inl rfl, trivial⟩⟩⟩⟩⟩ ?_
      exact hk0 _ _ h
    · replace h := mb_iff c_2 h
      refine ro_iload_n hK dM_orderOn_87 rfl ?_
      refine ro_iload_n hK dM_orderOn_88 rfl ?_
      obtain ⟨r_5, s_3, q_4, h⟩ := mb_cl_e h
      refine rb_callS hK mM_has vM_176 (t_M_has (dd := dd + 5) q_4) rfl (Nat.le_of_ble_eq_true rfl) dM_orderOn_89 rfl ⟨Nat.le_refl _, Nat.le_refl _⟩ ?_
      show K 0 0 92 [.ref 200, .int y1, .int y2, .int w3, .retAddr 0] [.int r_5] (mb_s s_3)
      refine ro_if_eq (tgt := 116) hK dM_orderOn_92 (by decide) (fun c_6 => ?_) (fun c_6 => ?_)
      · replace h := mb_ift c_6 h
        refine ro_iincv (c := 1) hK (by decide) dM_orderOn_116 rfl (by decide) ?_
        show K 0 0 119 [.ref 200, .int y1, .int y2, .int (w3 + 1), .retAddr 0] [] (mb_s s_3)
        refine ro_goto (tgt := 79) hK dM_orderOn_119 (by decide) ?_
        refine ro_fg (lv' := [.ref 200, .int y1, .int y2, .int (w3 + 1), .retAddr 0]) hK ⟨Or.inr rfl, ⟨Or.inr rfl, ⟨Or.inr rfl, ⟨Or.inr rfl, ⟨Or.inl rfl, trivial⟩⟩⟩⟩⟩ ?_
        exact ih _ _ h
      · replace h := mb_iff c_6 h
        refine ro_aload_n hK dM_orderOn_95 rfl ?_
        refine rb_get hK fM_80 mb_oM rfl dM_orderOn_96 ?_
        refine ro_iload_n hK dM_orderOn_99 rfl ?_
        refine ro_iload_n hK dM_orderOn_100 rfl ?_
        obtain ⟨s_7, e_8, i_9, h⟩ := mb_wr_e h
        refine rb_iast hK ai_239 i_9 e_8 dM_orderOn_101 ?_
        refine ro_aload_n hK dM_orderOn_102 rfl ?_
        refine ro_iload_n hK dM_orderOn_103 rfl ?_
        refine ro_iconst (x := 1) hK (by decide) dM_orderOn_104 ?_
        refine ro_iadd hK dM_orderOn_105 ?_
        refine ro_iload_n hK dM_orderOn_106 rfl ?_
        refine ro_iconst (x := 1) hK (by decide) dM_orderOn_107 ?_
        refine ro_iload_n hK dM_orderOn_108 rfl ?_
        refine ro_ishl hK dM_orderOn_109 ?_
        refine ro_iconst (x := (-1)) hK (by decide) dM_orderOn_110 ?_
        refine ro_ixor hK dM_orderOn_111 ?_
        refine ro_iand hK dM_orderOn_112 ?_
        obtain ⟨s_10, q_11, h⟩ := mb_cw_e h
        refine rb_callV hK mM_orderOn vM_294 (hrec q_11) rfl mb_oM rfl (Nat.le_of_ble_eq_true rfl) dM_orderOn_113 rfl ⟨Nat.le_refl _, Nat.le_refl _⟩ ?_
        show K 0 0 116 [.ref 200, .int y1, .int y2, .int w3, .retAddr 0] [] (mb_s s_10)
        refine ro_iincv (c := 1) hK (by decide) dM_orderOn_116 rfl (by decide) ?_
        show K 0 0 119 [.ref 200, .int y1, .int y2, .int (w3 + 1), .retAddr 0] [] (mb_s s_10)
        refine ro_goto (tgt := 79) hK dM_orderOn_119 (by decide) ?_
        refine ro_fg (lv' := [.ref 200, .int y1, .int y2, .int (w3 + 1), .retAddr 0]) hK ⟨Or.inr rfl, ⟨Or.inr rfl, ⟨Or.inr rfl, ⟨Or.inr rfl, ⟨Or.inl rfl, trivial⟩⟩⟩⟩⟩ ?_
        exact ih _ _ h
set_option maxHeartbeats 4000000 in
set_option maxRecDepth 100000 in
theorem tl_M_orderOn_47 {dd n : Nat} {K : mj_KT} {out : mb_T} (hK : mj_C (dd + 7) 0 0 RM_c "orderOn" bM_orderOn 5 K) (hR : mj_R bM_orderOn none (fun r2 S2 => r2 = none ∧ S2 = mb_s out) K) {k0 : Int32 → mb_T → Option (mb_T)}  (hk0 : ∀ (w4 : Int32) (s : mb_T), k0 w4 s = some out → K 0 0 76 [.ref 200, .retAddr 0, .retAddr 0, .retAddr 0, .int w4] [] (mb_s s)) : ∀ (f : Nat) (w4 : Int32) (s : mb_T), f_M_orderOn_47 n k0 f w4 s = some out → K 0 0 47 [.ref 200, .retAddr 0, .retAddr 0, .retAddr 0, .int w4] [] (mb_s s) := by
  intro f
  induction f with
  | zero =>
    intro w4 s h
    cases h
  | succ f ih =>
    intro w4 s h
    rw [f_M_orderOn_47] at h
    refine ro_iload hK dM_orderOn_47 rfl ?_
    refine ro_aload_n hK dM_orderOn_49 rfl ?_
    refine rb_get hK fM_161 mb_oM rfl dM_orderOn_50 ?_
    refine ro_icmp_ge (tgt := 76) hK dM_orderOn_53 (by decide) (fun c_31 => ?_) (fun c_31 => ?_)
    · replace h := mb_ift c_31 h
      refine ro_fg (lv' := [.ref 200, .retAddr 0, .retAddr 0, .retAddr 0, .int w4]) hK ⟨Or.inr rfl, ⟨Or.inl rfl, ⟨Or.inl rfl, ⟨Or.inl rfl, ⟨Or.inr rfl, trivial⟩⟩⟩⟩⟩ ?_
      exact hk0 _ _ h
    · replace h := mb_iff c_31 h
      refine ro_aload_n hK dM_orderOn_56 rfl ?_
      refine rb_get hK fM_83 mb_oM rfl dM_orderOn_57 ?_
      refine ro_iload hK dM_orderOn_60 rfl ?_
      refine ro_aload_n hK dM_orderOn_62 rfl ?_
      refine rb_get hK fM_80 mb_oM rfl dM_orderOn_63 ?_
      refine ro_iload hK dM_orderOn_66 rfl ?_
      obtain ⟨x_32, e_33, i_34, h⟩ := mb_rd_e h
      refine rb_iald hK ai_239 i_34 e_33 dM_orderOn_68 ?_
      obtain ⟨s_35, e_36, i_37, h⟩ := mb_wr_e h
      refine rb_iast hK ai_240 i_37 e_36 dM_orderOn_69 ?_
      refine ro_iincv (c := 1) hK (by decide) dM_orderOn_70 rfl (by decide) ?_
      show K 0 0 73 [.ref 200, .retAddr 0, .retAddr 0, .retAddr 0, .int (w4 + 1)] [] (mb_s s_35)
      refine ro_goto (tgt := 47) hK dM_orderOn_73 (by decide) ?_
      refine ro_fg (lv' := [.ref 200, .retAddr 0, .retAddr 0, .retAddr 0, .int (w4 + 1)]) hK ⟨Or.inr rfl, ⟨Or.inl rfl, ⟨Or.inl rfl, ⟨Or.inl rfl, ⟨Or.inr rfl, trivial⟩⟩⟩⟩⟩ ?_
      exact ih _ _ h
set_option maxHeartbeats 4000000 in
set_option maxRecDepth 100000 in
theorem tb_M_orderOn {dd n : Nat} {rec : Int32 → Int32 → mb_T → Option (mb_T)} (hrec : ∀ {x1 x2 : Int32} {s s1 : mb_T}, rec x1 x2 s = some s1 → mb_MC (dd + 6) yM_orderOn bM_orderOn 5 none [.ref 200, .int x1, .int x2] s none s1) {x1 : Int32} {x2 : Int32} {s : mb_T} {out : mb_T}  (h : f_M_orderOn_b n rec x1 x2 s = some out) : mb_MC (dd + 7) yM_orderOn bM_orderOn 5 none [.ref 200, .int x1, .int x2] s none out := by
  unfold f_M_orderOn_b at h
  refine mj_mc (lv := [.ref 200, .int x1, .int x2, .retAddr 0, .retAddr 0]) mM_orderOn rfl rfl (Nat.le_of_ble_eq_true rfl) (fun K hK hR => ?_)
  have hK : mj_C (dd + 7) 0 0 RM_c "orderOn" bM_orderOn 5 K := hK
  refine ro_iload_n hK dM_orderOn_0 rfl ?_
  refine ro_aload_n hK dM_orderOn_1 rfl ?_
  refine rb_get hK fM_161 mb_oM rfl dM_orderOn_2 ?_
  refine ro_icmp_ne (tgt := 77) hK dM_orderOn_5 (by decide) (fun c_1 => ?_) (fun c_1 => ?_)
  · replace h := mb_iff c_1 h
    refine ro_iconst (x := 0) hK (by decide) dM_orderOn_77 ?_
    refine ro_istore_n hK dM_orderOn_78 (by decide) ?_
    show K 0 0 79 [.ref 200, .int x1, .int x2, .int 0, .retAddr 0] [] (mb_s s)
    refine ro_fg (lv' := [.ref 200, .int x1, .int x2, .int 0, .retAddr 0]) hK ⟨Or.inr rfl, ⟨Or.inr rfl, ⟨Or.inr rfl, ⟨Or.inr rfl, ⟨Or.inl rfl, trivial⟩⟩⟩⟩⟩ ?_
    refine tl_M_orderOn_79 (dd := dd) hK hR hrec (fun x_12 s_13 h => ?_) n _ _ h
    cases h
    exact hR.2.2 0 0 122 _ _ rfl dM_orderOn_122 ⟨rfl, rfl⟩
  · replace h := mb_ift c_1 h
    refine ro_aload_n hK dM_orderOn_8 rfl ?_
    obtain ⟨r_16, s_14, q_15, h⟩ := mb_cl_e h
    refine rb_callV hK mM_holdsSo vM_284 (t_M_holdsSo (dd := dd + 0) q_15) rfl mb_oM rfl (Nat.le_of_ble_eq_true rfl) dM_orderOn_9 rfl ⟨Nat.le_refl _, Nat.le_refl _⟩ ?_
    show K 0 0 12 [.ref 200, .int x1, .int x2, .retAddr 0, .retAddr 0] [.int r_16] (mb_s s_14)
    refine ro_istore_n hK dM_orderOn_12 (by decide) ?_
    show K 0 0 13 [.ref 200, .int x1, .int x2, .int r_16, .retAddr 0] [] (mb_s s_14)
    refine ro_aload_n hK dM_orderOn_13 rfl ?_
    refine rb_get hK fM_287 mb_oM rfl dM_orderOn_14 ?_
    obtain ⟨j_17, e_40, h⟩ := mb_jn_e h
    have hj_17 : ∀ (s_26 : mb_T), j_17 s_26 = some out → K 0 0 34 [.ref 200, .int x1, .int x2, .int r_16, .retAddr 0] [] (mb_s s_26) := by
      intro s_26 h
      rw [e_40] at h
      refine ro_aload_n hK dM_orderOn_34 rfl ?_
      refine ro_iconst (x := 1) hK (by decide) dM_orderOn_35 ?_
      obtain ⟨s_27, e_28, h⟩ := mb_bd_e h
      refine rb_put hK gM_287 mb_oM rfl (by show 42 < 45; decide) (by decide) rfl e_28 dM_orderOn_36 ?_
      refine ro_aload_n hK dM_orderOn_39 rfl ?_
      refine ro_iload_n hK dM_orderOn_40 rfl ?_
      obtain ⟨s_29, e_30, h⟩ := mb_bd_e h
      refine rb_put hK gM_291 mb_oM rfl (by show 41 < 45; decide) rfl rfl e_30 dM_orderOn_41 ?_
      refine ro_iconst (x := 0) hK (by decide) dM_orderOn_44 ?_
      refine ro_istore hK dM_orderOn_45 (by decide) ?_
      show K 0 0 47 [.ref 200, .int x1, .int x2, .int r_16, .int 0] [] (mb_s s_29)
      refine ro_fg (lv' := [.ref 200, .retAddr 0, .retAddr 0, .retAddr 0, .int 0]) hK ⟨Or.inr rfl, ⟨Or.inl rfl, ⟨Or.inl rfl, ⟨Or.inl rfl, ⟨Or.inr rfl, trivial⟩⟩⟩⟩⟩ ?_
      refine tl_M_orderOn_47 (dd := dd) hK hR (fun x_38 s_39 h => ?_) n _ _ h
      cases h
      exact hR.2.2 0 0 76 _ _ rfl dM_orderOn_76 ⟨rfl, rfl⟩
    refine ro_if_eq (tgt := 34) hK dM_orderOn_17 (by decide) (fun c_18 => ?_) (fun c_18 => ?_)
    · replace h := mb_ift c_18 h
      refine ro_fg (lv' := [.ref 200, .int x1, .int x2, .int r_16, .retAddr 0]) hK ⟨Or.inr rfl, ⟨Or.inr rfl, ⟨Or.inr rfl, ⟨Or.inr rfl, ⟨Or.inl rfl, trivial⟩⟩⟩⟩⟩ ?_
      exact hj_17 _ h
    · replace h := mb_iff c_18 h
      refine ro_iload_n hK dM_orderOn_20 rfl ?_
      obtain ⟨r_21, s_19, q_20, h⟩ := mb_cl_e h
      refine rb_callS hK mM_longBy vM_235 (t_M_longBy (dd := dd + 5) q_20) rfl (Nat.le_of_ble_eq_true rfl) dM_orderOn_21 rfl ⟨Nat.le_refl _, Nat.le_refl _⟩ ?_
      show K 0 0 24 [.ref 200, .int x1, .int x2, .int r_16, .retAddr 0] [.int r_21] (mb_s s_19)
      refine ro_aload_n hK dM_orderOn_24 rfl ?_
      refine rb_get hK fM_291 mb_oM rfl dM_orderOn_25 ?_
      obtain ⟨r_24, s_22, q_23, h⟩ := mb_cl_e h
      refine rb_callS hK mM_longBy vM_235 (t_M_longBy (dd := dd + 5) q_23) rfl (Nat.le_of_ble_eq_true rfl) dM_orderOn_28 rfl ⟨Nat.le_refl _, Nat.le_refl _⟩ ?_
      show K 0 0 31 [.ref 200, .int x1, .int x2, .int r_16, .retAddr 0] [.int r_24, .int r_21] (mb_s s_22)
      refine ro_icmp_le (tgt := 76) hK dM_orderOn_31 (by decide) (fun c_25 => ?_) (fun c_25 => ?_)
      · replace h := mb_ift c_25 h
        cases h
        exact hR.2.2 0 0 76 _ _ rfl dM_orderOn_76 ⟨rfl, rfl⟩
      · replace h := mb_iff c_25 h
        refine ro_fg (lv' := [.ref 200, .int x1, .int x2, .int r_16, .retAddr 0]) hK ⟨Or.inr rfl, ⟨Or.inr rfl, ⟨Or.inr rfl, ⟨Or.inr rfl, ⟨Or.inl rfl, trivial⟩⟩⟩⟩⟩ ?_
        exact hj_17 _ h
set_option maxHeartbeats 4000000 in
set_option maxRecDepth 100000 in
theorem t_M_orderOn {n : Nat} : ∀ (q : Nat) {dd : Nat} {x1 x2 : Int32} {s : mb_T} {out : mb_T} (h : f_M_orderOn n q x1 x2 s = some out), mb_MC (dd + q + 7) yM_orderOn bM_orderOn 5 none [.ref 200, .int x1, .int x2] s none out
  | 0, _, _, _, _, _, h => by cases h
  | q + 1, dd, x1, x2, s, out, h => tb_M_orderOn (dd := dd + q + 1) (rec := f_M_orderOn n q) (fun hq => t_M_orderOn q (dd := dd) hq) h
theorem dM_order_0 : decode bM_order 0 = .ok (.iload_n 1, 1) := by decide +kernel
theorem dM_order_1 : decode bM_order 1 = .ok (.invokestatic 96, 3) := by decide +kernel
theorem dM_order_4 : decode bM_order 4 = .ok (.ifCond .ne 5, 3) := by decide +kernel
theorem dM_order_7 : decode bM_order 7 = .ok (.iconst (-1), 1) := by decide +kernel
theorem dM_order_8 : decode bM_order 8 = .ok (.ireturn, 1) := by decide +kernel
theorem dM_order_9 : decode bM_order 9 = .ok (.aload_n 0, 1) := by decide +kernel
theorem dM_order_10 : decode bM_order 10 = .ok (.getfield 161, 3) := by decide +kernel
theorem dM_order_13 : decode bM_order 13 = .ok (.ifCond .ne 6, 3) := by decide +kernel
theorem dM_order_16 : decode bM_order 16 = .ok (.bipush (-4), 2) := by decide +kernel
theorem dM_order_18 : decode bM_order 18 = .ok (.ireturn, 1) := by decide +kernel
theorem dM_order_19 : decode bM_order 19 = .ok (.aload_n 0, 1) := by decide +kernel
theorem dM_order_20 : decode bM_order 20 = .ok (.iconst 0, 1) := by decide +kernel
theorem dM_order_21 : decode bM_order 21 = .ok (.putfield 287, 3) := by decide +kernel
theorem dM_order_24 : decode bM_order 24 = .ok (.aload_n 0, 1) := by decide +kernel
theorem dM_order_25 : decode bM_order 25 = .ok (.iconst 0, 1) := by decide +kernel
theorem dM_order_26 : decode bM_order 26 = .ok (.iconst 1, 1) := by decide +kernel
theorem dM_order_27 : decode bM_order 27 = .ok (.aload_n 0, 1) := by decide +kernel
theorem dM_order_28 : decode bM_order 28 = .ok (.getfield 161, 3) := by decide +kernel
theorem dM_order_31 : decode bM_order 31 = .ok (.ishl, 1) := by decide +kernel
theorem dM_order_32 : decode bM_order 32 = .ok (.iconst 1, 1) := by decide +kernel
theorem dM_order_33 : decode bM_order 33 = .ok (.isub, 1) := by decide +kernel
theorem dM_order_34 : decode bM_order 34 = .ok (.invokevirtual 294, 3) := by decide +kernel
theorem dM_order_37 : decode bM_order 37 = .ok (.aload_n 0, 1) := by decide +kernel
theorem dM_order_38 : decode bM_order 38 = .ok (.iload_n 1, 1) := by decide +kernel
theorem dM_order_39 : decode bM_order 39 = .ok (.aload_n 0, 1) := by decide +kernel
theorem dM_order_40 : decode bM_order 40 = .ok (.getfield 161, 3) := by decide +kernel
theorem dM_order_43 : decode bM_order 43 = .ok (.invokevirtual 272, 3) := by decide +kernel
theorem dM_order_46 : decode bM_order 46 = .ok (.pop, 1) := by decide +kernel
theorem dM_order_47 : decode bM_order 47 = .ok (.iconst 0, 1) := by decide +kernel
theorem dM_order_48 : decode bM_order 48 = .ok (.istore_n 2, 1) := by decide +kernel
theorem dM_order_49 : decode bM_order 49 = .ok (.iload_n 2, 1) := by decide +kernel
theorem dM_order_50 : decode bM_order 50 = .ok (.aload_n 0, 1) := by decide +kernel
theorem dM_order_51 : decode bM_order 51 = .ok (.getfield 161, 3) := by decide +kernel
theorem dM_order_54 : decode bM_order 54 = .ok (.if_icmp .ge 21, 3) := by decide +kernel
theorem dM_order_57 : decode bM_order 57 = .ok (.aload_n 0, 1) := by decide +kernel
theorem dM_order_58 : decode bM_order 58 = .ok (.iload_n 1, 1) := by decide +kernel
theorem dM_order_59 : decode bM_order 59 = .ok (.iload_n 2, 1) := by decide +kernel
theorem dM_order_60 : decode bM_order 60 = .ok (.aload_n 0, 1) := by decide +kernel
theorem dM_order_61 : decode bM_order 61 = .ok (.getfield 83, 3) := by decide +kernel
theorem dM_order_64 : decode bM_order 64 = .ok (.iload_n 2, 1) := by decide +kernel
theorem dM_order_65 : decode bM_order 65 = .ok (.iaload, 1) := by decide +kernel
theorem dM_order_66 : decode bM_order 66 = .ok (.invokevirtual 107, 3) := by decide +kernel
theorem dM_order_69 : decode bM_order 69 = .ok (.iinc 2 1, 3) := by decide +kernel
theorem dM_order_72 : decode bM_order 72 = .ok (.goto (-23), 3) := by decide +kernel
theorem dM_order_75 : decode bM_order 75 = .ok (.aload_n 0, 1) := by decide +kernel
theorem dM_order_76 : decode bM_order 76 = .ok (.getfield 291, 3) := by decide +kernel
theorem dM_order_79 : decode bM_order 79 = .ok (.ireturn, 1) := by decide +kernel
def f_M_order_49 (n : Nat) (k0 : Int32 → mb_T → Option (Int32 × mb_T)) (y1 : Int32) : Nat → Int32 → mb_T → Option (Int32 × mb_T)
  | 0, _, _ => none
  | f + 1, w2, s => if (s.1 200 8) ≤ w2 then k0 w2 s else mb_rd s 240 5 w2 fun x_14 => mb_cw (f_M_setRow n y1 w2 x_14 s) fun s_17 => f_M_order_49 n k0 y1 f (w2 + 1) s_17
def f_M_order (n : Nat) (x1 : Int32) (s : mb_T) : Option (Int32 × mb_T) := mb_cl (f_M_isRow n x1 s) fun r_3 s_1 => if r_3 = 0 then some ((-1), s_1) else if (s_1.1 200 8) = 0 then some ((-4), s_1) else mb_bd (sF s_1 200 42 0) fun s_6 => mb_cw (f_M_orderOn n 10 0 ((1 <<< ((s_6.1 200 8) &&& 31)) - 1) s_6) fun s_8 => mb_cl (f_M_row n x1 (s_8.1 200 8) s_8) fun r_12 s_10 => f_M_order_49 n (fun x_19 s_20 => some ((s_20.1 200 41), s_20)) x1 n 0 s_10
set_option maxHeartbeats 4000000 in
set_option maxRecDepth 100000 in
theorem tl_M_order_49 {dd n : Nat} {K : mj_KT} {out : Int32 × mb_T} (hK : mj_C (dd + 18) 0 0 RM_c "order" bM_order 3 K) (hR : mj_R bM_order (some .int) (fun r2 S2 => r2 = some (.int out.1) ∧ S2 = mb_s out.2) K) {k0 : Int32 → mb_T → Option (Int32 × mb_T)} {y1 : Int32} (hk0 : ∀ (w2 : Int32) (s : mb_T), k0 w2 s = some out → K 0 0 75 [.ref 200, .int y1, .int w2] [] (mb_s s)) : ∀ (f : Nat) (w2 : Int32) (s : mb_T), f_M_order_49 n k0 y1 f w2 s = some out → K 0 0 49 [.ref 200, .int y1, .int w2] [] (mb_s s) := by
  intro f
  induction f with
  | zero =>
    intro w2 s h
    cases h
  | succ f ih =>
    intro w2 s h
    rw [f_M_order_49] at h
    refine ro_iload_n hK dM_order_49 rfl ?_
    refine ro_aload_n hK dM_order_50 rfl ?_
    refine rb_get hK fM_161 mb_oM rfl dM_order_51 ?_
    refine ro_icmp_ge (tgt := 75) hK dM_order_54 (by decide) (fun c_13 => ?_) (fun c_13 => ?_)
    · replace h := mb_ift c_13 h
      refine ro_fg (lv' := [.ref 200, .int y1, .int w2]) hK ⟨Or.inr rfl, ⟨Or.inr rfl, ⟨Or.inr rfl, trivial⟩⟩⟩ ?_
      exact hk0 _ _ h
    · replace h := mb_iff c_13 h
      refine ro_aload_n hK dM_order_57 rfl ?_
      refine ro_iload_n hK dM_order_58 rfl ?_
      refine ro_iload_n hK dM_order_59 rfl ?_
      refine ro_aload_n hK dM_order_60 rfl ?_
      refine rb_get hK fM_83 mb_oM rfl dM_order_61 ?_
      refine ro_iload_n hK dM_order_64 rfl ?_
      obtain ⟨x_14, e_15, i_16, h⟩ := mb_rd_e h
      refine rb_iald hK ai_240 i_16 e_15 dM_order_65 ?_
      obtain ⟨s_17, q_18, h⟩ := mb_cw_e h
      refine rb_callV hK mM_setRow vM_107 (t_M_setRow (dd := dd + 16) q_18) rfl mb_oM rfl (Nat.le_of_ble_eq_true rfl) dM_order_66 rfl ⟨Nat.le_refl _, Nat.le_refl _⟩ ?_
      show K 0 0 69 [.ref 200, .int y1, .int w2] [] (mb_s s_17)
      refine ro_iincv (c := 1) hK (by decide) dM_order_69 rfl (by decide) ?_
      show K 0 0 72 [.ref 200, .int y1, .int (w2 + 1)] [] (mb_s s_17)
      refine ro_goto (tgt := 49) hK dM_order_72 (by decide) ?_
      refine ro_fg (lv' := [.ref 200, .int y1, .int (w2 + 1)]) hK ⟨Or.inr rfl, ⟨Or.inr rfl, ⟨Or.inr rfl, trivial⟩⟩⟩ ?_
      exact ih _ _ h
set_option maxHeartbeats 4000000 in
set_option maxRecDepth 100000 in
theorem t_M_order {dd n : Nat} {x1 : Int32} {s : mb_T} {out : Int32 × mb_T}  (h : f_M_order n x1 s = some out) : mb_MC (dd + 18) yM_order bM_order 3 (some .int) [.ref 200, .int x1] s (some (.int out.1)) out.2 := by
  unfold f_M_order at h
  refine mj_mc (lv := [.ref 200, .int x1, .retAddr 0]) mM_order rfl rfl (Nat.le_of_ble_eq_true rfl) (fun K hK hR => ?_)
  have hK : mj_C (dd + 18) 0 0 RM_c "order" bM_order 3 K := hK
  refine ro_iload_n hK dM_order_0 rfl ?_
  obtain ⟨r_3, s_1, q_2, h⟩ := mb_cl_e h
  refine rb_callS hK mM_isRow vM_96 (t_M_isRow (dd := dd + 15) q_2) rfl (Nat.le_of_ble_eq_true rfl) dM_order_1 rfl ⟨Nat.le_refl _, Nat.le_refl _⟩ ?_
  show K 0 0 4 [.ref 200, .int x1, .retAddr 0] [.int r_3] (mb_s s_1)
  refine ro_if_ne (tgt := 9) hK dM_order_4 (by decide) (fun c_4 => ?_) (fun c_4 => ?_)
  · replace h := mb_iff c_4 h
    refine ro_aload_n hK dM_order_9 rfl ?_
    refine rb_get hK fM_161 mb_oM rfl dM_order_10 ?_
    refine ro_if_ne (tgt := 19) hK dM_order_13 (by decide) (fun c_5 => ?_) (fun c_5 => ?_)
    · replace h := mb_iff c_5 h
      refine ro_aload_n hK dM_order_19 rfl ?_
      refine ro_iconst (x := 0) hK (by decide) dM_order_20 ?_
      obtain ⟨s_6, e_7, h⟩ := mb_bd_e h
      refine rb_put hK gM_287 mb_oM rfl (by show 42 < 45; decide) (by decide) rfl e_7 dM_order_21 ?_
      refine ro_aload_n hK dM_order_24 rfl ?_
      refine ro_iconst (x := 0) hK (by decide) dM_order_25 ?_
      refine ro_iconst (x := 1) hK (by decide) dM_order_26 ?_
      refine ro_aload_n hK dM_order_27 rfl ?_
      refine rb_get hK fM_161 mb_oM rfl dM_order_28 ?_
      refine ro_ishl hK dM_order_31 ?_
      refine ro_iconst (x := 1) hK (by decide) dM_order_32 ?_
      refine ro_isub hK dM_order_33 ?_
      obtain ⟨s_8, q_9, h⟩ := mb_cw_e h
      refine rb_callV hK mM_orderOn vM_294 (t_M_orderOn 10 (dd := dd + 0) q_9) rfl mb_oM rfl (Nat.le_of_ble_eq_true rfl) dM_order_34 rfl ⟨Nat.le_refl _, Nat.le_refl _⟩ ?_
      show K 0 0 37 [.ref 200, .int x1, .retAddr 0] [] (mb_s s_8)
      refine ro_aload_n hK dM_order_37 rfl ?_
      refine ro_iload_n hK dM_order_38 rfl ?_
      refine ro_aload_n hK dM_order_39 rfl ?_
      refine rb_get hK fM_161 mb_oM rfl dM_order_40 ?_
      obtain ⟨r_12, s_10, q_11, h⟩ := mb_cl_e h
      refine rb_callV hK mM_row vM_272 (t_M_row (dd := dd + 14) q_11) rfl mb_oM rfl (Nat.le_of_ble_eq_true rfl) dM_order_43 rfl ⟨Nat.le_refl _, Nat.le_refl _⟩ ?_
      show K 0 0 46 [.ref 200, .int x1, .retAddr 0] [.int r_12] (mb_s s_10)
      refine ro_pop hK dM_order_46 rfl ?_
      refine ro_iconst (x := 0) hK (by decide) dM_order_47 ?_
      refine ro_istore_n hK dM_order_48 (by decide) ?_
      show K 0 0 49 [.ref 200, .int x1, .int 0] [] (mb_s s_10)
      refine ro_fg (lv' := [.ref 200, .int x1, .int 0]) hK ⟨Or.inr rfl, ⟨Or.inr rfl, ⟨Or.inr rfl, trivial⟩⟩⟩ ?_
      refine tl_M_order_49 (dd := dd) hK hR (fun x_19 s_20 h => ?_) n _ _ h
      refine ro_aload_n hK dM_order_75 rfl ?_
      refine rb_get hK fM_291 mb_oM rfl dM_order_76 ?_
      cases h
      exact hR.1 0 0 79 _ _ _ _ rfl rfl dM_order_79 ⟨rfl, rfl⟩
    · replace h := mb_ift c_5 h
      refine ro_bipush (x := (-4)) hK (by decide) dM_order_16 ?_
      cases h
      exact hR.1 0 0 18 _ _ _ _ rfl rfl dM_order_18 ⟨rfl, rfl⟩
  · replace h := mb_ift c_4 h
    refine ro_iconst (x := (-1)) hK (by decide) dM_order_7 ?_
    cases h
    exact hR.1 0 0 8 _ _ _ _ rfl rfl dM_order_8 ⟨rfl, rfl⟩
