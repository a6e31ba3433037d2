theorem dR_take_0 : decode bR_take 0 = .ok (.aload_n 0, 1) := by decide +kernel
theorem dR_take_1 : decode bR_take 1 = .ok (.getfield 28, 3) := by decide +kernel
theorem dR_take_4 : decode bR_take 4 = .ok (.bipush (-9), 2) := by decide +kernel
theorem dR_take_6 : decode bR_take 6 = .ok (.if_icmp .eq 4, 3) := by decide +kernel
theorem dR_take_9 : decode bR_take 9 = .ok (.return_, 1) := by decide +kernel
theorem dR_take_10 : decode bR_take 10 = .ok (.iload_n 1, 1) := by decide +kernel
theorem dR_take_11 : decode bR_take 11 = .ok (.ifCond .eq 16, 3) := by decide +kernel
theorem dR_take_14 : decode bR_take 14 = .ok (.aload_n 0, 1) := by decide +kernel
theorem dR_take_15 : decode bR_take 15 = .ok (.dup, 1) := by decide +kernel
theorem dR_take_16 : decode bR_take 16 = .ok (.getfield 25, 3) := by decide +kernel
theorem dR_take_19 : decode bR_take 19 = .ok (.iconst 1, 1) := by decide +kernel
theorem dR_take_20 : decode bR_take 20 = .ok (.iadd, 1) := by decide +kernel
theorem dR_take_21 : decode bR_take 21 = .ok (.putfield 25, 3) := by decide +kernel
theorem dR_take_24 : decode bR_take 24 = .ok (.goto 11, 3) := by decide +kernel
theorem dR_take_27 : decode bR_take 27 = .ok (.aload_n 0, 1) := by decide +kernel
theorem dR_take_28 : decode bR_take 28 = .ok (.aload_n 0, 1) := by decide +kernel
theorem dR_take_29 : decode bR_take 29 = .ok (.getfield 25, 3) := by decide +kernel
theorem dR_take_32 : decode bR_take 32 = .ok (.putfield 28, 3) := by decide +kernel
theorem dR_take_35 : decode bR_take 35 = .ok (.return_, 1) := by decide +kernel
def f_R_take (n : Nat) (x1 : Int32) (s : mb_T) : Option (mb_T) := if (s.1 36 3) = (-9) then (if x1 = 0 then (mb_bd (sF s 36 3 (s.1 36 2)) fun s_3 => some s_3) else mb_bd (sF s 36 2 ((s.1 36 2) + 1)) fun s_5 => some s_5) else some s
set_option maxHeartbeats 4000000 in
set_option maxRecDepth 100000 in
theorem t_R_take {dd n : Nat} {x1 : Int32} {s : mb_T} {out : mb_T}  (h : f_R_take n x1 s = some out) : mb_MC (dd + 1) yR_take bR_take 2 none [.ref 36, .int x1] s none out := by
  unfold f_R_take at h
  refine mj_mc (lv := [.ref 36, .int x1]) mR_take rfl rfl (Nat.le_of_ble_eq_true rfl) (fun K hK hR => ?_)
  have hK : mj_C (dd + 1) 0 0 RR_c "take" bR_take 2 K := hK
  refine ro_aload_n hK dR_take_0 rfl ?_
  refine rb_get hK fR_28 mb_oR rfl dR_take_1 ?_
  refine ro_bipush (x := (-9)) hK (by decide) dR_take_4 ?_
  refine ro_icmp_eq (tgt := 10) hK dR_take_6 (by decide) (fun c_1 => ?_) (fun c_1 => ?_)
  · replace h := mb_ift c_1 h
    refine ro_iload_n hK dR_take_10 rfl ?_
    refine ro_if_eq (tgt := 27) hK dR_take_11 (by decide) (fun c_2 => ?_) (fun c_2 => ?_)
    · replace h := mb_ift c_2 h
      refine ro_aload_n hK dR_take_27 rfl ?_
      refine ro_aload_n hK dR_take_28 rfl ?_
      refine rb_get hK fR_25 mb_oR rfl dR_take_29 ?_
      obtain ⟨s_3, e_4, h⟩ := mb_bd_e h
      refine rb_put hK gR_28 mb_oR rfl (by show 3 < 4; decide) rfl rfl e_4 dR_take_32 ?_
      cases h
      exact hR.2.2 0 0 35 _ _ rfl dR_take_35 ⟨rfl, rfl⟩
    · replace h := mb_iff c_2 h
      refine ro_aload_n hK dR_take_14 rfl ?_
      refine ro_dup hK dR_take_15 rfl ?_
      refine rb_get hK fR_25 mb_oR rfl dR_take_16 ?_
      refine ro_iconst (x := 1) hK (by decide) dR_take_19 ?_
      refine ro_iadd hK dR_take_20 ?_
      obtain ⟨s_5, e_6, h⟩ := mb_bd_e h
      refine rb_put hK gR_25 mb_oR rfl (by show 2 < 4; decide) rfl rfl e_6 dR_take_21 ?_
      refine ro_goto (tgt := 35) hK dR_take_24 (by decide) ?_
      cases h
      exact hR.2.2 0 0 35 _ _ rfl dR_take_35 ⟨rfl, rfl⟩
  · replace h := mb_iff c_1 h
    cases h
    exact hR.2.2 0 0 9 _ _ rfl dR_take_9 ⟨rfl, rfl⟩
theorem dS_isSettled_0 : decode bS_isSettled 0 = .ok (.aload_n 0, 1) := by decide +kernel
theorem dS_isSettled_1 : decode bS_isSettled 1 = .ok (.getfield 18, 3) := by decide +kernel
theorem dS_isSettled_4 : decode bS_isSettled 4 = .ok (.ifCond .eq 22, 3) := by decide +kernel
theorem dS_isSettled_7 : decode bS_isSettled 7 = .ok (.aload_n 0, 1) := by decide +kernel
theorem dS_isSettled_8 : decode bS_isSettled 8 = .ok (.getfield 26, 3) := by decide +kernel
theorem dS_isSettled_11 : decode bS_isSettled 11 = .ok (.aload_n 0, 1) := by decide +kernel
theorem dS_isSettled_12 : decode bS_isSettled 12 = .ok (.getfield 22, 3) := by decide +kernel
theorem dS_isSettled_15 : decode bS_isSettled 15 = .ok (.if_icmp .ne 7, 3) := by decide +kernel
theorem dS_isSettled_18 : decode bS_isSettled 18 = .ok (.iconst 1, 1) := by decide +kernel
theorem dS_isSettled_19 : decode bS_isSettled 19 = .ok (.goto 30, 3) := by decide +kernel
theorem dS_isSettled_22 : decode bS_isSettled 22 = .ok (.iconst 0, 1) := by decide +kernel
theorem dS_isSettled_23 : decode bS_isSettled 23 = .ok (.goto 26, 3) := by decide +kernel
theorem dS_isSettled_26 : decode bS_isSettled 26 = .ok (.aload_n 0, 1) := by decide +kernel
theorem dS_isSettled_27 : decode bS_isSettled 27 = .ok (.getfield 26, 3) := by decide +kernel
theorem dS_isSettled_30 : decode bS_isSettled 30 = .ok (.aload_n 0, 1) := by decide +kernel
theorem dS_isSettled_31 : decode bS_isSettled 31 = .ok (.getfield 22, 3) := by decide +kernel
theorem dS_isSettled_34 : decode bS_isSettled 34 = .ok (.if_icmp .ne 14, 3) := by decide +kernel
theorem dS_isSettled_37 : decode bS_isSettled 37 = .ok (.aload_n 0, 1) := by decide +kernel
theorem dS_isSettled_38 : decode bS_isSettled 38 = .ok (.getfield 39, 3) := by decide +kernel
theorem dS_isSettled_41 : decode bS_isSettled 41 = .ok (.ifCond .ne 7, 3) := by decide +kernel
theorem dS_isSettled_44 : decode bS_isSettled 44 = .ok (.iconst 1, 1) := by decide +kernel
theorem dS_isSettled_45 : decode bS_isSettled 45 = .ok (.goto 4, 3) := by decide +kernel
theorem dS_isSettled_48 : decode bS_isSettled 48 = .ok (.iconst 0, 1) := by decide +kernel
theorem dS_isSettled_49 : decode bS_isSettled 49 = .ok (.ireturn, 1) := by decide +kernel
def f_S_isSettled (n : Nat)  (s : mb_T) : Option (Int32 × mb_T) := mb_bz (if (s.1 60 1) = 0 then (if (s.1 60 4) = (s.1 60 2) then (if (s.1 60 5) = 0 then 1 else 0 : Int32) else 0 : Int32) else (if (s.1 60 4) = (s.1 60 2) then 1 else 0 : Int32) : Int32) (some ((if (s.1 60 1) = 0 then (if (s.1 60 4) = (s.1 60 2) then (if (s.1 60 5) = 0 then 1 else 0 : Int32) else 0 : Int32) else (if (s.1 60 4) = (s.1 60 2) then 1 else 0 : Int32) : Int32), s))
set_option maxHeartbeats 4000000 in
set_option maxRecDepth 100000 in
theorem t_S_isSettled {dd n : Nat}  {s : mb_T} {out : Int32 × mb_T}  (h : f_S_isSettled n  s = some out) : mb_MC (dd + 1) yS_isSettled bS_isSettled 1 (some .boolean) [.ref 60] s (some (.int out.1)) out.2 := by
  unfold f_S_isSettled at h
  refine mj_mc (lv := [.ref 60]) mS_isSettled rfl rfl (Nat.le_of_ble_eq_true rfl) (fun K hK hR => ?_)
  have hK : mj_C (dd + 1) 0 0 RS_c "isSettled" bS_isSettled 1 K := hK
  refine ro_aload_n hK dS_isSettled_0 rfl ?_
  refine rb_get hK fS_18 mb_oS rfl dS_isSettled_1 ?_
  have j_5 : ∀ w_ : Int32, w_ = (if (s.1 60 1) = 0 then (if (s.1 60 4) = (s.1 60 2) then (if (s.1 60 5) = 0 then 1 else 0 : Int32) else 0 : Int32) else (if (s.1 60 4) = (s.1 60 2) then 1 else 0 : Int32) : Int32) → K 0 0 49 [.ref 60] [.int w_] (mb_s s) → K 0 0 4 [.ref 60] [.int (s.1 60 1)] (mb_s s) := by
    intro w_ hw hj
    refine ro_if_eq (tgt := 26) hK dS_isSettled_4 (by decide) (fun c_1 => ?_) (fun c_1 => ?_)
    · skip
      refine ro_aload_n hK dS_isSettled_26 rfl ?_
      refine rb_get hK fS_26 mb_oS rfl dS_isSettled_27 ?_
      refine ro_aload_n hK dS_isSettled_30 rfl ?_
      refine rb_get hK fS_22 mb_oS rfl dS_isSettled_31 ?_
      refine ro_icmp_ne (tgt := 48) hK dS_isSettled_34 (by decide) (fun c_2 => ?_) (fun c_2 => ?_)
      · skip
        refine ro_iconst (x := 0) hK (by decide) dS_isSettled_48 ?_
        have hw := ((hw.trans (if_pos c_1)).trans (if_neg c_2))
        subst hw
        exact hj
      · skip
        refine ro_aload_n hK dS_isSettled_37 rfl ?_
        refine rb_get hK fS_39 mb_oS rfl dS_isSettled_38 ?_
        refine ro_if_ne (tgt := 48) hK dS_isSettled_41 (by decide) (fun c_3 => ?_) (fun c_3 => ?_)
        · skip
          refine ro_iconst (x := 0) hK (by decide) dS_isSettled_48 ?_
          have hw := (((hw.trans (if_pos c_1)).trans (if_pos c_2)).trans (if_neg c_3))
          subst hw
          exact hj
        · skip
          refine ro_iconst (x := 1) hK (by decide) dS_isSettled_44 ?_
          refine ro_goto (tgt := 49) hK dS_isSettled_45 (by decide) ?_
          have hw := (((hw.trans (if_pos c_1)).trans (if_pos c_2)).trans (if_pos c_3))
          subst hw
          exact hj
    · skip
      refine ro_aload_n hK dS_isSettled_7 rfl ?_
      refine rb_get hK fS_26 mb_oS rfl dS_isSettled_8 ?_
      refine ro_aload_n hK dS_isSettled_11 rfl ?_
      refine rb_get hK fS_22 mb_oS rfl dS_isSettled_12 ?_
      refine ro_icmp_ne (tgt := 22) hK dS_isSettled_15 (by decide) (fun c_4 => ?_) (fun c_4 => ?_)
      · skip
        refine ro_iconst (x := 0) hK (by decide) dS_isSettled_22 ?_
        refine ro_goto (tgt := 49) hK dS_isSettled_23 (by decide) ?_
        have hw := ((hw.trans (if_neg c_1)).trans (if_neg c_4))
        subst hw
        exact hj
      · skip
        refine ro_iconst (x := 1) hK (by decide) dS_isSettled_18 ?_
        refine ro_goto (tgt := 49) hK dS_isSettled_19 (by decide) ?_
        have hw := ((hw.trans (if_neg c_1)).trans (if_pos c_4))
        subst hw
        exact hj
  refine j_5 _ rfl ?_
  obtain ⟨z_6, h⟩ := mb_bz_e h
  cases h
  exact hR.1 0 0 49 _ _ _ _ rfl (mb_nz z_6) dS_isSettled_49 ⟨rfl, rfl⟩
theorem dM_allFears_0 : decode bM_allFears 0 = .ok (.iconst 0, 1) := by decide +kernel
theorem dM_allFears_1 : decode bM_allFears 1 = .ok (.istore_n 1, 1) := by decide +kernel
theorem dM_allFears_2 : decode bM_allFears 2 = .ok (.iconst 0, 1) := by decide +kernel
theorem dM_allFears_3 : decode bM_allFears 3 = .ok (.istore_n 2, 1) := by decide +kernel
theorem dM_allFears_4 : decode bM_allFears 4 = .ok (.iload_n 2, 1) := by decide +kernel
theorem dM_allFears_5 : decode bM_allFears 5 = .ok (.aload_n 0, 1) := by decide +kernel
theorem dM_allFears_6 : decode bM_allFears 6 = .ok (.getfield 161, 3) := by decide +kernel
theorem dM_allFears_9 : decode bM_allFears 9 = .ok (.if_icmp .ge 18, 3) := by decide +kernel
theorem dM_allFears_12 : decode bM_allFears 12 = .ok (.iload_n 1, 1) := by decide +kernel
theorem dM_allFears_13 : decode bM_allFears 13 = .ok (.aload_n 0, 1) := by decide +kernel
theorem dM_allFears_14 : decode bM_allFears 14 = .ok (.getfield 31, 3) := by decide +kernel
theorem dM_allFears_17 : decode bM_allFears 17 = .ok (.iload_n 2, 1) := by decide +kernel
theorem dM_allFears_18 : decode bM_allFears 18 = .ok (.iaload, 1) := by decide +kernel
theorem dM_allFears_19 : decode bM_allFears 19 = .ok (.iadd, 1) := by decide +kernel
theorem dM_allFears_20 : decode bM_allFears 20 = .ok (.istore_n 1, 1) := by decide +kernel
theorem dM_allFears_21 : decode bM_allFears 21 = .ok (.iinc 2 1, 3) := by decide +kernel
theorem dM_allFears_24 : decode bM_allFears 24 = .ok (.goto (-20), 3) := by decide +kernel
theorem dM_allFears_27 : decode bM_allFears 27 = .ok (.iload_n 1, 1) := by decide +kernel
theorem dM_allFears_28 : decode bM_allFears 28 = .ok (.ireturn, 1) := by decide +kernel
def f_M_allFears_4 (n : Nat) (k0 : Int32 → Int32 → mb_T → Option (Int32 × mb_T))  : Nat → Int32 → Int32 → mb_T → Option (Int32 × mb_T)
  | 0, _, _, _ => none
  | f + 1, w1, w2, s => if (s.1 200 8) ≤ w2 then k0 w1 w2 s else mb_rd s 213 10 w2 fun x_2 => f_M_allFears_4 n k0 f (w1 + x_2) (w2 + 1) s
def f_M_allFears (n : Nat)  (s : mb_T) : Option (Int32 × mb_T) := f_M_allFears_4 n (fun x_5 x_6 s_7 => some (x_5, s_7)) n 0 0 s
set_option maxHeartbeats 4000000 in
set_option maxRecDepth 100000 in
theorem tl_M_allFears_4 {dd n : Nat} {K : mj_KT} {out : Int32 × mb_T} (hK : mj_C (dd + 1) 0 0 RM_c "allFears" bM_allFears 3 K) (hR : mj_R bM_allFears (some .int) (fun r2 S2 => r2 = some (.int out.1) ∧ S2 = mb_s out.2) K) {k0 : Int32 → Int32 → mb_T → Option (Int32 × mb_T)}  (hk0 : ∀ (w1 : Int32) (w2 : Int32) (s : mb_T), k0 w1 w2 s = some out → K 0 0 27 [.ref 200, .int w1, .int w2] [] (mb_s s)) : ∀ (f : Nat) (w1 : Int32) (w2 : Int32) (s : mb_T), f_M_allFears_4 n k0 f w1 w2 s = some out → K 0 0 4 [.ref 200, .int w1, .int w2] [] (mb_s s) := by
  intro f
  induction f with
  | zero =>
    intro w1 w2 s h
    cases h
  | succ f ih =>
    intro w1 w2 s h
    rw [f_M_allFears_4] at h
    refine ro_iload_n hK dM_allFears_4 rfl ?_
    refine ro_aload_n hK dM_allFears_5 rfl ?_
    refine rb_get hK fM_161 mb_oM rfl dM_allFears_6 ?_
    refine ro_icmp_ge (tgt := 27) hK dM_allFears_9 (by decide) (fun c_1 => ?_) (fun c_1 => ?_)
    · replace h := mb_ift c_1 h
      refine ro_fg (lv' := [.ref 200, .int w1, .int w2]) hK ⟨Or.inr rfl, ⟨Or.inr rfl, ⟨Or.inr rfl, trivial⟩⟩⟩ ?_
      exact hk0 _ _ _ h
    · replace h := mb_iff c_1 h
      refine ro_iload_n hK dM_allFears_12 rfl ?_
      refine ro_aload_n hK dM_allFears_13 rfl ?_
      refine rb_get hK fM_31 mb_oM rfl dM_allFears_14 ?_
      refine ro_iload_n hK dM_allFears_17 rfl ?_
      obtain ⟨x_2, e_3, i_4, h⟩ := mb_rd_e h
      refine rb_iald hK ai_213 i_4 e_3 dM_allFears_18 ?_
      refine ro_iadd hK dM_allFears_19 ?_
      refine ro_istore_n hK dM_allFears_20 (by decide) ?_
      show K 0 0 21 [.ref 200, .int (w1 + x_2), .int w2] [] (mb_s s)
      refine ro_iincv (c := 1) hK (by decide) dM_allFears_21 rfl (by decide) ?_
      show K 0 0 24 [.ref 200, .int (w1 + x_2), .int (w2 + 1)] [] (mb_s s)
      refine ro_goto (tgt := 4) hK dM_allFears_24 (by decide) ?_
      refine ro_fg (lv' := [.ref 200, .int (w1 + x_2), .int (w2 + 1)]) hK ⟨Or.inr rfl, ⟨Or.inr rfl, ⟨Or.inr rfl, trivial⟩⟩⟩ ?_
      exact ih _ _ _ h
set_option maxHeartbeats 4000000 in
set_option maxRecDepth 100000 in
theorem t_M_allFears {dd n : Nat}  {s : mb_T} {out : Int32 × mb_T}  (h : f_M_allFears n  s = some out) : mb_MC (dd + 1) yM_allFears bM_allFears 3 (some .int) [.ref 200] s (some (.int out.1)) out.2 := by
  unfold f_M_allFears at h
  refine mj_mc (lv := [.ref 200, .retAddr 0, .retAddr 0]) mM_allFears rfl rfl (Nat.le_of_ble_eq_true rfl) (fun K hK hR => ?_)
  have hK : mj_C (dd + 1) 0 0 RM_c "allFears" bM_allFears 3 K := hK
  refine ro_iconst (x := 0) hK (by decide) dM_allFears_0 ?_
  refine ro_istore_n hK dM_allFears_1 (by decide) ?_
  show K 0 0 2 [.ref 200, .int 0, .retAddr 0] [] (mb_s s)
  refine ro_iconst (x := 0) hK (by decide) dM_allFears_2 ?_
  refine ro_istore_n hK dM_allFears_3 (by decide) ?_
  show K 0 0 4 [.ref 200, .int 0, .int 0] [] (mb_s s)
  refine ro_fg (lv' := [.ref 200, .int 0, .int 0]) hK ⟨Or.inr rfl, ⟨Or.inr rfl, ⟨Or.inr rfl, trivial⟩⟩⟩ ?_
  refine tl_M_allFears_4 (dd := dd) hK hR (fun x_5 x_6 s_7 h => ?_) n _ _ _ h
  refine ro_iload_n hK dM_allFears_27 rfl ?_
  cases h
  exact hR.1 0 0 28 _ _ _ _ rfl rfl dM_allFears_28 ⟨rfl, rfl⟩
theorem dM_allScreams_0 : decode bM_allScreams 0 = .ok (.iconst 0, 1) := by decide +kernel
theorem dM_allScreams_1 : decode bM_allScreams 1 = .ok (.istore_n 1, 1) := by decide +kernel
theorem dM_allScreams_2 : decode bM_allScreams 2 = .ok (.iconst 0, 1) := by decide +kernel
theorem dM_allScreams_3 : decode bM_allScreams 3 = .ok (.istore_n 2, 1) := by decide +kernel
theorem dM_allScreams_4 : decode bM_allScreams 4 = .ok (.iload_n 2, 1) := by decide +kernel
theorem dM_allScreams_5 : decode bM_allScreams 5 = .ok (.aload_n 0, 1) := by decide +kernel
theorem dM_allScreams_6 : decode bM_allScreams 6 = .ok (.getfield 161, 3) := by decide +kernel
theorem dM_allScreams_9 : decode bM_allScreams 9 = .ok (.if_icmp .ge 18, 3) := by decide +kernel
theorem dM_allScreams_12 : decode bM_allScreams 12 = .ok (.iload_n 1, 1) := by decide +kernel
theorem dM_allScreams_13 : decode bM_allScreams 13 = .ok (.aload_n 0, 1) := by decide +kernel
theorem dM_allScreams_14 : decode bM_allScreams 14 = .ok (.getfield 40, 3) := by decide +kernel
theorem dM_allScreams_17 : decode bM_allScreams 17 = .ok (.iload_n 2, 1) := by decide +kernel
theorem dM_allScreams_18 : decode bM_allScreams 18 = .ok (.iaload, 1) := by decide +kernel
theorem dM_allScreams_19 : decode bM_allScreams 19 = .ok (.iadd, 1) := by decide +kernel
theorem dM_allScreams_20 : decode bM_allScreams 20 = .ok (.istore_n 1, 1) := by decide +kernel
theorem dM_allScreams_21 : decode bM_allScreams 21 = .ok (.iinc 2 1, 3) := by decide +kernel
theorem dM_allScreams_24 : decode bM_allScreams 24 = .ok (.goto (-20), 3) := by decide +kernel
theorem dM_allScreams_27 : decode bM_allScreams 27 = .ok (.iload_n 1, 1) := by decide +kernel
theorem dM_allScreams_28 : decode bM_allScreams 28 = .ok (.ireturn, 1) := by decide +kernel
def f_M_allScreams_4 (n : Nat) (k0 : Int32 → Int32 → mb_T → Option (Int32 × mb_T))  : Nat → Int32 → Int32 → mb_T → Option (Int32 × mb_T)
  | 0, _, _, _ => none
  | f + 1, w1, w2, s => if (s.1 200 8) ≤ w2 then k0 w1 w2 s else mb_rd s 216 10 w2 fun x_2 => f_M_allScreams_4 n k0 f (w1 + x_2) (w2 + 1) s
def f_M_allScreams (n : Nat)  (s : mb_T) : Option (Int32 × mb_T) := f_M_allScreams_4 n (fun x_5 x_6 s_7 => some (x_5, s_7)) n 0 0 s
set_option maxHeartbeats 4000000 in
set_option maxRecDepth 100000 in
theorem tl_M_allScreams_4 {dd n : Nat} {K : mj_KT} {out : Int32 × mb_T} (hK : mj_C (dd + 1) 0 0 RM_c "allScreams" bM_allScreams 3 K) (hR : mj_R bM_allScreams (some .int) (fun r2 S2 => r2 = some (.int out.1) ∧ S2 = mb_s out.2) K) {k0 : Int32 → Int32 → mb_T → Option (Int32 × mb_T)}  (hk0 : ∀ (w1 : Int32) (w2 : Int32) (s : mb_T), k0 w1 w2 s = some out → K 0 0 27 [.ref 200, .int w1, .int w2] [] (mb_s s)) : ∀ (f : Nat) (w1 : Int32) (w2 : Int32) (s : mb_T), f_M_allScreams_4 n k0 f w1 w2 s = some out → K 0 0 4 [.ref 200, .int w1, .int w2] [] (mb_s s) := by
  intro f
  induction f with
  | zero =>
    intro w1 w2 s h
    cases h
  | succ f ih =>
    intro w1 w2 s h
    rw [f_M_allScreams_4] at h
    refine ro_iload_n hK dM_allScreams_4 rfl ?_
    refine ro_aload_n hK dM_allScreams_5 rfl ?_
    refine rb_get hK fM_161 mb_oM rfl dM_allScreams_6 ?_
    refine ro_icmp_ge (tgt := 27) hK dM_allScreams_9 (by decide) (fun c_1 => ?_) (fun c_1 => ?_)
    · replace h := mb_ift c_1 h
      refine ro_fg (lv' := [.ref 200, .int w1, .int w2]) hK ⟨Or.inr rfl, ⟨Or.inr rfl, ⟨Or.inr rfl, trivial⟩⟩⟩ ?_
      exact hk0 _ _ _ h
    · replace h := mb_iff c_1 h
      refine ro_iload_n hK dM_allScreams_12 rfl ?_
      refine ro_aload_n hK dM_allScreams_13 rfl ?_
      refine rb_get hK fM_40 mb_oM rfl dM_allScreams_14 ?_
      refine ro_iload_n hK dM_allScreams_17 rfl ?_
      obtain ⟨x_2, e_3, i_4, h⟩ := mb_rd_e h
      refine rb_iald hK ai_216 i_4 e_3 dM_allScreams_18 ?_
      refine ro_iadd hK dM_allScreams_19 ?_
      refine ro_istore_n hK dM_allScreams_20 (by decide) ?_
      show K 0 0 21 [.ref 200, .int (w1 + x_2), .int w2] [] (mb_s s)
      refine ro_iincv (c := 1) hK (by decide) dM_allScreams_21 rfl (by decide) ?_
      show K 0 0 24 [.ref 200, .int (w1 + x_2), .int (w2 + 1)] [] (mb_s s)
      refine ro_goto (tgt := 4) hK dM_allScreams_24 (by decide) ?_
      refine ro_fg (lv' := [.ref 200, .int (w1 + x_2), .int (w2 + 1)]) hK ⟨Or.inr rfl, ⟨Or.inr rfl, ⟨Or.inr rfl, trivial⟩⟩⟩ ?_
      exact ih _ _ _ h
set_option maxHeartbeats 4000000 in
set_option maxRecDepth 100000 in
theorem t_M_allScreams {dd n : Nat}  {s : mb_T} {out : Int32 × mb_T}  (h : f_M_allScreams n  s = some out) : mb_MC (dd + 1) yM_allScreams bM_allScreams 3 (some .int) [.ref 200] s (some (.int out.1)) out.2 := by
  unfold f_M_allScreams at h
  refine mj_mc (lv := [.ref 200, .retAddr 0, .retAddr 0]) mM_allScreams rfl rfl (Nat.le_of_ble_eq_true rfl) (fun K hK hR => ?_)
  have hK : mj_C (dd + 1) 0 0 RM_c "allScreams" bM_allScreams 3 K := hK
  refine ro_iconst (x := 0) hK (by decide) dM_allScreams_0 ?_
  refine ro_istore_n hK dM_allScreams_1 (by decide) ?_
  show K 0 0 2 [.ref 200, .int 0, .retAddr 0] [] (mb_s s)
  refine ro_iconst (x := 0) hK (by decide) dM_allScreams_2 ?_
  refine ro_istore_n hK dM_allScreams_3 (by decide) ?_
  show K 0 0 4 [.ref 200, .int 0, .int 0] [] (mb_s s)
  refine ro_fg (lv' := [.ref 200, .int 0, .int 0]) hK ⟨Or.inr rfl, ⟨Or.inr rfl, ⟨Or.inr rfl, trivial⟩⟩⟩ ?_
  refine tl_M_allScreams_4 (dd := dd) hK hR (fun x_5 x_6 s_7 h => ?_) n _ _ _ h
  refine ro_iload_n hK dM_allScreams_27 rfl ?_
  cases h
  exact hR.1 0 0 28 _ _ _ _ rfl rfl dM_allScreams_28 ⟨rfl, rfl⟩
theorem dM_ask_0 : decode bM_ask 0 = .ok (.aload_n 0, 1) := by decide +kernel
theorem dM_ask_1 : decode bM_ask 1 = .ok (.iload_n 1, 1) := by decide +kernel
theorem dM_ask_2 : decode bM_ask 2 = .ok (.putfield 89, 3) := by decide +kernel
theorem dM_ask_5 : decode bM_ask 5 = .ok (.iload_n 2, 1) := by decide +kernel
theorem dM_ask_6 : decode bM_ask 6 = .ok (.ireturn, 1) := by decide +kernel
def f_M_ask (n : Nat) (x1 : Int32) (x2 : Int32) (s : mb_T) : Option (Int32 × mb_T) := mb_bd (sF s 200 2 x1) fun s_1 => some (x2, s_1)
set_option maxHeartbeats 4000000 in
set_option maxRecDepth 100000 in
theorem t_M_ask {dd n : Nat} {x1 : Int32} {x2 : Int32} {s : mb_T} {out : Int32 × mb_T}  (h : f_M_ask n x1 x2 s = some out) : mb_MC (dd + 1) yM_ask bM_ask 3 (some .int) [.ref 200, .int x1, .int x2] s (some (.int out.1)) out.2 := by
  unfold f_M_ask at h
  refine mj_mc (lv := [.ref 200, .int x1, .int x2]) mM_ask rfl rfl (Nat.le_of_ble_eq_true rfl) (fun K hK hR => ?_)
  have hK : mj_C (dd + 1) 0 0 RM_c "ask" bM_ask 3 K := hK
  refine ro_aload_n hK dM_ask_0 rfl ?_
  refine ro_iload_n hK dM_ask_1 rfl ?_
  obtain ⟨s_1, e_2, h⟩ := mb_bd_e h
  refine rb_put hK gM_89 mb_oM rfl (by show 2 < 45; decide) rfl rfl e_2 dM_ask_2 ?_
  refine ro_iload_n hK dM_ask_5 rfl ?_
  cases h
  exact hR.1 0 0 6 _ _ _ _ rfl rfl dM_ask_6 ⟨rfl, rfl⟩
theorem dM_asked_0 : decode bM_asked 0 = .ok (.aload_n 0, 1) := by decide +kernel
theorem dM_asked_1 : decode bM_asked 1 = .ok (.getfield 89, 3) := by decide +kernel
theorem dM_asked_4 : decode bM_asked 4 = .ok (.ireturn, 1) := by decide +kernel
def f_M_asked (n : Nat)  (s : mb_T) : Option (Int32 × mb_T) := some ((s.1 200 2), s)
set_option maxHeartbeats 4000000 in
set_option maxRecDepth 100000 in
theorem t_M_asked {dd n : Nat}  {s : mb_T} {out : Int32 × mb_T}  (h : f_M_asked n  s = some out) : mb_MC (dd + 1) yM_asked bM_asked 1 (some .int) [.ref 200] s (some (.int out.1)) out.2 := by
  unfold f_M_asked at h
  refine mj_mc (lv := [.ref 200]) mM_asked rfl rfl (Nat.le_of_ble_eq_true rfl) (fun K hK hR => ?_)
  have hK : mj_C (dd + 1) 0 0 RM_c "asked" bM_asked 1 K := hK
  refine ro_aload_n hK dM_asked_0 rfl ?_
  refine rb_get hK fM_89 mb_oM rfl dM_asked_1 ?_
  cases h
  exact hR.1 0 0 4 _ _ _ _ rfl rfl dM_asked_4 ⟨rfl, rfl⟩
theorem dM_backTo_0 : decode bM_backTo 0 = .ok (.iconst 0, 1) := by decide +kernel
theorem dM_backTo_1 : decode bM_backTo 1 = .ok (.istore_n 2, 1) := by decide +kernel
theorem dM_backTo_2 : decode bM_backTo 2 = .ok (.iload_n 2, 1) := by decide +kernel
theorem dM_backTo_3 : decode bM_backTo 3 = .ok (.iconst 5, 1) := by decide +kernel
theorem dM_backTo_4 : decode bM_backTo 4 = .ok (.if_icmp .ge 26, 3) := by decide +kernel
theorem dM_backTo_7 : decode bM_backTo 7 = .ok (.aload_n 0, 1) := by decide +kernel
theorem dM_backTo_8 : decode bM_backTo 8 = .ok (.getfield 31, 3) := by decide +kernel
theorem dM_backTo_11 : decode bM_backTo 11 = .ok (.iload_n 2, 1) := by decide +kernel
theorem dM_backTo_12 : decode bM_backTo 12 = .ok (.aload_n 0, 1) := by decide +kernel
theorem dM_backTo_13 : decode bM_backTo 13 = .ok (.getfield 71, 3) := by decide +kernel
theorem dM_backTo_16 : decode bM_backTo 16 = .ok (.bipush 8, 2) := by decide +kernel
theorem dM_backTo_18 : decode bM_backTo 18 = .ok (.iload_n 1, 1) := by decide +kernel
theorem dM_backTo_19 : decode bM_backTo 19 = .ok (.imul, 1) := by decide +kernel
theorem dM_backTo_20 : decode bM_backTo 20 = .ok (.iload_n 2, 1) := by decide +kernel
theorem dM_backTo_21 : decode bM_backTo 21 = .ok (.iadd, 1) := by decide +kernel
theorem dM_backTo_22 : decode bM_backTo 22 = .ok (.iaload, 1) := by decide +kernel
theorem dM_backTo_23 : decode bM_backTo 23 = .ok (.iastore, 1) := by decide +kernel
theorem dM_backTo_24 : decode bM_backTo 24 = .ok (.iinc 2 1, 3) := by decide +kernel
theorem dM_backTo_27 : decode bM_backTo 27 = .ok (.goto (-25), 3) := by decide +kernel
theorem dM_backTo_30 : decode bM_backTo 30 = .ok (.aload_n 0, 1) := by decide +kernel
theorem dM_backTo_31 : decode bM_backTo 31 = .ok (.aload_n 0, 1) := by decide +kernel
theorem dM_backTo_32 : decode bM_backTo 32 = .ok (.getfield 71, 3) := by decide +kernel
theorem dM_backTo_35 : decode bM_backTo 35 = .ok (.bipush 8, 2) := by decide +kernel
theorem dM_backTo_37 : decode bM_backTo 37 = .ok (.iload_n 1, 1) := by decide +kernel
theorem dM_backTo_38 : decode bM_backTo 38 = .ok (.imul, 1) := by decide +kernel
theorem dM_backTo_39 : decode bM_backTo 39 = .ok (.iconst 5, 1) := by decide +kernel
theorem dM_backTo_40 : decode bM_backTo 40 = .ok (.iadd, 1) := by decide +kernel
theorem dM_backTo_41 : decode bM_backTo 41 = .ok (.iaload, 1) := by decide +kernel
theorem dM_backTo_42 : decode bM_backTo 42 = .ok (.putfield 170, 3) := by decide +kernel
theorem dM_backTo_45 : decode bM_backTo 45 = .ok (.aload_n 0, 1) := by decide +kernel
theorem dM_backTo_46 : decode bM_backTo 46 = .ok (.aload_n 0, 1) := by decide +kernel
theorem dM_backTo_47 : decode bM_backTo 47 = .ok (.getfield 71, 3) := by decide +kernel
theorem dM_backTo_50 : decode bM_backTo 50 = .ok (.bipush 8, 2) := by decide +kernel
theorem dM_backTo_52 : decode bM_backTo 52 = .ok (.iload_n 1, 1) := by decide +kernel
theorem dM_backTo_53 : decode bM_backTo 53 = .ok (.imul, 1) := by decide +kernel
theorem dM_backTo_54 : decode bM_backTo 54 = .ok (.bipush 6, 2) := by decide +kernel
theorem dM_backTo_56 : decode bM_backTo 56 = .ok (.iadd, 1) := by decide +kernel
theorem dM_backTo_57 : decode bM_backTo 57 = .ok (.iaload, 1) := by decide +kernel
theorem dM_backTo_58 : decode bM_backTo 58 = .ok (.putfield 50, 3) := by decide +kernel
theorem dM_backTo_61 : decode bM_backTo 61 = .ok (.aload_n 0, 1) := by decide +kernel
theorem dM_backTo_62 : decode bM_backTo 62 = .ok (.aload_n 0, 1) := by decide +kernel
theorem dM_backTo_63 : decode bM_backTo 63 = .ok (.getfield 71, 3) := by decide +kernel
theorem dM_backTo_66 : decode bM_backTo 66 = .ok (.bipush 8, 2) := by decide +kernel
theorem dM_backTo_68 : decode bM_backTo 68 = .ok (.iload_n 1, 1) := by decide +kernel
theorem dM_backTo_69 : decode bM_backTo 69 = .ok (.imul, 1) := by decide +kernel
theorem dM_backTo_70 : decode bM_backTo 70 = .ok (.bipush 7, 2) := by decide +kernel
theorem dM_backTo_72 : decode bM_backTo 72 = .ok (.iadd, 1) := by decide +kernel
theorem dM_backTo_73 : decode bM_backTo 73 = .ok (.iaload, 1) := by decide +kernel
theorem dM_backTo_74 : decode bM_backTo 74 = .ok (.putfield 173, 3) := by decide +kernel
theorem dM_backTo_77 : decode bM_backTo 77 = .ok (.return_, 1) := by decide +kernel
def f_M_backTo_2 (n : Nat) (k0 : Int32 → mb_T → Option (mb_T)) (y1 : Int32) : Nat → Int32 → mb_T → Option (mb_T)
  | 0, _, _ => none
  | f + 1, w2, s => if 5 ≤ w2 then k0 w2 s else mb_rd s 234 56 ((8 * y1) + w2) fun x_2 => mb_wr s 213 10 w2 x_2 fun s_5 => f_M_backTo_2 n k0 y1 f (w2 + 1) s_5
def f_M_backTo (n : Nat) (x1 : Int32) (s : mb_T) : Option (mb_T) := f_M_backTo_2 n (fun x_8 s_9 => mb_rd s_9 234 56 ((8 * x1) + 5) fun x_10 => mb_bd (sF s_9 200 11 x_10) fun s_13 => mb_rd s_13 234 56 ((8 * x1) + 6) fun x_15 => mb_bd (sF s_13 200 25 x_15) fun s_18 => mb_rd s_18 234 56 ((8 * x1) + 7) fun x_20 => mb_bd (sF s_18 200 24 x_20) fun s_23 => some s_23) x1 n 0 s
set_option maxHeartbeats 4000000 in
set_option maxRecDepth 100000 in
theorem tl_M_backTo_2 {dd n : Nat} {K : mj_KT} {out : mb_T} (hK : mj_C (dd + 1) 0 0 RM_c "backTo" bM_backTo 3 K) (hR : mj_R bM_backTo none (fun r2 S2 => r2 = none ∧ S2 = mb_s out) K) {k0 : Int32 → mb_T → Option (mb_T)} {y1 : Int32} (hk0 : ∀ (w2 : Int32) (s : mb_T), k0 w2 s = some out → K 0 0 30 [.ref 200, .int y1, .int w2] [] (mb_s s)) : ∀ (f : Nat) (w2 : Int32) (s : mb_T), f_M_backTo_2 n k0 y1 f w2 s = some out → K 0 0 2 [.ref 200, .int y1, .int w2] [] (mb_s s) := by
  intro f
  induction f with
  | zero =>
    intro w2 s h
    cases h
  | succ f ih =>
    intro w2 s h
    rw [f_M_backTo_2] at h
    refine ro_iload_n hK dM_backTo_2 rfl ?_
    refine ro_iconst (x := 5) hK (by decide) dM_backTo_3 ?_
    refine ro_icmp_ge (tgt := 30) hK dM_backTo_4 (by decide) (fun c_1 => ?_) (fun c_1 => ?_)
    · replace h := mb_ift c_1 h
      refine ro_fg (lv' := [.ref 200, .int y1, .int w2]) hK ⟨Or.inr rfl, ⟨Or.inr rfl, ⟨Or.inr rfl, trivial⟩⟩⟩ ?_
      exact hk0 _ _ h
    · replace h := mb_iff c_1 h
      refine ro_aload_n hK dM_backTo_7 rfl ?_
      refine rb_get hK fM_31 mb_oM rfl dM_backTo_8 ?_
      refine ro_iload_n hK dM_backTo_11 rfl ?_
      refine ro_aload_n hK dM_backTo_12 rfl ?_
      refine rb_get hK fM_71 mb_oM rfl dM_backTo_13 ?_
      refine ro_bipush (x := 8) hK (by decide) dM_backTo_16 ?_
      refine ro_iload_n hK dM_backTo_18 rfl ?_
      refine ro_imul hK dM_backTo_19 ?_
      refine ro_iload_n hK dM_backTo_20 rfl ?_
      refine ro_iadd hK dM_backTo_21 ?_
      obtain ⟨x_2, e_3, i_4, h⟩ := mb_rd_e h
      refine rb_iald hK ai_234 i_4 e_3 dM_backTo_22 ?_
      obtain ⟨s_5, e_6, i_7, h⟩ := mb_wr_e h
      refine rb_iast hK ai_213 i_7 e_6 dM_backTo_23 ?_
      refine ro_iincv (c := 1) hK (by decide) dM_backTo_24 rfl (by decide) ?_
      show K 0 0 27 [.ref 200, .int y1, .int (w2 + 1)] [] (mb_s s_5)
      refine ro_goto (tgt := 2) hK dM_backTo_27 (by decide) ?_
      refine ro_fg (lv' := [.ref 200, .int y1, .int (w2 + 1)]) hK ⟨Or.inr rfl, ⟨Or.inr rfl, ⟨Or.inr rfl, trivial⟩⟩⟩ ?_
      exact ih _ _ h
set_option maxHeartbeats 4000000 in
set_option maxRecDepth 100000 in
theorem t_M_backTo {dd n : Nat} {x1 : Int32} {s : mb_T} {out : mb_T}  (h : f_M_backTo n x1 s = some out) : mb_MC (dd + 1) yM_backTo bM_backTo 3 none [.ref 200, .int x1] s none out := by
  unfold f_M_backTo at h
  refine mj_mc (lv := [.ref 200, .int x1, .retAddr 0]) mM_backTo rfl rfl (Nat.le_of_ble_eq_true rfl) (fun K hK hR => ?_)
  have hK : mj_C (dd + 1) 0 0 RM_c "backTo" bM_backTo 3 K := hK
  refine ro_iconst (x := 0) hK (by decide) dM_backTo_0 ?_
  refine ro_istore_n hK dM_backTo_1 (by decide) ?_
  show K 0 0 2 [.ref 200, .int x1, .int 0] [] (mb_s s)
  refine ro_fg (lv' := [.ref 200, .int x1, .int 0]) hK ⟨Or.inr rfl, ⟨Or.inr rfl, ⟨Or.inr rfl, trivial⟩⟩⟩ ?_
  refine tl_M_backTo_2 (dd := dd) hK hR (fun x_8 s_9 h => ?_) n _ _ h
  refine ro_aload_n hK dM_backTo_30 rfl ?_
  refine ro_aload_n hK dM_backTo_31 rfl ?_
  refine rb_get hK fM_71 mb_oM rfl dM_backTo_32 ?_
  refine ro_bipush (x := 8) hK (by decide) dM_backTo_35 ?_
  refine ro_iload_n hK dM_backTo_37 rfl ?_
  refine ro_imul hK dM_backTo_38 ?_
  refine ro_iconst (x := 5) hK (by decide) dM_backTo_39 ?_
  refine ro_iadd hK dM_backTo_40 ?_
  obtain ⟨x_10, e_11, i_12, h⟩ := mb_rd_e h
  refine rb_iald hK ai_234 i_12 e_11 dM_backTo_41 ?_
  obtain ⟨s_13, e_14, h⟩ := mb_bd_e h
  refine rb_put hK gM_170 mb_oM rfl (by show 11 < 45; decide) rfl rfl e_14 dM_backTo_42 ?_
  refine ro_aload_n hK dM_backTo_45 rfl ?_
  refine ro_aload_n hK dM_backTo_46 rfl ?_
  refine rb_get hK fM_71 mb_oM rfl dM_backTo_47 ?_
  refine ro_bipush (x := 8) hK (by decide) dM_backTo_50 ?_
  refine ro_iload_n hK dM_backTo_52 rfl ?_
  refine ro_imul hK dM_backTo_53 ?_
  refine ro_bipush (x := 6) hK (by decide) dM_backTo_54 ?_
  refine ro_iadd hK dM_backTo_56 ?_
  obtain ⟨x_15, e_16, i_17, h⟩ := mb_rd_e h
  refine rb_iald hK ai_234 i_17 e_16 dM_backTo_57 ?_
  obtain ⟨s_18, e_19, h⟩ := mb_bd_e h
  refine rb_put hK gM_50 mb_oM rfl (by show 25 < 45; decide) rfl rfl e_19 dM_backTo_58 ?_
  refine ro_aload_n hK dM_backTo_61 rfl ?_
  refine ro_aload_n hK dM_backTo_62 rfl ?_
  refine rb_get hK fM_71 mb_oM rfl dM_backTo_63 ?_
  refine ro_bipush (x := 8) hK (by decide) dM_backTo_66 ?_
  refine ro_iload_n hK dM_backTo_68 rfl ?_
  refine ro_imul hK dM_backTo_69 ?_
  refine ro_bipush (x := 7) hK (by decide) dM_backTo_70 ?_
  refine ro_iadd hK dM_backTo_72 ?_
  obtain ⟨x_20, e_21, i_22, h⟩ := mb_rd_e h
  refine rb_iald hK ai_234 i_22 e_21 dM_backTo_73 ?_
  obtain ⟨s_23, e_24, h⟩ := mb_bd_e h
  refine rb_put hK gM_173 mb_oM rfl (by show 24 < 45; decide) rfl rfl e_24 dM_backTo_74 ?_
  cases h
  exact hR.2.2 0 0 77 _ _ rfl dM_backTo_77 ⟨rfl, rfl⟩
theorem dM_comeBack_0 : decode bM_comeBack 0 = .ok (.iconst 0, 1) := by decide +kernel
theorem dM_comeBack_1 : decode bM_comeBack 1 = .ok (.istore_n 1, 1) := by decide +kernel
theorem dM_comeBack_2 : decode bM_comeBack 2 = .ok (.iload_n 1, 1) := by decide +kernel
theorem dM_comeBack_3 : decode bM_comeBack 3 = .ok (.iconst 5, 1) := by decide +kernel
theorem dM_comeBack_4 : decode bM_comeBack 4 = .ok (.if_icmp .ge 21, 3) := by decide +kernel
theorem dM_comeBack_7 : decode bM_comeBack 7 = .ok (.aload_n 0, 1) := by decide +kernel
theorem dM_comeBack_8 : decode bM_comeBack 8 = .ok (.getfield 31, 3) := by decide +kernel
theorem dM_comeBack_11 : decode bM_comeBack 11 = .ok (.iload_n 1, 1) := by decide +kernel
theorem dM_comeBack_12 : decode bM_comeBack 12 = .ok (.aload_n 0, 1) := by decide +kernel
theorem dM_comeBack_13 : decode bM_comeBack 13 = .ok (.getfield 65, 3) := by decide +kernel
theorem dM_comeBack_16 : decode bM_comeBack 16 = .ok (.iload_n 1, 1) := by decide +kernel
theorem dM_comeBack_17 : decode bM_comeBack 17 = .ok (.iaload, 1) := by decide +kernel
theorem dM_comeBack_18 : decode bM_comeBack 18 = .ok (.iastore, 1) := by decide +kernel
theorem dM_comeBack_19 : decode bM_comeBack 19 = .ok (.iinc 1 1, 3) := by decide +kernel
theorem dM_comeBack_22 : decode bM_comeBack 22 = .ok (.goto (-20), 3) := by decide +kernel
theorem dM_comeBack_25 : decode bM_comeBack 25 = .ok (.aload_n 0, 1) := by decide +kernel
theorem dM_comeBack_26 : decode bM_comeBack 26 = .ok (.aload_n 0, 1) := by decide +kernel
theorem dM_comeBack_27 : decode bM_comeBack 27 = .ok (.getfield 65, 3) := by decide +kernel
theorem dM_comeBack_30 : decode bM_comeBack 30 = .ok (.iconst 5, 1) := by decide +kernel
theorem dM_comeBack_31 : decode bM_comeBack 31 = .ok (.iaload, 1) := by decide +kernel
theorem dM_comeBack_32 : decode bM_comeBack 32 = .ok (.putfield 170, 3) := by decide +kernel
theorem dM_comeBack_35 : decode bM_comeBack 35 = .ok (.aload_n 0, 1) := by decide +kernel
theorem dM_comeBack_36 : decode bM_comeBack 36 = .ok (.aload_n 0, 1) := by decide +kernel
theorem dM_comeBack_37 : decode bM_comeBack 37 = .ok (.getfield 65, 3) := by decide +kernel
theorem dM_comeBack_40 : decode bM_comeBack 40 = .ok (.bipush 6, 2) := by decide +kernel
theorem dM_comeBack_42 : decode bM_comeBack 42 = .ok (.iaload, 1) := by decide +kernel
theorem dM_comeBack_43 : decode bM_comeBack 43 = .ok (.putfield 50, 3) := by decide +kernel
theorem dM_comeBack_46 : decode bM_comeBack 46 = .ok (.aload_n 0, 1) := by decide +kernel
theorem dM_comeBack_47 : decode bM_comeBack 47 = .ok (.aload_n 0, 1) := by decide +kernel
theorem dM_comeBack_48 : decode bM_comeBack 48 = .ok (.getfield 65, 3) := by decide +kernel
theorem dM_comeBack_51 : decode bM_comeBack 51 = .ok (.bipush 7, 2) := by decide +kernel
theorem dM_comeBack_53 : decode bM_comeBack 53 = .ok (.iaload, 1) := by decide +kernel
theorem dM_comeBack_54 : decode bM_comeBack 54 = .ok (.putfield 173, 3) := by decide +kernel
theorem dM_comeBack_57 : decode bM_comeBack 57 = .ok (.return_, 1) := by decide +kernel
def f_M_comeBack_2 (n : Nat) (k0 : Int32 → mb_T → Option (mb_T))  : Nat → Int32 → mb_T → Option (mb_T)
  | 0, _, _ => none
  | f + 1, w1, s => if 5 ≤ w1 then k0 w1 s else mb_rd s 230 8 w1 fun x_2 => mb_wr s 213 10 w1 x_2 fun s_5 => f_M_comeBack_2 n k0 f (w1 + 1) s_5
def f_M_comeBack (n : Nat)  (s : mb_T) : Option (mb_T) := f_M_comeBack_2 n (fun x_8 s_9 => mb_rd s_9 230 8 5 fun x_10 => mb_bd (sF s_9 200 11 x_10) fun s_13 => mb_rd s_13 230 8 6 fun x_15 => mb_bd (sF s_13 200 25 x_15) fun s_18 => mb_rd s_18 230 8 7 fun x_20 => mb_bd (sF s_18 200 24 x_20) fun s_23 => some s_23) n 0 s
set_option maxHeartbeats 4000000 in
set_option maxRecDepth 100000 in
theorem tl_M_comeBack_2 {dd n : Nat} {K : mj_KT} {out : mb_T} (hK : mj_C (dd + 1) 0 0 RM_c "comeBack" bM_comeBack 2 K) (hR : mj_R bM_comeBack none (fun r2 S2 => r2 = none ∧ S2 = mb_s out) K) {k0 : Int32 → mb_T → Option (mb_T)}  (hk0 : ∀ (w1 : Int32) (s : mb_T), k0 w1 s = some out → K 0 0 25 [.ref 200, .int w1] [] (mb_s s)) : ∀ (f : Nat) (w1 : Int32) (s : mb_T), f_M_comeBack_2 n k0 f w1 s = some out → K 0 0 2 [.ref 200, .int w1] [] (mb_s s) := by
  intro f
  induction f with
  | zero =>
    intro w1 s h
    cases h
  | succ f ih =>
    intro w1 s h
    rw [f_M_comeBack_2] at h
    refine ro_iload_n hK dM_comeBack_2 rfl ?_
    refine ro_iconst (x := 5) hK (by decide) dM_comeBack_3 ?_
    refine ro_icmp_ge (tgt := 25) hK dM_comeBack_4 (by decide) (fun c_1 => ?_) (fun c_1 => ?_)
    · replace h := mb_ift c_1 h
      refine ro_fg (lv' := [.ref 200, .int w1]) hK ⟨Or.inr rfl, ⟨Or.inr rfl, trivial⟩⟩ ?_
      exact hk0 _ _ h
    · replace h := mb_iff c_1 h
      refine ro_aload_n hK dM_comeBack_7 rfl ?_
      refine rb_get hK fM_31 mb_oM rfl dM_comeBack_8 ?_
      refine ro_iload_n hK dM_comeBack_11 rfl ?_
      refine ro_aload_n hK dM_comeBack_12 rfl ?_
      refine rb_get hK fM_65 mb_oM rfl dM_comeBack_13 ?_
      refine ro_iload_n hK dM_comeBack_16 rfl ?_
      obtain ⟨x_2, e_3, i_4, h⟩ := mb_rd_e h
      refine rb_iald hK ai_230 i_4 e_3 dM_comeBack_17 ?_
      obtain ⟨s_5, e_6, i_7, h⟩ := mb_wr_e h
      refine rb_iast hK ai_213 i_7 e_6 dM_comeBack_18 ?_
      refine ro_iincv (c := 1) hK (by decide) dM_comeBack_19 rfl (by decide) ?_
      show K 0 0 22 [.ref 200, .int (w1 + 1)] [] (mb_s s_5)
      refine ro_goto (tgt := 2) hK dM_comeBack_22 (by decide) ?_
      refine ro_fg (lv' := [.ref 200, .int (w1 + 1)]) hK ⟨Or.inr rfl, ⟨Or.inr rfl, trivial⟩⟩ ?_
      exact ih _ _ h
set_option maxHeartbeats 4000000 in
set_option maxRecDepth 100000 in
theorem t_M_comeBack {dd n : Nat}  {s : mb_T} {out : mb_T}  (h : f_M_comeBack n  s = some out) : mb_MC (dd + 1) yM_comeBack bM_comeBack 2 none [.ref 200] s none out := by
  unfold f_M_comeBack at h
  refine mj_mc (lv := [.ref 200, .retAddr 0]) mM_comeBack rfl rfl (Nat.le_of_ble_eq_true rfl) (fun K hK hR => ?_)
  have hK : mj_C (dd + 1) 0 0 RM_c "comeBack" bM_comeBack 2 K := hK
  refine ro_iconst (x := 0) hK (by decide) dM_comeBack_0 ?_
  refine ro_istore_n hK dM_comeBack_1 (by decide) ?_
  show K 0 0 2 [.ref 200, .int 0] [] (mb_s s)
  refine ro_fg (lv' := [.ref 200, .int 0]) hK ⟨Or.inr rfl, ⟨Or.inr rfl, trivial⟩⟩ ?_
  refine tl_M_comeBack_2 (dd := dd) hK hR (fun x_8 s_9 h => ?_) n _ _ h
  refine ro_aload_n hK dM_comeBack_25 rfl ?_
  refine ro_aload_n hK dM_comeBack_26 rfl ?_
  refine rb_get hK fM_65 mb_oM rfl dM_comeBack_27 ?_
  refine ro_iconst (x := 5) hK (by decide) dM_comeBack_30 ?_
  obtain ⟨x_10, e_11, i_12, h⟩ := mb_rd_e h
  refine rb_iald hK ai_230 i_12 e_11 dM_comeBack_31 ?_
  obtain ⟨s_13, e_14, h⟩ := mb_bd_e h
  refine rb_put hK gM_170 mb_oM rfl (by show 11 < 45; decide) rfl rfl e_14 dM_comeBack_32 ?_
  refine ro_aload_n hK dM_comeBack_35 rfl ?_
  refine ro_aload_n hK dM_comeBack_36 rfl ?_
  refine rb_get hK fM_65 mb_oM rfl dM_comeBack_37 ?_
  refine ro_bipush (x := 6) hK (by decide) dM_comeBack_40 ?_
  obtain ⟨x_15, e_16, i_17, h⟩ := mb_rd_e h
  refine rb_iald hK ai_230 i_17 e_16 dM_comeBack_42 ?_
  obtain ⟨s_18, e_19, h⟩ := mb_bd_e h
  refine rb_put hK gM_50 mb_oM rfl (by show 25 < 45; decide) rfl rfl e_19 dM_comeBack_43 ?_
  refine ro_aload_n hK dM_comeBack_46 rfl ?_
  refine ro_aload_n hK dM_comeBack_47 rfl ?_
  refine rb_get hK fM_65 mb_oM rfl dM_comeBack_48 ?_
  refine ro_bipush (x := 7) hK (by decide) dM_comeBack_51 ?_
  obtain ⟨x_20, e_21, i_22, h⟩ := mb_rd_e h
  refine rb_iald hK ai_230 i_22 e_21 dM_comeBack_53 ?_
  obtain ⟨s_23, e_24, h⟩ := mb_bd_e h
  refine rb_put hK gM_173 mb_oM rfl (by show 24 < 45; decide) rfl rfl e_24 dM_comeBack_54 ?_
  cases h
  exact hR.2.2 0 0 57 _ _ rfl dM_comeBack_57 ⟨rfl, rfl⟩
theorem dM_copyLaid_0 : decode bM_copyLaid 0 = .ok (.iconst 0, 1) := by decide +kernel
theorem dM_copyLaid_1 : decode bM_copyLaid 1 = .ok (.istore_n 2, 1) := by decide +kernel
theorem dM_copyLaid_2 : decode bM_copyLaid 2 = .ok (.iload_n 2, 1) := by decide +kernel
theorem dM_copyLaid_3 : decode bM_copyLaid 3 = .ok (.iload_n 1, 1) := by decide +kernel
theorem dM_copyLaid_4 : decode bM_copyLaid 4 = .ok (.if_icmp .ge 21, 3) := by decide +kernel
theorem dM_copyLaid_7 : decode bM_copyLaid 7 = .ok (.aload_n 0, 1) := by decide +kernel
theorem dM_copyLaid_8 : decode bM_copyLaid 8 = .ok (.getfield 77, 3) := by decide +kernel
theorem dM_copyLaid_11 : decode bM_copyLaid 11 = .ok (.iload_n 2, 1) := by decide +kernel
theorem dM_copyLaid_12 : decode bM_copyLaid 12 = .ok (.aload_n 0, 1) := by decide +kernel
theorem dM_copyLaid_13 : decode bM_copyLaid 13 = .ok (.getfield 74, 3) := by decide +kernel
theorem dM_copyLaid_16 : decode bM_copyLaid 16 = .ok (.iload_n 2, 1) := by decide +kernel
theorem dM_copyLaid_17 : decode bM_copyLaid 17 = .ok (.iaload, 1) := by decide +kernel
theorem dM_copyLaid_18 : decode bM_copyLaid 18 = .ok (.iastore, 1) := by decide +kernel
theorem dM_copyLaid_19 : decode bM_copyLaid 19 = .ok (.iinc 2 1, 3) := by decide +kernel
theorem dM_copyLaid_22 : decode bM_copyLaid 22 = .ok (.goto (-20), 3) := by decide +kernel
theorem dM_copyLaid_25 : decode bM_copyLaid 25 = .ok (.return_, 1) := by decide +kernel
def f_M_copyLaid_2 (n : Nat) (k0 : Int32 → mb_T → Option (mb_T)) (y1 : Int32) : Nat → Int32 → mb_T → Option (mb_T)
  | 0, _, _ => none
  | f + 1, w2, s => if y1 ≤ w2 then k0 w2 s else mb_rd s 235 6 w2 fun x_2 => mb_wr s 236 6 w2 x_2 fun s_5 => f_M_copyLaid_2 n k0 y1 f (w2 + 1) s_5
def f_M_copyLaid (n : Nat) (x1 : Int32) (s : mb_T) : Option (mb_T) := f_M_copyLaid_2 n (fun x_8 s_9 => some s_9) x1 n 0 s
set_option maxHeartbeats 4000000 in
set_option maxRecDepth 100000 in
theorem tl_M_copyLaid_2 {dd n : Nat} {K : mj_KT} {out : mb_T} (hK : mj_C (dd + 1) 0 0 RM_c "copyLaid" bM_copyLaid 3 K) (hR : mj_R bM_copyLaid none (fun r2 S2 => r2 = none ∧ S2 = mb_s out) K) {k0 : Int32 → mb_T → Option (mb_T)} {y1 : Int32} (hk0 : ∀ (w2 : Int32) (s : mb_T), k0 w2 s = some out → K 0 0 25 [.ref 200, .int y1, .int w2] [] (mb_s s)) : ∀ (f : Nat) (w2 : Int32) (s : mb_T), f_M_copyLaid_2 n k0 y1 f w2 s = some out → K 0 0 2 [.ref 200, .int y1, .int w2] [] (mb_s s) := by
  intro f
  induction f with
  | zero =>
    intro w2 s h
    cases h
  | succ f ih =>
    intro w2 s h
    rw [f_M_copyLaid_2] at h
    refine ro_iload_n hK dM_copyLaid_2 rfl ?_
    refine ro_iload_n hK dM_copyLaid_3 rfl ?_
    refine ro_icmp_ge (tgt := 25) hK dM_copyLaid_4 (by decide) (fun c_1 => ?_) (fun c_1 => ?_)
    · replace h := mb_ift c_1 h
      refine ro_fg (lv' := [.ref 200, .int y1, .int w2]) hK ⟨Or.inr rfl, ⟨Or.inr rfl, ⟨Or.inr rfl, trivial⟩⟩⟩ ?_
      exact hk0 _ _ h
    · replace h := mb_iff c_1 h
      refine ro_aload_n hK dM_copyLaid_7 rfl ?_
      refine rb_get hK fM_77 mb_oM rfl dM_copyLaid_8 ?_
      refine ro_iload_n hK dM_copyLaid_11 rfl ?_
      refine ro_aload_n hK dM_copyLaid_12 rfl ?_
      refine rb_get hK fM_74 mb_oM rfl dM_copyLaid_13 ?_
      refine ro_iload_n hK dM_copyLaid_16 rfl ?_
      obtain ⟨x_2, e_3, i_4, h⟩ := mb_rd_e h
      refine rb_iald hK ai_235 i_4 e_3 dM_copyLaid_17 ?_
      obtain ⟨s_5, e_6, i_7, h⟩ := mb_wr_e h
      refine rb_iast hK ai_236 i_7 e_6 dM_copyLaid_18 ?_
      refine ro_iincv (c := 1) hK (by decide) dM_copyLaid_19 rfl (by decide) ?_
      show K 0 0 22 [.ref 200, .int y1, .int (w2 + 1)] [] (mb_s s_5)
      refine ro_goto (tgt := 2) hK dM_copyLaid_22 (by decide) ?_
      refine ro_fg (lv' := [.ref 200, .int y1, .int (w2 + 1)]) hK ⟨Or.inr rfl, ⟨Or.inr rfl, ⟨Or.inr rfl, trivial⟩⟩⟩ ?_
      exact ih _ _ h
set_option maxHeartbeats 4000000 in
set_option maxRecDepth 100000 in
theorem t_M_copyLaid {dd n : Nat} {x1 : Int32} {s : mb_T} {out : mb_T}  (h : f_M_copyLaid n x1 s = some out) : mb_MC (dd + 1) yM_copyLaid bM_copyLaid 3 none [.ref 200, .int x1] s none out := by
  unfold f_M_copyLaid at h
  refine mj_mc (lv := [.ref 200, .int x1, .retAddr 0]) mM_copyLaid rfl rfl (Nat.le_of_ble_eq_true rfl) (fun K hK hR => ?_)
  have hK : mj_C (dd + 1) 0 0 RM_c "copyLaid" bM_copyLaid 3 K := hK
  refine ro_iconst (x := 0) hK (by decide) dM_copyLaid_0 ?_
  refine ro_istore_n hK dM_copyLaid_1 (by decide) ?_
  show K 0 0 2 [.ref 200, .int x1, .int 0] [] (mb_s s)
  refine ro_fg (lv' := [.ref 200, .int x1, .int 0]) hK ⟨Or.inr rfl, ⟨Or.inr rfl, ⟨Or.inr rfl, trivial⟩⟩⟩ ?_
  refine tl_M_copyLaid_2 (dd := dd) hK hR (fun x_8 s_9 h => ?_) n _ _ h
  cases h
  exact hR.2.2 0 0 25 _ _ rfl dM_copyLaid_25 ⟨rfl, rfl⟩
theorem dM_divisor_0 : decode bM_divisor 0 = .ok (.iload_n 0, 1) := by decide +kernel
theorem dM_divisor_1 : decode bM_divisor 1 = .ok (.istore_n 2, 1) := by decide +kernel
theorem dM_divisor_2 : decode bM_divisor 2 = .ok (.iload_n 1, 1) := by decide +kernel
theorem dM_divisor_3 : decode bM_divisor 3 = .ok (.istore_n 3, 1) := by decide +kernel
theorem dM_divisor_4 : decode bM_divisor 4 = .ok (.iload_n 3, 1) := by decide +kernel
theorem dM_divisor_5 : decode bM_divisor 5 = .ok (.ifCond .eq 16, 3) := by decide +kernel
theorem dM_divisor_8 : decode bM_divisor 8 = .ok (.iload_n 2, 1) := by decide +kernel
theorem dM_divisor_9 : decode bM_divisor 9 = .ok (.iload_n 3, 1) := by decide +kernel
theorem dM_divisor_10 : decode bM_divisor 10 = .ok (.irem, 1) := by decide +kernel
theorem dM_divisor_11 : decode bM_divisor 11 = .ok (.istore 4, 2) := by decide +kernel
theorem dM_divisor_13 : decode bM_divisor 13 = .ok (.iload_n 3, 1) := by decide +kernel
theorem dM_divisor_14 : decode bM_divisor 14 = .ok (.istore_n 2, 1) := by decide +kernel
theorem dM_divisor_15 : decode bM_divisor 15 = .ok (.iload 4, 2) := by decide +kernel
theorem dM_divisor_17 : decode bM_divisor 17 = .ok (.istore_n 3, 1) := by decide +kernel
theorem dM_divisor_18 : decode bM_divisor 18 = .ok (.goto (-14), 3) := by decide +kernel
theorem dM_divisor_21 : decode bM_divisor 21 = .ok (.iload_n 2, 1) := by decide +kernel
theorem dM_divisor_22 : decode bM_divisor 22 = .ok (.ireturn, 1) := by decide +kernel
def f_M_divisor_4 (n : Nat) (k0 : Int32 → Int32 → mb_T → Option (Int32 × mb_T))  : Nat → Int32 → Int32 → mb_T → Option (Int32 × mb_T)
  | 0, _, _, _ => none
  | f + 1, w2, w3, s => if w3 = 0 then k0 w2 w3 s else mb_dv w3 (f_M_divisor_4 n k0 f w3 (w2 - w2 / w3 * w3) s)
def f_M_divisor (n : Nat) (x1 : Int32) (x2 : Int32) (s : mb_T) : Option (Int32 × mb_T) := f_M_divisor_4 n (fun x_3 x_4 s_5 => some (x_3, s_5)) n x1 x2 s
set_option maxHeartbeats 4000000 in
set_option maxRecDepth 100000 in
theorem tl_M_divisor_4 {dd n : Nat} {K : mj_KT} {out : Int32 × mb_T} (hK : mj_C (dd + 1) 0 0 RM_c "divisor" bM_divisor 5 K) (hR : mj_R bM_divisor (some .int) (fun r2 S2 => r2 = some (.int out.1) ∧ S2 = mb_s out.2) K) {k0 : Int32 → Int32 → mb_T → Option (Int32 × mb_T)}  (hk0 : ∀ (w2 : Int32) (w3 : Int32) (s : mb_T), k0 w2 w3 s = some out → K 0 0 21 [.retAddr 0, .retAddr 0, .int w2, .int w3, .retAddr 0] [] (mb_s s)) : ∀ (f : Nat) (w2 : Int32) (w3 : Int32) (s : mb_T), f_M_divisor_4 n k0 f w2 w3 s = some out → K 0 0 4 [.retAddr 0, .retAddr 0, .int w2, .int w3, .retAddr 0] [] (mb_s s) := by
  intro f
  induction f with
  | zero =>
    intro w2 w3 s h
    cases h
  | succ f ih =>
    intro w2 w3 s h
    rw [f_M_divisor_4] at h
    refine ro_iload_n hK dM_divisor_4 rfl ?_
    refine ro_if_eq (tgt := 21) hK dM_divisor_5 (by decide) (fun c_1 => ?_) (fun c_1 => ?_)
    · replace h := mb_ift c_1 h
      refine ro_fg (lv' := [.retAddr 0, .retAddr 0, .int w2, .int w3, .retAddr 0]) hK ⟨Or.inl rfl, ⟨Or.inl rfl, ⟨Or.inr rfl, ⟨Or.inr rfl, ⟨Or.inl rfl, trivial⟩⟩⟩⟩⟩ ?_
      exact hk0 _ _ _ h
    · replace h := mb_iff c_1 h
      refine ro_iload_n hK dM_divisor_8 rfl ?_
      refine ro_iload_n hK dM_divisor_9 rfl ?_
      obtain ⟨z_2, h⟩ := mb_dv_e h
      refine ro_irem hK dM_divisor_10 z_2 ?_
      refine ro_istore hK dM_divisor_11 (by decide) ?_
      show K 0 0 13 [.retAddr 0, .retAddr 0, .int w2, .int w3, .int (w2 - w2 / w3 * w3)] [] (mb_s s)
      refine ro_iload_n hK dM_divisor_13 rfl ?_
      refine ro_istore_n hK dM_divisor_14 (by decide) ?_
      show K 0 0 15 [.retAddr 0, .retAddr 0, .int w3, .int w3, .int (w2 - w2 / w3 * w3)] [] (mb_s s)
      refine ro_iload hK dM_divisor_15 rfl ?_
      refine ro_istore_n hK dM_divisor_17 (by decide) ?_
      show K 0 0 18 [.retAddr 0, .retAddr 0, .int w3, .int (w2 - w2 / w3 * w3), .int (w2 - w2 / w3 * w3)] [] (mb_s s)
      refine ro_goto (tgt := 4) hK dM_divisor_18 (by decide) ?_
      refine ro_fg (lv' := [.retAddr 0, .retAddr 0, .int w3, .int (w2 - w2 / w3 * w3), .retAddr 0]) hK ⟨Or.inl rfl, ⟨Or.inl rfl, ⟨Or.inr rfl, ⟨Or.inr rfl, ⟨Or.inl rfl, trivial⟩⟩⟩⟩⟩ ?_
      exact ih _ _ _ h
set_option maxHeartbeats 4000000 in
set_option maxRecDepth 100000 in
theorem t_M_divisor {dd n : Nat} {x1 : Int32} {x2 : Int32} {s : mb_T} {out : Int32 × mb_T}  (h : f_M_divisor n x1 x2 s = some out) : mb_MC (dd + 1) yM_divisor bM_divisor 5 (some .int) [.int x1, .int x2] s (some (.int out.1)) out.2 := by
  unfold f_M_divisor at h
  refine mj_mc (lv := [.int x1, .int x2, .retAddr 0, .retAddr 0, .retAddr 0]) mM_divisor rfl rfl (Nat.le_of_ble_eq_true rfl) (fun K hK hR => ?_)
  have hK : mj_C (dd + 1) 0 0 RM_c "divisor" bM_divisor 5 K := hK
  refine ro_iload_n hK dM_divisor_0 rfl ?_
  refine ro_istore_n hK dM_divisor_1 (by decide) ?_
  show K 0 0 2 [.int x1, .int x2, .int x1, .retAddr 0, .retAddr 0] [] (mb_s s)
  refine ro_iload_n hK dM_divisor_2 rfl ?_
  refine ro_istore_n hK dM_divisor_3 (by decide) ?_
  show K 0 0 4 [.int x1, .int x2, .int x1, .int x2, .retAddr 0] [] (mb_s s)
  refine ro_fg (lv' := [.retAddr 0, .retAddr 0, .int x1, .int x2, .retAddr 0]) hK ⟨Or.inl rfl, ⟨Or.inl rfl, ⟨Or.inr rfl, ⟨Or.inr rfl, ⟨Or.inl rfl, trivial⟩⟩⟩⟩⟩ ?_
  refine tl_M_divisor_4 (dd := dd) hK hR (fun x_3 x_4 s_5 h => ?_) n _ _ _ h
  refine ro_iload_n hK dM_divisor_21 rfl ?_
  cases h
  exact hR.1 0 0 22 _ _ _ _ rfl rfl dM_divisor_22 ⟨rfl, rfl⟩
theorem dM_finding_0 : decode bM_finding 0 = .ok (.aload_n 0, 1) := by decide +kernel
theorem dM_finding_1 : decode bM_finding 1 = .ok (.getfield 86, 3) := by decide +kernel
theorem dM_finding_4 : decode bM_finding 4 = .ok (.ireturn, 1) := by decide +kernel
def f_M_finding (n : Nat)  (s : mb_T) : Option (Int32 × mb_T) := some ((s.1 200 0), s)
set_option maxHeartbeats 4000000 in
set_option maxRecDepth 100000 in
theorem t_M_finding {dd n : Nat}  {s : mb_T} {out : Int32 × mb_T}  (h : f_M_finding n  s = some out) : mb_MC (dd + 1) yM_finding bM_finding 1 (some .int) [.ref 200] s (some (.int out.1)) out.2 := by
  unfold f_M_finding at h
  refine mj_mc (lv := [.ref 200]) mM_finding rfl rfl (Nat.le_of_ble_eq_true rfl) (fun K hK hR => ?_)
  have hK : mj_C (dd + 1) 0 0 RM_c "finding" bM_finding 1 K := hK
  refine ro_aload_n hK dM_finding_0 rfl ?_
  refine rb_get hK fM_86 mb_oM rfl dM_finding_1 ?_
  cases h
  exact hR.1 0 0 4 _ _ _ _ rfl rfl dM_finding_4 ⟨rfl, rfl⟩
theorem dM_greatest_0 : decode bM_greatest 0 = .ok (.iconst 0, 1) := by decide +kernel
theorem dM_greatest_1 : decode bM_greatest 1 = .ok (.istore_n 1, 1) := by decide +kernel
theorem dM_greatest_2 : decode bM_greatest 2 = .ok (.iconst 1, 1) := by decide +kernel
theorem dM_greatest_3 : decode bM_greatest 3 = .ok (.istore_n 2, 1) := by decide +kernel
theorem dM_greatest_4 : decode bM_greatest 4 = .ok (.iload_n 2, 1) := by decide +kernel
theorem dM_greatest_5 : decode bM_greatest 5 = .ok (.aload_n 0, 1) := by decide +kernel
theorem dM_greatest_6 : decode bM_greatest 6 = .ok (.getfield 161, 3) := by decide +kernel
theorem dM_greatest_9 : decode bM_greatest 9 = .ok (.if_icmp .ge 30, 3) := by decide +kernel
theorem dM_greatest_12 : decode bM_greatest 12 = .ok (.aload_n 0, 1) := by decide +kernel
theorem dM_greatest_13 : decode bM_greatest 13 = .ok (.getfield 31, 3) := by decide +kernel
theorem dM_greatest_16 : decode bM_greatest 16 = .ok (.iload_n 2, 1) := by decide +kernel
theorem dM_greatest_17 : decode bM_greatest 17 = .ok (.iaload, 1) := by decide +kernel
theorem dM_greatest_18 : decode bM_greatest 18 = .ok (.aload_n 0, 1) := by decide +kernel
theorem dM_greatest_19 : decode bM_greatest 19 = .ok (.getfield 31, 3) := by decide +kernel
theorem dM_greatest_22 : decode bM_greatest 22 = .ok (.iload_n 1, 1) := by decide +kernel
theorem dM_greatest_23 : decode bM_greatest 23 = .ok (.iaload, 1) := by decide +kernel
theorem dM_greatest_24 : decode bM_greatest 24 = .ok (.if_icmp .le 7, 3) := by decide +kernel
theorem dM_greatest_27 : decode bM_greatest 27 = .ok (.iload_n 2, 1) := by decide +kernel
theorem dM_greatest_28 : decode bM_greatest 28 = .ok (.goto 4, 3) := by decide +kernel
theorem dM_greatest_31 : decode bM_greatest 31 = .ok (.iload_n 1, 1) := by decide +kernel
theorem dM_greatest_32 : decode bM_greatest 32 = .ok (.istore_n 1, 1) := by decide +kernel
theorem dM_greatest_33 : decode bM_greatest 33 = .ok (.iinc 2 1, 3) := by decide +kernel
theorem dM_greatest_36 : decode bM_greatest 36 = .ok (.goto (-32), 3) := by decide +kernel
theorem dM_greatest_39 : decode bM_greatest 39 = .ok (.iload_n 1, 1) := by decide +kernel
theorem dM_greatest_40 : decode bM_greatest 40 = .ok (.ireturn, 1) := by decide +kernel
def f_M_greatest_4 (n : Nat) (k0 : Int32 → Int32 → mb_T → Option (Int32 × mb_T))  : Nat → Int32 → Int32 → mb_T → Option (Int32 × mb_T)
  | 0, _, _, _ => none
  | f + 1, w1, w2, s => if (s.1 200 8) ≤ w2 then k0 w1 w2 s else mb_rd s 213 10 w2 fun x_2 => mb_rd s 213 10 w1 fun x_5 => f_M_greatest_4 n k0 f (if x_2 ≤ x_5 then w1 else w2 : Int32) (w2 + 1) s
def f_M_greatest (n : Nat)  (s : mb_T) : Option (Int32 × mb_T) := f_M_greatest_4 n (fun x_10 x_11 s_12 => some (x_10, s_12)) n 0 1 s
set_option maxHeartbeats 4000000 in
set_option maxRecDepth 100000 in
theorem tl_M_greatest_4 {dd n : Nat} {K : mj_KT} {out : Int32 × mb_T} (hK : mj_C (dd + 1) 0 0 RM_c "greatest" bM_greatest 3 K) (hR : mj_R bM_greatest (some .int) (fun r2 S2 => r2 = some (.int out.1) ∧ S2 = mb_s out.2) K) {k0 : Int32 → Int32 → mb_T → Option (Int32 × mb_T)}  (hk0 : ∀ (w1 : Int32) (w2 : Int32) (s : mb_T), k0 w1 w2 s = some out → K 0 0 39 [.ref 200, .int w1, .int w2] [] (mb_s s)) : ∀ (f : Nat) (w1 : Int32) (w2 : Int32) (s : mb_T), f_M_greatest_4 n k0 f w1 w2 s = some out → K 0 0 4 [.ref 200, .int w1, .int w2] [] (mb_s s) := by
  intro f
  induction f with
  | zero =>
    intro w1 w2 s h
    cases h
  | succ f ih =>
    intro w1 w2 s h
    rw [f_M_greatest_4] at h
    refine ro_iload_n hK dM_greatest_4 rfl ?_
    refine ro_aload_n hK dM_greatest_5 rfl ?_
    refine rb_get hK fM_161 mb_oM rfl dM_greatest_6 ?_
    refine ro_icmp_ge (tgt := 39) hK dM_greatest_9 (by decide) (fun c_1 => ?_) (fun c_1 => ?_)
    · replace h := mb_ift c_1 h
      refine ro_fg (lv' := [.ref 200, .int w1, .int w2]) hK ⟨Or.inr rfl, ⟨Or.inr rfl, ⟨Or.inr rfl, trivial⟩⟩⟩ ?_
      exact hk0 _ _ _ h
    · replace h := mb_iff c_1 h
      refine ro_aload_n hK dM_greatest_12 rfl ?_
      refine rb_get hK fM_31 mb_oM rfl dM_greatest_13 ?_
      refine ro_iload_n hK dM_greatest_16 rfl ?_
      obtain ⟨x_2, e_3, i_4, h⟩ := mb_rd_e h
      refine rb_iald hK ai_213 i_4 e_3 dM_greatest_17 ?_
      refine ro_aload_n hK dM_greatest_18 rfl ?_
      refine rb_get hK fM_31 mb_oM rfl dM_greatest_19 ?_
      refine ro_iload_n hK dM_greatest_22 rfl ?_
      obtain ⟨x_5, e_6, i_7, h⟩ := mb_rd_e h
      refine rb_iald hK ai_213 i_7 e_6 dM_greatest_23 ?_
      have j_9 : ∀ w_ : Int32, w_ = (if x_2 ≤ x_5 then w1 else w2 : Int32) → K 0 0 32 [.ref 200, .int w1, .int w2] [.int w_] (mb_s s) → K 0 0 24 [.ref 200, .int w1, .int w2] [.int x_5, .int x_2] (mb_s s) := by
        intro w_ hw hj
        refine ro_icmp_le (tgt := 31) hK dM_greatest_24 (by decide) (fun c_8 => ?_) (fun c_8 => ?_)
        · skip
          refine ro_iload_n hK dM_greatest_31 rfl ?_
          have hw := (hw.trans (if_pos c_8))
          subst hw
          exact hj
        · skip
          refine ro_iload_n hK dM_greatest_27 rfl ?_
          refine ro_goto (tgt := 32) hK dM_greatest_28 (by decide) ?_
          have hw := (hw.trans (if_neg c_8))
          subst hw
          exact hj
      refine j_9 _ rfl ?_
      refine ro_istore_n hK dM_greatest_32 (by decide) ?_
      show K 0 0 33 [.ref 200, .int (if x_2 ≤ x_5 then w1 else w2 : Int32), .int w2] [] (mb_s s)
      refine ro_iincv (c := 1) hK (by decide) dM_greatest_33 rfl (by decide) ?_
      show K 0 0 36 [.ref 200, .int (if x_2 ≤ x_5 then w1 else w2 : Int32), .int (w2 + 1)] [] (mb_s s)
      refine ro_goto (tgt := 4) hK dM_greatest_36 (by decide) ?_
      refine ro_fg (lv' := [.ref 200, .int (if x_2 ≤ x_5 then w1 else w2 : Int32), .int (w2 + 1)]) hK ⟨Or.inr rfl, ⟨Or.inr rfl, ⟨Or.inr rfl, trivial⟩⟩⟩ ?_
      exact ih _ _ _ h
set_option maxHeartbeats 4000000 in
set_option maxRecDepth 100000 in
theorem t_M_greatest {dd n : Nat}  {s : mb_T} {out : Int32 × mb_T}  (h : f_M_greatest n  s = some out) : mb_MC (dd + 1) yM_greatest bM_greatest 3 (some .int) [.ref 200] s (some (.int out.1)) out.2 := by
  unfold f_M_greatest at h
  refine mj_mc (lv := [.ref 200, .retAddr 0, .retAddr 0]) mM_greatest rfl rfl (Nat.le_of_ble_eq_true rfl) (fun K hK hR => ?_)
  have hK : mj_C (dd + 1) 0 0 RM_c "greatest" bM_greatest 3 K := hK
  refine ro_iconst (x := 0) hK (by decide) dM_greatest_0 ?_
  refine ro_istore_n hK dM_greatest_1 (by decide) ?_
  show K 0 0 2 [.ref 200, .int 0, .retAddr 0] [] (mb_s s)
  refine ro_iconst (x := 1) hK (by decide) dM_greatest_2 ?_
  refine ro_istore_n hK dM_greatest_3 (by decide) ?_
  show K 0 0 4 [.ref 200, .int 0, .int 1] [] (mb_s s)
  refine ro_fg (lv' := [.ref 200, .int 0, .int 1]) hK ⟨Or.inr rfl, ⟨Or.inr rfl, ⟨Or.inr rfl, trivial⟩⟩⟩ ?_
  refine tl_M_greatest_4 (dd := dd) hK hR (fun x_10 x_11 s_12 h => ?_) n _ _ _ h
  refine ro_iload_n hK dM_greatest_39 rfl ?_
  cases h
  exact hR.1 0 0 40 _ _ _ _ rfl rfl dM_greatest_40 ⟨rfl, rfl⟩
theorem dM_has_0 : decode bM_has 0 = .ok (.iload_n 0, 1) := by decide +kernel
theorem dM_has_1 : decode bM_has 1 = .ok (.iload_n 1, 1) := by decide +kernel
theorem dM_has_2 : decode bM_has 2 = .ok (.ishr, 1) := by decide +kernel
theorem dM_has_3 : decode bM_has 3 = .ok (.iconst 1, 1) := by decide +kernel
theorem dM_has_4 : decode bM_has 4 = .ok (.iand, 1) := by decide +kernel
theorem dM_has_5 : decode bM_has 5 = .ok (.iconst 1, 1) := by decide +kernel
theorem dM_has_6 : decode bM_has 6 = .ok (.if_icmp .ne 7, 3) := by decide +kernel
theorem dM_has_9 : decode bM_has 9 = .ok (.iconst 1, 1) := by decide +kernel
theorem dM_has_10 : decode bM_has 10 = .ok (.goto 4, 3) := by decide +kernel
theorem dM_has_13 : decode bM_has 13 = .ok (.iconst 0, 1) := by decide +kernel
theorem dM_has_14 : decode bM_has 14 = .ok (.ireturn, 1) := by decide +kernel
def f_M_has (n : Nat) (x1 : Int32) (x2 : Int32) (s : mb_T) : Option (Int32 × mb_T) := mb_bz (if ((x1 >>> (x2 &&& 31)) &&& 1) = 1 then 1 else 0 : Int32) (some ((if ((x1 >>> (x2 &&& 31)) &&& 1) = 1 then 1 else 0 : Int32), s))
set_option maxHeartbeats 4000000 in
set_option maxRecDepth 100000 in
theorem t_M_has {dd n : Nat} {x1 : Int32} {x2 : Int32} {s : mb_T} {out : Int32 × mb_T}  (h : f_M_has n x1 x2 s = some out) : mb_MC (dd + 1) yM_has bM_has 2 (some .boolean) [.int x1, .int x2] s (some (.int out.1)) out.2 := by
  unfold f_M_has at h
  refine mj_mc (lv := [.int x1, .int x2]) mM_has rfl rfl (Nat.le_of_ble_eq_true rfl) (fun K hK hR => ?_)
  have hK : mj_C (dd + 1) 0 0 RM_c "has" bM_has 2 K := hK
  refine ro_iload_n hK dM_has_0 rfl ?_
  refine ro_iload_n hK dM_has_1 rfl ?_
  refine ro_ishr hK dM_has_2 ?_
  refine ro_iconst (x := 1) hK (by decide) dM_has_3 ?_
  refine ro_iand hK dM_has_4 ?_
  refine ro_iconst (x := 1) hK (by decide) dM_has_5 ?_
  have j_2 : ∀ w_ : Int32, w_ = (if ((x1 >>> (x2 &&& 31)) &&& 1) = 1 then 1 else 0 : Int32) → K 0 0 14 [.int x1, .int x2] [.int w_] (mb_s s) → K 0 0 6 [.int x1, .int x2] [.int 1, .int ((x1 >>> (x2 &&& 31)) &&& 1)] (mb_s s) := by
    intro w_ hw hj
    refine ro_icmp_ne (tgt := 13) hK dM_has_6 (by decide) (fun c_1 => ?_) (fun c_1 => ?_)
    · skip
      refine ro_iconst (x := 0) hK (by decide) dM_has_13 ?_
      have hw := (hw.trans (if_neg c_1))
      subst hw
      exact hj
    · skip
      refine ro_iconst (x := 1) hK (by decide) dM_has_9 ?_
      refine ro_goto (tgt := 14) hK dM_has_10 (by decide) ?_
      have hw := (hw.trans (if_pos c_1))
      subst hw
      exact hj
  refine j_2 _ rfl ?_
  obtain ⟨z_3, h⟩ := mb_bz_e h
  cases h
  exact hR.1 0 0 14 _ _ _ _ rfl (mb_nz z_3) dM_has_14 ⟨rfl, rfl⟩
theorem dM_here_0 : decode bM_here 0 = .ok (.aload_n 0, 1) := by decide +kernel
theorem dM_here_1 : decode bM_here 1 = .ok (.getfield 127, 3) := by decide +kernel
theorem dM_here_4 : decode bM_here 4 = .ok (.aload_n 0, 1) := by decide +kernel
theorem dM_here_5 : decode bM_here 5 = .ok (.getfield 22, 3) := by decide +kernel
theorem dM_here_8 : decode bM_here 8 = .ok (.iload_n 1, 1) := by decide +kernel
theorem dM_here_9 : decode bM_here 9 = .ok (.iaload, 1) := by decide +kernel
theorem dM_here_10 : decode bM_here 10 = .ok (.if_icmp .ge 20, 3) := by decide +kernel
theorem dM_here_13 : decode bM_here 13 = .ok (.aload_n 0, 1) := by decide +kernel
theorem dM_here_14 : decode bM_here 14 = .ok (.getfield 25, 3) := by decide +kernel
theorem dM_here_17 : decode bM_here 17 = .ok (.bipush 80, 2) := by decide +kernel
theorem dM_here_19 : decode bM_here 19 = .ok (.iload_n 1, 1) := by decide +kernel
theorem dM_here_20 : decode bM_here 20 = .ok (.imul, 1) := by decide +kernel
theorem dM_here_21 : decode bM_here 21 = .ok (.aload_n 0, 1) := by decide +kernel
theorem dM_here_22 : decode bM_here 22 = .ok (.getfield 127, 3) := by decide +kernel
theorem dM_here_25 : decode bM_here 25 = .ok (.iadd, 1) := by decide +kernel
theorem dM_here_26 : decode bM_here 26 = .ok (.iaload, 1) := by decide +kernel
theorem dM_here_27 : decode bM_here 27 = .ok (.goto 5, 3) := by decide +kernel
theorem dM_here_30 : decode bM_here 30 = .ok (.bipush (-9), 2) := by decide +kernel
theorem dM_here_32 : decode bM_here 32 = .ok (.ireturn, 1) := by decide +kernel
def f_M_here (n : Nat) (x1 : Int32) (s : mb_T) : Option (Int32 × mb_T) := mb_rd s 206 4 x1 fun x_1 => if x_1 ≤ (s.1 200 17) then some ((-9), s) else mb_rd s 207 320 ((80 * x1) + (s.1 200 17)) fun x_5 => some (x_5, s)
set_option maxHeartbeats 4000000 in
set_option maxRecDepth 100000 in
theorem t_M_here {dd n : Nat} {x1 : Int32} {s : mb_T} {out : Int32 × mb_T}  (h : f_M_here n x1 s = some out) : mb_MC (dd + 1) yM_here bM_here 2 (some .int) [.ref 200, .int x1] s (some (.int out.1)) out.2 := by
  unfold f_M_here at h
  refine mj_mc (lv := [.ref 200, .int x1]) mM_here rfl rfl (Nat.le_of_ble_eq_true rfl) (fun K hK hR => ?_)
  have hK : mj_C (dd + 1) 0 0 RM_c "here" bM_here 2 K := hK
  refine ro_aload_n hK dM_here_0 rfl ?_
  refine rb_get hK fM_127 mb_oM rfl dM_here_1 ?_
  refine ro_aload_n hK dM_here_4 rfl ?_
  refine rb_get hK fM_22 mb_oM rfl dM_here_5 ?_
  refine ro_iload_n hK dM_here_8 rfl ?_
  obtain ⟨x_1, e_2, i_3, h⟩ := mb_rd_e h
  refine rb_iald hK ai_206 i_3 e_2 dM_here_9 ?_
  refine ro_icmp_ge (tgt := 30) hK dM_here_10 (by decide) (fun c_4 => ?_) (fun c_4 => ?_)
  · replace h := mb_ift c_4 h
    refine ro_bipush (x := (-9)) hK (by decide) dM_here_30 ?_
    cases h
    exact hR.1 0 0 32 _ _ _ _ rfl rfl dM_here_32 ⟨rfl, rfl⟩
  · replace h := mb_iff c_4 h
    refine ro_aload_n hK dM_here_13 rfl ?_
    refine rb_get hK fM_25 mb_oM rfl dM_here_14 ?_
    refine ro_bipush (x := 80) hK (by decide) dM_here_17 ?_
    refine ro_iload_n hK dM_here_19 rfl ?_
    refine ro_imul hK dM_here_20 ?_
    refine ro_aload_n hK dM_here_21 rfl ?_
    refine rb_get hK fM_127 mb_oM rfl dM_here_22 ?_
    refine ro_iadd hK dM_here_25 ?_
    obtain ⟨x_5, e_6, i_7, h⟩ := mb_rd_e h
    refine rb_iald hK ai_207 i_7 e_6 dM_here_26 ?_
    refine ro_goto (tgt := 32) hK dM_here_27 (by decide) ?_
    cases h
    exact hR.1 0 0 32 _ _ _ _ rfl rfl dM_here_32 ⟨rfl, rfl⟩
theorem dM_in_0 : decode bM_in 0 = .ok (.iload_n 0, 1) := by decide +kernel
theorem dM_in_1 : decode bM_in 1 = .ok (.iload_n 1, 1) := by decide +kernel
theorem dM_in_2 : decode bM_in 2 = .ok (.if_icmp .lt 12, 3) := by decide +kernel
theorem dM_in_5 : decode bM_in 5 = .ok (.iload_n 0, 1) := by decide +kernel
theorem dM_in_6 : decode bM_in 6 = .ok (.iload_n 2, 1) := by decide +kernel
theorem dM_in_7 : decode bM_in 7 = .ok (.if_icmp .gt 7, 3) := by decide +kernel
theorem dM_in_10 : decode bM_in 10 = .ok (.iconst 1, 1) := by decide +kernel
theorem dM_in_11 : decode bM_in 11 = .ok (.goto 4, 3) := by decide +kernel
theorem dM_in_14 : decode bM_in 14 = .ok (.iconst 0, 1) := by decide +kernel
theorem dM_in_15 : decode bM_in 15 = .ok (.ireturn, 1) := by decide +kernel
def f_M_in (n : Nat) (x1 : Int32) (x2 : Int32) (x3 : Int32) (s : mb_T) : Option (Int32 × mb_T) := mb_bz (if x1 < x2 then 0 else (if x3 < x1 then 0 else 1 : Int32) : Int32) (some ((if x1 < x2 then 0 else (if x3 < x1 then 0 else 1 : Int32) : Int32), s))
set_option maxHeartbeats 4000000 in
set_option maxRecDepth 100000 in
theorem t_M_in {dd n : Nat} {x1 : Int32} {x2 : Int32} {x3 : Int32} {s : mb_T} {out : Int32 × mb_T}  (h : f_M_in n x1 x2 x3 s = some out) : mb_MC (dd + 1) yM_in bM_in 3 (some .boolean) [.int x1, .int x2, .int x3] s (some (.int out.1)) out.2 := by
  unfold f_M_in at h
  refine mj_mc (lv := [.int x1, .int x2, .int x3]) mM_in rfl rfl (Nat.le_of_ble_eq_true rfl) (fun K hK hR => ?_)
  have hK : mj_C (dd + 1) 0 0 RM_c "in" bM_in 3 K := hK
  refine ro_iload_n hK dM_in_0 rfl ?_
  refine ro_iload_n hK dM_in_1 rfl ?_
  have j_3 : ∀ w_ : Int32, w_ = (if x1 < x2 then 0 else (if x3 < x1 then 0 else 1 : Int32) : Int32) → K 0 0 15 [.int x1, .int x2, .int x3] [.int w_] (mb_s s) → K 0 0 2 [.int x1, .int x2, .int x3] [.int x2, .int x1] (mb_s s) := by
    intro w_ hw hj
    refine ro_icmp_lt (tgt := 14) hK dM_in_2 (by decide) (fun c_1 => ?_) (fun c_1 => ?_)
    · skip
      refine ro_iconst (x := 0) hK (by decide) dM_in_14 ?_
      have hw := (hw.trans (if_pos c_1))
      subst hw
      exact hj
    · skip
      refine ro_iload_n hK dM_in_5 rfl ?_
      refine ro_iload_n hK dM_in_6 rfl ?_
      refine ro_icmp_gt (tgt := 14) hK dM_in_7 (by decide) (fun c_2 => ?_) (fun c_2 => ?_)
      · skip
        refine ro_iconst (x := 0) hK (by decide) dM_in_14 ?_
        have hw := ((hw.trans (if_neg c_1)).trans (if_pos c_2))
        subst hw
        exact hj
      · skip
        refine ro_iconst (x := 1) hK (by decide) dM_in_10 ?_
        refine ro_goto (tgt := 15) hK dM_in_11 (by decide) ?_
        have hw := ((hw.trans (if_neg c_1)).trans (if_neg c_2))
        subst hw
        exact hj
  refine j_3 _ rfl ?_
  obtain ⟨z_4, h⟩ := mb_bz_e h
  cases h
  exact hR.1 0 0 15 _ _ _ _ rfl (mb_nz z_4) dM_in_15 ⟨rfl, rfl⟩
theorem dM_isBeside_0 : decode bM_isBeside 0 = .ok (.aload_n 0, 1) := by decide +kernel
theorem dM_isBeside_1 : decode bM_isBeside 1 = .ok (.getfield 47, 3) := by decide +kernel
theorem dM_isBeside_4 : decode bM_isBeside 4 = .ok (.iload_n 1, 1) := by decide +kernel
theorem dM_isBeside_5 : decode bM_isBeside 5 = .ok (.iaload, 1) := by decide +kernel
theorem dM_isBeside_6 : decode bM_isBeside 6 = .ok (.aload_n 0, 1) := by decide +kernel
theorem dM_isBeside_7 : decode bM_isBeside 7 = .ok (.getfield 47, 3) := by decide +kernel
theorem dM_isBeside_10 : decode bM_isBeside 10 = .ok (.iload_n 2, 1) := by decide +kernel
theorem dM_isBeside_11 : decode bM_isBeside 11 = .ok (.iaload, 1) := by decide +kernel
theorem dM_isBeside_12 : decode bM_isBeside 12 = .ok (.if_icmp .ge 19, 3) := by decide +kernel
theorem dM_isBeside_15 : decode bM_isBeside 15 = .ok (.aload_n 0, 1) := by decide +kernel
theorem dM_isBeside_16 : decode bM_isBeside 16 = .ok (.getfield 47, 3) := by decide +kernel
theorem dM_isBeside_19 : decode bM_isBeside 19 = .ok (.iload_n 2, 1) := by decide +kernel
theorem dM_isBeside_20 : decode bM_isBeside 20 = .ok (.iaload, 1) := by decide +kernel
theorem dM_isBeside_21 : decode bM_isBeside 21 = .ok (.aload_n 0, 1) := by decide +kernel
theorem dM_isBeside_22 : decode bM_isBeside 22 = .ok (.getfield 47, 3) := by decide +kernel
theorem dM_isBeside_25 : decode bM_isBeside 25 = .ok (.iload_n 1, 1) := by decide +kernel
theorem dM_isBeside_26 : decode bM_isBeside 26 = .ok (.iaload, 1) := by decide +kernel
theorem dM_isBeside_27 : decode bM_isBeside 27 = .ok (.isub, 1) := by decide +kernel
theorem dM_isBeside_28 : decode bM_isBeside 28 = .ok (.goto 16, 3) := by decide +kernel
theorem dM_isBeside_31 : decode bM_isBeside 31 = .ok (.aload_n 0, 1) := by decide +kernel
theorem dM_isBeside_32 : decode bM_isBeside 32 = .ok (.getfield 47, 3) := by decide +kernel
theorem dM_isBeside_35 : decode bM_isBeside 35 = .ok (.iload_n 1, 1) := by decide +kernel
theorem dM_isBeside_36 : decode bM_isBeside 36 = .ok (.iaload, 1) := by decide +kernel
theorem dM_isBeside_37 : decode bM_isBeside 37 = .ok (.aload_n 0, 1) := by decide +kernel
theorem dM_isBeside_38 : decode bM_isBeside 38 = .ok (.getfield 47, 3) := by decide +kernel
theorem dM_isBeside_41 : decode bM_isBeside 41 = .ok (.iload_n 2, 1) := by decide +kernel
theorem dM_isBeside_42 : decode bM_isBeside 42 = .ok (.iaload, 1) := by decide +kernel
theorem dM_isBeside_43 : decode bM_isBeside 43 = .ok (.isub, 1) := by decide +kernel
theorem dM_isBeside_44 : decode bM_isBeside 44 = .ok (.istore_n 3, 1) := by decide +kernel
theorem dM_isBeside_45 : decode bM_isBeside 45 = .ok (.iload_n 3, 1) := by decide +kernel
theorem dM_isBeside_46 : decode bM_isBeside 46 = .ok (.iconst 1, 1) := by decide +kernel
theorem dM_isBeside_47 : decode bM_isBeside 47 = .ok (.if_icmp .eq 29, 3) := by decide +kernel
theorem dM_isBeside_50 : decode bM_isBeside 50 = .ok (.aload_n 0, 1) := by decide +kernel
theorem dM_isBeside_51 : decode bM_isBeside 51 = .ok (.getfield 164, 3) := by decide +kernel
theorem dM_isBeside_54 : decode bM_isBeside 54 = .ok (.iconst 1, 1) := by decide +kernel
theorem dM_isBeside_55 : decode bM_isBeside 55 = .ok (.if_icmp .ne 25, 3) := by decide +kernel
theorem dM_isBeside_58 : decode bM_isBeside 58 = .ok (.aload_n 0, 1) := by decide +kernel
theorem dM_isBeside_59 : decode bM_isBeside 59 = .ok (.getfield 161, 3) := by decide +kernel
theorem dM_isBeside_62 : decode bM_isBeside 62 = .ok (.iconst 2, 1) := by decide +kernel
theorem dM_isBeside_63 : decode bM_isBeside 63 = .ok (.if_icmp .le 17, 3) := by decide +kernel
theorem dM_isBeside_66 : decode bM_isBeside 66 = .ok (.iload_n 3, 1) := by decide +kernel
theorem dM_isBeside_67 : decode bM_isBeside 67 = .ok (.aload_n 0, 1) := by decide +kernel
theorem dM_isBeside_68 : decode bM_isBeside 68 = .ok (.getfield 161, 3) := by decide +kernel
theorem dM_isBeside_71 : decode bM_isBeside 71 = .ok (.iconst 1, 1) := by decide +kernel
theorem dM_isBeside_72 : decode bM_isBeside 72 = .ok (.isub, 1) := by decide +kernel
theorem dM_isBeside_73 : decode bM_isBeside 73 = .ok (.if_icmp .ne 7, 3) := by decide +kernel
theorem dM_isBeside_76 : decode bM_isBeside 76 = .ok (.iconst 1, 1) := by decide +kernel
theorem dM_isBeside_77 : decode bM_isBeside 77 = .ok (.goto 4, 3) := by decide +kernel
theorem dM_isBeside_80 : decode bM_isBeside 80 = .ok (.iconst 0, 1) := by decide +kernel
theorem dM_isBeside_81 : decode bM_isBeside 81 = .ok (.ireturn, 1) := by decide +kernel
def f_M_isBeside (n : Nat) (x1 : Int32) (x2 : Int32) (s : mb_T) : Option (Int32 × mb_T) := mb_rd s 223 5 x1 fun x_1 => mb_rd s 223 5 x2 fun x_4 => mb_jn (fun (x_21 : Int32) (s_22 : mb_T) => mb_bz (if x_21 = 1 then 1 else (if (s_22.1 200 9) = 1 then (if (s_22.1 200 8) ≤ 2 then 0 else (if x_21 = ((s_22.1 200 8) - 1) then 1 else 0 : Int32) : Int32) else 0 : Int32) : Int32) (some ((if x_21 = 1 then 1 else (if (s_22.1 200 9) = 1 then (if (s_22.1 200 8) ≤ 2 then 0 else (if x_21 = ((s_22.1 200 8) - 1) then 1 else 0 : Int32) : Int32) else 0 : Int32) : Int32), s_22))) fun j_7 => if x_4 ≤ x_1 then (mb_rd s 223 5 x1 fun x_9 => mb_rd s 223 5 x2 fun x_12 => j_7 (x_9 - x_12) s) else mb_rd s 223 5 x2 fun x_15 => mb_rd s 223 5 x1 fun x_18 => j_7 (x_15 - x_18) s
set_option maxHeartbeats 4000000 in
set_option maxRecDepth 100000 in
theorem t_M_isBeside {dd n : Nat} {x1 : Int32} {x2 : Int32} {s : mb_T} {out : Int32 × mb_T}  (h : f_M_isBeside n x1 x2 s = some out) : mb_MC (dd + 1) yM_isBeside bM_isBeside 4 (some .boolean) [.ref 200, .int x1, .int x2] s (some (.int out.1)) out.2 := by
  unfold f_M_isBeside at h
  refine mj_mc (lv := [.ref 200, .int x1, .int x2, .retAddr 0]) mM_isBeside rfl rfl (Nat.le_of_ble_eq_true rfl) (fun K hK hR => ?_)
  have hK : mj_C (dd + 1) 0 0 RM_c "isBeside" bM_isBeside 4 K := hK
  refine ro_aload_n hK dM_isBeside_0 rfl ?_
  refine rb_get hK fM_47 mb_oM rfl dM_isBeside_1 ?_
  refine ro_iload_n hK dM_isBeside_4 rfl ?_
  obtain ⟨x_1, e_2, i_3, h⟩ := mb_rd_e h
  refine rb_iald hK ai_223 i_3 e_2 dM_isBeside_5 ?_
  refine ro_aload_n hK dM_isBeside_6 rfl ?_
  refine rb_get hK fM_47 mb_oM rfl dM_isBeside_7 ?_
  refine ro_iload_n hK dM_isBeside_10 rfl ?_
  obtain ⟨x_4, e_5, i_6, h⟩ := mb_rd_e h
  refine rb_iald hK ai_223 i_6 e_5 dM_isBeside_11 ?_
  obtain ⟨j_7, e_29, h⟩ := mb_jn_e h
  have hj_7 : ∀ (x_21 : Int32) (s_22 : mb_T), j_7 x_21 s_22 = some out → K 0 0 44 [.ref 200, .int x1, .int x2, .retAddr 0] [.int x_21] (mb_s s_22) := by
    intro x_21 s_22 h
    rw [e_29] at h
    refine ro_istore_n hK dM_isBeside_44 (by decide) ?_
    show K 0 0 45 [.ref 200, .int x1, .int x2, .int x_21] [] (mb_s s_22)
    refine ro_iload_n hK dM_isBeside_45 rfl ?_
    refine ro_iconst (x := 1) hK (by decide) dM_isBeside_46 ?_
    have j_27 : ∀ w_ : Int32, w_ = (if x_21 = 1 then 1 else (if (s_22.1 200 9) = 1 then (if (s_22.1 200 8) ≤ 2 then 0 else (if x_21 = ((s_22.1 200 8) - 1) then 1 else 0 : Int32) : Int32) else 0 : Int32) : Int32) → K 0 0 81 [.ref 200, .int x1, .int x2, .int x_21] [.int w_] (mb_s s_22) → K 0 0 47 [.ref 200, .int x1, .int x2, .int x_21] [.int 1, .int x_21] (mb_s s_22) := by
      intro w_ hw hj
      refine ro_icmp_eq (tgt := 76) hK dM_isBeside_47 (by decide) (fun c_23 => ?_) (fun c_23 => ?_)
      · skip
        refine ro_iconst (x := 1) hK (by decide) dM_isBeside_76 ?_
        refine ro_goto (tgt := 81) hK dM_isBeside_77 (by decide) ?_
        have hw := (hw.trans (if_pos c_23))
        subst hw
        exact hj
      · skip
        refine ro_aload_n hK dM_isBeside_50 rfl ?_
        refine rb_get hK fM_164 mb_oM rfl dM_isBeside_51 ?_
        refine ro_iconst (x := 1) hK (by decide) dM_isBeside_54 ?_
        refine ro_icmp_ne (tgt := 80) hK dM_isBeside_55 (by decide) (fun c_24 => ?_) (fun c_24 => ?_)
        · skip
          refine ro_iconst (x := 0) hK (by decide) dM_isBeside_80 ?_
          have hw := ((hw.trans (if_neg c_23)).trans (if_neg c_24))
          subst hw
          exact hj
        · skip
          refine ro_aload_n hK dM_isBeside_58 rfl ?_
          refine rb_get hK fM_161 mb_oM rfl dM_isBeside_59 ?_
          refine ro_iconst (x := 2) hK (by decide) dM_isBeside_62 ?_
          refine ro_icmp_le (tgt := 80) hK dM_isBeside_63 (by decide) (fun c_25 => ?_) (fun c_25 => ?_)
          · skip
            refine ro_iconst (x := 0) hK (by decide) dM_isBeside_80 ?_
            have hw := (((hw.trans (if_neg c_23)).trans (if_pos c_24)).trans (if_pos c_25))
            subst hw
            exact hj
          · skip
            refine ro_iload_n hK dM_isBeside_66 rfl ?_
            refine ro_aload_n hK dM_isBeside_67 rfl ?_
            refine rb_get hK fM_161 mb_oM rfl dM_isBeside_68 ?_
            refine ro_iconst (x := 1) hK (by decide) dM_isBeside_71 ?_
            refine ro_isub hK dM_isBeside_72 ?_
            refine ro_icmp_ne (tgt := 80) hK dM_isBeside_73 (by decide) (fun c_26 => ?_) (fun c_26 => ?_)
            · skip
              refine ro_iconst (x := 0) hK (by decide) dM_isBeside_80 ?_
              have hw := ((((hw.trans (if_neg c_23)).trans (if_pos c_24)).trans (if_neg c_25)).trans (if_neg c_26))
              subst hw
              exact hj
            · skip
              refine ro_iconst (x := 1) hK (by decide) dM_isBeside_76 ?_
              refine ro_goto (tgt := 81) hK dM_isBeside_77 (by decide) ?_
              have hw := ((((hw.trans (if_neg c_23)).trans (if_pos c_24)).trans (if_neg c_25)).trans (if_pos c_26))
              subst hw
              exact hj
    refine j_27 _ rfl ?_
    obtain ⟨z_28, h⟩ := mb_bz_e h
    cases h
    exact hR.1 0 0 81 _ _ _ _ rfl (mb_nz z_28) dM_isBeside_81 ⟨rfl, rfl⟩
  refine ro_icmp_ge (tgt := 31) hK dM_isBeside_12 (by decide) (fun c_8 => ?_) (fun c_8 => ?_)
  · replace h := mb_ift c_8 h
    refine ro_aload_n hK dM_isBeside_31 rfl ?_
    refine rb_get hK fM_47 mb_oM rfl dM_isBeside_32 ?_
    refine ro_iload_n hK dM_isBeside_35 rfl ?_
    obtain ⟨x_9, e_10, i_11, h⟩ := mb_rd_e h
    refine rb_iald hK ai_223 i_11 e_10 dM_isBeside_36 ?_
    refine ro_aload_n hK dM_isBeside_37 rfl ?_
    refine rb_get hK fM_47 mb_oM rfl dM_isBeside_38 ?_
    refine ro_iload_n hK dM_isBeside_41 rfl ?_
    obtain ⟨x_12, e_13, i_14, h⟩ := mb_rd_e h
    refine rb_iald hK ai_223 i_14 e_13 dM_isBeside_42 ?_
    refine ro_isub hK dM_isBeside_43 ?_
    refine ro_fg (lv' := [.ref 200, .int x1, .int x2, .retAddr 0]) hK ⟨Or.inr rfl, ⟨Or.inr rfl, ⟨Or.inr rfl, ⟨Or.inl rfl, trivial⟩⟩⟩⟩ ?_
    exact hj_7 _ _ h
  · replace h := mb_iff c_8 h
    refine ro_aload_n hK dM_isBeside_15 rfl ?_
    refine rb_get hK fM_47 mb_oM rfl dM_isBeside_16 ?_
    refine ro_iload_n hK dM_isBeside_19 rfl ?_
    obtain ⟨x_15, e_16, i_17, h⟩ := mb_rd_e h
    refine rb_iald hK ai_223 i_17 e_16 dM_isBeside_20 ?_
    refine ro_aload_n hK dM_isBeside_21 rfl ?_
    refine rb_get hK fM_47 mb_oM rfl dM_isBeside_22 ?_
    refine ro_iload_n hK dM_isBeside_25 rfl ?_
    obtain ⟨x_18, e_19, i_20, h⟩ := mb_rd_e h
    refine rb_iald hK ai_223 i_20 e_19 dM_isBeside_26 ?_
    refine ro_isub hK dM_isBeside_27 ?_
    refine ro_goto (tgt := 44) hK dM_isBeside_28 (by decide) ?_
    refine ro_fg (lv' := [.ref 200, .int x1, .int x2, .retAddr 0]) hK ⟨Or.inr rfl, ⟨Or.inr rfl, ⟨Or.inr rfl, ⟨Or.inl rfl, trivial⟩⟩⟩⟩ ?_
    exact hj_7 _ _ h
theorem dM_isCalm_0 : decode bM_isCalm 0 = .ok (.aload_n 0, 1) := by decide +kernel
theorem dM_isCalm_1 : decode bM_isCalm 1 = .ok (.getfield 28, 3) := by decide +kernel
theorem dM_isCalm_4 : decode bM_isCalm 4 = .ok (.iload_n 1, 1) := by decide +kernel
theorem dM_isCalm_5 : decode bM_isCalm 5 = .ok (.iaload, 1) := by decide +kernel
theorem dM_isCalm_6 : decode bM_isCalm 6 = .ok (.iconst 1, 1) := by decide +kernel
theorem dM_isCalm_7 : decode bM_isCalm 7 = .ok (.if_icmp .eq 23, 3) := by decide +kernel
theorem dM_isCalm_10 : decode bM_isCalm 10 = .ok (.aload_n 0, 1) := by decide +kernel
theorem dM_isCalm_11 : decode bM_isCalm 11 = .ok (.getfield 28, 3) := by decide +kernel
theorem dM_isCalm_14 : decode bM_isCalm 14 = .ok (.iload_n 1, 1) := by decide +kernel
theorem dM_isCalm_15 : decode bM_isCalm 15 = .ok (.iaload, 1) := by decide +kernel
theorem dM_isCalm_16 : decode bM_isCalm 16 = .ok (.iconst 4, 1) := by decide +kernel
theorem dM_isCalm_17 : decode bM_isCalm 17 = .ok (.if_icmp .eq 13, 3) := by decide +kernel
theorem dM_isCalm_20 : decode bM_isCalm 20 = .ok (.aload_n 0, 1) := by decide +kernel
theorem dM_isCalm_21 : decode bM_isCalm 21 = .ok (.getfield 28, 3) := by decide +kernel
theorem dM_isCalm_24 : decode bM_isCalm 24 = .ok (.iload_n 1, 1) := by decide +kernel
theorem dM_isCalm_25 : decode bM_isCalm 25 = .ok (.iaload, 1) := by decide +kernel
theorem dM_isCalm_26 : decode bM_isCalm 26 = .ok (.iconst 5, 1) := by decide +kernel
theorem dM_isCalm_27 : decode bM_isCalm 27 = .ok (.if_icmp .ne 7, 3) := by decide +kernel
theorem dM_isCalm_30 : decode bM_isCalm 30 = .ok (.iconst 1, 1) := by decide +kernel
theorem dM_isCalm_31 : decode bM_isCalm 31 = .ok (.goto 4, 3) := by decide +kernel
theorem dM_isCalm_34 : decode bM_isCalm 34 = .ok (.iconst 0, 1) := by decide +kernel
theorem dM_isCalm_35 : decode bM_isCalm 35 = .ok (.ireturn, 1) := by decide +kernel
def f_M_isCalm (n : Nat) (x1 : Int32) (s : mb_T) : Option (Int32 × mb_T) := mb_rd s 212 10 x1 fun x_1 => if x_1 = 1 then some (1, s) else mb_rd s 212 10 x1 fun x_5 => if x_5 = 4 then some (1, s) else mb_rd s 212 10 x1 fun x_9 => mb_bz (if x_9 = 5 then 1 else 0 : Int32) (some ((if x_9 = 5 then 1 else 0 : Int32), s))
set_option maxHeartbeats 4000000 in
set_option maxRecDepth 100000 in
theorem t_M_isCalm {dd n : Nat} {x1 : Int32} {s : mb_T} {out : Int32 × mb_T}  (h : f_M_isCalm n x1 s = some out) : mb_MC (dd + 1) yM_isCalm bM_isCalm 2 (some .boolean) [.ref 200, .int x1] s (some (.int out.1)) out.2 := by
  unfold f_M_isCalm at h
  refine mj_mc (lv := [.ref 200, .int x1]) mM_isCalm rfl rfl (Nat.le_of_ble_eq_true rfl) (fun K hK hR => ?_)
  have hK : mj_C (dd + 1) 0 0 RM_c "isCalm" bM_isCalm 2 K := hK
  refine ro_aload_n hK dM_isCalm_0 rfl ?_
  refine rb_get hK fM_28 mb_oM rfl dM_isCalm_1 ?_
  refine ro_iload_n hK dM_isCalm_4 rfl ?_
  obtain ⟨x_1, e_2, i_3, h⟩ := mb_rd_e h
  refine rb_iald hK ai_212 i_3 e_2 dM_isCalm_5 ?_
  refine ro_iconst (x := 1) hK (by decide) dM_isCalm_6 ?_
  refine ro_icmp_eq (tgt := 30) hK dM_isCalm_7 (by decide) (fun c_4 => ?_) (fun c_4 => ?_)
  · replace h := mb_ift c_4 h
    refine ro_iconst (x := 1) hK (by decide) dM_isCalm_30 ?_
    refine ro_goto (tgt := 35) hK dM_isCalm_31 (by decide) ?_
    cases h
    exact hR.1 0 0 35 _ _ _ _ rfl rfl dM_isCalm_35 ⟨rfl, rfl⟩
  · replace h := mb_iff c_4 h
    refine ro_aload_n hK dM_isCalm_10 rfl ?_
    refine rb_get hK fM_28 mb_oM rfl dM_isCalm_11 ?_
    refine ro_iload_n hK dM_isCalm_14 rfl ?_
    obtain ⟨x_5, e_6, i_7, h⟩ := mb_rd_e h
    refine rb_iald hK ai_212 i_7 e_6 dM_isCalm_15 ?_
    refine ro_iconst (x := 4) hK (by decide) dM_isCalm_16 ?_
    refine ro_icmp_eq (tgt := 30) hK dM_isCalm_17 (by decide) (fun c_8 => ?_) (fun c_8 => ?_)
    · replace h := mb_ift c_8 h
      refine ro_iconst (x := 1) hK (by decide) dM_isCalm_30 ?_
      refine ro_goto (tgt := 35) hK dM_isCalm_31 (by decide) ?_
      cases h
      exact hR.1 0 0 35 _ _ _ _ rfl rfl dM_isCalm_35 ⟨rfl, rfl⟩
    · replace h := mb_iff c_8 h
      refine ro_aload_n hK dM_isCalm_20 rfl ?_
      refine rb_get hK fM_28 mb_oM rfl dM_isCalm_21 ?_
      refine ro_iload_n hK dM_isCalm_24 rfl ?_
      obtain ⟨x_9, e_10, i_11, h⟩ := mb_rd_e h
      refine rb_iald hK ai_212 i_11 e_10 dM_isCalm_25 ?_
      refine ro_iconst (x := 5) hK (by decide) dM_isCalm_26 ?_
      have j_13 : ∀ w_ : Int32, w_ = (if x_9 = 5 then 1 else 0 : Int32) → K 0 0 35 [.ref 200, .int x1] [.int w_] (mb_s s) → K 0 0 27 [.ref 200, .int x1] [.int 5, .int x_9] (mb_s s) := by
        intro w_ hw hj
        refine ro_icmp_ne (tgt := 34) hK dM_isCalm_27 (by decide) (fun c_12 => ?_) (fun c_12 => ?_)
        · skip
          refine ro_iconst (x := 0) hK (by decide) dM_isCalm_34 ?_
          have hw := (hw.trans (if_neg c_12))
          subst hw
          exact hj
        · skip
          refine ro_iconst (x := 1) hK (by decide) dM_isCalm_30 ?_
          refine ro_goto (tgt := 35) hK dM_isCalm_31 (by decide) ?_
          have hw := (hw.trans (if_pos c_12))
          subst hw
          exact hj
      refine j_13 _ rfl ?_
      obtain ⟨z_14, h⟩ := mb_bz_e h
      cases h
      exact hR.1 0 0 35 _ _ _ _ rfl (mb_nz z_14) dM_isCalm_35 ⟨rfl, rfl⟩
theorem dM_isPast_0 : decode bM_isPast 0 = .ok (.bipush 6, 2) := by decide +kernel
theorem dM_isPast_2 : decode bM_isPast 2 = .ok (.iload_n 1, 1) := by decide +kernel
theorem dM_isPast_3 : decode bM_isPast 3 = .ok (.iconst 3, 1) := by decide +kernel
theorem dM_isPast_4 : decode bM_isPast 4 = .ok (.irem, 1) := by decide +kernel
theorem dM_isPast_5 : decode bM_isPast 5 = .ok (.imul, 1) := by decide +kernel
theorem dM_isPast_6 : decode bM_isPast 6 = .ok (.istore_n 2, 1) := by decide +kernel
theorem dM_isPast_7 : decode bM_isPast 7 = .ok (.aload_n 0, 1) := by decide +kernel
theorem dM_isPast_8 : decode bM_isPast 8 = .ok (.getfield 68, 3) := by decide +kernel
theorem dM_isPast_11 : decode bM_isPast 11 = .ok (.iload_n 2, 1) := by decide +kernel
theorem dM_isPast_12 : decode bM_isPast 12 = .ok (.iconst 5, 1) := by decide +kernel
theorem dM_isPast_13 : decode bM_isPast 13 = .ok (.iadd, 1) := by decide +kernel
theorem dM_isPast_14 : decode bM_isPast 14 = .ok (.iaload, 1) := by decide +kernel
theorem dM_isPast_15 : decode bM_isPast 15 = .ok (.aload_n 0, 1) := by decide +kernel
theorem dM_isPast_16 : decode bM_isPast 16 = .ok (.getfield 50, 3) := by decide +kernel
theorem dM_isPast_19 : decode bM_isPast 19 = .ok (.if_icmp .ne 7, 3) := by decide +kernel
theorem dM_isPast_22 : decode bM_isPast 22 = .ok (.iconst 1, 1) := by decide +kernel
theorem dM_isPast_23 : decode bM_isPast 23 = .ok (.goto 4, 3) := by decide +kernel
theorem dM_isPast_26 : decode bM_isPast 26 = .ok (.iconst 0, 1) := by decide +kernel
theorem dM_isPast_27 : decode bM_isPast 27 = .ok (.istore_n 3, 1) := by decide +kernel
theorem dM_isPast_28 : decode bM_isPast 28 = .ok (.iconst 0, 1) := by decide +kernel
theorem dM_isPast_29 : decode bM_isPast 29 = .ok (.istore 4, 2) := by decide +kernel
theorem dM_isPast_31 : decode bM_isPast 31 = .ok (.iload 4, 2) := by decide +kernel
theorem dM_isPast_33 : decode bM_isPast 33 = .ok (.aload_n 0, 1) := by decide +kernel
theorem dM_isPast_34 : decode bM_isPast 34 = .ok (.getfield 161, 3) := by decide +kernel
theorem dM_isPast_37 : decode bM_isPast 37 = .ok (.if_icmp .ge 38, 3) := by decide +kernel
theorem dM_isPast_40 : decode bM_isPast 40 = .ok (.iload_n 3, 1) := by decide +kernel
theorem dM_isPast_41 : decode bM_isPast 41 = .ok (.ifCond .eq 26, 3) := by decide +kernel
theorem dM_isPast_44 : decode bM_isPast 44 = .ok (.aload_n 0, 1) := by decide +kernel
theorem dM_isPast_45 : decode bM_isPast 45 = .ok (.getfield 68, 3) := by decide +kernel
theorem dM_isPast_48 : decode bM_isPast 48 = .ok (.iload_n 2, 1) := by decide +kernel
theorem dM_isPast_49 : decode bM_isPast 49 = .ok (.iload 4, 2) := by decide +kernel
theorem dM_isPast_51 : decode bM_isPast 51 = .ok (.iadd, 1) := by decide +kernel
theorem dM_isPast_52 : decode bM_isPast 52 = .ok (.iaload, 1) := by decide +kernel
theorem dM_isPast_53 : decode bM_isPast 53 = .ok (.aload_n 0, 1) := by decide +kernel
theorem dM_isPast_54 : decode bM_isPast 54 = .ok (.getfield 31, 3) := by decide +kernel
theorem dM_isPast_57 : decode bM_isPast 57 = .ok (.iload 4, 2) := by decide +kernel
theorem dM_isPast_59 : decode bM_isPast 59 = .ok (.iaload, 1) := by decide +kernel
theorem dM_isPast_60 : decode bM_isPast 60 = .ok (.if_icmp .ne 7, 3) := by decide +kernel
theorem dM_isPast_63 : decode bM_isPast 63 = .ok (.iconst 1, 1) := by decide +kernel
theorem dM_isPast_64 : decode bM_isPast 64 = .ok (.goto 4, 3) := by decide +kernel
theorem dM_isPast_67 : decode bM_isPast 67 = .ok (.iconst 0, 1) := by decide +kernel
theorem dM_isPast_68 : decode bM_isPast 68 = .ok (.istore_n 3, 1) := by decide +kernel
theorem dM_isPast_69 : decode bM_isPast 69 = .ok (.iinc 4 1, 3) := by decide +kernel
theorem dM_isPast_72 : decode bM_isPast 72 = .ok (.goto (-41), 3) := by decide +kernel
theorem dM_isPast_75 : decode bM_isPast 75 = .ok (.iload_n 3, 1) := by decide +kernel
theorem dM_isPast_76 : decode bM_isPast 76 = .ok (.ireturn, 1) := by decide +kernel
def f_M_isPast_31 (n : Nat) (k0 : Int32 → Int32 → mb_T → Option (Int32 × mb_T)) (y2 : Int32) : Nat → Int32 → Int32 → mb_T → Option (Int32 × mb_T)
  | 0, _, _, _ => none
  | f + 1, w3, w4, s => if (s.1 200 8) ≤ w4 then k0 w3 w4 s else if w3 = 0 then f_M_isPast_31 n k0 y2 f 0 (w4 + 1) s else mb_rd s 232 18 (y2 + w4) fun x_9 => mb_rd s 213 10 w4 fun x_12 => f_M_isPast_31 n k0 y2 f (if x_9 = x_12 then 1 else 0 : Int32) (w4 + 1) s
def f_M_isPast (n : Nat) (x1 : Int32) (s : mb_T) : Option (Int32 × mb_T) := mb_dv 3 (mb_rd s 232 18 ((6 * (x1 - x1 / 3 * 3)) + 5) fun x_2 => f_M_isPast_31 n (fun x_17 x_18 s_19 => mb_bz x_17 (some (x_17, s_19))) (6 * (x1 - x1 / 3 * 3)) n (if x_2 = (s.1 200 25) then 1 else 0 : Int32) 0 s)
set_option maxHeartbeats 4000000 in
set_option maxRecDepth 100000 in
theorem tl_M_isPast_31 {dd n : Nat} {K : mj_KT} {out : Int32 × mb_T} (hK : mj_C (dd + 1) 0 0 RM_c "isPast" bM_isPast 5 K) (hR : mj_R bM_isPast (some .boolean) (fun r2 S2 => r2 = some (.int out.1) ∧ S2 = mb_s out.2) K) {k0 : Int32 → Int32 → mb_T → Option (Int32 × mb_T)} {y2 : Int32} (hk0 : ∀ (w3 : Int32) (w4 : Int32) (s : mb_T), k0 w3 w4 s = some out → K 0 0 75 [.ref 200, .retAddr 0, .int y2, .int w3, .int w4] [] (mb_s s)) : ∀ (f : Nat) (w3 : Int32) (w4 : Int32) (s : mb_T), f_M_isPast_31 n k0 y2 f w3 w4 s = some out → K 0 0 31 [.ref 200, .retAddr 0, .int y2, .int w3, .int w4] [] (mb_s s) := by
  intro f
  induction f with
  | zero =>
    intro w3 w4 s h
    cases h
  | succ f ih =>
    intro w3 w4 s h
    rw [f_M_isPast_31] at h
    refine ro_iload hK dM_isPast_31 rfl ?_
    refine ro_aload_n hK dM_isPast_33 rfl ?_
    refine rb_get hK fM_161 mb_oM rfl dM_isPast_34 ?_
    refine ro_icmp_ge (tgt := 75) hK dM_isPast_37 (by decide) (fun c_7 => ?_) (fun c_7 => ?_)
    · replace h := mb_ift c_7 h
      refine ro_fg (lv' := [.ref 200, .retAddr 0, .int y2, .int w3, .int w4]) hK ⟨Or.inr rfl, ⟨Or.inl rfl, ⟨Or.inr rfl, ⟨Or.inr rfl, ⟨Or.inr rfl, trivial⟩⟩⟩⟩⟩ ?_
      exact hk0 _ _ _ h
    · replace h := mb_iff c_7 h
      refine ro_iload_n hK dM_isPast_40 rfl ?_
      refine ro_if_eq (tgt := 67) hK dM_isPast_41 (by decide) (fun c_8 => ?_) (fun c_8 => ?_)
      · replace h := mb_ift c_8 h
        refine ro_iconst (x := 0) hK (by decide) dM_isPast_67 ?_
        refine ro_istore_n hK dM_isPast_68 (by decide) ?_
        show K 0 0 69 [.ref 200, .retAddr 0, .int y2, .int 0, .int w4] [] (mb_s s)
        refine ro_iincv (c := 1) hK (by decide) dM_isPast_69 rfl (by decide) ?_
        show K 0 0 72 [.ref 200, .retAddr 0, .int y2, .int 0, .int (w4 + 1)] [] (mb_s s)
        refine ro_goto (tgt := 31) hK dM_isPast_72 (by decide) ?_
        refine ro_fg (lv' := [.ref 200, .retAddr 0, .int y2, .int 0, .int (w4 + 1)]) hK ⟨Or.inr rfl, ⟨Or.inl rfl, ⟨Or.inr rfl, ⟨Or.inr rfl, ⟨Or.inr rfl, trivial⟩⟩⟩⟩⟩ ?_
        exact ih _ _ _ h
      · replace h := mb_iff c_8 h
        refine ro_aload_n hK dM_isPast_44 rfl ?_
        refine rb_get hK fM_68 mb_oM rfl dM_isPast_45 ?_
        refine ro_iload_n hK dM_isPast_48 rfl ?_
        refine ro_iload hK dM_isPast_49 rfl ?_
        refine ro_iadd hK dM_isPast_51 ?_
        obtain ⟨x_9, e_10, i_11, h⟩ := mb_rd_e h
        refine rb_iald hK ai_232 i_11 e_10 dM_isPast_52 ?_
        refine ro_aload_n hK dM_isPast_53 rfl ?_
        refine rb_get hK fM_31 mb_oM rfl dM_isPast_54 ?_
        refine ro_iload hK dM_isPast_57 rfl ?_
        obtain ⟨x_12, e_13, i_14, h⟩ := mb_rd_e h
        refine rb_iald hK ai_213 i_14 e_13 dM_isPast_59 ?_
        have j_16 : ∀ w_ : Int32, w_ = (if x_9 = x_12 then 1 else 0 : Int32) → K 0 0 68 [.ref 200, .retAddr 0, .int y2, .int w3, .int w4] [.int w_] (mb_s s) → K 0 0 60 [.ref 200, .retAddr 0, .int y2, .int w3, .int w4] [.int x_12, .int x_9] (mb_s s) := by
          intro w_ hw hj
          refine ro_icmp_ne (tgt := 67) hK dM_isPast_60 (by decide) (fun c_15 => ?_) (fun c_15 => ?_)
          · skip
            refine ro_iconst (x := 0) hK (by decide) dM_isPast_67 ?_
            have hw := (hw.trans (if_neg c_15))
            subst hw
            exact hj
          · skip
            refine ro_iconst (x := 1) hK (by decide) dM_isPast_63 ?_
            refine ro_goto (tgt := 68) hK dM_isPast_64 (by decide) ?_
            have hw := (hw.trans (if_pos c_15))
            subst hw
            exact hj
        refine j_16 _ rfl ?_
        refine ro_istore_n hK dM_isPast_68 (by decide) ?_
        show K 0 0 69 [.ref 200, .retAddr 0, .int y2, .int (if x_9 = x_12 then 1 else 0 : Int32), .int w4] [] (mb_s s)
        refine ro_iincv (c := 1) hK (by decide) dM_isPast_69 rfl (by decide) ?_
        show K 0 0 72 [.ref 200, .retAddr 0, .int y2, .int (if x_9 = x_12 then 1 else 0 : Int32), .int (w4 + 1)] [] (mb_s s)
        refine ro_goto (tgt := 31) hK dM_isPast_72 (by decide) ?_
        refine ro_fg (lv' := [.ref 200, .retAddr 0, .int y2, .int (if x_9 = x_12 then 1 else 0 : Int32), .int (w4 + 1)]) hK ⟨Or.inr rfl, ⟨Or.inl rfl, ⟨Or.inr rfl, ⟨Or.inr rfl, ⟨Or.inr rfl, trivial⟩⟩⟩⟩⟩ ?_
        exact ih _ _ _ h
set_option maxHeartbeats 4000000 in
set_option maxRecDepth 100000 in
theorem t_M_isPast {dd n : Nat} {x1 : Int32} {s : mb_T} {out : Int32 × mb_T}  (h : f_M_isPast n x1 s = some out) : mb_MC (dd + 1) yM_isPast bM_isPast 5 (some .boolean) [.ref 200, .int x1] s (some (.int out.1)) out.2 := by
  unfold f_M_isPast at h
  refine mj_mc (lv := [.ref 200, .int x1, .retAddr 0, .retAddr 0, .retAddr 0]) mM_isPast rfl rfl (Nat.le_of_ble_eq_true rfl) (fun K hK hR => ?_)
  have hK : mj_C (dd + 1) 0 0 RM_c "isPast" bM_isPast 5 K := hK
  refine ro_bipush (x := 6) hK (by decide) dM_isPast_0 ?_
  refine ro_iload_n hK dM_isPast_2 rfl ?_
  refine ro_iconst (x := 3) hK (by decide) dM_isPast_3 ?_
  obtain ⟨z_1, h⟩ := mb_dv_e h
  refine ro_irem hK dM_isPast_4 z_1 ?_
  refine ro_imul hK dM_isPast_5 ?_
  refine ro_istore_n hK dM_isPast_6 (by decide) ?_
  show K 0 0 7 [.ref 200, .int x1, .int (6 * (x1 - x1 / 3 * 3)), .retAddr 0, .retAddr 0] [] (mb_s s)
  refine ro_aload_n hK dM_isPast_7 rfl ?_
  refine rb_get hK fM_68 mb_oM rfl dM_isPast_8 ?_
  refine ro_iload_n hK dM_isPast_11 rfl ?_
  refine ro_iconst (x := 5) hK (by decide) dM_isPast_12 ?_
  refine ro_iadd hK dM_isPast_13 ?_
  obtain ⟨x_2, e_3, i_4, h⟩ := mb_rd_e h
  refine rb_iald hK ai_232 i_4 e_3 dM_isPast_14 ?_
  refine ro_aload_n hK dM_isPast_15 rfl ?_
  refine rb_get hK fM_50 mb_oM rfl dM_isPast_16 ?_
  have j_6 : ∀ w_ : Int32, w_ = (if x_2 = (s.1 200 25) then 1 else 0 : Int32) → K 0 0 27 [.ref 200, .int x1, .int (6 * (x1 - x1 / 3 * 3)), .retAddr 0, .retAddr 0] [.int w_] (mb_s s) → K 0 0 19 [.ref 200, .int x1, .int (6 * (x1 - x1 / 3 * 3)), .retAddr 0, .retAddr 0] [.int (s.1 200 25), .int x_2] (mb_s s) := by
    intro w_ hw hj
    refine ro_icmp_ne (tgt := 26) hK dM_isPast_19 (by decide) (fun c_5 => ?_) (fun c_5 => ?_)
    · skip
      refine ro_iconst (x := 0) hK (by decide) dM_isPast_26 ?_
      have hw := (hw.trans (if_neg c_5))
      subst hw
      exact hj
    · skip
      refine ro_iconst (x := 1) hK (by decide) dM_isPast_22 ?_
      refine ro_goto (tgt := 27) hK dM_isPast_23 (by decide) ?_
      have hw := (hw.trans (if_pos c_5))
      subst hw
      exact hj
  refine j_6 _ rfl ?_
  refine ro_istore_n hK dM_isPast_27 (by decide) ?_
  show K 0 0 28 [.ref 200, .int x1, .int (6 * (x1 - x1 / 3 * 3)), .int (if x_2 = (s.1 200 25) then 1 else 0 : Int32), .retAddr 0] [] (mb_s s)
  refine ro_iconst (x := 0) hK (by decide) dM_isPast_28 ?_
  refine ro_istore hK dM_isPast_29 (by decide) ?_
  show K 0 0 31 [.ref 200, .int x1, .int (6 * (x1 - x1 / 3 * 3)), .int (if x_2 = (s.1 200 25) then 1 else 0 : Int32), .int 0] [] (mb_s s)
  refine ro_fg (lv' := [.ref 200, .retAddr 0, .int (6 * (x1 - x1 / 3 * 3)), .int (if x_2 = (s.1 200 25) then 1 else 0 : Int32), .int 0]) hK ⟨Or.inr rfl, ⟨Or.inl rfl, ⟨Or.inr rfl, ⟨Or.inr rfl, ⟨Or.inr rfl, trivial⟩⟩⟩⟩⟩ ?_
  refine tl_M_isPast_31 (dd := dd) hK hR (fun x_17 x_18 s_19 h => ?_) n _ _ _ h
  refine ro_iload_n hK dM_isPast_75 rfl ?_
  obtain ⟨z_20, h⟩ := mb_bz_e h
  cases h
  exact hR.1 0 0 76 _ _ _ _ rfl (mb_nz z_20) dM_isPast_76 ⟨rfl, rfl⟩
theorem dM_kindOf_0 : decode bM_kindOf 0 = .ok (.iload_n 0, 1) := by decide +kernel
theorem dM_kindOf_1 : decode bM_kindOf 1 = .ok (.bipush 112, 2) := by decide +kernel
theorem dM_kindOf_3 : decode bM_kindOf 3 = .ok (.if_icmp .ne 7, 3) := by decide +kernel
theorem dM_kindOf_6 : decode bM_kindOf 6 = .ok (.iconst 0, 1) := by decide +kernel
theorem dM_kindOf_7 : decode bM_kindOf 7 = .ok (.goto 55, 3) := by decide +kernel
theorem dM_kindOf_10 : decode bM_kindOf 10 = .ok (.iload_n 0, 1) := by decide +kernel
theorem dM_kindOf_11 : decode bM_kindOf 11 = .ok (.bipush 99, 2) := by decide +kernel
theorem dM_kindOf_13 : decode bM_kindOf 13 = .ok (.if_icmp .ne 7, 3) := by decide +kernel
theorem dM_kindOf_16 : decode bM_kindOf 16 = .ok (.iconst 1, 1) := by decide +kernel
theorem dM_kindOf_17 : decode bM_kindOf 17 = .ok (.goto 45, 3) := by decide +kernel
theorem dM_kindOf_20 : decode bM_kindOf 20 = .ok (.iload_n 0, 1) := by decide +kernel
theorem dM_kindOf_21 : decode bM_kindOf 21 = .ok (.bipush 107, 2) := by decide +kernel
theorem dM_kindOf_23 : decode bM_kindOf 23 = .ok (.if_icmp .ne 7, 3) := by decide +kernel
theorem dM_kindOf_26 : decode bM_kindOf 26 = .ok (.iconst 2, 1) := by decide +kernel
theorem dM_kindOf_27 : decode bM_kindOf 27 = .ok (.goto 35, 3) := by decide +kernel
theorem dM_kindOf_30 : decode bM_kindOf 30 = .ok (.iload_n 0, 1) := by decide +kernel
theorem dM_kindOf_31 : decode bM_kindOf 31 = .ok (.bipush 108, 2) := by decide +kernel
theorem dM_kindOf_33 : decode bM_kindOf 33 = .ok (.if_icmp .ne 7, 3) := by decide +kernel
theorem dM_kindOf_36 : decode bM_kindOf 36 = .ok (.iconst 3, 1) := by decide +kernel
theorem dM_kindOf_37 : decode bM_kindOf 37 = .ok (.goto 25, 3) := by decide +kernel
theorem dM_kindOf_40 : decode bM_kindOf 40 = .ok (.iload_n 0, 1) := by decide +kernel
theorem dM_kindOf_41 : decode bM_kindOf 41 = .ok (.bipush 115, 2) := by decide +kernel
theorem dM_kindOf_43 : decode bM_kindOf 43 = .ok (.if_icmp .ne 7, 3) := by decide +kernel
theorem dM_kindOf_46 : decode bM_kindOf 46 = .ok (.iconst 4, 1) := by decide +kernel
theorem dM_kindOf_47 : decode bM_kindOf 47 = .ok (.goto 15, 3) := by decide +kernel
theorem dM_kindOf_50 : decode bM_kindOf 50 = .ok (.iload_n 0, 1) := by decide +kernel
theorem dM_kindOf_51 : decode bM_kindOf 51 = .ok (.bipush 103, 2) := by decide +kernel
theorem dM_kindOf_53 : decode bM_kindOf 53 = .ok (.if_icmp .ne 7, 3) := by decide +kernel
theorem dM_kindOf_56 : decode bM_kindOf 56 = .ok (.iconst 5, 1) := by decide +kernel
theorem dM_kindOf_57 : decode bM_kindOf 57 = .ok (.goto 5, 3) := by decide +kernel
theorem dM_kindOf_60 : decode bM_kindOf 60 = .ok (.bipush (-9), 2) := by decide +kernel
theorem dM_kindOf_62 : decode bM_kindOf 62 = .ok (.ireturn, 1) := by decide +kernel
def f_M_kindOf (n : Nat) (x1 : Int32) (s : mb_T) : Option (Int32 × mb_T) := some ((if x1 = 112 then 0 else (if x1 = 99 then 1 else (if x1 = 107 then 2 else (if x1 = 108 then 3 else (if x1 = 115 then 4 else (if x1 = 103 then 5 else (-9) : Int32) : Int32) : Int32) : Int32) : Int32) : Int32), s)
set_option maxHeartbeats 4000000 in
set_option maxRecDepth 100000 in
theorem t_M_kindOf {dd n : Nat} {x1 : Int32} {s : mb_T} {out : Int32 × mb_T}  (h : f_M_kindOf n x1 s = some out) : mb_MC (dd + 1) yM_kindOf bM_kindOf 1 (some .int) [.int x1] s (some (.int out.1)) out.2 := by
  unfold f_M_kindOf at h
  refine mj_mc (lv := [.int x1]) mM_kindOf rfl rfl (Nat.le_of_ble_eq_true rfl) (fun K hK hR => ?_)
  have hK : mj_C (dd + 1) 0 0 RM_c "kindOf" bM_kindOf 1 K := hK
  refine ro_iload_n hK dM_kindOf_0 rfl ?_
  refine ro_bipush (x := 112) hK (by decide) dM_kindOf_1 ?_
  have j_7 : ∀ w_ : Int32, w_ = (if x1 = 112 then 0 else (if x1 = 99 then 1 else (if x1 = 107 then 2 else (if x1 = 108 then 3 else (if x1 = 115 then 4 else (if x1 = 103 then 5 else (-9) : Int32) : Int32) : Int32) : Int32) : Int32) : Int32) → K 0 0 62 [.int x1] [.int w_] (mb_s s) → K 0 0 3 [.int x1] [.int 112, .int x1] (mb_s s) := by
    intro w_ hw hj
    refine ro_icmp_ne (tgt := 10) hK dM_kindOf_3 (by decide) (fun c_1 => ?_) (fun c_1 => ?_)
    · skip
      refine ro_iload_n hK dM_kindOf_10 rfl ?_
      refine ro_bipush (x := 99) hK (by decide) dM_kindOf_11 ?_
      refine ro_icmp_ne (tgt := 20) hK dM_kindOf_13 (by decide) (fun c_2 => ?_) (fun c_2 => ?_)
      · skip
        refine ro_iload_n hK dM_kindOf_20 rfl ?_
        refine ro_bipush (x := 107) hK (by decide) dM_kindOf_21 ?_
        refine ro_icmp_ne (tgt := 30) hK dM_kindOf_23 (by decide) (fun c_3 => ?_) (fun c_3 => ?_)
        · skip
          refine ro_iload_n hK dM_kindOf_30 rfl ?_
          refine ro_bipush (x := 108) hK (by decide) dM_kindOf_31 ?_
          refine ro_icmp_ne (tgt := 40) hK dM_kindOf_33 (by decide) (fun c_4 => ?_) (fun c_4 => ?_)
          · skip
            refine ro_iload_n hK dM_kindOf_40 rfl ?_
            refine ro_bipush (x := 115) hK (by decide) dM_kindOf_41 ?_
            refine ro_icmp_ne (tgt := 50) hK dM_kindOf_43 (by decide) (fun c_5 => ?_) (fun c_5 => ?_)
            · skip
              refine ro_iload_n hK dM_kindOf_50 rfl ?_
              refine ro_bipush (x := 103) hK (by decide) dM_kindOf_51 ?_
              refine ro_icmp_ne (tgt := 60) hK dM_kindOf_53 (by decide) (fun c_6 => ?_) (fun c_6 => ?_)
              · skip
                refine ro_bipush (x := (-9)) hK (by decide) dM_kindOf_60 ?_
                have hw := ((((((hw.trans (if_neg c_1)).trans (if_neg c_2)).trans (if_neg c_3)).trans (if_neg c_4)).trans (if_neg c_5)).trans (if_neg c_6))
                subst hw
                exact hj
              · skip
                refine ro_iconst (x := 5) hK (by decide) dM_kindOf_56 ?_
                refine ro_goto (tgt := 62) hK dM_kindOf_57 (by decide) ?_
                have hw := ((((((hw.trans (if_neg c_1)).trans (if_neg c_2)).trans (if_neg c_3)).trans (if_neg c_4)).trans (if_neg c_5)).trans (if_pos c_6))
                subst hw
                exact hj
            · skip
              refine ro_iconst (x := 4) hK (by decide) dM_kindOf_46 ?_
              refine ro_goto (tgt := 62) hK dM_kindOf_47 (by decide) ?_
              have hw := (((((hw.trans (if_neg c_1)).trans (if_neg c_2)).trans (if_neg c_3)).trans (if_neg c_4)).trans (if_pos c_5))
              subst hw
              exact hj
          · skip
            refine ro_iconst (x := 3) hK (by decide) dM_kindOf_36 ?_
            refine ro_goto (tgt := 62) hK dM_kindOf_37 (by decide) ?_
            have hw := ((((hw.trans (if_neg c_1)).trans (if_neg c_2)).trans (if_neg c_3)).trans (if_pos c_4))
            subst hw
            exact hj
        · skip
          refine ro_iconst (x := 2) hK (by decide) dM_kindOf_26 ?_
          refine ro_goto (tgt := 62) hK dM_kindOf_27 (by decide) ?_
          have hw := (((hw.trans (if_neg c_1)).trans (if_neg c_2)).trans (if_pos c_3))
          subst hw
          exact hj
      · skip
        refine ro_iconst (x := 1) hK (by decide) dM_kindOf_16 ?_
        refine ro_goto (tgt := 62) hK dM_kindOf_17 (by decide) ?_
        have hw := ((hw.trans (if_neg c_1)).trans (if_pos c_2))
        subst hw
        exact hj
    · skip
      refine ro_iconst (x := 0) hK (by decide) dM_kindOf_6 ?_
      refine ro_goto (tgt := 62) hK dM_kindOf_7 (by decide) ?_
      have hw := (hw.trans (if_pos c_1))
      subst hw
      exact hj
  refine j_7 _ rfl ?_
  cases h
  exact hR.1 0 0 62 _ _ _ _ rfl rfl dM_kindOf_62 ⟨rfl, rfl⟩
theorem dM_longBy_0 : decode bM_longBy 0 = .ok (.iload_n 0, 1) := by decide +kernel
theorem dM_longBy_1 : decode bM_longBy 1 = .ok (.bipush (-9), 2) := by decide +kernel
theorem dM_longBy_3 : decode bM_longBy 3 = .ok (.if_icmp .ne 8, 3) := by decide +kernel
theorem dM_longBy_6 : decode bM_longBy 6 = .ok (.ldc 234, 2) := by decide +kernel
theorem dM_longBy_8 : decode bM_longBy 8 = .ok (.goto 4, 3) := by decide +kernel
theorem dM_longBy_11 : decode bM_longBy 11 = .ok (.iload_n 0, 1) := by decide +kernel
theorem dM_longBy_12 : decode bM_longBy 12 = .ok (.ireturn, 1) := by decide +kernel
def f_M_longBy (n : Nat) (x1 : Int32) (s : mb_T) : Option (Int32 × mb_T) := some ((if x1 = (-9) then 1048576 else x1 : Int32), s)
set_option maxHeartbeats 4000000 in
set_option maxRecDepth 100000 in
theorem t_M_longBy {dd n : Nat} {x1 : Int32} {s : mb_T} {out : Int32 × mb_T}  (h : f_M_longBy n x1 s = some out) : mb_MC (dd + 1) yM_longBy bM_longBy 1 (some .int) [.int x1] s (some (.int out.1)) out.2 := by
  unfold f_M_longBy at h
  refine mj_mc (lv := [.int x1]) mM_longBy rfl rfl (Nat.le_of_ble_eq_true rfl) (fun K hK hR => ?_)
  have hK : mj_C (dd + 1) 0 0 RM_c "longBy" bM_longBy 1 K := hK
  refine ro_iload_n hK dM_longBy_0 rfl ?_
  refine ro_bipush (x := (-9)) hK (by decide) dM_longBy_1 ?_
  have j_2 : ∀ w_ : Int32, w_ = (if x1 = (-9) then 1048576 else x1 : Int32) → K 0 0 12 [.int x1] [.int w_] (mb_s s) → K 0 0 3 [.int x1] [.int (-9), .int x1] (mb_s s) := by
    intro w_ hw hj
    refine ro_icmp_ne (tgt := 11) hK dM_longBy_3 (by decide) (fun c_1 => ?_) (fun c_1 => ?_)
    · skip
      refine ro_iload_n hK dM_longBy_11 rfl ?_
      have hw := (hw.trans (if_neg c_1))
      subst hw
      exact hj
    · skip
      refine ro_ldc hK cM_234 dM_longBy_6 ?_
      refine ro_goto (tgt := 12) hK dM_longBy_8 (by decide) ?_
      have hw := (hw.trans (if_pos c_1))
      subst hw
      exact hj
  refine j_2 _ rfl ?_
  cases h
  exact hR.1 0 0 12 _ _ _ _ rfl rfl dM_longBy_12 ⟨rfl, rfl⟩
theorem dM_meet_0 : decode bM_meet 0 = .ok (.aload_n 0, 1) := by decide +kernel
theorem dM_meet_1 : decode bM_meet 1 = .ok (.iload_n 1, 1) := by decide +kernel
theorem dM_meet_2 : decode bM_meet 2 = .ok (.putfield 86, 3) := by decide +kernel
theorem dM_meet_5 : decode bM_meet 5 = .ok (.aload_n 0, 1) := by decide +kernel
theorem dM_meet_6 : decode bM_meet 6 = .ok (.getfield 7, 3) := by decide +kernel
theorem dM_meet_9 : decode bM_meet 9 = .ok (.iload_n 1, 1) := by decide +kernel
theorem dM_meet_10 : decode bM_meet 10 = .ok (.dup2, 1) := by decide +kernel
theorem dM_meet_11 : decode bM_meet 11 = .ok (.iaload, 1) := by decide +kernel
theorem dM_meet_12 : decode bM_meet 12 = .ok (.iconst 1, 1) := by decide +kernel
theorem dM_meet_13 : decode bM_meet 13 = .ok (.iadd, 1) := by decide +kernel
theorem dM_meet_14 : decode bM_meet 14 = .ok (.iastore, 1) := by decide +kernel
theorem dM_meet_15 : decode bM_meet 15 = .ok (.bipush (-3), 2) := by decide +kernel
theorem dM_meet_17 : decode bM_meet 17 = .ok (.ireturn, 1) := by decide +kernel
def f_M_meet (n : Nat) (x1 : Int32) (s : mb_T) : Option (Int32 × mb_T) := mb_bd (sF s 200 0 x1) fun s_1 => mb_rd s_1 201 6 x1 fun x_3 => mb_wr s_1 201 6 x1 (x_3 + 1) fun s_6 => some ((-3), s_6)
set_option maxHeartbeats 4000000 in
set_option maxRecDepth 100000 in
theorem t_M_meet {dd n : Nat} {x1 : Int32} {s : mb_T} {out : Int32 × mb_T}  (h : f_M_meet n x1 s = some out) : mb_MC (dd + 1) yM_meet bM_meet 2 (some .int) [.ref 200, .int x1] s (some (.int out.1)) out.2 := by
  unfold f_M_meet at h
  refine mj_mc (lv := [.ref 200, .int x1]) mM_meet rfl rfl (Nat.le_of_ble_eq_true rfl) (fun K hK hR => ?_)
  have hK : mj_C (dd + 1) 0 0 RM_c "meet" bM_meet 2 K := hK
  refine ro_aload_n hK dM_meet_0 rfl ?_
  refine ro_iload_n hK dM_meet_1 rfl ?_
  obtain ⟨s_1, e_2, h⟩ := mb_bd_e h
  refine rb_put hK gM_86 mb_oM rfl (by show 0 < 45; decide) rfl rfl e_2 dM_meet_2 ?_
  refine ro_aload_n hK dM_meet_5 rfl ?_
  refine rb_get hK fM_7 mb_oM rfl dM_meet_6 ?_
  refine ro_iload_n hK dM_meet_9 rfl ?_
  refine ro_dup2 hK dM_meet_10 rfl rfl ?_
  obtain ⟨x_3, e_4, i_5, h⟩ := mb_rd_e h
  refine rb_iald hK ai_201 i_5 e_4 dM_meet_11 ?_
  refine ro_iconst (x := 1) hK (by decide) dM_meet_12 ?_
  refine ro_iadd hK dM_meet_13 ?_
  obtain ⟨s_6, e_7, i_8, h⟩ := mb_wr_e h
  refine rb_iast hK ai_201 i_8 e_7 dM_meet_14 ?_
  refine ro_bipush (x := (-3)) hK (by decide) dM_meet_15 ?_
  cases h
  exact hR.1 0 0 17 _ _ _ _ rfl rfl dM_meet_17 ⟨rfl, rfl⟩
theorem dM_mix_0 : decode bM_mix 0 = .ok (.aload_n 0, 1) := by decide +kernel
theorem dM_mix_1 : decode bM_mix 1 = .ok (.ldc2_w 323, 3) := by decide +kernel
theorem dM_mix_4 : decode bM_mix 4 = .ok (.aload_n 0, 1) := by decide +kernel
theorem dM_mix_5 : decode bM_mix 5 = .ok (.getfield 325, 3) := by decide +kernel
theorem dM_mix_8 : decode bM_mix 8 = .ok (.lmul, 1) := by decide +kernel
theorem dM_mix_9 : decode bM_mix 9 = .ok (.iload_n 1, 1) := by decide +kernel
theorem dM_mix_10 : decode bM_mix 10 = .ok (.i2l, 1) := by decide +kernel
theorem dM_mix_11 : decode bM_mix 11 = .ok (.ladd, 1) := by decide +kernel
theorem dM_mix_12 : decode bM_mix 12 = .ok (.putfield 325, 3) := by decide +kernel
theorem dM_mix_15 : decode bM_mix 15 = .ok (.return_, 1) := by decide +kernel
def f_M_mix (n : Nat) (x1 : Int32) (s : mb_T) : Option (mb_T) := mb_bd (sJ s 200 ((31 * (s.2.2.1 200)) + (Int32.toInt64 x1))) fun s_1 => some s_1
set_option maxHeartbeats 4000000 in
set_option maxRecDepth 100000 in
theorem t_M_mix {dd n : Nat} {x1 : Int32} {s : mb_T} {out : mb_T}  (h : f_M_mix n x1 s = some out) : mb_MC (dd + 1) yM_mix bM_mix 2 none [.ref 200, .int x1] s none out := by
  unfold f_M_mix at h
  refine mj_mc (lv := [.ref 200, .int x1]) mM_mix rfl rfl (Nat.le_of_ble_eq_true rfl) (fun K hK hR => ?_)
  have hK : mj_C (dd + 1) 0 0 RM_c "mix" bM_mix 2 K := hK
  refine ro_aload_n hK dM_mix_0 rfl ?_
  refine ro_ldc2 hK cM_323 dM_mix_1 ?_
  refine ro_aload_n hK dM_mix_4 rfl ?_
  refine rb_get hK fM_325 mb_oM rfl dM_mix_5 ?_
  refine ro_lmul hK dM_mix_8 ?_
  refine ro_iload_n hK dM_mix_9 rfl ?_
  refine ro_i2l hK dM_mix_10 ?_
  refine ro_ladd hK dM_mix_11 ?_
  obtain ⟨s_1, e_2, h⟩ := mb_bd_e h
  refine rb_putJ hK gM_325 e_2 dM_mix_12 ?_
  cases h
  exact hR.2.2 0 0 15 _ _ rfl dM_mix_15 ⟨rfl, rfl⟩
theorem dM_putAside_0 : decode bM_putAside 0 = .ok (.iconst 0, 1) := by decide +kernel
theorem dM_putAside_1 : decode bM_putAside 1 = .ok (.istore_n 1, 1) := by decide +kernel
theorem dM_putAside_2 : decode bM_putAside 2 = .ok (.iload_n 1, 1) := by decide +kernel
theorem dM_putAside_3 : decode bM_putAside 3 = .ok (.iconst 5, 1) := by decide +kernel
theorem dM_putAside_4 : decode bM_putAside 4 = .ok (.if_icmp .ge 21, 3) := by decide +kernel
theorem dM_putAside_7 : decode bM_putAside 7 = .ok (.aload_n 0, 1) := by decide +kernel
theorem dM_putAside_8 : decode bM_putAside 8 = .ok (.getfield 65, 3) := by decide +kernel
theorem dM_putAside_11 : decode bM_putAside 11 = .ok (.iload_n 1, 1) := by decide +kernel
theorem dM_putAside_12 : decode bM_putAside 12 = .ok (.aload_n 0, 1) := by decide +kernel
theorem dM_putAside_13 : decode bM_putAside 13 = .ok (.getfield 31, 3) := by decide +kernel
theorem dM_putAside_16 : decode bM_putAside 16 = .ok (.iload_n 1, 1) := by decide +kernel
theorem dM_putAside_17 : decode bM_putAside 17 = .ok (.iaload, 1) := by decide +kernel
theorem dM_putAside_18 : decode bM_putAside 18 = .ok (.iastore, 1) := by decide +kernel
theorem dM_putAside_19 : decode bM_putAside 19 = .ok (.iinc 1 1, 3) := by decide +kernel
theorem dM_putAside_22 : decode bM_putAside 22 = .ok (.goto (-20), 3) := by decide +kernel
theorem dM_putAside_25 : decode bM_putAside 25 = .ok (.aload_n 0, 1) := by decide +kernel
theorem dM_putAside_26 : decode bM_putAside 26 = .ok (.getfield 65, 3) := by decide +kernel
theorem dM_putAside_29 : decode bM_putAside 29 = .ok (.iconst 5, 1) := by decide +kernel
theorem dM_putAside_30 : decode bM_putAside 30 = .ok (.aload_n 0, 1) := by decide +kernel
theorem dM_putAside_31 : decode bM_putAside 31 = .ok (.getfield 170, 3) := by decide +kernel
theorem dM_putAside_34 : decode bM_putAside 34 = .ok (.iastore, 1) := by decide +kernel
theorem dM_putAside_35 : decode bM_putAside 35 = .ok (.aload_n 0, 1) := by decide +kernel
theorem dM_putAside_36 : decode bM_putAside 36 = .ok (.getfield 65, 3) := by decide +kernel
theorem dM_putAside_39 : decode bM_putAside 39 = .ok (.bipush 6, 2) := by decide +kernel
theorem dM_putAside_41 : decode bM_putAside 41 = .ok (.aload_n 0, 1) := by decide +kernel
theorem dM_putAside_42 : decode bM_putAside 42 = .ok (.getfield 50, 3) := by decide +kernel
theorem dM_putAside_45 : decode bM_putAside 45 = .ok (.iastore, 1) := by decide +kernel
theorem dM_putAside_46 : decode bM_putAside 46 = .ok (.aload_n 0, 1) := by decide +kernel
theorem dM_putAside_47 : decode bM_putAside 47 = .ok (.getfield 65, 3) := by decide +kernel
theorem dM_putAside_50 : decode bM_putAside 50 = .ok (.bipush 7, 2) := by decide +kernel
theorem dM_putAside_52 : decode bM_putAside 52 = .ok (.aload_n 0, 1) := by decide +kernel
theorem dM_putAside_53 : decode bM_putAside 53 = .ok (.getfield 173, 3) := by decide +kernel
theorem dM_putAside_56 : decode bM_putAside 56 = .ok (.iastore, 1) := by decide +kernel
theorem dM_putAside_57 : decode bM_putAside 57 = .ok (.return_, 1) := by decide +kernel
def f_M_putAside_2 (n : Nat) (k0 : Int32 → mb_T → Option (mb_T))  : Nat → Int32 → mb_T → Option (mb_T)
  | 0, _, _ => none
  | f + 1, w1, s => if 5 ≤ w1 then k0 w1 s else mb_rd s 213 10 w1 fun x_2 => mb_wr s 230 8 w1 x_2 fun s_5 => f_M_putAside_2 n k0 f (w1 + 1) s_5
def f_M_putAside (n : Nat)  (s : mb_T) : Option (mb_T) := f_M_putAside_2 n (fun x_8 s_9 => mb_wr s_9 230 8 5 (s_9.1 200 11) fun s_10 => mb_wr s_10 230 8 6 (s_10.1 200 25) fun s_13 => mb_wr s_13 230 8 7 (s_13.1 200 24) fun s_16 => some s_16) n 0 s
set_option maxHeartbeats 4000000 in
set_option maxRecDepth 100000 in
theorem tl_M_putAside_2 {dd n : Nat} {K : mj_KT} {out : mb_T} (hK : mj_C (dd + 1) 0 0 RM_c "putAside" bM_putAside 2 K) (hR : mj_R bM_putAside none (fun r2 S2 => r2 = none ∧ S2 = mb_s out) K) {k0 : Int32 → mb_T → Option (mb_T)}  (hk0 : ∀ (w1 : Int32) (s : mb_T), k0 w1 s = some out → K 0 0 25 [.ref 200, .int w1] [] (mb_s s)) : ∀ (f : Nat) (w1 : Int32) (s : mb_T), f_M_putAside_2 n k0 f w1 s = some out → K 0 0 2 [.ref 200, .int w1] [] (mb_s s) := by
  intro f
  induction f with
  | zero =>
    intro w1 s h
    cases h
  | succ f ih =>
    intro w1 s h
    rw [f_M_putAside_2] at h
    refine ro_iload_n hK dM_putAside_2 rfl ?_
    refine ro_iconst (x := 5) hK (by decide) dM_putAside_3 ?_
    refine ro_icmp_ge (tgt := 25) hK dM_putAside_4 (by decide) (fun c_1 => ?_) (fun c_1 => ?_)
    · replace h := mb_ift c_1 h
      refine ro_fg (lv' := [.ref 200, .int w1]) hK ⟨Or.inr rfl, ⟨Or.inr rfl, trivial⟩⟩ ?_
      exact hk0 _ _ h
    · replace h := mb_iff c_1 h
      refine ro_aload_n hK dM_putAside_7 rfl ?_
      refine rb_get hK fM_65 mb_oM rfl dM_putAside_8 ?_
      refine ro_iload_n hK dM_putAside_11 rfl ?_
      refine ro_aload_n hK dM_putAside_12 rfl ?_
      refine rb_get hK fM_31 mb_oM rfl dM_putAside_13 ?_
      refine ro_iload_n hK dM_putAside_16 rfl ?_
      obtain ⟨x_2, e_3, i_4, h⟩ := mb_rd_e h
      refine rb_iald hK ai_213 i_4 e_3 dM_putAside_17 ?_
      obtain ⟨s_5, e_6, i_7, h⟩ := mb_wr_e h
      refine rb_iast hK ai_230 i_7 e_6 dM_putAside_18 ?_
      refine ro_iincv (c := 1) hK (by decide) dM_putAside_19 rfl (by decide) ?_
      show K 0 0 22 [.ref 200, .int (w1 + 1)] [] (mb_s s_5)
      refine ro_goto (tgt := 2) hK dM_putAside_22 (by decide) ?_
      refine ro_fg (lv' := [.ref 200, .int (w1 + 1)]) hK ⟨Or.inr rfl, ⟨Or.inr rfl, trivial⟩⟩ ?_
      exact ih _ _ h
set_option maxHeartbeats 4000000 in
set_option maxRecDepth 100000 in
theorem t_M_putAside {dd n : Nat}  {s : mb_T} {out : mb_T}  (h : f_M_putAside n  s = some out) : mb_MC (dd + 1) yM_putAside bM_putAside 2 none [.ref 200] s none out := by
  unfold f_M_putAside at h
  refine mj_mc (lv := [.ref 200, .retAddr 0]) mM_putAside rfl rfl (Nat.le_of_ble_eq_true rfl) (fun K hK hR => ?_)
  have hK : mj_C (dd + 1) 0 0 RM_c "putAside" bM_putAside 2 K := hK
  refine ro_iconst (x := 0) hK (by decide) dM_putAside_0 ?_
  refine ro_istore_n hK dM_putAside_1 (by decide) ?_
  show K 0 0 2 [.ref 200, .int 0] [] (mb_s s)
  refine ro_fg (lv' := [.ref 200, .int 0]) hK ⟨Or.inr rfl, ⟨Or.inr rfl, trivial⟩⟩ ?_
  refine tl_M_putAside_2 (dd := dd) hK hR (fun x_8 s_9 h => ?_) n _ _ h
  refine ro_aload_n hK dM_putAside_25 rfl ?_
  refine rb_get hK fM_65 mb_oM rfl dM_putAside_26 ?_
  refine ro_iconst (x := 5) hK (by decide) dM_putAside_29 ?_
  refine ro_aload_n hK dM_putAside_30 rfl ?_
  refine rb_get hK fM_170 mb_oM rfl dM_putAside_31 ?_
  obtain ⟨s_10, e_11, i_12, h⟩ := mb_wr_e h
  refine rb_iast hK ai_230 i_12 e_11 dM_putAside_34 ?_
  refine ro_aload_n hK dM_putAside_35 rfl ?_
  refine rb_get hK fM_65 mb_oM rfl dM_putAside_36 ?_
  refine ro_bipush (x := 6) hK (by decide) dM_putAside_39 ?_
  refine ro_aload_n hK dM_putAside_41 rfl ?_
  refine rb_get hK fM_50 mb_oM rfl dM_putAside_42 ?_
  obtain ⟨s_13, e_14, i_15, h⟩ := mb_wr_e h
  refine rb_iast hK ai_230 i_15 e_14 dM_putAside_45 ?_
  refine ro_aload_n hK dM_putAside_46 rfl ?_
  refine rb_get hK fM_65 mb_oM rfl dM_putAside_47 ?_
  refine ro_bipush (x := 7) hK (by decide) dM_putAside_50 ?_
  refine ro_aload_n hK dM_putAside_52 rfl ?_
  refine rb_get hK fM_173 mb_oM rfl dM_putAside_53 ?_
  obtain ⟨s_16, e_17, i_18, h⟩ := mb_wr_e h
  refine rb_iast hK ai_230 i_18 e_17 dM_putAside_56 ?_
  cases h
  exact hR.2.2 0 0 57 _ _ rfl dM_putAside_57 ⟨rfl, rfl⟩
