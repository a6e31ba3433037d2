theorem dM_rest_0 : decode bM_rest 0 = .ok (.aload_n 0, 1) := by decide +kernel
theorem dM_rest_1 : decode bM_rest 1 = .ok (.getfield 161, 3) := by decide +kernel
theorem dM_rest_4 : decode bM_rest 4 = .ok (.ifCond .ne 6, 3) := by decide +kernel
theorem dM_rest_7 : decode bM_rest 7 = .ok (.bipush (-4), 2) := by decide +kernel
theorem dM_rest_9 : decode bM_rest 9 = .ok (.ireturn, 1) := by decide +kernel
theorem dM_rest_10 : decode bM_rest 10 = .ok (.aload_n 0, 1) := by decide +kernel
theorem dM_rest_11 : decode bM_rest 11 = .ok (.invokevirtual 222, 3) := by decide +kernel
theorem dM_rest_14 : decode bM_rest 14 = .ok (.bipush (-9), 2) := by decide +kernel
theorem dM_rest_16 : decode bM_rest 16 = .ok (.istore_n 1, 1) := by decide +kernel
theorem dM_rest_17 : decode bM_rest 17 = .ok (.aload_n 0, 1) := by decide +kernel
theorem dM_rest_18 : decode bM_rest 18 = .ok (.iconst 0, 1) := by decide +kernel
theorem dM_rest_19 : decode bM_rest 19 = .ok (.invokevirtual 238, 3) := by decide +kernel
theorem dM_rest_22 : decode bM_rest 22 = .ok (.iconst 1, 1) := by decide +kernel
theorem dM_rest_23 : decode bM_rest 23 = .ok (.istore_n 2, 1) := by decide +kernel
theorem dM_rest_24 : decode bM_rest 24 = .ok (.iload_n 2, 1) := by decide +kernel
theorem dM_rest_25 : decode bM_rest 25 = .ok (.bipush 100, 2) := by decide +kernel
theorem dM_rest_27 : decode bM_rest 27 = .ok (.if_icmp .gt 73, 3) := by decide +kernel
theorem dM_rest_30 : decode bM_rest 30 = .ok (.iload_n 1, 1) := by decide +kernel
theorem dM_rest_31 : decode bM_rest 31 = .ok (.bipush (-9), 2) := by decide +kernel
theorem dM_rest_33 : decode bM_rest 33 = .ok (.if_icmp .ne 67, 3) := by decide +kernel
theorem dM_rest_36 : decode bM_rest 36 = .ok (.aload_n 0, 1) := by decide +kernel
theorem dM_rest_37 : decode bM_rest 37 = .ok (.invokevirtual 206, 3) := by decide +kernel
theorem dM_rest_40 : decode bM_rest 40 = .ok (.ifCond .ne 60, 3) := by decide +kernel
theorem dM_rest_43 : decode bM_rest 43 = .ok (.aload_n 0, 1) := by decide +kernel
theorem dM_rest_44 : decode bM_rest 44 = .ok (.iconst 2, 1) := by decide +kernel
theorem dM_rest_45 : decode bM_rest 45 = .ok (.putfield 170, 3) := by decide +kernel
theorem dM_rest_48 : decode bM_rest 48 = .ok (.aload_n 0, 1) := by decide +kernel
theorem dM_rest_49 : decode bM_rest 49 = .ok (.aload_n 0, 1) := by decide +kernel
theorem dM_rest_50 : decode bM_rest 50 = .ok (.aload_n 0, 1) := by decide +kernel
theorem dM_rest_51 : decode bM_rest 51 = .ok (.getfield 167, 3) := by decide +kernel
theorem dM_rest_54 : decode bM_rest 54 = .ok (.invokevirtual 210, 3) := by decide +kernel
theorem dM_rest_57 : decode bM_rest 57 = .ok (.invokevirtual 202, 3) := by decide +kernel
theorem dM_rest_60 : decode bM_rest 60 = .ok (.iload_n 2, 1) := by decide +kernel
theorem dM_rest_61 : decode bM_rest 61 = .ok (.iconst 1, 1) := by decide +kernel
theorem dM_rest_62 : decode bM_rest 62 = .ok (.if_icmp .le 24, 3) := by decide +kernel
theorem dM_rest_65 : decode bM_rest 65 = .ok (.aload_n 0, 1) := by decide +kernel
theorem dM_rest_66 : decode bM_rest 66 = .ok (.iload_n 2, 1) := by decide +kernel
theorem dM_rest_67 : decode bM_rest 67 = .ok (.iconst 2, 1) := by decide +kernel
theorem dM_rest_68 : decode bM_rest 68 = .ok (.isub, 1) := by decide +kernel
theorem dM_rest_69 : decode bM_rest 69 = .ok (.invokevirtual 241, 3) := by decide +kernel
theorem dM_rest_72 : decode bM_rest 72 = .ok (.ifCond .eq 14, 3) := by decide +kernel
theorem dM_rest_75 : decode bM_rest 75 = .ok (.aload_n 0, 1) := by decide +kernel
theorem dM_rest_76 : decode bM_rest 76 = .ok (.invokevirtual 206, 3) := by decide +kernel
theorem dM_rest_79 : decode bM_rest 79 = .ok (.ifCond .ne 7, 3) := by decide +kernel
theorem dM_rest_82 : decode bM_rest 82 = .ok (.iload_n 2, 1) := by decide +kernel
theorem dM_rest_83 : decode bM_rest 83 = .ok (.goto 5, 3) := by decide +kernel
theorem dM_rest_86 : decode bM_rest 86 = .ok (.bipush (-9), 2) := by decide +kernel
theorem dM_rest_88 : decode bM_rest 88 = .ok (.istore_n 1, 1) := by decide +kernel
theorem dM_rest_89 : decode bM_rest 89 = .ok (.aload_n 0, 1) := by decide +kernel
theorem dM_rest_90 : decode bM_rest 90 = .ok (.iload_n 2, 1) := by decide +kernel
theorem dM_rest_91 : decode bM_rest 91 = .ok (.invokevirtual 238, 3) := by decide +kernel
theorem dM_rest_94 : decode bM_rest 94 = .ok (.iinc 2 1, 3) := by decide +kernel
theorem dM_rest_97 : decode bM_rest 97 = .ok (.goto (-73), 3) := by decide +kernel
theorem dM_rest_100 : decode bM_rest 100 = .ok (.aload_n 0, 1) := by decide +kernel
theorem dM_rest_101 : decode bM_rest 101 = .ok (.invokevirtual 228, 3) := by decide +kernel
theorem dM_rest_104 : decode bM_rest 104 = .ok (.iload_n 1, 1) := by decide +kernel
theorem dM_rest_105 : decode bM_rest 105 = .ok (.ireturn, 1) := by decide +kernel
def f_M_rest_24 (n : Nat) (k0 : Int32 → Int32 → mb_T → Option (Int32 × mb_T))  : Nat → Int32 → Int32 → mb_T → Option (Int32 × mb_T)
  | 0, _, _, _ => none
  | f + 1, w1, w2, s => if 100 < w2 then k0 w1 w2 s else if w1 = (-9) then (mb_cl (f_M_isOver n s) fun r_10 s_8 => if r_10 = 0 then (mb_bd (sF s_8 200 11 2) fun s_12 => mb_cl (f_M_nextBy n (s_12.1 200 10) s_12) fun r_16 s_14 => mb_cw (f_M_passMinute n r_16 s_14) fun s_17 => mb_jn (fun (x_30 : Int32) (s_31 : mb_T) => mb_cw (f_M_setPast n w2 s_31) fun s_32 => f_M_rest_24 n k0 f x_30 (w2 + 1) s_32) fun j_19 => if w2 ≤ 1 then j_19 (-9) s_17 else mb_cl (f_M_isPast n (w2 - 2) s_17) fun r_23 s_21 => if r_23 = 0 then j_19 (-9) s_21 else mb_cl (f_M_isOver n s_21) fun r_27 s_25 => j_19 (if r_27 = 0 then w2 else (-9) : Int32) s_25) else k0 w1 w2 s_8) else k0 w1 w2 s
def f_M_rest (n : Nat)  (s : mb_T) : Option (Int32 × mb_T) := if (s.1 200 8) = 0 then some ((-4), s) else mb_cw (f_M_putAside n s) fun s_2 => mb_cw (f_M_setPast n 0 s_2) fun s_4 => f_M_rest_24 n (fun x_35 x_36 s_37 => mb_cw (f_M_comeBack n s_37) fun s_38 => some (x_35, s_38)) n (-9) 1 s_4
set_option maxHeartbeats 4000000 in
set_option maxRecDepth 100000 in
theorem tl_M_rest_24 {dd n : Nat} {K : mj_KT} {out : Int32 × mb_T} (hK : mj_C (dd + 5) 0 0 RM_c "rest" bM_rest 3 K) (hR : mj_R bM_rest (some .int) (fun r2 S2 => r2 = some (.int out.1) ∧ S2 = mb_s out.2) K) {k0 : Int32 → Int32 → mb_T → Option (Int32 × mb_T)}  (hk0 : ∀ (w1 : Int32) (w2 : Int32) (s : mb_T), k0 w1 w2 s = some out → K 0 0 100 [.ref 200, .int w1, .int w2] [] (mb_s s)) : ∀ (f : Nat) (w1 : Int32) (w2 : Int32) (s : mb_T), f_M_rest_24 n k0 f w1 w2 s = some out → K 0 0 24 [.ref 200, .int w1, .int w2] [] (mb_s s) := by
  intro f
  induction f with
  | zero =>
    intro w1 w2 s h
    cases h
  | succ f ih =>
    intro w1 w2 s h
    rw [f_M_rest_24] at h
    refine ro_iload_n hK dM_rest_24 rfl ?_
    refine ro_bipush (x := 100) hK (by decide) dM_rest_25 ?_
    refine ro_icmp_gt (tgt := 100) hK dM_rest_27 (by decide) (fun c_6 => ?_) (fun c_6 => ?_)
    · replace h := mb_ift c_6 h
      refine ro_fg (lv' := [.ref 200, .int w1, .int w2]) hK ⟨Or.inr rfl, ⟨Or.inr rfl, ⟨Or.inr rfl, trivial⟩⟩⟩ ?_
      exact hk0 _ _ _ h
    · replace h := mb_iff c_6 h
      refine ro_iload_n hK dM_rest_30 rfl ?_
      refine ro_bipush (x := (-9)) hK (by decide) dM_rest_31 ?_
      refine ro_icmp_ne (tgt := 100) hK dM_rest_33 (by decide) (fun c_7 => ?_) (fun c_7 => ?_)
      · replace h := mb_iff c_7 h
        refine ro_fg (lv' := [.ref 200, .int w1, .int w2]) hK ⟨Or.inr rfl, ⟨Or.inr rfl, ⟨Or.inr rfl, trivial⟩⟩⟩ ?_
        exact hk0 _ _ _ h
      · replace h := mb_ift c_7 h
        refine ro_aload_n hK dM_rest_36 rfl ?_
        obtain ⟨r_10, s_8, q_9, h⟩ := mb_cl_e h
        refine rb_callV hK mM_isOver vM_206 (t_M_isOver (dd := dd + 2) q_9) rfl mb_oM rfl (Nat.le_of_ble_eq_true rfl) dM_rest_37 rfl ⟨Nat.le_refl _, Nat.le_refl _⟩ ?_
        show K 0 0 40 [.ref 200, .int w1, .int w2] [.int r_10] (mb_s s_8)
        refine ro_if_ne (tgt := 100) hK dM_rest_40 (by decide) (fun c_11 => ?_) (fun c_11 => ?_)
        · replace h := mb_iff c_11 h
          refine ro_fg (lv' := [.ref 200, .int w1, .int w2]) hK ⟨Or.inr rfl, ⟨Or.inr rfl, ⟨Or.inr rfl, trivial⟩⟩⟩ ?_
          exact hk0 _ _ _ h
        · replace h := mb_ift c_11 h
          refine ro_aload_n hK dM_rest_43 rfl ?_
          refine ro_iconst (x := 2) hK (by decide) dM_rest_44 ?_
          obtain ⟨s_12, e_13, h⟩ := mb_bd_e h
          refine rb_put hK gM_170 mb_oM rfl (by show 11 < 45; decide) rfl rfl e_13 dM_rest_45 ?_
          refine ro_aload_n hK dM_rest_48 rfl ?_
          refine ro_aload_n hK dM_rest_49 rfl ?_
          refine ro_aload_n hK dM_rest_50 rfl ?_
          refine rb_get hK fM_167 mb_oM rfl dM_rest_51 ?_
          obtain ⟨r_16, s_14, q_15, h⟩ := mb_cl_e h
          refine rb_callV hK mM_nextBy vM_210 (t_M_nextBy (dd := dd + 0) q_15) rfl mb_oM rfl (Nat.le_of_ble_eq_true rfl) dM_rest_54 rfl ⟨Nat.le_refl _, Nat.le_refl _⟩ ?_
          show K 0 0 57 [.ref 200, .int w1, .int w2] [.int r_16, .ref 200] (mb_s s_14)
          obtain ⟨s_17, q_18, h⟩ := mb_cw_e h
          refine rb_callV hK mM_passMinute vM_202 (t_M_passMinute (dd := dd + 2) q_18) rfl mb_oM rfl (Nat.le_of_ble_eq_true rfl) dM_rest_57 rfl ⟨Nat.le_refl _, Nat.le_refl _⟩ ?_
          show K 0 0 60 [.ref 200, .int w1, .int w2] [] (mb_s s_17)
          refine ro_iload_n hK dM_rest_60 rfl ?_
          refine ro_iconst (x := 1) hK (by decide) dM_rest_61 ?_
          obtain ⟨j_19, e_34, h⟩ := mb_jn_e h
          have hj_19 : ∀ (x_30 : Int32) (s_31 : mb_T), j_19 x_30 s_31 = some out → K 0 0 88 [.ref 200, .int w1, .int w2] [.int x_30] (mb_s s_31) := by
            intro x_30 s_31 h
            rw [e_34] at h
            refine ro_istore_n hK dM_rest_88 (by decide) ?_
            show K 0 0 89 [.ref 200, .int x_30, .int w2] [] (mb_s s_31)
            refine ro_aload_n hK dM_rest_89 rfl ?_
            refine ro_iload_n hK dM_rest_90 rfl ?_
            obtain ⟨s_32, q_33, h⟩ := mb_cw_e h
            refine rb_callV hK mM_setPast vM_238 (t_M_setPast (dd := dd + 3) q_33) rfl mb_oM rfl (Nat.le_of_ble_eq_true rfl) dM_rest_91 rfl ⟨Nat.le_refl _, Nat.le_refl _⟩ ?_
            show K 0 0 94 [.ref 200, .int x_30, .int w2] [] (mb_s s_32)
            refine ro_iincv (c := 1) hK (by decide) dM_rest_94 rfl (by decide) ?_
            show K 0 0 97 [.ref 200, .int x_30, .int (w2 + 1)] [] (mb_s s_32)
            refine ro_goto (tgt := 24) hK dM_rest_97 (by decide) ?_
            refine ro_fg (lv' := [.ref 200, .int x_30, .int (w2 + 1)]) hK ⟨Or.inr rfl, ⟨Or.inr rfl, ⟨Or.inr rfl, trivial⟩⟩⟩ ?_
            exact ih _ _ _ h
          refine ro_icmp_le (tgt := 86) hK dM_rest_62 (by decide) (fun c_20 => ?_) (fun c_20 => ?_)
          · replace h := mb_ift c_20 h
            refine ro_bipush (x := (-9)) hK (by decide) dM_rest_86 ?_
            refine ro_fg (lv' := [.ref 200, .int w1, .int w2]) hK ⟨Or.inr rfl, ⟨Or.inr rfl, ⟨Or.inr rfl, trivial⟩⟩⟩ ?_
            exact hj_19 _ _ h
          · replace h := mb_iff c_20 h
            refine ro_aload_n hK dM_rest_65 rfl ?_
            refine ro_iload_n hK dM_rest_66 rfl ?_
            refine ro_iconst (x := 2) hK (by decide) dM_rest_67 ?_
            refine ro_isub hK dM_rest_68 ?_
            obtain ⟨r_23, s_21, q_22, h⟩ := mb_cl_e h
            refine rb_callV hK mM_isPast vM_241 (t_M_isPast (dd := dd + 3) q_22) rfl mb_oM rfl (Nat.le_of_ble_eq_true rfl) dM_rest_69 rfl ⟨Nat.le_refl _, Nat.le_refl _⟩ ?_
            show K 0 0 72 [.ref 200, .int w1, .int w2] [.int r_23] (mb_s s_21)
            refine ro_if_eq (tgt := 86) hK dM_rest_72 (by decide) (fun c_24 => ?_) (fun c_24 => ?_)
            · replace h := mb_ift c_24 h
              refine ro_bipush (x := (-9)) hK (by decide) dM_rest_86 ?_
              refine ro_fg (lv' := [.ref 200, .int w1, .int w2]) hK ⟨Or.inr rfl, ⟨Or.inr rfl, ⟨Or.inr rfl, trivial⟩⟩⟩ ?_
              exact hj_19 _ _ h
            · replace h := mb_iff c_24 h
              refine ro_aload_n hK dM_rest_75 rfl ?_
              obtain ⟨r_27, s_25, q_26, h⟩ := mb_cl_e h
              refine rb_callV hK mM_isOver vM_206 (t_M_isOver (dd := dd + 2) q_26) rfl mb_oM rfl (Nat.le_of_ble_eq_true rfl) dM_rest_76 rfl ⟨Nat.le_refl _, Nat.le_refl _⟩ ?_
              show K 0 0 79 [.ref 200, .int w1, .int w2] [.int r_27] (mb_s s_25)
              have j_29 : ∀ w_ : Int32, w_ = (if r_27 = 0 then w2 else (-9) : Int32) → K 0 0 88 [.ref 200, .int w1, .int w2] [.int w_] (mb_s s_25) → K 0 0 79 [.ref 200, .int w1, .int w2] [.int r_27] (mb_s s_25) := by
                intro w_ hw hj
                refine ro_if_ne (tgt := 86) hK dM_rest_79 (by decide) (fun c_28 => ?_) (fun c_28 => ?_)
                · skip
                  refine ro_bipush (x := (-9)) hK (by decide) dM_rest_86 ?_
                  have hw := (hw.trans (if_neg c_28))
                  subst hw
                  exact hj
                · skip
                  refine ro_iload_n hK dM_rest_82 rfl ?_
                  refine ro_goto (tgt := 88) hK dM_rest_83 (by decide) ?_
                  have hw := (hw.trans (if_pos c_28))
                  subst hw
                  exact hj
              refine j_29 _ rfl ?_
              refine ro_fg (lv' := [.ref 200, .int w1, .int w2]) hK ⟨Or.inr rfl, ⟨Or.inr rfl, ⟨Or.inr rfl, trivial⟩⟩⟩ ?_
              exact hj_19 _ _ h
set_option maxHeartbeats 4000000 in
set_option maxRecDepth 100000 in
theorem t_M_rest {dd n : Nat}  {s : mb_T} {out : Int32 × mb_T}  (h : f_M_rest n  s = some out) : mb_MC (dd + 5) yM_rest bM_rest 3 (some .int) [.ref 200] s (some (.int out.1)) out.2 := by
  unfold f_M_rest at h
  refine mj_mc (lv := [.ref 200, .retAddr 0, .retAddr 0]) mM_rest rfl rfl (Nat.le_of_ble_eq_true rfl) (fun K hK hR => ?_)
  have hK : mj_C (dd + 5) 0 0 RM_c "rest" bM_rest 3 K := hK
  refine ro_aload_n hK dM_rest_0 rfl ?_
  refine rb_get hK fM_161 mb_oM rfl dM_rest_1 ?_
  refine ro_if_ne (tgt := 10) hK dM_rest_4 (by decide) (fun c_1 => ?_) (fun c_1 => ?_)
  · replace h := mb_iff c_1 h
    refine ro_aload_n hK dM_rest_10 rfl ?_
    obtain ⟨s_2, q_3, h⟩ := mb_cw_e h
    refine rb_callV hK mM_putAside vM_222 (t_M_putAside (dd := dd + 3) q_3) rfl mb_oM rfl (Nat.le_of_ble_eq_true rfl) dM_rest_11 rfl ⟨Nat.le_refl _, Nat.le_refl _⟩ ?_
    show K 0 0 14 [.ref 200, .retAddr 0, .retAddr 0] [] (mb_s s_2)
    refine ro_bipush (x := (-9)) hK (by decide) dM_rest_14 ?_
    refine ro_istore_n hK dM_rest_16 (by decide) ?_
    show K 0 0 17 [.ref 200, .int (-9), .retAddr 0] [] (mb_s s_2)
    refine ro_aload_n hK dM_rest_17 rfl ?_
    refine ro_iconst (x := 0) hK (by decide) dM_rest_18 ?_
    obtain ⟨s_4, q_5, h⟩ := mb_cw_e h
    refine rb_callV hK mM_setPast vM_238 (t_M_setPast (dd := dd + 3) q_5) rfl mb_oM rfl (Nat.le_of_ble_eq_true rfl) dM_rest_19 rfl ⟨Nat.le_refl _, Nat.le_refl _⟩ ?_
    show K 0 0 22 [.ref 200, .int (-9), .retAddr 0] [] (mb_s s_4)
    refine ro_iconst (x := 1) hK (by decide) dM_rest_22 ?_
    refine ro_istore_n hK dM_rest_23 (by decide) ?_
    show K 0 0 24 [.ref 200, .int (-9), .int 1] [] (mb_s s_4)
    refine ro_fg (lv' := [.ref 200, .int (-9), .int 1]) hK ⟨Or.inr rfl, ⟨Or.inr rfl, ⟨Or.inr rfl, trivial⟩⟩⟩ ?_
    refine tl_M_rest_24 (dd := dd) hK hR (fun x_35 x_36 s_37 h => ?_) n _ _ _ h
    refine ro_aload_n hK dM_rest_100 rfl ?_
    obtain ⟨s_38, q_39, h⟩ := mb_cw_e h
    refine rb_callV hK mM_comeBack vM_228 (t_M_comeBack (dd := dd + 3) q_39) rfl mb_oM rfl (Nat.le_of_ble_eq_true rfl) dM_rest_101 rfl ⟨Nat.le_refl _, Nat.le_refl _⟩ ?_
    show K 0 0 104 [.ref 200, .int x_35, .int x_36] [] (mb_s s_38)
    refine ro_iload_n hK dM_rest_104 rfl ?_
    cases h
    exact hR.1 0 0 105 _ _ _ _ rfl rfl dM_rest_105 ⟨rfl, rfl⟩
  · replace h := mb_ift c_1 h
    refine ro_bipush (x := (-4)) hK (by decide) dM_rest_7 ?_
    cases h
    exact hR.1 0 0 9 _ _ _ _ rfl rfl dM_rest_9 ⟨rfl, rfl⟩
theorem dM_spare_0 : decode bM_spare 0 = .ok (.iload_n 1, 1) := by decide +kernel
theorem dM_spare_1 : decode bM_spare 1 = .ok (.invokestatic 247, 3) := by decide +kernel
theorem dM_spare_4 : decode bM_spare 4 = .ok (.ifCond .ne 5, 3) := by decide +kernel
theorem dM_spare_7 : decode bM_spare 7 = .ok (.iconst (-1), 1) := by decide +kernel
theorem dM_spare_8 : decode bM_spare 8 = .ok (.ireturn, 1) := by decide +kernel
theorem dM_spare_9 : decode bM_spare 9 = .ok (.aload_n 0, 1) := by decide +kernel
theorem dM_spare_10 : decode bM_spare 10 = .ok (.getfield 161, 3) := by decide +kernel
theorem dM_spare_13 : decode bM_spare 13 = .ok (.ifCond .ne 6, 3) := by decide +kernel
theorem dM_spare_16 : decode bM_spare 16 = .ok (.bipush (-4), 2) := by decide +kernel
theorem dM_spare_18 : decode bM_spare 18 = .ok (.ireturn, 1) := by decide +kernel
theorem dM_spare_19 : decode bM_spare 19 = .ok (.aload_n 0, 1) := by decide +kernel
theorem dM_spare_20 : decode bM_spare 20 = .ok (.invokevirtual 222, 3) := by decide +kernel
theorem dM_spare_23 : decode bM_spare 23 = .ok (.bipush (-9), 2) := by decide +kernel
theorem dM_spare_25 : decode bM_spare 25 = .ok (.istore_n 2, 1) := by decide +kernel
theorem dM_spare_26 : decode bM_spare 26 = .ok (.iconst 0, 1) := by decide +kernel
theorem dM_spare_27 : decode bM_spare 27 = .ok (.istore_n 3, 1) := by decide +kernel
theorem dM_spare_28 : decode bM_spare 28 = .ok (.iload_n 3, 1) := by decide +kernel
theorem dM_spare_29 : decode bM_spare 29 = .ok (.bipush 100, 2) := by decide +kernel
theorem dM_spare_31 : decode bM_spare 31 = .ok (.if_icmp .ge 72, 3) := by decide +kernel
theorem dM_spare_34 : decode bM_spare 34 = .ok (.iload_n 2, 1) := by decide +kernel
theorem dM_spare_35 : decode bM_spare 35 = .ok (.bipush (-9), 2) := by decide +kernel
theorem dM_spare_37 : decode bM_spare 37 = .ok (.if_icmp .ne 66, 3) := by decide +kernel
theorem dM_spare_40 : decode bM_spare 40 = .ok (.aload_n 0, 1) := by decide +kernel
theorem dM_spare_41 : decode bM_spare 41 = .ok (.iload_n 3, 1) := by decide +kernel
theorem dM_spare_42 : decode bM_spare 42 = .ok (.putfield 170, 3) := by decide +kernel
theorem dM_spare_45 : decode bM_spare 45 = .ok (.iconst 0, 1) := by decide +kernel
theorem dM_spare_46 : decode bM_spare 46 = .ok (.istore 4, 2) := by decide +kernel
theorem dM_spare_48 : decode bM_spare 48 = .ok (.iload 4, 2) := by decide +kernel
theorem dM_spare_50 : decode bM_spare 50 = .ok (.iload_n 1, 1) := by decide +kernel
theorem dM_spare_51 : decode bM_spare 51 = .ok (.if_icmp .ge 28, 3) := by decide +kernel
theorem dM_spare_54 : decode bM_spare 54 = .ok (.aload_n 0, 1) := by decide +kernel
theorem dM_spare_55 : decode bM_spare 55 = .ok (.invokevirtual 206, 3) := by decide +kernel
theorem dM_spare_58 : decode bM_spare 58 = .ok (.ifCond .ne 21, 3) := by decide +kernel
theorem dM_spare_61 : decode bM_spare 61 = .ok (.aload_n 0, 1) := by decide +kernel
theorem dM_spare_62 : decode bM_spare 62 = .ok (.aload_n 0, 1) := by decide +kernel
theorem dM_spare_63 : decode bM_spare 63 = .ok (.aload_n 0, 1) := by decide +kernel
theorem dM_spare_64 : decode bM_spare 64 = .ok (.getfield 167, 3) := by decide +kernel
theorem dM_spare_67 : decode bM_spare 67 = .ok (.invokevirtual 210, 3) := by decide +kernel
theorem dM_spare_70 : decode bM_spare 70 = .ok (.invokevirtual 202, 3) := by decide +kernel
theorem dM_spare_73 : decode bM_spare 73 = .ok (.iinc 4 1, 3) := by decide +kernel
theorem dM_spare_76 : decode bM_spare 76 = .ok (.goto (-28), 3) := by decide +kernel
theorem dM_spare_79 : decode bM_spare 79 = .ok (.aload_n 0, 1) := by decide +kernel
theorem dM_spare_80 : decode bM_spare 80 = .ok (.invokevirtual 206, 3) := by decide +kernel
theorem dM_spare_83 : decode bM_spare 83 = .ok (.ifCond .eq 8, 3) := by decide +kernel
theorem dM_spare_86 : decode bM_spare 86 = .ok (.bipush (-9), 2) := by decide +kernel
theorem dM_spare_88 : decode bM_spare 88 = .ok (.goto 4, 3) := by decide +kernel
theorem dM_spare_91 : decode bM_spare 91 = .ok (.iload_n 3, 1) := by decide +kernel
theorem dM_spare_92 : decode bM_spare 92 = .ok (.istore_n 2, 1) := by decide +kernel
theorem dM_spare_93 : decode bM_spare 93 = .ok (.aload_n 0, 1) := by decide +kernel
theorem dM_spare_94 : decode bM_spare 94 = .ok (.invokevirtual 228, 3) := by decide +kernel
theorem dM_spare_97 : decode bM_spare 97 = .ok (.iinc 3 1, 3) := by decide +kernel
theorem dM_spare_100 : decode bM_spare 100 = .ok (.goto (-72), 3) := by decide +kernel
theorem dM_spare_103 : decode bM_spare 103 = .ok (.iload_n 2, 1) := by decide +kernel
theorem dM_spare_104 : decode bM_spare 104 = .ok (.ireturn, 1) := by decide +kernel
def f_M_spare_48 (n : Nat) (k0 : Int32 → mb_T → Option (Int32 × mb_T)) (y1 : Int32) (y3 : Int32) : Nat → Int32 → mb_T → Option (Int32 × mb_T)
  | 0, _, _ => none
  | f + 1, w4, s => if y1 ≤ w4 then k0 w4 s else mb_cl (f_M_isOver n s) fun r_15 s_13 => if r_15 = 0 then (mb_cl (f_M_nextBy n (s_13.1 200 10) s_13) fun r_19 s_17 => mb_cw (f_M_passMinute n r_19 s_17) fun s_20 => f_M_spare_48 n k0 y1 y3 f (w4 + 1) s_20) else k0 w4 s_13
def f_M_spare_28 (n : Nat) (k0 : Int32 → Int32 → mb_T → Option (Int32 × mb_T)) (y1 : Int32) : Nat → Int32 → Int32 → mb_T → Option (Int32 × mb_T)
  | 0, _, _, _ => none
  | f + 1, w2, w3, s => if 100 ≤ w3 then k0 w2 w3 s else if w2 = (-9) then (mb_bd (sF s 200 11 w3) fun s_10 => f_M_spare_48 n (fun x_22 s_23 => mb_cl (f_M_isOver n s_23) fun r_26 s_24 => mb_cw (f_M_comeBack n s_24) fun s_29 => f_M_spare_28 n k0 y1 f (if r_26 = 0 then w3 else (-9) : Int32) (w3 + 1) s_29) y1 w3 n 0 s_10) else k0 w2 w3 s
def f_M_spare (n : Nat) (x1 : Int32) (s : mb_T) : Option (Int32 × mb_T) := mb_cl (f_M_isSpan n x1 s) fun r_3 s_1 => if r_3 = 0 then some ((-1), s_1) else if (s_1.1 200 8) = 0 then some ((-4), s_1) else mb_cw (f_M_putAside n s_1) fun s_6 => f_M_spare_28 n (fun x_31 x_32 s_33 => some (x_31, s_33)) x1 n (-9) 0 s_6
set_option maxHeartbeats 4000000 in
set_option maxRecDepth 100000 in
theorem tl_M_spare_48 {dd n : Nat} {K : mj_KT} {out : Int32 × mb_T} (hK : mj_C (dd + 5) 0 0 RM_c "spare" bM_spare 5 K) (hR : mj_R bM_spare (some .int) (fun r2 S2 => r2 = some (.int out.1) ∧ S2 = mb_s out.2) K) {k0 : Int32 → mb_T → Option (Int32 × mb_T)} {y1 : Int32} {y3 : Int32} (hk0 : ∀ (w4 : Int32) (s : mb_T), k0 w4 s = some out → K 0 0 79 [.ref 200, .int y1, .retAddr 0, .int y3, .int w4] [] (mb_s s)) : ∀ (f : Nat) (w4 : Int32) (s : mb_T), f_M_spare_48 n k0 y1 y3 f w4 s = some out → K 0 0 48 [.ref 200, .int y1, .retAddr 0, .int y3, .int w4] [] (mb_s s) := by
  intro f
  induction f with
  | zero =>
    intro w4 s h
    cases h
  | succ f ih =>
    intro w4 s h
    rw [f_M_spare_48] at h
    refine ro_iload hK dM_spare_48 rfl ?_
    refine ro_iload_n hK dM_spare_50 rfl ?_
    refine ro_icmp_ge (tgt := 79) hK dM_spare_51 (by decide) (fun c_12 => ?_) (fun c_12 => ?_)
    · replace h := mb_ift c_12 h
      refine ro_fg (lv' := [.ref 200, .int y1, .retAddr 0, .int y3, .int w4]) hK ⟨Or.inr rfl, ⟨Or.inr rfl, ⟨Or.inl rfl, ⟨Or.inr rfl, ⟨Or.inr rfl, trivial⟩⟩⟩⟩⟩ ?_
      exact hk0 _ _ h
    · replace h := mb_iff c_12 h
      refine ro_aload_n hK dM_spare_54 rfl ?_
      obtain ⟨r_15, s_13, q_14, h⟩ := mb_cl_e h
      refine rb_callV hK mM_isOver vM_206 (t_M_isOver (dd := dd + 2) q_14) rfl mb_oM rfl (Nat.le_of_ble_eq_true rfl) dM_spare_55 rfl ⟨Nat.le_refl _, Nat.le_refl _⟩ ?_
      show K 0 0 58 [.ref 200, .int y1, .retAddr 0, .int y3, .int w4] [.int r_15] (mb_s s_13)
      refine ro_if_ne (tgt := 79) hK dM_spare_58 (by decide) (fun c_16 => ?_) (fun c_16 => ?_)
      · replace h := mb_iff c_16 h
        refine ro_fg (lv' := [.ref 200, .int y1, .retAddr 0, .int y3, .int w4]) hK ⟨Or.inr rfl, ⟨Or.inr rfl, ⟨Or.inl rfl, ⟨Or.inr rfl, ⟨Or.inr rfl, trivial⟩⟩⟩⟩⟩ ?_
        exact hk0 _ _ h
      · replace h := mb_ift c_16 h
        refine ro_aload_n hK dM_spare_61 rfl ?_
        refine ro_aload_n hK dM_spare_62 rfl ?_
        refine ro_aload_n hK dM_spare_63 rfl ?_
        refine rb_get hK fM_167 mb_oM rfl dM_spare_64 ?_
        obtain ⟨r_19, s_17, q_18, h⟩ := mb_cl_e h
        refine rb_callV hK mM_nextBy vM_210 (t_M_nextBy (dd := dd + 0) q_18) rfl mb_oM rfl (Nat.le_of_ble_eq_true rfl) dM_spare_67 rfl ⟨Nat.le_refl _, Nat.le_refl _⟩ ?_
        show K 0 0 70 [.ref 200, .int y1, .retAddr 0, .int y3, .int w4] [.int r_19, .ref 200] (mb_s s_17)
        obtain ⟨s_20, q_21, h⟩ := mb_cw_e h
        refine rb_callV hK mM_passMinute vM_202 (t_M_passMinute (dd := dd + 2) q_21) rfl mb_oM rfl (Nat.le_of_ble_eq_true rfl) dM_spare_70 rfl ⟨Nat.le_refl _, Nat.le_refl _⟩ ?_
        show K 0 0 73 [.ref 200, .int y1, .retAddr 0, .int y3, .int w4] [] (mb_s s_20)
        refine ro_iincv (c := 1) hK (by decide) dM_spare_73 rfl (by decide) ?_
        show K 0 0 76 [.ref 200, .int y1, .retAddr 0, .int y3, .int (w4 + 1)] [] (mb_s s_20)
        refine ro_goto (tgt := 48) hK dM_spare_76 (by decide) ?_
        refine ro_fg (lv' := [.ref 200, .int y1, .retAddr 0, .int y3, .int (w4 + 1)]) hK ⟨Or.inr rfl, ⟨Or.inr rfl, ⟨Or.inl rfl, ⟨Or.inr rfl, ⟨Or.inr rfl, trivial⟩⟩⟩⟩⟩ ?_
        exact ih _ _ h
set_option maxHeartbeats 4000000 in
set_option maxRecDepth 100000 in
theorem tl_M_spare_28 {dd n : Nat} {K : mj_KT} {out : Int32 × mb_T} (hK : mj_C (dd + 5) 0 0 RM_c "spare" bM_spare 5 K) (hR : mj_R bM_spare (some .int) (fun r2 S2 => r2 = some (.int out.1) ∧ S2 = mb_s out.2) K) {k0 : Int32 → Int32 → mb_T → Option (Int32 × mb_T)} {y1 : Int32} (hk0 : ∀ (w2 : Int32) (w3 : Int32) (s : mb_T), k0 w2 w3 s = some out → K 0 0 103 [.ref 200, .int y1, .int w2, .int w3, .retAddr 0] [] (mb_s s)) : ∀ (f : Nat) (w2 : Int32) (w3 : Int32) (s : mb_T), f_M_spare_28 n k0 y1 f w2 w3 s = some out → K 0 0 28 [.ref 200, .int y1, .int w2, .int w3, .retAddr 0] [] (mb_s s) := by
  intro f
  induction f with
  | zero =>
    intro w2 w3 s h
    cases h
  | succ f ih =>
    intro w2 w3 s h
    rw [f_M_spare_28] at h
    refine ro_iload_n hK dM_spare_28 rfl ?_
    refine ro_bipush (x := 100) hK (by decide) dM_spare_29 ?_
    refine ro_icmp_ge (tgt := 103) hK dM_spare_31 (by decide) (fun c_8 => ?_) (fun c_8 => ?_)
    · replace h := mb_ift c_8 h
      refine ro_fg (lv' := [.ref 200, .int y1, .int w2, .int w3, .retAddr 0]) hK ⟨Or.inr rfl, ⟨Or.inr rfl, ⟨Or.inr rfl, ⟨Or.inr rfl, ⟨Or.inl rfl, trivial⟩⟩⟩⟩⟩ ?_
      exact hk0 _ _ _ h
    · replace h := mb_iff c_8 h
      refine ro_iload_n hK dM_spare_34 rfl ?_
      refine ro_bipush (x := (-9)) hK (by decide) dM_spare_35 ?_
      refine ro_icmp_ne (tgt := 103) hK dM_spare_37 (by decide) (fun c_9 => ?_) (fun c_9 => ?_)
      · replace h := mb_iff c_9 h
        refine ro_fg (lv' := [.ref 200, .int y1, .int w2, .int w3, .retAddr 0]) hK ⟨Or.inr rfl, ⟨Or.inr rfl, ⟨Or.inr rfl, ⟨Or.inr rfl, ⟨Or.inl rfl, trivial⟩⟩⟩⟩⟩ ?_
        exact hk0 _ _ _ h
      · replace h := mb_ift c_9 h
        refine ro_aload_n hK dM_spare_40 rfl ?_
        refine ro_iload_n hK dM_spare_41 rfl ?_
        obtain ⟨s_10, e_11, h⟩ := mb_bd_e h
        refine rb_put hK gM_170 mb_oM rfl (by show 11 < 45; decide) rfl rfl e_11 dM_spare_42 ?_
        refine ro_iconst (x := 0) hK (by decide) dM_spare_45 ?_
        refine ro_istore hK dM_spare_46 (by decide) ?_
        show K 0 0 48 [.ref 200, .int y1, .int w2, .int w3, .int 0] [] (mb_s s_10)
        refine ro_fg (lv' := [.ref 200, .int y1, .retAddr 0, .int w3, .int 0]) hK ⟨Or.inr rfl, ⟨Or.inr rfl, ⟨Or.inl rfl, ⟨Or.inr rfl, ⟨Or.inr rfl, trivial⟩⟩⟩⟩⟩ ?_
        refine tl_M_spare_48 (dd := dd) hK hR (fun x_22 s_23 h => ?_) n _ _ h
        refine ro_aload_n hK dM_spare_79 rfl ?_
        obtain ⟨r_26, s_24, q_25, h⟩ := mb_cl_e h
        refine rb_callV hK mM_isOver vM_206 (t_M_isOver (dd := dd + 2) q_25) rfl mb_oM rfl (Nat.le_of_ble_eq_true rfl) dM_spare_80 rfl ⟨Nat.le_refl _, Nat.le_refl _⟩ ?_
        show K 0 0 83 [.ref 200, .int y1, .retAddr 0, .int w3, .int x_22] [.int r_26] (mb_s s_24)
        have j_28 : ∀ w_ : Int32, w_ = (if r_26 = 0 then w3 else (-9) : Int32) → K 0 0 92 [.ref 200, .int y1, .retAddr 0, .int w3, .int x_22] [.int w_] (mb_s s_24) → K 0 0 83 [.ref 200, .int y1, .retAddr 0, .int w3, .int x_22] [.int r_26] (mb_s s_24) := by
          intro w_ hw hj
          refine ro_if_eq (tgt := 91) hK dM_spare_83 (by decide) (fun c_27 => ?_) (fun c_27 => ?_)
          · skip
            refine ro_iload_n hK dM_spare_91 rfl ?_
            have hw := (hw.trans (if_pos c_27))
            subst hw
            exact hj
          · skip
            refine ro_bipush (x := (-9)) hK (by decide) dM_spare_86 ?_
            refine ro_goto (tgt := 92) hK dM_spare_88 (by decide) ?_
            have hw := (hw.trans (if_neg c_27))
            subst hw
            exact hj
        refine j_28 _ rfl ?_
        refine ro_istore_n hK dM_spare_92 (by decide) ?_
        show K 0 0 93 [.ref 200, .int y1, .int (if r_26 = 0 then w3 else (-9) : Int32), .int w3, .int x_22] [] (mb_s s_24)
        refine ro_aload_n hK dM_spare_93 rfl ?_
        obtain ⟨s_29, q_30, h⟩ := mb_cw_e h
        refine rb_callV hK mM_comeBack vM_228 (t_M_comeBack (dd := dd + 3) q_30) rfl mb_oM rfl (Nat.le_of_ble_eq_true rfl) dM_spare_94 rfl ⟨Nat.le_refl _, Nat.le_refl _⟩ ?_
        show K 0 0 97 [.ref 200, .int y1, .int (if r_26 = 0 then w3 else (-9) : Int32), .int w3, .int x_22] [] (mb_s s_29)
        refine ro_iincv (c := 1) hK (by decide) dM_spare_97 rfl (by decide) ?_
        show K 0 0 100 [.ref 200, .int y1, .int (if r_26 = 0 then w3 else (-9) : Int32), .int (w3 + 1), .int x_22] [] (mb_s s_29)
        refine ro_goto (tgt := 28) hK dM_spare_100 (by decide) ?_
        refine ro_fg (lv' := [.ref 200, .int y1, .int (if r_26 = 0 then w3 else (-9) : Int32), .int (w3 + 1), .retAddr 0]) hK ⟨Or.inr rfl, ⟨Or.inr rfl, ⟨Or.inr rfl, ⟨Or.inr rfl, ⟨Or.inl rfl, trivial⟩⟩⟩⟩⟩ ?_
        exact ih _ _ _ h
set_option maxHeartbeats 4000000 in
set_option maxRecDepth 100000 in
theorem t_M_spare {dd n : Nat} {x1 : Int32} {s : mb_T} {out : Int32 × mb_T}  (h : f_M_spare n x1 s = some out) : mb_MC (dd + 5) yM_spare bM_spare 5 (some .int) [.ref 200, .int x1] s (some (.int out.1)) out.2 := by
  unfold f_M_spare at h
  refine mj_mc (lv := [.ref 200, .int x1, .retAddr 0, .retAddr 0, .retAddr 0]) mM_spare rfl rfl (Nat.le_of_ble_eq_true rfl) (fun K hK hR => ?_)
  have hK : mj_C (dd + 5) 0 0 RM_c "spare" bM_spare 5 K := hK
  refine ro_iload_n hK dM_spare_0 rfl ?_
  obtain ⟨r_3, s_1, q_2, h⟩ := mb_cl_e h
  refine rb_callS hK mM_isSpan vM_247 (t_M_isSpan (dd := dd + 2) q_2) rfl (Nat.le_of_ble_eq_true rfl) dM_spare_1 rfl ⟨Nat.le_refl _, Nat.le_refl _⟩ ?_
  show K 0 0 4 [.ref 200, .int x1, .retAddr 0, .retAddr 0, .retAddr 0] [.int r_3] (mb_s s_1)
  refine ro_if_ne (tgt := 9) hK dM_spare_4 (by decide) (fun c_4 => ?_) (fun c_4 => ?_)
  · replace h := mb_iff c_4 h
    refine ro_aload_n hK dM_spare_9 rfl ?_
    refine rb_get hK fM_161 mb_oM rfl dM_spare_10 ?_
    refine ro_if_ne (tgt := 19) hK dM_spare_13 (by decide) (fun c_5 => ?_) (fun c_5 => ?_)
    · replace h := mb_iff c_5 h
      refine ro_aload_n hK dM_spare_19 rfl ?_
      obtain ⟨s_6, q_7, h⟩ := mb_cw_e h
      refine rb_callV hK mM_putAside vM_222 (t_M_putAside (dd := dd + 3) q_7) rfl mb_oM rfl (Nat.le_of_ble_eq_true rfl) dM_spare_20 rfl ⟨Nat.le_refl _, Nat.le_refl _⟩ ?_
      show K 0 0 23 [.ref 200, .int x1, .retAddr 0, .retAddr 0, .retAddr 0] [] (mb_s s_6)
      refine ro_bipush (x := (-9)) hK (by decide) dM_spare_23 ?_
      refine ro_istore_n hK dM_spare_25 (by decide) ?_
      show K 0 0 26 [.ref 200, .int x1, .int (-9), .retAddr 0, .retAddr 0] [] (mb_s s_6)
      refine ro_iconst (x := 0) hK (by decide) dM_spare_26 ?_
      refine ro_istore_n hK dM_spare_27 (by decide) ?_
      show K 0 0 28 [.ref 200, .int x1, .int (-9), .int 0, .retAddr 0] [] (mb_s s_6)
      refine ro_fg (lv' := [.ref 200, .int x1, .int (-9), .int 0, .retAddr 0]) hK ⟨Or.inr rfl, ⟨Or.inr rfl, ⟨Or.inr rfl, ⟨Or.inr rfl, ⟨Or.inl rfl, trivial⟩⟩⟩⟩⟩ ?_
      refine tl_M_spare_28 (dd := dd) hK hR (fun x_31 x_32 s_33 h => ?_) n _ _ _ h
      refine ro_iload_n hK dM_spare_103 rfl ?_
      cases h
      exact hR.1 0 0 104 _ _ _ _ rfl rfl dM_spare_104 ⟨rfl, rfl⟩
    · replace h := mb_ift c_5 h
      refine ro_bipush (x := (-4)) hK (by decide) dM_spare_16 ?_
      cases h
      exact hR.1 0 0 18 _ _ _ _ rfl rfl dM_spare_18 ⟨rfl, rfl⟩
  · replace h := mb_ift c_4 h
    refine ro_iconst (x := (-1)) hK (by decide) dM_spare_7 ?_
    cases h
    exact hR.1 0 0 8 _ _ _ _ rfl rfl dM_spare_8 ⟨rfl, rfl⟩
theorem dM_tell_0 : decode bM_tell 0 = .ok (.iload_n 1, 1) := by decide +kernel
theorem dM_tell_1 : decode bM_tell 1 = .ok (.iconst 0, 1) := by decide +kernel
theorem dM_tell_2 : decode bM_tell 2 = .ok (.iconst 3, 1) := by decide +kernel
theorem dM_tell_3 : decode bM_tell 3 = .ok (.invokestatic 92, 3) := by decide +kernel
theorem dM_tell_6 : decode bM_tell 6 = .ok (.ifCond .eq 17, 3) := by decide +kernel
theorem dM_tell_9 : decode bM_tell 9 = .ok (.iload_n 2, 1) := by decide +kernel
theorem dM_tell_10 : decode bM_tell 10 = .ok (.invokestatic 247, 3) := by decide +kernel
theorem dM_tell_13 : decode bM_tell 13 = .ok (.ifCond .eq 10, 3) := by decide +kernel
theorem dM_tell_16 : decode bM_tell 16 = .ok (.iload_n 3, 1) := by decide +kernel
theorem dM_tell_17 : decode bM_tell 17 = .ok (.invokestatic 96, 3) := by decide +kernel
theorem dM_tell_20 : decode bM_tell 20 = .ok (.ifCond .ne 5, 3) := by decide +kernel
theorem dM_tell_23 : decode bM_tell 23 = .ok (.iconst (-1), 1) := by decide +kernel
theorem dM_tell_24 : decode bM_tell 24 = .ok (.ireturn, 1) := by decide +kernel
theorem dM_tell_25 : decode bM_tell 25 = .ok (.aload_n 0, 1) := by decide +kernel
theorem dM_tell_26 : decode bM_tell 26 = .ok (.getfield 161, 3) := by decide +kernel
theorem dM_tell_29 : decode bM_tell 29 = .ok (.ifCond .ne 6, 3) := by decide +kernel
theorem dM_tell_32 : decode bM_tell 32 = .ok (.bipush (-4), 2) := by decide +kernel
theorem dM_tell_34 : decode bM_tell 34 = .ok (.ireturn, 1) := by decide +kernel
theorem dM_tell_35 : decode bM_tell 35 = .ok (.aload_n 0, 1) := by decide +kernel
theorem dM_tell_36 : decode bM_tell 36 = .ok (.invokevirtual 222, 3) := by decide +kernel
theorem dM_tell_39 : decode bM_tell 39 = .ok (.iconst 0, 1) := by decide +kernel
theorem dM_tell_40 : decode bM_tell 40 = .ok (.istore 4, 2) := by decide +kernel
theorem dM_tell_42 : decode bM_tell 42 = .ok (.iload 4, 2) := by decide +kernel
theorem dM_tell_44 : decode bM_tell 44 = .ok (.iload_n 2, 1) := by decide +kernel
theorem dM_tell_45 : decode bM_tell 45 = .ok (.if_icmp .ge 38, 3) := by decide +kernel
theorem dM_tell_48 : decode bM_tell 48 = .ok (.aload_n 0, 1) := by decide +kernel
theorem dM_tell_49 : decode bM_tell 49 = .ok (.invokevirtual 206, 3) := by decide +kernel
theorem dM_tell_52 : decode bM_tell 52 = .ok (.ifCond .ne 31, 3) := by decide +kernel
theorem dM_tell_55 : decode bM_tell 55 = .ok (.aload_n 0, 1) := by decide +kernel
theorem dM_tell_56 : decode bM_tell 56 = .ok (.iload_n 1, 1) := by decide +kernel
theorem dM_tell_57 : decode bM_tell 57 = .ok (.invokevirtual 210, 3) := by decide +kernel
theorem dM_tell_60 : decode bM_tell 60 = .ok (.istore 5, 2) := by decide +kernel
theorem dM_tell_62 : decode bM_tell 62 = .ok (.aload_n 0, 1) := by decide +kernel
theorem dM_tell_63 : decode bM_tell 63 = .ok (.getfield 19, 3) := by decide +kernel
theorem dM_tell_66 : decode bM_tell 66 = .ok (.iload 4, 2) := by decide +kernel
theorem dM_tell_68 : decode bM_tell 68 = .ok (.iload 5, 2) := by decide +kernel
theorem dM_tell_70 : decode bM_tell 70 = .ok (.iastore, 1) := by decide +kernel
theorem dM_tell_71 : decode bM_tell 71 = .ok (.aload_n 0, 1) := by decide +kernel
theorem dM_tell_72 : decode bM_tell 72 = .ok (.iload 5, 2) := by decide +kernel
theorem dM_tell_74 : decode bM_tell 74 = .ok (.invokevirtual 202, 3) := by decide +kernel
theorem dM_tell_77 : decode bM_tell 77 = .ok (.iinc 4 1, 3) := by decide +kernel
theorem dM_tell_80 : decode bM_tell 80 = .ok (.goto (-38), 3) := by decide +kernel
theorem dM_tell_83 : decode bM_tell 83 = .ok (.aload_n 0, 1) := by decide +kernel
theorem dM_tell_84 : decode bM_tell 84 = .ok (.invokevirtual 228, 3) := by decide +kernel
theorem dM_tell_87 : decode bM_tell 87 = .ok (.aload_n 0, 1) := by decide +kernel
theorem dM_tell_88 : decode bM_tell 88 = .ok (.iload_n 3, 1) := by decide +kernel
theorem dM_tell_89 : decode bM_tell 89 = .ok (.iload 4, 2) := by decide +kernel
theorem dM_tell_91 : decode bM_tell 91 = .ok (.invokevirtual 272, 3) := by decide +kernel
theorem dM_tell_94 : decode bM_tell 94 = .ok (.pop, 1) := by decide +kernel
theorem dM_tell_95 : decode bM_tell 95 = .ok (.iconst 0, 1) := by decide +kernel
theorem dM_tell_96 : decode bM_tell 96 = .ok (.istore 5, 2) := by decide +kernel
theorem dM_tell_98 : decode bM_tell 98 = .ok (.iload 5, 2) := by decide +kernel
theorem dM_tell_100 : decode bM_tell 100 = .ok (.iload 4, 2) := by decide +kernel
theorem dM_tell_102 : decode bM_tell 102 = .ok (.if_icmp .ge 23, 3) := by decide +kernel
theorem dM_tell_105 : decode bM_tell 105 = .ok (.aload_n 0, 1) := by decide +kernel
theorem dM_tell_106 : decode bM_tell 106 = .ok (.iload_n 3, 1) := by decide +kernel
theorem dM_tell_107 : decode bM_tell 107 = .ok (.iload 5, 2) := by decide +kernel
theorem dM_tell_109 : decode bM_tell 109 = .ok (.aload_n 0, 1) := by decide +kernel
theorem dM_tell_110 : decode bM_tell 110 = .ok (.getfield 19, 3) := by decide +kernel
theorem dM_tell_113 : decode bM_tell 113 = .ok (.iload 5, 2) := by decide +kernel
theorem dM_tell_115 : decode bM_tell 115 = .ok (.iaload, 1) := by decide +kernel
theorem dM_tell_116 : decode bM_tell 116 = .ok (.invokevirtual 107, 3) := by decide +kernel
theorem dM_tell_119 : decode bM_tell 119 = .ok (.iinc 5 1, 3) := by decide +kernel
theorem dM_tell_122 : decode bM_tell 122 = .ok (.goto (-24), 3) := by decide +kernel
theorem dM_tell_125 : decode bM_tell 125 = .ok (.iload 4, 2) := by decide +kernel
theorem dM_tell_127 : decode bM_tell 127 = .ok (.ireturn, 1) := by decide +kernel
def f_M_tell_42 (n : Nat) (k0 : Int32 → mb_T → Option (Int32 × mb_T)) (y1 : Int32) (y2 : Int32) (y3 : Int32) : Nat → Int32 → mb_T → Option (Int32 × mb_T)
  | 0, _, _ => none
  | f + 1, w4, s => if y2 ≤ w4 then k0 w4 s else mb_cl (f_M_isOver n s) fun r_19 s_17 => if r_19 = 0 then (mb_cl (f_M_nextBy n y1 s_17) fun r_23 s_21 => mb_wr s_21 205 60 w4 r_23 fun s_24 => mb_cw (f_M_passMinute n r_23 s_24) fun s_27 => f_M_tell_42 n k0 y1 y2 y3 f (w4 + 1) s_27) else k0 w4 s_17
def f_M_tell_98 (n : Nat) (k0 : Int32 → mb_T → Option (Int32 × mb_T)) (y3 : Int32) (y4 : Int32) : Nat → Int32 → mb_T → Option (Int32 × mb_T)
  | 0, _, _ => none
  | f + 1, w5, s => if y4 ≤ w5 then k0 w5 s else mb_rd s 205 60 w5 fun x_37 => mb_cw (f_M_setRow n y3 w5 x_37 s) fun s_40 => f_M_tell_98 n k0 y3 y4 f (w5 + 1) s_40
def f_M_tell (n : Nat) (x1 : Int32) (x2 : Int32) (x3 : Int32) (s : mb_T) : Option (Int32 × mb_T) := mb_cl (f_M_in n x1 0 3 s) fun r_3 s_1 => if r_3 = 0 then some ((-1), s_1) else mb_cl (f_M_isSpan n x2 s_1) fun r_7 s_5 => if r_7 = 0 then some ((-1), s_5) else mb_cl (f_M_isRow n x3 s_5) fun r_11 s_9 => if r_11 = 0 then some ((-1), s_9) else if (s_9.1 200 8) = 0 then some ((-4), s_9) else mb_cw (f_M_putAside n s_9) fun s_14 => f_M_tell_42 n (fun x_29 s_30 => mb_cw (f_M_comeBack n s_30) fun s_31 => mb_cl (f_M_row n x3 x_29 s_31) fun r_35 s_33 => f_M_tell_98 n (fun x_42 s_43 => some (x_29, s_43)) x3 x_29 n 0 s_33) x1 x2 x3 n 0 s_14
set_option maxHeartbeats 4000000 in
set_option maxRecDepth 100000 in
theorem tl_M_tell_42 {dd n : Nat} {K : mj_KT} {out : Int32 × mb_T} (hK : mj_C (dd + 5) 0 0 RM_c "tell" bM_tell 6 K) (hR : mj_R bM_tell (some .int) (fun r2 S2 => r2 = some (.int out.1) ∧ S2 = mb_s out.2) K) {k0 : Int32 → mb_T → Option (Int32 × mb_T)} {y1 : Int32} {y2 : Int32} {y3 : Int32} (hk0 : ∀ (w4 : Int32) (s : mb_T), k0 w4 s = some out → K 0 0 83 [.ref 200, .int y1, .int y2, .int y3, .int w4, .retAddr 0] [] (mb_s s)) : ∀ (f : Nat) (w4 : Int32) (s : mb_T), f_M_tell_42 n k0 y1 y2 y3 f w4 s = some out → K 0 0 42 [.ref 200, .int y1, .int y2, .int y3, .int w4, .retAddr 0] [] (mb_s s) := by
  intro f
  induction f with
  | zero =>
    intro w4 s h
    cases h
  | succ f ih =>
    intro w4 s h
    rw [f_M_tell_42] at h
    refine ro_iload hK dM_tell_42 rfl ?_
    refine ro_iload_n hK dM_tell_44 rfl ?_
    refine ro_icmp_ge (tgt := 83) hK dM_tell_45 (by decide) (fun c_16 => ?_) (fun c_16 => ?_)
    · replace h := mb_ift c_16 h
      refine ro_fg (lv' := [.ref 200, .int y1, .int y2, .int y3, .int w4, .retAddr 0]) hK ⟨Or.inr rfl, ⟨Or.inr rfl, ⟨Or.inr rfl, ⟨Or.inr rfl, ⟨Or.inr rfl, ⟨Or.inl rfl, trivial⟩⟩⟩⟩⟩⟩ ?_
      exact hk0 _ _ h
    · replace h := mb_iff c_16 h
      refine ro_aload_n hK dM_tell_48 rfl ?_
      obtain ⟨r_19, s_17, q_18, h⟩ := mb_cl_e h
      refine rb_callV hK mM_isOver vM_206 (t_M_isOver (dd := dd + 2) q_18) rfl mb_oM rfl (Nat.le_of_ble_eq_true rfl) dM_tell_49 rfl ⟨Nat.le_refl _, Nat.le_refl _⟩ ?_
      show K 0 0 52 [.ref 200, .int y1, .int y2, .int y3, .int w4, .retAddr 0] [.int r_19] (mb_s s_17)
      refine ro_if_ne (tgt := 83) hK dM_tell_52 (by decide) (fun c_20 => ?_) (fun c_20 => ?_)
      · replace h := mb_iff c_20 h
        refine ro_fg (lv' := [.ref 200, .int y1, .int y2, .int y3, .int w4, .retAddr 0]) hK ⟨Or.inr rfl, ⟨Or.inr rfl, ⟨Or.inr rfl, ⟨Or.inr rfl, ⟨Or.inr rfl, ⟨Or.inl rfl, trivial⟩⟩⟩⟩⟩⟩ ?_
        exact hk0 _ _ h
      · replace h := mb_ift c_20 h
        refine ro_aload_n hK dM_tell_55 rfl ?_
        refine ro_iload_n hK dM_tell_56 rfl ?_
        obtain ⟨r_23, s_21, q_22, h⟩ := mb_cl_e h
        refine rb_callV hK mM_nextBy vM_210 (t_M_nextBy (dd := dd + 0) q_22) rfl mb_oM rfl (Nat.le_of_ble_eq_true rfl) dM_tell_57 rfl ⟨Nat.le_refl _, Nat.le_refl _⟩ ?_
        show K 0 0 60 [.ref 200, .int y1, .int y2, .int y3, .int w4, .retAddr 0] [.int r_23] (mb_s s_21)
        refine ro_istore hK dM_tell_60 (by decide) ?_
        show K 0 0 62 [.ref 200, .int y1, .int y2, .int y3, .int w4, .int r_23] [] (mb_s s_21)
        refine ro_aload_n hK dM_tell_62 rfl ?_
        refine rb_get hK fM_19 mb_oM rfl dM_tell_63 ?_
        refine ro_iload hK dM_tell_66 rfl ?_
        refine ro_iload hK dM_tell_68 rfl ?_
        obtain ⟨s_24, e_25, i_26, h⟩ := mb_wr_e h
        refine rb_iast hK ai_205 i_26 e_25 dM_tell_70 ?_
        refine ro_aload_n hK dM_tell_71 rfl ?_
        refine ro_iload hK dM_tell_72 rfl ?_
        obtain ⟨s_27, q_28, h⟩ := mb_cw_e h
        refine rb_callV hK mM_passMinute vM_202 (t_M_passMinute (dd := dd + 2) q_28) rfl mb_oM rfl (Nat.le_of_ble_eq_true rfl) dM_tell_74 rfl ⟨Nat.le_refl _, Nat.le_refl _⟩ ?_
        show K 0 0 77 [.ref 200, .int y1, .int y2, .int y3, .int w4, .int r_23] [] (mb_s s_27)
        refine ro_iincv (c := 1) hK (by decide) dM_tell_77 rfl (by decide) ?_
        show K 0 0 80 [.ref 200, .int y1, .int y2, .int y3, .int (w4 + 1), .int r_23] [] (mb_s s_27)
        refine ro_goto (tgt := 42) hK dM_tell_80 (by decide) ?_
        refine ro_fg (lv' := [.ref 200, .int y1, .int y2, .int y3, .int (w4 + 1), .retAddr 0]) hK ⟨Or.inr rfl, ⟨Or.inr rfl, ⟨Or.inr rfl, ⟨Or.inr rfl, ⟨Or.inr rfl, ⟨Or.inl rfl, trivial⟩⟩⟩⟩⟩⟩ ?_
        exact ih _ _ h
set_option maxHeartbeats 4000000 in
set_option maxRecDepth 100000 in
theorem tl_M_tell_98 {dd n : Nat} {K : mj_KT} {out : Int32 × mb_T} (hK : mj_C (dd + 5) 0 0 RM_c "tell" bM_tell 6 K) (hR : mj_R bM_tell (some .int) (fun r2 S2 => r2 = some (.int out.1) ∧ S2 = mb_s out.2) K) {k0 : Int32 → mb_T → Option (Int32 × mb_T)} {y3 : Int32} {y4 : Int32} (hk0 : ∀ (w5 : Int32) (s : mb_T), k0 w5 s = some out → K 0 0 125 [.ref 200, .retAddr 0, .retAddr 0, .int y3, .int y4, .int w5] [] (mb_s s)) : ∀ (f : Nat) (w5 : Int32) (s : mb_T), f_M_tell_98 n k0 y3 y4 f w5 s = some out → K 0 0 98 [.ref 200, .retAddr 0, .retAddr 0, .int y3, .int y4, .int w5] [] (mb_s s) := by
  intro f
  induction f with
  | zero =>
    intro w5 s h
    cases h
  | succ f ih =>
    intro w5 s h
    rw [f_M_tell_98] at h
    refine ro_iload hK dM_tell_98 rfl ?_
    refine ro_iload hK dM_tell_100 rfl ?_
    refine ro_icmp_ge (tgt := 125) hK dM_tell_102 (by decide) (fun c_36 => ?_) (fun c_36 => ?_)
    · replace h := mb_ift c_36 h
      refine ro_fg (lv' := [.ref 200, .retAddr 0, .retAddr 0, .int y3, .int y4, .int w5]) hK ⟨Or.inr rfl, ⟨Or.inl rfl, ⟨Or.inl rfl, ⟨Or.inr rfl, ⟨Or.inr rfl, ⟨Or.inr rfl, trivial⟩⟩⟩⟩⟩⟩ ?_
      exact hk0 _ _ h
    · replace h := mb_iff c_36 h
      refine ro_aload_n hK dM_tell_105 rfl ?_
      refine ro_iload_n hK dM_tell_106 rfl ?_
      refine ro_iload hK dM_tell_107 rfl ?_
      refine ro_aload_n hK dM_tell_109 rfl ?_
      refine rb_get hK fM_19 mb_oM rfl dM_tell_110 ?_
      refine ro_iload hK dM_tell_113 rfl ?_
      obtain ⟨x_37, e_38, i_39, h⟩ := mb_rd_e h
      refine rb_iald hK ai_205 i_39 e_38 dM_tell_115 ?_
      obtain ⟨s_40, q_41, h⟩ := mb_cw_e h
      refine rb_callV hK mM_setRow vM_107 (t_M_setRow (dd := dd + 3) q_41) rfl mb_oM rfl (Nat.le_of_ble_eq_true rfl) dM_tell_116 rfl ⟨Nat.le_refl _, Nat.le_refl _⟩ ?_
      show K 0 0 119 [.ref 200, .retAddr 0, .retAddr 0, .int y3, .int y4, .int w5] [] (mb_s s_40)
      refine ro_iincv (c := 1) hK (by decide) dM_tell_119 rfl (by decide) ?_
      show K 0 0 122 [.ref 200, .retAddr 0, .retAddr 0, .int y3, .int y4, .int (w5 + 1)] [] (mb_s s_40)
      refine ro_goto (tgt := 98) hK dM_tell_122 (by decide) ?_
      refine ro_fg (lv' := [.ref 200, .retAddr 0, .retAddr 0, .int y3, .int y4, .int (w5 + 1)]) hK ⟨Or.inr rfl, ⟨Or.inl rfl, ⟨Or.inl rfl, ⟨Or.inr rfl, ⟨Or.inr rfl, ⟨Or.inr rfl, trivial⟩⟩⟩⟩⟩⟩ ?_
      exact ih _ _ h
set_option maxHeartbeats 4000000 in
set_option maxRecDepth 100000 in
theorem t_M_tell {dd n : Nat} {x1 : Int32} {x2 : Int32} {x3 : Int32} {s : mb_T} {out : Int32 × mb_T}  (h : f_M_tell n x1 x2 x3 s = some out) : mb_MC (dd + 5) yM_tell bM_tell 6 (some .int) [.ref 200, .int x1, .int x2, .int x3] s (some (.int out.1)) out.2 := by
  unfold f_M_tell at h
  refine mj_mc (lv := [.ref 200, .int x1, .int x2, .int x3, .retAddr 0, .retAddr 0]) mM_tell rfl rfl (Nat.le_of_ble_eq_true rfl) (fun K hK hR => ?_)
  have hK : mj_C (dd + 5) 0 0 RM_c "tell" bM_tell 6 K := hK
  refine ro_iload_n hK dM_tell_0 rfl ?_
  refine ro_iconst (x := 0) hK (by decide) dM_tell_1 ?_
  refine ro_iconst (x := 3) hK (by decide) dM_tell_2 ?_
  obtain ⟨r_3, s_1, q_2, h⟩ := mb_cl_e h
  refine rb_callS hK mM_in vM_92 (t_M_in (dd := dd + 3) q_2) rfl (Nat.le_of_ble_eq_true rfl) dM_tell_3 rfl ⟨Nat.le_refl _, Nat.le_refl _⟩ ?_
  show K 0 0 6 [.ref 200, .int x1, .int x2, .int x3, .retAddr 0, .retAddr 0] [.int r_3] (mb_s s_1)
  refine ro_if_eq (tgt := 23) hK dM_tell_6 (by decide) (fun c_4 => ?_) (fun c_4 => ?_)
  · replace h := mb_ift c_4 h
    refine ro_iconst (x := (-1)) hK (by decide) dM_tell_23 ?_
    cases h
    exact hR.1 0 0 24 _ _ _ _ rfl rfl dM_tell_24 ⟨rfl, rfl⟩
  · replace h := mb_iff c_4 h
    refine ro_iload_n hK dM_tell_9 rfl ?_
    obtain ⟨r_7, s_5, q_6, h⟩ := mb_cl_e h
    refine rb_callS hK mM_isSpan vM_247 (t_M_isSpan (dd := dd + 2) q_6) rfl (Nat.le_of_ble_eq_true rfl) dM_tell_10 rfl ⟨Nat.le_refl _, Nat.le_refl _⟩ ?_
    show K 0 0 13 [.ref 200, .int x1, .int x2, .int x3, .retAddr 0, .retAddr 0] [.int r_7] (mb_s s_5)
    refine ro_if_eq (tgt := 23) hK dM_tell_13 (by decide) (fun c_8 => ?_) (fun c_8 => ?_)
    · replace h := mb_ift c_8 h
      refine ro_iconst (x := (-1)) hK (by decide) dM_tell_23 ?_
      cases h
      exact hR.1 0 0 24 _ _ _ _ rfl rfl dM_tell_24 ⟨rfl, rfl⟩
    · replace h := mb_iff c_8 h
      refine ro_iload_n hK dM_tell_16 rfl ?_
      obtain ⟨r_11, s_9, q_10, h⟩ := mb_cl_e h
      refine rb_callS hK mM_isRow vM_96 (t_M_isRow (dd := dd + 2) q_10) rfl (Nat.le_of_ble_eq_true rfl) dM_tell_17 rfl ⟨Nat.le_refl _, Nat.le_refl _⟩ ?_
      show K 0 0 20 [.ref 200, .int x1, .int x2, .int x3, .retAddr 0, .retAddr 0] [.int r_11] (mb_s s_9)
      refine ro_if_ne (tgt := 25) hK dM_tell_20 (by decide) (fun c_12 => ?_) (fun c_12 => ?_)
      · replace h := mb_iff c_12 h
        refine ro_aload_n hK dM_tell_25 rfl ?_
        refine rb_get hK fM_161 mb_oM rfl dM_tell_26 ?_
        refine ro_if_ne (tgt := 35) hK dM_tell_29 (by decide) (fun c_13 => ?_) (fun c_13 => ?_)
        · replace h := mb_iff c_13 h
          refine ro_aload_n hK dM_tell_35 rfl ?_
          obtain ⟨s_14, q_15, h⟩ := mb_cw_e h
          refine rb_callV hK mM_putAside vM_222 (t_M_putAside (dd := dd + 3) q_15) rfl mb_oM rfl (Nat.le_of_ble_eq_true rfl) dM_tell_36 rfl ⟨Nat.le_refl _, Nat.le_refl _⟩ ?_
          show K 0 0 39 [.ref 200, .int x1, .int x2, .int x3, .retAddr 0, .retAddr 0] [] (mb_s s_14)
          refine ro_iconst (x := 0) hK (by decide) dM_tell_39 ?_
          refine ro_istore hK dM_tell_40 (by decide) ?_
          show K 0 0 42 [.ref 200, .int x1, .int x2, .int x3, .int 0, .retAddr 0] [] (mb_s s_14)
          refine ro_fg (lv' := [.ref 200, .int x1, .int x2, .int x3, .int 0, .retAddr 0]) hK ⟨Or.inr rfl, ⟨Or.inr rfl, ⟨Or.inr rfl, ⟨Or.inr rfl, ⟨Or.inr rfl, ⟨Or.inl rfl, trivial⟩⟩⟩⟩⟩⟩ ?_
          refine tl_M_tell_42 (dd := dd) hK hR (fun x_29 s_30 h => ?_) n _ _ h
          refine ro_aload_n hK dM_tell_83 rfl ?_
          obtain ⟨s_31, q_32, h⟩ := mb_cw_e h
          refine rb_callV hK mM_comeBack vM_228 (t_M_comeBack (dd := dd + 3) q_32) rfl mb_oM rfl (Nat.le_of_ble_eq_true rfl) dM_tell_84 rfl ⟨Nat.le_refl _, Nat.le_refl _⟩ ?_
          show K 0 0 87 [.ref 200, .int x1, .int x2, .int x3, .int x_29, .retAddr 0] [] (mb_s s_31)
          refine ro_aload_n hK dM_tell_87 rfl ?_
          refine ro_iload_n hK dM_tell_88 rfl ?_
          refine ro_iload hK dM_tell_89 rfl ?_
          obtain ⟨r_35, s_33, q_34, h⟩ := mb_cl_e h
          refine rb_callV hK mM_row vM_272 (t_M_row (dd := dd + 1) q_34) rfl mb_oM rfl (Nat.le_of_ble_eq_true rfl) dM_tell_91 rfl ⟨Nat.le_refl _, Nat.le_refl _⟩ ?_
          show K 0 0 94 [.ref 200, .int x1, .int x2, .int x3, .int x_29, .retAddr 0] [.int r_35] (mb_s s_33)
          refine ro_pop hK dM_tell_94 rfl ?_
          refine ro_iconst (x := 0) hK (by decide) dM_tell_95 ?_
          refine ro_istore hK dM_tell_96 (by decide) ?_
          show K 0 0 98 [.ref 200, .int x1, .int x2, .int x3, .int x_29, .int 0] [] (mb_s s_33)
          refine ro_fg (lv' := [.ref 200, .retAddr 0, .retAddr 0, .int x3, .int x_29, .int 0]) hK ⟨Or.inr rfl, ⟨Or.inl rfl, ⟨Or.inl rfl, ⟨Or.inr rfl, ⟨Or.inr rfl, ⟨Or.inr rfl, trivial⟩⟩⟩⟩⟩⟩ ?_
          refine tl_M_tell_98 (dd := dd) hK hR (fun x_42 s_43 h => ?_) n _ _ h
          refine ro_iload hK dM_tell_125 rfl ?_
          cases h
          exact hR.1 0 0 127 _ _ _ _ rfl rfl dM_tell_127 ⟨rfl, rfl⟩
        · replace h := mb_ift c_13 h
          refine ro_bipush (x := (-4)) hK (by decide) dM_tell_32 ?_
          cases h
          exact hR.1 0 0 34 _ _ _ _ rfl rfl dM_tell_34 ⟨rfl, rfl⟩
      · replace h := mb_ift c_12 h
        refine ro_iconst (x := (-1)) hK (by decide) dM_tell_23 ?_
        cases h
        exact hR.1 0 0 24 _ _ _ _ rfl rfl dM_tell_24 ⟨rfl, rfl⟩
theorem dC_figuresThatFit_0 : decode bC_figuresThatFit 0 = .ok (.aload_n 0, 1) := by decide +kernel
theorem dC_figuresThatFit_1 : decode bC_figuresThatFit 1 = .ok (.iload_n 1, 1) := by decide +kernel
theorem dC_figuresThatFit_2 : decode bC_figuresThatFit 2 = .ok (.invokevirtual 131, 3) := by decide +kernel
theorem dC_figuresThatFit_5 : decode bC_figuresThatFit 5 = .ok (.ifCond .ne 5, 3) := by decide +kernel
theorem dC_figuresThatFit_8 : decode bC_figuresThatFit 8 = .ok (.iconst (-1), 1) := by decide +kernel
theorem dC_figuresThatFit_9 : decode bC_figuresThatFit 9 = .ok (.ireturn, 1) := by decide +kernel
theorem dC_figuresThatFit_10 : decode bC_figuresThatFit 10 = .ok (.aload_n 0, 1) := by decide +kernel
theorem dC_figuresThatFit_11 : decode bC_figuresThatFit 11 = .ok (.iload_n 2, 1) := by decide +kernel
theorem dC_figuresThatFit_12 : decode bC_figuresThatFit 12 = .ok (.invokevirtual 287, 3) := by decide +kernel
theorem dC_figuresThatFit_15 : decode bC_figuresThatFit 15 = .ok (.istore 4, 2) := by decide +kernel
theorem dC_figuresThatFit_17 : decode bC_figuresThatFit 17 = .ok (.iload 4, 2) := by decide +kernel
theorem dC_figuresThatFit_19 : decode bC_figuresThatFit 19 = .ok (.ifCond .eq 6, 3) := by decide +kernel
theorem dC_figuresThatFit_22 : decode bC_figuresThatFit 22 = .ok (.iload 4, 2) := by decide +kernel
theorem dC_figuresThatFit_24 : decode bC_figuresThatFit 24 = .ok (.ireturn, 1) := by decide +kernel
theorem dC_figuresThatFit_25 : decode bC_figuresThatFit 25 = .ok (.iconst 0, 1) := by decide +kernel
theorem dC_figuresThatFit_26 : decode bC_figuresThatFit 26 = .ok (.istore 5, 2) := by decide +kernel
theorem dC_figuresThatFit_28 : decode bC_figuresThatFit 28 = .ok (.iconst 0, 1) := by decide +kernel
theorem dC_figuresThatFit_29 : decode bC_figuresThatFit 29 = .ok (.istore 6, 2) := by decide +kernel
theorem dC_figuresThatFit_31 : decode bC_figuresThatFit 31 = .ok (.iload 6, 2) := by decide +kernel
theorem dC_figuresThatFit_33 : decode bC_figuresThatFit 33 = .ok (.bipush 10, 2) := by decide +kernel
theorem dC_figuresThatFit_35 : decode bC_figuresThatFit 35 = .ok (.if_icmp .ge 46, 3) := by decide +kernel
theorem dC_figuresThatFit_38 : decode bC_figuresThatFit 38 = .ok (.aload_n 0, 1) := by decide +kernel
theorem dC_figuresThatFit_39 : decode bC_figuresThatFit 39 = .ok (.getfield 50, 3) := by decide +kernel
theorem dC_figuresThatFit_42 : decode bC_figuresThatFit 42 = .ok (.aload_n 0, 1) := by decide +kernel
theorem dC_figuresThatFit_43 : decode bC_figuresThatFit 43 = .ok (.getfield 29, 3) := by decide +kernel
theorem dC_figuresThatFit_46 : decode bC_figuresThatFit 46 = .ok (.invokevirtual 144, 3) := by decide +kernel
theorem dC_figuresThatFit_49 : decode bC_figuresThatFit 49 = .ok (.aload_n 3, 1) := by decide +kernel
theorem dC_figuresThatFit_50 : decode bC_figuresThatFit 50 = .ok (.iload_n 1, 1) := by decide +kernel
theorem dC_figuresThatFit_51 : decode bC_figuresThatFit 51 = .ok (.iload 6, 2) := by decide +kernel
theorem dC_figuresThatFit_53 : decode bC_figuresThatFit 53 = .ok (.iastore, 1) := by decide +kernel
theorem dC_figuresThatFit_54 : decode bC_figuresThatFit 54 = .ok (.iload 5, 2) := by decide +kernel
theorem dC_figuresThatFit_56 : decode bC_figuresThatFit 56 = .ok (.aload_n 0, 1) := by decide +kernel
theorem dC_figuresThatFit_57 : decode bC_figuresThatFit 57 = .ok (.iload_n 2, 1) := by decide +kernel
theorem dC_figuresThatFit_58 : decode bC_figuresThatFit 58 = .ok (.invokevirtual 296, 3) := by decide +kernel
theorem dC_figuresThatFit_61 : decode bC_figuresThatFit 61 = .ok (.ifCond .eq 10, 3) := by decide +kernel
theorem dC_figuresThatFit_64 : decode bC_figuresThatFit 64 = .ok (.iconst 1, 1) := by decide +kernel
theorem dC_figuresThatFit_65 : decode bC_figuresThatFit 65 = .ok (.iload 6, 2) := by decide +kernel
theorem dC_figuresThatFit_67 : decode bC_figuresThatFit 67 = .ok (.ishl, 1) := by decide +kernel
theorem dC_figuresThatFit_68 : decode bC_figuresThatFit 68 = .ok (.goto 4, 3) := by decide +kernel
theorem dC_figuresThatFit_71 : decode bC_figuresThatFit 71 = .ok (.iconst 0, 1) := by decide +kernel
theorem dC_figuresThatFit_72 : decode bC_figuresThatFit 72 = .ok (.ior, 1) := by decide +kernel
theorem dC_figuresThatFit_73 : decode bC_figuresThatFit 73 = .ok (.istore 5, 2) := by decide +kernel
theorem dC_figuresThatFit_75 : decode bC_figuresThatFit 75 = .ok (.iinc 6 1, 3) := by decide +kernel
theorem dC_figuresThatFit_78 : decode bC_figuresThatFit 78 = .ok (.goto (-47), 3) := by decide +kernel
theorem dC_figuresThatFit_81 : decode bC_figuresThatFit 81 = .ok (.iload 5, 2) := by decide +kernel
theorem dC_figuresThatFit_83 : decode bC_figuresThatFit 83 = .ok (.ireturn, 1) := by decide +kernel
def f_C_figuresThatFit_31 (n : Nat) (k0 : Int32 → Int32 → mb_T → Option (Int32 × mb_T)) (y1 : Int32) (y2 : Int32) (y3 z3 : Nat) : Nat → Int32 → Int32 → mb_T → Option (Int32 × mb_T)
  | 0, _, _, _ => none
  | f + 1, w5, w6, s => if 10 ≤ w6 then k0 w5 w6 s else mb_cw (f_A_begin n 100 s) fun s_10 => mb_wr s_10 y3 z3 y1 w6 fun s_12 => mb_cl (f_C_allByLaw n y2 s_12) fun r_17 s_15 => f_C_figuresThatFit_31 n k0 y1 y2 y3 z3 f (w5 ||| (if r_17 = 0 then 0 else (1 <<< (w6 &&& 31)) : Int32)) (w6 + 1) s_15
def f_C_figuresThatFit (n : Nat) (x1 : Int32) (x2 : Int32) (a3 n3 : Nat) (s : mb_T) : Option (Int32 × mb_T) := mb_cl (f_C_isOne n x1 s) fun r_3 s_1 => if r_3 = 0 then some ((-1), s_1) else mb_cl (f_C_handingsRefusal n x2 s_1) fun r_7 s_5 => if r_7 = 0 then f_C_figuresThatFit_31 n (fun x_20 x_21 s_22 => some (x_20, s_22)) x1 x2 a3 n3 n 0 0 s_5 else some (r_7, s_5)
set_option maxHeartbeats 4000000 in
set_option maxRecDepth 100000 in
theorem tl_C_figuresThatFit_31 {dd n : Nat} {K : mj_KT} {out : Int32 × mb_T} (hK : mj_C (dd + 6) 0 0 RC_c "figuresThatFit" bC_figuresThatFit 7 K) (hR : mj_R bC_figuresThatFit (some .int) (fun r2 S2 => r2 = some (.int out.1) ∧ S2 = mb_s out.2) K) {k0 : Int32 → Int32 → mb_T → Option (Int32 × mb_T)} {y1 : Int32} {y2 : Int32} {y3 z3 : Nat} (hy3 : mb_ai y3 z3) (hk0 : ∀ (w5 : Int32) (w6 : Int32) (s : mb_T), k0 w5 w6 s = some out → K 0 0 81 [.ref 0, .int y1, .int y2, .ref y3, .retAddr 0, .int w5, .int w6] [] (mb_s s)) : ∀ (f : Nat) (w5 : Int32) (w6 : Int32) (s : mb_T), f_C_figuresThatFit_31 n k0 y1 y2 y3 z3 f w5 w6 s = some out → K 0 0 31 [.ref 0, .int y1, .int y2, .ref y3, .retAddr 0, .int w5, .int w6] [] (mb_s s) := by
  intro f
  induction f with
  | zero =>
    intro w5 w6 s h
    cases h
  | succ f ih =>
    intro w5 w6 s h
    rw [f_C_figuresThatFit_31] at h
    refine ro_iload hK dC_figuresThatFit_31 rfl ?_
    refine ro_bipush (x := 10) hK (by decide) dC_figuresThatFit_33 ?_
    refine ro_icmp_ge (tgt := 81) hK dC_figuresThatFit_35 (by decide) (fun c_9 => ?_) (fun c_9 => ?_)
    · replace h := mb_ift c_9 h
      refine ro_fg (lv' := [.ref 0, .int y1, .int y2, .ref y3, .retAddr 0, .int w5, .int w6]) hK ⟨Or.inr rfl, ⟨Or.inr rfl, ⟨Or.inr rfl, ⟨Or.inr rfl, ⟨Or.inl rfl, ⟨Or.inr rfl, ⟨Or.inr rfl, trivial⟩⟩⟩⟩⟩⟩⟩ ?_
      exact hk0 _ _ _ h
    · replace h := mb_iff c_9 h
      refine ro_aload_n hK dC_figuresThatFit_38 rfl ?_
      refine rb_get hK fC_50 mb_oC rfl dC_figuresThatFit_39 ?_
      refine ro_aload_n hK dC_figuresThatFit_42 rfl ?_
      refine rb_get hK fC_29 mb_oC rfl dC_figuresThatFit_43 ?_
      obtain ⟨s_10, q_11, h⟩ := mb_cw_e h
      refine rb_callV hK mA_begin vC_144 (t_A_begin (dd := dd + 2) (Or.inl rfl) q_11) rfl mb_oA rfl (Nat.le_of_ble_eq_true rfl) dC_figuresThatFit_46 rfl ⟨Nat.le_refl _, Nat.le_refl _⟩ ?_
      show K 0 0 49 [.ref 0, .int y1, .int y2, .ref y3, .retAddr 0, .int w5, .int w6] [] (mb_s s_10)
      refine ro_aload_n hK dC_figuresThatFit_49 rfl ?_
      refine ro_iload_n hK dC_figuresThatFit_50 rfl ?_
      refine ro_iload hK dC_figuresThatFit_51 rfl ?_
      obtain ⟨s_12, e_13, i_14, h⟩ := mb_wr_e h
      refine rb_iast hK hy3 i_14 e_13 dC_figuresThatFit_53 ?_
      refine ro_iload hK dC_figuresThatFit_54 rfl ?_
      refine ro_aload_n hK dC_figuresThatFit_56 rfl ?_
      refine ro_iload_n hK dC_figuresThatFit_57 rfl ?_
      obtain ⟨r_17, s_15, q_16, h⟩ := mb_cl_e h
      refine rb_callV hK mC_allByLaw vC_296 (t_C_allByLaw (dd := dd + 0) q_16) rfl mb_oC rfl (Nat.le_of_ble_eq_true rfl) dC_figuresThatFit_58 rfl ⟨Nat.le_refl _, Nat.le_refl _⟩ ?_
      show K 0 0 61 [.ref 0, .int y1, .int y2, .ref y3, .retAddr 0, .int w5, .int w6] [.int r_17, .int w5] (mb_s s_15)
      have j_19 : ∀ w_ : Int32, w_ = (if r_17 = 0 then 0 else (1 <<< (w6 &&& 31)) : Int32) → K 0 0 72 [.ref 0, .int y1, .int y2, .ref y3, .retAddr 0, .int w5, .int w6] [.int w_, .int w5] (mb_s s_15) → K 0 0 61 [.ref 0, .int y1, .int y2, .ref y3, .retAddr 0, .int w5, .int w6] [.int r_17, .int w5] (mb_s s_15) := by
        intro w_ hw hj
        refine ro_if_eq (tgt := 71) hK dC_figuresThatFit_61 (by decide) (fun c_18 => ?_) (fun c_18 => ?_)
        · skip
          refine ro_iconst (x := 0) hK (by decide) dC_figuresThatFit_71 ?_
          have hw := (hw.trans (if_pos c_18))
          subst hw
          exact hj
        · skip
          refine ro_iconst (x := 1) hK (by decide) dC_figuresThatFit_64 ?_
          refine ro_iload hK dC_figuresThatFit_65 rfl ?_
          refine ro_ishl hK dC_figuresThatFit_67 ?_
          refine ro_goto (tgt := 72) hK dC_figuresThatFit_68 (by decide) ?_
          have hw := (hw.trans (if_neg c_18))
          subst hw
          exact hj
      refine j_19 _ rfl ?_
      refine ro_ior hK dC_figuresThatFit_72 ?_
      refine ro_istore hK dC_figuresThatFit_73 (by decide) ?_
      show K 0 0 75 [.ref 0, .int y1, .int y2, .ref y3, .retAddr 0, .int (w5 ||| (if r_17 = 0 then 0 else (1 <<< (w6 &&& 31)) : Int32)), .int w6] [] (mb_s s_15)
      refine ro_iincv (c := 1) hK (by decide) dC_figuresThatFit_75 rfl (by decide) ?_
      show K 0 0 78 [.ref 0, .int y1, .int y2, .ref y3, .retAddr 0, .int (w5 ||| (if r_17 = 0 then 0 else (1 <<< (w6 &&& 31)) : Int32)), .int (w6 + 1)] [] (mb_s s_15)
      refine ro_goto (tgt := 31) hK dC_figuresThatFit_78 (by decide) ?_
      refine ro_fg (lv' := [.ref 0, .int y1, .int y2, .ref y3, .retAddr 0, .int (w5 ||| (if r_17 = 0 then 0 else (1 <<< (w6 &&& 31)) : Int32)), .int (w6 + 1)]) hK ⟨Or.inr rfl, ⟨Or.inr rfl, ⟨Or.inr rfl, ⟨Or.inr rfl, ⟨Or.inl rfl, ⟨Or.inr rfl, ⟨Or.inr rfl, trivial⟩⟩⟩⟩⟩⟩⟩ ?_
      exact ih _ _ _ h
set_option maxHeartbeats 4000000 in
set_option maxRecDepth 100000 in
theorem t_C_figuresThatFit {dd n : Nat} {x1 : Int32} {x2 : Int32} {a3 n3 : Nat} {s : mb_T} {out : Int32 × mb_T} (ha3 : mb_ai a3 n3) (h : f_C_figuresThatFit n x1 x2 a3 n3 s = some out) : mb_MC (dd + 6) yC_figuresThatFit bC_figuresThatFit 7 (some .int) [.ref 0, .int x1, .int x2, .ref a3] s (some (.int out.1)) out.2 := by
  unfold f_C_figuresThatFit at h
  refine mj_mc (lv := [.ref 0, .int x1, .int x2, .ref a3, .retAddr 0, .retAddr 0, .retAddr 0]) mC_figuresThatFit rfl rfl (Nat.le_of_ble_eq_true rfl) (fun K hK hR => ?_)
  have hK : mj_C (dd + 6) 0 0 RC_c "figuresThatFit" bC_figuresThatFit 7 K := hK
  refine ro_aload_n hK dC_figuresThatFit_0 rfl ?_
  refine ro_iload_n hK dC_figuresThatFit_1 rfl ?_
  obtain ⟨r_3, s_1, q_2, h⟩ := mb_cl_e h
  refine rb_callV hK mC_isOne vC_131 (t_C_isOne (dd := dd + 4) q_2) rfl mb_oC rfl (Nat.le_of_ble_eq_true rfl) dC_figuresThatFit_2 rfl ⟨Nat.le_refl _, Nat.le_refl _⟩ ?_
  show K 0 0 5 [.ref 0, .int x1, .int x2, .ref a3, .retAddr 0, .retAddr 0, .retAddr 0] [.int r_3] (mb_s s_1)
  refine ro_if_ne (tgt := 10) hK dC_figuresThatFit_5 (by decide) (fun c_4 => ?_) (fun c_4 => ?_)
  · replace h := mb_iff c_4 h
    refine ro_aload_n hK dC_figuresThatFit_10 rfl ?_
    refine ro_iload_n hK dC_figuresThatFit_11 rfl ?_
    obtain ⟨r_7, s_5, q_6, h⟩ := mb_cl_e h
    refine rb_callV hK mC_handingsRefusal vC_287 (t_C_handingsRefusal (dd := dd + 3) q_6) rfl mb_oC rfl (Nat.le_of_ble_eq_true rfl) dC_figuresThatFit_12 rfl ⟨Nat.le_refl _, Nat.le_refl _⟩ ?_
    show K 0 0 15 [.ref 0, .int x1, .int x2, .ref a3, .retAddr 0, .retAddr 0, .retAddr 0] [.int r_7] (mb_s s_5)
    refine ro_istore hK dC_figuresThatFit_15 (by decide) ?_
    show K 0 0 17 [.ref 0, .int x1, .int x2, .ref a3, .int r_7, .retAddr 0, .retAddr 0] [] (mb_s s_5)
    refine ro_iload hK dC_figuresThatFit_17 rfl ?_
    refine ro_if_eq (tgt := 25) hK dC_figuresThatFit_19 (by decide) (fun c_8 => ?_) (fun c_8 => ?_)
    · replace h := mb_ift c_8 h
      refine ro_iconst (x := 0) hK (by decide) dC_figuresThatFit_25 ?_
      refine ro_istore hK dC_figuresThatFit_26 (by decide) ?_
      show K 0 0 28 [.ref 0, .int x1, .int x2, .ref a3, .int r_7, .int 0, .retAddr 0] [] (mb_s s_5)
      refine ro_iconst (x := 0) hK (by decide) dC_figuresThatFit_28 ?_
      refine ro_istore hK dC_figuresThatFit_29 (by decide) ?_
      show K 0 0 31 [.ref 0, .int x1, .int x2, .ref a3, .int r_7, .int 0, .int 0] [] (mb_s s_5)
      refine ro_fg (lv' := [.ref 0, .int x1, .int x2, .ref a3, .retAddr 0, .int 0, .int 0]) hK ⟨Or.inr rfl, ⟨Or.inr rfl, ⟨Or.inr rfl, ⟨Or.inr rfl, ⟨Or.inl rfl, ⟨Or.inr rfl, ⟨Or.inr rfl, trivial⟩⟩⟩⟩⟩⟩⟩ ?_
      refine tl_C_figuresThatFit_31 (dd := dd) hK hR ha3 (fun x_20 x_21 s_22 h => ?_) n _ _ _ h
      refine ro_iload hK dC_figuresThatFit_81 rfl ?_
      cases h
      exact hR.1 0 0 83 _ _ _ _ rfl rfl dC_figuresThatFit_83 ⟨rfl, rfl⟩
    · replace h := mb_iff c_8 h
      refine ro_iload hK dC_figuresThatFit_22 rfl ?_
      cases h
      exact hR.1 0 0 24 _ _ _ _ rfl rfl dC_figuresThatFit_24 ⟨rfl, rfl⟩
  · replace h := mb_ift c_4 h
    refine ro_iconst (x := (-1)) hK (by decide) dC_figuresThatFit_8 ?_
    cases h
    exact hR.1 0 0 9 _ _ _ _ rfl rfl dC_figuresThatFit_9 ⟨rfl, rfl⟩
theorem dC_liars_0 : decode bC_liars 0 = .ok (.aload_n 0, 1) := by decide +kernel
theorem dC_liars_1 : decode bC_liars 1 = .ok (.iload_n 1, 1) := by decide +kernel
theorem dC_liars_2 : decode bC_liars 2 = .ok (.invokevirtual 287, 3) := by decide +kernel
theorem dC_liars_5 : decode bC_liars 5 = .ok (.istore_n 2, 1) := by decide +kernel
theorem dC_liars_6 : decode bC_liars 6 = .ok (.iload_n 2, 1) := by decide +kernel
theorem dC_liars_7 : decode bC_liars 7 = .ok (.ifCond .eq 5, 3) := by decide +kernel
theorem dC_liars_10 : decode bC_liars 10 = .ok (.iload_n 2, 1) := by decide +kernel
theorem dC_liars_11 : decode bC_liars 11 = .ok (.ireturn, 1) := by decide +kernel
theorem dC_liars_12 : decode bC_liars 12 = .ok (.aload_n 0, 1) := by decide +kernel
theorem dC_liars_13 : decode bC_liars 13 = .ok (.getfield 29, 3) := by decide +kernel
theorem dC_liars_16 : decode bC_liars 16 = .ok (.iconst 5, 1) := by decide +kernel
theorem dC_liars_17 : decode bC_liars 17 = .ok (.invokevirtual 290, 3) := by decide +kernel
theorem dC_liars_20 : decode bC_liars 20 = .ok (.istore_n 3, 1) := by decide +kernel
theorem dC_liars_21 : decode bC_liars 21 = .ok (.iconst 0, 1) := by decide +kernel
theorem dC_liars_22 : decode bC_liars 22 = .ok (.istore 4, 2) := by decide +kernel
theorem dC_liars_24 : decode bC_liars 24 = .ok (.bipush (-9), 2) := by decide +kernel
theorem dC_liars_26 : decode bC_liars 26 = .ok (.istore 5, 2) := by decide +kernel
theorem dC_liars_28 : decode bC_liars 28 = .ok (.iconst 0, 1) := by decide +kernel
theorem dC_liars_29 : decode bC_liars 29 = .ok (.istore 6, 2) := by decide +kernel
theorem dC_liars_31 : decode bC_liars 31 = .ok (.iload 6, 2) := by decide +kernel
theorem dC_liars_33 : decode bC_liars 33 = .ok (.iconst 1, 1) := by decide +kernel
theorem dC_liars_34 : decode bC_liars 34 = .ok (.aload_n 0, 1) := by decide +kernel
theorem dC_liars_35 : decode bC_liars 35 = .ok (.getfield 29, 3) := by decide +kernel
theorem dC_liars_38 : decode bC_liars 38 = .ok (.getfield 128, 3) := by decide +kernel
theorem dC_liars_41 : decode bC_liars 41 = .ok (.ishl, 1) := by decide +kernel
theorem dC_liars_42 : decode bC_liars 42 = .ok (.if_icmp .ge 61, 3) := by decide +kernel
theorem dC_liars_45 : decode bC_liars 45 = .ok (.aload_n 0, 1) := by decide +kernel
theorem dC_liars_46 : decode bC_liars 46 = .ok (.getfield 50, 3) := by decide +kernel
theorem dC_liars_49 : decode bC_liars 49 = .ok (.aload_n 0, 1) := by decide +kernel
theorem dC_liars_50 : decode bC_liars 50 = .ok (.getfield 29, 3) := by decide +kernel
theorem dC_liars_53 : decode bC_liars 53 = .ok (.invokevirtual 144, 3) := by decide +kernel
theorem dC_liars_56 : decode bC_liars 56 = .ok (.aload_n 0, 1) := by decide +kernel
theorem dC_liars_57 : decode bC_liars 57 = .ok (.getfield 50, 3) := by decide +kernel
theorem dC_liars_60 : decode bC_liars 60 = .ok (.iload 6, 2) := by decide +kernel
theorem dC_liars_62 : decode bC_liars 62 = .ok (.putfield 293, 3) := by decide +kernel
theorem dC_liars_65 : decode bC_liars 65 = .ok (.iload 6, 2) := by decide +kernel
theorem dC_liars_67 : decode bC_liars 67 = .ok (.iload_n 3, 1) := by decide +kernel
theorem dC_liars_68 : decode bC_liars 68 = .ok (.iand, 1) := by decide +kernel
theorem dC_liars_69 : decode bC_liars 69 = .ok (.ifCond .ne 28, 3) := by decide +kernel
theorem dC_liars_72 : decode bC_liars 72 = .ok (.aload_n 0, 1) := by decide +kernel
theorem dC_liars_73 : decode bC_liars 73 = .ok (.iload_n 1, 1) := by decide +kernel
theorem dC_liars_74 : decode bC_liars 74 = .ok (.invokevirtual 296, 3) := by decide +kernel
theorem dC_liars_77 : decode bC_liars 77 = .ok (.ifCond .eq 20, 3) := by decide +kernel
theorem dC_liars_80 : decode bC_liars 80 = .ok (.iload 4, 2) := by decide +kernel
theorem dC_liars_82 : decode bC_liars 82 = .ok (.ifCond .ne 8, 3) := by decide +kernel
theorem dC_liars_85 : decode bC_liars 85 = .ok (.iload 6, 2) := by decide +kernel
theorem dC_liars_87 : decode bC_liars 87 = .ok (.goto 5, 3) := by decide +kernel
theorem dC_liars_90 : decode bC_liars 90 = .ok (.iload 5, 2) := by decide +kernel
theorem dC_liars_92 : decode bC_liars 92 = .ok (.istore 5, 2) := by decide +kernel
theorem dC_liars_94 : decode bC_liars 94 = .ok (.iinc 4 1, 3) := by decide +kernel
theorem dC_liars_97 : decode bC_liars 97 = .ok (.iinc 6 1, 3) := by decide +kernel
theorem dC_liars_100 : decode bC_liars 100 = .ok (.goto (-69), 3) := by decide +kernel
theorem dC_liars_103 : decode bC_liars 103 = .ok (.aload_n 0, 1) := by decide +kernel
theorem dC_liars_104 : decode bC_liars 104 = .ok (.iload 5, 2) := by decide +kernel
theorem dC_liars_106 : decode bC_liars 106 = .ok (.putfield 74, 3) := by decide +kernel
theorem dC_liars_109 : decode bC_liars 109 = .ok (.iload 4, 2) := by decide +kernel
theorem dC_liars_111 : decode bC_liars 111 = .ok (.ireturn, 1) := by decide +kernel
def f_C_liars_31 (n : Nat) (k0 : Int32 → Int32 → Int32 → mb_T → Option (Int32 × mb_T)) (y1 : Int32) (y3 : Int32) : Nat → Int32 → Int32 → Int32 → mb_T → Option (Int32 × mb_T)
  | 0, _, _, _, _ => none
  | f + 1, w4, w5, w6, s => if (1 <<< ((s.1 100 0) &&& 31)) ≤ w6 then k0 w4 w5 w6 s else mb_cw (f_A_begin n 100 s) fun s_9 => mb_bd (sF s_9 40 6 w6) fun s_11 => if (w6 &&& y3) = 0 then (mb_cl (f_C_allByLaw n y1 s_11) fun r_16 s_14 => if r_16 = 0 then f_C_liars_31 n k0 y1 y3 f w4 w5 (w6 + 1) s_14 else f_C_liars_31 n k0 y1 y3 f (w4 + 1) (if w4 = 0 then w6 else w5 : Int32) (w6 + 1) s_14) else f_C_liars_31 n k0 y1 y3 f w4 w5 (w6 + 1) s_11
def f_C_liars (n : Nat) (x1 : Int32) (s : mb_T) : Option (Int32 × mb_T) := mb_cl (f_C_handingsRefusal n x1 s) fun r_3 s_1 => if r_3 = 0 then (mb_cl (f_V_bitsOfKind n 100 5 s_1) fun r_7 s_5 => f_C_liars_31 n (fun x_20 x_21 x_22 s_23 => mb_bd (sF s_23 0 14 x_21) fun s_24 => some (x_20, s_24)) x1 r_7 n 0 (-9) 0 s_5) else some (r_3, s_1)
set_option maxHeartbeats 4000000 in
set_option maxRecDepth 100000 in
theorem tl_C_liars_31 {dd n : Nat} {K : mj_KT} {out : Int32 × mb_T} (hK : mj_C (dd + 6) 0 0 RC_c "liars" bC_liars 7 K) (hR : mj_R bC_liars (some .int) (fun r2 S2 => r2 = some (.int out.1) ∧ S2 = mb_s out.2) K) {k0 : Int32 → Int32 → Int32 → mb_T → Option (Int32 × mb_T)} {y1 : Int32} {y3 : Int32} (hk0 : ∀ (w4 : Int32) (w5 : Int32) (w6 : Int32) (s : mb_T), k0 w4 w5 w6 s = some out → K 0 0 103 [.ref 0, .int y1, .retAddr 0, .int y3, .int w4, .int w5, .int w6] [] (mb_s s)) : ∀ (f : Nat) (w4 : Int32) (w5 : Int32) (w6 : Int32) (s : mb_T), f_C_liars_31 n k0 y1 y3 f w4 w5 w6 s = some out → K 0 0 31 [.ref 0, .int y1, .retAddr 0, .int y3, .int w4, .int w5, .int w6] [] (mb_s s) := by
  intro f
  induction f with
  | zero =>
    intro w4 w5 w6 s h
    cases h
  | succ f ih =>
    intro w4 w5 w6 s h
    rw [f_C_liars_31] at h
    refine ro_iload hK dC_liars_31 rfl ?_
    refine ro_iconst (x := 1) hK (by decide) dC_liars_33 ?_
    refine ro_aload_n hK dC_liars_34 rfl ?_
    refine rb_get hK fC_29 mb_oC rfl dC_liars_35 ?_
    refine rb_get hK fC_128 (mb_cvo (Or.inl rfl)) rfl dC_liars_38 ?_
    refine ro_ishl hK dC_liars_41 ?_
    refine ro_icmp_ge (tgt := 103) hK dC_liars_42 (by decide) (fun c_8 => ?_) (fun c_8 => ?_)
    · replace h := mb_ift c_8 h
      refine ro_fg (lv' := [.ref 0, .int y1, .retAddr 0, .int y3, .int w4, .int w5, .int w6]) hK ⟨Or.inr rfl, ⟨Or.inr rfl, ⟨Or.inl rfl, ⟨Or.inr rfl, ⟨Or.inr rfl, ⟨Or.inr rfl, ⟨Or.inr rfl, trivial⟩⟩⟩⟩⟩⟩⟩ ?_
      exact hk0 _ _ _ _ h
    · replace h := mb_iff c_8 h
      refine ro_aload_n hK dC_liars_45 rfl ?_
      refine rb_get hK fC_50 mb_oC rfl dC_liars_46 ?_
      refine ro_aload_n hK dC_liars_49 rfl ?_
      refine rb_get hK fC_29 mb_oC rfl dC_liars_50 ?_
      obtain ⟨s_9, q_10, h⟩ := mb_cw_e h
      refine rb_callV hK mA_begin vC_144 (t_A_begin (dd := dd + 2) (Or.inl rfl) q_10) rfl mb_oA rfl (Nat.le_of_ble_eq_true rfl) dC_liars_53 rfl ⟨Nat.le_refl _, Nat.le_refl _⟩ ?_
      show K 0 0 56 [.ref 0, .int y1, .retAddr 0, .int y3, .int w4, .int w5, .int w6] [] (mb_s s_9)
      refine ro_aload_n hK dC_liars_56 rfl ?_
      refine rb_get hK fC_50 mb_oC rfl dC_liars_57 ?_
      refine ro_iload hK dC_liars_60 rfl ?_
      obtain ⟨s_11, e_12, h⟩ := mb_bd_e h
      refine rb_put hK gC_293 mb_oA rfl (by show 6 < 17; decide) rfl rfl e_12 dC_liars_62 ?_
      refine ro_iload hK dC_liars_65 rfl ?_
      refine ro_iload_n hK dC_liars_67 rfl ?_
      refine ro_iand hK dC_liars_68 ?_
      refine ro_if_ne (tgt := 97) hK dC_liars_69 (by decide) (fun c_13 => ?_) (fun c_13 => ?_)
      · replace h := mb_iff c_13 h
        refine ro_iincv (c := 1) hK (by decide) dC_liars_97 rfl (by decide) ?_
        show K 0 0 100 [.ref 0, .int y1, .retAddr 0, .int y3, .int w4, .int w5, .int (w6 + 1)] [] (mb_s s_11)
        refine ro_goto (tgt := 31) hK dC_liars_100 (by decide) ?_
        refine ro_fg (lv' := [.ref 0, .int y1, .retAddr 0, .int y3, .int w4, .int w5, .int (w6 + 1)]) hK ⟨Or.inr rfl, ⟨Or.inr rfl, ⟨Or.inl rfl, ⟨Or.inr rfl, ⟨Or.inr rfl, ⟨Or.inr rfl, ⟨Or.inr rfl, trivial⟩⟩⟩⟩⟩⟩⟩ ?_
        exact ih _ _ _ _ h
      · replace h := mb_ift c_13 h
        refine ro_aload_n hK dC_liars_72 rfl ?_
        refine ro_iload_n hK dC_liars_73 rfl ?_
        obtain ⟨r_16, s_14, q_15, h⟩ := mb_cl_e h
        refine rb_callV hK mC_allByLaw vC_296 (t_C_allByLaw (dd := dd + 0) q_15) rfl mb_oC rfl (Nat.le_of_ble_eq_true rfl) dC_liars_74 rfl ⟨Nat.le_refl _, Nat.le_refl _⟩ ?_
        show K 0 0 77 [.ref 0, .int y1, .retAddr 0, .int y3, .int w4, .int w5, .int w6] [.int r_16] (mb_s s_14)
        refine ro_if_eq (tgt := 97) hK dC_liars_77 (by decide) (fun c_17 => ?_) (fun c_17 => ?_)
        · replace h := mb_ift c_17 h
          refine ro_iincv (c := 1) hK (by decide) dC_liars_97 rfl (by decide) ?_
          show K 0 0 100 [.ref 0, .int y1, .retAddr 0, .int y3, .int w4, .int w5, .int (w6 + 1)] [] (mb_s s_14)
          refine ro_goto (tgt := 31) hK dC_liars_100 (by decide) ?_
          refine ro_fg (lv' := [.ref 0, .int y1, .retAddr 0, .int y3, .int w4, .int w5, .int (w6 + 1)]) hK ⟨Or.inr rfl, ⟨Or.inr rfl, ⟨Or.inl rfl, ⟨Or.inr rfl, ⟨Or.inr rfl, ⟨Or.inr rfl, ⟨Or.inr rfl, trivial⟩⟩⟩⟩⟩⟩⟩ ?_
          exact ih _ _ _ _ h
        · replace h := mb_iff c_17 h
          refine ro_iload hK dC_liars_80 rfl ?_
          have j_19 : ∀ w_ : Int32, w_ = (if w4 = 0 then w6 else w5 : Int32) → K 0 0 92 [.ref 0, .int y1, .retAddr 0, .int y3, .int w4, .int w5, .int w6] [.int w_] (mb_s s_14) → K 0 0 82 [.ref 0, .int y1, .retAddr 0, .int y3, .int w4, .int w5, .int w6] [.int w4] (mb_s s_14) := by
            intro w_ hw hj
            refine ro_if_ne (tgt := 90) hK dC_liars_82 (by decide) (fun c_18 => ?_) (fun c_18 => ?_)
            · skip
              refine ro_iload hK dC_liars_90 rfl ?_
              have hw := (hw.trans (if_neg c_18))
              subst hw
              exact hj
            · skip
              refine ro_iload hK dC_liars_85 rfl ?_
              refine ro_goto (tgt := 92) hK dC_liars_87 (by decide) ?_
              have hw := (hw.trans (if_pos c_18))
              subst hw
              exact hj
          refine j_19 _ rfl ?_
          refine ro_istore hK dC_liars_92 (by decide) ?_
          show K 0 0 94 [.ref 0, .int y1, .retAddr 0, .int y3, .int w4, .int (if w4 = 0 then w6 else w5 : Int32), .int w6] [] (mb_s s_14)
          refine ro_iincv (c := 1) hK (by decide) dC_liars_94 rfl (by decide) ?_
          show K 0 0 97 [.ref 0, .int y1, .retAddr 0, .int y3, .int (w4 + 1), .int (if w4 = 0 then w6 else w5 : Int32), .int w6] [] (mb_s s_14)
          refine ro_iincv (c := 1) hK (by decide) dC_liars_97 rfl (by decide) ?_
          show K 0 0 100 [.ref 0, .int y1, .retAddr 0, .int y3, .int (w4 + 1), .int (if w4 = 0 then w6 else w5 : Int32), .int (w6 + 1)] [] (mb_s s_14)
          refine ro_goto (tgt := 31) hK dC_liars_100 (by decide) ?_
          refine ro_fg (lv' := [.ref 0, .int y1, .retAddr 0, .int y3, .int (w4 + 1), .int (if w4 = 0 then w6 else w5 : Int32), .int (w6 + 1)]) hK ⟨Or.inr rfl, ⟨Or.inr rfl, ⟨Or.inl rfl, ⟨Or.inr rfl, ⟨Or.inr rfl, ⟨Or.inr rfl, ⟨Or.inr rfl, trivial⟩⟩⟩⟩⟩⟩⟩ ?_
          exact ih _ _ _ _ h
set_option maxHeartbeats 4000000 in
set_option maxRecDepth 100000 in
theorem t_C_liars {dd n : Nat} {x1 : Int32} {s : mb_T} {out : Int32 × mb_T}  (h : f_C_liars n x1 s = some out) : mb_MC (dd + 6) yC_liars bC_liars 7 (some .int) [.ref 0, .int x1] s (some (.int out.1)) out.2 := by
  unfold f_C_liars at h
  refine mj_mc (lv := [.ref 0, .int x1, .retAddr 0, .retAddr 0, .retAddr 0, .retAddr 0, .retAddr 0]) mC_liars rfl rfl (Nat.le_of_ble_eq_true rfl) (fun K hK hR => ?_)
  have hK : mj_C (dd + 6) 0 0 RC_c "liars" bC_liars 7 K := hK
  refine ro_aload_n hK dC_liars_0 rfl ?_
  refine ro_iload_n hK dC_liars_1 rfl ?_
  obtain ⟨r_3, s_1, q_2, h⟩ := mb_cl_e h
  refine rb_callV hK mC_handingsRefusal vC_287 (t_C_handingsRefusal (dd := dd + 3) q_2) rfl mb_oC rfl (Nat.le_of_ble_eq_true rfl) dC_liars_2 rfl ⟨Nat.le_refl _, Nat.le_refl _⟩ ?_
  show K 0 0 5 [.ref 0, .int x1, .retAddr 0, .retAddr 0, .retAddr 0, .retAddr 0, .retAddr 0] [.int r_3] (mb_s s_1)
  refine ro_istore_n hK dC_liars_5 (by decide) ?_
  show K 0 0 6 [.ref 0, .int x1, .int r_3, .retAddr 0, .retAddr 0, .retAddr 0, .retAddr 0] [] (mb_s s_1)
  refine ro_iload_n hK dC_liars_6 rfl ?_
  refine ro_if_eq (tgt := 12) hK dC_liars_7 (by decide) (fun c_4 => ?_) (fun c_4 => ?_)
  · replace h := mb_ift c_4 h
    refine ro_aload_n hK dC_liars_12 rfl ?_
    refine rb_get hK fC_29 mb_oC rfl dC_liars_13 ?_
    refine ro_iconst (x := 5) hK (by decide) dC_liars_16 ?_
    obtain ⟨r_7, s_5, q_6, h⟩ := mb_cl_e h
    refine rb_callV hK mV_bitsOfKind vC_290 (t_V_bitsOfKind (dd := dd + 3) (Or.inl rfl) q_6) rfl (mb_cvo (Or.inl rfl)) rfl (Nat.le_of_ble_eq_true rfl) dC_liars_17 rfl ⟨Nat.le_refl _, Nat.le_refl _⟩ ?_
    show K 0 0 20 [.ref 0, .int x1, .int r_3, .retAddr 0, .retAddr 0, .retAddr 0, .retAddr 0] [.int r_7] (mb_s s_5)
    refine ro_istore_n hK dC_liars_20 (by decide) ?_
    show K 0 0 21 [.ref 0, .int x1, .int r_3, .int r_7, .retAddr 0, .retAddr 0, .retAddr 0] [] (mb_s s_5)
    refine ro_iconst (x := 0) hK (by decide) dC_liars_21 ?_
    refine ro_istore hK dC_liars_22 (by decide) ?_
    show K 0 0 24 [.ref 0, .int x1, .int r_3, .int r_7, .int 0, .retAddr 0, .retAddr 0] [] (mb_s s_5)
    refine ro_bipush (x := (-9)) hK (by decide) dC_liars_24 ?_
    refine ro_istore hK dC_liars_26 (by decide) ?_
    show K 0 0 28 [.ref 0, .int x1, .int r_3, .int r_7, .int 0, .int (-9), .retAddr 0] [] (mb_s s_5)
    refine ro_iconst (x := 0) hK (by decide) dC_liars_28 ?_
    refine ro_istore hK dC_liars_29 (by decide) ?_
    show K 0 0 31 [.ref 0, .int x1, .int r_3, .int r_7, .int 0, .int (-9), .int 0] [] (mb_s s_5)
    refine ro_fg (lv' := [.ref 0, .int x1, .retAddr 0, .int r_7, .int 0, .int (-9), .int 0]) hK ⟨Or.inr rfl, ⟨Or.inr rfl, ⟨Or.inl rfl, ⟨Or.inr rfl, ⟨Or.inr rfl, ⟨Or.inr rfl, ⟨Or.inr rfl, trivial⟩⟩⟩⟩⟩⟩⟩ ?_
    refine tl_C_liars_31 (dd := dd) hK hR (fun x_20 x_21 x_22 s_23 h => ?_) n _ _ _ _ h
    refine ro_aload_n hK dC_liars_103 rfl ?_
    refine ro_iload hK dC_liars_104 rfl ?_
    obtain ⟨s_24, e_25, h⟩ := mb_bd_e h
    refine rb_put hK gC_74 mb_oC rfl (by show 14 < 15; decide) rfl rfl e_25 dC_liars_106 ?_
    refine ro_iload hK dC_liars_109 rfl ?_
    cases h
    exact hR.1 0 0 111 _ _ _ _ rfl rfl dC_liars_111 ⟨rfl, rfl⟩
  · replace h := mb_iff c_4 h
    refine ro_iload_n hK dC_liars_10 rfl ?_
    cases h
    exact hR.1 0 0 11 _ _ _ _ rfl rfl dC_liars_11 ⟨rfl, rfl⟩
theorem dC_often_0 : decode bC_often 0 = .ok (.aload_n 0, 1) := by decide +kernel
theorem dC_often_1 : decode bC_often 1 = .ok (.iload_n 1, 1) := by decide +kernel
theorem dC_often_2 : decode bC_often 2 = .ok (.invokevirtual 131, 3) := by decide +kernel
theorem dC_often_5 : decode bC_often 5 = .ok (.ifCond .eq 10, 3) := by decide +kernel
theorem dC_often_8 : decode bC_often 8 = .ok (.iload_n 2, 1) := by decide +kernel
theorem dC_often_9 : decode bC_often 9 = .ok (.invokestatic 180, 3) := by decide +kernel
theorem dC_often_12 : decode bC_often 12 = .ok (.ifCond .ne 5, 3) := by decide +kernel
theorem dC_often_15 : decode bC_often 15 = .ok (.iconst (-1), 1) := by decide +kernel
theorem dC_often_16 : decode bC_often 16 = .ok (.ireturn, 1) := by decide +kernel
theorem dC_often_17 : decode bC_often 17 = .ok (.aload_n 0, 1) := by decide +kernel
theorem dC_often_18 : decode bC_often 18 = .ok (.getfield 50, 3) := by decide +kernel
theorem dC_often_21 : decode bC_often 21 = .ok (.aload_n 0, 1) := by decide +kernel
theorem dC_often_22 : decode bC_often 22 = .ok (.getfield 29, 3) := by decide +kernel
theorem dC_often_25 : decode bC_often 25 = .ok (.invokevirtual 144, 3) := by decide +kernel
theorem dC_often_28 : decode bC_often 28 = .ok (.aload_n 0, 1) := by decide +kernel
theorem dC_often_29 : decode bC_often 29 = .ok (.getfield 50, 3) := by decide +kernel
theorem dC_often_32 : decode bC_often 32 = .ok (.aload_n 0, 1) := by decide +kernel
theorem dC_often_33 : decode bC_often 33 = .ok (.getfield 29, 3) := by decide +kernel
theorem dC_often_36 : decode bC_often 36 = .ok (.getfield 171, 3) := by decide +kernel
theorem dC_often_39 : decode bC_often 39 = .ok (.iload_n 2, 1) := by decide +kernel
theorem dC_often_40 : decode bC_often 40 = .ok (.invokevirtual 244, 3) := by decide +kernel
theorem dC_often_43 : decode bC_often 43 = .ok (.istore_n 3, 1) := by decide +kernel
theorem dC_often_44 : decode bC_often 44 = .ok (.iconst 0, 1) := by decide +kernel
theorem dC_often_45 : decode bC_often 45 = .ok (.istore 4, 2) := by decide +kernel
theorem dC_often_47 : decode bC_often 47 = .ok (.iconst 0, 1) := by decide +kernel
theorem dC_often_48 : decode bC_often 48 = .ok (.istore 5, 2) := by decide +kernel
theorem dC_often_50 : decode bC_often 50 = .ok (.iload 5, 2) := by decide +kernel
theorem dC_often_52 : decode bC_often 52 = .ok (.iload_n 3, 1) := by decide +kernel
theorem dC_often_53 : decode bC_often 53 = .ok (.if_icmp .ge 33, 3) := by decide +kernel
theorem dC_often_56 : decode bC_often 56 = .ok (.iload 4, 2) := by decide +kernel
theorem dC_often_58 : decode bC_often 58 = .ok (.aload_n 0, 1) := by decide +kernel
theorem dC_often_59 : decode bC_often 59 = .ok (.getfield 50, 3) := by decide +kernel
theorem dC_often_62 : decode bC_often 62 = .ok (.getfield 250, 3) := by decide +kernel
theorem dC_often_65 : decode bC_often 65 = .ok (.iload 5, 2) := by decide +kernel
theorem dC_often_67 : decode bC_often 67 = .ok (.iaload, 1) := by decide +kernel
theorem dC_often_68 : decode bC_often 68 = .ok (.iload_n 1, 1) := by decide +kernel
theorem dC_often_69 : decode bC_often 69 = .ok (.if_icmp .ne 7, 3) := by decide +kernel
theorem dC_often_72 : decode bC_often 72 = .ok (.iconst 1, 1) := by decide +kernel
theorem dC_often_73 : decode bC_often 73 = .ok (.goto 4, 3) := by decide +kernel
theorem dC_often_76 : decode bC_often 76 = .ok (.iconst 0, 1) := by decide +kernel
theorem dC_often_77 : decode bC_often 77 = .ok (.iadd, 1) := by decide +kernel
theorem dC_often_78 : decode bC_often 78 = .ok (.istore 4, 2) := by decide +kernel
theorem dC_often_80 : decode bC_often 80 = .ok (.iinc 5 1, 3) := by decide +kernel
theorem dC_often_83 : decode bC_often 83 = .ok (.goto (-33), 3) := by decide +kernel
theorem dC_often_86 : decode bC_often 86 = .ok (.iload 4, 2) := by decide +kernel
theorem dC_often_88 : decode bC_often 88 = .ok (.ireturn, 1) := by decide +kernel
def f_C_often_50 (n : Nat) (k0 : Int32 → Int32 → mb_T → Option (Int32 × mb_T)) (y1 : Int32) (y3 : Int32) : Nat → Int32 → Int32 → mb_T → Option (Int32 × mb_T)
  | 0, _, _, _ => none
  | f + 1, w4, w5, s => if y3 ≤ w5 then k0 w4 w5 s else mb_rd s 55 100 w5 fun x_15 => f_C_often_50 n k0 y1 y3 f (w4 + (if x_15 = y1 then 1 else 0 : Int32)) (w5 + 1) s
def f_C_often (n : Nat) (x1 : Int32) (x2 : Int32) (s : mb_T) : Option (Int32 × mb_T) := mb_cl (f_C_isOne n x1 s) fun r_3 s_1 => if r_3 = 0 then some ((-1), s_1) else mb_cl (f_C_isSpan n x2 s_1) fun r_7 s_5 => if r_7 = 0 then some ((-1), s_5) else mb_cw (f_A_begin n 100 s_5) fun s_9 => mb_cl (f_A_goOn n (s_9.1 100 2) x2 s_9) fun r_13 s_11 => f_C_often_50 n (fun x_20 x_21 s_22 => some (x_20, s_22)) x1 r_13 n 0 0 s_11
set_option maxHeartbeats 4000000 in
set_option maxRecDepth 100000 in
theorem tl_C_often_50 {dd n : Nat} {K : mj_KT} {out : Int32 × mb_T} (hK : mj_C (dd + 6) 0 0 RC_c "often" bC_often 6 K) (hR : mj_R bC_often (some .int) (fun r2 S2 => r2 = some (.int out.1) ∧ S2 = mb_s out.2) K) {k0 : Int32 → Int32 → mb_T → Option (Int32 × mb_T)} {y1 : Int32} {y3 : Int32} (hk0 : ∀ (w4 : Int32) (w5 : Int32) (s : mb_T), k0 w4 w5 s = some out → K 0 0 86 [.ref 0, .int y1, .retAddr 0, .int y3, .int w4, .int w5] [] (mb_s s)) : ∀ (f : Nat) (w4 : Int32) (w5 : Int32) (s : mb_T), f_C_often_50 n k0 y1 y3 f w4 w5 s = some out → K 0 0 50 [.ref 0, .int y1, .retAddr 0, .int y3, .int w4, .int w5] [] (mb_s s) := by
  intro f
  induction f with
  | zero =>
    intro w4 w5 s h
    cases h
  | succ f ih =>
    intro w4 w5 s h
    rw [f_C_often_50] at h
    refine ro_iload hK dC_often_50 rfl ?_
    refine ro_iload_n hK dC_often_52 rfl ?_
    refine ro_icmp_ge (tgt := 86) hK dC_often_53 (by decide) (fun c_14 => ?_) (fun c_14 => ?_)
    · replace h := mb_ift c_14 h
      refine ro_fg (lv' := [.ref 0, .int y1, .retAddr 0, .int y3, .int w4, .int w5]) hK ⟨Or.inr rfl, ⟨Or.inr rfl, ⟨Or.inl rfl, ⟨Or.inr rfl, ⟨Or.inr rfl, ⟨Or.inr rfl, trivial⟩⟩⟩⟩⟩⟩ ?_
      exact hk0 _ _ _ h
    · replace h := mb_iff c_14 h
      refine ro_iload hK dC_often_56 rfl ?_
      refine ro_aload_n hK dC_often_58 rfl ?_
      refine rb_get hK fC_50 mb_oC rfl dC_often_59 ?_
      refine rb_get hK fC_250 mb_oA rfl dC_often_62 ?_
      refine ro_iload hK dC_often_65 rfl ?_
      obtain ⟨x_15, e_16, i_17, h⟩ := mb_rd_e h
      refine rb_iald hK ai_55 i_17 e_16 dC_often_67 ?_
      refine ro_iload_n hK dC_often_68 rfl ?_
      have j_19 : ∀ w_ : Int32, w_ = (if x_15 = y1 then 1 else 0 : Int32) → K 0 0 77 [.ref 0, .int y1, .retAddr 0, .int y3, .int w4, .int w5] [.int w_, .int w4] (mb_s s) → K 0 0 69 [.ref 0, .int y1, .retAddr 0, .int y3, .int w4, .int w5] [.int y1, .int x_15, .int w4] (mb_s s) := by
        intro w_ hw hj
        refine ro_icmp_ne (tgt := 76) hK dC_often_69 (by decide) (fun c_18 => ?_) (fun c_18 => ?_)
        · skip
          refine ro_iconst (x := 0) hK (by decide) dC_often_76 ?_
          have hw := (hw.trans (if_neg c_18))
          subst hw
          exact hj
        · skip
          refine ro_iconst (x := 1) hK (by decide) dC_often_72 ?_
          refine ro_goto (tgt := 77) hK dC_often_73 (by decide) ?_
          have hw := (hw.trans (if_pos c_18))
          subst hw
          exact hj
      refine j_19 _ rfl ?_
      refine ro_iadd hK dC_often_77 ?_
      refine ro_istore hK dC_often_78 (by decide) ?_
      show K 0 0 80 [.ref 0, .int y1, .retAddr 0, .int y3, .int (w4 + (if x_15 = y1 then 1 else 0 : Int32)), .int w5] [] (mb_s s)
      refine ro_iincv (c := 1) hK (by decide) dC_often_80 rfl (by decide) ?_
      show K 0 0 83 [.ref 0, .int y1, .retAddr 0, .int y3, .int (w4 + (if x_15 = y1 then 1 else 0 : Int32)), .int (w5 + 1)] [] (mb_s s)
      refine ro_goto (tgt := 50) hK dC_often_83 (by decide) ?_
      refine ro_fg (lv' := [.ref 0, .int y1, .retAddr 0, .int y3, .int (w4 + (if x_15 = y1 then 1 else 0 : Int32)), .int (w5 + 1)]) hK ⟨Or.inr rfl, ⟨Or.inr rfl, ⟨Or.inl rfl, ⟨Or.inr rfl, ⟨Or.inr rfl, ⟨Or.inr rfl, trivial⟩⟩⟩⟩⟩⟩ ?_
      exact ih _ _ _ h
set_option maxHeartbeats 4000000 in
set_option maxRecDepth 100000 in
theorem t_C_often {dd n : Nat} {x1 : Int32} {x2 : Int32} {s : mb_T} {out : Int32 × mb_T}  (h : f_C_often n x1 x2 s = some out) : mb_MC (dd + 6) yC_often bC_often 6 (some .int) [.ref 0, .int x1, .int x2] s (some (.int out.1)) out.2 := by
  unfold f_C_often at h
  refine mj_mc (lv := [.ref 0, .int x1, .int x2, .retAddr 0, .retAddr 0, .retAddr 0]) mC_often rfl rfl (Nat.le_of_ble_eq_true rfl) (fun K hK hR => ?_)
  have hK : mj_C (dd + 6) 0 0 RC_c "often" bC_often 6 K := hK
  refine ro_aload_n hK dC_often_0 rfl ?_
  refine ro_iload_n hK dC_often_1 rfl ?_
  obtain ⟨r_3, s_1, q_2, h⟩ := mb_cl_e h
  refine rb_callV hK mC_isOne vC_131 (t_C_isOne (dd := dd + 4) q_2) rfl mb_oC rfl (Nat.le_of_ble_eq_true rfl) dC_often_2 rfl ⟨Nat.le_refl _, Nat.le_refl _⟩ ?_
  show K 0 0 5 [.ref 0, .int x1, .int x2, .retAddr 0, .retAddr 0, .retAddr 0] [.int r_3] (mb_s s_1)
  refine ro_if_eq (tgt := 15) hK dC_often_5 (by decide) (fun c_4 => ?_) (fun c_4 => ?_)
  · replace h := mb_ift c_4 h
    refine ro_iconst (x := (-1)) hK (by decide) dC_often_15 ?_
    cases h
    exact hR.1 0 0 16 _ _ _ _ rfl rfl dC_often_16 ⟨rfl, rfl⟩
  · replace h := mb_iff c_4 h
    refine ro_iload_n hK dC_often_8 rfl ?_
    obtain ⟨r_7, s_5, q_6, h⟩ := mb_cl_e h
    refine rb_callS hK mC_isSpan vC_180 (t_C_isSpan (dd := dd + 4) q_6) rfl (Nat.le_of_ble_eq_true rfl) dC_often_9 rfl ⟨Nat.le_refl _, Nat.le_refl _⟩ ?_
    show K 0 0 12 [.ref 0, .int x1, .int x2, .retAddr 0, .retAddr 0, .retAddr 0] [.int r_7] (mb_s s_5)
    refine ro_if_ne (tgt := 17) hK dC_often_12 (by decide) (fun c_8 => ?_) (fun c_8 => ?_)
    · replace h := mb_iff c_8 h
      refine ro_aload_n hK dC_often_17 rfl ?_
      refine rb_get hK fC_50 mb_oC rfl dC_often_18 ?_
      refine ro_aload_n hK dC_often_21 rfl ?_
      refine rb_get hK fC_29 mb_oC rfl dC_often_22 ?_
      obtain ⟨s_9, q_10, h⟩ := mb_cw_e h
      refine rb_callV hK mA_begin vC_144 (t_A_begin (dd := dd + 2) (Or.inl rfl) q_10) rfl mb_oA rfl (Nat.le_of_ble_eq_true rfl) dC_often_25 rfl ⟨Nat.le_refl _, Nat.le_refl _⟩ ?_
      show K 0 0 28 [.ref 0, .int x1, .int x2, .retAddr 0, .retAddr 0, .retAddr 0] [] (mb_s s_9)
      refine ro_aload_n hK dC_often_28 rfl ?_
      refine rb_get hK fC_50 mb_oC rfl dC_often_29 ?_
      refine ro_aload_n hK dC_often_32 rfl ?_
      refine rb_get hK fC_29 mb_oC rfl dC_often_33 ?_
      refine rb_get hK fC_171 (mb_cvo (Or.inl rfl)) rfl dC_often_36 ?_
      refine ro_iload_n hK dC_often_39 rfl ?_
      obtain ⟨r_13, s_11, q_12, h⟩ := mb_cl_e h
      refine rb_callV hK mA_goOn vC_244 (t_A_goOn (dd := dd + 0) q_12) rfl mb_oA rfl (Nat.le_of_ble_eq_true rfl) dC_often_40 rfl ⟨Nat.le_refl _, Nat.le_refl _⟩ ?_
      show K 0 0 43 [.ref 0, .int x1, .int x2, .retAddr 0, .retAddr 0, .retAddr 0] [.int r_13] (mb_s s_11)
      refine ro_istore_n hK dC_often_43 (by decide) ?_
      show K 0 0 44 [.ref 0, .int x1, .int x2, .int r_13, .retAddr 0, .retAddr 0] [] (mb_s s_11)
      refine ro_iconst (x := 0) hK (by decide) dC_often_44 ?_
      refine ro_istore hK dC_often_45 (by decide) ?_
      show K 0 0 47 [.ref 0, .int x1, .int x2, .int r_13, .int 0, .retAddr 0] [] (mb_s s_11)
      refine ro_iconst (x := 0) hK (by decide) dC_often_47 ?_
      refine ro_istore hK dC_often_48 (by decide) ?_
      show K 0 0 50 [.ref 0, .int x1, .int x2, .int r_13, .int 0, .int 0] [] (mb_s s_11)
      refine ro_fg (lv' := [.ref 0, .int x1, .retAddr 0, .int r_13, .int 0, .int 0]) hK ⟨Or.inr rfl, ⟨Or.inr rfl, ⟨Or.inl rfl, ⟨Or.inr rfl, ⟨Or.inr rfl, ⟨Or.inr rfl, trivial⟩⟩⟩⟩⟩⟩ ?_
      refine tl_C_often_50 (dd := dd) hK hR (fun x_20 x_21 s_22 h => ?_) n _ _ _ h
      refine ro_iload hK dC_often_86 rfl ?_
      cases h
      exact hR.1 0 0 88 _ _ _ _ rfl rfl dC_often_88 ⟨rfl, rfl⟩
    · replace h := mb_ift c_8 h
      refine ro_iconst (x := (-1)) hK (by decide) dC_often_15 ?_
      cases h
      exact hR.1 0 0 16 _ _ _ _ rfl rfl dC_often_16 ⟨rfl, rfl⟩
theorem dC_tell_0 : decode bC_tell 0 = .ok (.iload_n 1, 1) := by decide +kernel
theorem dC_tell_1 : decode bC_tell 1 = .ok (.invokestatic 168, 3) := by decide +kernel
theorem dC_tell_4 : decode bC_tell 4 = .ok (.ifCond .eq 17, 3) := by decide +kernel
theorem dC_tell_7 : decode bC_tell 7 = .ok (.iload_n 2, 1) := by decide +kernel
theorem dC_tell_8 : decode bC_tell 8 = .ok (.invokestatic 180, 3) := by decide +kernel
theorem dC_tell_11 : decode bC_tell 11 = .ok (.ifCond .eq 10, 3) := by decide +kernel
theorem dC_tell_14 : decode bC_tell 14 = .ok (.iload_n 3, 1) := by decide +kernel
theorem dC_tell_15 : decode bC_tell 15 = .ok (.invokestatic 83, 3) := by decide +kernel
theorem dC_tell_18 : decode bC_tell 18 = .ok (.ifCond .ne 5, 3) := by decide +kernel
theorem dC_tell_21 : decode bC_tell 21 = .ok (.iconst (-1), 1) := by decide +kernel
theorem dC_tell_22 : decode bC_tell 22 = .ok (.ireturn, 1) := by decide +kernel
theorem dC_tell_23 : decode bC_tell 23 = .ok (.aload_n 0, 1) := by decide +kernel
theorem dC_tell_24 : decode bC_tell 24 = .ok (.getfield 29, 3) := by decide +kernel
theorem dC_tell_27 : decode bC_tell 27 = .ok (.getfield 128, 3) := by decide +kernel
theorem dC_tell_30 : decode bC_tell 30 = .ok (.ifCond .ne 6, 3) := by decide +kernel
theorem dC_tell_33 : decode bC_tell 33 = .ok (.bipush (-4), 2) := by decide +kernel
theorem dC_tell_35 : decode bC_tell 35 = .ok (.ireturn, 1) := by decide +kernel
theorem dC_tell_36 : decode bC_tell 36 = .ok (.aload_n 0, 1) := by decide +kernel
theorem dC_tell_37 : decode bC_tell 37 = .ok (.getfield 50, 3) := by decide +kernel
theorem dC_tell_40 : decode bC_tell 40 = .ok (.aload_n 0, 1) := by decide +kernel
theorem dC_tell_41 : decode bC_tell 41 = .ok (.getfield 29, 3) := by decide +kernel
theorem dC_tell_44 : decode bC_tell 44 = .ok (.invokevirtual 144, 3) := by decide +kernel
theorem dC_tell_47 : decode bC_tell 47 = .ok (.aload_n 0, 1) := by decide +kernel
theorem dC_tell_48 : decode bC_tell 48 = .ok (.getfield 50, 3) := by decide +kernel
theorem dC_tell_51 : decode bC_tell 51 = .ok (.iload_n 1, 1) := by decide +kernel
theorem dC_tell_52 : decode bC_tell 52 = .ok (.iload_n 2, 1) := by decide +kernel
theorem dC_tell_53 : decode bC_tell 53 = .ok (.invokevirtual 244, 3) := by decide +kernel
theorem dC_tell_56 : decode bC_tell 56 = .ok (.istore 4, 2) := by decide +kernel
theorem dC_tell_58 : decode bC_tell 58 = .ok (.aload_n 0, 1) := by decide +kernel
theorem dC_tell_59 : decode bC_tell 59 = .ok (.iload_n 3, 1) := by decide +kernel
theorem dC_tell_60 : decode bC_tell 60 = .ok (.aload_n 0, 1) := by decide +kernel
theorem dC_tell_61 : decode bC_tell 61 = .ok (.getfield 50, 3) := by decide +kernel
theorem dC_tell_64 : decode bC_tell 64 = .ok (.getfield 250, 3) := by decide +kernel
theorem dC_tell_67 : decode bC_tell 67 = .ok (.iload 4, 2) := by decide +kernel
theorem dC_tell_69 : decode bC_tell 69 = .ok (.invokevirtual 262, 3) := by decide +kernel
theorem dC_tell_72 : decode bC_tell 72 = .ok (.iload 4, 2) := by decide +kernel
theorem dC_tell_74 : decode bC_tell 74 = .ok (.ireturn, 1) := by decide +kernel
def f_C_tell (n : Nat) (x1 : Int32) (x2 : Int32) (x3 : Int32) (s : mb_T) : Option (Int32 × mb_T) := mb_cl (f_C_isLaw n x1 s) fun r_3 s_1 => if r_3 = 0 then some ((-1), s_1) else mb_cl (f_C_isSpan n x2 s_1) fun r_7 s_5 => if r_7 = 0 then some ((-1), s_5) else mb_cl (f_C_isRow n x3 s_5) fun r_11 s_9 => if r_11 = 0 then some ((-1), s_9) else if (s_9.1 100 0) = 0 then some ((-4), s_9) else mb_cw (f_A_begin n 100 s_9) fun s_14 => mb_cl (f_A_goOn n x1 x2 s_14) fun r_18 s_16 => mb_cw (f_C_fillRow n x3 55 100 r_18 s_16) fun s_19 => some (r_18, s_19)
set_option maxHeartbeats 4000000 in
set_option maxRecDepth 100000 in
theorem t_C_tell {dd n : Nat} {x1 : Int32} {x2 : Int32} {x3 : Int32} {s : mb_T} {out : Int32 × mb_T}  (h : f_C_tell n x1 x2 x3 s = some out) : mb_MC (dd + 6) yC_tell bC_tell 5 (some .int) [.ref 0, .int x1, .int x2, .int x3] s (some (.int out.1)) out.2 := by
  unfold f_C_tell at h
  refine mj_mc (lv := [.ref 0, .int x1, .int x2, .int x3, .retAddr 0]) mC_tell rfl rfl (Nat.le_of_ble_eq_true rfl) (fun K hK hR => ?_)
  have hK : mj_C (dd + 6) 0 0 RC_c "tell" bC_tell 5 K := hK
  refine ro_iload_n hK dC_tell_0 rfl ?_
  obtain ⟨r_3, s_1, q_2, h⟩ := mb_cl_e h
  refine rb_callS hK mC_isLaw vC_168 (t_C_isLaw (dd := dd + 4) q_2) rfl (Nat.le_of_ble_eq_true rfl) dC_tell_1 rfl ⟨Nat.le_refl _, Nat.le_refl _⟩ ?_
  show K 0 0 4 [.ref 0, .int x1, .int x2, .int x3, .retAddr 0] [.int r_3] (mb_s s_1)
  refine ro_if_eq (tgt := 21) hK dC_tell_4 (by decide) (fun c_4 => ?_) (fun c_4 => ?_)
  · replace h := mb_ift c_4 h
    refine ro_iconst (x := (-1)) hK (by decide) dC_tell_21 ?_
    cases h
    exact hR.1 0 0 22 _ _ _ _ rfl rfl dC_tell_22 ⟨rfl, rfl⟩
  · replace h := mb_iff c_4 h
    refine ro_iload_n hK dC_tell_7 rfl ?_
    obtain ⟨r_7, s_5, q_6, h⟩ := mb_cl_e h
    refine rb_callS hK mC_isSpan vC_180 (t_C_isSpan (dd := dd + 4) q_6) rfl (Nat.le_of_ble_eq_true rfl) dC_tell_8 rfl ⟨Nat.le_refl _, Nat.le_refl _⟩ ?_
    show K 0 0 11 [.ref 0, .int x1, .int x2, .int x3, .retAddr 0] [.int r_7] (mb_s s_5)
    refine ro_if_eq (tgt := 21) hK dC_tell_11 (by decide) (fun c_8 => ?_) (fun c_8 => ?_)
    · replace h := mb_ift c_8 h
      refine ro_iconst (x := (-1)) hK (by decide) dC_tell_21 ?_
      cases h
      exact hR.1 0 0 22 _ _ _ _ rfl rfl dC_tell_22 ⟨rfl, rfl⟩
    · replace h := mb_iff c_8 h
      refine ro_iload_n hK dC_tell_14 rfl ?_
      obtain ⟨r_11, s_9, q_10, h⟩ := mb_cl_e h
      refine rb_callS hK mC_isRow vC_83 (t_C_isRow (dd := dd + 4) q_10) rfl (Nat.le_of_ble_eq_true rfl) dC_tell_15 rfl ⟨Nat.le_refl _, Nat.le_refl _⟩ ?_
      show K 0 0 18 [.ref 0, .int x1, .int x2, .int x3, .retAddr 0] [.int r_11] (mb_s s_9)
      refine ro_if_ne (tgt := 23) hK dC_tell_18 (by decide) (fun c_12 => ?_) (fun c_12 => ?_)
      · replace h := mb_iff c_12 h
        refine ro_aload_n hK dC_tell_23 rfl ?_
        refine rb_get hK fC_29 mb_oC rfl dC_tell_24 ?_
        refine rb_get hK fC_128 (mb_cvo (Or.inl rfl)) rfl dC_tell_27 ?_
        refine ro_if_ne (tgt := 36) hK dC_tell_30 (by decide) (fun c_13 => ?_) (fun c_13 => ?_)
        · replace h := mb_iff c_13 h
          refine ro_aload_n hK dC_tell_36 rfl ?_
          refine rb_get hK fC_50 mb_oC rfl dC_tell_37 ?_
          refine ro_aload_n hK dC_tell_40 rfl ?_
          refine rb_get hK fC_29 mb_oC rfl dC_tell_41 ?_
          obtain ⟨s_14, q_15, h⟩ := mb_cw_e h
          refine rb_callV hK mA_begin vC_144 (t_A_begin (dd := dd + 2) (Or.inl rfl) q_15) rfl mb_oA rfl (Nat.le_of_ble_eq_true rfl) dC_tell_44 rfl ⟨Nat.le_refl _, Nat.le_refl _⟩ ?_
          show K 0 0 47 [.ref 0, .int x1, .int x2, .int x3, .retAddr 0] [] (mb_s s_14)
          refine ro_aload_n hK dC_tell_47 rfl ?_
          refine rb_get hK fC_50 mb_oC rfl dC_tell_48 ?_
          refine ro_iload_n hK dC_tell_51 rfl ?_
          refine ro_iload_n hK dC_tell_52 rfl ?_
          obtain ⟨r_18, s_16, q_17, h⟩ := mb_cl_e h
          refine rb_callV hK mA_goOn vC_244 (t_A_goOn (dd := dd + 0) q_17) rfl mb_oA rfl (Nat.le_of_ble_eq_true rfl) dC_tell_53 rfl ⟨Nat.le_refl _, Nat.le_refl _⟩ ?_
          show K 0 0 56 [.ref 0, .int x1, .int x2, .int x3, .retAddr 0] [.int r_18] (mb_s s_16)
          refine ro_istore hK dC_tell_56 (by decide) ?_
          show K 0 0 58 [.ref 0, .int x1, .int x2, .int x3, .int r_18] [] (mb_s s_16)
          refine ro_aload_n hK dC_tell_58 rfl ?_
          refine ro_iload_n hK dC_tell_59 rfl ?_
          refine ro_aload_n hK dC_tell_60 rfl ?_
          refine rb_get hK fC_50 mb_oC rfl dC_tell_61 ?_
          refine rb_get hK fC_250 mb_oA rfl dC_tell_64 ?_
          refine ro_iload hK dC_tell_67 rfl ?_
          obtain ⟨s_19, q_20, h⟩ := mb_cw_e h
          refine rb_callV hK mC_fillRow vC_262 (t_C_fillRow (dd := dd + 4) ai_55 q_20) rfl mb_oC rfl (Nat.le_of_ble_eq_true rfl) dC_tell_69 rfl ⟨Nat.le_refl _, Nat.le_refl _⟩ ?_
          show K 0 0 72 [.ref 0, .int x1, .int x2, .int x3, .int r_18] [] (mb_s s_19)
          refine ro_iload hK dC_tell_72 rfl ?_
          cases h
          exact hR.1 0 0 74 _ _ _ _ rfl rfl dC_tell_74 ⟨rfl, rfl⟩
        · replace h := mb_ift c_13 h
          refine ro_bipush (x := (-4)) hK (by decide) dC_tell_33 ?_
          cases h
          exact hR.1 0 0 35 _ _ _ _ rfl rfl dC_tell_35 ⟨rfl, rfl⟩
      · replace h := mb_ift c_12 h
        refine ro_iconst (x := (-1)) hK (by decide) dC_tell_21 ?_
        cases h
        exact hR.1 0 0 22 _ _ _ _ rfl rfl dC_tell_22 ⟨rfl, rfl⟩
theorem dC_worst_0 : decode bC_worst 0 = .ok (.iload_n 1, 1) := by decide +kernel
theorem dC_worst_1 : decode bC_worst 1 = .ok (.invokestatic 180, 3) := by decide +kernel
theorem dC_worst_4 : decode bC_worst 4 = .ok (.ifCond .ne 5, 3) := by decide +kernel
theorem dC_worst_7 : decode bC_worst 7 = .ok (.iconst (-1), 1) := by decide +kernel
theorem dC_worst_8 : decode bC_worst 8 = .ok (.ireturn, 1) := by decide +kernel
theorem dC_worst_9 : decode bC_worst 9 = .ok (.aload_n 0, 1) := by decide +kernel
theorem dC_worst_10 : decode bC_worst 10 = .ok (.getfield 29, 3) := by decide +kernel
theorem dC_worst_13 : decode bC_worst 13 = .ok (.getfield 128, 3) := by decide +kernel
theorem dC_worst_16 : decode bC_worst 16 = .ok (.ifCond .ne 6, 3) := by decide +kernel
theorem dC_worst_19 : decode bC_worst 19 = .ok (.bipush (-4), 2) := by decide +kernel
theorem dC_worst_21 : decode bC_worst 21 = .ok (.ireturn, 1) := by decide +kernel
theorem dC_worst_22 : decode bC_worst 22 = .ok (.aload_n 0, 1) := by decide +kernel
theorem dC_worst_23 : decode bC_worst 23 = .ok (.getfield 50, 3) := by decide +kernel
theorem dC_worst_26 : decode bC_worst 26 = .ok (.aload_n 0, 1) := by decide +kernel
theorem dC_worst_27 : decode bC_worst 27 = .ok (.getfield 29, 3) := by decide +kernel
theorem dC_worst_30 : decode bC_worst 30 = .ok (.invokevirtual 144, 3) := by decide +kernel
theorem dC_worst_33 : decode bC_worst 33 = .ok (.aload_n 0, 1) := by decide +kernel
theorem dC_worst_34 : decode bC_worst 34 = .ok (.getfield 50, 3) := by decide +kernel
theorem dC_worst_37 : decode bC_worst 37 = .ok (.aload_n 0, 1) := by decide +kernel
theorem dC_worst_38 : decode bC_worst 38 = .ok (.getfield 29, 3) := by decide +kernel
theorem dC_worst_41 : decode bC_worst 41 = .ok (.getfield 171, 3) := by decide +kernel
theorem dC_worst_44 : decode bC_worst 44 = .ok (.iload_n 1, 1) := by decide +kernel
theorem dC_worst_45 : decode bC_worst 45 = .ok (.invokevirtual 244, 3) := by decide +kernel
theorem dC_worst_48 : decode bC_worst 48 = .ok (.pop, 1) := by decide +kernel
theorem dC_worst_49 : decode bC_worst 49 = .ok (.aload_n 0, 1) := by decide +kernel
theorem dC_worst_50 : decode bC_worst 50 = .ok (.aload_n 0, 1) := by decide +kernel
theorem dC_worst_51 : decode bC_worst 51 = .ok (.getfield 50, 3) := by decide +kernel
theorem dC_worst_54 : decode bC_worst 54 = .ok (.invokevirtual 247, 3) := by decide +kernel
theorem dC_worst_57 : decode bC_worst 57 = .ok (.putfield 74, 3) := by decide +kernel
theorem dC_worst_60 : decode bC_worst 60 = .ok (.aload_n 0, 1) := by decide +kernel
theorem dC_worst_61 : decode bC_worst 61 = .ok (.getfield 50, 3) := by decide +kernel
theorem dC_worst_64 : decode bC_worst 64 = .ok (.invokevirtual 216, 3) := by decide +kernel
theorem dC_worst_67 : decode bC_worst 67 = .ok (.ireturn, 1) := by decide +kernel
def f_C_worst (n : Nat) (x1 : Int32) (s : mb_T) : Option (Int32 × mb_T) := mb_cl (f_C_isSpan n x1 s) fun r_3 s_1 => if r_3 = 0 then some ((-1), s_1) else if (s_1.1 100 0) = 0 then some ((-4), s_1) else mb_cw (f_A_begin n 100 s_1) fun s_6 => mb_cl (f_A_goOn n (s_6.1 100 2) x1 s_6) fun r_10 s_8 => mb_cl (f_A_mostAfraid n s_8) fun r_13 s_11 => mb_bd (sF s_11 0 14 r_13) fun s_14 => mb_cl (f_A_greatestFear n s_14) fun r_18 s_16 => some (r_18, s_16)
set_option maxHeartbeats 4000000 in
set_option maxRecDepth 100000 in
theorem t_C_worst {dd n : Nat} {x1 : Int32} {s : mb_T} {out : Int32 × mb_T}  (h : f_C_worst n x1 s = some out) : mb_MC (dd + 6) yC_worst bC_worst 2 (some .int) [.ref 0, .int x1] s (some (.int out.1)) out.2 := by
  unfold f_C_worst at h
  refine mj_mc (lv := [.ref 0, .int x1]) mC_worst rfl rfl (Nat.le_of_ble_eq_true rfl) (fun K hK hR => ?_)
  have hK : mj_C (dd + 6) 0 0 RC_c "worst" bC_worst 2 K := hK
  refine ro_iload_n hK dC_worst_0 rfl ?_
  obtain ⟨r_3, s_1, q_2, h⟩ := mb_cl_e h
  refine rb_callS hK mC_isSpan vC_180 (t_C_isSpan (dd := dd + 4) q_2) rfl (Nat.le_of_ble_eq_true rfl) dC_worst_1 rfl ⟨Nat.le_refl _, Nat.le_refl _⟩ ?_
  show K 0 0 4 [.ref 0, .int x1] [.int r_3] (mb_s s_1)
  refine ro_if_ne (tgt := 9) hK dC_worst_4 (by decide) (fun c_4 => ?_) (fun c_4 => ?_)
  · replace h := mb_iff c_4 h
    refine ro_aload_n hK dC_worst_9 rfl ?_
    refine rb_get hK fC_29 mb_oC rfl dC_worst_10 ?_
    refine rb_get hK fC_128 (mb_cvo (Or.inl rfl)) rfl dC_worst_13 ?_
    refine ro_if_ne (tgt := 22) hK dC_worst_16 (by decide) (fun c_5 => ?_) (fun c_5 => ?_)
    · replace h := mb_iff c_5 h
      refine ro_aload_n hK dC_worst_22 rfl ?_
      refine rb_get hK fC_50 mb_oC rfl dC_worst_23 ?_
      refine ro_aload_n hK dC_worst_26 rfl ?_
      refine rb_get hK fC_29 mb_oC rfl dC_worst_27 ?_
      obtain ⟨s_6, q_7, h⟩ := mb_cw_e h
      refine rb_callV hK mA_begin vC_144 (t_A_begin (dd := dd + 2) (Or.inl rfl) q_7) rfl mb_oA rfl (Nat.le_of_ble_eq_true rfl) dC_worst_30 rfl ⟨Nat.le_refl _, Nat.le_refl _⟩ ?_
      show K 0 0 33 [.ref 0, .int x1] [] (mb_s s_6)
      refine ro_aload_n hK dC_worst_33 rfl ?_
      refine rb_get hK fC_50 mb_oC rfl dC_worst_34 ?_
      refine ro_aload_n hK dC_worst_37 rfl ?_
      refine rb_get hK fC_29 mb_oC rfl dC_worst_38 ?_
      refine rb_get hK fC_171 (mb_cvo (Or.inl rfl)) rfl dC_worst_41 ?_
      refine ro_iload_n hK dC_worst_44 rfl ?_
      obtain ⟨r_10, s_8, q_9, h⟩ := mb_cl_e h
      refine rb_callV hK mA_goOn vC_244 (t_A_goOn (dd := dd + 0) q_9) rfl mb_oA rfl (Nat.le_of_ble_eq_true rfl) dC_worst_45 rfl ⟨Nat.le_refl _, Nat.le_refl _⟩ ?_
      show K 0 0 48 [.ref 0, .int x1] [.int r_10] (mb_s s_8)
      refine ro_pop hK dC_worst_48 rfl ?_
      refine ro_aload_n hK dC_worst_49 rfl ?_
      refine ro_aload_n hK dC_worst_50 rfl ?_
      refine rb_get hK fC_50 mb_oC rfl dC_worst_51 ?_
      obtain ⟨r_13, s_11, q_12, h⟩ := mb_cl_e h
      refine rb_callV hK mA_mostAfraid vC_247 (t_A_mostAfraid (dd := dd + 4) q_12) rfl mb_oA rfl (Nat.le_of_ble_eq_true rfl) dC_worst_54 rfl ⟨Nat.le_refl _, Nat.le_refl _⟩ ?_
      show K 0 0 57 [.ref 0, .int x1] [.int r_13, .ref 0] (mb_s s_11)
      obtain ⟨s_14, e_15, h⟩ := mb_bd_e h
      refine rb_put hK gC_74 mb_oC rfl (by show 14 < 15; decide) rfl rfl e_15 dC_worst_57 ?_
      refine ro_aload_n hK dC_worst_60 rfl ?_
      refine rb_get hK fC_50 mb_oC rfl dC_worst_61 ?_
      obtain ⟨r_18, s_16, q_17, h⟩ := mb_cl_e h
      refine rb_callV hK mA_greatestFear vC_216 (t_A_greatestFear (dd := dd + 3) q_17) rfl mb_oA rfl (Nat.le_of_ble_eq_true rfl) dC_worst_64 rfl ⟨Nat.le_refl _, Nat.le_refl _⟩ ?_
      show K 0 0 67 [.ref 0, .int x1] [.int r_18] (mb_s s_16)
      cases h
      exact hR.1 0 0 67 _ _ _ _ rfl rfl dC_worst_67 ⟨rfl, rfl⟩
    · replace h := mb_ift c_5 h
      refine ro_bipush (x := (-4)) hK (by decide) dC_worst_19 ?_
      cases h
      exact hR.1 0 0 21 _ _ _ _ rfl rfl dC_worst_21 ⟨rfl, rfl⟩
  · replace h := mb_ift c_4 h
    refine ro_iconst (x := (-1)) hK (by decide) dC_worst_7 ?_
    cases h
    exact hR.1 0 0 8 _ _ _ _ rfl rfl dC_worst_8 ⟨rfl, rfl⟩
theorem dA_howLong_0 : decode bA_howLong 0 = .ok (.aload_n 0, 1) := by decide +kernel
theorem dA_howLong_1 : decode bA_howLong 1 = .ok (.iload_n 1, 1) := by decide +kernel
theorem dA_howLong_2 : decode bA_howLong 2 = .ok (.iload_n 2, 1) := by decide +kernel
theorem dA_howLong_3 : decode bA_howLong 3 = .ok (.invokevirtual 154, 3) := by decide +kernel
theorem dA_howLong_6 : decode bA_howLong 6 = .ok (.istore_n 3, 1) := by decide +kernel
theorem dA_howLong_7 : decode bA_howLong 7 = .ok (.aload_n 0, 1) := by decide +kernel
theorem dA_howLong_8 : decode bA_howLong 8 = .ok (.invokevirtual 143, 3) := by decide +kernel
theorem dA_howLong_11 : decode bA_howLong 11 = .ok (.ifCond .eq 7, 3) := by decide +kernel
theorem dA_howLong_14 : decode bA_howLong 14 = .ok (.iload_n 3, 1) := by decide +kernel
theorem dA_howLong_15 : decode bA_howLong 15 = .ok (.goto 5, 3) := by decide +kernel
theorem dA_howLong_18 : decode bA_howLong 18 = .ok (.bipush (-9), 2) := by decide +kernel
theorem dA_howLong_20 : decode bA_howLong 20 = .ok (.ireturn, 1) := by decide +kernel
def f_A_howLong (n : Nat) (x1 : Int32) (x2 : Int32) (s : mb_T) : Option (Int32 × mb_T) := mb_cl (f_A_goOn n x1 x2 s) fun r_3 s_1 => mb_cl (f_A_isOver n s_1) fun r_6 s_4 => some ((if r_6 = 0 then (-9) else r_3 : Int32), s_4)
set_option maxHeartbeats 4000000 in
set_option maxRecDepth 100000 in
theorem t_A_howLong {dd n : Nat} {x1 : Int32} {x2 : Int32} {s : mb_T} {out : Int32 × mb_T}  (h : f_A_howLong n x1 x2 s = some out) : mb_MC (dd + 6) yA_howLong bA_howLong 4 (some .int) [.ref 40, .int x1, .int x2] s (some (.int out.1)) out.2 := by
  unfold f_A_howLong at h
  refine mj_mc (lv := [.ref 40, .int x1, .int x2, .retAddr 0]) mA_howLong rfl rfl (Nat.le_of_ble_eq_true rfl) (fun K hK hR => ?_)
  have hK : mj_C (dd + 6) 0 0 RA_c "howLong" bA_howLong 4 K := hK
  refine ro_aload_n hK dA_howLong_0 rfl ?_
  refine ro_iload_n hK dA_howLong_1 rfl ?_
  refine ro_iload_n hK dA_howLong_2 rfl ?_
  obtain ⟨r_3, s_1, q_2, h⟩ := mb_cl_e h
  refine rb_callV hK mA_goOn vA_154 (t_A_goOn (dd := dd + 0) q_2) rfl mb_oA rfl (Nat.le_of_ble_eq_true rfl) dA_howLong_3 rfl ⟨Nat.le_refl _, Nat.le_refl _⟩ ?_
  show K 0 0 6 [.ref 40, .int x1, .int x2, .retAddr 0] [.int r_3] (mb_s s_1)
  refine ro_istore_n hK dA_howLong_6 (by decide) ?_
  show K 0 0 7 [.ref 40, .int x1, .int x2, .int r_3] [] (mb_s s_1)
  refine ro_aload_n hK dA_howLong_7 rfl ?_
  obtain ⟨r_6, s_4, q_5, h⟩ := mb_cl_e h
  refine rb_callV hK mA_isOver vA_143 (t_A_isOver (dd := dd + 3) q_5) rfl mb_oA rfl (Nat.le_of_ble_eq_true rfl) dA_howLong_8 rfl ⟨Nat.le_refl _, Nat.le_refl _⟩ ?_
  show K 0 0 11 [.ref 40, .int x1, .int x2, .int r_3] [.int r_6] (mb_s s_4)
  have j_8 : ∀ w_ : Int32, w_ = (if r_6 = 0 then (-9) else r_3 : Int32) → K 0 0 20 [.ref 40, .int x1, .int x2, .int r_3] [.int w_] (mb_s s_4) → K 0 0 11 [.ref 40, .int x1, .int x2, .int r_3] [.int r_6] (mb_s s_4) := by
    intro w_ hw hj
    refine ro_if_eq (tgt := 18) hK dA_howLong_11 (by decide) (fun c_7 => ?_) (fun c_7 => ?_)
    · skip
      refine ro_bipush (x := (-9)) hK (by decide) dA_howLong_18 ?_
      have hw := (hw.trans (if_pos c_7))
      subst hw
      exact hj
    · skip
      refine ro_iload_n hK dA_howLong_14 rfl ?_
      refine ro_goto (tgt := 20) hK dA_howLong_15 (by decide) ?_
      have hw := (hw.trans (if_neg c_7))
      subst hw
      exact hj
  refine j_8 _ rfl ?_
  cases h
  exact hR.1 0 0 20 _ _ _ _ rfl rfl dA_howLong_20 ⟨rfl, rfl⟩
