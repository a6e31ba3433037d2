theorem dC_hand_0 : decode bC_hand 0 = .ok (.aload_n 0, 1) := by decide +kernel
theorem dC_hand_1 : decode bC_hand 1 = .ok (.iload_n 1, 1) := by decide +kernel
theorem dC_hand_2 : decode bC_hand 2 = .ok (.invokevirtual 131, 3) := by decide +kernel
theorem dC_hand_5 : decode bC_hand 5 = .ok (.ifCond .ne 5, 3) := by decide +kernel
theorem dC_hand_8 : decode bC_hand 8 = .ok (.iconst (-1), 1) := by decide +kernel
theorem dC_hand_9 : decode bC_hand 9 = .ok (.ireturn, 1) := by decide +kernel
theorem dC_hand_10 : decode bC_hand 10 = .ok (.aload_n 0, 1) := by decide +kernel
theorem dC_hand_11 : decode bC_hand 11 = .ok (.getfield 50, 3) := by decide +kernel
theorem dC_hand_14 : decode bC_hand 14 = .ok (.aload_n 0, 1) := by decide +kernel
theorem dC_hand_15 : decode bC_hand 15 = .ok (.getfield 29, 3) := by decide +kernel
theorem dC_hand_18 : decode bC_hand 18 = .ok (.invokevirtual 144, 3) := by decide +kernel
theorem dC_hand_21 : decode bC_hand 21 = .ok (.aload_n 0, 1) := by decide +kernel
theorem dC_hand_22 : decode bC_hand 22 = .ok (.getfield 50, 3) := by decide +kernel
theorem dC_hand_25 : decode bC_hand 25 = .ok (.invokevirtual 186, 3) := by decide +kernel
theorem dC_hand_28 : decode bC_hand 28 = .ok (.ifCond .eq 6, 3) := by decide +kernel
theorem dC_hand_31 : decode bC_hand 31 = .ok (.bipush (-4), 2) := by decide +kernel
theorem dC_hand_33 : decode bC_hand 33 = .ok (.ireturn, 1) := by decide +kernel
theorem dC_hand_34 : decode bC_hand 34 = .ok (.aload_n 0, 1) := by decide +kernel
theorem dC_hand_35 : decode bC_hand 35 = .ok (.getfield 29, 3) := by decide +kernel
theorem dC_hand_38 : decode bC_hand 38 = .ok (.getfield 183, 3) := by decide +kernel
theorem dC_hand_41 : decode bC_hand 41 = .ok (.bipush 120, 2) := by decide +kernel
theorem dC_hand_43 : decode bC_hand 43 = .ok (.if_icmp .lt 6, 3) := by decide +kernel
theorem dC_hand_46 : decode bC_hand 46 = .ok (.bipush (-2), 2) := by decide +kernel
theorem dC_hand_48 : decode bC_hand 48 = .ok (.ireturn, 1) := by decide +kernel
theorem dC_hand_49 : decode bC_hand 49 = .ok (.aload_n 0, 1) := by decide +kernel
theorem dC_hand_50 : decode bC_hand 50 = .ok (.iload_n 1, 1) := by decide +kernel
theorem dC_hand_51 : decode bC_hand 51 = .ok (.invokevirtual 193, 3) := by decide +kernel
theorem dC_hand_54 : decode bC_hand 54 = .ok (.aload_n 0, 1) := by decide +kernel
theorem dC_hand_55 : decode bC_hand 55 = .ok (.getfield 29, 3) := by decide +kernel
theorem dC_hand_58 : decode bC_hand 58 = .ok (.getfield 177, 3) := by decide +kernel
theorem dC_hand_61 : decode bC_hand 61 = .ok (.iload_n 1, 1) := by decide +kernel
theorem dC_hand_62 : decode bC_hand 62 = .ok (.iaload, 1) := by decide +kernel
theorem dC_hand_63 : decode bC_hand 63 = .ok (.ireturn, 1) := by decide +kernel
def f_C_hand (n : Nat) (x1 : Int32) (s : mb_T) : Option (Int32 × mb_T) := mb_cl (f_C_isOne n x1 s) fun r_3 s_1 => if r_3 = 0 then some ((-1), s_1) else mb_cw (f_A_begin n 100 s_1) fun s_5 => mb_cl (f_A_isOver n s_5) fun r_9 s_7 => if r_9 = 0 then (if (s_7.1 100 4) < 120 then (mb_cw (f_C_passMinute n x1 s_7) fun s_12 => mb_rd s_12 (100 + 6) 5 x1 fun x_14 => some (x_14, s_12)) else some ((-2), s_7)) else some ((-4), s_7)
set_option maxHeartbeats 4000000 in
set_option maxRecDepth 100000 in
theorem t_C_hand {dd n : Nat} {x1 : Int32} {s : mb_T} {out : Int32 × mb_T}  (h : f_C_hand n x1 s = some out) : mb_MC (dd + 4) yC_hand bC_hand 2 (some .int) [.ref 0, .int x1] s (some (.int out.1)) out.2 := by
  unfold f_C_hand at h
  refine mj_mc (lv := [.ref 0, .int x1]) mC_hand rfl rfl (Nat.le_of_ble_eq_true rfl) (fun K hK hR => ?_)
  have hK : mj_C (dd + 4) 0 0 RC_c "hand" bC_hand 2 K := hK
  refine ro_aload_n hK dC_hand_0 rfl ?_
  refine ro_iload_n hK dC_hand_1 rfl ?_
  obtain ⟨r_3, s_1, q_2, h⟩ := mb_cl_e h
  refine rb_callV hK mC_isOne vC_131 (t_C_isOne (dd := dd + 2) q_2) rfl mb_oC rfl (Nat.le_of_ble_eq_true rfl) dC_hand_2 rfl ⟨Nat.le_refl _, Nat.le_refl _⟩ ?_
  show K 0 0 5 [.ref 0, .int x1] [.int r_3] (mb_s s_1)
  refine ro_if_ne (tgt := 10) hK dC_hand_5 (by decide) (fun c_4 => ?_) (fun c_4 => ?_)
  · replace h := mb_iff c_4 h
    refine ro_aload_n hK dC_hand_10 rfl ?_
    refine rb_get hK fC_50 mb_oC rfl dC_hand_11 ?_
    refine ro_aload_n hK dC_hand_14 rfl ?_
    refine rb_get hK fC_29 mb_oC rfl dC_hand_15 ?_
    obtain ⟨s_5, q_6, h⟩ := mb_cw_e h
    refine rb_callV hK mA_begin vC_144 (t_A_begin (dd := dd + 0) (Or.inl rfl) q_6) rfl mb_oA rfl (Nat.le_of_ble_eq_true rfl) dC_hand_18 rfl ⟨Nat.le_refl _, Nat.le_refl _⟩ ?_
    show K 0 0 21 [.ref 0, .int x1] [] (mb_s s_5)
    refine ro_aload_n hK dC_hand_21 rfl ?_
    refine rb_get hK fC_50 mb_oC rfl dC_hand_22 ?_
    obtain ⟨r_9, s_7, q_8, h⟩ := mb_cl_e h
    refine rb_callV hK mA_isOver vC_186 (t_A_isOver (dd := dd + 1) q_8) rfl mb_oA rfl (Nat.le_of_ble_eq_true rfl) dC_hand_25 rfl ⟨Nat.le_refl _, Nat.le_refl _⟩ ?_
    show K 0 0 28 [.ref 0, .int x1] [.int r_9] (mb_s s_7)
    refine ro_if_eq (tgt := 34) hK dC_hand_28 (by decide) (fun c_10 => ?_) (fun c_10 => ?_)
    · replace h := mb_ift c_10 h
      refine ro_aload_n hK dC_hand_34 rfl ?_
      refine rb_get hK fC_29 mb_oC rfl dC_hand_35 ?_
      refine rb_get hK fC_183 (mb_cvo (Or.inl rfl)) rfl dC_hand_38 ?_
      refine ro_bipush (x := 120) hK (by decide) dC_hand_41 ?_
      refine ro_icmp_lt (tgt := 49) hK dC_hand_43 (by decide) (fun c_11 => ?_) (fun c_11 => ?_)
      · replace h := mb_ift c_11 h
        refine ro_aload_n hK dC_hand_49 rfl ?_
        refine ro_iload_n hK dC_hand_50 rfl ?_
        obtain ⟨s_12, q_13, h⟩ := mb_cw_e h
        refine rb_callV hK mC_passMinute vC_193 (t_C_passMinute (dd := dd + 0) q_13) rfl mb_oC rfl (Nat.le_of_ble_eq_true rfl) dC_hand_51 rfl ⟨Nat.le_refl _, Nat.le_refl _⟩ ?_
        show K 0 0 54 [.ref 0, .int x1] [] (mb_s s_12)
        refine ro_aload_n hK dC_hand_54 rfl ?_
        refine rb_get hK fC_29 mb_oC rfl dC_hand_55 ?_
        refine rb_get hK fC_177 (mb_cvo (Or.inl rfl)) rfl dC_hand_58 ?_
        refine ro_iload_n hK dC_hand_61 rfl ?_
        obtain ⟨x_14, e_15, i_16, h⟩ := mb_rd_e h
        refine rb_iald hK (mb_cv6 (Or.inl rfl)) i_16 e_15 dC_hand_62 ?_
        cases h
        exact hR.1 0 0 63 _ _ _ _ rfl rfl dC_hand_63 ⟨rfl, rfl⟩
      · replace h := mb_iff c_11 h
        refine ro_bipush (x := (-2)) hK (by decide) dC_hand_46 ?_
        cases h
        exact hR.1 0 0 48 _ _ _ _ rfl rfl dC_hand_48 ⟨rfl, rfl⟩
    · replace h := mb_iff c_10 h
      refine ro_bipush (x := (-4)) hK (by decide) dC_hand_31 ?_
      cases h
      exact hR.1 0 0 33 _ _ _ _ rfl rfl dC_hand_33 ⟨rfl, rfl⟩
  · replace h := mb_ift c_4 h
    refine ro_iconst (x := (-1)) hK (by decide) dC_hand_8 ?_
    cases h
    exact hR.1 0 0 9 _ _ _ _ rfl rfl dC_hand_9 ⟨rfl, rfl⟩
theorem dC_howMany_0 : decode bC_howMany 0 = .ok (.iload_n 1, 1) := by decide +kernel
theorem dC_howMany_1 : decode bC_howMany 1 = .ok (.tableswitch 114 0 6 #[43, 51, 59, 67, 79, 101, 106], 43) := by decide +kernel
theorem dC_howMany_44 : decode bC_howMany 44 = .ok (.aload_n 0, 1) := by decide +kernel
theorem dC_howMany_45 : decode bC_howMany 45 = .ok (.getfield 29, 3) := by decide +kernel
theorem dC_howMany_48 : decode bC_howMany 48 = .ok (.getfield 128, 3) := by decide +kernel
theorem dC_howMany_51 : decode bC_howMany 51 = .ok (.ireturn, 1) := by decide +kernel
theorem dC_howMany_52 : decode bC_howMany 52 = .ok (.aload_n 0, 1) := by decide +kernel
theorem dC_howMany_53 : decode bC_howMany 53 = .ok (.getfield 29, 3) := by decide +kernel
theorem dC_howMany_56 : decode bC_howMany 56 = .ok (.getfield 183, 3) := by decide +kernel
theorem dC_howMany_59 : decode bC_howMany 59 = .ok (.ireturn, 1) := by decide +kernel
theorem dC_howMany_60 : decode bC_howMany 60 = .ok (.aload_n 0, 1) := by decide +kernel
theorem dC_howMany_61 : decode bC_howMany 61 = .ok (.getfield 29, 3) := by decide +kernel
theorem dC_howMany_64 : decode bC_howMany 64 = .ok (.getfield 174, 3) := by decide +kernel
theorem dC_howMany_67 : decode bC_howMany 67 = .ok (.ireturn, 1) := by decide +kernel
theorem dC_howMany_68 : decode bC_howMany 68 = .ok (.aload_n 0, 1) := by decide +kernel
theorem dC_howMany_69 : decode bC_howMany 69 = .ok (.getfield 29, 3) := by decide +kernel
theorem dC_howMany_72 : decode bC_howMany 72 = .ok (.iconst 1, 1) := by decide +kernel
theorem dC_howMany_73 : decode bC_howMany 73 = .ok (.invokevirtual 290, 3) := by decide +kernel
theorem dC_howMany_76 : decode bC_howMany 76 = .ok (.invokestatic 150, 3) := by decide +kernel
theorem dC_howMany_79 : decode bC_howMany 79 = .ok (.ireturn, 1) := by decide +kernel
theorem dC_howMany_80 : decode bC_howMany 80 = .ok (.aload_n 0, 1) := by decide +kernel
theorem dC_howMany_81 : decode bC_howMany 81 = .ok (.getfield 50, 3) := by decide +kernel
theorem dC_howMany_84 : decode bC_howMany 84 = .ok (.aload_n 0, 1) := by decide +kernel
theorem dC_howMany_85 : decode bC_howMany 85 = .ok (.getfield 29, 3) := by decide +kernel
theorem dC_howMany_88 : decode bC_howMany 88 = .ok (.invokevirtual 144, 3) := by decide +kernel
theorem dC_howMany_91 : decode bC_howMany 91 = .ok (.aload_n 0, 1) := by decide +kernel
theorem dC_howMany_92 : decode bC_howMany 92 = .ok (.getfield 50, 3) := by decide +kernel
theorem dC_howMany_95 : decode bC_howMany 95 = .ok (.invokevirtual 203, 3) := by decide +kernel
theorem dC_howMany_98 : decode bC_howMany 98 = .ok (.invokestatic 150, 3) := by decide +kernel
theorem dC_howMany_101 : decode bC_howMany 101 = .ok (.ireturn, 1) := by decide +kernel
theorem dC_howMany_102 : decode bC_howMany 102 = .ok (.aload_n 0, 1) := by decide +kernel
theorem dC_howMany_103 : decode bC_howMany 103 = .ok (.invokevirtual 356, 3) := by decide +kernel
theorem dC_howMany_106 : decode bC_howMany 106 = .ok (.ireturn, 1) := by decide +kernel
theorem dC_howMany_107 : decode bC_howMany 107 = .ok (.aload_n 0, 1) := by decide +kernel
theorem dC_howMany_108 : decode bC_howMany 108 = .ok (.getfield 14, 3) := by decide +kernel
theorem dC_howMany_111 : decode bC_howMany 111 = .ok (.invokestatic 359, 3) := by decide +kernel
theorem dC_howMany_114 : decode bC_howMany 114 = .ok (.ireturn, 1) := by decide +kernel
theorem dC_howMany_115 : decode bC_howMany 115 = .ok (.aload_n 0, 1) := by decide +kernel
theorem dC_howMany_116 : decode bC_howMany 116 = .ok (.getfield 23, 3) := by decide +kernel
theorem dC_howMany_119 : decode bC_howMany 119 = .ok (.invokestatic 359, 3) := by decide +kernel
theorem dC_howMany_122 : decode bC_howMany 122 = .ok (.ireturn, 1) := by decide +kernel
def f_C_howMany (n : Nat) (x1 : Int32) (s : mb_T) : Option (Int32 × mb_T) := if x1 = 0 then some ((s.1 100 0), s) else if x1 = 1 then some ((s.1 100 4), s) else if x1 = 2 then some ((s.1 100 3), s) else if x1 = 3 then (mb_cl (f_V_bitsOfKind n 100 1 s) fun r_27 s_25 => mb_cl (f_I_bitCount n r_27 s_25) fun r_30 s_28 => some (r_30, s_28)) else if x1 = 4 then (mb_cw (f_A_begin n 100 s) fun s_17 => mb_cl (f_A_whoScream n s_17) fun r_21 s_19 => mb_cl (f_I_bitCount n r_21 s_19) fun r_24 s_22 => some (r_24, s_22)) else if x1 = 5 then (mb_cl (f_C_keptCaves n s) fun r_16 s_14 => some (r_16, s_14)) else if x1 = 6 then (mb_cl (f_C_thereOf n 1 6 s) fun r_13 s_11 => some (r_13, s_11)) else mb_cl (f_C_thereOf n 3 4 s) fun r_10 s_8 => some (r_10, s_8)
set_option maxHeartbeats 4000000 in
set_option maxRecDepth 100000 in
theorem t_C_howMany {dd n : Nat} {x1 : Int32} {s : mb_T} {out : Int32 × mb_T}  (h : f_C_howMany n x1 s = some out) : mb_MC (dd + 4) yC_howMany bC_howMany 2 (some .int) [.ref 0, .int x1] s (some (.int out.1)) out.2 := by
  unfold f_C_howMany at h
  refine mj_mc (lv := [.ref 0, .int x1]) mC_howMany rfl rfl (Nat.le_of_ble_eq_true rfl) (fun K hK hR => ?_)
  have hK : mj_C (dd + 4) 0 0 RC_c "howMany" bC_howMany 2 K := hK
  refine ro_iload_n hK dC_howMany_0 rfl ?_
  by_cases c_1 : x1 = 0
  · replace h := mb_ift c_1 h
    refine ro_tabIn (off := 43) (tgt := 44) hK dC_howMany_1 (by rw [c_1]; decide) (by rw [c_1]; decide) (by rw [c_1]; decide) (by decide) ?_
    refine ro_aload_n hK dC_howMany_44 rfl ?_
    refine rb_get hK fC_29 mb_oC rfl dC_howMany_45 ?_
    refine rb_get hK fC_128 (mb_cvo (Or.inl rfl)) rfl dC_howMany_48 ?_
    cases h
    exact hR.1 0 0 51 _ _ _ _ rfl rfl dC_howMany_51 ⟨rfl, rfl⟩
  · replace h := mb_iff c_1 h
    by_cases c_2 : x1 = 1
    · replace h := mb_ift c_2 h
      refine ro_tabIn (off := 51) (tgt := 52) hK dC_howMany_1 (by rw [c_2]; decide) (by rw [c_2]; decide) (by rw [c_2]; decide) (by decide) ?_
      refine ro_aload_n hK dC_howMany_52 rfl ?_
      refine rb_get hK fC_29 mb_oC rfl dC_howMany_53 ?_
      refine rb_get hK fC_183 (mb_cvo (Or.inl rfl)) rfl dC_howMany_56 ?_
      cases h
      exact hR.1 0 0 59 _ _ _ _ rfl rfl dC_howMany_59 ⟨rfl, rfl⟩
    · replace h := mb_iff c_2 h
      by_cases c_3 : x1 = 2
      · replace h := mb_ift c_3 h
        refine ro_tabIn (off := 59) (tgt := 60) hK dC_howMany_1 (by rw [c_3]; decide) (by rw [c_3]; decide) (by rw [c_3]; decide) (by decide) ?_
        refine ro_aload_n hK dC_howMany_60 rfl ?_
        refine rb_get hK fC_29 mb_oC rfl dC_howMany_61 ?_
        refine rb_get hK fC_174 (mb_cvo (Or.inl rfl)) rfl dC_howMany_64 ?_
        cases h
        exact hR.1 0 0 67 _ _ _ _ rfl rfl dC_howMany_67 ⟨rfl, rfl⟩
      · replace h := mb_iff c_3 h
        by_cases c_4 : x1 = 3
        · replace h := mb_ift c_4 h
          refine ro_tabIn (off := 67) (tgt := 68) hK dC_howMany_1 (by rw [c_4]; decide) (by rw [c_4]; decide) (by rw [c_4]; decide) (by decide) ?_
          refine ro_aload_n hK dC_howMany_68 rfl ?_
          refine rb_get hK fC_29 mb_oC rfl dC_howMany_69 ?_
          refine ro_iconst (x := 1) hK (by decide) dC_howMany_72 ?_
          obtain ⟨r_27, s_25, q_26, h⟩ := mb_cl_e h
          refine rb_callV hK mV_bitsOfKind vC_290 (t_V_bitsOfKind (dd := dd + 1) (Or.inl rfl) q_26) rfl (mb_cvo (Or.inl rfl)) rfl (Nat.le_of_ble_eq_true rfl) dC_howMany_73 rfl ⟨Nat.le_refl _, Nat.le_refl _⟩ ?_
          show K 0 0 76 [.ref 0, .int x1] [.int r_27] (mb_s s_25)
          obtain ⟨r_30, s_28, q_29, h⟩ := mb_cl_e h
          refine rb_callS hK mI_bitCount vC_150 (t_I_bitCount (dd := dd + 2) q_29) rfl (Nat.le_of_ble_eq_true rfl) dC_howMany_76 rfl ⟨Nat.le_refl _, Nat.le_refl _⟩ ?_
          show K 0 0 79 [.ref 0, .int x1] [.int r_30] (mb_s s_28)
          cases h
          exact hR.1 0 0 79 _ _ _ _ rfl rfl dC_howMany_79 ⟨rfl, rfl⟩
        · replace h := mb_iff c_4 h
          by_cases c_5 : x1 = 4
          · replace h := mb_ift c_5 h
            refine ro_tabIn (off := 79) (tgt := 80) hK dC_howMany_1 (by rw [c_5]; decide) (by rw [c_5]; decide) (by rw [c_5]; decide) (by decide) ?_
            refine ro_aload_n hK dC_howMany_80 rfl ?_
            refine rb_get hK fC_50 mb_oC rfl dC_howMany_81 ?_
            refine ro_aload_n hK dC_howMany_84 rfl ?_
            refine rb_get hK fC_29 mb_oC rfl dC_howMany_85 ?_
            obtain ⟨s_17, q_18, h⟩ := mb_cw_e h
            refine rb_callV hK mA_begin vC_144 (t_A_begin (dd := dd + 0) (Or.inl rfl) q_18) rfl mb_oA rfl (Nat.le_of_ble_eq_true rfl) dC_howMany_88 rfl ⟨Nat.le_refl _, Nat.le_refl _⟩ ?_
            show K 0 0 91 [.ref 0, .int x1] [] (mb_s s_17)
            refine ro_aload_n hK dC_howMany_91 rfl ?_
            refine rb_get hK fC_50 mb_oC rfl dC_howMany_92 ?_
            obtain ⟨r_21, s_19, q_20, h⟩ := mb_cl_e h
            refine rb_callV hK mA_whoScream vC_203 (t_A_whoScream (dd := dd + 2) q_20) rfl mb_oA rfl (Nat.le_of_ble_eq_true rfl) dC_howMany_95 rfl ⟨Nat.le_refl _, Nat.le_refl _⟩ ?_
            show K 0 0 98 [.ref 0, .int x1] [.int r_21] (mb_s s_19)
            obtain ⟨r_24, s_22, q_23, h⟩ := mb_cl_e h
            refine rb_callS hK mI_bitCount vC_150 (t_I_bitCount (dd := dd + 2) q_23) rfl (Nat.le_of_ble_eq_true rfl) dC_howMany_98 rfl ⟨Nat.le_refl _, Nat.le_refl _⟩ ?_
            show K 0 0 101 [.ref 0, .int x1] [.int r_24] (mb_s s_22)
            cases h
            exact hR.1 0 0 101 _ _ _ _ rfl rfl dC_howMany_101 ⟨rfl, rfl⟩
          · replace h := mb_iff c_5 h
            by_cases c_6 : x1 = 5
            · replace h := mb_ift c_6 h
              refine ro_tabIn (off := 101) (tgt := 102) hK dC_howMany_1 (by rw [c_6]; decide) (by rw [c_6]; decide) (by rw [c_6]; decide) (by decide) ?_
              refine ro_aload_n hK dC_howMany_102 rfl ?_
              obtain ⟨r_16, s_14, q_15, h⟩ := mb_cl_e h
              refine rb_callV hK mC_keptCaves vC_356 (t_C_keptCaves (dd := dd + 1) q_15) rfl mb_oC rfl (Nat.le_of_ble_eq_true rfl) dC_howMany_103 rfl ⟨Nat.le_refl _, Nat.le_refl _⟩ ?_
              show K 0 0 106 [.ref 0, .int x1] [.int r_16] (mb_s s_14)
              cases h
              exact hR.1 0 0 106 _ _ _ _ rfl rfl dC_howMany_106 ⟨rfl, rfl⟩
            · replace h := mb_iff c_6 h
              by_cases c_7 : x1 = 6
              · replace h := mb_ift c_7 h
                refine ro_tabIn (off := 106) (tgt := 107) hK dC_howMany_1 (by rw [c_7]; decide) (by rw [c_7]; decide) (by rw [c_7]; decide) (by decide) ?_
                refine ro_aload_n hK dC_howMany_107 rfl ?_
                refine rb_get hK fC_14 mb_oC rfl dC_howMany_108 ?_
                obtain ⟨r_13, s_11, q_12, h⟩ := mb_cl_e h
                refine rb_callS hK mC_thereOf vC_359 (t_C_thereOf (dd := dd + 2) ai_1 q_12) rfl (Nat.le_of_ble_eq_true rfl) dC_howMany_111 rfl ⟨Nat.le_refl _, Nat.le_refl _⟩ ?_
                show K 0 0 114 [.ref 0, .int x1] [.int r_13] (mb_s s_11)
                cases h
                exact hR.1 0 0 114 _ _ _ _ rfl rfl dC_howMany_114 ⟨rfl, rfl⟩
              · replace h := mb_iff c_7 h
                have hz : Int32.toInt x1 < 0 ∨ 6 < Int32.toInt x1 := by
                  rcases Int.lt_or_le (Int32.toInt x1) 0 with hz | hz
                  · exact Or.inl hz
                  · rcases Int.lt_or_le 6 (Int32.toInt x1) with hw | hw
                    · exact Or.inr hw
                    · exfalso
                      have ho : Int32.toInt x1 = 0 ∨ Int32.toInt x1 = 1 ∨ Int32.toInt x1 = 2 ∨ Int32.toInt x1 = 3 ∨ Int32.toInt x1 = 4 ∨ Int32.toInt x1 = 5 ∨ Int32.toInt x1 = 6 := by omega
                      rcases ho with ho | ho | ho | ho | ho | ho | ho
                      · exact c_1 (Int32.toInt_inj.mp (by rw [ho]; decide))
                      · exact c_2 (Int32.toInt_inj.mp (by rw [ho]; decide))
                      · exact c_3 (Int32.toInt_inj.mp (by rw [ho]; decide))
                      · exact c_4 (Int32.toInt_inj.mp (by rw [ho]; decide))
                      · exact c_5 (Int32.toInt_inj.mp (by rw [ho]; decide))
                      · exact c_6 (Int32.toInt_inj.mp (by rw [ho]; decide))
                      · exact c_7 (Int32.toInt_inj.mp (by rw [ho]; decide))
                refine ro_tabOut (tgt := 115) hK dC_howMany_1 hz (by decide) ?_
                refine ro_aload_n hK dC_howMany_115 rfl ?_
                refine rb_get hK fC_23 mb_oC rfl dC_howMany_116 ?_
                obtain ⟨r_10, s_8, q_9, h⟩ := mb_cl_e h
                refine rb_callS hK mC_thereOf vC_359 (t_C_thereOf (dd := dd + 2) ai_3 q_9) rfl (Nat.le_of_ble_eq_true rfl) dC_howMany_119 rfl ⟨Nat.le_refl _, Nat.le_refl _⟩ ?_
                show K 0 0 122 [.ref 0, .int x1] [.int r_10] (mb_s s_8)
                cases h
                exact hR.1 0 0 122 _ _ _ _ rfl rfl dC_howMany_122 ⟨rfl, rfl⟩
theorem dC_lay_0 : decode bC_lay 0 = .ok (.aload_n 0, 1) := by decide +kernel
theorem dC_lay_1 : decode bC_lay 1 = .ok (.iload_n 1, 1) := by decide +kernel
theorem dC_lay_2 : decode bC_lay 2 = .ok (.iload_n 2, 1) := by decide +kernel
theorem dC_lay_3 : decode bC_lay 3 = .ok (.invokevirtual 91, 3) := by decide +kernel
theorem dC_lay_6 : decode bC_lay 6 = .ok (.istore 4, 2) := by decide +kernel
theorem dC_lay_8 : decode bC_lay 8 = .ok (.iload 4, 2) := by decide +kernel
theorem dC_lay_10 : decode bC_lay 10 = .ok (.ifCond .eq 6, 3) := by decide +kernel
theorem dC_lay_13 : decode bC_lay 13 = .ok (.iload 4, 2) := by decide +kernel
theorem dC_lay_15 : decode bC_lay 15 = .ok (.ireturn, 1) := by decide +kernel
theorem dC_lay_16 : decode bC_lay 16 = .ok (.aload_n 0, 1) := by decide +kernel
theorem dC_lay_17 : decode bC_lay 17 = .ok (.aload_n 0, 1) := by decide +kernel
theorem dC_lay_18 : decode bC_lay 18 = .ok (.getfield 11, 3) := by decide +kernel
theorem dC_lay_21 : decode bC_lay 21 = .ok (.iload_n 1, 1) := by decide +kernel
theorem dC_lay_22 : decode bC_lay 22 = .ok (.aaload, 1) := by decide +kernel
theorem dC_lay_23 : decode bC_lay 23 = .ok (.iload_n 2, 1) := by decide +kernel
theorem dC_lay_24 : decode bC_lay 24 = .ok (.iaload, 1) := by decide +kernel
theorem dC_lay_25 : decode bC_lay 25 = .ok (.putfield 74, 3) := by decide +kernel
theorem dC_lay_28 : decode bC_lay 28 = .ok (.aload_n 0, 1) := by decide +kernel
theorem dC_lay_29 : decode bC_lay 29 = .ok (.getfield 11, 3) := by decide +kernel
theorem dC_lay_32 : decode bC_lay 32 = .ok (.iload_n 1, 1) := by decide +kernel
theorem dC_lay_33 : decode bC_lay 33 = .ok (.aaload, 1) := by decide +kernel
theorem dC_lay_34 : decode bC_lay 34 = .ok (.iload_n 2, 1) := by decide +kernel
theorem dC_lay_35 : decode bC_lay 35 = .ok (.iload_n 3, 1) := by decide +kernel
theorem dC_lay_36 : decode bC_lay 36 = .ok (.iastore, 1) := by decide +kernel
theorem dC_lay_37 : decode bC_lay 37 = .ok (.iconst 1, 1) := by decide +kernel
theorem dC_lay_38 : decode bC_lay 38 = .ok (.ireturn, 1) := by decide +kernel
def f_C_lay (n : Nat) (x1 : Int32) (x2 : Int32) (x3 : Int32) (s : mb_T) : Option (Int32 × mb_T) := mb_cl (f_C_placeRefusal n x1 x2 s) fun r_3 s_1 => if r_3 = 0 then (mb_ix x1 6 (mb_rd s_1 (20 + x1.toNatClampNeg) 60 x2 fun x_6 => mb_bd (sF s_1 0 14 x_6) fun s_9 => mb_ix x1 6 (mb_wr s_9 (20 + x1.toNatClampNeg) 60 x2 x3 fun s_12 => some (1, s_12)))) else some (r_3, s_1)
set_option maxHeartbeats 4000000 in
set_option maxRecDepth 100000 in
theorem t_C_lay {dd n : Nat} {x1 : Int32} {x2 : Int32} {x3 : Int32} {s : mb_T} {out : Int32 × mb_T}  (h : f_C_lay n x1 x2 x3 s = some out) : mb_MC (dd + 4) yC_lay bC_lay 5 (some .int) [.ref 0, .int x1, .int x2, .int x3] s (some (.int out.1)) out.2 := by
  unfold f_C_lay at h
  refine mj_mc (lv := [.ref 0, .int x1, .int x2, .int x3, .retAddr 0]) mC_lay rfl rfl (Nat.le_of_ble_eq_true rfl) (fun K hK hR => ?_)
  have hK : mj_C (dd + 4) 0 0 RC_c "lay" bC_lay 5 K := hK
  refine ro_aload_n hK dC_lay_0 rfl ?_
  refine ro_iload_n hK dC_lay_1 rfl ?_
  refine ro_iload_n hK dC_lay_2 rfl ?_
  obtain ⟨r_3, s_1, q_2, h⟩ := mb_cl_e h
  refine rb_callV hK mC_placeRefusal vC_91 (t_C_placeRefusal (dd := dd + 0) q_2) rfl mb_oC rfl (Nat.le_of_ble_eq_true rfl) dC_lay_3 rfl ⟨Nat.le_refl _, Nat.le_refl _⟩ ?_
  show K 0 0 6 [.ref 0, .int x1, .int x2, .int x3, .retAddr 0] [.int r_3] (mb_s s_1)
  refine ro_istore hK dC_lay_6 (by decide) ?_
  show K 0 0 8 [.ref 0, .int x1, .int x2, .int x3, .int r_3] [] (mb_s s_1)
  refine ro_iload hK dC_lay_8 rfl ?_
  refine ro_if_eq (tgt := 16) hK dC_lay_10 (by decide) (fun c_4 => ?_) (fun c_4 => ?_)
  · replace h := mb_ift c_4 h
    refine ro_aload_n hK dC_lay_16 rfl ?_
    refine ro_aload_n hK dC_lay_17 rfl ?_
    refine rb_get hK fC_11 mb_oC rfl dC_lay_18 ?_
    refine ro_iload_n hK dC_lay_21 rfl ?_
    obtain ⟨i_5, h⟩ := mb_ix_e h
    refine rb_rows hK i_5 dC_lay_22 ?_
    refine ro_iload_n hK dC_lay_23 rfl ?_
    obtain ⟨x_6, e_7, i_8, h⟩ := mb_rd_e h
    refine rb_iald hK (mb_rw i_5) i_8 e_7 dC_lay_24 ?_
    obtain ⟨s_9, e_10, h⟩ := mb_bd_e h
    refine rb_put hK gC_74 mb_oC rfl (by show 14 < 15; decide) rfl rfl e_10 dC_lay_25 ?_
    refine ro_aload_n hK dC_lay_28 rfl ?_
    refine rb_get hK fC_11 mb_oC rfl dC_lay_29 ?_
    refine ro_iload_n hK dC_lay_32 rfl ?_
    obtain ⟨i_11, h⟩ := mb_ix_e h
    refine rb_rows hK i_11 dC_lay_33 ?_
    refine ro_iload_n hK dC_lay_34 rfl ?_
    refine ro_iload_n hK dC_lay_35 rfl ?_
    obtain ⟨s_12, e_13, i_14, h⟩ := mb_wr_e h
    refine rb_iast hK (mb_rw i_11) i_14 e_13 dC_lay_36 ?_
    refine ro_iconst (x := 1) hK (by decide) dC_lay_37 ?_
    cases h
    exact hR.1 0 0 38 _ _ _ _ rfl rfl dC_lay_38 ⟨rfl, rfl⟩
  · replace h := mb_iff c_4 h
    refine ro_iload hK dC_lay_13 rfl ?_
    cases h
    exact hR.1 0 0 15 _ _ _ _ rfl rfl dC_lay_15 ⟨rfl, rfl⟩
theorem dC_mark_0 : decode bC_mark 0 = .ok (.aload_n 0, 1) := by decide +kernel
theorem dC_mark_1 : decode bC_mark 1 = .ok (.iload_n 1, 1) := by decide +kernel
theorem dC_mark_2 : decode bC_mark 2 = .ok (.invokevirtual 131, 3) := by decide +kernel
theorem dC_mark_5 : decode bC_mark 5 = .ok (.ifCond .eq 13, 3) := by decide +kernel
theorem dC_mark_8 : decode bC_mark 8 = .ok (.iload_n 2, 1) := by decide +kernel
theorem dC_mark_9 : decode bC_mark 9 = .ok (.iconst 1, 1) := by decide +kernel
theorem dC_mark_10 : decode bC_mark 10 = .ok (.if_icmp .lt 8, 3) := by decide +kernel
theorem dC_mark_13 : decode bC_mark 13 = .ok (.iload_n 2, 1) := by decide +kernel
theorem dC_mark_14 : decode bC_mark 14 = .ok (.iconst 5, 1) := by decide +kernel
theorem dC_mark_15 : decode bC_mark 15 = .ok (.if_icmp .le 5, 3) := by decide +kernel
theorem dC_mark_18 : decode bC_mark 18 = .ok (.iconst (-1), 1) := by decide +kernel
theorem dC_mark_19 : decode bC_mark 19 = .ok (.ireturn, 1) := by decide +kernel
theorem dC_mark_20 : decode bC_mark 20 = .ok (.aload_n 0, 1) := by decide +kernel
theorem dC_mark_21 : decode bC_mark 21 = .ok (.getfield 29, 3) := by decide +kernel
theorem dC_mark_24 : decode bC_mark 24 = .ok (.getfield 137, 3) := by decide +kernel
theorem dC_mark_27 : decode bC_mark 27 = .ok (.iload_n 1, 1) := by decide +kernel
theorem dC_mark_28 : decode bC_mark 28 = .ok (.iaload, 1) := by decide +kernel
theorem dC_mark_29 : decode bC_mark 29 = .ok (.iload_n 2, 1) := by decide +kernel
theorem dC_mark_30 : decode bC_mark 30 = .ok (.invokestatic 140, 3) := by decide +kernel
theorem dC_mark_33 : decode bC_mark 33 = .ok (.ifCond .ne 9, 3) := by decide +kernel
theorem dC_mark_36 : decode bC_mark 36 = .ok (.aload_n 0, 1) := by decide +kernel
theorem dC_mark_37 : decode bC_mark 37 = .ok (.iconst 3, 1) := by decide +kernel
theorem dC_mark_38 : decode bC_mark 38 = .ok (.invokevirtual 87, 3) := by decide +kernel
theorem dC_mark_41 : decode bC_mark 41 = .ok (.ireturn, 1) := by decide +kernel
theorem dC_mark_42 : decode bC_mark 42 = .ok (.aload_n 0, 1) := by decide +kernel
theorem dC_mark_43 : decode bC_mark 43 = .ok (.getfield 50, 3) := by decide +kernel
theorem dC_mark_46 : decode bC_mark 46 = .ok (.aload_n 0, 1) := by decide +kernel
theorem dC_mark_47 : decode bC_mark 47 = .ok (.getfield 29, 3) := by decide +kernel
theorem dC_mark_50 : decode bC_mark 50 = .ok (.invokevirtual 144, 3) := by decide +kernel
theorem dC_mark_53 : decode bC_mark 53 = .ok (.iload_n 2, 1) := by decide +kernel
theorem dC_mark_54 : decode bC_mark 54 = .ok (.tableswitch 85 1 4 #[30, 42, 59, 75], 30) := by decide +kernel
theorem dC_mark_84 : decode bC_mark 84 = .ok (.aload_n 0, 1) := by decide +kernel
theorem dC_mark_85 : decode bC_mark 85 = .ok (.getfield 50, 3) := by decide +kernel
theorem dC_mark_88 : decode bC_mark 88 = .ok (.iload_n 1, 1) := by decide +kernel
theorem dC_mark_89 : decode bC_mark 89 = .ok (.invokevirtual 147, 3) := by decide +kernel
theorem dC_mark_92 : decode bC_mark 92 = .ok (.invokestatic 150, 3) := by decide +kernel
theorem dC_mark_95 : decode bC_mark 95 = .ok (.ireturn, 1) := by decide +kernel
theorem dC_mark_96 : decode bC_mark 96 = .ok (.aload_n 0, 1) := by decide +kernel
theorem dC_mark_97 : decode bC_mark 97 = .ok (.getfield 50, 3) := by decide +kernel
theorem dC_mark_100 : decode bC_mark 100 = .ok (.iload_n 1, 1) := by decide +kernel
theorem dC_mark_101 : decode bC_mark 101 = .ok (.aload_n 0, 1) := by decide +kernel
theorem dC_mark_102 : decode bC_mark 102 = .ok (.getfield 50, 3) := by decide +kernel
theorem dC_mark_105 : decode bC_mark 105 = .ok (.iload_n 1, 1) := by decide +kernel
theorem dC_mark_106 : decode bC_mark 106 = .ok (.invokevirtual 147, 3) := by decide +kernel
theorem dC_mark_109 : decode bC_mark 109 = .ok (.invokevirtual 155, 3) := by decide +kernel
theorem dC_mark_112 : decode bC_mark 112 = .ok (.ireturn, 1) := by decide +kernel
theorem dC_mark_113 : decode bC_mark 113 = .ok (.aload_n 0, 1) := by decide +kernel
theorem dC_mark_114 : decode bC_mark 114 = .ok (.getfield 50, 3) := by decide +kernel
theorem dC_mark_117 : decode bC_mark 117 = .ok (.iload_n 1, 1) := by decide +kernel
theorem dC_mark_118 : decode bC_mark 118 = .ok (.aload_n 0, 1) := by decide +kernel
theorem dC_mark_119 : decode bC_mark 119 = .ok (.getfield 50, 3) := by decide +kernel
theorem dC_mark_122 : decode bC_mark 122 = .ok (.invokevirtual 158, 3) := by decide +kernel
theorem dC_mark_125 : decode bC_mark 125 = .ok (.invokevirtual 155, 3) := by decide +kernel
theorem dC_mark_128 : decode bC_mark 128 = .ok (.ireturn, 1) := by decide +kernel
theorem dC_mark_129 : decode bC_mark 129 = .ok (.aload_n 0, 1) := by decide +kernel
theorem dC_mark_130 : decode bC_mark 130 = .ok (.getfield 50, 3) := by decide +kernel
theorem dC_mark_133 : decode bC_mark 133 = .ok (.invokevirtual 162, 3) := by decide +kernel
theorem dC_mark_136 : decode bC_mark 136 = .ok (.iconst 1, 1) := by decide +kernel
theorem dC_mark_137 : decode bC_mark 137 = .ok (.isub, 1) := by decide +kernel
theorem dC_mark_138 : decode bC_mark 138 = .ok (.ireturn, 1) := by decide +kernel
theorem dC_mark_139 : decode bC_mark 139 = .ok (.aload_n 0, 1) := by decide +kernel
theorem dC_mark_140 : decode bC_mark 140 = .ok (.getfield 29, 3) := by decide +kernel
theorem dC_mark_143 : decode bC_mark 143 = .ok (.iload_n 1, 1) := by decide +kernel
theorem dC_mark_144 : decode bC_mark 144 = .ok (.invokevirtual 165, 3) := by decide +kernel
theorem dC_mark_147 : decode bC_mark 147 = .ok (.ireturn, 1) := by decide +kernel
def f_C_mark (n : Nat) (x1 : Int32) (x2 : Int32) (s : mb_T) : Option (Int32 × mb_T) := mb_cl (f_C_isOne n x1 s) fun r_3 s_1 => if r_3 = 0 then some ((-1), s_1) else if x2 < 1 then some ((-1), s_1) else if x2 ≤ 5 then (mb_rd s_1 (100 + 5) 5 x1 fun x_7 => mb_cl (f_C_isOfKind n x_7 x2 s_1) fun r_12 s_10 => if r_12 = 0 then (mb_cl (f_C_found n 3 s_10) fun r_46 s_44 => some (r_46, s_44)) else mb_cw (f_A_begin n 100 s_10) fun s_14 => if x2 = 1 then (mb_cl (f_A_bitsBeside n x1 s_14) fun r_40 s_38 => mb_cl (f_I_bitCount n r_40 s_38) fun r_43 s_41 => some (r_43, s_41)) else if x2 = 2 then (mb_cl (f_A_bitsBeside n x1 s_14) fun r_34 s_32 => mb_cl (f_A_moreAfraid n x1 r_34 s_32) fun r_37 s_35 => some (r_37, s_35)) else if x2 = 3 then (mb_cl (f_A_bitsOfAll n s_14) fun r_28 s_26 => mb_cl (f_A_moreAfraid n x1 r_28 s_26) fun r_31 s_29 => some (r_31, s_29)) else if x2 = 4 then (mb_cl (f_A_singers n s_14) fun r_25 s_23 => some ((r_25 - 1), s_23)) else mb_cl (f_V_timesHeld n 100 x1 s_14) fun r_22 s_20 => some (r_22, s_20)) else some ((-1), s_1)
set_option maxHeartbeats 4000000 in
set_option maxRecDepth 100000 in
theorem t_C_mark {dd n : Nat} {x1 : Int32} {x2 : Int32} {s : mb_T} {out : Int32 × mb_T}  (h : f_C_mark n x1 x2 s = some out) : mb_MC (dd + 4) yC_mark bC_mark 3 (some .int) [.ref 0, .int x1, .int x2] s (some (.int out.1)) out.2 := by
  unfold f_C_mark at h
  refine mj_mc (lv := [.ref 0, .int x1, .int x2]) mC_mark rfl rfl (Nat.le_of_ble_eq_true rfl) (fun K hK hR => ?_)
  have hK : mj_C (dd + 4) 0 0 RC_c "mark" bC_mark 3 K := hK
  refine ro_aload_n hK dC_mark_0 rfl ?_
  refine ro_iload_n hK dC_mark_1 rfl ?_
  obtain ⟨r_3, s_1, q_2, h⟩ := mb_cl_e h
  refine rb_callV hK mC_isOne vC_131 (t_C_isOne (dd := dd + 2) q_2) rfl mb_oC rfl (Nat.le_of_ble_eq_true rfl) dC_mark_2 rfl ⟨Nat.le_refl _, Nat.le_refl _⟩ ?_
  show K 0 0 5 [.ref 0, .int x1, .int x2] [.int r_3] (mb_s s_1)
  refine ro_if_eq (tgt := 18) hK dC_mark_5 (by decide) (fun c_4 => ?_) (fun c_4 => ?_)
  · replace h := mb_ift c_4 h
    refine ro_iconst (x := (-1)) hK (by decide) dC_mark_18 ?_
    cases h
    exact hR.1 0 0 19 _ _ _ _ rfl rfl dC_mark_19 ⟨rfl, rfl⟩
  · replace h := mb_iff c_4 h
    refine ro_iload_n hK dC_mark_8 rfl ?_
    refine ro_iconst (x := 1) hK (by decide) dC_mark_9 ?_
    refine ro_icmp_lt (tgt := 18) hK dC_mark_10 (by decide) (fun c_5 => ?_) (fun c_5 => ?_)
    · replace h := mb_ift c_5 h
      refine ro_iconst (x := (-1)) hK (by decide) dC_mark_18 ?_
      cases h
      exact hR.1 0 0 19 _ _ _ _ rfl rfl dC_mark_19 ⟨rfl, rfl⟩
    · replace h := mb_iff c_5 h
      refine ro_iload_n hK dC_mark_13 rfl ?_
      refine ro_iconst (x := 5) hK (by decide) dC_mark_14 ?_
      refine ro_icmp_le (tgt := 20) hK dC_mark_15 (by decide) (fun c_6 => ?_) (fun c_6 => ?_)
      · replace h := mb_ift c_6 h
        refine ro_aload_n hK dC_mark_20 rfl ?_
        refine rb_get hK fC_29 mb_oC rfl dC_mark_21 ?_
        refine rb_get hK fC_137 (mb_cvo (Or.inl rfl)) rfl dC_mark_24 ?_
        refine ro_iload_n hK dC_mark_27 rfl ?_
        obtain ⟨x_7, e_8, i_9, h⟩ := mb_rd_e h
        refine rb_iald hK (mb_cv5 (Or.inl rfl)) i_9 e_8 dC_mark_28 ?_
        refine ro_iload_n hK dC_mark_29 rfl ?_
        obtain ⟨r_12, s_10, q_11, h⟩ := mb_cl_e h
        refine rb_callS hK mC_isOfKind vC_140 (t_C_isOfKind (dd := dd + 2) q_11) rfl (Nat.le_of_ble_eq_true rfl) dC_mark_30 rfl ⟨Nat.le_refl _, Nat.le_refl _⟩ ?_
        show K 0 0 33 [.ref 0, .int x1, .int x2] [.int r_12] (mb_s s_10)
        refine ro_if_ne (tgt := 42) hK dC_mark_33 (by decide) (fun c_13 => ?_) (fun c_13 => ?_)
        · replace h := mb_iff c_13 h
          refine ro_aload_n hK dC_mark_42 rfl ?_
          refine rb_get hK fC_50 mb_oC rfl dC_mark_43 ?_
          refine ro_aload_n hK dC_mark_46 rfl ?_
          refine rb_get hK fC_29 mb_oC rfl dC_mark_47 ?_
          obtain ⟨s_14, q_15, h⟩ := mb_cw_e h
          refine rb_callV hK mA_begin vC_144 (t_A_begin (dd := dd + 0) (Or.inl rfl) q_15) rfl mb_oA rfl (Nat.le_of_ble_eq_true rfl) dC_mark_50 rfl ⟨Nat.le_refl _, Nat.le_refl _⟩ ?_
          show K 0 0 53 [.ref 0, .int x1, .int x2] [] (mb_s s_14)
          refine ro_iload_n hK dC_mark_53 rfl ?_
          by_cases c_16 : x2 = 1
          · replace h := mb_ift c_16 h
            refine ro_tabIn (off := 30) (tgt := 84) hK dC_mark_54 (by rw [c_16]; decide) (by rw [c_16]; decide) (by rw [c_16]; decide) (by decide) ?_
            refine ro_aload_n hK dC_mark_84 rfl ?_
            refine rb_get hK fC_50 mb_oC rfl dC_mark_85 ?_
            refine ro_iload_n hK dC_mark_88 rfl ?_
            obtain ⟨r_40, s_38, q_39, h⟩ := mb_cl_e h
            refine rb_callV hK mA_bitsBeside vC_147 (t_A_bitsBeside (dd := dd + 1) q_39) rfl mb_oA rfl (Nat.le_of_ble_eq_true rfl) dC_mark_89 rfl ⟨Nat.le_refl _, Nat.le_refl _⟩ ?_
            show K 0 0 92 [.ref 0, .int x1, .int x2] [.int r_40] (mb_s s_38)
            obtain ⟨r_43, s_41, q_42, h⟩ := mb_cl_e h
            refine rb_callS hK mI_bitCount vC_150 (t_I_bitCount (dd := dd + 2) q_42) rfl (Nat.le_of_ble_eq_true rfl) dC_mark_92 rfl ⟨Nat.le_refl _, Nat.le_refl _⟩ ?_
            show K 0 0 95 [.ref 0, .int x1, .int x2] [.int r_43] (mb_s s_41)
            cases h
            exact hR.1 0 0 95 _ _ _ _ rfl rfl dC_mark_95 ⟨rfl, rfl⟩
          · replace h := mb_iff c_16 h
            by_cases c_17 : x2 = 2
            · replace h := mb_ift c_17 h
              refine ro_tabIn (off := 42) (tgt := 96) hK dC_mark_54 (by rw [c_17]; decide) (by rw [c_17]; decide) (by rw [c_17]; decide) (by decide) ?_
              refine ro_aload_n hK dC_mark_96 rfl ?_
              refine rb_get hK fC_50 mb_oC rfl dC_mark_97 ?_
              refine ro_iload_n hK dC_mark_100 rfl ?_
              refine ro_aload_n hK dC_mark_101 rfl ?_
              refine rb_get hK fC_50 mb_oC rfl dC_mark_102 ?_
              refine ro_iload_n hK dC_mark_105 rfl ?_
              obtain ⟨r_34, s_32, q_33, h⟩ := mb_cl_e h
              refine rb_callV hK mA_bitsBeside vC_147 (t_A_bitsBeside (dd := dd + 1) q_33) rfl mb_oA rfl (Nat.le_of_ble_eq_true rfl) dC_mark_106 rfl ⟨Nat.le_refl _, Nat.le_refl _⟩ ?_
              show K 0 0 109 [.ref 0, .int x1, .int x2] [.int r_34, .int x1, .ref 40] (mb_s s_32)
              obtain ⟨r_37, s_35, q_36, h⟩ := mb_cl_e h
              refine rb_callV hK mA_moreAfraid vC_155 (t_A_moreAfraid (dd := dd + 2) q_36) rfl mb_oA rfl (Nat.le_of_ble_eq_true rfl) dC_mark_109 rfl ⟨Nat.le_refl _, Nat.le_refl _⟩ ?_
              show K 0 0 112 [.ref 0, .int x1, .int x2] [.int r_37] (mb_s s_35)
              cases h
              exact hR.1 0 0 112 _ _ _ _ rfl rfl dC_mark_112 ⟨rfl, rfl⟩
            · replace h := mb_iff c_17 h
              by_cases c_18 : x2 = 3
              · replace h := mb_ift c_18 h
                refine ro_tabIn (off := 59) (tgt := 113) hK dC_mark_54 (by rw [c_18]; decide) (by rw [c_18]; decide) (by rw [c_18]; decide) (by decide) ?_
                refine ro_aload_n hK dC_mark_113 rfl ?_
                refine rb_get hK fC_50 mb_oC rfl dC_mark_114 ?_
                refine ro_iload_n hK dC_mark_117 rfl ?_
                refine ro_aload_n hK dC_mark_118 rfl ?_
                refine rb_get hK fC_50 mb_oC rfl dC_mark_119 ?_
                obtain ⟨r_28, s_26, q_27, h⟩ := mb_cl_e h
                refine rb_callV hK mA_bitsOfAll vC_158 (t_A_bitsOfAll (dd := dd + 2) q_27) rfl mb_oA rfl (Nat.le_of_ble_eq_true rfl) dC_mark_122 rfl ⟨Nat.le_refl _, Nat.le_refl _⟩ ?_
                show K 0 0 125 [.ref 0, .int x1, .int x2] [.int r_28, .int x1, .ref 40] (mb_s s_26)
                obtain ⟨r_31, s_29, q_30, h⟩ := mb_cl_e h
                refine rb_callV hK mA_moreAfraid vC_155 (t_A_moreAfraid (dd := dd + 2) q_30) rfl mb_oA rfl (Nat.le_of_ble_eq_true rfl) dC_mark_125 rfl ⟨Nat.le_refl _, Nat.le_refl _⟩ ?_
                show K 0 0 128 [.ref 0, .int x1, .int x2] [.int r_31] (mb_s s_29)
                cases h
                exact hR.1 0 0 128 _ _ _ _ rfl rfl dC_mark_128 ⟨rfl, rfl⟩
              · replace h := mb_iff c_18 h
                by_cases c_19 : x2 = 4
                · replace h := mb_ift c_19 h
                  refine ro_tabIn (off := 75) (tgt := 129) hK dC_mark_54 (by rw [c_19]; decide) (by rw [c_19]; decide) (by rw [c_19]; decide) (by decide) ?_
                  refine ro_aload_n hK dC_mark_129 rfl ?_
                  refine rb_get hK fC_50 mb_oC rfl dC_mark_130 ?_
                  obtain ⟨r_25, s_23, q_24, h⟩ := mb_cl_e h
                  refine rb_callV hK mA_singers vC_162 (t_A_singers (dd := dd + 2) q_24) rfl mb_oA rfl (Nat.le_of_ble_eq_true rfl) dC_mark_133 rfl ⟨Nat.le_refl _, Nat.le_refl _⟩ ?_
                  show K 0 0 136 [.ref 0, .int x1, .int x2] [.int r_25] (mb_s s_23)
                  refine ro_iconst (x := 1) hK (by decide) dC_mark_136 ?_
                  refine ro_isub hK dC_mark_137 ?_
                  cases h
                  exact hR.1 0 0 138 _ _ _ _ rfl rfl dC_mark_138 ⟨rfl, rfl⟩
                · replace h := mb_iff c_19 h
                  have hz : Int32.toInt x2 < 1 ∨ 4 < Int32.toInt x2 := by
                    rcases Int.lt_or_le (Int32.toInt x2) 1 with hz | hz
                    · exact Or.inl hz
                    · rcases Int.lt_or_le 4 (Int32.toInt x2) with hw | hw
                      · exact Or.inr hw
                      · exfalso
                        have ho : Int32.toInt x2 = 1 ∨ Int32.toInt x2 = 2 ∨ Int32.toInt x2 = 3 ∨ Int32.toInt x2 = 4 := by omega
                        rcases ho with ho | ho | ho | ho
                        · exact c_16 (Int32.toInt_inj.mp (by rw [ho]; decide))
                        · exact c_17 (Int32.toInt_inj.mp (by rw [ho]; decide))
                        · exact c_18 (Int32.toInt_inj.mp (by rw [ho]; decide))
                        · exact c_19 (Int32.toInt_inj.mp (by rw [ho]; decide))
                  refine ro_tabOut (tgt := 139) hK dC_mark_54 hz (by decide) ?_
                  refine ro_aload_n hK dC_mark_139 rfl ?_
                  refine rb_get hK fC_29 mb_oC rfl dC_mark_140 ?_
                  refine ro_iload_n hK dC_mark_143 rfl ?_
                  obtain ⟨r_22, s_20, q_21, h⟩ := mb_cl_e h
                  refine rb_callV hK mV_timesHeld vC_165 (t_V_timesHeld (dd := dd + 2) (Or.inl rfl) q_21) rfl (mb_cvo (Or.inl rfl)) rfl (Nat.le_of_ble_eq_true rfl) dC_mark_144 rfl ⟨Nat.le_refl _, Nat.le_refl _⟩ ?_
                  show K 0 0 147 [.ref 0, .int x1, .int x2] [.int r_22] (mb_s s_20)
                  cases h
                  exact hR.1 0 0 147 _ _ _ _ rfl rfl dC_mark_147 ⟨rfl, rfl⟩
        · replace h := mb_ift c_13 h
          refine ro_aload_n hK dC_mark_36 rfl ?_
          refine ro_iconst (x := 3) hK (by decide) dC_mark_37 ?_
          obtain ⟨r_46, s_44, q_45, h⟩ := mb_cl_e h
          refine rb_callV hK mC_found vC_87 (t_C_found (dd := dd + 2) q_45) rfl mb_oC rfl (Nat.le_of_ble_eq_true rfl) dC_mark_38 rfl ⟨Nat.le_refl _, Nat.le_refl _⟩ ?_
          show K 0 0 41 [.ref 0, .int x1, .int x2] [.int r_46] (mb_s s_44)
          cases h
          exact hR.1 0 0 41 _ _ _ _ rfl rfl dC_mark_41 ⟨rfl, rfl⟩
      · replace h := mb_iff c_6 h
        refine ro_iconst (x := (-1)) hK (by decide) dC_mark_18 ?_
        cases h
        exact hR.1 0 0 19 _ _ _ _ rfl rfl dC_mark_19 ⟨rfl, rfl⟩
theorem dC_ofPerson_0 : decode bC_ofPerson 0 = .ok (.iload_n 2, 1) := by decide +kernel
theorem dC_ofPerson_1 : decode bC_ofPerson 1 = .ok (.tableswitch 85 0 4 #[35, 45, 55, 65, 75], 35) := by decide +kernel
theorem dC_ofPerson_36 : decode bC_ofPerson 36 = .ok (.aload_n 0, 1) := by decide +kernel
theorem dC_ofPerson_37 : decode bC_ofPerson 37 = .ok (.getfield 29, 3) := by decide +kernel
theorem dC_ofPerson_40 : decode bC_ofPerson 40 = .ok (.getfield 137, 3) := by decide +kernel
theorem dC_ofPerson_43 : decode bC_ofPerson 43 = .ok (.iload_n 1, 1) := by decide +kernel
theorem dC_ofPerson_44 : decode bC_ofPerson 44 = .ok (.iaload, 1) := by decide +kernel
theorem dC_ofPerson_45 : decode bC_ofPerson 45 = .ok (.ireturn, 1) := by decide +kernel
theorem dC_ofPerson_46 : decode bC_ofPerson 46 = .ok (.aload_n 0, 1) := by decide +kernel
theorem dC_ofPerson_47 : decode bC_ofPerson 47 = .ok (.getfield 29, 3) := by decide +kernel
theorem dC_ofPerson_50 : decode bC_ofPerson 50 = .ok (.getfield 177, 3) := by decide +kernel
theorem dC_ofPerson_53 : decode bC_ofPerson 53 = .ok (.iload_n 1, 1) := by decide +kernel
theorem dC_ofPerson_54 : decode bC_ofPerson 54 = .ok (.iaload, 1) := by decide +kernel
theorem dC_ofPerson_55 : decode bC_ofPerson 55 = .ok (.ireturn, 1) := by decide +kernel
theorem dC_ofPerson_56 : decode bC_ofPerson 56 = .ok (.aload_n 0, 1) := by decide +kernel
theorem dC_ofPerson_57 : decode bC_ofPerson 57 = .ok (.getfield 29, 3) := by decide +kernel
theorem dC_ofPerson_60 : decode bC_ofPerson 60 = .ok (.getfield 349, 3) := by decide +kernel
theorem dC_ofPerson_63 : decode bC_ofPerson 63 = .ok (.iload_n 1, 1) := by decide +kernel
theorem dC_ofPerson_64 : decode bC_ofPerson 64 = .ok (.iaload, 1) := by decide +kernel
theorem dC_ofPerson_65 : decode bC_ofPerson 65 = .ok (.ireturn, 1) := by decide +kernel
theorem dC_ofPerson_66 : decode bC_ofPerson 66 = .ok (.aload_n 0, 1) := by decide +kernel
theorem dC_ofPerson_67 : decode bC_ofPerson 67 = .ok (.getfield 29, 3) := by decide +kernel
theorem dC_ofPerson_70 : decode bC_ofPerson 70 = .ok (.getfield 350, 3) := by decide +kernel
theorem dC_ofPerson_73 : decode bC_ofPerson 73 = .ok (.iload_n 1, 1) := by decide +kernel
theorem dC_ofPerson_74 : decode bC_ofPerson 74 = .ok (.iaload, 1) := by decide +kernel
theorem dC_ofPerson_75 : decode bC_ofPerson 75 = .ok (.ireturn, 1) := by decide +kernel
theorem dC_ofPerson_76 : decode bC_ofPerson 76 = .ok (.aload_n 0, 1) := by decide +kernel
theorem dC_ofPerson_77 : decode bC_ofPerson 77 = .ok (.getfield 29, 3) := by decide +kernel
theorem dC_ofPerson_80 : decode bC_ofPerson 80 = .ok (.getfield 315, 3) := by decide +kernel
theorem dC_ofPerson_83 : decode bC_ofPerson 83 = .ok (.iload_n 1, 1) := by decide +kernel
theorem dC_ofPerson_84 : decode bC_ofPerson 84 = .ok (.iaload, 1) := by decide +kernel
theorem dC_ofPerson_85 : decode bC_ofPerson 85 = .ok (.ireturn, 1) := by decide +kernel
theorem dC_ofPerson_86 : decode bC_ofPerson 86 = .ok (.aload_n 0, 1) := by decide +kernel
theorem dC_ofPerson_87 : decode bC_ofPerson 87 = .ok (.getfield 50, 3) := by decide +kernel
theorem dC_ofPerson_90 : decode bC_ofPerson 90 = .ok (.aload_n 0, 1) := by decide +kernel
theorem dC_ofPerson_91 : decode bC_ofPerson 91 = .ok (.getfield 29, 3) := by decide +kernel
theorem dC_ofPerson_94 : decode bC_ofPerson 94 = .ok (.invokevirtual 144, 3) := by decide +kernel
theorem dC_ofPerson_97 : decode bC_ofPerson 97 = .ok (.aload_n 0, 1) := by decide +kernel
theorem dC_ofPerson_98 : decode bC_ofPerson 98 = .ok (.getfield 50, 3) := by decide +kernel
theorem dC_ofPerson_101 : decode bC_ofPerson 101 = .ok (.iload_n 1, 1) := by decide +kernel
theorem dC_ofPerson_102 : decode bC_ofPerson 102 = .ok (.invokevirtual 353, 3) := by decide +kernel
theorem dC_ofPerson_105 : decode bC_ofPerson 105 = .ok (.ireturn, 1) := by decide +kernel
def f_C_ofPerson (n : Nat) (x1 : Int32) (x2 : Int32) (s : mb_T) : Option (Int32 × mb_T) := if x2 = 0 then (mb_rd s (100 + 5) 5 x1 fun x_23 => some (x_23, s)) else if x2 = 1 then (mb_rd s (100 + 6) 5 x1 fun x_20 => some (x_20, s)) else if x2 = 2 then (mb_rd s (100 + 7) 5 x1 fun x_17 => some (x_17, s)) else if x2 = 3 then (mb_rd s (100 + 8) 5 x1 fun x_14 => some (x_14, s)) else if x2 = 4 then (mb_rd s (100 + 9) 5 x1 fun x_11 => some (x_11, s)) else mb_cw (f_A_begin n 100 s) fun s_6 => mb_cl (f_A_shows n x1 s_6) fun r_10 s_8 => some (r_10, s_8)
set_option maxHeartbeats 4000000 in
set_option maxRecDepth 100000 in
theorem t_C_ofPerson {dd n : Nat} {x1 : Int32} {x2 : Int32} {s : mb_T} {out : Int32 × mb_T}  (h : f_C_ofPerson n x1 x2 s = some out) : mb_MC (dd + 4) yC_ofPerson bC_ofPerson 3 (some .int) [.ref 0, .int x1, .int x2] s (some (.int out.1)) out.2 := by
  unfold f_C_ofPerson at h
  refine mj_mc (lv := [.ref 0, .int x1, .int x2]) mC_ofPerson rfl rfl (Nat.le_of_ble_eq_true rfl) (fun K hK hR => ?_)
  have hK : mj_C (dd + 4) 0 0 RC_c "ofPerson" bC_ofPerson 3 K := hK
  refine ro_iload_n hK dC_ofPerson_0 rfl ?_
  by_cases c_1 : x2 = 0
  · replace h := mb_ift c_1 h
    refine ro_tabIn (off := 35) (tgt := 36) hK dC_ofPerson_1 (by rw [c_1]; decide) (by rw [c_1]; decide) (by rw [c_1]; decide) (by decide) ?_
    refine ro_aload_n hK dC_ofPerson_36 rfl ?_
    refine rb_get hK fC_29 mb_oC rfl dC_ofPerson_37 ?_
    refine rb_get hK fC_137 (mb_cvo (Or.inl rfl)) rfl dC_ofPerson_40 ?_
    refine ro_iload_n hK dC_ofPerson_43 rfl ?_
    obtain ⟨x_23, e_24, i_25, h⟩ := mb_rd_e h
    refine rb_iald hK (mb_cv5 (Or.inl rfl)) i_25 e_24 dC_ofPerson_44 ?_
    cases h
    exact hR.1 0 0 45 _ _ _ _ rfl rfl dC_ofPerson_45 ⟨rfl, rfl⟩
  · replace h := mb_iff c_1 h
    by_cases c_2 : x2 = 1
    · replace h := mb_ift c_2 h
      refine ro_tabIn (off := 45) (tgt := 46) hK dC_ofPerson_1 (by rw [c_2]; decide) (by rw [c_2]; decide) (by rw [c_2]; decide) (by decide) ?_
      refine ro_aload_n hK dC_ofPerson_46 rfl ?_
      refine rb_get hK fC_29 mb_oC rfl dC_ofPerson_47 ?_
      refine rb_get hK fC_177 (mb_cvo (Or.inl rfl)) rfl dC_ofPerson_50 ?_
      refine ro_iload_n hK dC_ofPerson_53 rfl ?_
      obtain ⟨x_20, e_21, i_22, h⟩ := mb_rd_e h
      refine rb_iald hK (mb_cv6 (Or.inl rfl)) i_22 e_21 dC_ofPerson_54 ?_
      cases h
      exact hR.1 0 0 55 _ _ _ _ rfl rfl dC_ofPerson_55 ⟨rfl, rfl⟩
    · replace h := mb_iff c_2 h
      by_cases c_3 : x2 = 2
      · replace h := mb_ift c_3 h
        refine ro_tabIn (off := 55) (tgt := 56) hK dC_ofPerson_1 (by rw [c_3]; decide) (by rw [c_3]; decide) (by rw [c_3]; decide) (by decide) ?_
        refine ro_aload_n hK dC_ofPerson_56 rfl ?_
        refine rb_get hK fC_29 mb_oC rfl dC_ofPerson_57 ?_
        refine rb_get hK fC_349 (mb_cvo (Or.inl rfl)) rfl dC_ofPerson_60 ?_
        refine ro_iload_n hK dC_ofPerson_63 rfl ?_
        obtain ⟨x_17, e_18, i_19, h⟩ := mb_rd_e h
        refine rb_iald hK (mb_cv7 (Or.inl rfl)) i_19 e_18 dC_ofPerson_64 ?_
        cases h
        exact hR.1 0 0 65 _ _ _ _ rfl rfl dC_ofPerson_65 ⟨rfl, rfl⟩
      · replace h := mb_iff c_3 h
        by_cases c_4 : x2 = 3
        · replace h := mb_ift c_4 h
          refine ro_tabIn (off := 65) (tgt := 66) hK dC_ofPerson_1 (by rw [c_4]; decide) (by rw [c_4]; decide) (by rw [c_4]; decide) (by decide) ?_
          refine ro_aload_n hK dC_ofPerson_66 rfl ?_
          refine rb_get hK fC_29 mb_oC rfl dC_ofPerson_67 ?_
          refine rb_get hK fC_350 (mb_cvo (Or.inl rfl)) rfl dC_ofPerson_70 ?_
          refine ro_iload_n hK dC_ofPerson_73 rfl ?_
          obtain ⟨x_14, e_15, i_16, h⟩ := mb_rd_e h
          refine rb_iald hK (mb_cv8 (Or.inl rfl)) i_16 e_15 dC_ofPerson_74 ?_
          cases h
          exact hR.1 0 0 75 _ _ _ _ rfl rfl dC_ofPerson_75 ⟨rfl, rfl⟩
        · replace h := mb_iff c_4 h
          by_cases c_5 : x2 = 4
          · replace h := mb_ift c_5 h
            refine ro_tabIn (off := 75) (tgt := 76) hK dC_ofPerson_1 (by rw [c_5]; decide) (by rw [c_5]; decide) (by rw [c_5]; decide) (by decide) ?_
            refine ro_aload_n hK dC_ofPerson_76 rfl ?_
            refine rb_get hK fC_29 mb_oC rfl dC_ofPerson_77 ?_
            refine rb_get hK fC_315 (mb_cvo (Or.inl rfl)) rfl dC_ofPerson_80 ?_
            refine ro_iload_n hK dC_ofPerson_83 rfl ?_
            obtain ⟨x_11, e_12, i_13, h⟩ := mb_rd_e h
            refine rb_iald hK (mb_cv9 (Or.inl rfl)) i_13 e_12 dC_ofPerson_84 ?_
            cases h
            exact hR.1 0 0 85 _ _ _ _ rfl rfl dC_ofPerson_85 ⟨rfl, rfl⟩
          · replace h := mb_iff c_5 h
            have hz : Int32.toInt x2 < 0 ∨ 4 < Int32.toInt x2 := by
              rcases Int.lt_or_le (Int32.toInt x2) 0 with hz | hz
              · exact Or.inl hz
              · rcases Int.lt_or_le 4 (Int32.toInt x2) with hw | hw
                · exact Or.inr hw
                · exfalso
                  have ho : Int32.toInt x2 = 0 ∨ Int32.toInt x2 = 1 ∨ Int32.toInt x2 = 2 ∨ Int32.toInt x2 = 3 ∨ Int32.toInt x2 = 4 := by omega
                  rcases ho with ho | ho | ho | ho | ho
                  · exact c_1 (Int32.toInt_inj.mp (by rw [ho]; decide))
                  · exact c_2 (Int32.toInt_inj.mp (by rw [ho]; decide))
                  · exact c_3 (Int32.toInt_inj.mp (by rw [ho]; decide))
                  · exact c_4 (Int32.toInt_inj.mp (by rw [ho]; decide))
                  · exact c_5 (Int32.toInt_inj.mp (by rw [ho]; decide))
            refine ro_tabOut (tgt := 86) hK dC_ofPerson_1 hz (by decide) ?_
            refine ro_aload_n hK dC_ofPerson_86 rfl ?_
            refine rb_get hK fC_50 mb_oC rfl dC_ofPerson_87 ?_
            refine ro_aload_n hK dC_ofPerson_90 rfl ?_
            refine rb_get hK fC_29 mb_oC rfl dC_ofPerson_91 ?_
            obtain ⟨s_6, q_7, h⟩ := mb_cw_e h
            refine rb_callV hK mA_begin vC_144 (t_A_begin (dd := dd + 0) (Or.inl rfl) q_7) rfl mb_oA rfl (Nat.le_of_ble_eq_true rfl) dC_ofPerson_94 rfl ⟨Nat.le_refl _, Nat.le_refl _⟩ ?_
            show K 0 0 97 [.ref 0, .int x1, .int x2] [] (mb_s s_6)
            refine ro_aload_n hK dC_ofPerson_97 rfl ?_
            refine rb_get hK fC_50 mb_oC rfl dC_ofPerson_98 ?_
            refine ro_iload_n hK dC_ofPerson_101 rfl ?_
            obtain ⟨r_10, s_8, q_9, h⟩ := mb_cl_e h
            refine rb_callV hK mA_shows vC_353 (t_A_shows (dd := dd + 1) q_9) rfl mb_oA rfl (Nat.le_of_ble_eq_true rfl) dC_ofPerson_102 rfl ⟨Nat.le_refl _, Nat.le_refl _⟩ ?_
            show K 0 0 105 [.ref 0, .int x1, .int x2] [.int r_10] (mb_s s_8)
            cases h
            exact hR.1 0 0 105 _ _ _ _ rfl rfl dC_ofPerson_105 ⟨rfl, rfl⟩
theorem dC_over_0 : decode bC_over 0 = .ok (.aload_n 0, 1) := by decide +kernel
theorem dC_over_1 : decode bC_over 1 = .ok (.getfield 50, 3) := by decide +kernel
theorem dC_over_4 : decode bC_over 4 = .ok (.aload_n 0, 1) := by decide +kernel
theorem dC_over_5 : decode bC_over 5 = .ok (.getfield 29, 3) := by decide +kernel
theorem dC_over_8 : decode bC_over 8 = .ok (.invokevirtual 144, 3) := by decide +kernel
theorem dC_over_11 : decode bC_over 11 = .ok (.aload_n 0, 1) := by decide +kernel
theorem dC_over_12 : decode bC_over 12 = .ok (.aload_n 0, 1) := by decide +kernel
theorem dC_over_13 : decode bC_over 13 = .ok (.getfield 50, 3) := by decide +kernel
theorem dC_over_16 : decode bC_over 16 = .ok (.invokevirtual 203, 3) := by decide +kernel
theorem dC_over_19 : decode bC_over 19 = .ok (.putfield 74, 3) := by decide +kernel
theorem dC_over_22 : decode bC_over 22 = .ok (.aload_n 0, 1) := by decide +kernel
theorem dC_over_23 : decode bC_over 23 = .ok (.getfield 74, 3) := by decide +kernel
theorem dC_over_26 : decode bC_over 26 = .ok (.ifCond .eq 7, 3) := by decide +kernel
theorem dC_over_29 : decode bC_over 29 = .ok (.iconst 1, 1) := by decide +kernel
theorem dC_over_30 : decode bC_over 30 = .ok (.goto 4, 3) := by decide +kernel
theorem dC_over_33 : decode bC_over 33 = .ok (.iconst 0, 1) := by decide +kernel
theorem dC_over_34 : decode bC_over 34 = .ok (.ireturn, 1) := by decide +kernel
def f_C_over (n : Nat)  (s : mb_T) : Option (Int32 × mb_T) := mb_cw (f_A_begin n 100 s) fun s_1 => mb_cl (f_A_whoScream n s_1) fun r_5 s_3 => mb_bd (sF s_3 0 14 r_5) fun s_6 => some ((if (s_6.1 0 14) = 0 then 0 else 1 : Int32), s_6)
set_option maxHeartbeats 4000000 in
set_option maxRecDepth 100000 in
theorem t_C_over {dd n : Nat}  {s : mb_T} {out : Int32 × mb_T}  (h : f_C_over n  s = some out) : mb_MC (dd + 4) yC_over bC_over 1 (some .int) [.ref 0] s (some (.int out.1)) out.2 := by
  unfold f_C_over at h
  refine mj_mc (lv := [.ref 0]) mC_over rfl rfl (Nat.le_of_ble_eq_true rfl) (fun K hK hR => ?_)
  have hK : mj_C (dd + 4) 0 0 RC_c "over" bC_over 1 K := hK
  refine ro_aload_n hK dC_over_0 rfl ?_
  refine rb_get hK fC_50 mb_oC rfl dC_over_1 ?_
  refine ro_aload_n hK dC_over_4 rfl ?_
  refine rb_get hK fC_29 mb_oC rfl dC_over_5 ?_
  obtain ⟨s_1, q_2, h⟩ := mb_cw_e h
  refine rb_callV hK mA_begin vC_144 (t_A_begin (dd := dd + 0) (Or.inl rfl) q_2) rfl mb_oA rfl (Nat.le_of_ble_eq_true rfl) dC_over_8 rfl ⟨Nat.le_refl _, Nat.le_refl _⟩ ?_
  show K 0 0 11 [.ref 0] [] (mb_s s_1)
  refine ro_aload_n hK dC_over_11 rfl ?_
  refine ro_aload_n hK dC_over_12 rfl ?_
  refine rb_get hK fC_50 mb_oC rfl dC_over_13 ?_
  obtain ⟨r_5, s_3, q_4, h⟩ := mb_cl_e h
  refine rb_callV hK mA_whoScream vC_203 (t_A_whoScream (dd := dd + 2) q_4) rfl mb_oA rfl (Nat.le_of_ble_eq_true rfl) dC_over_16 rfl ⟨Nat.le_refl _, Nat.le_refl _⟩ ?_
  show K 0 0 19 [.ref 0] [.int r_5, .ref 0] (mb_s s_3)
  obtain ⟨s_6, e_7, h⟩ := mb_bd_e h
  refine rb_put hK gC_74 mb_oC rfl (by show 14 < 15; decide) rfl rfl e_7 dC_over_19 ?_
  refine ro_aload_n hK dC_over_22 rfl ?_
  refine rb_get hK fC_74 mb_oC rfl dC_over_23 ?_
  have j_9 : ∀ w_ : Int32, w_ = (if (s_6.1 0 14) = 0 then 0 else 1 : Int32) → K 0 0 34 [.ref 0] [.int w_] (mb_s s_6) → K 0 0 26 [.ref 0] [.int (s_6.1 0 14)] (mb_s s_6) := by
    intro w_ hw hj
    refine ro_if_eq (tgt := 33) hK dC_over_26 (by decide) (fun c_8 => ?_) (fun c_8 => ?_)
    · skip
      refine ro_iconst (x := 0) hK (by decide) dC_over_33 ?_
      have hw := (hw.trans (if_pos c_8))
      subst hw
      exact hj
    · skip
      refine ro_iconst (x := 1) hK (by decide) dC_over_29 ?_
      refine ro_goto (tgt := 34) hK dC_over_30 (by decide) ?_
      have hw := (hw.trans (if_neg c_8))
      subst hw
      exact hj
  refine j_9 _ rfl ?_
  cases h
  exact hR.1 0 0 34 _ _ _ _ rfl rfl dC_over_34 ⟨rfl, rfl⟩
theorem dC_song_0 : decode bC_song 0 = .ok (.iload_n 1, 1) := by decide +kernel
theorem dC_song_1 : decode bC_song 1 = .ok (.iconst 1, 1) := by decide +kernel
theorem dC_song_2 : decode bC_song 2 = .ok (.if_icmp .lt 9, 3) := by decide +kernel
theorem dC_song_5 : decode bC_song 5 = .ok (.iload_n 1, 1) := by decide +kernel
theorem dC_song_6 : decode bC_song 6 = .ok (.bipush 99, 2) := by decide +kernel
theorem dC_song_8 : decode bC_song 8 = .ok (.if_icmp .le 5, 3) := by decide +kernel
theorem dC_song_11 : decode bC_song 11 = .ok (.iconst (-1), 1) := by decide +kernel
theorem dC_song_12 : decode bC_song 12 = .ok (.ireturn, 1) := by decide +kernel
theorem dC_song_13 : decode bC_song 13 = .ok (.aload_n 0, 1) := by decide +kernel
theorem dC_song_14 : decode bC_song 14 = .ok (.getfield 50, 3) := by decide +kernel
theorem dC_song_17 : decode bC_song 17 = .ok (.aload_n 0, 1) := by decide +kernel
theorem dC_song_18 : decode bC_song 18 = .ok (.getfield 29, 3) := by decide +kernel
theorem dC_song_21 : decode bC_song 21 = .ok (.invokevirtual 144, 3) := by decide +kernel
theorem dC_song_24 : decode bC_song 24 = .ok (.aload_n 0, 1) := by decide +kernel
theorem dC_song_25 : decode bC_song 25 = .ok (.getfield 29, 3) := by decide +kernel
theorem dC_song_28 : decode bC_song 28 = .ok (.getfield 128, 3) := by decide +kernel
theorem dC_song_31 : decode bC_song 31 = .ok (.ifCond .eq 24, 3) := by decide +kernel
theorem dC_song_34 : decode bC_song 34 = .ok (.aload_n 0, 1) := by decide +kernel
theorem dC_song_35 : decode bC_song 35 = .ok (.getfield 50, 3) := by decide +kernel
theorem dC_song_38 : decode bC_song 38 = .ok (.invokevirtual 186, 3) := by decide +kernel
theorem dC_song_41 : decode bC_song 41 = .ok (.ifCond .ne 14, 3) := by decide +kernel
theorem dC_song_44 : decode bC_song 44 = .ok (.aload_n 0, 1) := by decide +kernel
theorem dC_song_45 : decode bC_song 45 = .ok (.getfield 50, 3) := by decide +kernel
theorem dC_song_48 : decode bC_song 48 = .ok (.invokevirtual 216, 3) := by decide +kernel
theorem dC_song_51 : decode bC_song 51 = .ok (.iload_n 1, 1) := by decide +kernel
theorem dC_song_52 : decode bC_song 52 = .ok (.if_icmp .lt 6, 3) := by decide +kernel
theorem dC_song_55 : decode bC_song 55 = .ok (.bipush (-4), 2) := by decide +kernel
theorem dC_song_57 : decode bC_song 57 = .ok (.ireturn, 1) := by decide +kernel
theorem dC_song_58 : decode bC_song 58 = .ok (.aload_n 0, 1) := by decide +kernel
theorem dC_song_59 : decode bC_song 59 = .ok (.getfield 50, 3) := by decide +kernel
theorem dC_song_62 : decode bC_song 62 = .ok (.invokevirtual 219, 3) := by decide +kernel
theorem dC_song_65 : decode bC_song 65 = .ok (.aload_n 0, 1) := by decide +kernel
theorem dC_song_66 : decode bC_song 66 = .ok (.getfield 29, 3) := by decide +kernel
theorem dC_song_69 : decode bC_song 69 = .ok (.aload_n 0, 1) := by decide +kernel
theorem dC_song_70 : decode bC_song 70 = .ok (.getfield 50, 3) := by decide +kernel
theorem dC_song_73 : decode bC_song 73 = .ok (.invokevirtual 209, 3) := by decide +kernel
theorem dC_song_76 : decode bC_song 76 = .ok (.aload_n 0, 1) := by decide +kernel
theorem dC_song_77 : decode bC_song 77 = .ok (.getfield 50, 3) := by decide +kernel
theorem dC_song_80 : decode bC_song 80 = .ok (.invokevirtual 213, 3) := by decide +kernel
theorem dC_song_83 : decode bC_song 83 = .ok (.ireturn, 1) := by decide +kernel
def f_C_song (n : Nat) (x1 : Int32) (s : mb_T) : Option (Int32 × mb_T) := if x1 < 1 then some ((-1), s) else if x1 ≤ 99 then (mb_cw (f_A_begin n 100 s) fun s_3 => if (s_3.1 100 0) = 0 then some ((-4), s_3) else mb_cl (f_A_isOver n s_3) fun r_8 s_6 => if r_8 = 0 then (mb_cl (f_A_greatestFear n s_6) fun r_12 s_10 => if r_12 < x1 then (mb_cw (f_A_sing n s_10) fun s_14 => mb_cw (f_V_take n 100 s_14) fun s_16 => mb_cl (f_A_fearTogether n s_16) fun r_20 s_18 => some (r_20, s_18)) else some ((-4), s_10)) else some ((-4), s_6)) else some ((-1), s)
set_option maxHeartbeats 4000000 in
set_option maxRecDepth 100000 in
theorem t_C_song {dd n : Nat} {x1 : Int32} {s : mb_T} {out : Int32 × mb_T}  (h : f_C_song n x1 s = some out) : mb_MC (dd + 4) yC_song bC_song 2 (some .int) [.ref 0, .int x1] s (some (.int out.1)) out.2 := by
  unfold f_C_song at h
  refine mj_mc (lv := [.ref 0, .int x1]) mC_song rfl rfl (Nat.le_of_ble_eq_true rfl) (fun K hK hR => ?_)
  have hK : mj_C (dd + 4) 0 0 RC_c "song" bC_song 2 K := hK
  refine ro_iload_n hK dC_song_0 rfl ?_
  refine ro_iconst (x := 1) hK (by decide) dC_song_1 ?_
  refine ro_icmp_lt (tgt := 11) hK dC_song_2 (by decide) (fun c_1 => ?_) (fun c_1 => ?_)
  · replace h := mb_ift c_1 h
    refine ro_iconst (x := (-1)) hK (by decide) dC_song_11 ?_
    cases h
    exact hR.1 0 0 12 _ _ _ _ rfl rfl dC_song_12 ⟨rfl, rfl⟩
  · replace h := mb_iff c_1 h
    refine ro_iload_n hK dC_song_5 rfl ?_
    refine ro_bipush (x := 99) hK (by decide) dC_song_6 ?_
    refine ro_icmp_le (tgt := 13) hK dC_song_8 (by decide) (fun c_2 => ?_) (fun c_2 => ?_)
    · replace h := mb_ift c_2 h
      refine ro_aload_n hK dC_song_13 rfl ?_
      refine rb_get hK fC_50 mb_oC rfl dC_song_14 ?_
      refine ro_aload_n hK dC_song_17 rfl ?_
      refine rb_get hK fC_29 mb_oC rfl dC_song_18 ?_
      obtain ⟨s_3, q_4, h⟩ := mb_cw_e h
      refine rb_callV hK mA_begin vC_144 (t_A_begin (dd := dd + 0) (Or.inl rfl) q_4) rfl mb_oA rfl (Nat.le_of_ble_eq_true rfl) dC_song_21 rfl ⟨Nat.le_refl _, Nat.le_refl _⟩ ?_
      show K 0 0 24 [.ref 0, .int x1] [] (mb_s s_3)
      refine ro_aload_n hK dC_song_24 rfl ?_
      refine rb_get hK fC_29 mb_oC rfl dC_song_25 ?_
      refine rb_get hK fC_128 (mb_cvo (Or.inl rfl)) rfl dC_song_28 ?_
      refine ro_if_eq (tgt := 55) hK dC_song_31 (by decide) (fun c_5 => ?_) (fun c_5 => ?_)
      · replace h := mb_ift c_5 h
        refine ro_bipush (x := (-4)) hK (by decide) dC_song_55 ?_
        cases h
        exact hR.1 0 0 57 _ _ _ _ rfl rfl dC_song_57 ⟨rfl, rfl⟩
      · replace h := mb_iff c_5 h
        refine ro_aload_n hK dC_song_34 rfl ?_
        refine rb_get hK fC_50 mb_oC rfl dC_song_35 ?_
        obtain ⟨r_8, s_6, q_7, h⟩ := mb_cl_e h
        refine rb_callV hK mA_isOver vC_186 (t_A_isOver (dd := dd + 1) q_7) rfl mb_oA rfl (Nat.le_of_ble_eq_true rfl) dC_song_38 rfl ⟨Nat.le_refl _, Nat.le_refl _⟩ ?_
        show K 0 0 41 [.ref 0, .int x1] [.int r_8] (mb_s s_6)
        refine ro_if_ne (tgt := 55) hK dC_song_41 (by decide) (fun c_9 => ?_) (fun c_9 => ?_)
        · replace h := mb_iff c_9 h
          refine ro_bipush (x := (-4)) hK (by decide) dC_song_55 ?_
          cases h
          exact hR.1 0 0 57 _ _ _ _ rfl rfl dC_song_57 ⟨rfl, rfl⟩
        · replace h := mb_ift c_9 h
          refine ro_aload_n hK dC_song_44 rfl ?_
          refine rb_get hK fC_50 mb_oC rfl dC_song_45 ?_
          obtain ⟨r_12, s_10, q_11, h⟩ := mb_cl_e h
          refine rb_callV hK mA_greatestFear vC_216 (t_A_greatestFear (dd := dd + 1) q_11) rfl mb_oA rfl (Nat.le_of_ble_eq_true rfl) dC_song_48 rfl ⟨Nat.le_refl _, Nat.le_refl _⟩ ?_
          show K 0 0 51 [.ref 0, .int x1] [.int r_12] (mb_s s_10)
          refine ro_iload_n hK dC_song_51 rfl ?_
          refine ro_icmp_lt (tgt := 58) hK dC_song_52 (by decide) (fun c_13 => ?_) (fun c_13 => ?_)
          · replace h := mb_ift c_13 h
            refine ro_aload_n hK dC_song_58 rfl ?_
            refine rb_get hK fC_50 mb_oC rfl dC_song_59 ?_
            obtain ⟨s_14, q_15, h⟩ := mb_cw_e h
            refine rb_callV hK mA_sing vC_219 (t_A_sing (dd := dd + 1) q_15) rfl mb_oA rfl (Nat.le_of_ble_eq_true rfl) dC_song_62 rfl ⟨Nat.le_refl _, Nat.le_refl _⟩ ?_
            show K 0 0 65 [.ref 0, .int x1] [] (mb_s s_14)
            refine ro_aload_n hK dC_song_65 rfl ?_
            refine rb_get hK fC_29 mb_oC rfl dC_song_66 ?_
            refine ro_aload_n hK dC_song_69 rfl ?_
            refine rb_get hK fC_50 mb_oC rfl dC_song_70 ?_
            obtain ⟨s_16, q_17, h⟩ := mb_cw_e h
            refine rb_callV hK mV_take vC_209 (t_V_take (dd := dd + 2) (Or.inl rfl) q_17) rfl (mb_cvo (Or.inl rfl)) rfl (Nat.le_of_ble_eq_true rfl) dC_song_73 rfl ⟨Nat.le_refl _, Nat.le_refl _⟩ ?_
            show K 0 0 76 [.ref 0, .int x1] [] (mb_s s_16)
            refine ro_aload_n hK dC_song_76 rfl ?_
            refine rb_get hK fC_50 mb_oC rfl dC_song_77 ?_
            obtain ⟨r_20, s_18, q_19, h⟩ := mb_cl_e h
            refine rb_callV hK mA_fearTogether vC_213 (t_A_fearTogether (dd := dd + 2) q_19) rfl mb_oA rfl (Nat.le_of_ble_eq_true rfl) dC_song_80 rfl ⟨Nat.le_refl _, Nat.le_refl _⟩ ?_
            show K 0 0 83 [.ref 0, .int x1] [.int r_20] (mb_s s_18)
            cases h
            exact hR.1 0 0 83 _ _ _ _ rfl rfl dC_song_83 ⟨rfl, rfl⟩
          · replace h := mb_iff c_13 h
            refine ro_bipush (x := (-4)) hK (by decide) dC_song_55 ?_
            cases h
            exact hR.1 0 0 57 _ _ _ _ rfl rfl dC_song_57 ⟨rfl, rfl⟩
    · replace h := mb_iff c_2 h
      refine ro_iconst (x := (-1)) hK (by decide) dC_song_11 ?_
      cases h
      exact hR.1 0 0 12 _ _ _ _ rfl rfl dC_song_12 ⟨rfl, rfl⟩
theorem dC_story_0 : decode bC_story 0 = .ok (.aload_n 0, 1) := by decide +kernel
theorem dC_story_1 : decode bC_story 1 = .ok (.iload_n 1, 1) := by decide +kernel
theorem dC_story_2 : decode bC_story 2 = .ok (.invokevirtual 131, 3) := by decide +kernel
theorem dC_story_5 : decode bC_story 5 = .ok (.ifCond .ne 5, 3) := by decide +kernel
theorem dC_story_8 : decode bC_story 8 = .ok (.iconst (-1), 1) := by decide +kernel
theorem dC_story_9 : decode bC_story 9 = .ok (.ireturn, 1) := by decide +kernel
theorem dC_story_10 : decode bC_story 10 = .ok (.aload_n 0, 1) := by decide +kernel
theorem dC_story_11 : decode bC_story 11 = .ok (.getfield 50, 3) := by decide +kernel
theorem dC_story_14 : decode bC_story 14 = .ok (.aload_n 0, 1) := by decide +kernel
theorem dC_story_15 : decode bC_story 15 = .ok (.getfield 29, 3) := by decide +kernel
theorem dC_story_18 : decode bC_story 18 = .ok (.invokevirtual 144, 3) := by decide +kernel
theorem dC_story_21 : decode bC_story 21 = .ok (.aload_n 0, 1) := by decide +kernel
theorem dC_story_22 : decode bC_story 22 = .ok (.getfield 50, 3) := by decide +kernel
theorem dC_story_25 : decode bC_story 25 = .ok (.invokevirtual 186, 3) := by decide +kernel
theorem dC_story_28 : decode bC_story 28 = .ok (.ifCond .eq 6, 3) := by decide +kernel
theorem dC_story_31 : decode bC_story 31 = .ok (.bipush (-4), 2) := by decide +kernel
theorem dC_story_33 : decode bC_story 33 = .ok (.ireturn, 1) := by decide +kernel
theorem dC_story_34 : decode bC_story 34 = .ok (.aload_n 0, 1) := by decide +kernel
theorem dC_story_35 : decode bC_story 35 = .ok (.getfield 50, 3) := by decide +kernel
theorem dC_story_38 : decode bC_story 38 = .ok (.iload_n 1, 1) := by decide +kernel
theorem dC_story_39 : decode bC_story 39 = .ok (.invokevirtual 206, 3) := by decide +kernel
theorem dC_story_42 : decode bC_story 42 = .ok (.aload_n 0, 1) := by decide +kernel
theorem dC_story_43 : decode bC_story 43 = .ok (.getfield 29, 3) := by decide +kernel
theorem dC_story_46 : decode bC_story 46 = .ok (.aload_n 0, 1) := by decide +kernel
theorem dC_story_47 : decode bC_story 47 = .ok (.getfield 50, 3) := by decide +kernel
theorem dC_story_50 : decode bC_story 50 = .ok (.invokevirtual 209, 3) := by decide +kernel
theorem dC_story_53 : decode bC_story 53 = .ok (.aload_n 0, 1) := by decide +kernel
theorem dC_story_54 : decode bC_story 54 = .ok (.getfield 50, 3) := by decide +kernel
theorem dC_story_57 : decode bC_story 57 = .ok (.invokevirtual 213, 3) := by decide +kernel
theorem dC_story_60 : decode bC_story 60 = .ok (.ireturn, 1) := by decide +kernel
def f_C_story (n : Nat) (x1 : Int32) (s : mb_T) : Option (Int32 × mb_T) := mb_cl (f_C_isOne n x1 s) fun r_3 s_1 => if r_3 = 0 then some ((-1), s_1) else mb_cw (f_A_begin n 100 s_1) fun s_5 => mb_cl (f_A_isOver n s_5) fun r_9 s_7 => if r_9 = 0 then (mb_cw (f_A_tellStory n x1 s_7) fun s_11 => mb_cw (f_V_take n 100 s_11) fun s_13 => mb_cl (f_A_fearTogether n s_13) fun r_17 s_15 => some (r_17, s_15)) else some ((-4), s_7)
set_option maxHeartbeats 4000000 in
set_option maxRecDepth 100000 in
theorem t_C_story {dd n : Nat} {x1 : Int32} {s : mb_T} {out : Int32 × mb_T}  (h : f_C_story n x1 s = some out) : mb_MC (dd + 4) yC_story bC_story 2 (some .int) [.ref 0, .int x1] s (some (.int out.1)) out.2 := by
  unfold f_C_story at h
  refine mj_mc (lv := [.ref 0, .int x1]) mC_story rfl rfl (Nat.le_of_ble_eq_true rfl) (fun K hK hR => ?_)
  have hK : mj_C (dd + 4) 0 0 RC_c "story" bC_story 2 K := hK
  refine ro_aload_n hK dC_story_0 rfl ?_
  refine ro_iload_n hK dC_story_1 rfl ?_
  obtain ⟨r_3, s_1, q_2, h⟩ := mb_cl_e h
  refine rb_callV hK mC_isOne vC_131 (t_C_isOne (dd := dd + 2) q_2) rfl mb_oC rfl (Nat.le_of_ble_eq_true rfl) dC_story_2 rfl ⟨Nat.le_refl _, Nat.le_refl _⟩ ?_
  show K 0 0 5 [.ref 0, .int x1] [.int r_3] (mb_s s_1)
  refine ro_if_ne (tgt := 10) hK dC_story_5 (by decide) (fun c_4 => ?_) (fun c_4 => ?_)
  · replace h := mb_iff c_4 h
    refine ro_aload_n hK dC_story_10 rfl ?_
    refine rb_get hK fC_50 mb_oC rfl dC_story_11 ?_
    refine ro_aload_n hK dC_story_14 rfl ?_
    refine rb_get hK fC_29 mb_oC rfl dC_story_15 ?_
    obtain ⟨s_5, q_6, h⟩ := mb_cw_e h
    refine rb_callV hK mA_begin vC_144 (t_A_begin (dd := dd + 0) (Or.inl rfl) q_6) rfl mb_oA rfl (Nat.le_of_ble_eq_true rfl) dC_story_18 rfl ⟨Nat.le_refl _, Nat.le_refl _⟩ ?_
    show K 0 0 21 [.ref 0, .int x1] [] (mb_s s_5)
    refine ro_aload_n hK dC_story_21 rfl ?_
    refine rb_get hK fC_50 mb_oC rfl dC_story_22 ?_
    obtain ⟨r_9, s_7, q_8, h⟩ := mb_cl_e h
    refine rb_callV hK mA_isOver vC_186 (t_A_isOver (dd := dd + 1) q_8) rfl mb_oA rfl (Nat.le_of_ble_eq_true rfl) dC_story_25 rfl ⟨Nat.le_refl _, Nat.le_refl _⟩ ?_
    show K 0 0 28 [.ref 0, .int x1] [.int r_9] (mb_s s_7)
    refine ro_if_eq (tgt := 34) hK dC_story_28 (by decide) (fun c_10 => ?_) (fun c_10 => ?_)
    · replace h := mb_ift c_10 h
      refine ro_aload_n hK dC_story_34 rfl ?_
      refine rb_get hK fC_50 mb_oC rfl dC_story_35 ?_
      refine ro_iload_n hK dC_story_38 rfl ?_
      obtain ⟨s_11, q_12, h⟩ := mb_cw_e h
      refine rb_callV hK mA_tellStory vC_206 (t_A_tellStory (dd := dd + 0) q_12) rfl mb_oA rfl (Nat.le_of_ble_eq_true rfl) dC_story_39 rfl ⟨Nat.le_refl _, Nat.le_refl _⟩ ?_
      show K 0 0 42 [.ref 0, .int x1] [] (mb_s s_11)
      refine ro_aload_n hK dC_story_42 rfl ?_
      refine rb_get hK fC_29 mb_oC rfl dC_story_43 ?_
      refine ro_aload_n hK dC_story_46 rfl ?_
      refine rb_get hK fC_50 mb_oC rfl dC_story_47 ?_
      obtain ⟨s_13, q_14, h⟩ := mb_cw_e h
      refine rb_callV hK mV_take vC_209 (t_V_take (dd := dd + 2) (Or.inl rfl) q_14) rfl (mb_cvo (Or.inl rfl)) rfl (Nat.le_of_ble_eq_true rfl) dC_story_50 rfl ⟨Nat.le_refl _, Nat.le_refl _⟩ ?_
      show K 0 0 53 [.ref 0, .int x1] [] (mb_s s_13)
      refine ro_aload_n hK dC_story_53 rfl ?_
      refine rb_get hK fC_50 mb_oC rfl dC_story_54 ?_
      obtain ⟨r_17, s_15, q_16, h⟩ := mb_cl_e h
      refine rb_callV hK mA_fearTogether vC_213 (t_A_fearTogether (dd := dd + 2) q_16) rfl mb_oA rfl (Nat.le_of_ble_eq_true rfl) dC_story_57 rfl ⟨Nat.le_refl _, Nat.le_refl _⟩ ?_
      show K 0 0 60 [.ref 0, .int x1] [.int r_17] (mb_s s_15)
      cases h
      exact hR.1 0 0 60 _ _ _ _ rfl rfl dC_story_60 ⟨rfl, rfl⟩
    · replace h := mb_iff c_10 h
      refine ro_bipush (x := (-4)) hK (by decide) dC_story_31 ?_
      cases h
      exact hR.1 0 0 33 _ _ _ _ rfl rfl dC_story_33 ⟨rfl, rfl⟩
  · replace h := mb_ift c_4 h
    refine ro_iconst (x := (-1)) hK (by decide) dC_story_8 ?_
    cases h
    exact hR.1 0 0 9 _ _ _ _ rfl rfl dC_story_9 ⟨rfl, rfl⟩
theorem dC_teller_0 : decode bC_teller 0 = .ok (.aload_n 0, 1) := by decide +kernel
theorem dC_teller_1 : decode bC_teller 1 = .ok (.getfield 50, 3) := by decide +kernel
theorem dC_teller_4 : decode bC_teller 4 = .ok (.aload_n 0, 1) := by decide +kernel
theorem dC_teller_5 : decode bC_teller 5 = .ok (.getfield 29, 3) := by decide +kernel
theorem dC_teller_8 : decode bC_teller 8 = .ok (.invokevirtual 144, 3) := by decide +kernel
theorem dC_teller_11 : decode bC_teller 11 = .ok (.aload_n 0, 1) := by decide +kernel
theorem dC_teller_12 : decode bC_teller 12 = .ok (.getfield 29, 3) := by decide +kernel
theorem dC_teller_15 : decode bC_teller 15 = .ok (.getfield 128, 3) := by decide +kernel
theorem dC_teller_18 : decode bC_teller 18 = .ok (.ifCond .eq 13, 3) := by decide +kernel
theorem dC_teller_21 : decode bC_teller 21 = .ok (.aload_n 0, 1) := by decide +kernel
theorem dC_teller_22 : decode bC_teller 22 = .ok (.getfield 50, 3) := by decide +kernel
theorem dC_teller_25 : decode bC_teller 25 = .ok (.invokevirtual 186, 3) := by decide +kernel
theorem dC_teller_28 : decode bC_teller 28 = .ok (.ifCond .eq 6, 3) := by decide +kernel
theorem dC_teller_31 : decode bC_teller 31 = .ok (.bipush (-4), 2) := by decide +kernel
theorem dC_teller_33 : decode bC_teller 33 = .ok (.ireturn, 1) := by decide +kernel
theorem dC_teller_34 : decode bC_teller 34 = .ok (.iconst 0, 1) := by decide +kernel
theorem dC_teller_35 : decode bC_teller 35 = .ok (.istore_n 1, 1) := by decide +kernel
theorem dC_teller_36 : decode bC_teller 36 = .ok (.iconst 0, 1) := by decide +kernel
theorem dC_teller_37 : decode bC_teller 37 = .ok (.istore_n 2, 1) := by decide +kernel
theorem dC_teller_38 : decode bC_teller 38 = .ok (.iconst 0, 1) := by decide +kernel
theorem dC_teller_39 : decode bC_teller 39 = .ok (.istore_n 3, 1) := by decide +kernel
theorem dC_teller_40 : decode bC_teller 40 = .ok (.iload_n 3, 1) := by decide +kernel
theorem dC_teller_41 : decode bC_teller 41 = .ok (.aload_n 0, 1) := by decide +kernel
theorem dC_teller_42 : decode bC_teller 42 = .ok (.getfield 29, 3) := by decide +kernel
theorem dC_teller_45 : decode bC_teller 45 = .ok (.getfield 128, 3) := by decide +kernel
theorem dC_teller_48 : decode bC_teller 48 = .ok (.if_icmp .ge 52, 3) := by decide +kernel
theorem dC_teller_51 : decode bC_teller 51 = .ok (.aload_n 0, 1) := by decide +kernel
theorem dC_teller_52 : decode bC_teller 52 = .ok (.getfield 50, 3) := by decide +kernel
theorem dC_teller_55 : decode bC_teller 55 = .ok (.aload_n 0, 1) := by decide +kernel
theorem dC_teller_56 : decode bC_teller 56 = .ok (.getfield 29, 3) := by decide +kernel
theorem dC_teller_59 : decode bC_teller 59 = .ok (.invokevirtual 144, 3) := by decide +kernel
theorem dC_teller_62 : decode bC_teller 62 = .ok (.aload_n 0, 1) := by decide +kernel
theorem dC_teller_63 : decode bC_teller 63 = .ok (.getfield 50, 3) := by decide +kernel
theorem dC_teller_66 : decode bC_teller 66 = .ok (.iload_n 3, 1) := by decide +kernel
theorem dC_teller_67 : decode bC_teller 67 = .ok (.invokevirtual 206, 3) := by decide +kernel
theorem dC_teller_70 : decode bC_teller 70 = .ok (.aload_n 0, 1) := by decide +kernel
theorem dC_teller_71 : decode bC_teller 71 = .ok (.getfield 50, 3) := by decide +kernel
theorem dC_teller_74 : decode bC_teller 74 = .ok (.invokevirtual 216, 3) := by decide +kernel
theorem dC_teller_77 : decode bC_teller 77 = .ok (.istore 4, 2) := by decide +kernel
theorem dC_teller_79 : decode bC_teller 79 = .ok (.iload_n 3, 1) := by decide +kernel
theorem dC_teller_80 : decode bC_teller 80 = .ok (.ifCond .eq 9, 3) := by decide +kernel
theorem dC_teller_83 : decode bC_teller 83 = .ok (.iload 4, 2) := by decide +kernel
theorem dC_teller_85 : decode bC_teller 85 = .ok (.iload_n 2, 1) := by decide +kernel
theorem dC_teller_86 : decode bC_teller 86 = .ok (.if_icmp .ge 8, 3) := by decide +kernel
theorem dC_teller_89 : decode bC_teller 89 = .ok (.iload_n 3, 1) := by decide +kernel
theorem dC_teller_90 : decode bC_teller 90 = .ok (.istore_n 1, 1) := by decide +kernel
theorem dC_teller_91 : decode bC_teller 91 = .ok (.iload 4, 2) := by decide +kernel
theorem dC_teller_93 : decode bC_teller 93 = .ok (.istore_n 2, 1) := by decide +kernel
theorem dC_teller_94 : decode bC_teller 94 = .ok (.iinc 3 1, 3) := by decide +kernel
theorem dC_teller_97 : decode bC_teller 97 = .ok (.goto (-57), 3) := by decide +kernel
theorem dC_teller_100 : decode bC_teller 100 = .ok (.aload_n 0, 1) := by decide +kernel
theorem dC_teller_101 : decode bC_teller 101 = .ok (.iload_n 2, 1) := by decide +kernel
theorem dC_teller_102 : decode bC_teller 102 = .ok (.putfield 74, 3) := by decide +kernel
theorem dC_teller_105 : decode bC_teller 105 = .ok (.iload_n 1, 1) := by decide +kernel
theorem dC_teller_106 : decode bC_teller 106 = .ok (.ireturn, 1) := by decide +kernel
def f_C_teller_40 (n : Nat) (k0 : Int32 → Int32 → Int32 → mb_T → Option (Int32 × mb_T))  : Nat → Int32 → Int32 → Int32 → mb_T → Option (Int32 × mb_T)
  | 0, _, _, _, _ => none
  | f + 1, w1, w2, w3, s => if (s.1 100 0) ≤ w3 then k0 w1 w2 w3 s else mb_cw (f_A_begin n 100 s) fun s_9 => mb_cw (f_A_tellStory n w3 s_9) fun s_11 => mb_cl (f_A_greatestFear n s_11) fun r_15 s_13 => mb_jn (fun (s_19 : mb_T) => f_C_teller_40 n k0 f w3 r_15 (w3 + 1) s_19) fun j_16 => if w3 = 0 then j_16 s_13 else if w2 ≤ r_15 then f_C_teller_40 n k0 f w1 w2 (w3 + 1) s_13 else j_16 s_13
def f_C_teller (n : Nat)  (s : mb_T) : Option (Int32 × mb_T) := mb_cw (f_A_begin n 100 s) fun s_1 => if (s_1.1 100 0) = 0 then some ((-4), s_1) else mb_cl (f_A_isOver n s_1) fun r_6 s_4 => if r_6 = 0 then (f_C_teller_40 n (fun x_21 x_22 x_23 s_24 => mb_bd (sF s_24 0 14 x_22) fun s_25 => some (x_21, s_25)) n 0 0 0 s_4) else some ((-4), s_4)
set_option maxHeartbeats 4000000 in
set_option maxRecDepth 100000 in
theorem tl_C_teller_40 {dd n : Nat} {K : mj_KT} {out : Int32 × mb_T} (hK : mj_C (dd + 4) 0 0 RC_c "teller" bC_teller 5 K) (hR : mj_R bC_teller (some .int) (fun r2 S2 => r2 = some (.int out.1) ∧ S2 = mb_s out.2) K) {k0 : Int32 → Int32 → Int32 → mb_T → Option (Int32 × mb_T)}  (hk0 : ∀ (w1 : Int32) (w2 : Int32) (w3 : Int32) (s : mb_T), k0 w1 w2 w3 s = some out → K 0 0 100 [.ref 0, .int w1, .int w2, .int w3, .retAddr 0] [] (mb_s s)) : ∀ (f : Nat) (w1 : Int32) (w2 : Int32) (w3 : Int32) (s : mb_T), f_C_teller_40 n k0 f w1 w2 w3 s = some out → K 0 0 40 [.ref 0, .int w1, .int w2, .int w3, .retAddr 0] [] (mb_s s) := by
  intro f
  induction f with
  | zero =>
    intro w1 w2 w3 s h
    cases h
  | succ f ih =>
    intro w1 w2 w3 s h
    rw [f_C_teller_40] at h
    refine ro_iload_n hK dC_teller_40 rfl ?_
    refine ro_aload_n hK dC_teller_41 rfl ?_
    refine rb_get hK fC_29 mb_oC rfl dC_teller_42 ?_
    refine rb_get hK fC_128 (mb_cvo (Or.inl rfl)) rfl dC_teller_45 ?_
    refine ro_icmp_ge (tgt := 100) hK dC_teller_48 (by decide) (fun c_8 => ?_) (fun c_8 => ?_)
    · replace h := mb_ift c_8 h
      refine ro_fg (lv' := [.ref 0, .int w1, .int w2, .int w3, .retAddr 0]) hK ⟨Or.inr rfl, ⟨Or.inr rfl, ⟨Or.inr rfl, ⟨Or.inr rfl, ⟨Or.inl rfl, trivial⟩⟩⟩⟩⟩ ?_
      exact hk0 _ _ _ _ h
    · replace h := mb_iff c_8 h
      refine ro_aload_n hK dC_teller_51 rfl ?_
      refine rb_get hK fC_50 mb_oC rfl dC_teller_52 ?_
      refine ro_aload_n hK dC_teller_55 rfl ?_
      refine rb_get hK fC_29 mb_oC rfl dC_teller_56 ?_
      obtain ⟨s_9, q_10, h⟩ := mb_cw_e h
      refine rb_callV hK mA_begin vC_144 (t_A_begin (dd := dd + 0) (Or.inl rfl) q_10) rfl mb_oA rfl (Nat.le_of_ble_eq_true rfl) dC_teller_59 rfl ⟨Nat.le_refl _, Nat.le_refl _⟩ ?_
      show K 0 0 62 [.ref 0, .int w1, .int w2, .int w3, .retAddr 0] [] (mb_s s_9)
      refine ro_aload_n hK dC_teller_62 rfl ?_
      refine rb_get hK fC_50 mb_oC rfl dC_teller_63 ?_
      refine ro_iload_n hK dC_teller_66 rfl ?_
      obtain ⟨s_11, q_12, h⟩ := mb_cw_e h
      refine rb_callV hK mA_tellStory vC_206 (t_A_tellStory (dd := dd + 0) q_12) rfl mb_oA rfl (Nat.le_of_ble_eq_true rfl) dC_teller_67 rfl ⟨Nat.le_refl _, Nat.le_refl _⟩ ?_
      show K 0 0 70 [.ref 0, .int w1, .int w2, .int w3, .retAddr 0] [] (mb_s s_11)
      refine ro_aload_n hK dC_teller_70 rfl ?_
      refine rb_get hK fC_50 mb_oC rfl dC_teller_71 ?_
      obtain ⟨r_15, s_13, q_14, h⟩ := mb_cl_e h
      refine rb_callV hK mA_greatestFear vC_216 (t_A_greatestFear (dd := dd + 1) q_14) rfl mb_oA rfl (Nat.le_of_ble_eq_true rfl) dC_teller_74 rfl ⟨Nat.le_refl _, Nat.le_refl _⟩ ?_
      show K 0 0 77 [.ref 0, .int w1, .int w2, .int w3, .retAddr 0] [.int r_15] (mb_s s_13)
      refine ro_istore hK dC_teller_77 (by decide) ?_
      show K 0 0 79 [.ref 0, .int w1, .int w2, .int w3, .int r_15] [] (mb_s s_13)
      refine ro_iload_n hK dC_teller_79 rfl ?_
      obtain ⟨j_16, e_20, h⟩ := mb_jn_e h
      have hj_16 : ∀ (s_19 : mb_T), j_16 s_19 = some out → K 0 0 89 [.ref 0, .int w1, .int w2, .int w3, .int r_15] [] (mb_s s_19) := by
        intro s_19 h
        rw [e_20] at h
        refine ro_iload_n hK dC_teller_89 rfl ?_
        refine ro_istore_n hK dC_teller_90 (by decide) ?_
        show K 0 0 91 [.ref 0, .int w3, .int w2, .int w3, .int r_15] [] (mb_s s_19)
        refine ro_iload hK dC_teller_91 rfl ?_
        refine ro_istore_n hK dC_teller_93 (by decide) ?_
        show K 0 0 94 [.ref 0, .int w3, .int r_15, .int w3, .int r_15] [] (mb_s s_19)
        refine ro_iincv (c := 1) hK (by decide) dC_teller_94 rfl (by decide) ?_
        show K 0 0 97 [.ref 0, .int w3, .int r_15, .int (w3 + 1), .int r_15] [] (mb_s s_19)
        refine ro_goto (tgt := 40) hK dC_teller_97 (by decide) ?_
        refine ro_fg (lv' := [.ref 0, .int w3, .int r_15, .int (w3 + 1), .retAddr 0]) hK ⟨Or.inr rfl, ⟨Or.inr rfl, ⟨Or.inr rfl, ⟨Or.inr rfl, ⟨Or.inl rfl, trivial⟩⟩⟩⟩⟩ ?_
        exact ih _ _ _ _ h
      refine ro_if_eq (tgt := 89) hK dC_teller_80 (by decide) (fun c_17 => ?_) (fun c_17 => ?_)
      · replace h := mb_ift c_17 h
        refine ro_fg (lv' := [.ref 0, .int w1, .int w2, .int w3, .int r_15]) hK ⟨Or.inr rfl, ⟨Or.inr rfl, ⟨Or.inr rfl, ⟨Or.inr rfl, ⟨Or.inr rfl, trivial⟩⟩⟩⟩⟩ ?_
        exact hj_16 _ h
      · replace h := mb_iff c_17 h
        refine ro_iload hK dC_teller_83 rfl ?_
        refine ro_iload_n hK dC_teller_85 rfl ?_
        refine ro_icmp_ge (tgt := 94) hK dC_teller_86 (by decide) (fun c_18 => ?_) (fun c_18 => ?_)
        · replace h := mb_ift c_18 h
          refine ro_iincv (c := 1) hK (by decide) dC_teller_94 rfl (by decide) ?_
          show K 0 0 97 [.ref 0, .int w1, .int w2, .int (w3 + 1), .int r_15] [] (mb_s s_13)
          refine ro_goto (tgt := 40) hK dC_teller_97 (by decide) ?_
          refine ro_fg (lv' := [.ref 0, .int w1, .int w2, .int (w3 + 1), .retAddr 0]) hK ⟨Or.inr rfl, ⟨Or.inr rfl, ⟨Or.inr rfl, ⟨Or.inr rfl, ⟨Or.inl rfl, trivial⟩⟩⟩⟩⟩ ?_
          exact ih _ _ _ _ h
        · replace h := mb_iff c_18 h
          refine ro_fg (lv' := [.ref 0, .int w1, .int w2, .int w3, .int r_15]) hK ⟨Or.inr rfl, ⟨Or.inr rfl, ⟨Or.inr rfl, ⟨Or.inr rfl, ⟨Or.inr rfl, trivial⟩⟩⟩⟩⟩ ?_
          exact hj_16 _ h
set_option maxHeartbeats 4000000 in
set_option maxRecDepth 100000 in
theorem t_C_teller {dd n : Nat}  {s : mb_T} {out : Int32 × mb_T}  (h : f_C_teller n  s = some out) : mb_MC (dd + 4) yC_teller bC_teller 5 (some .int) [.ref 0] s (some (.int out.1)) out.2 := by
  unfold f_C_teller at h
  refine mj_mc (lv := [.ref 0, .retAddr 0, .retAddr 0, .retAddr 0, .retAddr 0]) mC_teller rfl rfl (Nat.le_of_ble_eq_true rfl) (fun K hK hR => ?_)
  have hK : mj_C (dd + 4) 0 0 RC_c "teller" bC_teller 5 K := hK
  refine ro_aload_n hK dC_teller_0 rfl ?_
  refine rb_get hK fC_50 mb_oC rfl dC_teller_1 ?_
  refine ro_aload_n hK dC_teller_4 rfl ?_
  refine rb_get hK fC_29 mb_oC rfl dC_teller_5 ?_
  obtain ⟨s_1, q_2, h⟩ := mb_cw_e h
  refine rb_callV hK mA_begin vC_144 (t_A_begin (dd := dd + 0) (Or.inl rfl) q_2) rfl mb_oA rfl (Nat.le_of_ble_eq_true rfl) dC_teller_8 rfl ⟨Nat.le_refl _, Nat.le_refl _⟩ ?_
  show K 0 0 11 [.ref 0, .retAddr 0, .retAddr 0, .retAddr 0, .retAddr 0] [] (mb_s s_1)
  refine ro_aload_n hK dC_teller_11 rfl ?_
  refine rb_get hK fC_29 mb_oC rfl dC_teller_12 ?_
  refine rb_get hK fC_128 (mb_cvo (Or.inl rfl)) rfl dC_teller_15 ?_
  refine ro_if_eq (tgt := 31) hK dC_teller_18 (by decide) (fun c_3 => ?_) (fun c_3 => ?_)
  · replace h := mb_ift c_3 h
    refine ro_bipush (x := (-4)) hK (by decide) dC_teller_31 ?_
    cases h
    exact hR.1 0 0 33 _ _ _ _ rfl rfl dC_teller_33 ⟨rfl, rfl⟩
  · replace h := mb_iff c_3 h
    refine ro_aload_n hK dC_teller_21 rfl ?_
    refine rb_get hK fC_50 mb_oC rfl dC_teller_22 ?_
    obtain ⟨r_6, s_4, q_5, h⟩ := mb_cl_e h
    refine rb_callV hK mA_isOver vC_186 (t_A_isOver (dd := dd + 1) q_5) rfl mb_oA rfl (Nat.le_of_ble_eq_true rfl) dC_teller_25 rfl ⟨Nat.le_refl _, Nat.le_refl _⟩ ?_
    show K 0 0 28 [.ref 0, .retAddr 0, .retAddr 0, .retAddr 0, .retAddr 0] [.int r_6] (mb_s s_4)
    refine ro_if_eq (tgt := 34) hK dC_teller_28 (by decide) (fun c_7 => ?_) (fun c_7 => ?_)
    · replace h := mb_ift c_7 h
      refine ro_iconst (x := 0) hK (by decide) dC_teller_34 ?_
      refine ro_istore_n hK dC_teller_35 (by decide) ?_
      show K 0 0 36 [.ref 0, .int 0, .retAddr 0, .retAddr 0, .retAddr 0] [] (mb_s s_4)
      refine ro_iconst (x := 0) hK (by decide) dC_teller_36 ?_
      refine ro_istore_n hK dC_teller_37 (by decide) ?_
      show K 0 0 38 [.ref 0, .int 0, .int 0, .retAddr 0, .retAddr 0] [] (mb_s s_4)
      refine ro_iconst (x := 0) hK (by decide) dC_teller_38 ?_
      refine ro_istore_n hK dC_teller_39 (by decide) ?_
      show K 0 0 40 [.ref 0, .int 0, .int 0, .int 0, .retAddr 0] [] (mb_s s_4)
      refine ro_fg (lv' := [.ref 0, .int 0, .int 0, .int 0, .retAddr 0]) hK ⟨Or.inr rfl, ⟨Or.inr rfl, ⟨Or.inr rfl, ⟨Or.inr rfl, ⟨Or.inl rfl, trivial⟩⟩⟩⟩⟩ ?_
      refine tl_C_teller_40 (dd := dd) hK hR (fun x_21 x_22 x_23 s_24 h => ?_) n _ _ _ _ h
      refine ro_aload_n hK dC_teller_100 rfl ?_
      refine ro_iload_n hK dC_teller_101 rfl ?_
      obtain ⟨s_25, e_26, h⟩ := mb_bd_e h
      refine rb_put hK gC_74 mb_oC rfl (by show 14 < 15; decide) rfl rfl e_26 dC_teller_102 ?_
      refine ro_iload_n hK dC_teller_105 rfl ?_
      cases h
      exact hR.1 0 0 106 _ _ _ _ rfl rfl dC_teller_106 ⟨rfl, rfl⟩
    · replace h := mb_iff c_7 h
      refine ro_bipush (x := (-4)) hK (by decide) dC_teller_31 ?_
      cases h
      exact hR.1 0 0 33 _ _ _ _ rfl rfl dC_teller_33 ⟨rfl, rfl⟩
theorem dC_visit_0 : decode bC_visit 0 = .ok (.iload_n 1, 1) := by decide +kernel
theorem dC_visit_1 : decode bC_visit 1 = .ok (.iconst 1, 1) := by decide +kernel
theorem dC_visit_2 : decode bC_visit 2 = .ok (.if_icmp .lt 24, 3) := by decide +kernel
theorem dC_visit_5 : decode bC_visit 5 = .ok (.iload_n 1, 1) := by decide +kernel
theorem dC_visit_6 : decode bC_visit 6 = .ok (.invokestatic 180, 3) := by decide +kernel
theorem dC_visit_9 : decode bC_visit 9 = .ok (.ifCond .eq 17, 3) := by decide +kernel
theorem dC_visit_12 : decode bC_visit 12 = .ok (.iload_n 2, 1) := by decide +kernel
theorem dC_visit_13 : decode bC_visit 13 = .ok (.iconst 1, 1) := by decide +kernel
theorem dC_visit_14 : decode bC_visit 14 = .ok (.if_icmp .lt 12, 3) := by decide +kernel
theorem dC_visit_17 : decode bC_visit 17 = .ok (.iload_n 2, 1) := by decide +kernel
theorem dC_visit_18 : decode bC_visit 18 = .ok (.i2l, 1) := by decide +kernel
theorem dC_visit_19 : decode bC_visit 19 = .ok (.ldc2_w 307, 3) := by decide +kernel
theorem dC_visit_22 : decode bC_visit 22 = .ok (.lcmp, 1) := by decide +kernel
theorem dC_visit_23 : decode bC_visit 23 = .ok (.ifCond .lt 5, 3) := by decide +kernel
theorem dC_visit_26 : decode bC_visit 26 = .ok (.iconst (-1), 1) := by decide +kernel
theorem dC_visit_27 : decode bC_visit 27 = .ok (.ireturn, 1) := by decide +kernel
theorem dC_visit_28 : decode bC_visit 28 = .ok (.aload_n 0, 1) := by decide +kernel
theorem dC_visit_29 : decode bC_visit 29 = .ok (.getfield 29, 3) := by decide +kernel
theorem dC_visit_32 : decode bC_visit 32 = .ok (.getfield 128, 3) := by decide +kernel
theorem dC_visit_35 : decode bC_visit 35 = .ok (.istore_n 3, 1) := by decide +kernel
theorem dC_visit_36 : decode bC_visit 36 = .ok (.iload_n 3, 1) := by decide +kernel
theorem dC_visit_37 : decode bC_visit 37 = .ok (.ifCond .gt 6, 3) := by decide +kernel
theorem dC_visit_40 : decode bC_visit 40 = .ok (.bipush (-4), 2) := by decide +kernel
theorem dC_visit_42 : decode bC_visit 42 = .ok (.ireturn, 1) := by decide +kernel
theorem dC_visit_43 : decode bC_visit 43 = .ok (.aload_n 0, 1) := by decide +kernel
theorem dC_visit_44 : decode bC_visit 44 = .ok (.getfield 50, 3) := by decide +kernel
theorem dC_visit_47 : decode bC_visit 47 = .ok (.aload_n 0, 1) := by decide +kernel
theorem dC_visit_48 : decode bC_visit 48 = .ok (.getfield 29, 3) := by decide +kernel
theorem dC_visit_51 : decode bC_visit 51 = .ok (.invokevirtual 144, 3) := by decide +kernel
theorem dC_visit_54 : decode bC_visit 54 = .ok (.iload_n 2, 1) := by decide +kernel
theorem dC_visit_55 : decode bC_visit 55 = .ok (.i2l, 1) := by decide +kernel
theorem dC_visit_56 : decode bC_visit 56 = .ok (.lstore 4, 2) := by decide +kernel
theorem dC_visit_58 : decode bC_visit 58 = .ok (.iconst 0, 1) := by decide +kernel
theorem dC_visit_59 : decode bC_visit 59 = .ok (.istore 6, 2) := by decide +kernel
theorem dC_visit_61 : decode bC_visit 61 = .ok (.iload 6, 2) := by decide +kernel
theorem dC_visit_63 : decode bC_visit 63 = .ok (.iload_n 1, 1) := by decide +kernel
theorem dC_visit_64 : decode bC_visit 64 = .ok (.if_icmp .ge 44, 3) := by decide +kernel
theorem dC_visit_67 : decode bC_visit 67 = .ok (.aload_n 0, 1) := by decide +kernel
theorem dC_visit_68 : decode bC_visit 68 = .ok (.getfield 50, 3) := by decide +kernel
theorem dC_visit_71 : decode bC_visit 71 = .ok (.invokevirtual 186, 3) := by decide +kernel
theorem dC_visit_74 : decode bC_visit 74 = .ok (.ifCond .ne 34, 3) := by decide +kernel
theorem dC_visit_77 : decode bC_visit 77 = .ok (.lload 4, 2) := by decide +kernel
theorem dC_visit_79 : decode bC_visit 79 = .ok (.ldc2_w 309, 3) := by decide +kernel
theorem dC_visit_82 : decode bC_visit 82 = .ok (.lmul, 1) := by decide +kernel
theorem dC_visit_83 : decode bC_visit 83 = .ok (.ldc2_w 307, 3) := by decide +kernel
theorem dC_visit_86 : decode bC_visit 86 = .ok (.lrem, 1) := by decide +kernel
theorem dC_visit_87 : decode bC_visit 87 = .ok (.lstore 4, 2) := by decide +kernel
theorem dC_visit_89 : decode bC_visit 89 = .ok (.aload_n 0, 1) := by decide +kernel
theorem dC_visit_90 : decode bC_visit 90 = .ok (.getfield 50, 3) := by decide +kernel
theorem dC_visit_93 : decode bC_visit 93 = .ok (.lload 4, 2) := by decide +kernel
theorem dC_visit_95 : decode bC_visit 95 = .ok (.iload_n 3, 1) := by decide +kernel
theorem dC_visit_96 : decode bC_visit 96 = .ok (.i2l, 1) := by decide +kernel
theorem dC_visit_97 : decode bC_visit 97 = .ok (.lrem, 1) := by decide +kernel
theorem dC_visit_98 : decode bC_visit 98 = .ok (.l2i, 1) := by decide +kernel
theorem dC_visit_99 : decode bC_visit 99 = .ok (.invokevirtual 241, 3) := by decide +kernel
theorem dC_visit_102 : decode bC_visit 102 = .ok (.iinc 6 1, 3) := by decide +kernel
theorem dC_visit_105 : decode bC_visit 105 = .ok (.goto (-44), 3) := by decide +kernel
theorem dC_visit_108 : decode bC_visit 108 = .ok (.aload_n 0, 1) := by decide +kernel
theorem dC_visit_109 : decode bC_visit 109 = .ok (.aload_n 0, 1) := by decide +kernel
theorem dC_visit_110 : decode bC_visit 110 = .ok (.getfield 50, 3) := by decide +kernel
theorem dC_visit_113 : decode bC_visit 113 = .ok (.invokevirtual 216, 3) := by decide +kernel
theorem dC_visit_116 : decode bC_visit 116 = .ok (.putfield 74, 3) := by decide +kernel
theorem dC_visit_119 : decode bC_visit 119 = .ok (.iload 6, 2) := by decide +kernel
theorem dC_visit_121 : decode bC_visit 121 = .ok (.ireturn, 1) := by decide +kernel
def f_C_visit_61 (n : Nat) (k0 : Int64 → Int32 → mb_T → Option (Int32 × mb_T)) (y1 : Int32) (y3 : Int32) : Nat → Int64 → Int32 → mb_T → Option (Int32 × mb_T)
  | 0, _, _, _ => none
  | f + 1, w4, w6, s => if y1 ≤ w6 then k0 w4 w6 s else mb_cl (f_A_isOver n s) fun r_14 s_12 => if r_14 = 0 then (mb_dl 2147483647 (mb_dl (Int32.toInt64 y3) (mb_cw (f_A_pass n (Int64.toInt32 (((w4 * 48271) - (w4 * 48271) / 2147483647 * 2147483647) - ((w4 * 48271) - (w4 * 48271) / 2147483647 * 2147483647) / (Int32.toInt64 y3) * (Int32.toInt64 y3))) s_12) fun s_18 => f_C_visit_61 n k0 y1 y3 f ((w4 * 48271) - (w4 * 48271) / 2147483647 * 2147483647) (w6 + 1) s_18))) else k0 w4 w6 s_12
def f_C_visit (n : Nat) (x1 : Int32) (x2 : Int32) (s : mb_T) : Option (Int32 × mb_T) := if x1 < 1 then some ((-1), s) else mb_cl (f_C_isSpan n x1 s) fun r_4 s_2 => if r_4 = 0 then some ((-1), s_2) else if x2 < 1 then some ((-1), s_2) else if (lg_cmp (Int32.toInt64 x2) 2147483647) < 0 then (if 0 < (s_2.1 100 0) then (mb_cw (f_A_begin n 100 s_2) fun s_9 => f_C_visit_61 n (fun x_20 x_21 s_22 => mb_cl (f_A_greatestFear n s_22) fun r_25 s_23 => mb_bd (sF s_23 0 14 r_25) fun s_26 => some (x_21, s_26)) x1 (s_2.1 100 0) n (Int32.toInt64 x2) 0 s_9) else some ((-4), s_2)) else some ((-1), s_2)
set_option maxHeartbeats 4000000 in
set_option maxRecDepth 100000 in
theorem tl_C_visit_61 {dd n : Nat} {K : mj_KT} {out : Int32 × mb_T} (hK : mj_C (dd + 4) 0 0 RC_c "visit" bC_visit 7 K) (hR : mj_R bC_visit (some .int) (fun r2 S2 => r2 = some (.int out.1) ∧ S2 = mb_s out.2) K) {k0 : Int64 → Int32 → mb_T → Option (Int32 × mb_T)} {y1 : Int32} {y3 : Int32} (hk0 : ∀ (w4 : Int64) (w6 : Int32) (s : mb_T), k0 w4 w6 s = some out → K 0 0 108 [.ref 0, .int y1, .retAddr 0, .int y3, .long w4, .retAddr 0, .int w6] [] (mb_s s)) : ∀ (f : Nat) (w4 : Int64) (w6 : Int32) (s : mb_T), f_C_visit_61 n k0 y1 y3 f w4 w6 s = some out → K 0 0 61 [.ref 0, .int y1, .retAddr 0, .int y3, .long w4, .retAddr 0, .int w6] [] (mb_s s) := by
  intro f
  induction f with
  | zero =>
    intro w4 w6 s h
    cases h
  | succ f ih =>
    intro w4 w6 s h
    rw [f_C_visit_61] at h
    refine ro_iload hK dC_visit_61 rfl ?_
    refine ro_iload_n hK dC_visit_63 rfl ?_
    refine ro_icmp_ge (tgt := 108) hK dC_visit_64 (by decide) (fun c_11 => ?_) (fun c_11 => ?_)
    · replace h := mb_ift c_11 h
      refine ro_fg (lv' := [.ref 0, .int y1, .retAddr 0, .int y3, .long w4, .retAddr 0, .int w6]) hK ⟨Or.inr rfl, ⟨Or.inr rfl, ⟨Or.inl rfl, ⟨Or.inr rfl, ⟨Or.inr rfl, ⟨Or.inl rfl, ⟨Or.inr rfl, trivial⟩⟩⟩⟩⟩⟩⟩ ?_
      exact hk0 _ _ _ h
    · replace h := mb_iff c_11 h
      refine ro_aload_n hK dC_visit_67 rfl ?_
      refine rb_get hK fC_50 mb_oC rfl dC_visit_68 ?_
      obtain ⟨r_14, s_12, q_13, h⟩ := mb_cl_e h
      refine rb_callV hK mA_isOver vC_186 (t_A_isOver (dd := dd + 1) q_13) rfl mb_oA rfl (Nat.le_of_ble_eq_true rfl) dC_visit_71 rfl ⟨Nat.le_refl _, Nat.le_refl _⟩ ?_
      show K 0 0 74 [.ref 0, .int y1, .retAddr 0, .int y3, .long w4, .retAddr 0, .int w6] [.int r_14] (mb_s s_12)
      refine ro_if_ne (tgt := 108) hK dC_visit_74 (by decide) (fun c_15 => ?_) (fun c_15 => ?_)
      · replace h := mb_iff c_15 h
        refine ro_fg (lv' := [.ref 0, .int y1, .retAddr 0, .int y3, .long w4, .retAddr 0, .int w6]) hK ⟨Or.inr rfl, ⟨Or.inr rfl, ⟨Or.inl rfl, ⟨Or.inr rfl, ⟨Or.inr rfl, ⟨Or.inl rfl, ⟨Or.inr rfl, trivial⟩⟩⟩⟩⟩⟩⟩ ?_
        exact hk0 _ _ _ h
      · replace h := mb_ift c_15 h
        refine ro_lload hK dC_visit_77 rfl ?_
        refine ro_ldc2 hK cC_309 dC_visit_79 ?_
        refine ro_lmul hK dC_visit_82 ?_
        refine ro_ldc2 hK cC_307 dC_visit_83 ?_
        obtain ⟨z_16, h⟩ := mb_dl_e h
        refine ro_lrem hK dC_visit_86 z_16 ?_
        refine ro_lstore hK dC_visit_87 (by decide) ?_
        show K 0 0 89 [.ref 0, .int y1, .retAddr 0, .int y3, .long ((w4 * 48271) - (w4 * 48271) / 2147483647 * 2147483647), .retAddr 0, .int w6] [] (mb_s s_12)
        refine ro_aload_n hK dC_visit_89 rfl ?_
        refine rb_get hK fC_50 mb_oC rfl dC_visit_90 ?_
        refine ro_lload hK dC_visit_93 rfl ?_
        refine ro_iload_n hK dC_visit_95 rfl ?_
        refine ro_i2l hK dC_visit_96 ?_
        obtain ⟨z_17, h⟩ := mb_dl_e h
        refine ro_lrem hK dC_visit_97 z_17 ?_
        refine ro_l2i hK dC_visit_98 ?_
        obtain ⟨s_18, q_19, h⟩ := mb_cw_e h
        refine rb_callV hK mA_pass vC_241 (t_A_pass (dd := dd + 1) q_19) rfl mb_oA rfl (Nat.le_of_ble_eq_true rfl) dC_visit_99 rfl ⟨Nat.le_refl _, Nat.le_refl _⟩ ?_
        show K 0 0 102 [.ref 0, .int y1, .retAddr 0, .int y3, .long ((w4 * 48271) - (w4 * 48271) / 2147483647 * 2147483647), .retAddr 0, .int w6] [] (mb_s s_18)
        refine ro_iincv (c := 1) hK (by decide) dC_visit_102 rfl (by decide) ?_
        show K 0 0 105 [.ref 0, .int y1, .retAddr 0, .int y3, .long ((w4 * 48271) - (w4 * 48271) / 2147483647 * 2147483647), .retAddr 0, .int (w6 + 1)] [] (mb_s s_18)
        refine ro_goto (tgt := 61) hK dC_visit_105 (by decide) ?_
        refine ro_fg (lv' := [.ref 0, .int y1, .retAddr 0, .int y3, .long ((w4 * 48271) - (w4 * 48271) / 2147483647 * 2147483647), .retAddr 0, .int (w6 + 1)]) hK ⟨Or.inr rfl, ⟨Or.inr rfl, ⟨Or.inl rfl, ⟨Or.inr rfl, ⟨Or.inr rfl, ⟨Or.inl rfl, ⟨Or.inr rfl, trivial⟩⟩⟩⟩⟩⟩⟩ ?_
        exact ih _ _ _ h
set_option maxHeartbeats 4000000 in
set_option maxRecDepth 100000 in
theorem t_C_visit {dd n : Nat} {x1 : Int32} {x2 : Int32} {s : mb_T} {out : Int32 × mb_T}  (h : f_C_visit n x1 x2 s = some out) : mb_MC (dd + 4) yC_visit bC_visit 7 (some .int) [.ref 0, .int x1, .int x2] s (some (.int out.1)) out.2 := by
  unfold f_C_visit at h
  refine mj_mc (lv := [.ref 0, .int x1, .int x2, .retAddr 0, .retAddr 0, .retAddr 0, .retAddr 0]) mC_visit rfl rfl (Nat.le_of_ble_eq_true rfl) (fun K hK hR => ?_)
  have hK : mj_C (dd + 4) 0 0 RC_c "visit" bC_visit 7 K := hK
  refine ro_iload_n hK dC_visit_0 rfl ?_
  refine ro_iconst (x := 1) hK (by decide) dC_visit_1 ?_
  refine ro_icmp_lt (tgt := 26) hK dC_visit_2 (by decide) (fun c_1 => ?_) (fun c_1 => ?_)
  · replace h := mb_ift c_1 h
    refine ro_iconst (x := (-1)) hK (by decide) dC_visit_26 ?_
    cases h
    exact hR.1 0 0 27 _ _ _ _ rfl rfl dC_visit_27 ⟨rfl, rfl⟩
  · replace h := mb_iff c_1 h
    refine ro_iload_n hK dC_visit_5 rfl ?_
    obtain ⟨r_4, s_2, q_3, h⟩ := mb_cl_e h
    refine rb_callS hK mC_isSpan vC_180 (t_C_isSpan (dd := dd + 2) q_3) rfl (Nat.le_of_ble_eq_true rfl) dC_visit_6 rfl ⟨Nat.le_refl _, Nat.le_refl _⟩ ?_
    show K 0 0 9 [.ref 0, .int x1, .int x2, .retAddr 0, .retAddr 0, .retAddr 0, .retAddr 0] [.int r_4] (mb_s s_2)
    refine ro_if_eq (tgt := 26) hK dC_visit_9 (by decide) (fun c_5 => ?_) (fun c_5 => ?_)
    · replace h := mb_ift c_5 h
      refine ro_iconst (x := (-1)) hK (by decide) dC_visit_26 ?_
      cases h
      exact hR.1 0 0 27 _ _ _ _ rfl rfl dC_visit_27 ⟨rfl, rfl⟩
    · replace h := mb_iff c_5 h
      refine ro_iload_n hK dC_visit_12 rfl ?_
      refine ro_iconst (x := 1) hK (by decide) dC_visit_13 ?_
      refine ro_icmp_lt (tgt := 26) hK dC_visit_14 (by decide) (fun c_6 => ?_) (fun c_6 => ?_)
      · replace h := mb_ift c_6 h
        refine ro_iconst (x := (-1)) hK (by decide) dC_visit_26 ?_
        cases h
        exact hR.1 0 0 27 _ _ _ _ rfl rfl dC_visit_27 ⟨rfl, rfl⟩
      · replace h := mb_iff c_6 h
        refine ro_iload_n hK dC_visit_17 rfl ?_
        refine ro_i2l hK dC_visit_18 ?_
        refine ro_ldc2 hK cC_307 dC_visit_19 ?_
        refine ro_lcmp hK dC_visit_22 ?_
        refine ro_if_lt (tgt := 28) hK dC_visit_23 (by decide) (fun c_7 => ?_) (fun c_7 => ?_)
        · replace h := mb_ift c_7 h
          refine ro_aload_n hK dC_visit_28 rfl ?_
          refine rb_get hK fC_29 mb_oC rfl dC_visit_29 ?_
          refine rb_get hK fC_128 (mb_cvo (Or.inl rfl)) rfl dC_visit_32 ?_
          refine ro_istore_n hK dC_visit_35 (by decide) ?_
          show K 0 0 36 [.ref 0, .int x1, .int x2, .int (s_2.1 100 0), .retAddr 0, .retAddr 0, .retAddr 0] [] (mb_s s_2)
          refine ro_iload_n hK dC_visit_36 rfl ?_
          refine ro_if_gt (tgt := 43) hK dC_visit_37 (by decide) (fun c_8 => ?_) (fun c_8 => ?_)
          · replace h := mb_ift c_8 h
            refine ro_aload_n hK dC_visit_43 rfl ?_
            refine rb_get hK fC_50 mb_oC rfl dC_visit_44 ?_
            refine ro_aload_n hK dC_visit_47 rfl ?_
            refine rb_get hK fC_29 mb_oC rfl dC_visit_48 ?_
            obtain ⟨s_9, q_10, h⟩ := mb_cw_e h
            refine rb_callV hK mA_begin vC_144 (t_A_begin (dd := dd + 0) (Or.inl rfl) q_10) rfl mb_oA rfl (Nat.le_of_ble_eq_true rfl) dC_visit_51 rfl ⟨Nat.le_refl _, Nat.le_refl _⟩ ?_
            show K 0 0 54 [.ref 0, .int x1, .int x2, .int (s_2.1 100 0), .retAddr 0, .retAddr 0, .retAddr 0] [] (mb_s s_9)
            refine ro_iload_n hK dC_visit_54 rfl ?_
            refine ro_i2l hK dC_visit_55 ?_
            refine ro_lstore hK dC_visit_56 (by decide) ?_
            show K 0 0 58 [.ref 0, .int x1, .int x2, .int (s_2.1 100 0), .long (Int32.toInt64 x2), .retAddr 0, .retAddr 0] [] (mb_s s_9)
            refine ro_iconst (x := 0) hK (by decide) dC_visit_58 ?_
            refine ro_istore hK dC_visit_59 (by decide) ?_
            show K 0 0 61 [.ref 0, .int x1, .int x2, .int (s_2.1 100 0), .long (Int32.toInt64 x2), .retAddr 0, .int 0] [] (mb_s s_9)
            refine ro_fg (lv' := [.ref 0, .int x1, .retAddr 0, .int (s_2.1 100 0), .long (Int32.toInt64 x2), .retAddr 0, .int 0]) hK ⟨Or.inr rfl, ⟨Or.inr rfl, ⟨Or.inl rfl, ⟨Or.inr rfl, ⟨Or.inr rfl, ⟨Or.inl rfl, ⟨Or.inr rfl, trivial⟩⟩⟩⟩⟩⟩⟩ ?_
            refine tl_C_visit_61 (dd := dd) hK hR (fun x_20 x_21 s_22 h => ?_) n _ _ _ h
            refine ro_aload_n hK dC_visit_108 rfl ?_
            refine ro_aload_n hK dC_visit_109 rfl ?_
            refine rb_get hK fC_50 mb_oC rfl dC_visit_110 ?_
            obtain ⟨r_25, s_23, q_24, h⟩ := mb_cl_e h
            refine rb_callV hK mA_greatestFear vC_216 (t_A_greatestFear (dd := dd + 1) q_24) rfl mb_oA rfl (Nat.le_of_ble_eq_true rfl) dC_visit_113 rfl ⟨Nat.le_refl _, Nat.le_refl _⟩ ?_
            show K 0 0 116 [.ref 0, .int x1, .retAddr 0, .int (s_2.1 100 0), .long x_20, .retAddr 0, .int x_21] [.int r_25, .ref 0] (mb_s s_23)
            obtain ⟨s_26, e_27, h⟩ := mb_bd_e h
            refine rb_put hK gC_74 mb_oC rfl (by show 14 < 15; decide) rfl rfl e_27 dC_visit_116 ?_
            refine ro_iload hK dC_visit_119 rfl ?_
            cases h
            exact hR.1 0 0 121 _ _ _ _ rfl rfl dC_visit_121 ⟨rfl, rfl⟩
          · replace h := mb_iff c_8 h
            refine ro_bipush (x := (-4)) hK (by decide) dC_visit_40 ?_
            cases h
            exact hR.1 0 0 42 _ _ _ _ rfl rfl dC_visit_42 ⟨rfl, rfl⟩
        · replace h := mb_iff c_7 h
          refine ro_iconst (x := (-1)) hK (by decide) dC_visit_26 ?_
          cases h
          exact hR.1 0 0 27 _ _ _ _ rfl rfl dC_visit_27 ⟨rfl, rfl⟩
theorem dA_byLaw_0 : decode bA_byLaw 0 = .ok (.iload_n 1, 1) := by decide +kernel
theorem dA_byLaw_1 : decode bA_byLaw 1 = .ok (.ifCond .eq 13, 3) := by decide +kernel
theorem dA_byLaw_4 : decode bA_byLaw 4 = .ok (.aload_n 0, 1) := by decide +kernel
theorem dA_byLaw_5 : decode bA_byLaw 5 = .ok (.getfield 69, 3) := by decide +kernel
theorem dA_byLaw_8 : decode bA_byLaw 8 = .ok (.iconst (-1), 1) := by decide +kernel
theorem dA_byLaw_9 : decode bA_byLaw 9 = .ok (.if_icmp .ne 5, 3) := by decide +kernel
theorem dA_byLaw_12 : decode bA_byLaw 12 = .ok (.iconst 0, 1) := by decide +kernel
theorem dA_byLaw_13 : decode bA_byLaw 13 = .ok (.ireturn, 1) := by decide +kernel
theorem dA_byLaw_14 : decode bA_byLaw 14 = .ok (.iload_n 1, 1) := by decide +kernel
theorem dA_byLaw_15 : decode bA_byLaw 15 = .ok (.tableswitch 95 1 3 #[25, 49, 69], 25) := by decide +kernel
theorem dA_byLaw_40 : decode bA_byLaw 40 = .ok (.aload_n 0, 1) := by decide +kernel
theorem dA_byLaw_41 : decode bA_byLaw 41 = .ok (.getfield 69, 3) := by decide +kernel
theorem dA_byLaw_44 : decode bA_byLaw 44 = .ok (.iconst 1, 1) := by decide +kernel
theorem dA_byLaw_45 : decode bA_byLaw 45 = .ok (.iadd, 1) := by decide +kernel
theorem dA_byLaw_46 : decode bA_byLaw 46 = .ok (.aload_n 0, 1) := by decide +kernel
theorem dA_byLaw_47 : decode bA_byLaw 47 = .ok (.getfield 48, 3) := by decide +kernel
theorem dA_byLaw_50 : decode bA_byLaw 50 = .ok (.if_icmp .ge 12, 3) := by decide +kernel
theorem dA_byLaw_53 : decode bA_byLaw 53 = .ok (.aload_n 0, 1) := by decide +kernel
theorem dA_byLaw_54 : decode bA_byLaw 54 = .ok (.getfield 69, 3) := by decide +kernel
theorem dA_byLaw_57 : decode bA_byLaw 57 = .ok (.iconst 1, 1) := by decide +kernel
theorem dA_byLaw_58 : decode bA_byLaw 58 = .ok (.iadd, 1) := by decide +kernel
theorem dA_byLaw_59 : decode bA_byLaw 59 = .ok (.goto 4, 3) := by decide +kernel
theorem dA_byLaw_62 : decode bA_byLaw 62 = .ok (.iconst 0, 1) := by decide +kernel
theorem dA_byLaw_63 : decode bA_byLaw 63 = .ok (.ireturn, 1) := by decide +kernel
theorem dA_byLaw_64 : decode bA_byLaw 64 = .ok (.aload_n 0, 1) := by decide +kernel
theorem dA_byLaw_65 : decode bA_byLaw 65 = .ok (.aload_n 0, 1) := by decide +kernel
theorem dA_byLaw_66 : decode bA_byLaw 66 = .ok (.aload_n 0, 1) := by decide +kernel
theorem dA_byLaw_67 : decode bA_byLaw 67 = .ok (.getfield 69, 3) := by decide +kernel
theorem dA_byLaw_70 : decode bA_byLaw 70 = .ok (.invokevirtual 116, 3) := by decide +kernel
theorem dA_byLaw_73 : decode bA_byLaw 73 = .ok (.iconst 1, 1) := by decide +kernel
theorem dA_byLaw_74 : decode bA_byLaw 74 = .ok (.aload_n 0, 1) := by decide +kernel
theorem dA_byLaw_75 : decode bA_byLaw 75 = .ok (.getfield 69, 3) := by decide +kernel
theorem dA_byLaw_78 : decode bA_byLaw 78 = .ok (.ishl, 1) := by decide +kernel
theorem dA_byLaw_79 : decode bA_byLaw 79 = .ok (.ior, 1) := by decide +kernel
theorem dA_byLaw_80 : decode bA_byLaw 80 = .ok (.invokevirtual 119, 3) := by decide +kernel
theorem dA_byLaw_83 : decode bA_byLaw 83 = .ok (.ireturn, 1) := by decide +kernel
theorem dA_byLaw_84 : decode bA_byLaw 84 = .ok (.aload_n 0, 1) := by decide +kernel
theorem dA_byLaw_85 : decode bA_byLaw 85 = .ok (.getfield 64, 3) := by decide +kernel
theorem dA_byLaw_88 : decode bA_byLaw 88 = .ok (.iconst 1, 1) := by decide +kernel
theorem dA_byLaw_89 : decode bA_byLaw 89 = .ok (.iand, 1) := by decide +kernel
theorem dA_byLaw_90 : decode bA_byLaw 90 = .ok (.iconst 1, 1) := by decide +kernel
theorem dA_byLaw_91 : decode bA_byLaw 91 = .ok (.if_icmp .ne 10, 3) := by decide +kernel
theorem dA_byLaw_94 : decode bA_byLaw 94 = .ok (.aload_n 0, 1) := by decide +kernel
theorem dA_byLaw_95 : decode bA_byLaw 95 = .ok (.getfield 69, 3) := by decide +kernel
theorem dA_byLaw_98 : decode bA_byLaw 98 = .ok (.goto 11, 3) := by decide +kernel
theorem dA_byLaw_101 : decode bA_byLaw 101 = .ok (.aload_n 0, 1) := by decide +kernel
theorem dA_byLaw_102 : decode bA_byLaw 102 = .ok (.aload_n 0, 1) := by decide +kernel
theorem dA_byLaw_103 : decode bA_byLaw 103 = .ok (.invokevirtual 122, 3) := by decide +kernel
theorem dA_byLaw_106 : decode bA_byLaw 106 = .ok (.invokevirtual 119, 3) := by decide +kernel
theorem dA_byLaw_109 : decode bA_byLaw 109 = .ok (.ireturn, 1) := by decide +kernel
theorem dA_byLaw_110 : decode bA_byLaw 110 = .ok (.aload_n 0, 1) := by decide +kernel
theorem dA_byLaw_111 : decode bA_byLaw 111 = .ok (.aload_n 0, 1) := by decide +kernel
theorem dA_byLaw_112 : decode bA_byLaw 112 = .ok (.invokevirtual 122, 3) := by decide +kernel
theorem dA_byLaw_115 : decode bA_byLaw 115 = .ok (.invokevirtual 119, 3) := by decide +kernel
theorem dA_byLaw_118 : decode bA_byLaw 118 = .ok (.ireturn, 1) := by decide +kernel
def f_A_byLaw (n : Nat) (x1 : Int32) (s : mb_T) : Option (Int32 × mb_T) := mb_jn (fun (s_4 : mb_T) => if x1 = 1 then some ((if (s_4.1 40 0) ≤ ((s_4.1 40 5) + 1) then 0 else ((s_4.1 40 5) + 1) : Int32), s_4) else if x1 = 2 then (mb_cl (f_A_bitsBeside n (s_4.1 40 5) s_4) fun r_23 s_21 => mb_cl (f_A_showsMost n (r_23 ||| (1 <<< ((s_21.1 40 5) &&& 31))) s_21) fun r_26 s_24 => some (r_26, s_24)) else if x1 = 3 then (if ((s_4.1 40 4) &&& 1) = 1 then some ((s_4.1 40 5), s_4) else mb_cl (f_A_bitsOfAll n s_4) fun r_17 s_15 => mb_cl (f_A_showsMost n r_17 s_15) fun r_20 s_18 => some (r_20, s_18)) else mb_cl (f_A_bitsOfAll n s_4) fun r_10 s_8 => mb_cl (f_A_showsMost n r_10 s_8) fun r_13 s_11 => some (r_13, s_11)) fun j_1 => if x1 = 0 then j_1 s else if (s.1 40 5) = (-1) then some (0, s) else j_1 s
set_option maxHeartbeats 4000000 in
set_option maxRecDepth 100000 in
theorem t_A_byLaw {dd n : Nat} {x1 : Int32} {s : mb_T} {out : Int32 × mb_T}  (h : f_A_byLaw n x1 s = some out) : mb_MC (dd + 4) yA_byLaw bA_byLaw 2 (some .int) [.ref 40, .int x1] s (some (.int out.1)) out.2 := by
  unfold f_A_byLaw at h
  refine mj_mc (lv := [.ref 40, .int x1]) mA_byLaw rfl rfl (Nat.le_of_ble_eq_true rfl) (fun K hK hR => ?_)
  have hK : mj_C (dd + 4) 0 0 RA_c "byLaw" bA_byLaw 2 K := hK
  refine ro_iload_n hK dA_byLaw_0 rfl ?_
  obtain ⟨j_1, e_29, h⟩ := mb_jn_e h
  have hj_1 : ∀ (s_4 : mb_T), j_1 s_4 = some out → K 0 0 14 [.ref 40, .int x1] [] (mb_s s_4) := by
    intro s_4 h
    rw [e_29] at h
    refine ro_iload_n hK dA_byLaw_14 rfl ?_
    by_cases c_5 : x1 = 1
    · replace h := mb_ift c_5 h
      refine ro_tabIn (off := 25) (tgt := 40) hK dA_byLaw_15 (by rw [c_5]; decide) (by rw [c_5]; decide) (by rw [c_5]; decide) (by decide) ?_
      refine ro_aload_n hK dA_byLaw_40 rfl ?_
      refine rb_get hK fA_69 mb_oA rfl dA_byLaw_41 ?_
      refine ro_iconst (x := 1) hK (by decide) dA_byLaw_44 ?_
      refine ro_iadd hK dA_byLaw_45 ?_
      refine ro_aload_n hK dA_byLaw_46 rfl ?_
      refine rb_get hK fA_48 mb_oA rfl dA_byLaw_47 ?_
      have j_28 : ∀ w_ : Int32, w_ = (if (s_4.1 40 0) ≤ ((s_4.1 40 5) + 1) then 0 else ((s_4.1 40 5) + 1) : Int32) → K 0 0 63 [.ref 40, .int x1] [.int w_] (mb_s s_4) → K 0 0 50 [.ref 40, .int x1] [.int (s_4.1 40 0), .int ((s_4.1 40 5) + 1)] (mb_s s_4) := by
        intro w_ hw hj
        refine ro_icmp_ge (tgt := 62) hK dA_byLaw_50 (by decide) (fun c_27 => ?_) (fun c_27 => ?_)
        · skip
          refine ro_iconst (x := 0) hK (by decide) dA_byLaw_62 ?_
          have hw := (hw.trans (if_pos c_27))
          subst hw
          exact hj
        · skip
          refine ro_aload_n hK dA_byLaw_53 rfl ?_
          refine rb_get hK fA_69 mb_oA rfl dA_byLaw_54 ?_
          refine ro_iconst (x := 1) hK (by decide) dA_byLaw_57 ?_
          refine ro_iadd hK dA_byLaw_58 ?_
          refine ro_goto (tgt := 63) hK dA_byLaw_59 (by decide) ?_
          have hw := (hw.trans (if_neg c_27))
          subst hw
          exact hj
      refine j_28 _ rfl ?_
      cases h
      exact hR.1 0 0 63 _ _ _ _ rfl rfl dA_byLaw_63 ⟨rfl, rfl⟩
    · replace h := mb_iff c_5 h
      by_cases c_6 : x1 = 2
      · replace h := mb_ift c_6 h
        refine ro_tabIn (off := 49) (tgt := 64) hK dA_byLaw_15 (by rw [c_6]; decide) (by rw [c_6]; decide) (by rw [c_6]; decide) (by decide) ?_
        refine ro_aload_n hK dA_byLaw_64 rfl ?_
        refine ro_aload_n hK dA_byLaw_65 rfl ?_
        refine ro_aload_n hK dA_byLaw_66 rfl ?_
        refine rb_get hK fA_69 mb_oA rfl dA_byLaw_67 ?_
        obtain ⟨r_23, s_21, q_22, h⟩ := mb_cl_e h
        refine rb_callV hK mA_bitsBeside vA_116 (t_A_bitsBeside (dd := dd + 1) q_22) rfl mb_oA rfl (Nat.le_of_ble_eq_true rfl) dA_byLaw_70 rfl ⟨Nat.le_refl _, Nat.le_refl _⟩ ?_
        show K 0 0 73 [.ref 40, .int x1] [.int r_23, .ref 40] (mb_s s_21)
        refine ro_iconst (x := 1) hK (by decide) dA_byLaw_73 ?_
        refine ro_aload_n hK dA_byLaw_74 rfl ?_
        refine rb_get hK fA_69 mb_oA rfl dA_byLaw_75 ?_
        refine ro_ishl hK dA_byLaw_78 ?_
        refine ro_ior hK dA_byLaw_79 ?_
        obtain ⟨r_26, s_24, q_25, h⟩ := mb_cl_e h
        refine rb_callV hK mA_showsMost vA_119 (t_A_showsMost (dd := dd + 0) q_25) rfl mb_oA rfl (Nat.le_of_ble_eq_true rfl) dA_byLaw_80 rfl ⟨Nat.le_refl _, Nat.le_refl _⟩ ?_
        show K 0 0 83 [.ref 40, .int x1] [.int r_26] (mb_s s_24)
        cases h
        exact hR.1 0 0 83 _ _ _ _ rfl rfl dA_byLaw_83 ⟨rfl, rfl⟩
      · replace h := mb_iff c_6 h
        by_cases c_7 : x1 = 3
        · replace h := mb_ift c_7 h
          refine ro_tabIn (off := 69) (tgt := 84) hK dA_byLaw_15 (by rw [c_7]; decide) (by rw [c_7]; decide) (by rw [c_7]; decide) (by decide) ?_
          refine ro_aload_n hK dA_byLaw_84 rfl ?_
          refine rb_get hK fA_64 mb_oA rfl dA_byLaw_85 ?_
          refine ro_iconst (x := 1) hK (by decide) dA_byLaw_88 ?_
          refine ro_iand hK dA_byLaw_89 ?_
          refine ro_iconst (x := 1) hK (by decide) dA_byLaw_90 ?_
          refine ro_icmp_ne (tgt := 101) hK dA_byLaw_91 (by decide) (fun c_14 => ?_) (fun c_14 => ?_)
          · replace h := mb_iff c_14 h
            refine ro_aload_n hK dA_byLaw_101 rfl ?_
            refine ro_aload_n hK dA_byLaw_102 rfl ?_
            obtain ⟨r_17, s_15, q_16, h⟩ := mb_cl_e h
            refine rb_callV hK mA_bitsOfAll vA_122 (t_A_bitsOfAll (dd := dd + 2) q_16) rfl mb_oA rfl (Nat.le_of_ble_eq_true rfl) dA_byLaw_103 rfl ⟨Nat.le_refl _, Nat.le_refl _⟩ ?_
            show K 0 0 106 [.ref 40, .int x1] [.int r_17, .ref 40] (mb_s s_15)
            obtain ⟨r_20, s_18, q_19, h⟩ := mb_cl_e h
            refine rb_callV hK mA_showsMost vA_119 (t_A_showsMost (dd := dd + 0) q_19) rfl mb_oA rfl (Nat.le_of_ble_eq_true rfl) dA_byLaw_106 rfl ⟨Nat.le_refl _, Nat.le_refl _⟩ ?_
            show K 0 0 109 [.ref 40, .int x1] [.int r_20] (mb_s s_18)
            cases h
            exact hR.1 0 0 109 _ _ _ _ rfl rfl dA_byLaw_109 ⟨rfl, rfl⟩
          · replace h := mb_ift c_14 h
            refine ro_aload_n hK dA_byLaw_94 rfl ?_
            refine rb_get hK fA_69 mb_oA rfl dA_byLaw_95 ?_
            refine ro_goto (tgt := 109) hK dA_byLaw_98 (by decide) ?_
            cases h
            exact hR.1 0 0 109 _ _ _ _ rfl rfl dA_byLaw_109 ⟨rfl, rfl⟩
        · replace h := mb_iff c_7 h
          have hz : Int32.toInt x1 < 1 ∨ 3 < Int32.toInt x1 := by
            rcases Int.lt_or_le (Int32.toInt x1) 1 with hz | hz
            · exact Or.inl hz
            · rcases Int.lt_or_le 3 (Int32.toInt x1) with hw | hw
              · exact Or.inr hw
              · exfalso
                have ho : Int32.toInt x1 = 1 ∨ Int32.toInt x1 = 2 ∨ Int32.toInt x1 = 3 := by omega
                rcases ho with ho | ho | ho
                · exact c_5 (Int32.toInt_inj.mp (by rw [ho]; decide))
                · exact c_6 (Int32.toInt_inj.mp (by rw [ho]; decide))
                · exact c_7 (Int32.toInt_inj.mp (by rw [ho]; decide))
          refine ro_tabOut (tgt := 110) hK dA_byLaw_15 hz (by decide) ?_
          refine ro_aload_n hK dA_byLaw_110 rfl ?_
          refine ro_aload_n hK dA_byLaw_111 rfl ?_
          obtain ⟨r_10, s_8, q_9, h⟩ := mb_cl_e h
          refine rb_callV hK mA_bitsOfAll vA_122 (t_A_bitsOfAll (dd := dd + 2) q_9) rfl mb_oA rfl (Nat.le_of_ble_eq_true rfl) dA_byLaw_112 rfl ⟨Nat.le_refl _, Nat.le_refl _⟩ ?_
          show K 0 0 115 [.ref 40, .int x1] [.int r_10, .ref 40] (mb_s s_8)
          obtain ⟨r_13, s_11, q_12, h⟩ := mb_cl_e h
          refine rb_callV hK mA_showsMost vA_119 (t_A_showsMost (dd := dd + 0) q_12) rfl mb_oA rfl (Nat.le_of_ble_eq_true rfl) dA_byLaw_115 rfl ⟨Nat.le_refl _, Nat.le_refl _⟩ ?_
          show K 0 0 118 [.ref 40, .int x1] [.int r_13] (mb_s s_11)
          cases h
          exact hR.1 0 0 118 _ _ _ _ rfl rfl dA_byLaw_118 ⟨rfl, rfl⟩
  refine ro_if_eq (tgt := 14) hK dA_byLaw_1 (by decide) (fun c_2 => ?_) (fun c_2 => ?_)
  · replace h := mb_ift c_2 h
    refine ro_fg (lv' := [.ref 40, .int x1]) hK ⟨Or.inr rfl, ⟨Or.inr rfl, trivial⟩⟩ ?_
    exact hj_1 _ h
  · replace h := mb_iff c_2 h
    refine ro_aload_n hK dA_byLaw_4 rfl ?_
    refine rb_get hK fA_69 mb_oA rfl dA_byLaw_5 ?_
    refine ro_iconst (x := (-1)) hK (by decide) dA_byLaw_8 ?_
    refine ro_icmp_ne (tgt := 14) hK dA_byLaw_9 (by decide) (fun c_3 => ?_) (fun c_3 => ?_)
    · replace h := mb_iff c_3 h
      refine ro_fg (lv' := [.ref 40, .int x1]) hK ⟨Or.inr rfl, ⟨Or.inr rfl, trivial⟩⟩ ?_
      exact hj_1 _ h
    · replace h := mb_ift c_3 h
      refine ro_iconst (x := 0) hK (by decide) dA_byLaw_12 ?_
      cases h
      exact hR.1 0 0 13 _ _ _ _ rfl rfl dA_byLaw_13 ⟨rfl, rfl⟩
