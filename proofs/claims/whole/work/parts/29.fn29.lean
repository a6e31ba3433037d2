theorem dM_readsHead_0 : decode bM_readsHead 0 = .ok (.aload_n 0, 1) := by decide +kernel
theorem dM_readsHead_1 : decode bM_readsHead 1 = .ok (.iload_n 1, 1) := by decide +kernel
theorem dM_readsHead_2 : decode bM_readsHead 2 = .ok (.invokevirtual 130, 3) := by decide +kernel
theorem dM_readsHead_5 : decode bM_readsHead 5 = .ok (.bipush 119, 2) := by decide +kernel
theorem dM_readsHead_7 : decode bM_readsHead 7 = .ok (.if_icmp .eq 5, 3) := by decide +kernel
theorem dM_readsHead_10 : decode bM_readsHead 10 = .ok (.iconst 0, 1) := by decide +kernel
theorem dM_readsHead_11 : decode bM_readsHead 11 = .ok (.ireturn, 1) := by decide +kernel
theorem dM_readsHead_12 : decode bM_readsHead 12 = .ok (.aload_n 0, 1) := by decide +kernel
theorem dM_readsHead_13 : decode bM_readsHead 13 = .ok (.dup, 1) := by decide +kernel
theorem dM_readsHead_14 : decode bM_readsHead 14 = .ok (.getfield 127, 3) := by decide +kernel
theorem dM_readsHead_17 : decode bM_readsHead 17 = .ok (.iconst 1, 1) := by decide +kernel
theorem dM_readsHead_18 : decode bM_readsHead 18 = .ok (.iadd, 1) := by decide +kernel
theorem dM_readsHead_19 : decode bM_readsHead 19 = .ok (.putfield 127, 3) := by decide +kernel
theorem dM_readsHead_22 : decode bM_readsHead 22 = .ok (.aload_n 0, 1) := by decide +kernel
theorem dM_readsHead_23 : decode bM_readsHead 23 = .ok (.iload_n 1, 1) := by decide +kernel
theorem dM_readsHead_24 : decode bM_readsHead 24 = .ok (.invokevirtual 130, 3) := by decide +kernel
theorem dM_readsHead_27 : decode bM_readsHead 27 = .ok (.bipush 114, 2) := by decide +kernel
theorem dM_readsHead_29 : decode bM_readsHead 29 = .ok (.if_icmp .eq 15, 3) := by decide +kernel
theorem dM_readsHead_32 : decode bM_readsHead 32 = .ok (.aload_n 0, 1) := by decide +kernel
theorem dM_readsHead_33 : decode bM_readsHead 33 = .ok (.iload_n 1, 1) := by decide +kernel
theorem dM_readsHead_34 : decode bM_readsHead 34 = .ok (.invokevirtual 130, 3) := by decide +kernel
theorem dM_readsHead_37 : decode bM_readsHead 37 = .ok (.bipush 111, 2) := by decide +kernel
theorem dM_readsHead_39 : decode bM_readsHead 39 = .ok (.if_icmp .eq 5, 3) := by decide +kernel
theorem dM_readsHead_42 : decode bM_readsHead 42 = .ok (.iconst 0, 1) := by decide +kernel
theorem dM_readsHead_43 : decode bM_readsHead 43 = .ok (.ireturn, 1) := by decide +kernel
theorem dM_readsHead_44 : decode bM_readsHead 44 = .ok (.aload_n 0, 1) := by decide +kernel
theorem dM_readsHead_45 : decode bM_readsHead 45 = .ok (.iload_n 1, 1) := by decide +kernel
theorem dM_readsHead_46 : decode bM_readsHead 46 = .ok (.invokevirtual 130, 3) := by decide +kernel
theorem dM_readsHead_49 : decode bM_readsHead 49 = .ok (.bipush 111, 2) := by decide +kernel
theorem dM_readsHead_51 : decode bM_readsHead 51 = .ok (.if_icmp .ne 7, 3) := by decide +kernel
theorem dM_readsHead_54 : decode bM_readsHead 54 = .ok (.iconst 1, 1) := by decide +kernel
theorem dM_readsHead_55 : decode bM_readsHead 55 = .ok (.goto 4, 3) := by decide +kernel
theorem dM_readsHead_58 : decode bM_readsHead 58 = .ok (.iconst 0, 1) := by decide +kernel
theorem dM_readsHead_59 : decode bM_readsHead 59 = .ok (.istore_n 2, 1) := by decide +kernel
theorem dM_readsHead_60 : decode bM_readsHead 60 = .ok (.aload_n 0, 1) := by decide +kernel
theorem dM_readsHead_61 : decode bM_readsHead 61 = .ok (.dup, 1) := by decide +kernel
theorem dM_readsHead_62 : decode bM_readsHead 62 = .ok (.getfield 127, 3) := by decide +kernel
theorem dM_readsHead_65 : decode bM_readsHead 65 = .ok (.iconst 1, 1) := by decide +kernel
theorem dM_readsHead_66 : decode bM_readsHead 66 = .ok (.iadd, 1) := by decide +kernel
theorem dM_readsHead_67 : decode bM_readsHead 67 = .ok (.putfield 127, 3) := by decide +kernel
theorem dM_readsHead_70 : decode bM_readsHead 70 = .ok (.aload_n 0, 1) := by decide +kernel
theorem dM_readsHead_71 : decode bM_readsHead 71 = .ok (.iload_n 1, 1) := by decide +kernel
theorem dM_readsHead_72 : decode bM_readsHead 72 = .ok (.iconst 0, 1) := by decide +kernel
theorem dM_readsHead_73 : decode bM_readsHead 73 = .ok (.iconst 3, 1) := by decide +kernel
theorem dM_readsHead_74 : decode bM_readsHead 74 = .ok (.invokevirtual 133, 3) := by decide +kernel
theorem dM_readsHead_77 : decode bM_readsHead 77 = .ok (.istore_n 3, 1) := by decide +kernel
theorem dM_readsHead_78 : decode bM_readsHead 78 = .ok (.iload_n 3, 1) := by decide +kernel
theorem dM_readsHead_79 : decode bM_readsHead 79 = .ok (.bipush (-9), 2) := by decide +kernel
theorem dM_readsHead_81 : decode bM_readsHead 81 = .ok (.if_icmp .ne 8, 3) := by decide +kernel
theorem dM_readsHead_84 : decode bM_readsHead 84 = .ok (.bipush (-9), 2) := by decide +kernel
theorem dM_readsHead_86 : decode bM_readsHead 86 = .ok (.goto 11, 3) := by decide +kernel
theorem dM_readsHead_89 : decode bM_readsHead 89 = .ok (.aload_n 0, 1) := by decide +kernel
theorem dM_readsHead_90 : decode bM_readsHead 90 = .ok (.iload_n 1, 1) := by decide +kernel
theorem dM_readsHead_91 : decode bM_readsHead 91 = .ok (.iconst 0, 1) := by decide +kernel
theorem dM_readsHead_92 : decode bM_readsHead 92 = .ok (.bipush 9, 2) := by decide +kernel
theorem dM_readsHead_94 : decode bM_readsHead 94 = .ok (.invokevirtual 133, 3) := by decide +kernel
theorem dM_readsHead_97 : decode bM_readsHead 97 = .ok (.istore 4, 2) := by decide +kernel
theorem dM_readsHead_99 : decode bM_readsHead 99 = .ok (.iload 4, 2) := by decide +kernel
theorem dM_readsHead_101 : decode bM_readsHead 101 = .ok (.bipush (-9), 2) := by decide +kernel
theorem dM_readsHead_103 : decode bM_readsHead 103 = .ok (.if_icmp .ne 5, 3) := by decide +kernel
theorem dM_readsHead_106 : decode bM_readsHead 106 = .ok (.iconst 0, 1) := by decide +kernel
theorem dM_readsHead_107 : decode bM_readsHead 107 = .ok (.ireturn, 1) := by decide +kernel
theorem dM_readsHead_108 : decode bM_readsHead 108 = .ok (.aload_n 0, 1) := by decide +kernel
theorem dM_readsHead_109 : decode bM_readsHead 109 = .ok (.iload_n 2, 1) := by decide +kernel
theorem dM_readsHead_110 : decode bM_readsHead 110 = .ok (.putfield 137, 3) := by decide +kernel
theorem dM_readsHead_113 : decode bM_readsHead 113 = .ok (.aload_n 0, 1) := by decide +kernel
theorem dM_readsHead_114 : decode bM_readsHead 114 = .ok (.iload_n 3, 1) := by decide +kernel
theorem dM_readsHead_115 : decode bM_readsHead 115 = .ok (.putfield 140, 3) := by decide +kernel
theorem dM_readsHead_118 : decode bM_readsHead 118 = .ok (.aload_n 0, 1) := by decide +kernel
theorem dM_readsHead_119 : decode bM_readsHead 119 = .ok (.bipush 10, 2) := by decide +kernel
theorem dM_readsHead_121 : decode bM_readsHead 121 = .ok (.iload 4, 2) := by decide +kernel
theorem dM_readsHead_123 : decode bM_readsHead 123 = .ok (.imul, 1) := by decide +kernel
theorem dM_readsHead_124 : decode bM_readsHead 124 = .ok (.putfield 143, 3) := by decide +kernel
theorem dM_readsHead_127 : decode bM_readsHead 127 = .ok (.iconst 1, 1) := by decide +kernel
theorem dM_readsHead_128 : decode bM_readsHead 128 = .ok (.ireturn, 1) := by decide +kernel
def f_M_readsHead (n : Nat) (x1 : Int32) (s : mb_T) : Option (Int32 × mb_T) := mb_cl (f_M_here n x1 s) fun r_3 s_1 => if r_3 = 119 then (mb_bd (sF s_1 200 17 ((s_1.1 200 17) + 1)) fun s_5 => mb_cl (f_M_here n x1 s_5) fun r_9 s_7 => mb_jn (fun (s_16 : mb_T) => mb_cl (f_M_here n x1 s_16) fun r_19 s_17 => mb_bd (sF s_17 200 17 ((s_17.1 200 17) + 1)) fun s_22 => mb_cl (f_M_figure n x1 0 3 s_22) fun r_26 s_24 => mb_jn (fun (x_32 : Int32) (s_33 : mb_T) => if x_32 = (-9) then some (0, s_33) else mb_bd (sF s_33 200 19 (if r_19 = 111 then 1 else 0 : Int32)) fun s_35 => mb_bd (sF s_35 200 20 r_26) fun s_37 => mb_bd (sF s_37 200 21 (10 * x_32)) fun s_39 => some (1, s_39)) fun j_27 => if r_26 = (-9) then j_27 (-9) s_24 else mb_cl (f_M_figure n x1 0 9 s_24) fun r_31 s_29 => j_27 r_31 s_29) fun j_10 => if r_9 = 114 then j_10 s_7 else mb_cl (f_M_here n x1 s_7) fun r_14 s_12 => if r_14 = 111 then j_10 s_12 else some (0, s_12)) else some (0, s_1)
set_option maxHeartbeats 4000000 in
set_option maxRecDepth 100000 in
theorem t_M_readsHead {dd n : Nat} {x1 : Int32} {s : mb_T} {out : Int32 × mb_T}  (h : f_M_readsHead n x1 s = some out) : mb_MC (dd + 3) yM_readsHead bM_readsHead 5 (some .boolean) [.ref 200, .int x1] s (some (.int out.1)) out.2 := by
  unfold f_M_readsHead at h
  refine mj_mc (lv := [.ref 200, .int x1, .retAddr 0, .retAddr 0, .retAddr 0]) mM_readsHead rfl rfl (Nat.le_of_ble_eq_true rfl) (fun K hK hR => ?_)
  have hK : mj_C (dd + 3) 0 0 RM_c "readsHead" bM_readsHead 5 K := hK
  refine ro_aload_n hK dM_readsHead_0 rfl ?_
  refine ro_iload_n hK dM_readsHead_1 rfl ?_
  obtain ⟨r_3, s_1, q_2, h⟩ := mb_cl_e h
  refine rb_callV hK mM_here vM_130 (t_M_here (dd := dd + 1) q_2) rfl mb_oM rfl (Nat.le_of_ble_eq_true rfl) dM_readsHead_2 rfl ⟨Nat.le_refl _, Nat.le_refl _⟩ ?_
  show K 0 0 5 [.ref 200, .int x1, .retAddr 0, .retAddr 0, .retAddr 0] [.int r_3] (mb_s s_1)
  refine ro_bipush (x := 119) hK (by decide) dM_readsHead_5 ?_
  refine ro_icmp_eq (tgt := 12) hK dM_readsHead_7 (by decide) (fun c_4 => ?_) (fun c_4 => ?_)
  · replace h := mb_ift c_4 h
    refine ro_aload_n hK dM_readsHead_12 rfl ?_
    refine ro_dup hK dM_readsHead_13 rfl ?_
    refine rb_get hK fM_127 mb_oM rfl dM_readsHead_14 ?_
    refine ro_iconst (x := 1) hK (by decide) dM_readsHead_17 ?_
    refine ro_iadd hK dM_readsHead_18 ?_
    obtain ⟨s_5, e_6, h⟩ := mb_bd_e h
    refine rb_put hK gM_127 mb_oM rfl (by show 17 < 45; decide) rfl rfl e_6 dM_readsHead_19 ?_
    refine ro_aload_n hK dM_readsHead_22 rfl ?_
    refine ro_iload_n hK dM_readsHead_23 rfl ?_
    obtain ⟨r_9, s_7, q_8, h⟩ := mb_cl_e h
    refine rb_callV hK mM_here vM_130 (t_M_here (dd := dd + 1) q_8) rfl mb_oM rfl (Nat.le_of_ble_eq_true rfl) dM_readsHead_24 rfl ⟨Nat.le_refl _, Nat.le_refl _⟩ ?_
    show K 0 0 27 [.ref 200, .int x1, .retAddr 0, .retAddr 0, .retAddr 0] [.int r_9] (mb_s s_7)
    refine ro_bipush (x := 114) hK (by decide) dM_readsHead_27 ?_
    obtain ⟨j_10, e_42, h⟩ := mb_jn_e h
    have hj_10 : ∀ (s_16 : mb_T), j_10 s_16 = some out → K 0 0 44 [.ref 200, .int x1, .retAddr 0, .retAddr 0, .retAddr 0] [] (mb_s s_16) := by
      intro s_16 h
      rw [e_42] at h
      refine ro_aload_n hK dM_readsHead_44 rfl ?_
      refine ro_iload_n hK dM_readsHead_45 rfl ?_
      obtain ⟨r_19, s_17, q_18, h⟩ := mb_cl_e h
      refine rb_callV hK mM_here vM_130 (t_M_here (dd := dd + 1) q_18) rfl mb_oM rfl (Nat.le_of_ble_eq_true rfl) dM_readsHead_46 rfl ⟨Nat.le_refl _, Nat.le_refl _⟩ ?_
      show K 0 0 49 [.ref 200, .int x1, .retAddr 0, .retAddr 0, .retAddr 0] [.int r_19] (mb_s s_17)
      refine ro_bipush (x := 111) hK (by decide) dM_readsHead_49 ?_
      have j_21 : ∀ w_ : Int32, w_ = (if r_19 = 111 then 1 else 0 : Int32) → K 0 0 59 [.ref 200, .int x1, .retAddr 0, .retAddr 0, .retAddr 0] [.int w_] (mb_s s_17) → K 0 0 51 [.ref 200, .int x1, .retAddr 0, .retAddr 0, .retAddr 0] [.int 111, .int r_19] (mb_s s_17) := by
        intro w_ hw hj
        refine ro_icmp_ne (tgt := 58) hK dM_readsHead_51 (by decide) (fun c_20 => ?_) (fun c_20 => ?_)
        · skip
          refine ro_iconst (x := 0) hK (by decide) dM_readsHead_58 ?_
          have hw := (hw.trans (if_neg c_20))
          subst hw
          exact hj
        · skip
          refine ro_iconst (x := 1) hK (by decide) dM_readsHead_54 ?_
          refine ro_goto (tgt := 59) hK dM_readsHead_55 (by decide) ?_
          have hw := (hw.trans (if_pos c_20))
          subst hw
          exact hj
      refine j_21 _ rfl ?_
      refine ro_istore_n hK dM_readsHead_59 (by decide) ?_
      show K 0 0 60 [.ref 200, .int x1, .int (if r_19 = 111 then 1 else 0 : Int32), .retAddr 0, .retAddr 0] [] (mb_s s_17)
      refine ro_aload_n hK dM_readsHead_60 rfl ?_
      refine ro_dup hK dM_readsHead_61 rfl ?_
      refine rb_get hK fM_127 mb_oM rfl dM_readsHead_62 ?_
      refine ro_iconst (x := 1) hK (by decide) dM_readsHead_65 ?_
      refine ro_iadd hK dM_readsHead_66 ?_
      obtain ⟨s_22, e_23, h⟩ := mb_bd_e h
      refine rb_put hK gM_127 mb_oM rfl (by show 17 < 45; decide) rfl rfl e_23 dM_readsHead_67 ?_
      refine ro_aload_n hK dM_readsHead_70 rfl ?_
      refine ro_iload_n hK dM_readsHead_71 rfl ?_
      refine ro_iconst (x := 0) hK (by decide) dM_readsHead_72 ?_
      refine ro_iconst (x := 3) hK (by decide) dM_readsHead_73 ?_
      obtain ⟨r_26, s_24, q_25, h⟩ := mb_cl_e h
      refine rb_callV hK mM_figure vM_133 (t_M_figure (dd := dd + 0) q_25) rfl mb_oM rfl (Nat.le_of_ble_eq_true rfl) dM_readsHead_74 rfl ⟨Nat.le_refl _, Nat.le_refl _⟩ ?_
      show K 0 0 77 [.ref 200, .int x1, .int (if r_19 = 111 then 1 else 0 : Int32), .retAddr 0, .retAddr 0] [.int r_26] (mb_s s_24)
      refine ro_istore_n hK dM_readsHead_77 (by decide) ?_
      show K 0 0 78 [.ref 200, .int x1, .int (if r_19 = 111 then 1 else 0 : Int32), .int r_26, .retAddr 0] [] (mb_s s_24)
      refine ro_iload_n hK dM_readsHead_78 rfl ?_
      refine ro_bipush (x := (-9)) hK (by decide) dM_readsHead_79 ?_
      obtain ⟨j_27, e_41, h⟩ := mb_jn_e h
      have hj_27 : ∀ (x_32 : Int32) (s_33 : mb_T), j_27 x_32 s_33 = some out → K 0 0 97 [.ref 200, .int x1, .int (if r_19 = 111 then 1 else 0 : Int32), .int r_26, .retAddr 0] [.int x_32] (mb_s s_33) := by
        intro x_32 s_33 h
        rw [e_41] at h
        refine ro_istore hK dM_readsHead_97 (by decide) ?_
        show K 0 0 99 [.ref 200, .int x1, .int (if r_19 = 111 then 1 else 0 : Int32), .int r_26, .int x_32] [] (mb_s s_33)
        refine ro_iload hK dM_readsHead_99 rfl ?_
        refine ro_bipush (x := (-9)) hK (by decide) dM_readsHead_101 ?_
        refine ro_icmp_ne (tgt := 108) hK dM_readsHead_103 (by decide) (fun c_34 => ?_) (fun c_34 => ?_)
        · replace h := mb_iff c_34 h
          refine ro_aload_n hK dM_readsHead_108 rfl ?_
          refine ro_iload_n hK dM_readsHead_109 rfl ?_
          obtain ⟨s_35, e_36, h⟩ := mb_bd_e h
          refine rb_put hK gM_137 mb_oM rfl (by show 19 < 45; decide) rfl rfl e_36 dM_readsHead_110 ?_
          refine ro_aload_n hK dM_readsHead_113 rfl ?_
          refine ro_iload_n hK dM_readsHead_114 rfl ?_
          obtain ⟨s_37, e_38, h⟩ := mb_bd_e h
          refine rb_put hK gM_140 mb_oM rfl (by show 20 < 45; decide) rfl rfl e_38 dM_readsHead_115 ?_
          refine ro_aload_n hK dM_readsHead_118 rfl ?_
          refine ro_bipush (x := 10) hK (by decide) dM_readsHead_119 ?_
          refine ro_iload hK dM_readsHead_121 rfl ?_
          refine ro_imul hK dM_readsHead_123 ?_
          obtain ⟨s_39, e_40, h⟩ := mb_bd_e h
          refine rb_put hK gM_143 mb_oM rfl (by show 21 < 45; decide) rfl rfl e_40 dM_readsHead_124 ?_
          refine ro_iconst (x := 1) hK (by decide) dM_readsHead_127 ?_
          cases h
          exact hR.1 0 0 128 _ _ _ _ rfl rfl dM_readsHead_128 ⟨rfl, rfl⟩
        · replace h := mb_ift c_34 h
          refine ro_iconst (x := 0) hK (by decide) dM_readsHead_106 ?_
          cases h
          exact hR.1 0 0 107 _ _ _ _ rfl rfl dM_readsHead_107 ⟨rfl, rfl⟩
      refine ro_icmp_ne (tgt := 89) hK dM_readsHead_81 (by decide) (fun c_28 => ?_) (fun c_28 => ?_)
      · replace h := mb_iff c_28 h
        refine ro_aload_n hK dM_readsHead_89 rfl ?_
        refine ro_iload_n hK dM_readsHead_90 rfl ?_
        refine ro_iconst (x := 0) hK (by decide) dM_readsHead_91 ?_
        refine ro_bipush (x := 9) hK (by decide) dM_readsHead_92 ?_
        obtain ⟨r_31, s_29, q_30, h⟩ := mb_cl_e h
        refine rb_callV hK mM_figure vM_133 (t_M_figure (dd := dd + 0) q_30) rfl mb_oM rfl (Nat.le_of_ble_eq_true rfl) dM_readsHead_94 rfl ⟨Nat.le_refl _, Nat.le_refl _⟩ ?_
        show K 0 0 97 [.ref 200, .int x1, .int (if r_19 = 111 then 1 else 0 : Int32), .int r_26, .retAddr 0] [.int r_31] (mb_s s_29)
        refine ro_fg (lv' := [.ref 200, .int x1, .int (if r_19 = 111 then 1 else 0 : Int32), .int r_26, .retAddr 0]) hK ⟨Or.inr rfl, ⟨Or.inr rfl, ⟨Or.inr rfl, ⟨Or.inr rfl, ⟨Or.inl rfl, trivial⟩⟩⟩⟩⟩ ?_
        exact hj_27 _ _ h
      · replace h := mb_ift c_28 h
        refine ro_bipush (x := (-9)) hK (by decide) dM_readsHead_84 ?_
        refine ro_goto (tgt := 97) hK dM_readsHead_86 (by decide) ?_
        refine ro_fg (lv' := [.ref 200, .int x1, .int (if r_19 = 111 then 1 else 0 : Int32), .int r_26, .retAddr 0]) hK ⟨Or.inr rfl, ⟨Or.inr rfl, ⟨Or.inr rfl, ⟨Or.inr rfl, ⟨Or.inl rfl, trivial⟩⟩⟩⟩⟩ ?_
        exact hj_27 _ _ h
    refine ro_icmp_eq (tgt := 44) hK dM_readsHead_29 (by decide) (fun c_11 => ?_) (fun c_11 => ?_)
    · replace h := mb_ift c_11 h
      refine ro_fg (lv' := [.ref 200, .int x1, .retAddr 0, .retAddr 0, .retAddr 0]) hK ⟨Or.inr rfl, ⟨Or.inr rfl, ⟨Or.inl rfl, ⟨Or.inl rfl, ⟨Or.inl rfl, trivial⟩⟩⟩⟩⟩ ?_
      exact hj_10 _ h
    · replace h := mb_iff c_11 h
      refine ro_aload_n hK dM_readsHead_32 rfl ?_
      refine ro_iload_n hK dM_readsHead_33 rfl ?_
      obtain ⟨r_14, s_12, q_13, h⟩ := mb_cl_e h
      refine rb_callV hK mM_here vM_130 (t_M_here (dd := dd + 1) q_13) rfl mb_oM rfl (Nat.le_of_ble_eq_true rfl) dM_readsHead_34 rfl ⟨Nat.le_refl _, Nat.le_refl _⟩ ?_
      show K 0 0 37 [.ref 200, .int x1, .retAddr 0, .retAddr 0, .retAddr 0] [.int r_14] (mb_s s_12)
      refine ro_bipush (x := 111) hK (by decide) dM_readsHead_37 ?_
      refine ro_icmp_eq (tgt := 44) hK dM_readsHead_39 (by decide) (fun c_15 => ?_) (fun c_15 => ?_)
      · replace h := mb_ift c_15 h
        refine ro_fg (lv' := [.ref 200, .int x1, .retAddr 0, .retAddr 0, .retAddr 0]) hK ⟨Or.inr rfl, ⟨Or.inr rfl, ⟨Or.inl rfl, ⟨Or.inl rfl, ⟨Or.inl rfl, trivial⟩⟩⟩⟩⟩ ?_
        exact hj_10 _ h
      · replace h := mb_iff c_15 h
        refine ro_iconst (x := 0) hK (by decide) dM_readsHead_42 ?_
        cases h
        exact hR.1 0 0 43 _ _ _ _ rfl rfl dM_readsHead_43 ⟨rfl, rfl⟩
  · replace h := mb_iff c_4 h
    refine ro_iconst (x := 0) hK (by decide) dM_readsHead_10 ?_
    cases h
    exact hR.1 0 0 11 _ _ _ _ rfl rfl dM_readsHead_11 ⟨rfl, rfl⟩
theorem dM_readsPerson_0 : decode bM_readsPerson 0 = .ok (.aload_n 0, 1) := by decide +kernel
theorem dM_readsPerson_1 : decode bM_readsPerson 1 = .ok (.iload_n 1, 1) := by decide +kernel
theorem dM_readsPerson_2 : decode bM_readsPerson 2 = .ok (.invokevirtual 130, 3) := by decide +kernel
theorem dM_readsPerson_5 : decode bM_readsPerson 5 = .ok (.invokestatic 146, 3) := by decide +kernel
theorem dM_readsPerson_8 : decode bM_readsPerson 8 = .ok (.istore_n 2, 1) := by decide +kernel
theorem dM_readsPerson_9 : decode bM_readsPerson 9 = .ok (.iload_n 2, 1) := by decide +kernel
theorem dM_readsPerson_10 : decode bM_readsPerson 10 = .ok (.bipush (-9), 2) := by decide +kernel
theorem dM_readsPerson_12 : decode bM_readsPerson 12 = .ok (.if_icmp .eq 11, 3) := by decide +kernel
theorem dM_readsPerson_15 : decode bM_readsPerson 15 = .ok (.aload_n 0, 1) := by decide +kernel
theorem dM_readsPerson_16 : decode bM_readsPerson 16 = .ok (.getfield 149, 3) := by decide +kernel
theorem dM_readsPerson_19 : decode bM_readsPerson 19 = .ok (.iconst 5, 1) := by decide +kernel
theorem dM_readsPerson_20 : decode bM_readsPerson 20 = .ok (.if_icmp .ne 5, 3) := by decide +kernel
theorem dM_readsPerson_23 : decode bM_readsPerson 23 = .ok (.iconst 0, 1) := by decide +kernel
theorem dM_readsPerson_24 : decode bM_readsPerson 24 = .ok (.ireturn, 1) := by decide +kernel
theorem dM_readsPerson_25 : decode bM_readsPerson 25 = .ok (.aload_n 0, 1) := by decide +kernel
theorem dM_readsPerson_26 : decode bM_readsPerson 26 = .ok (.dup, 1) := by decide +kernel
theorem dM_readsPerson_27 : decode bM_readsPerson 27 = .ok (.getfield 127, 3) := by decide +kernel
theorem dM_readsPerson_30 : decode bM_readsPerson 30 = .ok (.iconst 1, 1) := by decide +kernel
theorem dM_readsPerson_31 : decode bM_readsPerson 31 = .ok (.iadd, 1) := by decide +kernel
theorem dM_readsPerson_32 : decode bM_readsPerson 32 = .ok (.putfield 127, 3) := by decide +kernel
theorem dM_readsPerson_35 : decode bM_readsPerson 35 = .ok (.iconst 5, 1) := by decide +kernel
theorem dM_readsPerson_36 : decode bM_readsPerson 36 = .ok (.aload_n 0, 1) := by decide +kernel
theorem dM_readsPerson_37 : decode bM_readsPerson 37 = .ok (.getfield 149, 3) := by decide +kernel
theorem dM_readsPerson_40 : decode bM_readsPerson 40 = .ok (.iadd, 1) := by decide +kernel
theorem dM_readsPerson_41 : decode bM_readsPerson 41 = .ok (.istore_n 3, 1) := by decide +kernel
theorem dM_readsPerson_42 : decode bM_readsPerson 42 = .ok (.aload_n 0, 1) := by decide +kernel
theorem dM_readsPerson_43 : decode bM_readsPerson 43 = .ok (.iload_n 1, 1) := by decide +kernel
theorem dM_readsPerson_44 : decode bM_readsPerson 44 = .ok (.iconst 0, 1) := by decide +kernel
theorem dM_readsPerson_45 : decode bM_readsPerson 45 = .ok (.bipush 9, 2) := by decide +kernel
theorem dM_readsPerson_47 : decode bM_readsPerson 47 = .ok (.invokevirtual 133, 3) := by decide +kernel
theorem dM_readsPerson_50 : decode bM_readsPerson 50 = .ok (.istore 4, 2) := by decide +kernel
theorem dM_readsPerson_52 : decode bM_readsPerson 52 = .ok (.iload 4, 2) := by decide +kernel
theorem dM_readsPerson_54 : decode bM_readsPerson 54 = .ok (.bipush (-9), 2) := by decide +kernel
theorem dM_readsPerson_56 : decode bM_readsPerson 56 = .ok (.if_icmp .ne 8, 3) := by decide +kernel
theorem dM_readsPerson_59 : decode bM_readsPerson 59 = .ok (.bipush (-9), 2) := by decide +kernel
theorem dM_readsPerson_61 : decode bM_readsPerson 61 = .ok (.goto 11, 3) := by decide +kernel
theorem dM_readsPerson_64 : decode bM_readsPerson 64 = .ok (.aload_n 0, 1) := by decide +kernel
theorem dM_readsPerson_65 : decode bM_readsPerson 65 = .ok (.iload_n 1, 1) := by decide +kernel
theorem dM_readsPerson_66 : decode bM_readsPerson 66 = .ok (.iconst 0, 1) := by decide +kernel
theorem dM_readsPerson_67 : decode bM_readsPerson 67 = .ok (.bipush 9, 2) := by decide +kernel
theorem dM_readsPerson_69 : decode bM_readsPerson 69 = .ok (.invokevirtual 133, 3) := by decide +kernel
theorem dM_readsPerson_72 : decode bM_readsPerson 72 = .ok (.istore 5, 2) := by decide +kernel
theorem dM_readsPerson_74 : decode bM_readsPerson 74 = .ok (.iload 5, 2) := by decide +kernel
theorem dM_readsPerson_76 : decode bM_readsPerson 76 = .ok (.bipush (-9), 2) := by decide +kernel
theorem dM_readsPerson_78 : decode bM_readsPerson 78 = .ok (.if_icmp .ne 8, 3) := by decide +kernel
theorem dM_readsPerson_81 : decode bM_readsPerson 81 = .ok (.bipush (-9), 2) := by decide +kernel
theorem dM_readsPerson_83 : decode bM_readsPerson 83 = .ok (.goto 11, 3) := by decide +kernel
theorem dM_readsPerson_86 : decode bM_readsPerson 86 = .ok (.aload_n 0, 1) := by decide +kernel
theorem dM_readsPerson_87 : decode bM_readsPerson 87 = .ok (.iload_n 1, 1) := by decide +kernel
theorem dM_readsPerson_88 : decode bM_readsPerson 88 = .ok (.iconst 0, 1) := by decide +kernel
theorem dM_readsPerson_89 : decode bM_readsPerson 89 = .ok (.bipush 9, 2) := by decide +kernel
theorem dM_readsPerson_91 : decode bM_readsPerson 91 = .ok (.invokevirtual 133, 3) := by decide +kernel
theorem dM_readsPerson_94 : decode bM_readsPerson 94 = .ok (.istore 6, 2) := by decide +kernel
theorem dM_readsPerson_96 : decode bM_readsPerson 96 = .ok (.iload 6, 2) := by decide +kernel
theorem dM_readsPerson_98 : decode bM_readsPerson 98 = .ok (.bipush (-9), 2) := by decide +kernel
theorem dM_readsPerson_100 : decode bM_readsPerson 100 = .ok (.if_icmp .ne 8, 3) := by decide +kernel
theorem dM_readsPerson_103 : decode bM_readsPerson 103 = .ok (.bipush (-9), 2) := by decide +kernel
theorem dM_readsPerson_105 : decode bM_readsPerson 105 = .ok (.goto 11, 3) := by decide +kernel
theorem dM_readsPerson_108 : decode bM_readsPerson 108 = .ok (.aload_n 0, 1) := by decide +kernel
theorem dM_readsPerson_109 : decode bM_readsPerson 109 = .ok (.iload_n 1, 1) := by decide +kernel
theorem dM_readsPerson_110 : decode bM_readsPerson 110 = .ok (.iconst 1, 1) := by decide +kernel
theorem dM_readsPerson_111 : decode bM_readsPerson 111 = .ok (.bipush 9, 2) := by decide +kernel
theorem dM_readsPerson_113 : decode bM_readsPerson 113 = .ok (.invokevirtual 133, 3) := by decide +kernel
theorem dM_readsPerson_116 : decode bM_readsPerson 116 = .ok (.istore 7, 2) := by decide +kernel
theorem dM_readsPerson_118 : decode bM_readsPerson 118 = .ok (.iload 7, 2) := by decide +kernel
theorem dM_readsPerson_120 : decode bM_readsPerson 120 = .ok (.bipush (-9), 2) := by decide +kernel
theorem dM_readsPerson_122 : decode bM_readsPerson 122 = .ok (.if_icmp .ne 5, 3) := by decide +kernel
theorem dM_readsPerson_125 : decode bM_readsPerson 125 = .ok (.iconst 0, 1) := by decide +kernel
theorem dM_readsPerson_126 : decode bM_readsPerson 126 = .ok (.ireturn, 1) := by decide +kernel
theorem dM_readsPerson_127 : decode bM_readsPerson 127 = .ok (.aload_n 0, 1) := by decide +kernel
theorem dM_readsPerson_128 : decode bM_readsPerson 128 = .ok (.getfield 28, 3) := by decide +kernel
theorem dM_readsPerson_131 : decode bM_readsPerson 131 = .ok (.iload_n 3, 1) := by decide +kernel
theorem dM_readsPerson_132 : decode bM_readsPerson 132 = .ok (.iload_n 2, 1) := by decide +kernel
theorem dM_readsPerson_133 : decode bM_readsPerson 133 = .ok (.iastore, 1) := by decide +kernel
theorem dM_readsPerson_134 : decode bM_readsPerson 134 = .ok (.aload_n 0, 1) := by decide +kernel
theorem dM_readsPerson_135 : decode bM_readsPerson 135 = .ok (.getfield 31, 3) := by decide +kernel
theorem dM_readsPerson_138 : decode bM_readsPerson 138 = .ok (.iload_n 3, 1) := by decide +kernel
theorem dM_readsPerson_139 : decode bM_readsPerson 139 = .ok (.iload 4, 2) := by decide +kernel
theorem dM_readsPerson_141 : decode bM_readsPerson 141 = .ok (.iastore, 1) := by decide +kernel
theorem dM_readsPerson_142 : decode bM_readsPerson 142 = .ok (.aload_n 0, 1) := by decide +kernel
theorem dM_readsPerson_143 : decode bM_readsPerson 143 = .ok (.getfield 34, 3) := by decide +kernel
theorem dM_readsPerson_146 : decode bM_readsPerson 146 = .ok (.iload_n 3, 1) := by decide +kernel
theorem dM_readsPerson_147 : decode bM_readsPerson 147 = .ok (.iload 5, 2) := by decide +kernel
theorem dM_readsPerson_149 : decode bM_readsPerson 149 = .ok (.iastore, 1) := by decide +kernel
theorem dM_readsPerson_150 : decode bM_readsPerson 150 = .ok (.aload_n 0, 1) := by decide +kernel
theorem dM_readsPerson_151 : decode bM_readsPerson 151 = .ok (.getfield 37, 3) := by decide +kernel
theorem dM_readsPerson_154 : decode bM_readsPerson 154 = .ok (.iload_n 3, 1) := by decide +kernel
theorem dM_readsPerson_155 : decode bM_readsPerson 155 = .ok (.iload 6, 2) := by decide +kernel
theorem dM_readsPerson_157 : decode bM_readsPerson 157 = .ok (.iastore, 1) := by decide +kernel
theorem dM_readsPerson_158 : decode bM_readsPerson 158 = .ok (.aload_n 0, 1) := by decide +kernel
theorem dM_readsPerson_159 : decode bM_readsPerson 159 = .ok (.getfield 40, 3) := by decide +kernel
theorem dM_readsPerson_162 : decode bM_readsPerson 162 = .ok (.iload_n 3, 1) := by decide +kernel
theorem dM_readsPerson_163 : decode bM_readsPerson 163 = .ok (.iconst 5, 1) := by decide +kernel
theorem dM_readsPerson_164 : decode bM_readsPerson 164 = .ok (.iload 7, 2) := by decide +kernel
theorem dM_readsPerson_166 : decode bM_readsPerson 166 = .ok (.imul, 1) := by decide +kernel
theorem dM_readsPerson_167 : decode bM_readsPerson 167 = .ok (.iastore, 1) := by decide +kernel
theorem dM_readsPerson_168 : decode bM_readsPerson 168 = .ok (.aload_n 0, 1) := by decide +kernel
theorem dM_readsPerson_169 : decode bM_readsPerson 169 = .ok (.dup, 1) := by decide +kernel
theorem dM_readsPerson_170 : decode bM_readsPerson 170 = .ok (.getfield 149, 3) := by decide +kernel
theorem dM_readsPerson_173 : decode bM_readsPerson 173 = .ok (.iconst 1, 1) := by decide +kernel
theorem dM_readsPerson_174 : decode bM_readsPerson 174 = .ok (.iadd, 1) := by decide +kernel
theorem dM_readsPerson_175 : decode bM_readsPerson 175 = .ok (.putfield 149, 3) := by decide +kernel
theorem dM_readsPerson_178 : decode bM_readsPerson 178 = .ok (.iconst 1, 1) := by decide +kernel
theorem dM_readsPerson_179 : decode bM_readsPerson 179 = .ok (.ireturn, 1) := by decide +kernel
def f_M_readsPerson (n : Nat) (x1 : Int32) (s : mb_T) : Option (Int32 × mb_T) := mb_cl (f_M_here n x1 s) fun r_3 s_1 => mb_cl (f_M_kindOf n r_3 s_1) fun r_6 s_4 => if r_6 = (-9) then some (0, s_4) else if (s_4.1 200 18) = 5 then some (0, s_4) else mb_bd (sF s_4 200 17 ((s_4.1 200 17) + 1)) fun s_9 => mb_cl (f_M_figure n x1 0 9 s_9) fun r_13 s_11 => mb_jn (fun (x_19 : Int32) (s_20 : mb_T) => mb_jn (fun (x_26 : Int32) (s_27 : mb_T) => mb_jn (fun (x_33 : Int32) (s_34 : mb_T) => if x_33 = (-9) then some (0, s_34) else mb_wr s_34 212 10 (5 + (s_9.1 200 18)) r_6 fun s_36 => mb_wr s_36 213 10 (5 + (s_9.1 200 18)) r_13 fun s_39 => mb_wr s_39 214 10 (5 + (s_9.1 200 18)) x_19 fun s_42 => mb_wr s_42 215 10 (5 + (s_9.1 200 18)) x_26 fun s_45 => mb_wr s_45 216 10 (5 + (s_9.1 200 18)) (5 * x_33) fun s_48 => mb_bd (sF s_48 200 18 ((s_48.1 200 18) + 1)) fun s_51 => some (1, s_51)) fun j_28 => if x_26 = (-9) then j_28 (-9) s_27 else mb_cl (f_M_figure n x1 1 9 s_27) fun r_32 s_30 => j_28 r_32 s_30) fun j_21 => if x_19 = (-9) then j_21 (-9) s_20 else mb_cl (f_M_figure n x1 0 9 s_20) fun r_25 s_23 => j_21 r_25 s_23) fun j_14 => if r_13 = (-9) then j_14 (-9) s_11 else mb_cl (f_M_figure n x1 0 9 s_11) fun r_18 s_16 => j_14 r_18 s_16
set_option maxHeartbeats 4000000 in
set_option maxRecDepth 100000 in
theorem t_M_readsPerson {dd n : Nat} {x1 : Int32} {s : mb_T} {out : Int32 × mb_T}  (h : f_M_readsPerson n x1 s = some out) : mb_MC (dd + 3) yM_readsPerson bM_readsPerson 8 (some .boolean) [.ref 200, .int x1] s (some (.int out.1)) out.2 := by
  unfold f_M_readsPerson at h
  refine mj_mc (lv := [.ref 200, .int x1, .retAddr 0, .retAddr 0, .retAddr 0, .retAddr 0, .retAddr 0, .retAddr 0]) mM_readsPerson rfl rfl (Nat.le_of_ble_eq_true rfl) (fun K hK hR => ?_)
  have hK : mj_C (dd + 3) 0 0 RM_c "readsPerson" bM_readsPerson 8 K := hK
  refine ro_aload_n hK dM_readsPerson_0 rfl ?_
  refine ro_iload_n hK dM_readsPerson_1 rfl ?_
  obtain ⟨r_3, s_1, q_2, h⟩ := mb_cl_e h
  refine rb_callV hK mM_here vM_130 (t_M_here (dd := dd + 1) q_2) rfl mb_oM rfl (Nat.le_of_ble_eq_true rfl) dM_readsPerson_2 rfl ⟨Nat.le_refl _, Nat.le_refl _⟩ ?_
  show K 0 0 5 [.ref 200, .int x1, .retAddr 0, .retAddr 0, .retAddr 0, .retAddr 0, .retAddr 0, .retAddr 0] [.int r_3] (mb_s s_1)
  obtain ⟨r_6, s_4, q_5, h⟩ := mb_cl_e h
  refine rb_callS hK mM_kindOf vM_146 (t_M_kindOf (dd := dd + 1) q_5) rfl (Nat.le_of_ble_eq_true rfl) dM_readsPerson_5 rfl ⟨Nat.le_refl _, Nat.le_refl _⟩ ?_
  show K 0 0 8 [.ref 200, .int x1, .retAddr 0, .retAddr 0, .retAddr 0, .retAddr 0, .retAddr 0, .retAddr 0] [.int r_6] (mb_s s_4)
  refine ro_istore_n hK dM_readsPerson_8 (by decide) ?_
  show K 0 0 9 [.ref 200, .int x1, .int r_6, .retAddr 0, .retAddr 0, .retAddr 0, .retAddr 0, .retAddr 0] [] (mb_s s_4)
  refine ro_iload_n hK dM_readsPerson_9 rfl ?_
  refine ro_bipush (x := (-9)) hK (by decide) dM_readsPerson_10 ?_
  refine ro_icmp_eq (tgt := 23) hK dM_readsPerson_12 (by decide) (fun c_7 => ?_) (fun c_7 => ?_)
  · replace h := mb_ift c_7 h
    refine ro_iconst (x := 0) hK (by decide) dM_readsPerson_23 ?_
    cases h
    exact hR.1 0 0 24 _ _ _ _ rfl rfl dM_readsPerson_24 ⟨rfl, rfl⟩
  · replace h := mb_iff c_7 h
    refine ro_aload_n hK dM_readsPerson_15 rfl ?_
    refine rb_get hK fM_149 mb_oM rfl dM_readsPerson_16 ?_
    refine ro_iconst (x := 5) hK (by decide) dM_readsPerson_19 ?_
    refine ro_icmp_ne (tgt := 25) hK dM_readsPerson_20 (by decide) (fun c_8 => ?_) (fun c_8 => ?_)
    · replace h := mb_iff c_8 h
      refine ro_aload_n hK dM_readsPerson_25 rfl ?_
      refine ro_dup hK dM_readsPerson_26 rfl ?_
      refine rb_get hK fM_127 mb_oM rfl dM_readsPerson_27 ?_
      refine ro_iconst (x := 1) hK (by decide) dM_readsPerson_30 ?_
      refine ro_iadd hK dM_readsPerson_31 ?_
      obtain ⟨s_9, e_10, h⟩ := mb_bd_e h
      refine rb_put hK gM_127 mb_oM rfl (by show 17 < 45; decide) rfl rfl e_10 dM_readsPerson_32 ?_
      refine ro_iconst (x := 5) hK (by decide) dM_readsPerson_35 ?_
      refine ro_aload_n hK dM_readsPerson_36 rfl ?_
      refine rb_get hK fM_149 mb_oM rfl dM_readsPerson_37 ?_
      refine ro_iadd hK dM_readsPerson_40 ?_
      refine ro_istore_n hK dM_readsPerson_41 (by decide) ?_
      show K 0 0 42 [.ref 200, .int x1, .int r_6, .int (5 + (s_9.1 200 18)), .retAddr 0, .retAddr 0, .retAddr 0, .retAddr 0] [] (mb_s s_9)
      refine ro_aload_n hK dM_readsPerson_42 rfl ?_
      refine ro_iload_n hK dM_readsPerson_43 rfl ?_
      refine ro_iconst (x := 0) hK (by decide) dM_readsPerson_44 ?_
      refine ro_bipush (x := 9) hK (by decide) dM_readsPerson_45 ?_
      obtain ⟨r_13, s_11, q_12, h⟩ := mb_cl_e h
      refine rb_callV hK mM_figure vM_133 (t_M_figure (dd := dd + 0) q_12) rfl mb_oM rfl (Nat.le_of_ble_eq_true rfl) dM_readsPerson_47 rfl ⟨Nat.le_refl _, Nat.le_refl _⟩ ?_
      show K 0 0 50 [.ref 200, .int x1, .int r_6, .int (5 + (s_9.1 200 18)), .retAddr 0, .retAddr 0, .retAddr 0, .retAddr 0] [.int r_13] (mb_s s_11)
      refine ro_istore hK dM_readsPerson_50 (by decide) ?_
      show K 0 0 52 [.ref 200, .int x1, .int r_6, .int (5 + (s_9.1 200 18)), .int r_13, .retAddr 0, .retAddr 0, .retAddr 0] [] (mb_s s_11)
      refine ro_iload hK dM_readsPerson_52 rfl ?_
      refine ro_bipush (x := (-9)) hK (by decide) dM_readsPerson_54 ?_
      obtain ⟨j_14, e_55, h⟩ := mb_jn_e h
      have hj_14 : ∀ (x_19 : Int32) (s_20 : mb_T), j_14 x_19 s_20 = some out → K 0 0 72 [.ref 200, .int x1, .int r_6, .int (5 + (s_9.1 200 18)), .int r_13, .retAddr 0, .retAddr 0, .retAddr 0] [.int x_19] (mb_s s_20) := by
        intro x_19 s_20 h
        rw [e_55] at h
        refine ro_istore hK dM_readsPerson_72 (by decide) ?_
        show K 0 0 74 [.ref 200, .int x1, .int r_6, .int (5 + (s_9.1 200 18)), .int r_13, .int x_19, .retAddr 0, .retAddr 0] [] (mb_s s_20)
        refine ro_iload hK dM_readsPerson_74 rfl ?_
        refine ro_bipush (x := (-9)) hK (by decide) dM_readsPerson_76 ?_
        obtain ⟨j_21, e_54, h⟩ := mb_jn_e h
        have hj_21 : ∀ (x_26 : Int32) (s_27 : mb_T), j_21 x_26 s_27 = some out → K 0 0 94 [.ref 200, .int x1, .int r_6, .int (5 + (s_9.1 200 18)), .int r_13, .int x_19, .retAddr 0, .retAddr 0] [.int x_26] (mb_s s_27) := by
          intro x_26 s_27 h
          rw [e_54] at h
          refine ro_istore hK dM_readsPerson_94 (by decide) ?_
          show K 0 0 96 [.ref 200, .int x1, .int r_6, .int (5 + (s_9.1 200 18)), .int r_13, .int x_19, .int x_26, .retAddr 0] [] (mb_s s_27)
          refine ro_iload hK dM_readsPerson_96 rfl ?_
          refine ro_bipush (x := (-9)) hK (by decide) dM_readsPerson_98 ?_
          obtain ⟨j_28, e_53, h⟩ := mb_jn_e h
          have hj_28 : ∀ (x_33 : Int32) (s_34 : mb_T), j_28 x_33 s_34 = some out → K 0 0 116 [.ref 200, .int x1, .int r_6, .int (5 + (s_9.1 200 18)), .int r_13, .int x_19, .int x_26, .retAddr 0] [.int x_33] (mb_s s_34) := by
            intro x_33 s_34 h
            rw [e_53] at h
            refine ro_istore hK dM_readsPerson_116 (by decide) ?_
            show K 0 0 118 [.ref 200, .int x1, .int r_6, .int (5 + (s_9.1 200 18)), .int r_13, .int x_19, .int x_26, .int x_33] [] (mb_s s_34)
            refine ro_iload hK dM_readsPerson_118 rfl ?_
            refine ro_bipush (x := (-9)) hK (by decide) dM_readsPerson_120 ?_
            refine ro_icmp_ne (tgt := 127) hK dM_readsPerson_122 (by decide) (fun c_35 => ?_) (fun c_35 => ?_)
            · replace h := mb_iff c_35 h
              refine ro_aload_n hK dM_readsPerson_127 rfl ?_
              refine rb_get hK fM_28 mb_oM rfl dM_readsPerson_128 ?_
              refine ro_iload_n hK dM_readsPerson_131 rfl ?_
              refine ro_iload_n hK dM_readsPerson_132 rfl ?_
              obtain ⟨s_36, e_37, i_38, h⟩ := mb_wr_e h
              refine rb_iast hK ai_212 i_38 e_37 dM_readsPerson_133 ?_
              refine ro_aload_n hK dM_readsPerson_134 rfl ?_
              refine rb_get hK fM_31 mb_oM rfl dM_readsPerson_135 ?_
              refine ro_iload_n hK dM_readsPerson_138 rfl ?_
              refine ro_iload hK dM_readsPerson_139 rfl ?_
              obtain ⟨s_39, e_40, i_41, h⟩ := mb_wr_e h
              refine rb_iast hK ai_213 i_41 e_40 dM_readsPerson_141 ?_
              refine ro_aload_n hK dM_readsPerson_142 rfl ?_
              refine rb_get hK fM_34 mb_oM rfl dM_readsPerson_143 ?_
              refine ro_iload_n hK dM_readsPerson_146 rfl ?_
              refine ro_iload hK dM_readsPerson_147 rfl ?_
              obtain ⟨s_42, e_43, i_44, h⟩ := mb_wr_e h
              refine rb_iast hK ai_214 i_44 e_43 dM_readsPerson_149 ?_
              refine ro_aload_n hK dM_readsPerson_150 rfl ?_
              refine rb_get hK fM_37 mb_oM rfl dM_readsPerson_151 ?_
              refine ro_iload_n hK dM_readsPerson_154 rfl ?_
              refine ro_iload hK dM_readsPerson_155 rfl ?_
              obtain ⟨s_45, e_46, i_47, h⟩ := mb_wr_e h
              refine rb_iast hK ai_215 i_47 e_46 dM_readsPerson_157 ?_
              refine ro_aload_n hK dM_readsPerson_158 rfl ?_
              refine rb_get hK fM_40 mb_oM rfl dM_readsPerson_159 ?_
              refine ro_iload_n hK dM_readsPerson_162 rfl ?_
              refine ro_iconst (x := 5) hK (by decide) dM_readsPerson_163 ?_
              refine ro_iload hK dM_readsPerson_164 rfl ?_
              refine ro_imul hK dM_readsPerson_166 ?_
              obtain ⟨s_48, e_49, i_50, h⟩ := mb_wr_e h
              refine rb_iast hK ai_216 i_50 e_49 dM_readsPerson_167 ?_
              refine ro_aload_n hK dM_readsPerson_168 rfl ?_
              refine ro_dup hK dM_readsPerson_169 rfl ?_
              refine rb_get hK fM_149 mb_oM rfl dM_readsPerson_170 ?_
              refine ro_iconst (x := 1) hK (by decide) dM_readsPerson_173 ?_
              refine ro_iadd hK dM_readsPerson_174 ?_
              obtain ⟨s_51, e_52, h⟩ := mb_bd_e h
              refine rb_put hK gM_149 mb_oM rfl (by show 18 < 45; decide) rfl rfl e_52 dM_readsPerson_175 ?_
              refine ro_iconst (x := 1) hK (by decide) dM_readsPerson_178 ?_
              cases h
              exact hR.1 0 0 179 _ _ _ _ rfl rfl dM_readsPerson_179 ⟨rfl, rfl⟩
            · replace h := mb_ift c_35 h
              refine ro_iconst (x := 0) hK (by decide) dM_readsPerson_125 ?_
              cases h
              exact hR.1 0 0 126 _ _ _ _ rfl rfl dM_readsPerson_126 ⟨rfl, rfl⟩
          refine ro_icmp_ne (tgt := 108) hK dM_readsPerson_100 (by decide) (fun c_29 => ?_) (fun c_29 => ?_)
          · replace h := mb_iff c_29 h
            refine ro_aload_n hK dM_readsPerson_108 rfl ?_
            refine ro_iload_n hK dM_readsPerson_109 rfl ?_
            refine ro_iconst (x := 1) hK (by decide) dM_readsPerson_110 ?_
            refine ro_bipush (x := 9) hK (by decide) dM_readsPerson_111 ?_
            obtain ⟨r_32, s_30, q_31, h⟩ := mb_cl_e h
            refine rb_callV hK mM_figure vM_133 (t_M_figure (dd := dd + 0) q_31) rfl mb_oM rfl (Nat.le_of_ble_eq_true rfl) dM_readsPerson_113 rfl ⟨Nat.le_refl _, Nat.le_refl _⟩ ?_
            show K 0 0 116 [.ref 200, .int x1, .int r_6, .int (5 + (s_9.1 200 18)), .int r_13, .int x_19, .int x_26, .retAddr 0] [.int r_32] (mb_s s_30)
            refine ro_fg (lv' := [.ref 200, .int x1, .int r_6, .int (5 + (s_9.1 200 18)), .int r_13, .int x_19, .int x_26, .retAddr 0]) hK ⟨Or.inr rfl, ⟨Or.inr rfl, ⟨Or.inr rfl, ⟨Or.inr rfl, ⟨Or.inr rfl, ⟨Or.inr rfl, ⟨Or.inr rfl, ⟨Or.inl rfl, trivial⟩⟩⟩⟩⟩⟩⟩⟩ ?_
            exact hj_28 _ _ h
          · replace h := mb_ift c_29 h
            refine ro_bipush (x := (-9)) hK (by decide) dM_readsPerson_103 ?_
            refine ro_goto (tgt := 116) hK dM_readsPerson_105 (by decide) ?_
            refine ro_fg (lv' := [.ref 200, .int x1, .int r_6, .int (5 + (s_9.1 200 18)), .int r_13, .int x_19, .int x_26, .retAddr 0]) hK ⟨Or.inr rfl, ⟨Or.inr rfl, ⟨Or.inr rfl, ⟨Or.inr rfl, ⟨Or.inr rfl, ⟨Or.inr rfl, ⟨Or.inr rfl, ⟨Or.inl rfl, trivial⟩⟩⟩⟩⟩⟩⟩⟩ ?_
            exact hj_28 _ _ h
        refine ro_icmp_ne (tgt := 86) hK dM_readsPerson_78 (by decide) (fun c_22 => ?_) (fun c_22 => ?_)
        · replace h := mb_iff c_22 h
          refine ro_aload_n hK dM_readsPerson_86 rfl ?_
          refine ro_iload_n hK dM_readsPerson_87 rfl ?_
          refine ro_iconst (x := 0) hK (by decide) dM_readsPerson_88 ?_
          refine ro_bipush (x := 9) hK (by decide) dM_readsPerson_89 ?_
          obtain ⟨r_25, s_23, q_24, h⟩ := mb_cl_e h
          refine rb_callV hK mM_figure vM_133 (t_M_figure (dd := dd + 0) q_24) rfl mb_oM rfl (Nat.le_of_ble_eq_true rfl) dM_readsPerson_91 rfl ⟨Nat.le_refl _, Nat.le_refl _⟩ ?_
          show K 0 0 94 [.ref 200, .int x1, .int r_6, .int (5 + (s_9.1 200 18)), .int r_13, .int x_19, .retAddr 0, .retAddr 0] [.int r_25] (mb_s s_23)
          refine ro_fg (lv' := [.ref 200, .int x1, .int r_6, .int (5 + (s_9.1 200 18)), .int r_13, .int x_19, .retAddr 0, .retAddr 0]) hK ⟨Or.inr rfl, ⟨Or.inr rfl, ⟨Or.inr rfl, ⟨Or.inr rfl, ⟨Or.inr rfl, ⟨Or.inr rfl, ⟨Or.inl rfl, ⟨Or.inl rfl, trivial⟩⟩⟩⟩⟩⟩⟩⟩ ?_
          exact hj_21 _ _ h
        · replace h := mb_ift c_22 h
          refine ro_bipush (x := (-9)) hK (by decide) dM_readsPerson_81 ?_
          refine ro_goto (tgt := 94) hK dM_readsPerson_83 (by decide) ?_
          refine ro_fg (lv' := [.ref 200, .int x1, .int r_6, .int (5 + (s_9.1 200 18)), .int r_13, .int x_19, .retAddr 0, .retAddr 0]) hK ⟨Or.inr rfl, ⟨Or.inr rfl, ⟨Or.inr rfl, ⟨Or.inr rfl, ⟨Or.inr rfl, ⟨Or.inr rfl, ⟨Or.inl rfl, ⟨Or.inl rfl, trivial⟩⟩⟩⟩⟩⟩⟩⟩ ?_
          exact hj_21 _ _ h
      refine ro_icmp_ne (tgt := 64) hK dM_readsPerson_56 (by decide) (fun c_15 => ?_) (fun c_15 => ?_)
      · replace h := mb_iff c_15 h
        refine ro_aload_n hK dM_readsPerson_64 rfl ?_
        refine ro_iload_n hK dM_readsPerson_65 rfl ?_
        refine ro_iconst (x := 0) hK (by decide) dM_readsPerson_66 ?_
        refine ro_bipush (x := 9) hK (by decide) dM_readsPerson_67 ?_
        obtain ⟨r_18, s_16, q_17, h⟩ := mb_cl_e h
        refine rb_callV hK mM_figure vM_133 (t_M_figure (dd := dd + 0) q_17) rfl mb_oM rfl (Nat.le_of_ble_eq_true rfl) dM_readsPerson_69 rfl ⟨Nat.le_refl _, Nat.le_refl _⟩ ?_
        show K 0 0 72 [.ref 200, .int x1, .int r_6, .int (5 + (s_9.1 200 18)), .int r_13, .retAddr 0, .retAddr 0, .retAddr 0] [.int r_18] (mb_s s_16)
        refine ro_fg (lv' := [.ref 200, .int x1, .int r_6, .int (5 + (s_9.1 200 18)), .int r_13, .retAddr 0, .retAddr 0, .retAddr 0]) hK ⟨Or.inr rfl, ⟨Or.inr rfl, ⟨Or.inr rfl, ⟨Or.inr rfl, ⟨Or.inr rfl, ⟨Or.inl rfl, ⟨Or.inl rfl, ⟨Or.inl rfl, trivial⟩⟩⟩⟩⟩⟩⟩⟩ ?_
        exact hj_14 _ _ h
      · replace h := mb_ift c_15 h
        refine ro_bipush (x := (-9)) hK (by decide) dM_readsPerson_59 ?_
        refine ro_goto (tgt := 72) hK dM_readsPerson_61 (by decide) ?_
        refine ro_fg (lv' := [.ref 200, .int x1, .int r_6, .int (5 + (s_9.1 200 18)), .int r_13, .retAddr 0, .retAddr 0, .retAddr 0]) hK ⟨Or.inr rfl, ⟨Or.inr rfl, ⟨Or.inr rfl, ⟨Or.inr rfl, ⟨Or.inr rfl, ⟨Or.inl rfl, ⟨Or.inl rfl, ⟨Or.inl rfl, trivial⟩⟩⟩⟩⟩⟩⟩⟩ ?_
        exact hj_14 _ _ h
    · replace h := mb_ift c_8 h
      refine ro_iconst (x := 0) hK (by decide) dM_readsPerson_23 ?_
      cases h
      exact hR.1 0 0 24 _ _ _ _ rfl rfl dM_readsPerson_24 ⟨rfl, rfl⟩
theorem dM_row_0 : decode bM_row 0 = .ok (.iload_n 1, 1) := by decide +kernel
theorem dM_row_1 : decode bM_row 1 = .ok (.invokestatic 96, 3) := by decide +kernel
theorem dM_row_4 : decode bM_row 4 = .ok (.ifCond .eq 9, 3) := by decide +kernel
theorem dM_row_7 : decode bM_row 7 = .ok (.iload_n 2, 1) := by decide +kernel
theorem dM_row_8 : decode bM_row 8 = .ok (.bipush 60, 2) := by decide +kernel
theorem dM_row_10 : decode bM_row 10 = .ok (.if_icmp .le 5, 3) := by decide +kernel
theorem dM_row_13 : decode bM_row 13 = .ok (.iconst (-1), 1) := by decide +kernel
theorem dM_row_14 : decode bM_row 14 = .ok (.ireturn, 1) := by decide +kernel
theorem dM_row_15 : decode bM_row 15 = .ok (.iload_n 2, 1) := by decide +kernel
theorem dM_row_16 : decode bM_row 16 = .ok (.ifCond .ge 9, 3) := by decide +kernel
theorem dM_row_19 : decode bM_row 19 = .ok (.aload_n 0, 1) := by decide +kernel
theorem dM_row_20 : decode bM_row 20 = .ok (.iconst 5, 1) := by decide +kernel
theorem dM_row_21 : decode bM_row 21 = .ok (.invokevirtual 100, 3) := by decide +kernel
theorem dM_row_24 : decode bM_row 24 = .ok (.ireturn, 1) := by decide +kernel
theorem dM_row_25 : decode bM_row 25 = .ok (.aload_n 0, 1) := by decide +kernel
theorem dM_row_26 : decode bM_row 26 = .ok (.getfield 13, 3) := by decide +kernel
theorem dM_row_29 : decode bM_row 29 = .ok (.iload_n 1, 1) := by decide +kernel
theorem dM_row_30 : decode bM_row 30 = .ok (.iload_n 2, 1) := by decide +kernel
theorem dM_row_31 : decode bM_row 31 = .ok (.iastore, 1) := by decide +kernel
theorem dM_row_32 : decode bM_row 32 = .ok (.iconst 0, 1) := by decide +kernel
theorem dM_row_33 : decode bM_row 33 = .ok (.istore_n 3, 1) := by decide +kernel
theorem dM_row_34 : decode bM_row 34 = .ok (.iload_n 3, 1) := by decide +kernel
theorem dM_row_35 : decode bM_row 35 = .ok (.bipush 60, 2) := by decide +kernel
theorem dM_row_37 : decode bM_row 37 = .ok (.if_icmp .ge 16, 3) := by decide +kernel
theorem dM_row_40 : decode bM_row 40 = .ok (.aload_n 0, 1) := by decide +kernel
theorem dM_row_41 : decode bM_row 41 = .ok (.iload_n 1, 1) := by decide +kernel
theorem dM_row_42 : decode bM_row 42 = .ok (.iload_n 3, 1) := by decide +kernel
theorem dM_row_43 : decode bM_row 43 = .ok (.iconst 0, 1) := by decide +kernel
theorem dM_row_44 : decode bM_row 44 = .ok (.invokevirtual 107, 3) := by decide +kernel
theorem dM_row_47 : decode bM_row 47 = .ok (.iinc 3 1, 3) := by decide +kernel
theorem dM_row_50 : decode bM_row 50 = .ok (.goto (-16), 3) := by decide +kernel
theorem dM_row_53 : decode bM_row 53 = .ok (.iload_n 2, 1) := by decide +kernel
theorem dM_row_54 : decode bM_row 54 = .ok (.ireturn, 1) := by decide +kernel
def f_M_row_34 (n : Nat) (k0 : Int32 → mb_T → Option (Int32 × mb_T)) (y1 : Int32) (y2 : Int32) : Nat → Int32 → mb_T → Option (Int32 × mb_T)
  | 0, _, _ => none
  | f + 1, w3, s => if 60 ≤ w3 then k0 w3 s else mb_cw (f_M_setRow n y1 w3 0 s) fun s_11 => f_M_row_34 n k0 y1 y2 f (w3 + 1) s_11
def f_M_row (n : Nat) (x1 : Int32) (x2 : Int32) (s : mb_T) : Option (Int32 × mb_T) := mb_cl (f_M_isRow n x1 s) fun r_3 s_1 => if r_3 = 0 then some ((-1), s_1) else if x2 ≤ 60 then (if 0 ≤ x2 then (mb_wr s_1 203 6 x1 x2 fun s_7 => f_M_row_34 n (fun x_13 s_14 => some (x2, s_14)) x1 x2 n 0 s_7) else mb_cl (f_M_meet n 5 s_1) fun r_17 s_15 => some (r_17, s_15)) else some ((-1), s_1)
set_option maxHeartbeats 4000000 in
set_option maxRecDepth 100000 in
theorem tl_M_row_34 {dd n : Nat} {K : mj_KT} {out : Int32 × mb_T} (hK : mj_C (dd + 3) 0 0 RM_c "row" bM_row 4 K) (hR : mj_R bM_row (some .int) (fun r2 S2 => r2 = some (.int out.1) ∧ S2 = mb_s out.2) K) {k0 : Int32 → mb_T → Option (Int32 × mb_T)} {y1 : Int32} {y2 : Int32} (hk0 : ∀ (w3 : Int32) (s : mb_T), k0 w3 s = some out → K 0 0 53 [.ref 200, .int y1, .int y2, .int w3] [] (mb_s s)) : ∀ (f : Nat) (w3 : Int32) (s : mb_T), f_M_row_34 n k0 y1 y2 f w3 s = some out → K 0 0 34 [.ref 200, .int y1, .int y2, .int w3] [] (mb_s s) := by
  intro f
  induction f with
  | zero =>
    intro w3 s h
    cases h
  | succ f ih =>
    intro w3 s h
    rw [f_M_row_34] at h
    refine ro_iload_n hK dM_row_34 rfl ?_
    refine ro_bipush (x := 60) hK (by decide) dM_row_35 ?_
    refine ro_icmp_ge (tgt := 53) hK dM_row_37 (by decide) (fun c_10 => ?_) (fun c_10 => ?_)
    · replace h := mb_ift c_10 h
      refine ro_fg (lv' := [.ref 200, .int y1, .int y2, .int w3]) hK ⟨Or.inr rfl, ⟨Or.inr rfl, ⟨Or.inr rfl, ⟨Or.inr rfl, trivial⟩⟩⟩⟩ ?_
      exact hk0 _ _ h
    · replace h := mb_iff c_10 h
      refine ro_aload_n hK dM_row_40 rfl ?_
      refine ro_iload_n hK dM_row_41 rfl ?_
      refine ro_iload_n hK dM_row_42 rfl ?_
      refine ro_iconst (x := 0) hK (by decide) dM_row_43 ?_
      obtain ⟨s_11, q_12, h⟩ := mb_cw_e h
      refine rb_callV hK mM_setRow vM_107 (t_M_setRow (dd := dd + 1) q_12) rfl mb_oM rfl (Nat.le_of_ble_eq_true rfl) dM_row_44 rfl ⟨Nat.le_refl _, Nat.le_refl _⟩ ?_
      show K 0 0 47 [.ref 200, .int y1, .int y2, .int w3] [] (mb_s s_11)
      refine ro_iincv (c := 1) hK (by decide) dM_row_47 rfl (by decide) ?_
      show K 0 0 50 [.ref 200, .int y1, .int y2, .int (w3 + 1)] [] (mb_s s_11)
      refine ro_goto (tgt := 34) hK dM_row_50 (by decide) ?_
      refine ro_fg (lv' := [.ref 200, .int y1, .int y2, .int (w3 + 1)]) hK ⟨Or.inr rfl, ⟨Or.inr rfl, ⟨Or.inr rfl, ⟨Or.inr rfl, trivial⟩⟩⟩⟩ ?_
      exact ih _ _ h
set_option maxHeartbeats 4000000 in
set_option maxRecDepth 100000 in
theorem t_M_row {dd n : Nat} {x1 : Int32} {x2 : Int32} {s : mb_T} {out : Int32 × mb_T}  (h : f_M_row n x1 x2 s = some out) : mb_MC (dd + 3) yM_row bM_row 4 (some .int) [.ref 200, .int x1, .int x2] s (some (.int out.1)) out.2 := by
  unfold f_M_row at h
  refine mj_mc (lv := [.ref 200, .int x1, .int x2, .retAddr 0]) mM_row rfl rfl (Nat.le_of_ble_eq_true rfl) (fun K hK hR => ?_)
  have hK : mj_C (dd + 3) 0 0 RM_c "row" bM_row 4 K := hK
  refine ro_iload_n hK dM_row_0 rfl ?_
  obtain ⟨r_3, s_1, q_2, h⟩ := mb_cl_e h
  refine rb_callS hK mM_isRow vM_96 (t_M_isRow (dd := dd + 0) q_2) rfl (Nat.le_of_ble_eq_true rfl) dM_row_1 rfl ⟨Nat.le_refl _, Nat.le_refl _⟩ ?_
  show K 0 0 4 [.ref 200, .int x1, .int x2, .retAddr 0] [.int r_3] (mb_s s_1)
  refine ro_if_eq (tgt := 13) hK dM_row_4 (by decide) (fun c_4 => ?_) (fun c_4 => ?_)
  · replace h := mb_ift c_4 h
    refine ro_iconst (x := (-1)) hK (by decide) dM_row_13 ?_
    cases h
    exact hR.1 0 0 14 _ _ _ _ rfl rfl dM_row_14 ⟨rfl, rfl⟩
  · replace h := mb_iff c_4 h
    refine ro_iload_n hK dM_row_7 rfl ?_
    refine ro_bipush (x := 60) hK (by decide) dM_row_8 ?_
    refine ro_icmp_le (tgt := 15) hK dM_row_10 (by decide) (fun c_5 => ?_) (fun c_5 => ?_)
    · replace h := mb_ift c_5 h
      refine ro_iload_n hK dM_row_15 rfl ?_
      refine ro_if_ge (tgt := 25) hK dM_row_16 (by decide) (fun c_6 => ?_) (fun c_6 => ?_)
      · replace h := mb_ift c_6 h
        refine ro_aload_n hK dM_row_25 rfl ?_
        refine rb_get hK fM_13 mb_oM rfl dM_row_26 ?_
        refine ro_iload_n hK dM_row_29 rfl ?_
        refine ro_iload_n hK dM_row_30 rfl ?_
        obtain ⟨s_7, e_8, i_9, h⟩ := mb_wr_e h
        refine rb_iast hK ai_203 i_9 e_8 dM_row_31 ?_
        refine ro_iconst (x := 0) hK (by decide) dM_row_32 ?_
        refine ro_istore_n hK dM_row_33 (by decide) ?_
        show K 0 0 34 [.ref 200, .int x1, .int x2, .int 0] [] (mb_s s_7)
        refine ro_fg (lv' := [.ref 200, .int x1, .int x2, .int 0]) hK ⟨Or.inr rfl, ⟨Or.inr rfl, ⟨Or.inr rfl, ⟨Or.inr rfl, trivial⟩⟩⟩⟩ ?_
        refine tl_M_row_34 (dd := dd) hK hR (fun x_13 s_14 h => ?_) n _ _ h
        refine ro_iload_n hK dM_row_53 rfl ?_
        cases h
        exact hR.1 0 0 54 _ _ _ _ rfl rfl dM_row_54 ⟨rfl, rfl⟩
      · replace h := mb_iff c_6 h
        refine ro_aload_n hK dM_row_19 rfl ?_
        refine ro_iconst (x := 5) hK (by decide) dM_row_20 ?_
        obtain ⟨r_17, s_15, q_16, h⟩ := mb_cl_e h
        refine rb_callV hK mM_meet vM_100 (t_M_meet (dd := dd + 1) q_16) rfl mb_oM rfl (Nat.le_of_ble_eq_true rfl) dM_row_21 rfl ⟨Nat.le_refl _, Nat.le_refl _⟩ ?_
        show K 0 0 24 [.ref 200, .int x1, .int x2, .retAddr 0] [.int r_17] (mb_s s_15)
        cases h
        exact hR.1 0 0 24 _ _ _ _ rfl rfl dM_row_24 ⟨rfl, rfl⟩
    · replace h := mb_iff c_5 h
      refine ro_iconst (x := (-1)) hK (by decide) dM_row_13 ?_
      cases h
      exact hR.1 0 0 14 _ _ _ _ rfl rfl dM_row_14 ⟨rfl, rfl⟩
theorem dM_song_0 : decode bM_song 0 = .ok (.iload_n 1, 1) := by decide +kernel
theorem dM_song_1 : decode bM_song 1 = .ok (.iconst 1, 1) := by decide +kernel
theorem dM_song_2 : decode bM_song 2 = .ok (.bipush 99, 2) := by decide +kernel
theorem dM_song_4 : decode bM_song 4 = .ok (.invokestatic 92, 3) := by decide +kernel
theorem dM_song_7 : decode bM_song 7 = .ok (.ifCond .ne 5, 3) := by decide +kernel
theorem dM_song_10 : decode bM_song 10 = .ok (.iconst (-1), 1) := by decide +kernel
theorem dM_song_11 : decode bM_song 11 = .ok (.ireturn, 1) := by decide +kernel
theorem dM_song_12 : decode bM_song 12 = .ok (.aload_n 0, 1) := by decide +kernel
theorem dM_song_13 : decode bM_song 13 = .ok (.getfield 161, 3) := by decide +kernel
theorem dM_song_16 : decode bM_song 16 = .ok (.ifCond .eq 10, 3) := by decide +kernel
theorem dM_song_19 : decode bM_song 19 = .ok (.aload_n 0, 1) := by decide +kernel
theorem dM_song_20 : decode bM_song 20 = .ok (.invokevirtual 206, 3) := by decide +kernel
theorem dM_song_23 : decode bM_song 23 = .ok (.ifCond .eq 6, 3) := by decide +kernel
theorem dM_song_26 : decode bM_song 26 = .ok (.bipush (-4), 2) := by decide +kernel
theorem dM_song_28 : decode bM_song 28 = .ok (.ireturn, 1) := by decide +kernel
theorem dM_song_29 : decode bM_song 29 = .ok (.iconst 1, 1) := by decide +kernel
theorem dM_song_30 : decode bM_song 30 = .ok (.istore_n 2, 1) := by decide +kernel
theorem dM_song_31 : decode bM_song 31 = .ok (.iconst 0, 1) := by decide +kernel
theorem dM_song_32 : decode bM_song 32 = .ok (.istore_n 3, 1) := by decide +kernel
theorem dM_song_33 : decode bM_song 33 = .ok (.iload_n 3, 1) := by decide +kernel
theorem dM_song_34 : decode bM_song 34 = .ok (.aload_n 0, 1) := by decide +kernel
theorem dM_song_35 : decode bM_song 35 = .ok (.getfield 161, 3) := by decide +kernel
theorem dM_song_38 : decode bM_song 38 = .ok (.if_icmp .ge 40, 3) := by decide +kernel
theorem dM_song_41 : decode bM_song 41 = .ok (.aload_n 0, 1) := by decide +kernel
theorem dM_song_42 : decode bM_song 42 = .ok (.getfield 31, 3) := by decide +kernel
theorem dM_song_45 : decode bM_song 45 = .ok (.iload_n 3, 1) := by decide +kernel
theorem dM_song_46 : decode bM_song 46 = .ok (.iaload, 1) := by decide +kernel
theorem dM_song_47 : decode bM_song 47 = .ok (.iload_n 1, 1) := by decide +kernel
theorem dM_song_48 : decode bM_song 48 = .ok (.if_icmp .lt 6, 3) := by decide +kernel
theorem dM_song_51 : decode bM_song 51 = .ok (.bipush (-4), 2) := by decide +kernel
theorem dM_song_53 : decode bM_song 53 = .ok (.ireturn, 1) := by decide +kernel
theorem dM_song_54 : decode bM_song 54 = .ok (.iload_n 2, 1) := by decide +kernel
theorem dM_song_55 : decode bM_song 55 = .ok (.aload_n 0, 1) := by decide +kernel
theorem dM_song_56 : decode bM_song 56 = .ok (.getfield 28, 3) := by decide +kernel
theorem dM_song_59 : decode bM_song 59 = .ok (.iload_n 3, 1) := by decide +kernel
theorem dM_song_60 : decode bM_song 60 = .ok (.iaload, 1) := by decide +kernel
theorem dM_song_61 : decode bM_song 61 = .ok (.iconst 4, 1) := by decide +kernel
theorem dM_song_62 : decode bM_song 62 = .ok (.if_icmp .ne 7, 3) := by decide +kernel
theorem dM_song_65 : decode bM_song 65 = .ok (.iconst 1, 1) := by decide +kernel
theorem dM_song_66 : decode bM_song 66 = .ok (.goto 4, 3) := by decide +kernel
theorem dM_song_69 : decode bM_song 69 = .ok (.iconst 0, 1) := by decide +kernel
theorem dM_song_70 : decode bM_song 70 = .ok (.iadd, 1) := by decide +kernel
theorem dM_song_71 : decode bM_song 71 = .ok (.istore_n 2, 1) := by decide +kernel
theorem dM_song_72 : decode bM_song 72 = .ok (.iinc 3 1, 3) := by decide +kernel
theorem dM_song_75 : decode bM_song 75 = .ok (.goto (-42), 3) := by decide +kernel
theorem dM_song_78 : decode bM_song 78 = .ok (.iconst 0, 1) := by decide +kernel
theorem dM_song_79 : decode bM_song 79 = .ok (.istore_n 3, 1) := by decide +kernel
theorem dM_song_80 : decode bM_song 80 = .ok (.iload_n 3, 1) := by decide +kernel
theorem dM_song_81 : decode bM_song 81 = .ok (.aload_n 0, 1) := by decide +kernel
theorem dM_song_82 : decode bM_song 82 = .ok (.getfield 161, 3) := by decide +kernel
theorem dM_song_85 : decode bM_song 85 = .ok (.if_icmp .ge 37, 3) := by decide +kernel
theorem dM_song_88 : decode bM_song 88 = .ok (.aload_n 0, 1) := by decide +kernel
theorem dM_song_89 : decode bM_song 89 = .ok (.getfield 31, 3) := by decide +kernel
theorem dM_song_92 : decode bM_song 92 = .ok (.iload_n 3, 1) := by decide +kernel
theorem dM_song_93 : decode bM_song 93 = .ok (.aload_n 0, 1) := by decide +kernel
theorem dM_song_94 : decode bM_song 94 = .ok (.getfield 31, 3) := by decide +kernel
theorem dM_song_97 : decode bM_song 97 = .ok (.iload_n 3, 1) := by decide +kernel
theorem dM_song_98 : decode bM_song 98 = .ok (.iaload, 1) := by decide +kernel
theorem dM_song_99 : decode bM_song 99 = .ok (.iload_n 2, 1) := by decide +kernel
theorem dM_song_100 : decode bM_song 100 = .ok (.if_icmp .ge 7, 3) := by decide +kernel
theorem dM_song_103 : decode bM_song 103 = .ok (.iconst 0, 1) := by decide +kernel
theorem dM_song_104 : decode bM_song 104 = .ok (.goto 11, 3) := by decide +kernel
theorem dM_song_107 : decode bM_song 107 = .ok (.aload_n 0, 1) := by decide +kernel
theorem dM_song_108 : decode bM_song 108 = .ok (.getfield 31, 3) := by decide +kernel
theorem dM_song_111 : decode bM_song 111 = .ok (.iload_n 3, 1) := by decide +kernel
theorem dM_song_112 : decode bM_song 112 = .ok (.iaload, 1) := by decide +kernel
theorem dM_song_113 : decode bM_song 113 = .ok (.iload_n 2, 1) := by decide +kernel
theorem dM_song_114 : decode bM_song 114 = .ok (.isub, 1) := by decide +kernel
theorem dM_song_115 : decode bM_song 115 = .ok (.iastore, 1) := by decide +kernel
theorem dM_song_116 : decode bM_song 116 = .ok (.iinc 3 1, 3) := by decide +kernel
theorem dM_song_119 : decode bM_song 119 = .ok (.goto (-39), 3) := by decide +kernel
theorem dM_song_122 : decode bM_song 122 = .ok (.aload_n 0, 1) := by decide +kernel
theorem dM_song_123 : decode bM_song 123 = .ok (.invokevirtual 219, 3) := by decide +kernel
theorem dM_song_126 : decode bM_song 126 = .ok (.ireturn, 1) := by decide +kernel
def f_M_song_33 (n : Nat) (k0 : Int32 → Int32 → mb_T → Option (Int32 × mb_T)) (k1 : Int32 → Int32 → mb_T → Option (Int32 × mb_T)) (y1 : Int32) : Nat → Int32 → Int32 → mb_T → Option (Int32 × mb_T)
  | 0, _, _, _ => none
  | f + 1, w2, w3, s => if (s.1 200 8) ≤ w3 then k1 w2 w3 s else mb_rd s 213 10 w3 fun x_11 => if x_11 < y1 then (mb_rd s 212 10 w3 fun x_15 => f_M_song_33 n k0 k1 y1 f (w2 + (if x_15 = 4 then 1 else 0 : Int32)) (w3 + 1) s) else k0 w2 w3 s
def f_M_song_80 (n : Nat) (k0 : Int32 → mb_T → Option (Int32 × mb_T)) (y2 : Int32) : Nat → Int32 → mb_T → Option (Int32 × mb_T)
  | 0, _, _ => none
  | f + 1, w3, s => if (s.1 200 8) ≤ w3 then k0 w3 s else mb_rd s 213 10 w3 fun x_27 => if y2 ≤ x_27 then (mb_rd s 213 10 w3 fun x_31 => mb_wr s 213 10 w3 (x_31 - y2) fun s_34 => f_M_song_80 n k0 y2 f (w3 + 1) s_34) else mb_wr s 213 10 w3 0 fun s_37 => f_M_song_80 n k0 y2 f (w3 + 1) s_37
def f_M_song (n : Nat) (x1 : Int32) (s : mb_T) : Option (Int32 × mb_T) := mb_cl (f_M_in n x1 1 99 s) fun r_3 s_1 => if r_3 = 0 then some ((-1), s_1) else if (s_1.1 200 8) = 0 then some ((-4), s_1) else mb_cl (f_M_isOver n s_1) fun r_8 s_6 => if r_8 = 0 then (f_M_song_33 n (fun x_20 x_21 s_22 => some ((-4), s_22)) (fun x_23 x_24 s_25 => f_M_song_80 n (fun x_40 s_41 => mb_cl (f_M_allFears n s_41) fun r_44 s_42 => some (r_44, s_42)) x_23 n 0 s_25) x1 n 1 0 s_6) else some ((-4), s_6)
set_option maxHeartbeats 4000000 in
set_option maxRecDepth 100000 in
theorem tl_M_song_33 {dd n : Nat} {K : mj_KT} {out : Int32 × mb_T} (hK : mj_C (dd + 3) 0 0 RM_c "song" bM_song 4 K) (hR : mj_R bM_song (some .int) (fun r2 S2 => r2 = some (.int out.1) ∧ S2 = mb_s out.2) K) {k0 : Int32 → Int32 → mb_T → Option (Int32 × mb_T)} {k1 : Int32 → Int32 → mb_T → Option (Int32 × mb_T)} {y1 : Int32} (hk0 : ∀ (w2 : Int32) (w3 : Int32) (s : mb_T), k0 w2 w3 s = some out → K 0 0 51 [.ref 200, .int y1, .int w2, .int w3] [] (mb_s s)) (hk1 : ∀ (w2 : Int32) (w3 : Int32) (s : mb_T), k1 w2 w3 s = some out → K 0 0 78 [.ref 200, .int y1, .int w2, .int w3] [] (mb_s s)) : ∀ (f : Nat) (w2 : Int32) (w3 : Int32) (s : mb_T), f_M_song_33 n k0 k1 y1 f w2 w3 s = some out → K 0 0 33 [.ref 200, .int y1, .int w2, .int w3] [] (mb_s s) := by
  intro f
  induction f with
  | zero =>
    intro w2 w3 s h
    cases h
  | succ f ih =>
    intro w2 w3 s h
    rw [f_M_song_33] at h
    refine ro_iload_n hK dM_song_33 rfl ?_
    refine ro_aload_n hK dM_song_34 rfl ?_
    refine rb_get hK fM_161 mb_oM rfl dM_song_35 ?_
    refine ro_icmp_ge (tgt := 78) hK dM_song_38 (by decide) (fun c_10 => ?_) (fun c_10 => ?_)
    · replace h := mb_ift c_10 h
      refine ro_fg (lv' := [.ref 200, .int y1, .int w2, .int w3]) hK ⟨Or.inr rfl, ⟨Or.inr rfl, ⟨Or.inr rfl, ⟨Or.inr rfl, trivial⟩⟩⟩⟩ ?_
      exact hk1 _ _ _ h
    · replace h := mb_iff c_10 h
      refine ro_aload_n hK dM_song_41 rfl ?_
      refine rb_get hK fM_31 mb_oM rfl dM_song_42 ?_
      refine ro_iload_n hK dM_song_45 rfl ?_
      obtain ⟨x_11, e_12, i_13, h⟩ := mb_rd_e h
      refine rb_iald hK ai_213 i_13 e_12 dM_song_46 ?_
      refine ro_iload_n hK dM_song_47 rfl ?_
      refine ro_icmp_lt (tgt := 54) hK dM_song_48 (by decide) (fun c_14 => ?_) (fun c_14 => ?_)
      · replace h := mb_ift c_14 h
        refine ro_iload_n hK dM_song_54 rfl ?_
        refine ro_aload_n hK dM_song_55 rfl ?_
        refine rb_get hK fM_28 mb_oM rfl dM_song_56 ?_
        refine ro_iload_n hK dM_song_59 rfl ?_
        obtain ⟨x_15, e_16, i_17, h⟩ := mb_rd_e h
        refine rb_iald hK ai_212 i_17 e_16 dM_song_60 ?_
        refine ro_iconst (x := 4) hK (by decide) dM_song_61 ?_
        have j_19 : ∀ w_ : Int32, w_ = (if x_15 = 4 then 1 else 0 : Int32) → K 0 0 70 [.ref 200, .int y1, .int w2, .int w3] [.int w_, .int w2] (mb_s s) → K 0 0 62 [.ref 200, .int y1, .int w2, .int w3] [.int 4, .int x_15, .int w2] (mb_s s) := by
          intro w_ hw hj
          refine ro_icmp_ne (tgt := 69) hK dM_song_62 (by decide) (fun c_18 => ?_) (fun c_18 => ?_)
          · skip
            refine ro_iconst (x := 0) hK (by decide) dM_song_69 ?_
            have hw := (hw.trans (if_neg c_18))
            subst hw
            exact hj
          · skip
            refine ro_iconst (x := 1) hK (by decide) dM_song_65 ?_
            refine ro_goto (tgt := 70) hK dM_song_66 (by decide) ?_
            have hw := (hw.trans (if_pos c_18))
            subst hw
            exact hj
        refine j_19 _ rfl ?_
        refine ro_iadd hK dM_song_70 ?_
        refine ro_istore_n hK dM_song_71 (by decide) ?_
        show K 0 0 72 [.ref 200, .int y1, .int (w2 + (if x_15 = 4 then 1 else 0 : Int32)), .int w3] [] (mb_s s)
        refine ro_iincv (c := 1) hK (by decide) dM_song_72 rfl (by decide) ?_
        show K 0 0 75 [.ref 200, .int y1, .int (w2 + (if x_15 = 4 then 1 else 0 : Int32)), .int (w3 + 1)] [] (mb_s s)
        refine ro_goto (tgt := 33) hK dM_song_75 (by decide) ?_
        refine ro_fg (lv' := [.ref 200, .int y1, .int (w2 + (if x_15 = 4 then 1 else 0 : Int32)), .int (w3 + 1)]) hK ⟨Or.inr rfl, ⟨Or.inr rfl, ⟨Or.inr rfl, ⟨Or.inr rfl, trivial⟩⟩⟩⟩ ?_
        exact ih _ _ _ h
      · replace h := mb_iff c_14 h
        refine ro_fg (lv' := [.ref 200, .int y1, .int w2, .int w3]) hK ⟨Or.inr rfl, ⟨Or.inr rfl, ⟨Or.inr rfl, ⟨Or.inr rfl, trivial⟩⟩⟩⟩ ?_
        exact hk0 _ _ _ h
set_option maxHeartbeats 4000000 in
set_option maxRecDepth 100000 in
theorem tl_M_song_80 {dd n : Nat} {K : mj_KT} {out : Int32 × mb_T} (hK : mj_C (dd + 3) 0 0 RM_c "song" bM_song 4 K) (hR : mj_R bM_song (some .int) (fun r2 S2 => r2 = some (.int out.1) ∧ S2 = mb_s out.2) K) {k0 : Int32 → mb_T → Option (Int32 × mb_T)} {y2 : Int32} (hk0 : ∀ (w3 : Int32) (s : mb_T), k0 w3 s = some out → K 0 0 122 [.ref 200, .retAddr 0, .int y2, .int w3] [] (mb_s s)) : ∀ (f : Nat) (w3 : Int32) (s : mb_T), f_M_song_80 n k0 y2 f w3 s = some out → K 0 0 80 [.ref 200, .retAddr 0, .int y2, .int w3] [] (mb_s s) := by
  intro f
  induction f with
  | zero =>
    intro w3 s h
    cases h
  | succ f ih =>
    intro w3 s h
    rw [f_M_song_80] at h
    refine ro_iload_n hK dM_song_80 rfl ?_
    refine ro_aload_n hK dM_song_81 rfl ?_
    refine rb_get hK fM_161 mb_oM rfl dM_song_82 ?_
    refine ro_icmp_ge (tgt := 122) hK dM_song_85 (by decide) (fun c_26 => ?_) (fun c_26 => ?_)
    · replace h := mb_ift c_26 h
      refine ro_fg (lv' := [.ref 200, .retAddr 0, .int y2, .int w3]) hK ⟨Or.inr rfl, ⟨Or.inl rfl, ⟨Or.inr rfl, ⟨Or.inr rfl, trivial⟩⟩⟩⟩ ?_
      exact hk0 _ _ h
    · replace h := mb_iff c_26 h
      refine ro_aload_n hK dM_song_88 rfl ?_
      refine rb_get hK fM_31 mb_oM rfl dM_song_89 ?_
      refine ro_iload_n hK dM_song_92 rfl ?_
      refine ro_aload_n hK dM_song_93 rfl ?_
      refine rb_get hK fM_31 mb_oM rfl dM_song_94 ?_
      refine ro_iload_n hK dM_song_97 rfl ?_
      obtain ⟨x_27, e_28, i_29, h⟩ := mb_rd_e h
      refine rb_iald hK ai_213 i_29 e_28 dM_song_98 ?_
      refine ro_iload_n hK dM_song_99 rfl ?_
      refine ro_icmp_ge (tgt := 107) hK dM_song_100 (by decide) (fun c_30 => ?_) (fun c_30 => ?_)
      · replace h := mb_ift c_30 h
        refine ro_aload_n hK dM_song_107 rfl ?_
        refine rb_get hK fM_31 mb_oM rfl dM_song_108 ?_
        refine ro_iload_n hK dM_song_111 rfl ?_
        obtain ⟨x_31, e_32, i_33, h⟩ := mb_rd_e h
        refine rb_iald hK ai_213 i_33 e_32 dM_song_112 ?_
        refine ro_iload_n hK dM_song_113 rfl ?_
        refine ro_isub hK dM_song_114 ?_
        obtain ⟨s_34, e_35, i_36, h⟩ := mb_wr_e h
        refine rb_iast hK ai_213 i_36 e_35 dM_song_115 ?_
        refine ro_iincv (c := 1) hK (by decide) dM_song_116 rfl (by decide) ?_
        show K 0 0 119 [.ref 200, .retAddr 0, .int y2, .int (w3 + 1)] [] (mb_s s_34)
        refine ro_goto (tgt := 80) hK dM_song_119 (by decide) ?_
        refine ro_fg (lv' := [.ref 200, .retAddr 0, .int y2, .int (w3 + 1)]) hK ⟨Or.inr rfl, ⟨Or.inl rfl, ⟨Or.inr rfl, ⟨Or.inr rfl, trivial⟩⟩⟩⟩ ?_
        exact ih _ _ h
      · replace h := mb_iff c_30 h
        refine ro_iconst (x := 0) hK (by decide) dM_song_103 ?_
        refine ro_goto (tgt := 115) hK dM_song_104 (by decide) ?_
        obtain ⟨s_37, e_38, i_39, h⟩ := mb_wr_e h
        refine rb_iast hK ai_213 i_39 e_38 dM_song_115 ?_
        refine ro_iincv (c := 1) hK (by decide) dM_song_116 rfl (by decide) ?_
        show K 0 0 119 [.ref 200, .retAddr 0, .int y2, .int (w3 + 1)] [] (mb_s s_37)
        refine ro_goto (tgt := 80) hK dM_song_119 (by decide) ?_
        refine ro_fg (lv' := [.ref 200, .retAddr 0, .int y2, .int (w3 + 1)]) hK ⟨Or.inr rfl, ⟨Or.inl rfl, ⟨Or.inr rfl, ⟨Or.inr rfl, trivial⟩⟩⟩⟩ ?_
        exact ih _ _ h
set_option maxHeartbeats 4000000 in
set_option maxRecDepth 100000 in
theorem t_M_song {dd n : Nat} {x1 : Int32} {s : mb_T} {out : Int32 × mb_T}  (h : f_M_song n x1 s = some out) : mb_MC (dd + 3) yM_song bM_song 4 (some .int) [.ref 200, .int x1] s (some (.int out.1)) out.2 := by
  unfold f_M_song at h
  refine mj_mc (lv := [.ref 200, .int x1, .retAddr 0, .retAddr 0]) mM_song rfl rfl (Nat.le_of_ble_eq_true rfl) (fun K hK hR => ?_)
  have hK : mj_C (dd + 3) 0 0 RM_c "song" bM_song 4 K := hK
  refine ro_iload_n hK dM_song_0 rfl ?_
  refine ro_iconst (x := 1) hK (by decide) dM_song_1 ?_
  refine ro_bipush (x := 99) hK (by decide) dM_song_2 ?_
  obtain ⟨r_3, s_1, q_2, h⟩ := mb_cl_e h
  refine rb_callS hK mM_in vM_92 (t_M_in (dd := dd + 1) q_2) rfl (Nat.le_of_ble_eq_true rfl) dM_song_4 rfl ⟨Nat.le_refl _, Nat.le_refl _⟩ ?_
  show K 0 0 7 [.ref 200, .int x1, .retAddr 0, .retAddr 0] [.int r_3] (mb_s s_1)
  refine ro_if_ne (tgt := 12) hK dM_song_7 (by decide) (fun c_4 => ?_) (fun c_4 => ?_)
  · replace h := mb_iff c_4 h
    refine ro_aload_n hK dM_song_12 rfl ?_
    refine rb_get hK fM_161 mb_oM rfl dM_song_13 ?_
    refine ro_if_eq (tgt := 26) hK dM_song_16 (by decide) (fun c_5 => ?_) (fun c_5 => ?_)
    · replace h := mb_ift c_5 h
      refine ro_bipush (x := (-4)) hK (by decide) dM_song_26 ?_
      cases h
      exact hR.1 0 0 28 _ _ _ _ rfl rfl dM_song_28 ⟨rfl, rfl⟩
    · replace h := mb_iff c_5 h
      refine ro_aload_n hK dM_song_19 rfl ?_
      obtain ⟨r_8, s_6, q_7, h⟩ := mb_cl_e h
      refine rb_callV hK mM_isOver vM_206 (t_M_isOver (dd := dd + 0) q_7) rfl mb_oM rfl (Nat.le_of_ble_eq_true rfl) dM_song_20 rfl ⟨Nat.le_refl _, Nat.le_refl _⟩ ?_
      show K 0 0 23 [.ref 200, .int x1, .retAddr 0, .retAddr 0] [.int r_8] (mb_s s_6)
      refine ro_if_eq (tgt := 29) hK dM_song_23 (by decide) (fun c_9 => ?_) (fun c_9 => ?_)
      · replace h := mb_ift c_9 h
        refine ro_iconst (x := 1) hK (by decide) dM_song_29 ?_
        refine ro_istore_n hK dM_song_30 (by decide) ?_
        show K 0 0 31 [.ref 200, .int x1, .int 1, .retAddr 0] [] (mb_s s_6)
        refine ro_iconst (x := 0) hK (by decide) dM_song_31 ?_
        refine ro_istore_n hK dM_song_32 (by decide) ?_
        show K 0 0 33 [.ref 200, .int x1, .int 1, .int 0] [] (mb_s s_6)
        refine ro_fg (lv' := [.ref 200, .int x1, .int 1, .int 0]) hK ⟨Or.inr rfl, ⟨Or.inr rfl, ⟨Or.inr rfl, ⟨Or.inr rfl, trivial⟩⟩⟩⟩ ?_
        refine tl_M_song_33 (dd := dd) hK hR (fun x_20 x_21 s_22 h => ?_) (fun x_23 x_24 s_25 h => ?_) n _ _ _ h
        · skip
          refine ro_bipush (x := (-4)) hK (by decide) dM_song_51 ?_
          cases h
          exact hR.1 0 0 53 _ _ _ _ rfl rfl dM_song_53 ⟨rfl, rfl⟩
        · skip
          refine ro_iconst (x := 0) hK (by decide) dM_song_78 ?_
          refine ro_istore_n hK dM_song_79 (by decide) ?_
          show K 0 0 80 [.ref 200, .int x1, .int x_23, .int 0] [] (mb_s s_25)
          refine ro_fg (lv' := [.ref 200, .retAddr 0, .int x_23, .int 0]) hK ⟨Or.inr rfl, ⟨Or.inl rfl, ⟨Or.inr rfl, ⟨Or.inr rfl, trivial⟩⟩⟩⟩ ?_
          refine tl_M_song_80 (dd := dd) hK hR (fun x_40 s_41 h => ?_) n _ _ h
          refine ro_aload_n hK dM_song_122 rfl ?_
          obtain ⟨r_44, s_42, q_43, h⟩ := mb_cl_e h
          refine rb_callV hK mM_allFears vM_219 (t_M_allFears (dd := dd + 1) q_43) rfl mb_oM rfl (Nat.le_of_ble_eq_true rfl) dM_song_123 rfl ⟨Nat.le_refl _, Nat.le_refl _⟩ ?_
          show K 0 0 126 [.ref 200, .retAddr 0, .int x_23, .int x_40] [.int r_44] (mb_s s_42)
          cases h
          exact hR.1 0 0 126 _ _ _ _ rfl rfl dM_song_126 ⟨rfl, rfl⟩
      · replace h := mb_iff c_9 h
        refine ro_bipush (x := (-4)) hK (by decide) dM_song_26 ?_
        cases h
        exact hR.1 0 0 28 _ _ _ _ rfl rfl dM_song_28 ⟨rfl, rfl⟩
  · replace h := mb_ift c_4 h
    refine ro_iconst (x := (-1)) hK (by decide) dM_song_10 ?_
    cases h
    exact hR.1 0 0 11 _ _ _ _ rfl rfl dM_song_11 ⟨rfl, rfl⟩
theorem dM_story_0 : decode bM_story 0 = .ok (.aload_n 0, 1) := by decide +kernel
theorem dM_story_1 : decode bM_story 1 = .ok (.iload_n 1, 1) := by decide +kernel
theorem dM_story_2 : decode bM_story 2 = .ok (.invokevirtual 183, 3) := by decide +kernel
theorem dM_story_5 : decode bM_story 5 = .ok (.ifCond .ne 5, 3) := by decide +kernel
theorem dM_story_8 : decode bM_story 8 = .ok (.iconst (-1), 1) := by decide +kernel
theorem dM_story_9 : decode bM_story 9 = .ok (.ireturn, 1) := by decide +kernel
theorem dM_story_10 : decode bM_story 10 = .ok (.aload_n 0, 1) := by decide +kernel
theorem dM_story_11 : decode bM_story 11 = .ok (.invokevirtual 206, 3) := by decide +kernel
theorem dM_story_14 : decode bM_story 14 = .ok (.ifCond .eq 6, 3) := by decide +kernel
theorem dM_story_17 : decode bM_story 17 = .ok (.bipush (-4), 2) := by decide +kernel
theorem dM_story_19 : decode bM_story 19 = .ok (.ireturn, 1) := by decide +kernel
theorem dM_story_20 : decode bM_story 20 = .ok (.aload_n 0, 1) := by decide +kernel
theorem dM_story_21 : decode bM_story 21 = .ok (.iload_n 1, 1) := by decide +kernel
theorem dM_story_22 : decode bM_story 22 = .ok (.invokevirtual 216, 3) := by decide +kernel
theorem dM_story_25 : decode bM_story 25 = .ok (.aload_n 0, 1) := by decide +kernel
theorem dM_story_26 : decode bM_story 26 = .ok (.invokevirtual 219, 3) := by decide +kernel
theorem dM_story_29 : decode bM_story 29 = .ok (.ireturn, 1) := by decide +kernel
def f_M_story (n : Nat) (x1 : Int32) (s : mb_T) : Option (Int32 × mb_T) := mb_cl (f_M_isOne n x1 s) fun r_3 s_1 => if r_3 = 0 then some ((-1), s_1) else mb_cl (f_M_isOver n s_1) fun r_7 s_5 => if r_7 = 0 then (mb_cw (f_M_tellStory n x1 s_5) fun s_9 => mb_cl (f_M_allFears n s_9) fun r_13 s_11 => some (r_13, s_11)) else some ((-4), s_5)
set_option maxHeartbeats 4000000 in
set_option maxRecDepth 100000 in
theorem t_M_story {dd n : Nat} {x1 : Int32} {s : mb_T} {out : Int32 × mb_T}  (h : f_M_story n x1 s = some out) : mb_MC (dd + 3) yM_story bM_story 2 (some .int) [.ref 200, .int x1] s (some (.int out.1)) out.2 := by
  unfold f_M_story at h
  refine mj_mc (lv := [.ref 200, .int x1]) mM_story rfl rfl (Nat.le_of_ble_eq_true rfl) (fun K hK hR => ?_)
  have hK : mj_C (dd + 3) 0 0 RM_c "story" bM_story 2 K := hK
  refine ro_aload_n hK dM_story_0 rfl ?_
  refine ro_iload_n hK dM_story_1 rfl ?_
  obtain ⟨r_3, s_1, q_2, h⟩ := mb_cl_e h
  refine rb_callV hK mM_isOne vM_183 (t_M_isOne (dd := dd + 0) q_2) rfl mb_oM rfl (Nat.le_of_ble_eq_true rfl) dM_story_2 rfl ⟨Nat.le_refl _, Nat.le_refl _⟩ ?_
  show K 0 0 5 [.ref 200, .int x1] [.int r_3] (mb_s s_1)
  refine ro_if_ne (tgt := 10) hK dM_story_5 (by decide) (fun c_4 => ?_) (fun c_4 => ?_)
  · replace h := mb_iff c_4 h
    refine ro_aload_n hK dM_story_10 rfl ?_
    obtain ⟨r_7, s_5, q_6, h⟩ := mb_cl_e h
    refine rb_callV hK mM_isOver vM_206 (t_M_isOver (dd := dd + 0) q_6) rfl mb_oM rfl (Nat.le_of_ble_eq_true rfl) dM_story_11 rfl ⟨Nat.le_refl _, Nat.le_refl _⟩ ?_
    show K 0 0 14 [.ref 200, .int x1] [.int r_7] (mb_s s_5)
    refine ro_if_eq (tgt := 20) hK dM_story_14 (by decide) (fun c_8 => ?_) (fun c_8 => ?_)
    · replace h := mb_ift c_8 h
      refine ro_aload_n hK dM_story_20 rfl ?_
      refine ro_iload_n hK dM_story_21 rfl ?_
      obtain ⟨s_9, q_10, h⟩ := mb_cw_e h
      refine rb_callV hK mM_tellStory vM_216 (t_M_tellStory (dd := dd + 0) q_10) rfl mb_oM rfl (Nat.le_of_ble_eq_true rfl) dM_story_22 rfl ⟨Nat.le_refl _, Nat.le_refl _⟩ ?_
      show K 0 0 25 [.ref 200, .int x1] [] (mb_s s_9)
      refine ro_aload_n hK dM_story_25 rfl ?_
      obtain ⟨r_13, s_11, q_12, h⟩ := mb_cl_e h
      refine rb_callV hK mM_allFears vM_219 (t_M_allFears (dd := dd + 1) q_12) rfl mb_oM rfl (Nat.le_of_ble_eq_true rfl) dM_story_26 rfl ⟨Nat.le_refl _, Nat.le_refl _⟩ ?_
      show K 0 0 29 [.ref 200, .int x1] [.int r_13] (mb_s s_11)
      cases h
      exact hR.1 0 0 29 _ _ _ _ rfl rfl dM_story_29 ⟨rfl, rfl⟩
    · replace h := mb_iff c_8 h
      refine ro_bipush (x := (-4)) hK (by decide) dM_story_17 ?_
      cases h
      exact hR.1 0 0 19 _ _ _ _ rfl rfl dM_story_19 ⟨rfl, rfl⟩
  · replace h := mb_ift c_4 h
    refine ro_iconst (x := (-1)) hK (by decide) dM_story_8 ?_
    cases h
    exact hR.1 0 0 9 _ _ _ _ rfl rfl dM_story_9 ⟨rfl, rfl⟩
theorem dM_teller_0 : decode bM_teller 0 = .ok (.aload_n 0, 1) := by decide +kernel
theorem dM_teller_1 : decode bM_teller 1 = .ok (.getfield 161, 3) := by decide +kernel
theorem dM_teller_4 : decode bM_teller 4 = .ok (.ifCond .eq 10, 3) := by decide +kernel
theorem dM_teller_7 : decode bM_teller 7 = .ok (.aload_n 0, 1) := by decide +kernel
theorem dM_teller_8 : decode bM_teller 8 = .ok (.invokevirtual 206, 3) := by decide +kernel
theorem dM_teller_11 : decode bM_teller 11 = .ok (.ifCond .eq 6, 3) := by decide +kernel
theorem dM_teller_14 : decode bM_teller 14 = .ok (.bipush (-4), 2) := by decide +kernel
theorem dM_teller_16 : decode bM_teller 16 = .ok (.ireturn, 1) := by decide +kernel
theorem dM_teller_17 : decode bM_teller 17 = .ok (.aload_n 0, 1) := by decide +kernel
theorem dM_teller_18 : decode bM_teller 18 = .ok (.invokevirtual 222, 3) := by decide +kernel
theorem dM_teller_21 : decode bM_teller 21 = .ok (.iconst 0, 1) := by decide +kernel
theorem dM_teller_22 : decode bM_teller 22 = .ok (.istore_n 1, 1) := by decide +kernel
theorem dM_teller_23 : decode bM_teller 23 = .ok (.ldc 234, 2) := by decide +kernel
theorem dM_teller_25 : decode bM_teller 25 = .ok (.istore_n 2, 1) := by decide +kernel
theorem dM_teller_26 : decode bM_teller 26 = .ok (.iconst 0, 1) := by decide +kernel
theorem dM_teller_27 : decode bM_teller 27 = .ok (.istore_n 3, 1) := by decide +kernel
theorem dM_teller_28 : decode bM_teller 28 = .ok (.iload_n 3, 1) := by decide +kernel
theorem dM_teller_29 : decode bM_teller 29 = .ok (.aload_n 0, 1) := by decide +kernel
theorem dM_teller_30 : decode bM_teller 30 = .ok (.getfield 161, 3) := by decide +kernel
theorem dM_teller_33 : decode bM_teller 33 = .ok (.if_icmp .ge 54, 3) := by decide +kernel
theorem dM_teller_36 : decode bM_teller 36 = .ok (.aload_n 0, 1) := by decide +kernel
theorem dM_teller_37 : decode bM_teller 37 = .ok (.iload_n 3, 1) := by decide +kernel
theorem dM_teller_38 : decode bM_teller 38 = .ok (.invokevirtual 216, 3) := by decide +kernel
theorem dM_teller_41 : decode bM_teller 41 = .ok (.aload_n 0, 1) := by decide +kernel
theorem dM_teller_42 : decode bM_teller 42 = .ok (.getfield 31, 3) := by decide +kernel
theorem dM_teller_45 : decode bM_teller 45 = .ok (.aload_n 0, 1) := by decide +kernel
theorem dM_teller_46 : decode bM_teller 46 = .ok (.invokevirtual 254, 3) := by decide +kernel
theorem dM_teller_49 : decode bM_teller 49 = .ok (.iaload, 1) := by decide +kernel
theorem dM_teller_50 : decode bM_teller 50 = .ok (.istore 4, 2) := by decide +kernel
theorem dM_teller_52 : decode bM_teller 52 = .ok (.aload_n 0, 1) := by decide +kernel
theorem dM_teller_53 : decode bM_teller 53 = .ok (.invokevirtual 228, 3) := by decide +kernel
theorem dM_teller_56 : decode bM_teller 56 = .ok (.iload 4, 2) := by decide +kernel
theorem dM_teller_58 : decode bM_teller 58 = .ok (.iload_n 2, 1) := by decide +kernel
theorem dM_teller_59 : decode bM_teller 59 = .ok (.if_icmp .ge 7, 3) := by decide +kernel
theorem dM_teller_62 : decode bM_teller 62 = .ok (.iload_n 3, 1) := by decide +kernel
theorem dM_teller_63 : decode bM_teller 63 = .ok (.goto 4, 3) := by decide +kernel
theorem dM_teller_66 : decode bM_teller 66 = .ok (.iload_n 1, 1) := by decide +kernel
theorem dM_teller_67 : decode bM_teller 67 = .ok (.istore_n 1, 1) := by decide +kernel
theorem dM_teller_68 : decode bM_teller 68 = .ok (.iload 4, 2) := by decide +kernel
theorem dM_teller_70 : decode bM_teller 70 = .ok (.iload_n 2, 1) := by decide +kernel
theorem dM_teller_71 : decode bM_teller 71 = .ok (.if_icmp .ge 8, 3) := by decide +kernel
theorem dM_teller_74 : decode bM_teller 74 = .ok (.iload 4, 2) := by decide +kernel
theorem dM_teller_76 : decode bM_teller 76 = .ok (.goto 4, 3) := by decide +kernel
theorem dM_teller_79 : decode bM_teller 79 = .ok (.iload_n 2, 1) := by decide +kernel
theorem dM_teller_80 : decode bM_teller 80 = .ok (.istore_n 2, 1) := by decide +kernel
theorem dM_teller_81 : decode bM_teller 81 = .ok (.iinc 3 1, 3) := by decide +kernel
theorem dM_teller_84 : decode bM_teller 84 = .ok (.goto (-56), 3) := by decide +kernel
theorem dM_teller_87 : decode bM_teller 87 = .ok (.aload_n 0, 1) := by decide +kernel
theorem dM_teller_88 : decode bM_teller 88 = .ok (.iload_n 2, 1) := by decide +kernel
theorem dM_teller_89 : decode bM_teller 89 = .ok (.iload_n 1, 1) := by decide +kernel
theorem dM_teller_90 : decode bM_teller 90 = .ok (.invokevirtual 118, 3) := by decide +kernel
theorem dM_teller_93 : decode bM_teller 93 = .ok (.ireturn, 1) := by decide +kernel
def f_M_teller_28 (n : Nat) (k0 : Int32 → Int32 → Int32 → mb_T → Option (Int32 × mb_T))  : Nat → Int32 → Int32 → Int32 → mb_T → Option (Int32 × mb_T)
  | 0, _, _, _, _ => none
  | f + 1, w1, w2, w3, s => if (s.1 200 8) ≤ w3 then k0 w1 w2 w3 s else mb_cw (f_M_tellStory n w3 s) fun s_9 => mb_cl (f_M_greatest n s_9) fun r_13 s_11 => mb_rd s_11 213 10 r_13 fun x_14 => mb_cw (f_M_comeBack n s_11) fun s_17 => f_M_teller_28 n k0 f (if w2 ≤ x_14 then w1 else w3 : Int32) (if w2 ≤ x_14 then w2 else x_14 : Int32) (w3 + 1) s_17
def f_M_teller (n : Nat)  (s : mb_T) : Option (Int32 × mb_T) := if (s.1 200 8) = 0 then some ((-4), s) else mb_cl (f_M_isOver n s) fun r_4 s_2 => if r_4 = 0 then (mb_cw (f_M_putAside n s_2) fun s_6 => f_M_teller_28 n (fun x_23 x_24 x_25 s_26 => mb_cl (f_M_ask n x_24 x_23 s_26) fun r_29 s_27 => some (r_29, s_27)) n 0 1048576 0 s_6) else some ((-4), s_2)
set_option maxHeartbeats 4000000 in
set_option maxRecDepth 100000 in
theorem tl_M_teller_28 {dd n : Nat} {K : mj_KT} {out : Int32 × mb_T} (hK : mj_C (dd + 3) 0 0 RM_c "teller" bM_teller 5 K) (hR : mj_R bM_teller (some .int) (fun r2 S2 => r2 = some (.int out.1) ∧ S2 = mb_s out.2) K) {k0 : Int32 → Int32 → Int32 → mb_T → Option (Int32 × mb_T)}  (hk0 : ∀ (w1 : Int32) (w2 : Int32) (w3 : Int32) (s : mb_T), k0 w1 w2 w3 s = some out → K 0 0 87 [.ref 200, .int w1, .int w2, .int w3, .retAddr 0] [] (mb_s s)) : ∀ (f : Nat) (w1 : Int32) (w2 : Int32) (w3 : Int32) (s : mb_T), f_M_teller_28 n k0 f w1 w2 w3 s = some out → K 0 0 28 [.ref 200, .int w1, .int w2, .int w3, .retAddr 0] [] (mb_s s) := by
  intro f
  induction f with
  | zero =>
    intro w1 w2 w3 s h
    cases h
  | succ f ih =>
    intro w1 w2 w3 s h
    rw [f_M_teller_28] at h
    refine ro_iload_n hK dM_teller_28 rfl ?_
    refine ro_aload_n hK dM_teller_29 rfl ?_
    refine rb_get hK fM_161 mb_oM rfl dM_teller_30 ?_
    refine ro_icmp_ge (tgt := 87) hK dM_teller_33 (by decide) (fun c_8 => ?_) (fun c_8 => ?_)
    · replace h := mb_ift c_8 h
      refine ro_fg (lv' := [.ref 200, .int w1, .int w2, .int w3, .retAddr 0]) hK ⟨Or.inr rfl, ⟨Or.inr rfl, ⟨Or.inr rfl, ⟨Or.inr rfl, ⟨Or.inl rfl, trivial⟩⟩⟩⟩⟩ ?_
      exact hk0 _ _ _ _ h
    · replace h := mb_iff c_8 h
      refine ro_aload_n hK dM_teller_36 rfl ?_
      refine ro_iload_n hK dM_teller_37 rfl ?_
      obtain ⟨s_9, q_10, h⟩ := mb_cw_e h
      refine rb_callV hK mM_tellStory vM_216 (t_M_tellStory (dd := dd + 0) q_10) rfl mb_oM rfl (Nat.le_of_ble_eq_true rfl) dM_teller_38 rfl ⟨Nat.le_refl _, Nat.le_refl _⟩ ?_
      show K 0 0 41 [.ref 200, .int w1, .int w2, .int w3, .retAddr 0] [] (mb_s s_9)
      refine ro_aload_n hK dM_teller_41 rfl ?_
      refine rb_get hK fM_31 mb_oM rfl dM_teller_42 ?_
      refine ro_aload_n hK dM_teller_45 rfl ?_
      obtain ⟨r_13, s_11, q_12, h⟩ := mb_cl_e h
      refine rb_callV hK mM_greatest vM_254 (t_M_greatest (dd := dd + 1) q_12) rfl mb_oM rfl (Nat.le_of_ble_eq_true rfl) dM_teller_46 rfl ⟨Nat.le_refl _, Nat.le_refl _⟩ ?_
      show K 0 0 49 [.ref 200, .int w1, .int w2, .int w3, .retAddr 0] [.int r_13, .ref 213] (mb_s s_11)
      obtain ⟨x_14, e_15, i_16, h⟩ := mb_rd_e h
      refine rb_iald hK ai_213 i_16 e_15 dM_teller_49 ?_
      refine ro_istore hK dM_teller_50 (by decide) ?_
      show K 0 0 52 [.ref 200, .int w1, .int w2, .int w3, .int x_14] [] (mb_s s_11)
      refine ro_aload_n hK dM_teller_52 rfl ?_
      obtain ⟨s_17, q_18, h⟩ := mb_cw_e h
      refine rb_callV hK mM_comeBack vM_228 (t_M_comeBack (dd := dd + 1) q_18) rfl mb_oM rfl (Nat.le_of_ble_eq_true rfl) dM_teller_53 rfl ⟨Nat.le_refl _, Nat.le_refl _⟩ ?_
      show K 0 0 56 [.ref 200, .int w1, .int w2, .int w3, .int x_14] [] (mb_s s_17)
      refine ro_iload hK dM_teller_56 rfl ?_
      refine ro_iload_n hK dM_teller_58 rfl ?_
      have j_20 : ∀ w_ : Int32, w_ = (if w2 ≤ x_14 then w1 else w3 : Int32) → K 0 0 67 [.ref 200, .int w1, .int w2, .int w3, .int x_14] [.int w_] (mb_s s_17) → K 0 0 59 [.ref 200, .int w1, .int w2, .int w3, .int x_14] [.int w2, .int x_14] (mb_s s_17) := by
        intro w_ hw hj
        refine ro_icmp_ge (tgt := 66) hK dM_teller_59 (by decide) (fun c_19 => ?_) (fun c_19 => ?_)
        · skip
          refine ro_iload_n hK dM_teller_66 rfl ?_
          have hw := (hw.trans (if_pos c_19))
          subst hw
          exact hj
        · skip
          refine ro_iload_n hK dM_teller_62 rfl ?_
          refine ro_goto (tgt := 67) hK dM_teller_63 (by decide) ?_
          have hw := (hw.trans (if_neg c_19))
          subst hw
          exact hj
      refine j_20 _ rfl ?_
      refine ro_istore_n hK dM_teller_67 (by decide) ?_
      show K 0 0 68 [.ref 200, .int (if w2 ≤ x_14 then w1 else w3 : Int32), .int w2, .int w3, .int x_14] [] (mb_s s_17)
      refine ro_iload hK dM_teller_68 rfl ?_
      refine ro_iload_n hK dM_teller_70 rfl ?_
      have j_22 : ∀ w_ : Int32, w_ = (if w2 ≤ x_14 then w2 else x_14 : Int32) → K 0 0 80 [.ref 200, .int (if w2 ≤ x_14 then w1 else w3 : Int32), .int w2, .int w3, .int x_14] [.int w_] (mb_s s_17) → K 0 0 71 [.ref 200, .int (if w2 ≤ x_14 then w1 else w3 : Int32), .int w2, .int w3, .int x_14] [.int w2, .int x_14] (mb_s s_17) := by
        intro w_ hw hj
        refine ro_icmp_ge (tgt := 79) hK dM_teller_71 (by decide) (fun c_21 => ?_) (fun c_21 => ?_)
        · skip
          refine ro_iload_n hK dM_teller_79 rfl ?_
          have hw := (hw.trans (if_pos c_21))
          subst hw
          exact hj
        · skip
          refine ro_iload hK dM_teller_74 rfl ?_
          refine ro_goto (tgt := 80) hK dM_teller_76 (by decide) ?_
          have hw := (hw.trans (if_neg c_21))
          subst hw
          exact hj
      refine j_22 _ rfl ?_
      refine ro_istore_n hK dM_teller_80 (by decide) ?_
      show K 0 0 81 [.ref 200, .int (if w2 ≤ x_14 then w1 else w3 : Int32), .int (if w2 ≤ x_14 then w2 else x_14 : Int32), .int w3, .int x_14] [] (mb_s s_17)
      refine ro_iincv (c := 1) hK (by decide) dM_teller_81 rfl (by decide) ?_
      show K 0 0 84 [.ref 200, .int (if w2 ≤ x_14 then w1 else w3 : Int32), .int (if w2 ≤ x_14 then w2 else x_14 : Int32), .int (w3 + 1), .int x_14] [] (mb_s s_17)
      refine ro_goto (tgt := 28) hK dM_teller_84 (by decide) ?_
      refine ro_fg (lv' := [.ref 200, .int (if w2 ≤ x_14 then w1 else w3 : Int32), .int (if w2 ≤ x_14 then w2 else x_14 : Int32), .int (w3 + 1), .retAddr 0]) hK ⟨Or.inr rfl, ⟨Or.inr rfl, ⟨Or.inr rfl, ⟨Or.inr rfl, ⟨Or.inl rfl, trivial⟩⟩⟩⟩⟩ ?_
      exact ih _ _ _ _ h
set_option maxHeartbeats 4000000 in
set_option maxRecDepth 100000 in
theorem t_M_teller {dd n : Nat}  {s : mb_T} {out : Int32 × mb_T}  (h : f_M_teller n  s = some out) : mb_MC (dd + 3) yM_teller bM_teller 5 (some .int) [.ref 200] s (some (.int out.1)) out.2 := by
  unfold f_M_teller at h
  refine mj_mc (lv := [.ref 200, .retAddr 0, .retAddr 0, .retAddr 0, .retAddr 0]) mM_teller rfl rfl (Nat.le_of_ble_eq_true rfl) (fun K hK hR => ?_)
  have hK : mj_C (dd + 3) 0 0 RM_c "teller" bM_teller 5 K := hK
  refine ro_aload_n hK dM_teller_0 rfl ?_
  refine rb_get hK fM_161 mb_oM rfl dM_teller_1 ?_
  refine ro_if_eq (tgt := 14) hK dM_teller_4 (by decide) (fun c_1 => ?_) (fun c_1 => ?_)
  · replace h := mb_ift c_1 h
    refine ro_bipush (x := (-4)) hK (by decide) dM_teller_14 ?_
    cases h
    exact hR.1 0 0 16 _ _ _ _ rfl rfl dM_teller_16 ⟨rfl, rfl⟩
  · replace h := mb_iff c_1 h
    refine ro_aload_n hK dM_teller_7 rfl ?_
    obtain ⟨r_4, s_2, q_3, h⟩ := mb_cl_e h
    refine rb_callV hK mM_isOver vM_206 (t_M_isOver (dd := dd + 0) q_3) rfl mb_oM rfl (Nat.le_of_ble_eq_true rfl) dM_teller_8 rfl ⟨Nat.le_refl _, Nat.le_refl _⟩ ?_
    show K 0 0 11 [.ref 200, .retAddr 0, .retAddr 0, .retAddr 0, .retAddr 0] [.int r_4] (mb_s s_2)
    refine ro_if_eq (tgt := 17) hK dM_teller_11 (by decide) (fun c_5 => ?_) (fun c_5 => ?_)
    · replace h := mb_ift c_5 h
      refine ro_aload_n hK dM_teller_17 rfl ?_
      obtain ⟨s_6, q_7, h⟩ := mb_cw_e h
      refine rb_callV hK mM_putAside vM_222 (t_M_putAside (dd := dd + 1) q_7) rfl mb_oM rfl (Nat.le_of_ble_eq_true rfl) dM_teller_18 rfl ⟨Nat.le_refl _, Nat.le_refl _⟩ ?_
      show K 0 0 21 [.ref 200, .retAddr 0, .retAddr 0, .retAddr 0, .retAddr 0] [] (mb_s s_6)
      refine ro_iconst (x := 0) hK (by decide) dM_teller_21 ?_
      refine ro_istore_n hK dM_teller_22 (by decide) ?_
      show K 0 0 23 [.ref 200, .int 0, .retAddr 0, .retAddr 0, .retAddr 0] [] (mb_s s_6)
      refine ro_ldc hK cM_234 dM_teller_23 ?_
      refine ro_istore_n hK dM_teller_25 (by decide) ?_
      show K 0 0 26 [.ref 200, .int 0, .int 1048576, .retAddr 0, .retAddr 0] [] (mb_s s_6)
      refine ro_iconst (x := 0) hK (by decide) dM_teller_26 ?_
      refine ro_istore_n hK dM_teller_27 (by decide) ?_
      show K 0 0 28 [.ref 200, .int 0, .int 1048576, .int 0, .retAddr 0] [] (mb_s s_6)
      refine ro_fg (lv' := [.ref 200, .int 0, .int 1048576, .int 0, .retAddr 0]) hK ⟨Or.inr rfl, ⟨Or.inr rfl, ⟨Or.inr rfl, ⟨Or.inr rfl, ⟨Or.inl rfl, trivial⟩⟩⟩⟩⟩ ?_
      refine tl_M_teller_28 (dd := dd) hK hR (fun x_23 x_24 x_25 s_26 h => ?_) n _ _ _ _ h
      refine ro_aload_n hK dM_teller_87 rfl ?_
      refine ro_iload_n hK dM_teller_88 rfl ?_
      refine ro_iload_n hK dM_teller_89 rfl ?_
      obtain ⟨r_29, s_27, q_28, h⟩ := mb_cl_e h
      refine rb_callV hK mM_ask vM_118 (t_M_ask (dd := dd + 1) q_28) rfl mb_oM rfl (Nat.le_of_ble_eq_true rfl) dM_teller_90 rfl ⟨Nat.le_refl _, Nat.le_refl _⟩ ?_
      show K 0 0 93 [.ref 200, .int x_23, .int x_24, .int x_25, .retAddr 0] [.int r_29] (mb_s s_27)
      cases h
      exact hR.1 0 0 93 _ _ _ _ rfl rfl dM_teller_93 ⟨rfl, rfl⟩
    · replace h := mb_iff c_5 h
      refine ro_bipush (x := (-4)) hK (by decide) dM_teller_14 ?_
      cases h
      exact hR.1 0 0 16 _ _ _ _ rfl rfl dM_teller_16 ⟨rfl, rfl⟩
theorem dM_text_0 : decode bM_text 0 = .ok (.iload_n 1, 1) := by decide +kernel
theorem dM_text_1 : decode bM_text 1 = .ok (.invokestatic 104, 3) := by decide +kernel
theorem dM_text_4 : decode bM_text 4 = .ok (.ifCond .eq 9, 3) := by decide +kernel
theorem dM_text_7 : decode bM_text 7 = .ok (.iload_n 2, 1) := by decide +kernel
theorem dM_text_8 : decode bM_text 8 = .ok (.bipush 80, 2) := by decide +kernel
theorem dM_text_10 : decode bM_text 10 = .ok (.if_icmp .le 5, 3) := by decide +kernel
theorem dM_text_13 : decode bM_text 13 = .ok (.iconst (-1), 1) := by decide +kernel
theorem dM_text_14 : decode bM_text 14 = .ok (.ireturn, 1) := by decide +kernel
theorem dM_text_15 : decode bM_text 15 = .ok (.iload_n 2, 1) := by decide +kernel
theorem dM_text_16 : decode bM_text 16 = .ok (.ifCond .ge 9, 3) := by decide +kernel
theorem dM_text_19 : decode bM_text 19 = .ok (.aload_n 0, 1) := by decide +kernel
theorem dM_text_20 : decode bM_text 20 = .ok (.iconst 5, 1) := by decide +kernel
theorem dM_text_21 : decode bM_text 21 = .ok (.invokevirtual 100, 3) := by decide +kernel
theorem dM_text_24 : decode bM_text 24 = .ok (.ireturn, 1) := by decide +kernel
theorem dM_text_25 : decode bM_text 25 = .ok (.aload_n 0, 1) := by decide +kernel
theorem dM_text_26 : decode bM_text 26 = .ok (.getfield 22, 3) := by decide +kernel
theorem dM_text_29 : decode bM_text 29 = .ok (.iload_n 1, 1) := by decide +kernel
theorem dM_text_30 : decode bM_text 30 = .ok (.iload_n 2, 1) := by decide +kernel
theorem dM_text_31 : decode bM_text 31 = .ok (.iastore, 1) := by decide +kernel
theorem dM_text_32 : decode bM_text 32 = .ok (.iconst 0, 1) := by decide +kernel
theorem dM_text_33 : decode bM_text 33 = .ok (.istore_n 3, 1) := by decide +kernel
theorem dM_text_34 : decode bM_text 34 = .ok (.iload_n 3, 1) := by decide +kernel
theorem dM_text_35 : decode bM_text 35 = .ok (.bipush 80, 2) := by decide +kernel
theorem dM_text_37 : decode bM_text 37 = .ok (.if_icmp .ge 22, 3) := by decide +kernel
theorem dM_text_40 : decode bM_text 40 = .ok (.aload_n 0, 1) := by decide +kernel
theorem dM_text_41 : decode bM_text 41 = .ok (.getfield 25, 3) := by decide +kernel
theorem dM_text_44 : decode bM_text 44 = .ok (.bipush 80, 2) := by decide +kernel
theorem dM_text_46 : decode bM_text 46 = .ok (.iload_n 1, 1) := by decide +kernel
theorem dM_text_47 : decode bM_text 47 = .ok (.imul, 1) := by decide +kernel
theorem dM_text_48 : decode bM_text 48 = .ok (.iload_n 3, 1) := by decide +kernel
theorem dM_text_49 : decode bM_text 49 = .ok (.iadd, 1) := by decide +kernel
theorem dM_text_50 : decode bM_text 50 = .ok (.bipush 32, 2) := by decide +kernel
theorem dM_text_52 : decode bM_text 52 = .ok (.iastore, 1) := by decide +kernel
theorem dM_text_53 : decode bM_text 53 = .ok (.iinc 3 1, 3) := by decide +kernel
theorem dM_text_56 : decode bM_text 56 = .ok (.goto (-22), 3) := by decide +kernel
theorem dM_text_59 : decode bM_text 59 = .ok (.iload_n 2, 1) := by decide +kernel
theorem dM_text_60 : decode bM_text 60 = .ok (.ireturn, 1) := by decide +kernel
def f_M_text_34 (n : Nat) (k0 : Int32 → mb_T → Option (Int32 × mb_T)) (y1 : Int32) (y2 : Int32) : Nat → Int32 → mb_T → Option (Int32 × mb_T)
  | 0, _, _ => none
  | f + 1, w3, s => if 80 ≤ w3 then k0 w3 s else mb_wr s 207 320 ((80 * y1) + w3) 32 fun s_11 => f_M_text_34 n k0 y1 y2 f (w3 + 1) s_11
def f_M_text (n : Nat) (x1 : Int32) (x2 : Int32) (s : mb_T) : Option (Int32 × mb_T) := mb_cl (f_M_isText n x1 s) fun r_3 s_1 => if r_3 = 0 then some ((-1), s_1) else if x2 ≤ 80 then (if 0 ≤ x2 then (mb_wr s_1 206 4 x1 x2 fun s_7 => f_M_text_34 n (fun x_14 s_15 => some (x2, s_15)) x1 x2 n 0 s_7) else mb_cl (f_M_meet n 5 s_1) fun r_18 s_16 => some (r_18, s_16)) else some ((-1), s_1)
set_option maxHeartbeats 4000000 in
set_option maxRecDepth 100000 in
theorem tl_M_text_34 {dd n : Nat} {K : mj_KT} {out : Int32 × mb_T} (hK : mj_C (dd + 3) 0 0 RM_c "text" bM_text 4 K) (hR : mj_R bM_text (some .int) (fun r2 S2 => r2 = some (.int out.1) ∧ S2 = mb_s out.2) K) {k0 : Int32 → mb_T → Option (Int32 × mb_T)} {y1 : Int32} {y2 : Int32} (hk0 : ∀ (w3 : Int32) (s : mb_T), k0 w3 s = some out → K 0 0 59 [.ref 200, .int y1, .int y2, .int w3] [] (mb_s s)) : ∀ (f : Nat) (w3 : Int32) (s : mb_T), f_M_text_34 n k0 y1 y2 f w3 s = some out → K 0 0 34 [.ref 200, .int y1, .int y2, .int w3] [] (mb_s s) := by
  intro f
  induction f with
  | zero =>
    intro w3 s h
    cases h
  | succ f ih =>
    intro w3 s h
    rw [f_M_text_34] at h
    refine ro_iload_n hK dM_text_34 rfl ?_
    refine ro_bipush (x := 80) hK (by decide) dM_text_35 ?_
    refine ro_icmp_ge (tgt := 59) hK dM_text_37 (by decide) (fun c_10 => ?_) (fun c_10 => ?_)
    · replace h := mb_ift c_10 h
      refine ro_fg (lv' := [.ref 200, .int y1, .int y2, .int w3]) hK ⟨Or.inr rfl, ⟨Or.inr rfl, ⟨Or.inr rfl, ⟨Or.inr rfl, trivial⟩⟩⟩⟩ ?_
      exact hk0 _ _ h
    · replace h := mb_iff c_10 h
      refine ro_aload_n hK dM_text_40 rfl ?_
      refine rb_get hK fM_25 mb_oM rfl dM_text_41 ?_
      refine ro_bipush (x := 80) hK (by decide) dM_text_44 ?_
      refine ro_iload_n hK dM_text_46 rfl ?_
      refine ro_imul hK dM_text_47 ?_
      refine ro_iload_n hK dM_text_48 rfl ?_
      refine ro_iadd hK dM_text_49 ?_
      refine ro_bipush (x := 32) hK (by decide) dM_text_50 ?_
      obtain ⟨s_11, e_12, i_13, h⟩ := mb_wr_e h
      refine rb_iast hK ai_207 i_13 e_12 dM_text_52 ?_
      refine ro_iincv (c := 1) hK (by decide) dM_text_53 rfl (by decide) ?_
      show K 0 0 56 [.ref 200, .int y1, .int y2, .int (w3 + 1)] [] (mb_s s_11)
      refine ro_goto (tgt := 34) hK dM_text_56 (by decide) ?_
      refine ro_fg (lv' := [.ref 200, .int y1, .int y2, .int (w3 + 1)]) hK ⟨Or.inr rfl, ⟨Or.inr rfl, ⟨Or.inr rfl, ⟨Or.inr rfl, trivial⟩⟩⟩⟩ ?_
      exact ih _ _ h
set_option maxHeartbeats 4000000 in
set_option maxRecDepth 100000 in
theorem t_M_text {dd n : Nat} {x1 : Int32} {x2 : Int32} {s : mb_T} {out : Int32 × mb_T}  (h : f_M_text n x1 x2 s = some out) : mb_MC (dd + 3) yM_text bM_text 4 (some .int) [.ref 200, .int x1, .int x2] s (some (.int out.1)) out.2 := by
  unfold f_M_text at h
  refine mj_mc (lv := [.ref 200, .int x1, .int x2, .retAddr 0]) mM_text rfl rfl (Nat.le_of_ble_eq_true rfl) (fun K hK hR => ?_)
  have hK : mj_C (dd + 3) 0 0 RM_c "text" bM_text 4 K := hK
  refine ro_iload_n hK dM_text_0 rfl ?_
  obtain ⟨r_3, s_1, q_2, h⟩ := mb_cl_e h
  refine rb_callS hK mM_isText vM_104 (t_M_isText (dd := dd + 0) q_2) rfl (Nat.le_of_ble_eq_true rfl) dM_text_1 rfl ⟨Nat.le_refl _, Nat.le_refl _⟩ ?_
  show K 0 0 4 [.ref 200, .int x1, .int x2, .retAddr 0] [.int r_3] (mb_s s_1)
  refine ro_if_eq (tgt := 13) hK dM_text_4 (by decide) (fun c_4 => ?_) (fun c_4 => ?_)
  · replace h := mb_ift c_4 h
    refine ro_iconst (x := (-1)) hK (by decide) dM_text_13 ?_
    cases h
    exact hR.1 0 0 14 _ _ _ _ rfl rfl dM_text_14 ⟨rfl, rfl⟩
  · replace h := mb_iff c_4 h
    refine ro_iload_n hK dM_text_7 rfl ?_
    refine ro_bipush (x := 80) hK (by decide) dM_text_8 ?_
    refine ro_icmp_le (tgt := 15) hK dM_text_10 (by decide) (fun c_5 => ?_) (fun c_5 => ?_)
    · replace h := mb_ift c_5 h
      refine ro_iload_n hK dM_text_15 rfl ?_
      refine ro_if_ge (tgt := 25) hK dM_text_16 (by decide) (fun c_6 => ?_) (fun c_6 => ?_)
      · replace h := mb_ift c_6 h
        refine ro_aload_n hK dM_text_25 rfl ?_
        refine rb_get hK fM_22 mb_oM rfl dM_text_26 ?_
        refine ro_iload_n hK dM_text_29 rfl ?_
        refine ro_iload_n hK dM_text_30 rfl ?_
        obtain ⟨s_7, e_8, i_9, h⟩ := mb_wr_e h
        refine rb_iast hK ai_206 i_9 e_8 dM_text_31 ?_
        refine ro_iconst (x := 0) hK (by decide) dM_text_32 ?_
        refine ro_istore_n hK dM_text_33 (by decide) ?_
        show K 0 0 34 [.ref 200, .int x1, .int x2, .int 0] [] (mb_s s_7)
        refine ro_fg (lv' := [.ref 200, .int x1, .int x2, .int 0]) hK ⟨Or.inr rfl, ⟨Or.inr rfl, ⟨Or.inr rfl, ⟨Or.inr rfl, trivial⟩⟩⟩⟩ ?_
        refine tl_M_text_34 (dd := dd) hK hR (fun x_14 s_15 h => ?_) n _ _ h
        refine ro_iload_n hK dM_text_59 rfl ?_
        cases h
        exact hR.1 0 0 60 _ _ _ _ rfl rfl dM_text_60 ⟨rfl, rfl⟩
      · replace h := mb_iff c_6 h
        refine ro_aload_n hK dM_text_19 rfl ?_
        refine ro_iconst (x := 5) hK (by decide) dM_text_20 ?_
        obtain ⟨r_18, s_16, q_17, h⟩ := mb_cl_e h
        refine rb_callV hK mM_meet vM_100 (t_M_meet (dd := dd + 1) q_17) rfl mb_oM rfl (Nat.le_of_ble_eq_true rfl) dM_text_21 rfl ⟨Nat.le_refl _, Nat.le_refl _⟩ ?_
        show K 0 0 24 [.ref 200, .int x1, .int x2, .retAddr 0] [.int r_18] (mb_s s_16)
        cases h
        exact hR.1 0 0 24 _ _ _ _ rfl rfl dM_text_24 ⟨rfl, rfl⟩
    · replace h := mb_iff c_5 h
      refine ro_iconst (x := (-1)) hK (by decide) dM_text_13 ?_
      cases h
      exact hR.1 0 0 14 _ _ _ _ rfl rfl dM_text_14 ⟨rfl, rfl⟩
theorem dM_visit_0 : decode bM_visit 0 = .ok (.iload_n 1, 1) := by decide +kernel
theorem dM_visit_1 : decode bM_visit 1 = .ok (.iconst 1, 1) := by decide +kernel
theorem dM_visit_2 : decode bM_visit 2 = .ok (.bipush 60, 2) := by decide +kernel
theorem dM_visit_4 : decode bM_visit 4 = .ok (.invokestatic 92, 3) := by decide +kernel
theorem dM_visit_7 : decode bM_visit 7 = .ok (.ifCond .eq 14, 3) := by decide +kernel
theorem dM_visit_10 : decode bM_visit 10 = .ok (.iload_n 2, 1) := by decide +kernel
theorem dM_visit_11 : decode bM_visit 11 = .ok (.iconst 1, 1) := by decide +kernel
theorem dM_visit_12 : decode bM_visit 12 = .ok (.ldc_w 309, 3) := by decide +kernel
theorem dM_visit_15 : decode bM_visit 15 = .ok (.invokestatic 92, 3) := by decide +kernel
theorem dM_visit_18 : decode bM_visit 18 = .ok (.ifCond .ne 5, 3) := by decide +kernel
theorem dM_visit_21 : decode bM_visit 21 = .ok (.iconst (-1), 1) := by decide +kernel
theorem dM_visit_22 : decode bM_visit 22 = .ok (.ireturn, 1) := by decide +kernel
theorem dM_visit_23 : decode bM_visit 23 = .ok (.aload_n 0, 1) := by decide +kernel
theorem dM_visit_24 : decode bM_visit 24 = .ok (.getfield 161, 3) := by decide +kernel
theorem dM_visit_27 : decode bM_visit 27 = .ok (.ifCond .ne 6, 3) := by decide +kernel
theorem dM_visit_30 : decode bM_visit 30 = .ok (.bipush (-4), 2) := by decide +kernel
theorem dM_visit_32 : decode bM_visit 32 = .ok (.ireturn, 1) := by decide +kernel
theorem dM_visit_33 : decode bM_visit 33 = .ok (.aload_n 0, 1) := by decide +kernel
theorem dM_visit_34 : decode bM_visit 34 = .ok (.invokevirtual 222, 3) := by decide +kernel
theorem dM_visit_37 : decode bM_visit 37 = .ok (.iload_n 2, 1) := by decide +kernel
theorem dM_visit_38 : decode bM_visit 38 = .ok (.i2l, 1) := by decide +kernel
theorem dM_visit_39 : decode bM_visit 39 = .ok (.lstore_n 3, 1) := by decide +kernel
theorem dM_visit_40 : decode bM_visit 40 = .ok (.iconst 0, 1) := by decide +kernel
theorem dM_visit_41 : decode bM_visit 41 = .ok (.istore 5, 2) := by decide +kernel
theorem dM_visit_43 : decode bM_visit 43 = .ok (.iload 5, 2) := by decide +kernel
theorem dM_visit_45 : decode bM_visit 45 = .ok (.iload_n 1, 1) := by decide +kernel
theorem dM_visit_46 : decode bM_visit 46 = .ok (.if_icmp .ge 38, 3) := by decide +kernel
theorem dM_visit_49 : decode bM_visit 49 = .ok (.aload_n 0, 1) := by decide +kernel
theorem dM_visit_50 : decode bM_visit 50 = .ok (.invokevirtual 206, 3) := by decide +kernel
theorem dM_visit_53 : decode bM_visit 53 = .ok (.ifCond .ne 31, 3) := by decide +kernel
theorem dM_visit_56 : decode bM_visit 56 = .ok (.ldc2_w 310, 3) := by decide +kernel
theorem dM_visit_59 : decode bM_visit 59 = .ok (.lload_n 3, 1) := by decide +kernel
theorem dM_visit_60 : decode bM_visit 60 = .ok (.lmul, 1) := by decide +kernel
theorem dM_visit_61 : decode bM_visit 61 = .ok (.ldc2_w 312, 3) := by decide +kernel
theorem dM_visit_64 : decode bM_visit 64 = .ok (.lrem, 1) := by decide +kernel
theorem dM_visit_65 : decode bM_visit 65 = .ok (.lstore_n 3, 1) := by decide +kernel
theorem dM_visit_66 : decode bM_visit 66 = .ok (.aload_n 0, 1) := by decide +kernel
theorem dM_visit_67 : decode bM_visit 67 = .ok (.lload_n 3, 1) := by decide +kernel
theorem dM_visit_68 : decode bM_visit 68 = .ok (.aload_n 0, 1) := by decide +kernel
theorem dM_visit_69 : decode bM_visit 69 = .ok (.getfield 161, 3) := by decide +kernel
theorem dM_visit_72 : decode bM_visit 72 = .ok (.i2l, 1) := by decide +kernel
theorem dM_visit_73 : decode bM_visit 73 = .ok (.lrem, 1) := by decide +kernel
theorem dM_visit_74 : decode bM_visit 74 = .ok (.l2i, 1) := by decide +kernel
theorem dM_visit_75 : decode bM_visit 75 = .ok (.invokevirtual 202, 3) := by decide +kernel
theorem dM_visit_78 : decode bM_visit 78 = .ok (.iinc 5 1, 3) := by decide +kernel
theorem dM_visit_81 : decode bM_visit 81 = .ok (.goto (-38), 3) := by decide +kernel
theorem dM_visit_84 : decode bM_visit 84 = .ok (.aload_n 0, 1) := by decide +kernel
theorem dM_visit_85 : decode bM_visit 85 = .ok (.getfield 31, 3) := by decide +kernel
theorem dM_visit_88 : decode bM_visit 88 = .ok (.aload_n 0, 1) := by decide +kernel
theorem dM_visit_89 : decode bM_visit 89 = .ok (.invokevirtual 254, 3) := by decide +kernel
theorem dM_visit_92 : decode bM_visit 92 = .ok (.iaload, 1) := by decide +kernel
theorem dM_visit_93 : decode bM_visit 93 = .ok (.istore 6, 2) := by decide +kernel
theorem dM_visit_95 : decode bM_visit 95 = .ok (.aload_n 0, 1) := by decide +kernel
theorem dM_visit_96 : decode bM_visit 96 = .ok (.invokevirtual 228, 3) := by decide +kernel
theorem dM_visit_99 : decode bM_visit 99 = .ok (.aload_n 0, 1) := by decide +kernel
theorem dM_visit_100 : decode bM_visit 100 = .ok (.iload 6, 2) := by decide +kernel
theorem dM_visit_102 : decode bM_visit 102 = .ok (.iload 5, 2) := by decide +kernel
theorem dM_visit_104 : decode bM_visit 104 = .ok (.invokevirtual 118, 3) := by decide +kernel
theorem dM_visit_107 : decode bM_visit 107 = .ok (.ireturn, 1) := by decide +kernel
def f_M_visit_43 (n : Nat) (k0 : Int64 → Int32 → mb_T → Option (Int32 × mb_T)) (y1 : Int32) : Nat → Int64 → Int32 → mb_T → Option (Int32 × mb_T)
  | 0, _, _, _ => none
  | f + 1, w3, w5, s => if y1 ≤ w5 then k0 w3 w5 s else mb_cl (f_M_isOver n s) fun r_15 s_13 => if r_15 = 0 then (mb_dl 2147483647 (mb_dl (Int32.toInt64 (s_13.1 200 8)) (mb_cw (f_M_passMinute n (Int64.toInt32 (((48271 * w3) - (48271 * w3) / 2147483647 * 2147483647) - ((48271 * w3) - (48271 * w3) / 2147483647 * 2147483647) / (Int32.toInt64 (s_13.1 200 8)) * (Int32.toInt64 (s_13.1 200 8)))) s_13) fun s_19 => f_M_visit_43 n k0 y1 f ((48271 * w3) - (48271 * w3) / 2147483647 * 2147483647) (w5 + 1) s_19))) else k0 w3 w5 s_13
def f_M_visit (n : Nat) (x1 : Int32) (x2 : Int32) (s : mb_T) : Option (Int32 × mb_T) := mb_cl (f_M_in n x1 1 60 s) fun r_3 s_1 => if r_3 = 0 then some ((-1), s_1) else mb_cl (f_M_in n x2 1 2147483646 s_1) fun r_7 s_5 => if r_7 = 0 then some ((-1), s_5) else if (s_5.1 200 8) = 0 then some ((-4), s_5) else mb_cw (f_M_putAside n s_5) fun s_10 => f_M_visit_43 n (fun x_21 x_22 s_23 => mb_cl (f_M_greatest n s_23) fun r_26 s_24 => mb_rd s_24 213 10 r_26 fun x_27 => mb_cw (f_M_comeBack n s_24) fun s_30 => mb_cl (f_M_ask n x_27 x_22 s_30) fun r_34 s_32 => some (r_34, s_32)) x1 n (Int32.toInt64 x2) 0 s_10
set_option maxHeartbeats 4000000 in
set_option maxRecDepth 100000 in
theorem tl_M_visit_43 {dd n : Nat} {K : mj_KT} {out : Int32 × mb_T} (hK : mj_C (dd + 3) 0 0 RM_c "visit" bM_visit 7 K) (hR : mj_R bM_visit (some .int) (fun r2 S2 => r2 = some (.int out.1) ∧ S2 = mb_s out.2) K) {k0 : Int64 → Int32 → mb_T → Option (Int32 × mb_T)} {y1 : Int32} (hk0 : ∀ (w3 : Int64) (w5 : Int32) (s : mb_T), k0 w3 w5 s = some out → K 0 0 84 [.ref 200, .int y1, .retAddr 0, .long w3, .retAddr 0, .int w5, .retAddr 0] [] (mb_s s)) : ∀ (f : Nat) (w3 : Int64) (w5 : Int32) (s : mb_T), f_M_visit_43 n k0 y1 f w3 w5 s = some out → K 0 0 43 [.ref 200, .int y1, .retAddr 0, .long w3, .retAddr 0, .int w5, .retAddr 0] [] (mb_s s) := by
  intro f
  induction f with
  | zero =>
    intro w3 w5 s h
    cases h
  | succ f ih =>
    intro w3 w5 s h
    rw [f_M_visit_43] at h
    refine ro_iload hK dM_visit_43 rfl ?_
    refine ro_iload_n hK dM_visit_45 rfl ?_
    refine ro_icmp_ge (tgt := 84) hK dM_visit_46 (by decide) (fun c_12 => ?_) (fun c_12 => ?_)
    · replace h := mb_ift c_12 h
      refine ro_fg (lv' := [.ref 200, .int y1, .retAddr 0, .long w3, .retAddr 0, .int w5, .retAddr 0]) hK ⟨Or.inr rfl, ⟨Or.inr rfl, ⟨Or.inl rfl, ⟨Or.inr rfl, ⟨Or.inl rfl, ⟨Or.inr rfl, ⟨Or.inl rfl, trivial⟩⟩⟩⟩⟩⟩⟩ ?_
      exact hk0 _ _ _ h
    · replace h := mb_iff c_12 h
      refine ro_aload_n hK dM_visit_49 rfl ?_
      obtain ⟨r_15, s_13, q_14, h⟩ := mb_cl_e h
      refine rb_callV hK mM_isOver vM_206 (t_M_isOver (dd := dd + 0) q_14) rfl mb_oM rfl (Nat.le_of_ble_eq_true rfl) dM_visit_50 rfl ⟨Nat.le_refl _, Nat.le_refl _⟩ ?_
      show K 0 0 53 [.ref 200, .int y1, .retAddr 0, .long w3, .retAddr 0, .int w5, .retAddr 0] [.int r_15] (mb_s s_13)
      refine ro_if_ne (tgt := 84) hK dM_visit_53 (by decide) (fun c_16 => ?_) (fun c_16 => ?_)
      · replace h := mb_iff c_16 h
        refine ro_fg (lv' := [.ref 200, .int y1, .retAddr 0, .long w3, .retAddr 0, .int w5, .retAddr 0]) hK ⟨Or.inr rfl, ⟨Or.inr rfl, ⟨Or.inl rfl, ⟨Or.inr rfl, ⟨Or.inl rfl, ⟨Or.inr rfl, ⟨Or.inl rfl, trivial⟩⟩⟩⟩⟩⟩⟩ ?_
        exact hk0 _ _ _ h
      · replace h := mb_ift c_16 h
        refine ro_ldc2 hK cM_310 dM_visit_56 ?_
        refine ro_lload_n hK dM_visit_59 rfl ?_
        refine ro_lmul hK dM_visit_60 ?_
        refine ro_ldc2 hK cM_312 dM_visit_61 ?_
        obtain ⟨z_17, h⟩ := mb_dl_e h
        refine ro_lrem hK dM_visit_64 z_17 ?_
        refine ro_lstore_n hK dM_visit_65 (by decide) ?_
        show K 0 0 66 [.ref 200, .int y1, .retAddr 0, .long ((48271 * w3) - (48271 * w3) / 2147483647 * 2147483647), .retAddr 0, .int w5, .retAddr 0] [] (mb_s s_13)
        refine ro_aload_n hK dM_visit_66 rfl ?_
        refine ro_lload_n hK dM_visit_67 rfl ?_
        refine ro_aload_n hK dM_visit_68 rfl ?_
        refine rb_get hK fM_161 mb_oM rfl dM_visit_69 ?_
        refine ro_i2l hK dM_visit_72 ?_
        obtain ⟨z_18, h⟩ := mb_dl_e h
        refine ro_lrem hK dM_visit_73 z_18 ?_
        refine ro_l2i hK dM_visit_74 ?_
        obtain ⟨s_19, q_20, h⟩ := mb_cw_e h
        refine rb_callV hK mM_passMinute vM_202 (t_M_passMinute (dd := dd + 0) q_20) rfl mb_oM rfl (Nat.le_of_ble_eq_true rfl) dM_visit_75 rfl ⟨Nat.le_refl _, Nat.le_refl _⟩ ?_
        show K 0 0 78 [.ref 200, .int y1, .retAddr 0, .long ((48271 * w3) - (48271 * w3) / 2147483647 * 2147483647), .retAddr 0, .int w5, .retAddr 0] [] (mb_s s_19)
        refine ro_iincv (c := 1) hK (by decide) dM_visit_78 rfl (by decide) ?_
        show K 0 0 81 [.ref 200, .int y1, .retAddr 0, .long ((48271 * w3) - (48271 * w3) / 2147483647 * 2147483647), .retAddr 0, .int (w5 + 1), .retAddr 0] [] (mb_s s_19)
        refine ro_goto (tgt := 43) hK dM_visit_81 (by decide) ?_
        refine ro_fg (lv' := [.ref 200, .int y1, .retAddr 0, .long ((48271 * w3) - (48271 * w3) / 2147483647 * 2147483647), .retAddr 0, .int (w5 + 1), .retAddr 0]) hK ⟨Or.inr rfl, ⟨Or.inr rfl, ⟨Or.inl rfl, ⟨Or.inr rfl, ⟨Or.inl rfl, ⟨Or.inr rfl, ⟨Or.inl rfl, trivial⟩⟩⟩⟩⟩⟩⟩ ?_
        exact ih _ _ _ h
set_option maxHeartbeats 4000000 in
set_option maxRecDepth 100000 in
theorem t_M_visit {dd n : Nat} {x1 : Int32} {x2 : Int32} {s : mb_T} {out : Int32 × mb_T}  (h : f_M_visit n x1 x2 s = some out) : mb_MC (dd + 3) yM_visit bM_visit 7 (some .int) [.ref 200, .int x1, .int x2] s (some (.int out.1)) out.2 := by
  unfold f_M_visit at h
  refine mj_mc (lv := [.ref 200, .int x1, .int x2, .retAddr 0, .retAddr 0, .retAddr 0, .retAddr 0]) mM_visit rfl rfl (Nat.le_of_ble_eq_true rfl) (fun K hK hR => ?_)
  have hK : mj_C (dd + 3) 0 0 RM_c "visit" bM_visit 7 K := hK
  refine ro_iload_n hK dM_visit_0 rfl ?_
  refine ro_iconst (x := 1) hK (by decide) dM_visit_1 ?_
  refine ro_bipush (x := 60) hK (by decide) dM_visit_2 ?_
  obtain ⟨r_3, s_1, q_2, h⟩ := mb_cl_e h
  refine rb_callS hK mM_in vM_92 (t_M_in (dd := dd + 1) q_2) rfl (Nat.le_of_ble_eq_true rfl) dM_visit_4 rfl ⟨Nat.le_refl _, Nat.le_refl _⟩ ?_
  show K 0 0 7 [.ref 200, .int x1, .int x2, .retAddr 0, .retAddr 0, .retAddr 0, .retAddr 0] [.int r_3] (mb_s s_1)
  refine ro_if_eq (tgt := 21) hK dM_visit_7 (by decide) (fun c_4 => ?_) (fun c_4 => ?_)
  · replace h := mb_ift c_4 h
    refine ro_iconst (x := (-1)) hK (by decide) dM_visit_21 ?_
    cases h
    exact hR.1 0 0 22 _ _ _ _ rfl rfl dM_visit_22 ⟨rfl, rfl⟩
  · replace h := mb_iff c_4 h
    refine ro_iload_n hK dM_visit_10 rfl ?_
    refine ro_iconst (x := 1) hK (by decide) dM_visit_11 ?_
    refine ro_ldcw hK cM_309 dM_visit_12 ?_
    obtain ⟨r_7, s_5, q_6, h⟩ := mb_cl_e h
    refine rb_callS hK mM_in vM_92 (t_M_in (dd := dd + 1) q_6) rfl (Nat.le_of_ble_eq_true rfl) dM_visit_15 rfl ⟨Nat.le_refl _, Nat.le_refl _⟩ ?_
    show K 0 0 18 [.ref 200, .int x1, .int x2, .retAddr 0, .retAddr 0, .retAddr 0, .retAddr 0] [.int r_7] (mb_s s_5)
    refine ro_if_ne (tgt := 23) hK dM_visit_18 (by decide) (fun c_8 => ?_) (fun c_8 => ?_)
    · replace h := mb_iff c_8 h
      refine ro_aload_n hK dM_visit_23 rfl ?_
      refine rb_get hK fM_161 mb_oM rfl dM_visit_24 ?_
      refine ro_if_ne (tgt := 33) hK dM_visit_27 (by decide) (fun c_9 => ?_) (fun c_9 => ?_)
      · replace h := mb_iff c_9 h
        refine ro_aload_n hK dM_visit_33 rfl ?_
        obtain ⟨s_10, q_11, h⟩ := mb_cw_e h
        refine rb_callV hK mM_putAside vM_222 (t_M_putAside (dd := dd + 1) q_11) rfl mb_oM rfl (Nat.le_of_ble_eq_true rfl) dM_visit_34 rfl ⟨Nat.le_refl _, Nat.le_refl _⟩ ?_
        show K 0 0 37 [.ref 200, .int x1, .int x2, .retAddr 0, .retAddr 0, .retAddr 0, .retAddr 0] [] (mb_s s_10)
        refine ro_iload_n hK dM_visit_37 rfl ?_
        refine ro_i2l hK dM_visit_38 ?_
        refine ro_lstore_n hK dM_visit_39 (by decide) ?_
        show K 0 0 40 [.ref 200, .int x1, .int x2, .long (Int32.toInt64 x2), .retAddr 0, .retAddr 0, .retAddr 0] [] (mb_s s_10)
        refine ro_iconst (x := 0) hK (by decide) dM_visit_40 ?_
        refine ro_istore hK dM_visit_41 (by decide) ?_
        show K 0 0 43 [.ref 200, .int x1, .int x2, .long (Int32.toInt64 x2), .retAddr 0, .int 0, .retAddr 0] [] (mb_s s_10)
        refine ro_fg (lv' := [.ref 200, .int x1, .retAddr 0, .long (Int32.toInt64 x2), .retAddr 0, .int 0, .retAddr 0]) hK ⟨Or.inr rfl, ⟨Or.inr rfl, ⟨Or.inl rfl, ⟨Or.inr rfl, ⟨Or.inl rfl, ⟨Or.inr rfl, ⟨Or.inl rfl, trivial⟩⟩⟩⟩⟩⟩⟩ ?_
        refine tl_M_visit_43 (dd := dd) hK hR (fun x_21 x_22 s_23 h => ?_) n _ _ _ h
        refine ro_aload_n hK dM_visit_84 rfl ?_
        refine rb_get hK fM_31 mb_oM rfl dM_visit_85 ?_
        refine ro_aload_n hK dM_visit_88 rfl ?_
        obtain ⟨r_26, s_24, q_25, h⟩ := mb_cl_e h
        refine rb_callV hK mM_greatest vM_254 (t_M_greatest (dd := dd + 1) q_25) rfl mb_oM rfl (Nat.le_of_ble_eq_true rfl) dM_visit_89 rfl ⟨Nat.le_refl _, Nat.le_refl _⟩ ?_
        show K 0 0 92 [.ref 200, .int x1, .retAddr 0, .long x_21, .retAddr 0, .int x_22, .retAddr 0] [.int r_26, .ref 213] (mb_s s_24)
        obtain ⟨x_27, e_28, i_29, h⟩ := mb_rd_e h
        refine rb_iald hK ai_213 i_29 e_28 dM_visit_92 ?_
        refine ro_istore hK dM_visit_93 (by decide) ?_
        show K 0 0 95 [.ref 200, .int x1, .retAddr 0, .long x_21, .retAddr 0, .int x_22, .int x_27] [] (mb_s s_24)
        refine ro_aload_n hK dM_visit_95 rfl ?_
        obtain ⟨s_30, q_31, h⟩ := mb_cw_e h
        refine rb_callV hK mM_comeBack vM_228 (t_M_comeBack (dd := dd + 1) q_31) rfl mb_oM rfl (Nat.le_of_ble_eq_true rfl) dM_visit_96 rfl ⟨Nat.le_refl _, Nat.le_refl _⟩ ?_
        show K 0 0 99 [.ref 200, .int x1, .retAddr 0, .long x_21, .retAddr 0, .int x_22, .int x_27] [] (mb_s s_30)
        refine ro_aload_n hK dM_visit_99 rfl ?_
        refine ro_iload hK dM_visit_100 rfl ?_
        refine ro_iload hK dM_visit_102 rfl ?_
        obtain ⟨r_34, s_32, q_33, h⟩ := mb_cl_e h
        refine rb_callV hK mM_ask vM_118 (t_M_ask (dd := dd + 1) q_33) rfl mb_oM rfl (Nat.le_of_ble_eq_true rfl) dM_visit_104 rfl ⟨Nat.le_refl _, Nat.le_refl _⟩ ?_
        show K 0 0 107 [.ref 200, .int x1, .retAddr 0, .long x_21, .retAddr 0, .int x_22, .int x_27] [.int r_34] (mb_s s_32)
        cases h
        exact hR.1 0 0 107 _ _ _ _ rfl rfl dM_visit_107 ⟨rfl, rfl⟩
      · replace h := mb_ift c_9 h
        refine ro_bipush (x := (-4)) hK (by decide) dM_visit_30 ?_
        cases h
        exact hR.1 0 0 32 _ _ _ _ rfl rfl dM_visit_32 ⟨rfl, rfl⟩
    · replace h := mb_ift c_8 h
      refine ro_iconst (x := (-1)) hK (by decide) dM_visit_21 ?_
      cases h
      exact hR.1 0 0 22 _ _ _ _ rfl rfl dM_visit_22 ⟨rfl, rfl⟩
theorem dC_at_0 : decode bC_at 0 = .ok (.aload_n 0, 1) := by decide +kernel
theorem dC_at_1 : decode bC_at 1 = .ok (.iload_n 1, 1) := by decide +kernel
theorem dC_at_2 : decode bC_at 2 = .ok (.iload_n 2, 1) := by decide +kernel
theorem dC_at_3 : decode bC_at 3 = .ok (.invokevirtual 91, 3) := by decide +kernel
theorem dC_at_6 : decode bC_at 6 = .ok (.istore_n 3, 1) := by decide +kernel
theorem dC_at_7 : decode bC_at 7 = .ok (.iload_n 3, 1) := by decide +kernel
theorem dC_at_8 : decode bC_at 8 = .ok (.ifCond .eq 5, 3) := by decide +kernel
theorem dC_at_11 : decode bC_at 11 = .ok (.iload_n 3, 1) := by decide +kernel
theorem dC_at_12 : decode bC_at 12 = .ok (.ireturn, 1) := by decide +kernel
theorem dC_at_13 : decode bC_at 13 = .ok (.aload_n 0, 1) := by decide +kernel
theorem dC_at_14 : decode bC_at 14 = .ok (.aload_n 0, 1) := by decide +kernel
theorem dC_at_15 : decode bC_at 15 = .ok (.getfield 11, 3) := by decide +kernel
theorem dC_at_18 : decode bC_at 18 = .ok (.iload_n 1, 1) := by decide +kernel
theorem dC_at_19 : decode bC_at 19 = .ok (.aaload, 1) := by decide +kernel
theorem dC_at_20 : decode bC_at 20 = .ok (.iload_n 2, 1) := by decide +kernel
theorem dC_at_21 : decode bC_at 21 = .ok (.iaload, 1) := by decide +kernel
theorem dC_at_22 : decode bC_at 22 = .ok (.putfield 74, 3) := by decide +kernel
theorem dC_at_25 : decode bC_at 25 = .ok (.iconst 1, 1) := by decide +kernel
theorem dC_at_26 : decode bC_at 26 = .ok (.ireturn, 1) := by decide +kernel
def f_C_at (n : Nat) (x1 : Int32) (x2 : Int32) (s : mb_T) : Option (Int32 × mb_T) := mb_cl (f_C_placeRefusal n x1 x2 s) fun r_3 s_1 => if r_3 = 0 then (mb_ix x1 6 (mb_rd s_1 (20 + x1.toNatClampNeg) 60 x2 fun x_6 => mb_bd (sF s_1 0 14 x_6) fun s_9 => some (1, s_9))) else some (r_3, s_1)
set_option maxHeartbeats 4000000 in
set_option maxRecDepth 100000 in
theorem t_C_at {dd n : Nat} {x1 : Int32} {x2 : Int32} {s : mb_T} {out : Int32 × mb_T}  (h : f_C_at n x1 x2 s = some out) : mb_MC (dd + 4) yC_at bC_at 4 (some .int) [.ref 0, .int x1, .int x2] s (some (.int out.1)) out.2 := by
  unfold f_C_at at h
  refine mj_mc (lv := [.ref 0, .int x1, .int x2, .retAddr 0]) mC_at rfl rfl (Nat.le_of_ble_eq_true rfl) (fun K hK hR => ?_)
  have hK : mj_C (dd + 4) 0 0 RC_c "at" bC_at 4 K := hK
  refine ro_aload_n hK dC_at_0 rfl ?_
  refine ro_iload_n hK dC_at_1 rfl ?_
  refine ro_iload_n hK dC_at_2 rfl ?_
  obtain ⟨r_3, s_1, q_2, h⟩ := mb_cl_e h
  refine rb_callV hK mC_placeRefusal vC_91 (t_C_placeRefusal (dd := dd + 0) q_2) rfl mb_oC rfl (Nat.le_of_ble_eq_true rfl) dC_at_3 rfl ⟨Nat.le_refl _, Nat.le_refl _⟩ ?_
  show K 0 0 6 [.ref 0, .int x1, .int x2, .retAddr 0] [.int r_3] (mb_s s_1)
  refine ro_istore_n hK dC_at_6 (by decide) ?_
  show K 0 0 7 [.ref 0, .int x1, .int x2, .int r_3] [] (mb_s s_1)
  refine ro_iload_n hK dC_at_7 rfl ?_
  refine ro_if_eq (tgt := 13) hK dC_at_8 (by decide) (fun c_4 => ?_) (fun c_4 => ?_)
  · replace h := mb_ift c_4 h
    refine ro_aload_n hK dC_at_13 rfl ?_
    refine ro_aload_n hK dC_at_14 rfl ?_
    refine rb_get hK fC_11 mb_oC rfl dC_at_15 ?_
    refine ro_iload_n hK dC_at_18 rfl ?_
    obtain ⟨i_5, h⟩ := mb_ix_e h
    refine rb_rows hK i_5 dC_at_19 ?_
    refine ro_iload_n hK dC_at_20 rfl ?_
    obtain ⟨x_6, e_7, i_8, h⟩ := mb_rd_e h
    refine rb_iald hK (mb_rw i_5) i_8 e_7 dC_at_21 ?_
    obtain ⟨s_9, e_10, h⟩ := mb_bd_e h
    refine rb_put hK gC_74 mb_oC rfl (by show 14 < 15; decide) rfl rfl e_10 dC_at_22 ?_
    refine ro_iconst (x := 1) hK (by decide) dC_at_25 ?_
    cases h
    exact hR.1 0 0 26 _ _ _ _ rfl rfl dC_at_26 ⟨rfl, rfl⟩
  · replace h := mb_iff c_4 h
    refine ro_iload_n hK dC_at_11 rfl ?_
    cases h
    exact hR.1 0 0 12 _ _ _ _ rfl rfl dC_at_12 ⟨rfl, rfl⟩
