theorem dM_askedText_0 : decode bM_askedText 0 = .ok (.iload_n 1, 1) := by decide +kernel
theorem dM_askedText_1 : decode bM_askedText 1 = .ok (.invokestatic 104, 3) := by decide +kernel
theorem dM_askedText_4 : decode bM_askedText 4 = .ok (.ifCond .ne 7, 3) := by decide +kernel
theorem dM_askedText_7 : decode bM_askedText 7 = .ok (.iconst (-1), 1) := by decide +kernel
theorem dM_askedText_8 : decode bM_askedText 8 = .ok (.goto 21, 3) := by decide +kernel
theorem dM_askedText_11 : decode bM_askedText 11 = .ok (.aload_n 0, 1) := by decide +kernel
theorem dM_askedText_12 : decode bM_askedText 12 = .ok (.getfield 22, 3) := by decide +kernel
theorem dM_askedText_15 : decode bM_askedText 15 = .ok (.iload_n 1, 1) := by decide +kernel
theorem dM_askedText_16 : decode bM_askedText 16 = .ok (.iaload, 1) := by decide +kernel
theorem dM_askedText_17 : decode bM_askedText 17 = .ok (.ifCond .ge 11, 3) := by decide +kernel
theorem dM_askedText_20 : decode bM_askedText 20 = .ok (.aload_n 0, 1) := by decide +kernel
theorem dM_askedText_21 : decode bM_askedText 21 = .ok (.iconst 1, 1) := by decide +kernel
theorem dM_askedText_22 : decode bM_askedText 22 = .ok (.invokevirtual 100, 3) := by decide +kernel
theorem dM_askedText_25 : decode bM_askedText 25 = .ok (.goto 4, 3) := by decide +kernel
theorem dM_askedText_28 : decode bM_askedText 28 = .ok (.iconst 0, 1) := by decide +kernel
theorem dM_askedText_29 : decode bM_askedText 29 = .ok (.ireturn, 1) := by decide +kernel
def f_M_askedText (n : Nat) (x1 : Int32) (s : mb_T) : Option (Int32 × mb_T) := mb_cl (f_M_isText n x1 s) fun r_3 s_1 => if r_3 = 0 then some ((-1), s_1) else mb_rd s_1 206 4 x1 fun x_5 => if 0 ≤ x_5 then some (0, s_1) else mb_cl (f_M_meet n 1 s_1) fun r_11 s_9 => some (r_11, s_9)
set_option maxHeartbeats 4000000 in
set_option maxRecDepth 100000 in
theorem t_M_askedText {dd n : Nat} {x1 : Int32} {s : mb_T} {out : Int32 × mb_T}  (h : f_M_askedText n x1 s = some out) : mb_MC (dd + 3) yM_askedText bM_askedText 2 (some .int) [.ref 200, .int x1] s (some (.int out.1)) out.2 := by
  unfold f_M_askedText at h
  refine mj_mc (lv := [.ref 200, .int x1]) mM_askedText rfl rfl (Nat.le_of_ble_eq_true rfl) (fun K hK hR => ?_)
  have hK : mj_C (dd + 3) 0 0 RM_c "askedText" bM_askedText 2 K := hK
  refine ro_iload_n hK dM_askedText_0 rfl ?_
  obtain ⟨r_3, s_1, q_2, h⟩ := mb_cl_e h
  refine rb_callS hK mM_isText vM_104 (t_M_isText (dd := dd + 0) q_2) rfl (Nat.le_of_ble_eq_true rfl) dM_askedText_1 rfl ⟨Nat.le_refl _, Nat.le_refl _⟩ ?_
  show K 0 0 4 [.ref 200, .int x1] [.int r_3] (mb_s s_1)
  refine ro_if_ne (tgt := 11) hK dM_askedText_4 (by decide) (fun c_4 => ?_) (fun c_4 => ?_)
  · replace h := mb_iff c_4 h
    refine ro_aload_n hK dM_askedText_11 rfl ?_
    refine rb_get hK fM_22 mb_oM rfl dM_askedText_12 ?_
    refine ro_iload_n hK dM_askedText_15 rfl ?_
    obtain ⟨x_5, e_6, i_7, h⟩ := mb_rd_e h
    refine rb_iald hK ai_206 i_7 e_6 dM_askedText_16 ?_
    refine ro_if_ge (tgt := 28) hK dM_askedText_17 (by decide) (fun c_8 => ?_) (fun c_8 => ?_)
    · replace h := mb_ift c_8 h
      refine ro_iconst (x := 0) hK (by decide) dM_askedText_28 ?_
      cases h
      exact hR.1 0 0 29 _ _ _ _ rfl rfl dM_askedText_29 ⟨rfl, rfl⟩
    · replace h := mb_iff c_8 h
      refine ro_aload_n hK dM_askedText_20 rfl ?_
      refine ro_iconst (x := 1) hK (by decide) dM_askedText_21 ?_
      obtain ⟨r_11, s_9, q_10, h⟩ := mb_cl_e h
      refine rb_callV hK mM_meet vM_100 (t_M_meet (dd := dd + 1) q_10) rfl mb_oM rfl (Nat.le_of_ble_eq_true rfl) dM_askedText_22 rfl ⟨Nat.le_refl _, Nat.le_refl _⟩ ?_
      show K 0 0 25 [.ref 200, .int x1] [.int r_11] (mb_s s_9)
      refine ro_goto (tgt := 29) hK dM_askedText_25 (by decide) ?_
      cases h
      exact hR.1 0 0 29 _ _ _ _ rfl rfl dM_askedText_29 ⟨rfl, rfl⟩
  · replace h := mb_ift c_4 h
    refine ro_iconst (x := (-1)) hK (by decide) dM_askedText_7 ?_
    refine ro_goto (tgt := 29) hK dM_askedText_8 (by decide) ?_
    cases h
    exact hR.1 0 0 29 _ _ _ _ rfl rfl dM_askedText_29 ⟨rfl, rfl⟩
theorem dM_copy_0 : decode bM_copy 0 = .ok (.iload_n 1, 1) := by decide +kernel
theorem dM_copy_1 : decode bM_copy 1 = .ok (.invokestatic 96, 3) := by decide +kernel
theorem dM_copy_4 : decode bM_copy 4 = .ok (.ifCond .eq 10, 3) := by decide +kernel
theorem dM_copy_7 : decode bM_copy 7 = .ok (.iload_n 3, 1) := by decide +kernel
theorem dM_copy_8 : decode bM_copy 8 = .ok (.invokestatic 96, 3) := by decide +kernel
theorem dM_copy_11 : decode bM_copy 11 = .ok (.ifCond .ne 5, 3) := by decide +kernel
theorem dM_copy_14 : decode bM_copy 14 = .ok (.iconst (-1), 1) := by decide +kernel
theorem dM_copy_15 : decode bM_copy 15 = .ok (.ireturn, 1) := by decide +kernel
theorem dM_copy_16 : decode bM_copy 16 = .ok (.iload 5, 2) := by decide +kernel
theorem dM_copy_18 : decode bM_copy 18 = .ok (.ifCond .ge 9, 3) := by decide +kernel
theorem dM_copy_21 : decode bM_copy 21 = .ok (.aload_n 0, 1) := by decide +kernel
theorem dM_copy_22 : decode bM_copy 22 = .ok (.iconst 5, 1) := by decide +kernel
theorem dM_copy_23 : decode bM_copy 23 = .ok (.invokevirtual 100, 3) := by decide +kernel
theorem dM_copy_26 : decode bM_copy 26 = .ok (.ireturn, 1) := by decide +kernel
theorem dM_copy_27 : decode bM_copy 27 = .ok (.aload_n 0, 1) := by decide +kernel
theorem dM_copy_28 : decode bM_copy 28 = .ok (.getfield 13, 3) := by decide +kernel
theorem dM_copy_31 : decode bM_copy 31 = .ok (.iload_n 1, 1) := by decide +kernel
theorem dM_copy_32 : decode bM_copy 32 = .ok (.iaload, 1) := by decide +kernel
theorem dM_copy_33 : decode bM_copy 33 = .ok (.ifCond .lt 12, 3) := by decide +kernel
theorem dM_copy_36 : decode bM_copy 36 = .ok (.aload_n 0, 1) := by decide +kernel
theorem dM_copy_37 : decode bM_copy 37 = .ok (.getfield 13, 3) := by decide +kernel
theorem dM_copy_40 : decode bM_copy 40 = .ok (.iload_n 3, 1) := by decide +kernel
theorem dM_copy_41 : decode bM_copy 41 = .ok (.iaload, 1) := by decide +kernel
theorem dM_copy_42 : decode bM_copy 42 = .ok (.ifCond .ge 9, 3) := by decide +kernel
theorem dM_copy_45 : decode bM_copy 45 = .ok (.aload_n 0, 1) := by decide +kernel
theorem dM_copy_46 : decode bM_copy 46 = .ok (.iconst 1, 1) := by decide +kernel
theorem dM_copy_47 : decode bM_copy 47 = .ok (.invokevirtual 100, 3) := by decide +kernel
theorem dM_copy_50 : decode bM_copy 50 = .ok (.ireturn, 1) := by decide +kernel
theorem dM_copy_51 : decode bM_copy 51 = .ok (.iload_n 2, 1) := by decide +kernel
theorem dM_copy_52 : decode bM_copy 52 = .ok (.ifCond .lt 43, 3) := by decide +kernel
theorem dM_copy_55 : decode bM_copy 55 = .ok (.iload 4, 2) := by decide +kernel
theorem dM_copy_57 : decode bM_copy 57 = .ok (.ifCond .lt 38, 3) := by decide +kernel
theorem dM_copy_60 : decode bM_copy 60 = .ok (.iload_n 2, 1) := by decide +kernel
theorem dM_copy_61 : decode bM_copy 61 = .ok (.i2l, 1) := by decide +kernel
theorem dM_copy_62 : decode bM_copy 62 = .ok (.iload 5, 2) := by decide +kernel
theorem dM_copy_64 : decode bM_copy 64 = .ok (.i2l, 1) := by decide +kernel
theorem dM_copy_65 : decode bM_copy 65 = .ok (.ladd, 1) := by decide +kernel
theorem dM_copy_66 : decode bM_copy 66 = .ok (.aload_n 0, 1) := by decide +kernel
theorem dM_copy_67 : decode bM_copy 67 = .ok (.getfield 13, 3) := by decide +kernel
theorem dM_copy_70 : decode bM_copy 70 = .ok (.iload_n 1, 1) := by decide +kernel
theorem dM_copy_71 : decode bM_copy 71 = .ok (.iaload, 1) := by decide +kernel
theorem dM_copy_72 : decode bM_copy 72 = .ok (.i2l, 1) := by decide +kernel
theorem dM_copy_73 : decode bM_copy 73 = .ok (.lcmp, 1) := by decide +kernel
theorem dM_copy_74 : decode bM_copy 74 = .ok (.ifCond .gt 21, 3) := by decide +kernel
theorem dM_copy_77 : decode bM_copy 77 = .ok (.iload 4, 2) := by decide +kernel
theorem dM_copy_79 : decode bM_copy 79 = .ok (.i2l, 1) := by decide +kernel
theorem dM_copy_80 : decode bM_copy 80 = .ok (.iload 5, 2) := by decide +kernel
theorem dM_copy_82 : decode bM_copy 82 = .ok (.i2l, 1) := by decide +kernel
theorem dM_copy_83 : decode bM_copy 83 = .ok (.ladd, 1) := by decide +kernel
theorem dM_copy_84 : decode bM_copy 84 = .ok (.aload_n 0, 1) := by decide +kernel
theorem dM_copy_85 : decode bM_copy 85 = .ok (.getfield 13, 3) := by decide +kernel
theorem dM_copy_88 : decode bM_copy 88 = .ok (.iload_n 3, 1) := by decide +kernel
theorem dM_copy_89 : decode bM_copy 89 = .ok (.iaload, 1) := by decide +kernel
theorem dM_copy_90 : decode bM_copy 90 = .ok (.i2l, 1) := by decide +kernel
theorem dM_copy_91 : decode bM_copy 91 = .ok (.lcmp, 1) := by decide +kernel
theorem dM_copy_92 : decode bM_copy 92 = .ok (.ifCond .le 9, 3) := by decide +kernel
theorem dM_copy_95 : decode bM_copy 95 = .ok (.aload_n 0, 1) := by decide +kernel
theorem dM_copy_96 : decode bM_copy 96 = .ok (.iconst 2, 1) := by decide +kernel
theorem dM_copy_97 : decode bM_copy 97 = .ok (.invokevirtual 100, 3) := by decide +kernel
theorem dM_copy_100 : decode bM_copy 100 = .ok (.ireturn, 1) := by decide +kernel
theorem dM_copy_101 : decode bM_copy 101 = .ok (.iconst 0, 1) := by decide +kernel
theorem dM_copy_102 : decode bM_copy 102 = .ok (.istore 6, 2) := by decide +kernel
theorem dM_copy_104 : decode bM_copy 104 = .ok (.iload 6, 2) := by decide +kernel
theorem dM_copy_106 : decode bM_copy 106 = .ok (.iload 5, 2) := by decide +kernel
theorem dM_copy_108 : decode bM_copy 108 = .ok (.if_icmp .ge 25, 3) := by decide +kernel
theorem dM_copy_111 : decode bM_copy 111 = .ok (.aload_n 0, 1) := by decide +kernel
theorem dM_copy_112 : decode bM_copy 112 = .ok (.getfield 19, 3) := by decide +kernel
theorem dM_copy_115 : decode bM_copy 115 = .ok (.iload 6, 2) := by decide +kernel
theorem dM_copy_117 : decode bM_copy 117 = .ok (.aload_n 0, 1) := by decide +kernel
theorem dM_copy_118 : decode bM_copy 118 = .ok (.iload_n 1, 1) := by decide +kernel
theorem dM_copy_119 : decode bM_copy 119 = .ok (.iload_n 2, 1) := by decide +kernel
theorem dM_copy_120 : decode bM_copy 120 = .ok (.iload 6, 2) := by decide +kernel
theorem dM_copy_122 : decode bM_copy 122 = .ok (.iadd, 1) := by decide +kernel
theorem dM_copy_123 : decode bM_copy 123 = .ok (.invokevirtual 114, 3) := by decide +kernel
theorem dM_copy_126 : decode bM_copy 126 = .ok (.iastore, 1) := by decide +kernel
theorem dM_copy_127 : decode bM_copy 127 = .ok (.iinc 6 1, 3) := by decide +kernel
theorem dM_copy_130 : decode bM_copy 130 = .ok (.goto (-26), 3) := by decide +kernel
theorem dM_copy_133 : decode bM_copy 133 = .ok (.iconst 0, 1) := by decide +kernel
theorem dM_copy_134 : decode bM_copy 134 = .ok (.istore 6, 2) := by decide +kernel
theorem dM_copy_136 : decode bM_copy 136 = .ok (.iload 6, 2) := by decide +kernel
theorem dM_copy_138 : decode bM_copy 138 = .ok (.iload 5, 2) := by decide +kernel
theorem dM_copy_140 : decode bM_copy 140 = .ok (.if_icmp .ge 26, 3) := by decide +kernel
theorem dM_copy_143 : decode bM_copy 143 = .ok (.aload_n 0, 1) := by decide +kernel
theorem dM_copy_144 : decode bM_copy 144 = .ok (.iload_n 3, 1) := by decide +kernel
theorem dM_copy_145 : decode bM_copy 145 = .ok (.iload 4, 2) := by decide +kernel
theorem dM_copy_147 : decode bM_copy 147 = .ok (.iload 6, 2) := by decide +kernel
theorem dM_copy_149 : decode bM_copy 149 = .ok (.iadd, 1) := by decide +kernel
theorem dM_copy_150 : decode bM_copy 150 = .ok (.aload_n 0, 1) := by decide +kernel
theorem dM_copy_151 : decode bM_copy 151 = .ok (.getfield 19, 3) := by decide +kernel
theorem dM_copy_154 : decode bM_copy 154 = .ok (.iload 6, 2) := by decide +kernel
theorem dM_copy_156 : decode bM_copy 156 = .ok (.iaload, 1) := by decide +kernel
theorem dM_copy_157 : decode bM_copy 157 = .ok (.invokevirtual 107, 3) := by decide +kernel
theorem dM_copy_160 : decode bM_copy 160 = .ok (.iinc 6 1, 3) := by decide +kernel
theorem dM_copy_163 : decode bM_copy 163 = .ok (.goto (-27), 3) := by decide +kernel
theorem dM_copy_166 : decode bM_copy 166 = .ok (.iconst 1, 1) := by decide +kernel
theorem dM_copy_167 : decode bM_copy 167 = .ok (.ireturn, 1) := by decide +kernel
def f_M_copy_104 (n : Nat) (k0 : Int32 → mb_T → Option (Int32 × mb_T)) (y1 : Int32) (y2 : Int32) (y3 : Int32) (y4 : Int32) (y5 : Int32) : Nat → Int32 → mb_T → Option (Int32 × mb_T)
  | 0, _, _ => none
  | f + 1, w6, s => if y5 ≤ w6 then k0 w6 s else mb_cl (f_M_rowAt n y1 (y2 + w6) s) fun r_33 s_31 => mb_wr s_31 205 60 w6 r_33 fun s_34 => f_M_copy_104 n k0 y1 y2 y3 y4 y5 f (w6 + 1) s_34
def f_M_copy_136 (n : Nat) (k0 : Int32 → mb_T → Option (Int32 × mb_T)) (y3 : Int32) (y4 : Int32) (y5 : Int32) : Nat → Int32 → mb_T → Option (Int32 × mb_T)
  | 0, _, _ => none
  | f + 1, w6, s => if y5 ≤ w6 then k0 w6 s else mb_rd s 205 60 w6 fun x_40 => mb_cw (f_M_setRow n y3 (y4 + w6) x_40 s) fun s_43 => f_M_copy_136 n k0 y3 y4 y5 f (w6 + 1) s_43
def f_M_copy (n : Nat) (x1 : Int32) (x2 : Int32) (x3 : Int32) (x4 : Int32) (x5 : Int32) (s : mb_T) : Option (Int32 × mb_T) := mb_cl (f_M_isRow n x1 s) fun r_3 s_1 => if r_3 = 0 then some ((-1), s_1) else mb_cl (f_M_isRow n x3 s_1) fun r_7 s_5 => if r_7 = 0 then some ((-1), s_5) else if 0 ≤ x5 then (mb_rd s_5 203 6 x1 fun x_10 => mb_jn (fun (s_52 : mb_T) => mb_cl (f_M_meet n 1 s_52) fun r_55 s_53 => some (r_55, s_53)) fun j_13 => if x_10 < 0 then j_13 s_5 else mb_rd s_5 203 6 x3 fun x_15 => if 0 ≤ x_15 then (mb_jn (fun (s_47 : mb_T) => mb_cl (f_M_meet n 2 s_47) fun r_50 s_48 => some (r_50, s_48)) fun j_19 => if x2 < 0 then j_19 s_5 else if x4 < 0 then j_19 s_5 else mb_rd s_5 203 6 x1 fun x_22 => if 0 < (lg_cmp ((Int32.toInt64 x2) + (Int32.toInt64 x5)) (Int32.toInt64 x_22)) then j_19 s_5 else mb_rd s_5 203 6 x3 fun x_26 => if (lg_cmp ((Int32.toInt64 x4) + (Int32.toInt64 x5)) (Int32.toInt64 x_26)) ≤ 0 then f_M_copy_104 n (fun x_37 s_38 => f_M_copy_136 n (fun x_45 s_46 => some (1, s_46)) x3 x4 x5 n 0 s_38) x1 x2 x3 x4 x5 n 0 s_5 else j_19 s_5) else j_13 s_5) else mb_cl (f_M_meet n 5 s_5) fun r_59 s_57 => some (r_59, s_57)
set_option maxHeartbeats 4000000 in
set_option maxRecDepth 100000 in
theorem tl_M_copy_104 {dd n : Nat} {K : mj_KT} {out : Int32 × mb_T} (hK : mj_C (dd + 3) 0 0 RM_c "copy" bM_copy 7 K) (hR : mj_R bM_copy (some .int) (fun r2 S2 => r2 = some (.int out.1) ∧ S2 = mb_s out.2) K) {k0 : Int32 → mb_T → Option (Int32 × mb_T)} {y1 : Int32} {y2 : Int32} {y3 : Int32} {y4 : Int32} {y5 : Int32} (hk0 : ∀ (w6 : Int32) (s : mb_T), k0 w6 s = some out → K 0 0 133 [.ref 200, .int y1, .int y2, .int y3, .int y4, .int y5, .int w6] [] (mb_s s)) : ∀ (f : Nat) (w6 : Int32) (s : mb_T), f_M_copy_104 n k0 y1 y2 y3 y4 y5 f w6 s = some out → K 0 0 104 [.ref 200, .int y1, .int y2, .int y3, .int y4, .int y5, .int w6] [] (mb_s s) := by
  intro f
  induction f with
  | zero =>
    intro w6 s h
    cases h
  | succ f ih =>
    intro w6 s h
    rw [f_M_copy_104] at h
    refine ro_iload hK dM_copy_104 rfl ?_
    refine ro_iload hK dM_copy_106 rfl ?_
    refine ro_icmp_ge (tgt := 133) hK dM_copy_108 (by decide) (fun c_30 => ?_) (fun c_30 => ?_)
    · replace h := mb_ift c_30 h
      refine ro_fg (lv' := [.ref 200, .int y1, .int y2, .int y3, .int y4, .int y5, .int w6]) hK ⟨Or.inr rfl, ⟨Or.inr rfl, ⟨Or.inr rfl, ⟨Or.inr rfl, ⟨Or.inr rfl, ⟨Or.inr rfl, ⟨Or.inr rfl, trivial⟩⟩⟩⟩⟩⟩⟩ ?_
      exact hk0 _ _ h
    · replace h := mb_iff c_30 h
      refine ro_aload_n hK dM_copy_111 rfl ?_
      refine rb_get hK fM_19 mb_oM rfl dM_copy_112 ?_
      refine ro_iload hK dM_copy_115 rfl ?_
      refine ro_aload_n hK dM_copy_117 rfl ?_
      refine ro_iload_n hK dM_copy_118 rfl ?_
      refine ro_iload_n hK dM_copy_119 rfl ?_
      refine ro_iload hK dM_copy_120 rfl ?_
      refine ro_iadd hK dM_copy_122 ?_
      obtain ⟨r_33, s_31, q_32, h⟩ := mb_cl_e h
      refine rb_callV hK mM_rowAt vM_114 (t_M_rowAt (dd := dd + 1) q_32) rfl mb_oM rfl (Nat.le_of_ble_eq_true rfl) dM_copy_123 rfl ⟨Nat.le_refl _, Nat.le_refl _⟩ ?_
      show K 0 0 126 [.ref 200, .int y1, .int y2, .int y3, .int y4, .int y5, .int w6] [.int r_33, .int w6, .ref 205] (mb_s s_31)
      obtain ⟨s_34, e_35, i_36, h⟩ := mb_wr_e h
      refine rb_iast hK ai_205 i_36 e_35 dM_copy_126 ?_
      refine ro_iincv (c := 1) hK (by decide) dM_copy_127 rfl (by decide) ?_
      show K 0 0 130 [.ref 200, .int y1, .int y2, .int y3, .int y4, .int y5, .int (w6 + 1)] [] (mb_s s_34)
      refine ro_goto (tgt := 104) hK dM_copy_130 (by decide) ?_
      refine ro_fg (lv' := [.ref 200, .int y1, .int y2, .int y3, .int y4, .int y5, .int (w6 + 1)]) hK ⟨Or.inr rfl, ⟨Or.inr rfl, ⟨Or.inr rfl, ⟨Or.inr rfl, ⟨Or.inr rfl, ⟨Or.inr rfl, ⟨Or.inr rfl, trivial⟩⟩⟩⟩⟩⟩⟩ ?_
      exact ih _ _ h
set_option maxHeartbeats 4000000 in
set_option maxRecDepth 100000 in
theorem tl_M_copy_136 {dd n : Nat} {K : mj_KT} {out : Int32 × mb_T} (hK : mj_C (dd + 3) 0 0 RM_c "copy" bM_copy 7 K) (hR : mj_R bM_copy (some .int) (fun r2 S2 => r2 = some (.int out.1) ∧ S2 = mb_s out.2) K) {k0 : Int32 → mb_T → Option (Int32 × mb_T)} {y3 : Int32} {y4 : Int32} {y5 : Int32} (hk0 : ∀ (w6 : Int32) (s : mb_T), k0 w6 s = some out → K 0 0 166 [.ref 200, .retAddr 0, .retAddr 0, .int y3, .int y4, .int y5, .int w6] [] (mb_s s)) : ∀ (f : Nat) (w6 : Int32) (s : mb_T), f_M_copy_136 n k0 y3 y4 y5 f w6 s = some out → K 0 0 136 [.ref 200, .retAddr 0, .retAddr 0, .int y3, .int y4, .int y5, .int w6] [] (mb_s s) := by
  intro f
  induction f with
  | zero =>
    intro w6 s h
    cases h
  | succ f ih =>
    intro w6 s h
    rw [f_M_copy_136] at h
    refine ro_iload hK dM_copy_136 rfl ?_
    refine ro_iload hK dM_copy_138 rfl ?_
    refine ro_icmp_ge (tgt := 166) hK dM_copy_140 (by decide) (fun c_39 => ?_) (fun c_39 => ?_)
    · replace h := mb_ift c_39 h
      refine ro_fg (lv' := [.ref 200, .retAddr 0, .retAddr 0, .int y3, .int y4, .int y5, .int w6]) hK ⟨Or.inr rfl, ⟨Or.inl rfl, ⟨Or.inl rfl, ⟨Or.inr rfl, ⟨Or.inr rfl, ⟨Or.inr rfl, ⟨Or.inr rfl, trivial⟩⟩⟩⟩⟩⟩⟩ ?_
      exact hk0 _ _ h
    · replace h := mb_iff c_39 h
      refine ro_aload_n hK dM_copy_143 rfl ?_
      refine ro_iload_n hK dM_copy_144 rfl ?_
      refine ro_iload hK dM_copy_145 rfl ?_
      refine ro_iload hK dM_copy_147 rfl ?_
      refine ro_iadd hK dM_copy_149 ?_
      refine ro_aload_n hK dM_copy_150 rfl ?_
      refine rb_get hK fM_19 mb_oM rfl dM_copy_151 ?_
      refine ro_iload hK dM_copy_154 rfl ?_
      obtain ⟨x_40, e_41, i_42, h⟩ := mb_rd_e h
      refine rb_iald hK ai_205 i_42 e_41 dM_copy_156 ?_
      obtain ⟨s_43, q_44, h⟩ := mb_cw_e h
      refine rb_callV hK mM_setRow vM_107 (t_M_setRow (dd := dd + 1) q_44) rfl mb_oM rfl (Nat.le_of_ble_eq_true rfl) dM_copy_157 rfl ⟨Nat.le_refl _, Nat.le_refl _⟩ ?_
      show K 0 0 160 [.ref 200, .retAddr 0, .retAddr 0, .int y3, .int y4, .int y5, .int w6] [] (mb_s s_43)
      refine ro_iincv (c := 1) hK (by decide) dM_copy_160 rfl (by decide) ?_
      show K 0 0 163 [.ref 200, .retAddr 0, .retAddr 0, .int y3, .int y4, .int y5, .int (w6 + 1)] [] (mb_s s_43)
      refine ro_goto (tgt := 136) hK dM_copy_163 (by decide) ?_
      refine ro_fg (lv' := [.ref 200, .retAddr 0, .retAddr 0, .int y3, .int y4, .int y5, .int (w6 + 1)]) hK ⟨Or.inr rfl, ⟨Or.inl rfl, ⟨Or.inl rfl, ⟨Or.inr rfl, ⟨Or.inr rfl, ⟨Or.inr rfl, ⟨Or.inr rfl, trivial⟩⟩⟩⟩⟩⟩⟩ ?_
      exact ih _ _ h
set_option maxHeartbeats 4000000 in
set_option maxRecDepth 100000 in
theorem t_M_copy {dd n : Nat} {x1 : Int32} {x2 : Int32} {x3 : Int32} {x4 : Int32} {x5 : Int32} {s : mb_T} {out : Int32 × mb_T}  (h : f_M_copy n x1 x2 x3 x4 x5 s = some out) : mb_MC (dd + 3) yM_copy bM_copy 7 (some .int) [.ref 200, .int x1, .int x2, .int x3, .int x4, .int x5] s (some (.int out.1)) out.2 := by
  unfold f_M_copy at h
  refine mj_mc (lv := [.ref 200, .int x1, .int x2, .int x3, .int x4, .int x5, .retAddr 0]) mM_copy rfl rfl (Nat.le_of_ble_eq_true rfl) (fun K hK hR => ?_)
  have hK : mj_C (dd + 3) 0 0 RM_c "copy" bM_copy 7 K := hK
  refine ro_iload_n hK dM_copy_0 rfl ?_
  obtain ⟨r_3, s_1, q_2, h⟩ := mb_cl_e h
  refine rb_callS hK mM_isRow vM_96 (t_M_isRow (dd := dd + 0) q_2) rfl (Nat.le_of_ble_eq_true rfl) dM_copy_1 rfl ⟨Nat.le_refl _, Nat.le_refl _⟩ ?_
  show K 0 0 4 [.ref 200, .int x1, .int x2, .int x3, .int x4, .int x5, .retAddr 0] [.int r_3] (mb_s s_1)
  refine ro_if_eq (tgt := 14) hK dM_copy_4 (by decide) (fun c_4 => ?_) (fun c_4 => ?_)
  · replace h := mb_ift c_4 h
    refine ro_iconst (x := (-1)) hK (by decide) dM_copy_14 ?_
    cases h
    exact hR.1 0 0 15 _ _ _ _ rfl rfl dM_copy_15 ⟨rfl, rfl⟩
  · replace h := mb_iff c_4 h
    refine ro_iload_n hK dM_copy_7 rfl ?_
    obtain ⟨r_7, s_5, q_6, h⟩ := mb_cl_e h
    refine rb_callS hK mM_isRow vM_96 (t_M_isRow (dd := dd + 0) q_6) rfl (Nat.le_of_ble_eq_true rfl) dM_copy_8 rfl ⟨Nat.le_refl _, Nat.le_refl _⟩ ?_
    show K 0 0 11 [.ref 200, .int x1, .int x2, .int x3, .int x4, .int x5, .retAddr 0] [.int r_7] (mb_s s_5)
    refine ro_if_ne (tgt := 16) hK dM_copy_11 (by decide) (fun c_8 => ?_) (fun c_8 => ?_)
    · replace h := mb_iff c_8 h
      refine ro_iload hK dM_copy_16 rfl ?_
      refine ro_if_ge (tgt := 27) hK dM_copy_18 (by decide) (fun c_9 => ?_) (fun c_9 => ?_)
      · replace h := mb_ift c_9 h
        refine ro_aload_n hK dM_copy_27 rfl ?_
        refine rb_get hK fM_13 mb_oM rfl dM_copy_28 ?_
        refine ro_iload_n hK dM_copy_31 rfl ?_
        obtain ⟨x_10, e_11, i_12, h⟩ := mb_rd_e h
        refine rb_iald hK ai_203 i_12 e_11 dM_copy_32 ?_
        obtain ⟨j_13, e_56, h⟩ := mb_jn_e h
        have hj_13 : ∀ (s_52 : mb_T), j_13 s_52 = some out → K 0 0 45 [.ref 200, .int x1, .int x2, .int x3, .int x4, .int x5, .retAddr 0] [] (mb_s s_52) := by
          intro s_52 h
          rw [e_56] at h
          refine ro_aload_n hK dM_copy_45 rfl ?_
          refine ro_iconst (x := 1) hK (by decide) dM_copy_46 ?_
          obtain ⟨r_55, s_53, q_54, h⟩ := mb_cl_e h
          refine rb_callV hK mM_meet vM_100 (t_M_meet (dd := dd + 1) q_54) rfl mb_oM rfl (Nat.le_of_ble_eq_true rfl) dM_copy_47 rfl ⟨Nat.le_refl _, Nat.le_refl _⟩ ?_
          show K 0 0 50 [.ref 200, .int x1, .int x2, .int x3, .int x4, .int x5, .retAddr 0] [.int r_55] (mb_s s_53)
          cases h
          exact hR.1 0 0 50 _ _ _ _ rfl rfl dM_copy_50 ⟨rfl, rfl⟩
        refine ro_if_lt (tgt := 45) hK dM_copy_33 (by decide) (fun c_14 => ?_) (fun c_14 => ?_)
        · replace h := mb_ift c_14 h
          refine ro_fg (lv' := [.ref 200, .int x1, .int x2, .int x3, .int x4, .int x5, .retAddr 0]) hK ⟨Or.inr rfl, ⟨Or.inr rfl, ⟨Or.inr rfl, ⟨Or.inr rfl, ⟨Or.inr rfl, ⟨Or.inr rfl, ⟨Or.inl rfl, trivial⟩⟩⟩⟩⟩⟩⟩ ?_
          exact hj_13 _ h
        · replace h := mb_iff c_14 h
          refine ro_aload_n hK dM_copy_36 rfl ?_
          refine rb_get hK fM_13 mb_oM rfl dM_copy_37 ?_
          refine ro_iload_n hK dM_copy_40 rfl ?_
          obtain ⟨x_15, e_16, i_17, h⟩ := mb_rd_e h
          refine rb_iald hK ai_203 i_17 e_16 dM_copy_41 ?_
          refine ro_if_ge (tgt := 51) hK dM_copy_42 (by decide) (fun c_18 => ?_) (fun c_18 => ?_)
          · replace h := mb_ift c_18 h
            refine ro_iload_n hK dM_copy_51 rfl ?_
            obtain ⟨j_19, e_51, h⟩ := mb_jn_e h
            have hj_19 : ∀ (s_47 : mb_T), j_19 s_47 = some out → K 0 0 95 [.ref 200, .int x1, .int x2, .int x3, .int x4, .int x5, .retAddr 0] [] (mb_s s_47) := by
              intro s_47 h
              rw [e_51] at h
              refine ro_aload_n hK dM_copy_95 rfl ?_
              refine ro_iconst (x := 2) hK (by decide) dM_copy_96 ?_
              obtain ⟨r_50, s_48, q_49, h⟩ := mb_cl_e h
              refine rb_callV hK mM_meet vM_100 (t_M_meet (dd := dd + 1) q_49) rfl mb_oM rfl (Nat.le_of_ble_eq_true rfl) dM_copy_97 rfl ⟨Nat.le_refl _, Nat.le_refl _⟩ ?_
              show K 0 0 100 [.ref 200, .int x1, .int x2, .int x3, .int x4, .int x5, .retAddr 0] [.int r_50] (mb_s s_48)
              cases h
              exact hR.1 0 0 100 _ _ _ _ rfl rfl dM_copy_100 ⟨rfl, rfl⟩
            refine ro_if_lt (tgt := 95) hK dM_copy_52 (by decide) (fun c_20 => ?_) (fun c_20 => ?_)
            · replace h := mb_ift c_20 h
              refine ro_fg (lv' := [.ref 200, .int x1, .int x2, .int x3, .int x4, .int x5, .retAddr 0]) hK ⟨Or.inr rfl, ⟨Or.inr rfl, ⟨Or.inr rfl, ⟨Or.inr rfl, ⟨Or.inr rfl, ⟨Or.inr rfl, ⟨Or.inl rfl, trivial⟩⟩⟩⟩⟩⟩⟩ ?_
              exact hj_19 _ h
            · replace h := mb_iff c_20 h
              refine ro_iload hK dM_copy_55 rfl ?_
              refine ro_if_lt (tgt := 95) hK dM_copy_57 (by decide) (fun c_21 => ?_) (fun c_21 => ?_)
              · replace h := mb_ift c_21 h
                refine ro_fg (lv' := [.ref 200, .int x1, .int x2, .int x3, .int x4, .int x5, .retAddr 0]) hK ⟨Or.inr rfl, ⟨Or.inr rfl, ⟨Or.inr rfl, ⟨Or.inr rfl, ⟨Or.inr rfl, ⟨Or.inr rfl, ⟨Or.inl rfl, trivial⟩⟩⟩⟩⟩⟩⟩ ?_
                exact hj_19 _ h
              · replace h := mb_iff c_21 h
                refine ro_iload_n hK dM_copy_60 rfl ?_
                refine ro_i2l hK dM_copy_61 ?_
                refine ro_iload hK dM_copy_62 rfl ?_
                refine ro_i2l hK dM_copy_64 ?_
                refine ro_ladd hK dM_copy_65 ?_
                refine ro_aload_n hK dM_copy_66 rfl ?_
                refine rb_get hK fM_13 mb_oM rfl dM_copy_67 ?_
                refine ro_iload_n hK dM_copy_70 rfl ?_
                obtain ⟨x_22, e_23, i_24, h⟩ := mb_rd_e h
                refine rb_iald hK ai_203 i_24 e_23 dM_copy_71 ?_
                refine ro_i2l hK dM_copy_72 ?_
                refine ro_lcmp hK dM_copy_73 ?_
                refine ro_if_gt (tgt := 95) hK dM_copy_74 (by decide) (fun c_25 => ?_) (fun c_25 => ?_)
                · replace h := mb_ift c_25 h
                  refine ro_fg (lv' := [.ref 200, .int x1, .int x2, .int x3, .int x4, .int x5, .retAddr 0]) hK ⟨Or.inr rfl, ⟨Or.inr rfl, ⟨Or.inr rfl, ⟨Or.inr rfl, ⟨Or.inr rfl, ⟨Or.inr rfl, ⟨Or.inl rfl, trivial⟩⟩⟩⟩⟩⟩⟩ ?_
                  exact hj_19 _ h
                · replace h := mb_iff c_25 h
                  refine ro_iload hK dM_copy_77 rfl ?_
                  refine ro_i2l hK dM_copy_79 ?_
                  refine ro_iload hK dM_copy_80 rfl ?_
                  refine ro_i2l hK dM_copy_82 ?_
                  refine ro_ladd hK dM_copy_83 ?_
                  refine ro_aload_n hK dM_copy_84 rfl ?_
                  refine rb_get hK fM_13 mb_oM rfl dM_copy_85 ?_
                  refine ro_iload_n hK dM_copy_88 rfl ?_
                  obtain ⟨x_26, e_27, i_28, h⟩ := mb_rd_e h
                  refine rb_iald hK ai_203 i_28 e_27 dM_copy_89 ?_
                  refine ro_i2l hK dM_copy_90 ?_
                  refine ro_lcmp hK dM_copy_91 ?_
                  refine ro_if_le (tgt := 101) hK dM_copy_92 (by decide) (fun c_29 => ?_) (fun c_29 => ?_)
                  · replace h := mb_ift c_29 h
                    refine ro_iconst (x := 0) hK (by decide) dM_copy_101 ?_
                    refine ro_istore hK dM_copy_102 (by decide) ?_
                    show K 0 0 104 [.ref 200, .int x1, .int x2, .int x3, .int x4, .int x5, .int 0] [] (mb_s s_5)
                    refine ro_fg (lv' := [.ref 200, .int x1, .int x2, .int x3, .int x4, .int x5, .int 0]) hK ⟨Or.inr rfl, ⟨Or.inr rfl, ⟨Or.inr rfl, ⟨Or.inr rfl, ⟨Or.inr rfl, ⟨Or.inr rfl, ⟨Or.inr rfl, trivial⟩⟩⟩⟩⟩⟩⟩ ?_
                    refine tl_M_copy_104 (dd := dd) hK hR (fun x_37 s_38 h => ?_) n _ _ h
                    refine ro_iconst (x := 0) hK (by decide) dM_copy_133 ?_
                    refine ro_istore hK dM_copy_134 (by decide) ?_
                    show K 0 0 136 [.ref 200, .int x1, .int x2, .int x3, .int x4, .int x5, .int 0] [] (mb_s s_38)
                    refine ro_fg (lv' := [.ref 200, .retAddr 0, .retAddr 0, .int x3, .int x4, .int x5, .int 0]) hK ⟨Or.inr rfl, ⟨Or.inl rfl, ⟨Or.inl rfl, ⟨Or.inr rfl, ⟨Or.inr rfl, ⟨Or.inr rfl, ⟨Or.inr rfl, trivial⟩⟩⟩⟩⟩⟩⟩ ?_
                    refine tl_M_copy_136 (dd := dd) hK hR (fun x_45 s_46 h => ?_) n _ _ h
                    refine ro_iconst (x := 1) hK (by decide) dM_copy_166 ?_
                    cases h
                    exact hR.1 0 0 167 _ _ _ _ rfl rfl dM_copy_167 ⟨rfl, rfl⟩
                  · replace h := mb_iff c_29 h
                    refine ro_fg (lv' := [.ref 200, .int x1, .int x2, .int x3, .int x4, .int x5, .retAddr 0]) hK ⟨Or.inr rfl, ⟨Or.inr rfl, ⟨Or.inr rfl, ⟨Or.inr rfl, ⟨Or.inr rfl, ⟨Or.inr rfl, ⟨Or.inl rfl, trivial⟩⟩⟩⟩⟩⟩⟩ ?_
                    exact hj_19 _ h
          · replace h := mb_iff c_18 h
            refine ro_fg (lv' := [.ref 200, .int x1, .int x2, .int x3, .int x4, .int x5, .retAddr 0]) hK ⟨Or.inr rfl, ⟨Or.inr rfl, ⟨Or.inr rfl, ⟨Or.inr rfl, ⟨Or.inr rfl, ⟨Or.inr rfl, ⟨Or.inl rfl, trivial⟩⟩⟩⟩⟩⟩⟩ ?_
            exact hj_13 _ h
      · replace h := mb_iff c_9 h
        refine ro_aload_n hK dM_copy_21 rfl ?_
        refine ro_iconst (x := 5) hK (by decide) dM_copy_22 ?_
        obtain ⟨r_59, s_57, q_58, h⟩ := mb_cl_e h
        refine rb_callV hK mM_meet vM_100 (t_M_meet (dd := dd + 1) q_58) rfl mb_oM rfl (Nat.le_of_ble_eq_true rfl) dM_copy_23 rfl ⟨Nat.le_refl _, Nat.le_refl _⟩ ?_
        show K 0 0 26 [.ref 200, .int x1, .int x2, .int x3, .int x4, .int x5, .retAddr 0] [.int r_59] (mb_s s_57)
        cases h
        exact hR.1 0 0 26 _ _ _ _ rfl rfl dM_copy_26 ⟨rfl, rfl⟩
    · replace h := mb_ift c_8 h
      refine ro_iconst (x := (-1)) hK (by decide) dM_copy_14 ?_
      cases h
      exact hR.1 0 0 15 _ _ _ _ rfl rfl dM_copy_15 ⟨rfl, rfl⟩
theorem dM_count_0 : decode bM_count 0 = .ok (.iload_n 1, 1) := by decide +kernel
theorem dM_count_1 : decode bM_count 1 = .ok (.iconst 0, 1) := by decide +kernel
theorem dM_count_2 : decode bM_count 2 = .ok (.bipush 7, 2) := by decide +kernel
theorem dM_count_4 : decode bM_count 4 = .ok (.invokestatic 92, 3) := by decide +kernel
theorem dM_count_7 : decode bM_count 7 = .ok (.ifCond .eq 11, 3) := by decide +kernel
theorem dM_count_10 : decode bM_count 10 = .ok (.aload_n 0, 1) := by decide +kernel
theorem dM_count_11 : decode bM_count 11 = .ok (.iload_n 1, 1) := by decide +kernel
theorem dM_count_12 : decode bM_count 12 = .ok (.invokevirtual 320, 3) := by decide +kernel
theorem dM_count_15 : decode bM_count 15 = .ok (.goto 4, 3) := by decide +kernel
theorem dM_count_18 : decode bM_count 18 = .ok (.iconst (-1), 1) := by decide +kernel
theorem dM_count_19 : decode bM_count 19 = .ok (.ireturn, 1) := by decide +kernel
def f_M_count (n : Nat) (x1 : Int32) (s : mb_T) : Option (Int32 × mb_T) := mb_cl (f_M_in n x1 0 7 s) fun r_3 s_1 => if r_3 = 0 then some ((-1), s_1) else mb_cl (f_M_tells n x1 s_1) fun r_7 s_5 => some (r_7, s_5)
set_option maxHeartbeats 4000000 in
set_option maxRecDepth 100000 in
theorem t_M_count {dd n : Nat} {x1 : Int32} {s : mb_T} {out : Int32 × mb_T}  (h : f_M_count n x1 s = some out) : mb_MC (dd + 3) yM_count bM_count 2 (some .int) [.ref 200, .int x1] s (some (.int out.1)) out.2 := by
  unfold f_M_count at h
  refine mj_mc (lv := [.ref 200, .int x1]) mM_count rfl rfl (Nat.le_of_ble_eq_true rfl) (fun K hK hR => ?_)
  have hK : mj_C (dd + 3) 0 0 RM_c "count" bM_count 2 K := hK
  refine ro_iload_n hK dM_count_0 rfl ?_
  refine ro_iconst (x := 0) hK (by decide) dM_count_1 ?_
  refine ro_bipush (x := 7) hK (by decide) dM_count_2 ?_
  obtain ⟨r_3, s_1, q_2, h⟩ := mb_cl_e h
  refine rb_callS hK mM_in vM_92 (t_M_in (dd := dd + 1) q_2) rfl (Nat.le_of_ble_eq_true rfl) dM_count_4 rfl ⟨Nat.le_refl _, Nat.le_refl _⟩ ?_
  show K 0 0 7 [.ref 200, .int x1] [.int r_3] (mb_s s_1)
  refine ro_if_eq (tgt := 18) hK dM_count_7 (by decide) (fun c_4 => ?_) (fun c_4 => ?_)
  · replace h := mb_ift c_4 h
    refine ro_iconst (x := (-1)) hK (by decide) dM_count_18 ?_
    cases h
    exact hR.1 0 0 19 _ _ _ _ rfl rfl dM_count_19 ⟨rfl, rfl⟩
  · replace h := mb_iff c_4 h
    refine ro_aload_n hK dM_count_10 rfl ?_
    refine ro_iload_n hK dM_count_11 rfl ?_
    obtain ⟨r_7, s_5, q_6, h⟩ := mb_cl_e h
    refine rb_callV hK mM_tells vM_320 (t_M_tells (dd := dd + 0) q_6) rfl mb_oM rfl (Nat.le_of_ble_eq_true rfl) dM_count_12 rfl ⟨Nat.le_refl _, Nat.le_refl _⟩ ?_
    show K 0 0 15 [.ref 200, .int x1] [.int r_7] (mb_s s_5)
    refine ro_goto (tgt := 19) hK dM_count_15 (by decide) ?_
    cases h
    exact hR.1 0 0 19 _ _ _ _ rfl rfl dM_count_19 ⟨rfl, rfl⟩
theorem dM_fear_0 : decode bM_fear 0 = .ok (.aload_n 0, 1) := by decide +kernel
theorem dM_fear_1 : decode bM_fear 1 = .ok (.iload_n 1, 1) := by decide +kernel
theorem dM_fear_2 : decode bM_fear 2 = .ok (.invokevirtual 183, 3) := by decide +kernel
theorem dM_fear_5 : decode bM_fear 5 = .ok (.ifCond .eq 13, 3) := by decide +kernel
theorem dM_fear_8 : decode bM_fear 8 = .ok (.iload_n 2, 1) := by decide +kernel
theorem dM_fear_9 : decode bM_fear 9 = .ok (.iconst 0, 1) := by decide +kernel
theorem dM_fear_10 : decode bM_fear 10 = .ok (.bipush 99, 2) := by decide +kernel
theorem dM_fear_12 : decode bM_fear 12 = .ok (.invokestatic 92, 3) := by decide +kernel
theorem dM_fear_15 : decode bM_fear 15 = .ok (.ifCond .ne 5, 3) := by decide +kernel
theorem dM_fear_18 : decode bM_fear 18 = .ok (.iconst (-1), 1) := by decide +kernel
theorem dM_fear_19 : decode bM_fear 19 = .ok (.ireturn, 1) := by decide +kernel
theorem dM_fear_20 : decode bM_fear 20 = .ok (.aload_n 0, 1) := by decide +kernel
theorem dM_fear_21 : decode bM_fear 21 = .ok (.getfield 31, 3) := by decide +kernel
theorem dM_fear_24 : decode bM_fear 24 = .ok (.iload_n 1, 1) := by decide +kernel
theorem dM_fear_25 : decode bM_fear 25 = .ok (.iaload, 1) := by decide +kernel
theorem dM_fear_26 : decode bM_fear 26 = .ok (.istore_n 3, 1) := by decide +kernel
theorem dM_fear_27 : decode bM_fear 27 = .ok (.aload_n 0, 1) := by decide +kernel
theorem dM_fear_28 : decode bM_fear 28 = .ok (.getfield 31, 3) := by decide +kernel
theorem dM_fear_31 : decode bM_fear 31 = .ok (.iload_n 1, 1) := by decide +kernel
theorem dM_fear_32 : decode bM_fear 32 = .ok (.iload_n 2, 1) := by decide +kernel
theorem dM_fear_33 : decode bM_fear 33 = .ok (.iastore, 1) := by decide +kernel
theorem dM_fear_34 : decode bM_fear 34 = .ok (.iload_n 3, 1) := by decide +kernel
theorem dM_fear_35 : decode bM_fear 35 = .ok (.ireturn, 1) := by decide +kernel
def f_M_fear (n : Nat) (x1 : Int32) (x2 : Int32) (s : mb_T) : Option (Int32 × mb_T) := mb_cl (f_M_isOne n x1 s) fun r_3 s_1 => if r_3 = 0 then some ((-1), s_1) else mb_cl (f_M_in n x2 0 99 s_1) fun r_7 s_5 => if r_7 = 0 then some ((-1), s_5) else mb_rd s_5 213 10 x1 fun x_9 => mb_wr s_5 213 10 x1 x2 fun s_12 => some (x_9, s_12)
set_option maxHeartbeats 4000000 in
set_option maxRecDepth 100000 in
theorem t_M_fear {dd n : Nat} {x1 : Int32} {x2 : Int32} {s : mb_T} {out : Int32 × mb_T}  (h : f_M_fear n x1 x2 s = some out) : mb_MC (dd + 3) yM_fear bM_fear 4 (some .int) [.ref 200, .int x1, .int x2] s (some (.int out.1)) out.2 := by
  unfold f_M_fear at h
  refine mj_mc (lv := [.ref 200, .int x1, .int x2, .retAddr 0]) mM_fear rfl rfl (Nat.le_of_ble_eq_true rfl) (fun K hK hR => ?_)
  have hK : mj_C (dd + 3) 0 0 RM_c "fear" bM_fear 4 K := hK
  refine ro_aload_n hK dM_fear_0 rfl ?_
  refine ro_iload_n hK dM_fear_1 rfl ?_
  obtain ⟨r_3, s_1, q_2, h⟩ := mb_cl_e h
  refine rb_callV hK mM_isOne vM_183 (t_M_isOne (dd := dd + 0) q_2) rfl mb_oM rfl (Nat.le_of_ble_eq_true rfl) dM_fear_2 rfl ⟨Nat.le_refl _, Nat.le_refl _⟩ ?_
  show K 0 0 5 [.ref 200, .int x1, .int x2, .retAddr 0] [.int r_3] (mb_s s_1)
  refine ro_if_eq (tgt := 18) hK dM_fear_5 (by decide) (fun c_4 => ?_) (fun c_4 => ?_)
  · replace h := mb_ift c_4 h
    refine ro_iconst (x := (-1)) hK (by decide) dM_fear_18 ?_
    cases h
    exact hR.1 0 0 19 _ _ _ _ rfl rfl dM_fear_19 ⟨rfl, rfl⟩
  · replace h := mb_iff c_4 h
    refine ro_iload_n hK dM_fear_8 rfl ?_
    refine ro_iconst (x := 0) hK (by decide) dM_fear_9 ?_
    refine ro_bipush (x := 99) hK (by decide) dM_fear_10 ?_
    obtain ⟨r_7, s_5, q_6, h⟩ := mb_cl_e h
    refine rb_callS hK mM_in vM_92 (t_M_in (dd := dd + 1) q_6) rfl (Nat.le_of_ble_eq_true rfl) dM_fear_12 rfl ⟨Nat.le_refl _, Nat.le_refl _⟩ ?_
    show K 0 0 15 [.ref 200, .int x1, .int x2, .retAddr 0] [.int r_7] (mb_s s_5)
    refine ro_if_ne (tgt := 20) hK dM_fear_15 (by decide) (fun c_8 => ?_) (fun c_8 => ?_)
    · replace h := mb_iff c_8 h
      refine ro_aload_n hK dM_fear_20 rfl ?_
      refine rb_get hK fM_31 mb_oM rfl dM_fear_21 ?_
      refine ro_iload_n hK dM_fear_24 rfl ?_
      obtain ⟨x_9, e_10, i_11, h⟩ := mb_rd_e h
      refine rb_iald hK ai_213 i_11 e_10 dM_fear_25 ?_
      refine ro_istore_n hK dM_fear_26 (by decide) ?_
      show K 0 0 27 [.ref 200, .int x1, .int x2, .int x_9] [] (mb_s s_5)
      refine ro_aload_n hK dM_fear_27 rfl ?_
      refine rb_get hK fM_31 mb_oM rfl dM_fear_28 ?_
      refine ro_iload_n hK dM_fear_31 rfl ?_
      refine ro_iload_n hK dM_fear_32 rfl ?_
      obtain ⟨s_12, e_13, i_14, h⟩ := mb_wr_e h
      refine rb_iast hK ai_213 i_14 e_13 dM_fear_33 ?_
      refine ro_iload_n hK dM_fear_34 rfl ?_
      cases h
      exact hR.1 0 0 35 _ _ _ _ rfl rfl dM_fear_35 ⟨rfl, rfl⟩
    · replace h := mb_ift c_8 h
      refine ro_iconst (x := (-1)) hK (by decide) dM_fear_18 ?_
      cases h
      exact hR.1 0 0 19 _ _ _ _ rfl rfl dM_fear_19 ⟨rfl, rfl⟩
theorem dM_goMinute_0 : decode bM_goMinute 0 = .ok (.aload_n 0, 1) := by decide +kernel
theorem dM_goMinute_1 : decode bM_goMinute 1 = .ok (.getfield 56, 3) := by decide +kernel
theorem dM_goMinute_4 : decode bM_goMinute 4 = .ok (.bipush 6, 2) := by decide +kernel
theorem dM_goMinute_6 : decode bM_goMinute 6 = .ok (.aload_n 0, 1) := by decide +kernel
theorem dM_goMinute_7 : decode bM_goMinute 7 = .ok (.getfield 173, 3) := by decide +kernel
theorem dM_goMinute_10 : decode bM_goMinute 10 = .ok (.imul, 1) := by decide +kernel
theorem dM_goMinute_11 : decode bM_goMinute 11 = .ok (.aload_n 0, 1) := by decide +kernel
theorem dM_goMinute_12 : decode bM_goMinute 12 = .ok (.getfield 170, 3) := by decide +kernel
theorem dM_goMinute_15 : decode bM_goMinute 15 = .ok (.iastore, 1) := by decide +kernel
theorem dM_goMinute_16 : decode bM_goMinute 16 = .ok (.iconst 0, 1) := by decide +kernel
theorem dM_goMinute_17 : decode bM_goMinute 17 = .ok (.istore_n 2, 1) := by decide +kernel
theorem dM_goMinute_18 : decode bM_goMinute 18 = .ok (.iload_n 2, 1) := by decide +kernel
theorem dM_goMinute_19 : decode bM_goMinute 19 = .ok (.iconst 5, 1) := by decide +kernel
theorem dM_goMinute_20 : decode bM_goMinute 20 = .ok (.if_icmp .ge 31, 3) := by decide +kernel
theorem dM_goMinute_23 : decode bM_goMinute 23 = .ok (.aload_n 0, 1) := by decide +kernel
theorem dM_goMinute_24 : decode bM_goMinute 24 = .ok (.getfield 56, 3) := by decide +kernel
theorem dM_goMinute_27 : decode bM_goMinute 27 = .ok (.bipush 6, 2) := by decide +kernel
theorem dM_goMinute_29 : decode bM_goMinute 29 = .ok (.aload_n 0, 1) := by decide +kernel
theorem dM_goMinute_30 : decode bM_goMinute 30 = .ok (.getfield 173, 3) := by decide +kernel
theorem dM_goMinute_33 : decode bM_goMinute 33 = .ok (.imul, 1) := by decide +kernel
theorem dM_goMinute_34 : decode bM_goMinute 34 = .ok (.iconst 1, 1) := by decide +kernel
theorem dM_goMinute_35 : decode bM_goMinute 35 = .ok (.iadd, 1) := by decide +kernel
theorem dM_goMinute_36 : decode bM_goMinute 36 = .ok (.iload_n 2, 1) := by decide +kernel
theorem dM_goMinute_37 : decode bM_goMinute 37 = .ok (.iadd, 1) := by decide +kernel
theorem dM_goMinute_38 : decode bM_goMinute 38 = .ok (.aload_n 0, 1) := by decide +kernel
theorem dM_goMinute_39 : decode bM_goMinute 39 = .ok (.getfield 31, 3) := by decide +kernel
theorem dM_goMinute_42 : decode bM_goMinute 42 = .ok (.iload_n 2, 1) := by decide +kernel
theorem dM_goMinute_43 : decode bM_goMinute 43 = .ok (.iaload, 1) := by decide +kernel
theorem dM_goMinute_44 : decode bM_goMinute 44 = .ok (.iastore, 1) := by decide +kernel
theorem dM_goMinute_45 : decode bM_goMinute 45 = .ok (.iinc 2 1, 3) := by decide +kernel
theorem dM_goMinute_48 : decode bM_goMinute 48 = .ok (.goto (-30), 3) := by decide +kernel
theorem dM_goMinute_51 : decode bM_goMinute 51 = .ok (.aload_n 0, 1) := by decide +kernel
theorem dM_goMinute_52 : decode bM_goMinute 52 = .ok (.getfield 53, 3) := by decide +kernel
theorem dM_goMinute_55 : decode bM_goMinute 55 = .ok (.aload_n 0, 1) := by decide +kernel
theorem dM_goMinute_56 : decode bM_goMinute 56 = .ok (.getfield 173, 3) := by decide +kernel
theorem dM_goMinute_59 : decode bM_goMinute 59 = .ok (.iload_n 1, 1) := by decide +kernel
theorem dM_goMinute_60 : decode bM_goMinute 60 = .ok (.iastore, 1) := by decide +kernel
theorem dM_goMinute_61 : decode bM_goMinute 61 = .ok (.aload_n 0, 1) := by decide +kernel
theorem dM_goMinute_62 : decode bM_goMinute 62 = .ok (.iload_n 1, 1) := by decide +kernel
theorem dM_goMinute_63 : decode bM_goMinute 63 = .ok (.invokevirtual 202, 3) := by decide +kernel
theorem dM_goMinute_66 : decode bM_goMinute 66 = .ok (.return_, 1) := by decide +kernel
def f_M_goMinute_18 (n : Nat) (k0 : Int32 → mb_T → Option (mb_T)) (y1 : Int32) : Nat → Int32 → mb_T → Option (mb_T)
  | 0, _, _ => none
  | f + 1, w2, s => if 5 ≤ w2 then k0 w2 s else mb_rd s 213 10 w2 fun x_5 => mb_wr s 227 720 (((6 * (s.1 200 24)) + 1) + w2) x_5 fun s_8 => f_M_goMinute_18 n k0 y1 f (w2 + 1) s_8
def f_M_goMinute (n : Nat) (x1 : Int32) (s : mb_T) : Option (mb_T) := mb_wr s 227 720 (6 * (s.1 200 24)) (s.1 200 11) fun s_1 => f_M_goMinute_18 n (fun x_11 s_12 => mb_wr s_12 226 120 (s_12.1 200 24) x1 fun s_13 => mb_cw (f_M_passMinute n x1 s_13) fun s_16 => some s_16) x1 n 0 s_1
set_option maxHeartbeats 4000000 in
set_option maxRecDepth 100000 in
theorem tl_M_goMinute_18 {dd n : Nat} {K : mj_KT} {out : mb_T} (hK : mj_C (dd + 3) 0 0 RM_c "goMinute" bM_goMinute 3 K) (hR : mj_R bM_goMinute none (fun r2 S2 => r2 = none ∧ S2 = mb_s out) K) {k0 : Int32 → mb_T → Option (mb_T)} {y1 : Int32} (hk0 : ∀ (w2 : Int32) (s : mb_T), k0 w2 s = some out → K 0 0 51 [.ref 200, .int y1, .int w2] [] (mb_s s)) : ∀ (f : Nat) (w2 : Int32) (s : mb_T), f_M_goMinute_18 n k0 y1 f w2 s = some out → K 0 0 18 [.ref 200, .int y1, .int w2] [] (mb_s s) := by
  intro f
  induction f with
  | zero =>
    intro w2 s h
    cases h
  | succ f ih =>
    intro w2 s h
    rw [f_M_goMinute_18] at h
    refine ro_iload_n hK dM_goMinute_18 rfl ?_
    refine ro_iconst (x := 5) hK (by decide) dM_goMinute_19 ?_
    refine ro_icmp_ge (tgt := 51) hK dM_goMinute_20 (by decide) (fun c_4 => ?_) (fun c_4 => ?_)
    · replace h := mb_ift c_4 h
      refine ro_fg (lv' := [.ref 200, .int y1, .int w2]) hK ⟨Or.inr rfl, ⟨Or.inr rfl, ⟨Or.inr rfl, trivial⟩⟩⟩ ?_
      exact hk0 _ _ h
    · replace h := mb_iff c_4 h
      refine ro_aload_n hK dM_goMinute_23 rfl ?_
      refine rb_get hK fM_56 mb_oM rfl dM_goMinute_24 ?_
      refine ro_bipush (x := 6) hK (by decide) dM_goMinute_27 ?_
      refine ro_aload_n hK dM_goMinute_29 rfl ?_
      refine rb_get hK fM_173 mb_oM rfl dM_goMinute_30 ?_
      refine ro_imul hK dM_goMinute_33 ?_
      refine ro_iconst (x := 1) hK (by decide) dM_goMinute_34 ?_
      refine ro_iadd hK dM_goMinute_35 ?_
      refine ro_iload_n hK dM_goMinute_36 rfl ?_
      refine ro_iadd hK dM_goMinute_37 ?_
      refine ro_aload_n hK dM_goMinute_38 rfl ?_
      refine rb_get hK fM_31 mb_oM rfl dM_goMinute_39 ?_
      refine ro_iload_n hK dM_goMinute_42 rfl ?_
      obtain ⟨x_5, e_6, i_7, h⟩ := mb_rd_e h
      refine rb_iald hK ai_213 i_7 e_6 dM_goMinute_43 ?_
      obtain ⟨s_8, e_9, i_10, h⟩ := mb_wr_e h
      refine rb_iast hK ai_227 i_10 e_9 dM_goMinute_44 ?_
      refine ro_iincv (c := 1) hK (by decide) dM_goMinute_45 rfl (by decide) ?_
      show K 0 0 48 [.ref 200, .int y1, .int (w2 + 1)] [] (mb_s s_8)
      refine ro_goto (tgt := 18) hK dM_goMinute_48 (by decide) ?_
      refine ro_fg (lv' := [.ref 200, .int y1, .int (w2 + 1)]) hK ⟨Or.inr rfl, ⟨Or.inr rfl, ⟨Or.inr rfl, trivial⟩⟩⟩ ?_
      exact ih _ _ h
set_option maxHeartbeats 4000000 in
set_option maxRecDepth 100000 in
theorem t_M_goMinute {dd n : Nat} {x1 : Int32} {s : mb_T} {out : mb_T}  (h : f_M_goMinute n x1 s = some out) : mb_MC (dd + 3) yM_goMinute bM_goMinute 3 none [.ref 200, .int x1] s none out := by
  unfold f_M_goMinute at h
  refine mj_mc (lv := [.ref 200, .int x1, .retAddr 0]) mM_goMinute rfl rfl (Nat.le_of_ble_eq_true rfl) (fun K hK hR => ?_)
  have hK : mj_C (dd + 3) 0 0 RM_c "goMinute" bM_goMinute 3 K := hK
  refine ro_aload_n hK dM_goMinute_0 rfl ?_
  refine rb_get hK fM_56 mb_oM rfl dM_goMinute_1 ?_
  refine ro_bipush (x := 6) hK (by decide) dM_goMinute_4 ?_
  refine ro_aload_n hK dM_goMinute_6 rfl ?_
  refine rb_get hK fM_173 mb_oM rfl dM_goMinute_7 ?_
  refine ro_imul hK dM_goMinute_10 ?_
  refine ro_aload_n hK dM_goMinute_11 rfl ?_
  refine rb_get hK fM_170 mb_oM rfl dM_goMinute_12 ?_
  obtain ⟨s_1, e_2, i_3, h⟩ := mb_wr_e h
  refine rb_iast hK ai_227 i_3 e_2 dM_goMinute_15 ?_
  refine ro_iconst (x := 0) hK (by decide) dM_goMinute_16 ?_
  refine ro_istore_n hK dM_goMinute_17 (by decide) ?_
  show K 0 0 18 [.ref 200, .int x1, .int 0] [] (mb_s s_1)
  refine ro_fg (lv' := [.ref 200, .int x1, .int 0]) hK ⟨Or.inr rfl, ⟨Or.inr rfl, ⟨Or.inr rfl, trivial⟩⟩⟩ ?_
  refine tl_M_goMinute_18 (dd := dd) hK hR (fun x_11 s_12 h => ?_) n _ _ h
  refine ro_aload_n hK dM_goMinute_51 rfl ?_
  refine rb_get hK fM_53 mb_oM rfl dM_goMinute_52 ?_
  refine ro_aload_n hK dM_goMinute_55 rfl ?_
  refine rb_get hK fM_173 mb_oM rfl dM_goMinute_56 ?_
  refine ro_iload_n hK dM_goMinute_59 rfl ?_
  obtain ⟨s_13, e_14, i_15, h⟩ := mb_wr_e h
  refine rb_iast hK ai_226 i_15 e_14 dM_goMinute_60 ?_
  refine ro_aload_n hK dM_goMinute_61 rfl ?_
  refine ro_iload_n hK dM_goMinute_62 rfl ?_
  obtain ⟨s_16, q_17, h⟩ := mb_cw_e h
  refine rb_callV hK mM_passMinute vM_202 (t_M_passMinute (dd := dd + 0) q_17) rfl mb_oM rfl (Nat.le_of_ble_eq_true rfl) dM_goMinute_63 rfl ⟨Nat.le_refl _, Nat.le_refl _⟩ ?_
  show K 0 0 66 [.ref 200, .int x1, .int x_11] [] (mb_s s_16)
  cases h
  exact hR.2.2 0 0 66 _ _ rfl dM_goMinute_66 ⟨rfl, rfl⟩
theorem dM_mark_0 : decode bM_mark 0 = .ok (.aload_n 0, 1) := by decide +kernel
theorem dM_mark_1 : decode bM_mark 1 = .ok (.iload_n 1, 1) := by decide +kernel
theorem dM_mark_2 : decode bM_mark 2 = .ok (.invokevirtual 183, 3) := by decide +kernel
theorem dM_mark_5 : decode bM_mark 5 = .ok (.ifCond .eq 12, 3) := by decide +kernel
theorem dM_mark_8 : decode bM_mark 8 = .ok (.iload_n 2, 1) := by decide +kernel
theorem dM_mark_9 : decode bM_mark 9 = .ok (.iconst 1, 1) := by decide +kernel
theorem dM_mark_10 : decode bM_mark 10 = .ok (.iconst 5, 1) := by decide +kernel
theorem dM_mark_11 : decode bM_mark 11 = .ok (.invokestatic 92, 3) := by decide +kernel
theorem dM_mark_14 : decode bM_mark 14 = .ok (.ifCond .ne 5, 3) := by decide +kernel
theorem dM_mark_17 : decode bM_mark 17 = .ok (.iconst (-1), 1) := by decide +kernel
theorem dM_mark_18 : decode bM_mark 18 = .ok (.ireturn, 1) := by decide +kernel
theorem dM_mark_19 : decode bM_mark 19 = .ok (.aload_n 0, 1) := by decide +kernel
theorem dM_mark_20 : decode bM_mark 20 = .ok (.getfield 28, 3) := by decide +kernel
theorem dM_mark_23 : decode bM_mark 23 = .ok (.iload_n 1, 1) := by decide +kernel
theorem dM_mark_24 : decode bM_mark 24 = .ok (.iaload, 1) := by decide +kernel
theorem dM_mark_25 : decode bM_mark 25 = .ok (.iload_n 2, 1) := by decide +kernel
theorem dM_mark_26 : decode bM_mark 26 = .ok (.if_icmp .eq 22, 3) := by decide +kernel
theorem dM_mark_29 : decode bM_mark 29 = .ok (.iload_n 2, 1) := by decide +kernel
theorem dM_mark_30 : decode bM_mark 30 = .ok (.iconst 1, 1) := by decide +kernel
theorem dM_mark_31 : decode bM_mark 31 = .ok (.if_icmp .ne 11, 3) := by decide +kernel
theorem dM_mark_34 : decode bM_mark 34 = .ok (.aload_n 0, 1) := by decide +kernel
theorem dM_mark_35 : decode bM_mark 35 = .ok (.iload_n 1, 1) := by decide +kernel
theorem dM_mark_36 : decode bM_mark 36 = .ok (.invokevirtual 189, 3) := by decide +kernel
theorem dM_mark_39 : decode bM_mark 39 = .ok (.ifCond .ne 9, 3) := by decide +kernel
theorem dM_mark_42 : decode bM_mark 42 = .ok (.aload_n 0, 1) := by decide +kernel
theorem dM_mark_43 : decode bM_mark 43 = .ok (.iconst 3, 1) := by decide +kernel
theorem dM_mark_44 : decode bM_mark 44 = .ok (.invokevirtual 100, 3) := by decide +kernel
theorem dM_mark_47 : decode bM_mark 47 = .ok (.ireturn, 1) := by decide +kernel
theorem dM_mark_48 : decode bM_mark 48 = .ok (.iconst 0, 1) := by decide +kernel
theorem dM_mark_49 : decode bM_mark 49 = .ok (.istore_n 3, 1) := by decide +kernel
theorem dM_mark_50 : decode bM_mark 50 = .ok (.iconst 0, 1) := by decide +kernel
theorem dM_mark_51 : decode bM_mark 51 = .ok (.istore 4, 2) := by decide +kernel
theorem dM_mark_53 : decode bM_mark 53 = .ok (.iload 4, 2) := by decide +kernel
theorem dM_mark_55 : decode bM_mark 55 = .ok (.aload_n 0, 1) := by decide +kernel
theorem dM_mark_56 : decode bM_mark 56 = .ok (.getfield 161, 3) := by decide +kernel
theorem dM_mark_59 : decode bM_mark 59 = .ok (.if_icmp .ge 106, 3) := by decide +kernel
theorem dM_mark_62 : decode bM_mark 62 = .ok (.aload_n 0, 1) := by decide +kernel
theorem dM_mark_63 : decode bM_mark 63 = .ok (.iload_n 1, 1) := by decide +kernel
theorem dM_mark_64 : decode bM_mark 64 = .ok (.iload 4, 2) := by decide +kernel
theorem dM_mark_66 : decode bM_mark 66 = .ok (.invokevirtual 192, 3) := by decide +kernel
theorem dM_mark_69 : decode bM_mark 69 = .ok (.istore 5, 2) := by decide +kernel
theorem dM_mark_71 : decode bM_mark 71 = .ok (.aload_n 0, 1) := by decide +kernel
theorem dM_mark_72 : decode bM_mark 72 = .ok (.getfield 31, 3) := by decide +kernel
theorem dM_mark_75 : decode bM_mark 75 = .ok (.iload 4, 2) := by decide +kernel
theorem dM_mark_77 : decode bM_mark 77 = .ok (.iaload, 1) := by decide +kernel
theorem dM_mark_78 : decode bM_mark 78 = .ok (.aload_n 0, 1) := by decide +kernel
theorem dM_mark_79 : decode bM_mark 79 = .ok (.getfield 31, 3) := by decide +kernel
theorem dM_mark_82 : decode bM_mark 82 = .ok (.iload_n 1, 1) := by decide +kernel
theorem dM_mark_83 : decode bM_mark 83 = .ok (.iaload, 1) := by decide +kernel
theorem dM_mark_84 : decode bM_mark 84 = .ok (.if_icmp .le 7, 3) := by decide +kernel
theorem dM_mark_87 : decode bM_mark 87 = .ok (.iconst 1, 1) := by decide +kernel
theorem dM_mark_88 : decode bM_mark 88 = .ok (.goto 4, 3) := by decide +kernel
theorem dM_mark_91 : decode bM_mark 91 = .ok (.iconst 0, 1) := by decide +kernel
theorem dM_mark_92 : decode bM_mark 92 = .ok (.istore 6, 2) := by decide +kernel
theorem dM_mark_94 : decode bM_mark 94 = .ok (.iload_n 3, 1) := by decide +kernel
theorem dM_mark_95 : decode bM_mark 95 = .ok (.iload_n 2, 1) := by decide +kernel
theorem dM_mark_96 : decode bM_mark 96 = .ok (.iconst 1, 1) := by decide +kernel
theorem dM_mark_97 : decode bM_mark 97 = .ok (.if_icmp .ne 8, 3) := by decide +kernel
theorem dM_mark_100 : decode bM_mark 100 = .ok (.iload 5, 2) := by decide +kernel
theorem dM_mark_102 : decode bM_mark 102 = .ok (.ifCond .ne 50, 3) := by decide +kernel
theorem dM_mark_105 : decode bM_mark 105 = .ok (.iload_n 2, 1) := by decide +kernel
theorem dM_mark_106 : decode bM_mark 106 = .ok (.iconst 2, 1) := by decide +kernel
theorem dM_mark_107 : decode bM_mark 107 = .ok (.if_icmp .ne 13, 3) := by decide +kernel
theorem dM_mark_110 : decode bM_mark 110 = .ok (.iload 5, 2) := by decide +kernel
theorem dM_mark_112 : decode bM_mark 112 = .ok (.ifCond .eq 8, 3) := by decide +kernel
theorem dM_mark_115 : decode bM_mark 115 = .ok (.iload 6, 2) := by decide +kernel
theorem dM_mark_117 : decode bM_mark 117 = .ok (.ifCond .ne 35, 3) := by decide +kernel
theorem dM_mark_120 : decode bM_mark 120 = .ok (.iload_n 2, 1) := by decide +kernel
theorem dM_mark_121 : decode bM_mark 121 = .ok (.iconst 3, 1) := by decide +kernel
theorem dM_mark_122 : decode bM_mark 122 = .ok (.if_icmp .ne 8, 3) := by decide +kernel
theorem dM_mark_125 : decode bM_mark 125 = .ok (.iload 6, 2) := by decide +kernel
theorem dM_mark_127 : decode bM_mark 127 = .ok (.ifCond .ne 25, 3) := by decide +kernel
theorem dM_mark_130 : decode bM_mark 130 = .ok (.iload_n 2, 1) := by decide +kernel
theorem dM_mark_131 : decode bM_mark 131 = .ok (.iconst 4, 1) := by decide +kernel
theorem dM_mark_132 : decode bM_mark 132 = .ok (.if_icmp .ne 24, 3) := by decide +kernel
theorem dM_mark_135 : decode bM_mark 135 = .ok (.iload 4, 2) := by decide +kernel
theorem dM_mark_137 : decode bM_mark 137 = .ok (.iload_n 1, 1) := by decide +kernel
theorem dM_mark_138 : decode bM_mark 138 = .ok (.if_icmp .eq 18, 3) := by decide +kernel
theorem dM_mark_141 : decode bM_mark 141 = .ok (.aload_n 0, 1) := by decide +kernel
theorem dM_mark_142 : decode bM_mark 142 = .ok (.getfield 28, 3) := by decide +kernel
theorem dM_mark_145 : decode bM_mark 145 = .ok (.iload 4, 2) := by decide +kernel
theorem dM_mark_147 : decode bM_mark 147 = .ok (.iaload, 1) := by decide +kernel
theorem dM_mark_148 : decode bM_mark 148 = .ok (.iconst 4, 1) := by decide +kernel
theorem dM_mark_149 : decode bM_mark 149 = .ok (.if_icmp .ne 7, 3) := by decide +kernel
theorem dM_mark_152 : decode bM_mark 152 = .ok (.iconst 1, 1) := by decide +kernel
theorem dM_mark_153 : decode bM_mark 153 = .ok (.goto 4, 3) := by decide +kernel
theorem dM_mark_156 : decode bM_mark 156 = .ok (.iconst 0, 1) := by decide +kernel
theorem dM_mark_157 : decode bM_mark 157 = .ok (.iadd, 1) := by decide +kernel
theorem dM_mark_158 : decode bM_mark 158 = .ok (.istore_n 3, 1) := by decide +kernel
theorem dM_mark_159 : decode bM_mark 159 = .ok (.iinc 4 1, 3) := by decide +kernel
theorem dM_mark_162 : decode bM_mark 162 = .ok (.goto (-109), 3) := by decide +kernel
theorem dM_mark_165 : decode bM_mark 165 = .ok (.iconst 0, 1) := by decide +kernel
theorem dM_mark_166 : decode bM_mark 166 = .ok (.istore 4, 2) := by decide +kernel
theorem dM_mark_168 : decode bM_mark 168 = .ok (.iload 4, 2) := by decide +kernel
theorem dM_mark_170 : decode bM_mark 170 = .ok (.aload_n 0, 1) := by decide +kernel
theorem dM_mark_171 : decode bM_mark 171 = .ok (.getfield 173, 3) := by decide +kernel
theorem dM_mark_174 : decode bM_mark 174 = .ok (.if_icmp .ge 33, 3) := by decide +kernel
theorem dM_mark_177 : decode bM_mark 177 = .ok (.iload_n 2, 1) := by decide +kernel
theorem dM_mark_178 : decode bM_mark 178 = .ok (.iconst 5, 1) := by decide +kernel
theorem dM_mark_179 : decode bM_mark 179 = .ok (.if_icmp .ne 28, 3) := by decide +kernel
theorem dM_mark_182 : decode bM_mark 182 = .ok (.iload_n 3, 1) := by decide +kernel
theorem dM_mark_183 : decode bM_mark 183 = .ok (.aload_n 0, 1) := by decide +kernel
theorem dM_mark_184 : decode bM_mark 184 = .ok (.getfield 53, 3) := by decide +kernel
theorem dM_mark_187 : decode bM_mark 187 = .ok (.iload 4, 2) := by decide +kernel
theorem dM_mark_189 : decode bM_mark 189 = .ok (.iaload, 1) := by decide +kernel
theorem dM_mark_190 : decode bM_mark 190 = .ok (.iload_n 1, 1) := by decide +kernel
theorem dM_mark_191 : decode bM_mark 191 = .ok (.if_icmp .ne 7, 3) := by decide +kernel
theorem dM_mark_194 : decode bM_mark 194 = .ok (.iconst 1, 1) := by decide +kernel
theorem dM_mark_195 : decode bM_mark 195 = .ok (.goto 4, 3) := by decide +kernel
theorem dM_mark_198 : decode bM_mark 198 = .ok (.iconst 0, 1) := by decide +kernel
theorem dM_mark_199 : decode bM_mark 199 = .ok (.iadd, 1) := by decide +kernel
theorem dM_mark_200 : decode bM_mark 200 = .ok (.istore_n 3, 1) := by decide +kernel
theorem dM_mark_201 : decode bM_mark 201 = .ok (.iinc 4 1, 3) := by decide +kernel
theorem dM_mark_204 : decode bM_mark 204 = .ok (.goto (-36), 3) := by decide +kernel
theorem dM_mark_207 : decode bM_mark 207 = .ok (.iload_n 3, 1) := by decide +kernel
theorem dM_mark_208 : decode bM_mark 208 = .ok (.ireturn, 1) := by decide +kernel
def f_M_mark_53 (n : Nat) (k0 : Int32 → Int32 → mb_T → Option (Int32 × mb_T)) (y1 : Int32) (y2 : Int32) : Nat → Int32 → Int32 → mb_T → Option (Int32 × mb_T)
  | 0, _, _, _ => none
  | f + 1, w3, w4, s => if (s.1 200 8) ≤ w4 then k0 w3 w4 s else mb_cl (f_M_isBeside n y1 w4 s) fun r_29 s_27 => mb_rd s_27 213 10 w4 fun x_30 => mb_rd s_27 213 10 y1 fun x_33 => mb_jn (fun (x_61 : Int32) (s_62 : mb_T) => f_M_mark_53 n k0 y1 y2 f (w3 + x_61) (w4 + 1) s_62) fun j_39 => mb_jn (fun (s_42 : mb_T) => mb_jn (fun (s_47 : mb_T) => mb_jn (fun (s_51 : mb_T) => if y2 = 4 then (if w4 = y1 then j_39 0 s_51 else mb_rd s_51 212 10 w4 fun x_54 => j_39 (if x_54 = 4 then 1 else 0 : Int32) s_51) else j_39 0 s_51) fun j_48 => if y2 = 3 then (if (if x_30 ≤ x_33 then 0 else 1 : Int32) = 0 then j_48 s_47 else j_39 1 s_47) else j_48 s_47) fun j_43 => if y2 = 2 then (if r_29 = 0 then j_43 s_42 else if (if x_30 ≤ x_33 then 0 else 1 : Int32) = 0 then j_43 s_42 else j_39 1 s_42) else j_43 s_42) fun j_38 => if y2 = 1 then (if r_29 = 0 then j_38 s_27 else j_39 1 s_27) else j_38 s_27
def f_M_mark_168 (n : Nat) (k0 : Int32 → Int32 → mb_T → Option (Int32 × mb_T)) (y1 : Int32) (y2 : Int32) : Nat → Int32 → Int32 → mb_T → Option (Int32 × mb_T)
  | 0, _, _, _ => none
  | f + 1, w3, w4, s => if (s.1 200 24) ≤ w4 then k0 w3 w4 s else if y2 = 5 then (mb_rd s 226 120 w4 fun x_70 => f_M_mark_168 n k0 y1 y2 f (w3 + (if x_70 = y1 then 1 else 0 : Int32)) (w4 + 1) s) else k0 w3 w4 s
def f_M_mark (n : Nat) (x1 : Int32) (x2 : Int32) (s : mb_T) : Option (Int32 × mb_T) := mb_cl (f_M_isOne n x1 s) fun r_3 s_1 => if r_3 = 0 then some ((-1), s_1) else mb_cl (f_M_in n x2 1 5 s_1) fun r_7 s_5 => if r_7 = 0 then some ((-1), s_5) else mb_rd s_5 212 10 x1 fun x_9 => mb_jn (fun (s_25 : mb_T) => f_M_mark_53 n (fun x_65 x_66 s_67 => f_M_mark_168 n (fun x_75 x_76 s_77 => some (x_75, s_77)) x1 x2 n x_65 0 s_67) x1 x2 n 0 0 s_25) fun j_12 => if x_9 = x2 then j_12 s_5 else mb_jn (fun (s_20 : mb_T) => mb_cl (f_M_meet n 3 s_20) fun r_23 s_21 => some (r_23, s_21)) fun j_14 => if x2 = 1 then (mb_cl (f_M_isCalm n x1 s_5) fun r_18 s_16 => if r_18 = 0 then j_14 s_16 else j_12 s_16) else j_14 s_5
set_option maxHeartbeats 4000000 in
set_option maxRecDepth 100000 in
theorem tl_M_mark_53 {dd n : Nat} {K : mj_KT} {out : Int32 × mb_T} (hK : mj_C (dd + 3) 0 0 RM_c "mark" bM_mark 7 K) (hR : mj_R bM_mark (some .int) (fun r2 S2 => r2 = some (.int out.1) ∧ S2 = mb_s out.2) K) {k0 : Int32 → Int32 → mb_T → Option (Int32 × mb_T)} {y1 : Int32} {y2 : Int32} (hk0 : ∀ (w3 : Int32) (w4 : Int32) (s : mb_T), k0 w3 w4 s = some out → K 0 0 165 [.ref 200, .int y1, .int y2, .int w3, .int w4, .retAddr 0, .retAddr 0] [] (mb_s s)) : ∀ (f : Nat) (w3 : Int32) (w4 : Int32) (s : mb_T), f_M_mark_53 n k0 y1 y2 f w3 w4 s = some out → K 0 0 53 [.ref 200, .int y1, .int y2, .int w3, .int w4, .retAddr 0, .retAddr 0] [] (mb_s s) := by
  intro f
  induction f with
  | zero =>
    intro w3 w4 s h
    cases h
  | succ f ih =>
    intro w3 w4 s h
    rw [f_M_mark_53] at h
    refine ro_iload hK dM_mark_53 rfl ?_
    refine ro_aload_n hK dM_mark_55 rfl ?_
    refine rb_get hK fM_161 mb_oM rfl dM_mark_56 ?_
    refine ro_icmp_ge (tgt := 165) hK dM_mark_59 (by decide) (fun c_26 => ?_) (fun c_26 => ?_)
    · replace h := mb_ift c_26 h
      refine ro_fg (lv' := [.ref 200, .int y1, .int y2, .int w3, .int w4, .retAddr 0, .retAddr 0]) hK ⟨Or.inr rfl, ⟨Or.inr rfl, ⟨Or.inr rfl, ⟨Or.inr rfl, ⟨Or.inr rfl, ⟨Or.inl rfl, ⟨Or.inl rfl, trivial⟩⟩⟩⟩⟩⟩⟩ ?_
      exact hk0 _ _ _ h
    · replace h := mb_iff c_26 h
      refine ro_aload_n hK dM_mark_62 rfl ?_
      refine ro_iload_n hK dM_mark_63 rfl ?_
      refine ro_iload hK dM_mark_64 rfl ?_
      obtain ⟨r_29, s_27, q_28, h⟩ := mb_cl_e h
      refine rb_callV hK mM_isBeside vM_192 (t_M_isBeside (dd := dd + 1) q_28) rfl mb_oM rfl (Nat.le_of_ble_eq_true rfl) dM_mark_66 rfl ⟨Nat.le_refl _, Nat.le_refl _⟩ ?_
      show K 0 0 69 [.ref 200, .int y1, .int y2, .int w3, .int w4, .retAddr 0, .retAddr 0] [.int r_29] (mb_s s_27)
      refine ro_istore hK dM_mark_69 (by decide) ?_
      show K 0 0 71 [.ref 200, .int y1, .int y2, .int w3, .int w4, .int r_29, .retAddr 0] [] (mb_s s_27)
      refine ro_aload_n hK dM_mark_71 rfl ?_
      refine rb_get hK fM_31 mb_oM rfl dM_mark_72 ?_
      refine ro_iload hK dM_mark_75 rfl ?_
      obtain ⟨x_30, e_31, i_32, h⟩ := mb_rd_e h
      refine rb_iald hK ai_213 i_32 e_31 dM_mark_77 ?_
      refine ro_aload_n hK dM_mark_78 rfl ?_
      refine rb_get hK fM_31 mb_oM rfl dM_mark_79 ?_
      refine ro_iload_n hK dM_mark_82 rfl ?_
      obtain ⟨x_33, e_34, i_35, h⟩ := mb_rd_e h
      refine rb_iald hK ai_213 i_35 e_34 dM_mark_83 ?_
      have j_37 : ∀ w_ : Int32, w_ = (if x_30 ≤ x_33 then 0 else 1 : Int32) → K 0 0 92 [.ref 200, .int y1, .int y2, .int w3, .int w4, .int r_29, .retAddr 0] [.int w_] (mb_s s_27) → K 0 0 84 [.ref 200, .int y1, .int y2, .int w3, .int w4, .int r_29, .retAddr 0] [.int x_33, .int x_30] (mb_s s_27) := by
        intro w_ hw hj
        refine ro_icmp_le (tgt := 91) hK dM_mark_84 (by decide) (fun c_36 => ?_) (fun c_36 => ?_)
        · skip
          refine ro_iconst (x := 0) hK (by decide) dM_mark_91 ?_
          have hw := (hw.trans (if_pos c_36))
          subst hw
          exact hj
        · skip
          refine ro_iconst (x := 1) hK (by decide) dM_mark_87 ?_
          refine ro_goto (tgt := 92) hK dM_mark_88 (by decide) ?_
          have hw := (hw.trans (if_neg c_36))
          subst hw
          exact hj
      refine j_37 _ rfl ?_
      refine ro_istore hK dM_mark_92 (by decide) ?_
      show K 0 0 94 [.ref 200, .int y1, .int y2, .int w3, .int w4, .int r_29, .int (if x_30 ≤ x_33 then 0 else 1 : Int32)] [] (mb_s s_27)
      refine ro_iload_n hK dM_mark_94 rfl ?_
      refine ro_iload_n hK dM_mark_95 rfl ?_
      refine ro_iconst (x := 1) hK (by decide) dM_mark_96 ?_
      obtain ⟨j_39, e_64, h⟩ := mb_jn_e h
      have hj_39 : ∀ (x_61 : Int32) (s_62 : mb_T), j_39 x_61 s_62 = some out → K 0 0 157 [.ref 200, .int y1, .int y2, .int w3, .int w4, .int r_29, .int (if x_30 ≤ x_33 then 0 else 1 : Int32)] [.int x_61, .int w3] (mb_s s_62) := by
        intro x_61 s_62 h
        rw [e_64] at h
        refine ro_iadd hK dM_mark_157 ?_
        refine ro_istore_n hK dM_mark_158 (by decide) ?_
        show K 0 0 159 [.ref 200, .int y1, .int y2, .int (w3 + x_61), .int w4, .int r_29, .int (if x_30 ≤ x_33 then 0 else 1 : Int32)] [] (mb_s s_62)
        refine ro_iincv (c := 1) hK (by decide) dM_mark_159 rfl (by decide) ?_
        show K 0 0 162 [.ref 200, .int y1, .int y2, .int (w3 + x_61), .int (w4 + 1), .int r_29, .int (if x_30 ≤ x_33 then 0 else 1 : Int32)] [] (mb_s s_62)
        refine ro_goto (tgt := 53) hK dM_mark_162 (by decide) ?_
        refine ro_fg (lv' := [.ref 200, .int y1, .int y2, .int (w3 + x_61), .int (w4 + 1), .retAddr 0, .retAddr 0]) hK ⟨Or.inr rfl, ⟨Or.inr rfl, ⟨Or.inr rfl, ⟨Or.inr rfl, ⟨Or.inr rfl, ⟨Or.inl rfl, ⟨Or.inl rfl, trivial⟩⟩⟩⟩⟩⟩⟩ ?_
        exact ih _ _ _ h
      obtain ⟨j_38, e_63, h⟩ := mb_jn_e h
      have hj_38 : ∀ (s_42 : mb_T), j_38 s_42 = some out → K 0 0 105 [.ref 200, .int y1, .int y2, .int w3, .int w4, .int r_29, .int (if x_30 ≤ x_33 then 0 else 1 : Int32)] [.int w3] (mb_s s_42) := by
        intro s_42 h
        rw [e_63] at h
        refine ro_iload_n hK dM_mark_105 rfl ?_
        refine ro_iconst (x := 2) hK (by decide) dM_mark_106 ?_
        obtain ⟨j_43, e_60, h⟩ := mb_jn_e h
        have hj_43 : ∀ (s_47 : mb_T), j_43 s_47 = some out → K 0 0 120 [.ref 200, .int y1, .int y2, .int w3, .int w4, .int r_29, .int (if x_30 ≤ x_33 then 0 else 1 : Int32)] [.int w3] (mb_s s_47) := by
          intro s_47 h
          rw [e_60] at h
          refine ro_iload_n hK dM_mark_120 rfl ?_
          refine ro_iconst (x := 3) hK (by decide) dM_mark_121 ?_
          obtain ⟨j_48, e_59, h⟩ := mb_jn_e h
          have hj_48 : ∀ (s_51 : mb_T), j_48 s_51 = some out → K 0 0 130 [.ref 200, .int y1, .int y2, .int w3, .int w4, .int r_29, .int (if x_30 ≤ x_33 then 0 else 1 : Int32)] [.int w3] (mb_s s_51) := by
            intro s_51 h
            rw [e_59] at h
            refine ro_iload_n hK dM_mark_130 rfl ?_
            refine ro_iconst (x := 4) hK (by decide) dM_mark_131 ?_
            refine ro_icmp_ne (tgt := 156) hK dM_mark_132 (by decide) (fun c_52 => ?_) (fun c_52 => ?_)
            · replace h := mb_iff c_52 h
              refine ro_iconst (x := 0) hK (by decide) dM_mark_156 ?_
              refine ro_fg (lv' := [.ref 200, .int y1, .int y2, .int w3, .int w4, .int r_29, .int (if x_30 ≤ x_33 then 0 else 1 : Int32)]) hK ⟨Or.inr rfl, ⟨Or.inr rfl, ⟨Or.inr rfl, ⟨Or.inr rfl, ⟨Or.inr rfl, ⟨Or.inr rfl, ⟨Or.inr rfl, trivial⟩⟩⟩⟩⟩⟩⟩ ?_
              exact hj_39 _ _ h
            · replace h := mb_ift c_52 h
              refine ro_iload hK dM_mark_135 rfl ?_
              refine ro_iload_n hK dM_mark_137 rfl ?_
              refine ro_icmp_eq (tgt := 156) hK dM_mark_138 (by decide) (fun c_53 => ?_) (fun c_53 => ?_)
              · replace h := mb_ift c_53 h
                refine ro_iconst (x := 0) hK (by decide) dM_mark_156 ?_
                refine ro_fg (lv' := [.ref 200, .int y1, .int y2, .int w3, .int w4, .int r_29, .int (if x_30 ≤ x_33 then 0 else 1 : Int32)]) hK ⟨Or.inr rfl, ⟨Or.inr rfl, ⟨Or.inr rfl, ⟨Or.inr rfl, ⟨Or.inr rfl, ⟨Or.inr rfl, ⟨Or.inr rfl, trivial⟩⟩⟩⟩⟩⟩⟩ ?_
                exact hj_39 _ _ h
              · replace h := mb_iff c_53 h
                refine ro_aload_n hK dM_mark_141 rfl ?_
                refine rb_get hK fM_28 mb_oM rfl dM_mark_142 ?_
                refine ro_iload hK dM_mark_145 rfl ?_
                obtain ⟨x_54, e_55, i_56, h⟩ := mb_rd_e h
                refine rb_iald hK ai_212 i_56 e_55 dM_mark_147 ?_
                refine ro_iconst (x := 4) hK (by decide) dM_mark_148 ?_
                have j_58 : ∀ w_ : Int32, w_ = (if x_54 = 4 then 1 else 0 : Int32) → K 0 0 157 [.ref 200, .int y1, .int y2, .int w3, .int w4, .int r_29, .int (if x_30 ≤ x_33 then 0 else 1 : Int32)] [.int w_, .int w3] (mb_s s_51) → K 0 0 149 [.ref 200, .int y1, .int y2, .int w3, .int w4, .int r_29, .int (if x_30 ≤ x_33 then 0 else 1 : Int32)] [.int 4, .int x_54, .int w3] (mb_s s_51) := by
                  intro w_ hw hj
                  refine ro_icmp_ne (tgt := 156) hK dM_mark_149 (by decide) (fun c_57 => ?_) (fun c_57 => ?_)
                  · skip
                    refine ro_iconst (x := 0) hK (by decide) dM_mark_156 ?_
                    have hw := (hw.trans (if_neg c_57))
                    subst hw
                    exact hj
                  · skip
                    refine ro_iconst (x := 1) hK (by decide) dM_mark_152 ?_
                    refine ro_goto (tgt := 157) hK dM_mark_153 (by decide) ?_
                    have hw := (hw.trans (if_pos c_57))
                    subst hw
                    exact hj
                refine j_58 _ rfl ?_
                refine ro_fg (lv' := [.ref 200, .int y1, .int y2, .int w3, .int w4, .int r_29, .int (if x_30 ≤ x_33 then 0 else 1 : Int32)]) hK ⟨Or.inr rfl, ⟨Or.inr rfl, ⟨Or.inr rfl, ⟨Or.inr rfl, ⟨Or.inr rfl, ⟨Or.inr rfl, ⟨Or.inr rfl, trivial⟩⟩⟩⟩⟩⟩⟩ ?_
                exact hj_39 _ _ h
          refine ro_icmp_ne (tgt := 130) hK dM_mark_122 (by decide) (fun c_49 => ?_) (fun c_49 => ?_)
          · replace h := mb_iff c_49 h
            refine ro_fg (lv' := [.ref 200, .int y1, .int y2, .int w3, .int w4, .int r_29, .int (if x_30 ≤ x_33 then 0 else 1 : Int32)]) hK ⟨Or.inr rfl, ⟨Or.inr rfl, ⟨Or.inr rfl, ⟨Or.inr rfl, ⟨Or.inr rfl, ⟨Or.inr rfl, ⟨Or.inr rfl, trivial⟩⟩⟩⟩⟩⟩⟩ ?_
            exact hj_48 _ h
          · replace h := mb_ift c_49 h
            refine ro_iload hK dM_mark_125 rfl ?_
            refine ro_if_ne (tgt := 152) hK dM_mark_127 (by decide) (fun c_50 => ?_) (fun c_50 => ?_)
            · replace h := mb_iff c_50 h
              refine ro_iconst (x := 1) hK (by decide) dM_mark_152 ?_
              refine ro_goto (tgt := 157) hK dM_mark_153 (by decide) ?_
              refine ro_fg (lv' := [.ref 200, .int y1, .int y2, .int w3, .int w4, .int r_29, .int (if x_30 ≤ x_33 then 0 else 1 : Int32)]) hK ⟨Or.inr rfl, ⟨Or.inr rfl, ⟨Or.inr rfl, ⟨Or.inr rfl, ⟨Or.inr rfl, ⟨Or.inr rfl, ⟨Or.inr rfl, trivial⟩⟩⟩⟩⟩⟩⟩ ?_
              exact hj_39 _ _ h
            · replace h := mb_ift c_50 h
              refine ro_fg (lv' := [.ref 200, .int y1, .int y2, .int w3, .int w4, .int r_29, .int (if x_30 ≤ x_33 then 0 else 1 : Int32)]) hK ⟨Or.inr rfl, ⟨Or.inr rfl, ⟨Or.inr rfl, ⟨Or.inr rfl, ⟨Or.inr rfl, ⟨Or.inr rfl, ⟨Or.inr rfl, trivial⟩⟩⟩⟩⟩⟩⟩ ?_
              exact hj_48 _ h
        refine ro_icmp_ne (tgt := 120) hK dM_mark_107 (by decide) (fun c_44 => ?_) (fun c_44 => ?_)
        · replace h := mb_iff c_44 h
          refine ro_fg (lv' := [.ref 200, .int y1, .int y2, .int w3, .int w4, .int r_29, .int (if x_30 ≤ x_33 then 0 else 1 : Int32)]) hK ⟨Or.inr rfl, ⟨Or.inr rfl, ⟨Or.inr rfl, ⟨Or.inr rfl, ⟨Or.inr rfl, ⟨Or.inr rfl, ⟨Or.inr rfl, trivial⟩⟩⟩⟩⟩⟩⟩ ?_
          exact hj_43 _ h
        · replace h := mb_ift c_44 h
          refine ro_iload hK dM_mark_110 rfl ?_
          refine ro_if_eq (tgt := 120) hK dM_mark_112 (by decide) (fun c_45 => ?_) (fun c_45 => ?_)
          · replace h := mb_ift c_45 h
            refine ro_fg (lv' := [.ref 200, .int y1, .int y2, .int w3, .int w4, .int r_29, .int (if x_30 ≤ x_33 then 0 else 1 : Int32)]) hK ⟨Or.inr rfl, ⟨Or.inr rfl, ⟨Or.inr rfl, ⟨Or.inr rfl, ⟨Or.inr rfl, ⟨Or.inr rfl, ⟨Or.inr rfl, trivial⟩⟩⟩⟩⟩⟩⟩ ?_
            exact hj_43 _ h
          · replace h := mb_iff c_45 h
            refine ro_iload hK dM_mark_115 rfl ?_
            refine ro_if_ne (tgt := 152) hK dM_mark_117 (by decide) (fun c_46 => ?_) (fun c_46 => ?_)
            · replace h := mb_iff c_46 h
              refine ro_iconst (x := 1) hK (by decide) dM_mark_152 ?_
              refine ro_goto (tgt := 157) hK dM_mark_153 (by decide) ?_
              refine ro_fg (lv' := [.ref 200, .int y1, .int y2, .int w3, .int w4, .int r_29, .int (if x_30 ≤ x_33 then 0 else 1 : Int32)]) hK ⟨Or.inr rfl, ⟨Or.inr rfl, ⟨Or.inr rfl, ⟨Or.inr rfl, ⟨Or.inr rfl, ⟨Or.inr rfl, ⟨Or.inr rfl, trivial⟩⟩⟩⟩⟩⟩⟩ ?_
              exact hj_39 _ _ h
            · replace h := mb_ift c_46 h
              refine ro_fg (lv' := [.ref 200, .int y1, .int y2, .int w3, .int w4, .int r_29, .int (if x_30 ≤ x_33 then 0 else 1 : Int32)]) hK ⟨Or.inr rfl, ⟨Or.inr rfl, ⟨Or.inr rfl, ⟨Or.inr rfl, ⟨Or.inr rfl, ⟨Or.inr rfl, ⟨Or.inr rfl, trivial⟩⟩⟩⟩⟩⟩⟩ ?_
              exact hj_43 _ h
      refine ro_icmp_ne (tgt := 105) hK dM_mark_97 (by decide) (fun c_40 => ?_) (fun c_40 => ?_)
      · replace h := mb_iff c_40 h
        refine ro_fg (lv' := [.ref 200, .int y1, .int y2, .int w3, .int w4, .int r_29, .int (if x_30 ≤ x_33 then 0 else 1 : Int32)]) hK ⟨Or.inr rfl, ⟨Or.inr rfl, ⟨Or.inr rfl, ⟨Or.inr rfl, ⟨Or.inr rfl, ⟨Or.inr rfl, ⟨Or.inr rfl, trivial⟩⟩⟩⟩⟩⟩⟩ ?_
        exact hj_38 _ h
      · replace h := mb_ift c_40 h
        refine ro_iload hK dM_mark_100 rfl ?_
        refine ro_if_ne (tgt := 152) hK dM_mark_102 (by decide) (fun c_41 => ?_) (fun c_41 => ?_)
        · replace h := mb_iff c_41 h
          refine ro_iconst (x := 1) hK (by decide) dM_mark_152 ?_
          refine ro_goto (tgt := 157) hK dM_mark_153 (by decide) ?_
          refine ro_fg (lv' := [.ref 200, .int y1, .int y2, .int w3, .int w4, .int r_29, .int (if x_30 ≤ x_33 then 0 else 1 : Int32)]) hK ⟨Or.inr rfl, ⟨Or.inr rfl, ⟨Or.inr rfl, ⟨Or.inr rfl, ⟨Or.inr rfl, ⟨Or.inr rfl, ⟨Or.inr rfl, trivial⟩⟩⟩⟩⟩⟩⟩ ?_
          exact hj_39 _ _ h
        · replace h := mb_ift c_41 h
          refine ro_fg (lv' := [.ref 200, .int y1, .int y2, .int w3, .int w4, .int r_29, .int (if x_30 ≤ x_33 then 0 else 1 : Int32)]) hK ⟨Or.inr rfl, ⟨Or.inr rfl, ⟨Or.inr rfl, ⟨Or.inr rfl, ⟨Or.inr rfl, ⟨Or.inr rfl, ⟨Or.inr rfl, trivial⟩⟩⟩⟩⟩⟩⟩ ?_
          exact hj_38 _ h
set_option maxHeartbeats 4000000 in
set_option maxRecDepth 100000 in
theorem tl_M_mark_168 {dd n : Nat} {K : mj_KT} {out : Int32 × mb_T} (hK : mj_C (dd + 3) 0 0 RM_c "mark" bM_mark 7 K) (hR : mj_R bM_mark (some .int) (fun r2 S2 => r2 = some (.int out.1) ∧ S2 = mb_s out.2) K) {k0 : Int32 → Int32 → mb_T → Option (Int32 × mb_T)} {y1 : Int32} {y2 : Int32} (hk0 : ∀ (w3 : Int32) (w4 : Int32) (s : mb_T), k0 w3 w4 s = some out → K 0 0 207 [.ref 200, .int y1, .int y2, .int w3, .int w4, .retAddr 0, .retAddr 0] [] (mb_s s)) : ∀ (f : Nat) (w3 : Int32) (w4 : Int32) (s : mb_T), f_M_mark_168 n k0 y1 y2 f w3 w4 s = some out → K 0 0 168 [.ref 200, .int y1, .int y2, .int w3, .int w4, .retAddr 0, .retAddr 0] [] (mb_s s) := by
  intro f
  induction f with
  | zero =>
    intro w3 w4 s h
    cases h
  | succ f ih =>
    intro w3 w4 s h
    rw [f_M_mark_168] at h
    refine ro_iload hK dM_mark_168 rfl ?_
    refine ro_aload_n hK dM_mark_170 rfl ?_
    refine rb_get hK fM_173 mb_oM rfl dM_mark_171 ?_
    refine ro_icmp_ge (tgt := 207) hK dM_mark_174 (by decide) (fun c_68 => ?_) (fun c_68 => ?_)
    · replace h := mb_ift c_68 h
      refine ro_fg (lv' := [.ref 200, .int y1, .int y2, .int w3, .int w4, .retAddr 0, .retAddr 0]) hK ⟨Or.inr rfl, ⟨Or.inr rfl, ⟨Or.inr rfl, ⟨Or.inr rfl, ⟨Or.inr rfl, ⟨Or.inl rfl, ⟨Or.inl rfl, trivial⟩⟩⟩⟩⟩⟩⟩ ?_
      exact hk0 _ _ _ h
    · replace h := mb_iff c_68 h
      refine ro_iload_n hK dM_mark_177 rfl ?_
      refine ro_iconst (x := 5) hK (by decide) dM_mark_178 ?_
      refine ro_icmp_ne (tgt := 207) hK dM_mark_179 (by decide) (fun c_69 => ?_) (fun c_69 => ?_)
      · replace h := mb_iff c_69 h
        refine ro_fg (lv' := [.ref 200, .int y1, .int y2, .int w3, .int w4, .retAddr 0, .retAddr 0]) hK ⟨Or.inr rfl, ⟨Or.inr rfl, ⟨Or.inr rfl, ⟨Or.inr rfl, ⟨Or.inr rfl, ⟨Or.inl rfl, ⟨Or.inl rfl, trivial⟩⟩⟩⟩⟩⟩⟩ ?_
        exact hk0 _ _ _ h
      · replace h := mb_ift c_69 h
        refine ro_iload_n hK dM_mark_182 rfl ?_
        refine ro_aload_n hK dM_mark_183 rfl ?_
        refine rb_get hK fM_53 mb_oM rfl dM_mark_184 ?_
        refine ro_iload hK dM_mark_187 rfl ?_
        obtain ⟨x_70, e_71, i_72, h⟩ := mb_rd_e h
        refine rb_iald hK ai_226 i_72 e_71 dM_mark_189 ?_
        refine ro_iload_n hK dM_mark_190 rfl ?_
        have j_74 : ∀ w_ : Int32, w_ = (if x_70 = y1 then 1 else 0 : Int32) → K 0 0 199 [.ref 200, .int y1, .int y2, .int w3, .int w4, .retAddr 0, .retAddr 0] [.int w_, .int w3] (mb_s s) → K 0 0 191 [.ref 200, .int y1, .int y2, .int w3, .int w4, .retAddr 0, .retAddr 0] [.int y1, .int x_70, .int w3] (mb_s s) := by
          intro w_ hw hj
          refine ro_icmp_ne (tgt := 198) hK dM_mark_191 (by decide) (fun c_73 => ?_) (fun c_73 => ?_)
          · skip
            refine ro_iconst (x := 0) hK (by decide) dM_mark_198 ?_
            have hw := (hw.trans (if_neg c_73))
            subst hw
            exact hj
          · skip
            refine ro_iconst (x := 1) hK (by decide) dM_mark_194 ?_
            refine ro_goto (tgt := 199) hK dM_mark_195 (by decide) ?_
            have hw := (hw.trans (if_pos c_73))
            subst hw
            exact hj
        refine j_74 _ rfl ?_
        refine ro_iadd hK dM_mark_199 ?_
        refine ro_istore_n hK dM_mark_200 (by decide) ?_
        show K 0 0 201 [.ref 200, .int y1, .int y2, .int (w3 + (if x_70 = y1 then 1 else 0 : Int32)), .int w4, .retAddr 0, .retAddr 0] [] (mb_s s)
        refine ro_iincv (c := 1) hK (by decide) dM_mark_201 rfl (by decide) ?_
        show K 0 0 204 [.ref 200, .int y1, .int y2, .int (w3 + (if x_70 = y1 then 1 else 0 : Int32)), .int (w4 + 1), .retAddr 0, .retAddr 0] [] (mb_s s)
        refine ro_goto (tgt := 168) hK dM_mark_204 (by decide) ?_
        refine ro_fg (lv' := [.ref 200, .int y1, .int y2, .int (w3 + (if x_70 = y1 then 1 else 0 : Int32)), .int (w4 + 1), .retAddr 0, .retAddr 0]) hK ⟨Or.inr rfl, ⟨Or.inr rfl, ⟨Or.inr rfl, ⟨Or.inr rfl, ⟨Or.inr rfl, ⟨Or.inl rfl, ⟨Or.inl rfl, trivial⟩⟩⟩⟩⟩⟩⟩ ?_
        exact ih _ _ _ h
set_option maxHeartbeats 4000000 in
set_option maxRecDepth 100000 in
theorem t_M_mark {dd n : Nat} {x1 : Int32} {x2 : Int32} {s : mb_T} {out : Int32 × mb_T}  (h : f_M_mark n x1 x2 s = some out) : mb_MC (dd + 3) yM_mark bM_mark 7 (some .int) [.ref 200, .int x1, .int x2] s (some (.int out.1)) out.2 := by
  unfold f_M_mark at h
  refine mj_mc (lv := [.ref 200, .int x1, .int x2, .retAddr 0, .retAddr 0, .retAddr 0, .retAddr 0]) mM_mark rfl rfl (Nat.le_of_ble_eq_true rfl) (fun K hK hR => ?_)
  have hK : mj_C (dd + 3) 0 0 RM_c "mark" bM_mark 7 K := hK
  refine ro_aload_n hK dM_mark_0 rfl ?_
  refine ro_iload_n hK dM_mark_1 rfl ?_
  obtain ⟨r_3, s_1, q_2, h⟩ := mb_cl_e h
  refine rb_callV hK mM_isOne vM_183 (t_M_isOne (dd := dd + 0) q_2) rfl mb_oM rfl (Nat.le_of_ble_eq_true rfl) dM_mark_2 rfl ⟨Nat.le_refl _, Nat.le_refl _⟩ ?_
  show K 0 0 5 [.ref 200, .int x1, .int x2, .retAddr 0, .retAddr 0, .retAddr 0, .retAddr 0] [.int r_3] (mb_s s_1)
  refine ro_if_eq (tgt := 17) hK dM_mark_5 (by decide) (fun c_4 => ?_) (fun c_4 => ?_)
  · replace h := mb_ift c_4 h
    refine ro_iconst (x := (-1)) hK (by decide) dM_mark_17 ?_
    cases h
    exact hR.1 0 0 18 _ _ _ _ rfl rfl dM_mark_18 ⟨rfl, rfl⟩
  · replace h := mb_iff c_4 h
    refine ro_iload_n hK dM_mark_8 rfl ?_
    refine ro_iconst (x := 1) hK (by decide) dM_mark_9 ?_
    refine ro_iconst (x := 5) hK (by decide) dM_mark_10 ?_
    obtain ⟨r_7, s_5, q_6, h⟩ := mb_cl_e h
    refine rb_callS hK mM_in vM_92 (t_M_in (dd := dd + 1) q_6) rfl (Nat.le_of_ble_eq_true rfl) dM_mark_11 rfl ⟨Nat.le_refl _, Nat.le_refl _⟩ ?_
    show K 0 0 14 [.ref 200, .int x1, .int x2, .retAddr 0, .retAddr 0, .retAddr 0, .retAddr 0] [.int r_7] (mb_s s_5)
    refine ro_if_ne (tgt := 19) hK dM_mark_14 (by decide) (fun c_8 => ?_) (fun c_8 => ?_)
    · replace h := mb_iff c_8 h
      refine ro_aload_n hK dM_mark_19 rfl ?_
      refine rb_get hK fM_28 mb_oM rfl dM_mark_20 ?_
      refine ro_iload_n hK dM_mark_23 rfl ?_
      obtain ⟨x_9, e_10, i_11, h⟩ := mb_rd_e h
      refine rb_iald hK ai_212 i_11 e_10 dM_mark_24 ?_
      refine ro_iload_n hK dM_mark_25 rfl ?_
      obtain ⟨j_12, e_78, h⟩ := mb_jn_e h
      have hj_12 : ∀ (s_25 : mb_T), j_12 s_25 = some out → K 0 0 48 [.ref 200, .int x1, .int x2, .retAddr 0, .retAddr 0, .retAddr 0, .retAddr 0] [] (mb_s s_25) := by
        intro s_25 h
        rw [e_78] at h
        refine ro_iconst (x := 0) hK (by decide) dM_mark_48 ?_
        refine ro_istore_n hK dM_mark_49 (by decide) ?_
        show K 0 0 50 [.ref 200, .int x1, .int x2, .int 0, .retAddr 0, .retAddr 0, .retAddr 0] [] (mb_s s_25)
        refine ro_iconst (x := 0) hK (by decide) dM_mark_50 ?_
        refine ro_istore hK dM_mark_51 (by decide) ?_
        show K 0 0 53 [.ref 200, .int x1, .int x2, .int 0, .int 0, .retAddr 0, .retAddr 0] [] (mb_s s_25)
        refine ro_fg (lv' := [.ref 200, .int x1, .int x2, .int 0, .int 0, .retAddr 0, .retAddr 0]) hK ⟨Or.inr rfl, ⟨Or.inr rfl, ⟨Or.inr rfl, ⟨Or.inr rfl, ⟨Or.inr rfl, ⟨Or.inl rfl, ⟨Or.inl rfl, trivial⟩⟩⟩⟩⟩⟩⟩ ?_
        refine tl_M_mark_53 (dd := dd) hK hR (fun x_65 x_66 s_67 h => ?_) n _ _ _ h
        refine ro_iconst (x := 0) hK (by decide) dM_mark_165 ?_
        refine ro_istore hK dM_mark_166 (by decide) ?_
        show K 0 0 168 [.ref 200, .int x1, .int x2, .int x_65, .int 0, .retAddr 0, .retAddr 0] [] (mb_s s_67)
        refine ro_fg (lv' := [.ref 200, .int x1, .int x2, .int x_65, .int 0, .retAddr 0, .retAddr 0]) hK ⟨Or.inr rfl, ⟨Or.inr rfl, ⟨Or.inr rfl, ⟨Or.inr rfl, ⟨Or.inr rfl, ⟨Or.inl rfl, ⟨Or.inl rfl, trivial⟩⟩⟩⟩⟩⟩⟩ ?_
        refine tl_M_mark_168 (dd := dd) hK hR (fun x_75 x_76 s_77 h => ?_) n _ _ _ h
        refine ro_iload_n hK dM_mark_207 rfl ?_
        cases h
        exact hR.1 0 0 208 _ _ _ _ rfl rfl dM_mark_208 ⟨rfl, rfl⟩
      refine ro_icmp_eq (tgt := 48) hK dM_mark_26 (by decide) (fun c_13 => ?_) (fun c_13 => ?_)
      · replace h := mb_ift c_13 h
        refine ro_fg (lv' := [.ref 200, .int x1, .int x2, .retAddr 0, .retAddr 0, .retAddr 0, .retAddr 0]) hK ⟨Or.inr rfl, ⟨Or.inr rfl, ⟨Or.inr rfl, ⟨Or.inl rfl, ⟨Or.inl rfl, ⟨Or.inl rfl, ⟨Or.inl rfl, trivial⟩⟩⟩⟩⟩⟩⟩ ?_
        exact hj_12 _ h
      · replace h := mb_iff c_13 h
        refine ro_iload_n hK dM_mark_29 rfl ?_
        refine ro_iconst (x := 1) hK (by decide) dM_mark_30 ?_
        obtain ⟨j_14, e_24, h⟩ := mb_jn_e h
        have hj_14 : ∀ (s_20 : mb_T), j_14 s_20 = some out → K 0 0 42 [.ref 200, .int x1, .int x2, .retAddr 0, .retAddr 0, .retAddr 0, .retAddr 0] [] (mb_s s_20) := by
          intro s_20 h
          rw [e_24] at h
          refine ro_aload_n hK dM_mark_42 rfl ?_
          refine ro_iconst (x := 3) hK (by decide) dM_mark_43 ?_
          obtain ⟨r_23, s_21, q_22, h⟩ := mb_cl_e h
          refine rb_callV hK mM_meet vM_100 (t_M_meet (dd := dd + 1) q_22) rfl mb_oM rfl (Nat.le_of_ble_eq_true rfl) dM_mark_44 rfl ⟨Nat.le_refl _, Nat.le_refl _⟩ ?_
          show K 0 0 47 [.ref 200, .int x1, .int x2, .retAddr 0, .retAddr 0, .retAddr 0, .retAddr 0] [.int r_23] (mb_s s_21)
          cases h
          exact hR.1 0 0 47 _ _ _ _ rfl rfl dM_mark_47 ⟨rfl, rfl⟩
        refine ro_icmp_ne (tgt := 42) hK dM_mark_31 (by decide) (fun c_15 => ?_) (fun c_15 => ?_)
        · replace h := mb_iff c_15 h
          refine ro_fg (lv' := [.ref 200, .int x1, .int x2, .retAddr 0, .retAddr 0, .retAddr 0, .retAddr 0]) hK ⟨Or.inr rfl, ⟨Or.inr rfl, ⟨Or.inr rfl, ⟨Or.inl rfl, ⟨Or.inl rfl, ⟨Or.inl rfl, ⟨Or.inl rfl, trivial⟩⟩⟩⟩⟩⟩⟩ ?_
          exact hj_14 _ h
        · replace h := mb_ift c_15 h
          refine ro_aload_n hK dM_mark_34 rfl ?_
          refine ro_iload_n hK dM_mark_35 rfl ?_
          obtain ⟨r_18, s_16, q_17, h⟩ := mb_cl_e h
          refine rb_callV hK mM_isCalm vM_189 (t_M_isCalm (dd := dd + 1) q_17) rfl mb_oM rfl (Nat.le_of_ble_eq_true rfl) dM_mark_36 rfl ⟨Nat.le_refl _, Nat.le_refl _⟩ ?_
          show K 0 0 39 [.ref 200, .int x1, .int x2, .retAddr 0, .retAddr 0, .retAddr 0, .retAddr 0] [.int r_18] (mb_s s_16)
          refine ro_if_ne (tgt := 48) hK dM_mark_39 (by decide) (fun c_19 => ?_) (fun c_19 => ?_)
          · replace h := mb_iff c_19 h
            refine ro_fg (lv' := [.ref 200, .int x1, .int x2, .retAddr 0, .retAddr 0, .retAddr 0, .retAddr 0]) hK ⟨Or.inr rfl, ⟨Or.inr rfl, ⟨Or.inr rfl, ⟨Or.inl rfl, ⟨Or.inl rfl, ⟨Or.inl rfl, ⟨Or.inl rfl, trivial⟩⟩⟩⟩⟩⟩⟩ ?_
            exact hj_12 _ h
          · replace h := mb_ift c_19 h
            refine ro_fg (lv' := [.ref 200, .int x1, .int x2, .retAddr 0, .retAddr 0, .retAddr 0, .retAddr 0]) hK ⟨Or.inr rfl, ⟨Or.inr rfl, ⟨Or.inr rfl, ⟨Or.inl rfl, ⟨Or.inl rfl, ⟨Or.inl rfl, ⟨Or.inl rfl, trivial⟩⟩⟩⟩⟩⟩⟩ ?_
            exact hj_14 _ h
    · replace h := mb_ift c_8 h
      refine ro_iconst (x := (-1)) hK (by decide) dM_mark_17 ?_
      cases h
      exact hR.1 0 0 18 _ _ _ _ rfl rfl dM_mark_18 ⟨rfl, rfl⟩
theorem dM_mostOf_0 : decode bM_mostOf 0 = .ok (.bipush (-9), 2) := by decide +kernel
theorem dM_mostOf_2 : decode bM_mostOf 2 = .ok (.istore_n 2, 1) := by decide +kernel
theorem dM_mostOf_3 : decode bM_mostOf 3 = .ok (.iconst 0, 1) := by decide +kernel
theorem dM_mostOf_4 : decode bM_mostOf 4 = .ok (.istore_n 3, 1) := by decide +kernel
theorem dM_mostOf_5 : decode bM_mostOf 5 = .ok (.iload_n 3, 1) := by decide +kernel
theorem dM_mostOf_6 : decode bM_mostOf 6 = .ok (.aload_n 0, 1) := by decide +kernel
theorem dM_mostOf_7 : decode bM_mostOf 7 = .ok (.getfield 161, 3) := by decide +kernel
theorem dM_mostOf_10 : decode bM_mostOf 10 = .ok (.if_icmp .ge 42, 3) := by decide +kernel
theorem dM_mostOf_13 : decode bM_mostOf 13 = .ok (.iload_n 1, 1) := by decide +kernel
theorem dM_mostOf_14 : decode bM_mostOf 14 = .ok (.iload_n 3, 1) := by decide +kernel
theorem dM_mostOf_15 : decode bM_mostOf 15 = .ok (.invokestatic 176, 3) := by decide +kernel
theorem dM_mostOf_18 : decode bM_mostOf 18 = .ok (.ifCond .eq 26, 3) := by decide +kernel
theorem dM_mostOf_21 : decode bM_mostOf 21 = .ok (.iload_n 2, 1) := by decide +kernel
theorem dM_mostOf_22 : decode bM_mostOf 22 = .ok (.bipush (-9), 2) := by decide +kernel
theorem dM_mostOf_24 : decode bM_mostOf 24 = .ok (.if_icmp .eq 16, 3) := by decide +kernel
theorem dM_mostOf_27 : decode bM_mostOf 27 = .ok (.aload_n 0, 1) := by decide +kernel
theorem dM_mostOf_28 : decode bM_mostOf 28 = .ok (.iload_n 3, 1) := by decide +kernel
theorem dM_mostOf_29 : decode bM_mostOf 29 = .ok (.invokevirtual 180, 3) := by decide +kernel
theorem dM_mostOf_32 : decode bM_mostOf 32 = .ok (.aload_n 0, 1) := by decide +kernel
theorem dM_mostOf_33 : decode bM_mostOf 33 = .ok (.iload_n 2, 1) := by decide +kernel
theorem dM_mostOf_34 : decode bM_mostOf 34 = .ok (.invokevirtual 180, 3) := by decide +kernel
theorem dM_mostOf_37 : decode bM_mostOf 37 = .ok (.if_icmp .le 7, 3) := by decide +kernel
theorem dM_mostOf_40 : decode bM_mostOf 40 = .ok (.iload_n 3, 1) := by decide +kernel
theorem dM_mostOf_41 : decode bM_mostOf 41 = .ok (.goto 4, 3) := by decide +kernel
theorem dM_mostOf_44 : decode bM_mostOf 44 = .ok (.iload_n 2, 1) := by decide +kernel
theorem dM_mostOf_45 : decode bM_mostOf 45 = .ok (.istore_n 2, 1) := by decide +kernel
theorem dM_mostOf_46 : decode bM_mostOf 46 = .ok (.iinc 3 1, 3) := by decide +kernel
theorem dM_mostOf_49 : decode bM_mostOf 49 = .ok (.goto (-44), 3) := by decide +kernel
theorem dM_mostOf_52 : decode bM_mostOf 52 = .ok (.iload_n 2, 1) := by decide +kernel
theorem dM_mostOf_53 : decode bM_mostOf 53 = .ok (.ireturn, 1) := by decide +kernel
def f_M_mostOf_5 (n : Nat) (k0 : Int32 → Int32 → mb_T → Option (Int32 × mb_T)) (y1 : Int32) : Nat → Int32 → Int32 → mb_T → Option (Int32 × mb_T)
  | 0, _, _, _ => none
  | f + 1, w2, w3, s => if (s.1 200 8) ≤ w3 then k0 w2 w3 s else mb_cl (f_M_has n y1 w3 s) fun r_4 s_2 => if r_4 = 0 then f_M_mostOf_5 n k0 y1 f w2 (w3 + 1) s_2 else if w2 = (-9) then f_M_mostOf_5 n k0 y1 f w3 (w3 + 1) s_2 else mb_cl (f_M_showsOf n w3 s_2) fun r_9 s_7 => mb_cl (f_M_showsOf n w2 s_7) fun r_12 s_10 => f_M_mostOf_5 n k0 y1 f (if r_9 ≤ r_12 then w2 else w3 : Int32) (w3 + 1) s_10
def f_M_mostOf (n : Nat) (x1 : Int32) (s : mb_T) : Option (Int32 × mb_T) := f_M_mostOf_5 n (fun x_15 x_16 s_17 => some (x_15, s_17)) x1 n (-9) 0 s
set_option maxHeartbeats 4000000 in
set_option maxRecDepth 100000 in
theorem tl_M_mostOf_5 {dd n : Nat} {K : mj_KT} {out : Int32 × mb_T} (hK : mj_C (dd + 3) 0 0 RM_c "mostOf" bM_mostOf 4 K) (hR : mj_R bM_mostOf (some .int) (fun r2 S2 => r2 = some (.int out.1) ∧ S2 = mb_s out.2) K) {k0 : Int32 → Int32 → mb_T → Option (Int32 × mb_T)} {y1 : Int32} (hk0 : ∀ (w2 : Int32) (w3 : Int32) (s : mb_T), k0 w2 w3 s = some out → K 0 0 52 [.ref 200, .int y1, .int w2, .int w3] [] (mb_s s)) : ∀ (f : Nat) (w2 : Int32) (w3 : Int32) (s : mb_T), f_M_mostOf_5 n k0 y1 f w2 w3 s = some out → K 0 0 5 [.ref 200, .int y1, .int w2, .int w3] [] (mb_s s) := by
  intro f
  induction f with
  | zero =>
    intro w2 w3 s h
    cases h
  | succ f ih =>
    intro w2 w3 s h
    rw [f_M_mostOf_5] at h
    refine ro_iload_n hK dM_mostOf_5 rfl ?_
    refine ro_aload_n hK dM_mostOf_6 rfl ?_
    refine rb_get hK fM_161 mb_oM rfl dM_mostOf_7 ?_
    refine ro_icmp_ge (tgt := 52) hK dM_mostOf_10 (by decide) (fun c_1 => ?_) (fun c_1 => ?_)
    · replace h := mb_ift c_1 h
      refine ro_fg (lv' := [.ref 200, .int y1, .int w2, .int w3]) hK ⟨Or.inr rfl, ⟨Or.inr rfl, ⟨Or.inr rfl, ⟨Or.inr rfl, trivial⟩⟩⟩⟩ ?_
      exact hk0 _ _ _ h
    · replace h := mb_iff c_1 h
      refine ro_iload_n hK dM_mostOf_13 rfl ?_
      refine ro_iload_n hK dM_mostOf_14 rfl ?_
      obtain ⟨r_4, s_2, q_3, h⟩ := mb_cl_e h
      refine rb_callS hK mM_has vM_176 (t_M_has (dd := dd + 1) q_3) rfl (Nat.le_of_ble_eq_true rfl) dM_mostOf_15 rfl ⟨Nat.le_refl _, Nat.le_refl _⟩ ?_
      show K 0 0 18 [.ref 200, .int y1, .int w2, .int w3] [.int r_4] (mb_s s_2)
      refine ro_if_eq (tgt := 44) hK dM_mostOf_18 (by decide) (fun c_5 => ?_) (fun c_5 => ?_)
      · replace h := mb_ift c_5 h
        refine ro_iload_n hK dM_mostOf_44 rfl ?_
        refine ro_istore_n hK dM_mostOf_45 (by decide) ?_
        show K 0 0 46 [.ref 200, .int y1, .int w2, .int w3] [] (mb_s s_2)
        refine ro_iincv (c := 1) hK (by decide) dM_mostOf_46 rfl (by decide) ?_
        show K 0 0 49 [.ref 200, .int y1, .int w2, .int (w3 + 1)] [] (mb_s s_2)
        refine ro_goto (tgt := 5) hK dM_mostOf_49 (by decide) ?_
        refine ro_fg (lv' := [.ref 200, .int y1, .int w2, .int (w3 + 1)]) hK ⟨Or.inr rfl, ⟨Or.inr rfl, ⟨Or.inr rfl, ⟨Or.inr rfl, trivial⟩⟩⟩⟩ ?_
        exact ih _ _ _ h
      · replace h := mb_iff c_5 h
        refine ro_iload_n hK dM_mostOf_21 rfl ?_
        refine ro_bipush (x := (-9)) hK (by decide) dM_mostOf_22 ?_
        refine ro_icmp_eq (tgt := 40) hK dM_mostOf_24 (by decide) (fun c_6 => ?_) (fun c_6 => ?_)
        · replace h := mb_ift c_6 h
          refine ro_iload_n hK dM_mostOf_40 rfl ?_
          refine ro_goto (tgt := 45) hK dM_mostOf_41 (by decide) ?_
          refine ro_istore_n hK dM_mostOf_45 (by decide) ?_
          show K 0 0 46 [.ref 200, .int y1, .int w3, .int w3] [] (mb_s s_2)
          refine ro_iincv (c := 1) hK (by decide) dM_mostOf_46 rfl (by decide) ?_
          show K 0 0 49 [.ref 200, .int y1, .int w3, .int (w3 + 1)] [] (mb_s s_2)
          refine ro_goto (tgt := 5) hK dM_mostOf_49 (by decide) ?_
          refine ro_fg (lv' := [.ref 200, .int y1, .int w3, .int (w3 + 1)]) hK ⟨Or.inr rfl, ⟨Or.inr rfl, ⟨Or.inr rfl, ⟨Or.inr rfl, trivial⟩⟩⟩⟩ ?_
          exact ih _ _ _ h
        · replace h := mb_iff c_6 h
          refine ro_aload_n hK dM_mostOf_27 rfl ?_
          refine ro_iload_n hK dM_mostOf_28 rfl ?_
          obtain ⟨r_9, s_7, q_8, h⟩ := mb_cl_e h
          refine rb_callV hK mM_showsOf vM_180 (t_M_showsOf (dd := dd + 0) q_8) rfl mb_oM rfl (Nat.le_of_ble_eq_true rfl) dM_mostOf_29 rfl ⟨Nat.le_refl _, Nat.le_refl _⟩ ?_
          show K 0 0 32 [.ref 200, .int y1, .int w2, .int w3] [.int r_9] (mb_s s_7)
          refine ro_aload_n hK dM_mostOf_32 rfl ?_
          refine ro_iload_n hK dM_mostOf_33 rfl ?_
          obtain ⟨r_12, s_10, q_11, h⟩ := mb_cl_e h
          refine rb_callV hK mM_showsOf vM_180 (t_M_showsOf (dd := dd + 0) q_11) rfl mb_oM rfl (Nat.le_of_ble_eq_true rfl) dM_mostOf_34 rfl ⟨Nat.le_refl _, Nat.le_refl _⟩ ?_
          show K 0 0 37 [.ref 200, .int y1, .int w2, .int w3] [.int r_12, .int r_9] (mb_s s_10)
          have j_14 : ∀ w_ : Int32, w_ = (if r_9 ≤ r_12 then w2 else w3 : Int32) → K 0 0 45 [.ref 200, .int y1, .int w2, .int w3] [.int w_] (mb_s s_10) → K 0 0 37 [.ref 200, .int y1, .int w2, .int w3] [.int r_12, .int r_9] (mb_s s_10) := by
            intro w_ hw hj
            refine ro_icmp_le (tgt := 44) hK dM_mostOf_37 (by decide) (fun c_13 => ?_) (fun c_13 => ?_)
            · skip
              refine ro_iload_n hK dM_mostOf_44 rfl ?_
              have hw := (hw.trans (if_pos c_13))
              subst hw
              exact hj
            · skip
              refine ro_iload_n hK dM_mostOf_40 rfl ?_
              refine ro_goto (tgt := 45) hK dM_mostOf_41 (by decide) ?_
              have hw := (hw.trans (if_neg c_13))
              subst hw
              exact hj
          refine j_14 _ rfl ?_
          refine ro_istore_n hK dM_mostOf_45 (by decide) ?_
          show K 0 0 46 [.ref 200, .int y1, .int (if r_9 ≤ r_12 then w2 else w3 : Int32), .int w3] [] (mb_s s_10)
          refine ro_iincv (c := 1) hK (by decide) dM_mostOf_46 rfl (by decide) ?_
          show K 0 0 49 [.ref 200, .int y1, .int (if r_9 ≤ r_12 then w2 else w3 : Int32), .int (w3 + 1)] [] (mb_s s_10)
          refine ro_goto (tgt := 5) hK dM_mostOf_49 (by decide) ?_
          refine ro_fg (lv' := [.ref 200, .int y1, .int (if r_9 ≤ r_12 then w2 else w3 : Int32), .int (w3 + 1)]) hK ⟨Or.inr rfl, ⟨Or.inr rfl, ⟨Or.inr rfl, ⟨Or.inr rfl, trivial⟩⟩⟩⟩ ?_
          exact ih _ _ _ h
set_option maxHeartbeats 4000000 in
set_option maxRecDepth 100000 in
theorem t_M_mostOf {dd n : Nat} {x1 : Int32} {s : mb_T} {out : Int32 × mb_T}  (h : f_M_mostOf n x1 s = some out) : mb_MC (dd + 3) yM_mostOf bM_mostOf 4 (some .int) [.ref 200, .int x1] s (some (.int out.1)) out.2 := by
  unfold f_M_mostOf at h
  refine mj_mc (lv := [.ref 200, .int x1, .retAddr 0, .retAddr 0]) mM_mostOf rfl rfl (Nat.le_of_ble_eq_true rfl) (fun K hK hR => ?_)
  have hK : mj_C (dd + 3) 0 0 RM_c "mostOf" bM_mostOf 4 K := hK
  refine ro_bipush (x := (-9)) hK (by decide) dM_mostOf_0 ?_
  refine ro_istore_n hK dM_mostOf_2 (by decide) ?_
  show K 0 0 3 [.ref 200, .int x1, .int (-9), .retAddr 0] [] (mb_s s)
  refine ro_iconst (x := 0) hK (by decide) dM_mostOf_3 ?_
  refine ro_istore_n hK dM_mostOf_4 (by decide) ?_
  show K 0 0 5 [.ref 200, .int x1, .int (-9), .int 0] [] (mb_s s)
  refine ro_fg (lv' := [.ref 200, .int x1, .int (-9), .int 0]) hK ⟨Or.inr rfl, ⟨Or.inr rfl, ⟨Or.inr rfl, ⟨Or.inr rfl, trivial⟩⟩⟩⟩ ?_
  refine tl_M_mostOf_5 (dd := dd) hK hR (fun x_15 x_16 s_17 h => ?_) n _ _ _ h
  refine ro_iload_n hK dM_mostOf_52 rfl ?_
  cases h
  exact hR.1 0 0 53 _ _ _ _ rfl rfl dM_mostOf_53 ⟨rfl, rfl⟩
theorem dM_over_0 : decode bM_over 0 = .ok (.aload_n 0, 1) := by decide +kernel
theorem dM_over_1 : decode bM_over 1 = .ok (.aload_n 0, 1) := by decide +kernel
theorem dM_over_2 : decode bM_over 2 = .ok (.invokevirtual 198, 3) := by decide +kernel
theorem dM_over_5 : decode bM_over 5 = .ok (.aload_n 0, 1) := by decide +kernel
theorem dM_over_6 : decode bM_over 6 = .ok (.invokevirtual 206, 3) := by decide +kernel
theorem dM_over_9 : decode bM_over 9 = .ok (.ifCond .eq 7, 3) := by decide +kernel
theorem dM_over_12 : decode bM_over 12 = .ok (.iconst 1, 1) := by decide +kernel
theorem dM_over_13 : decode bM_over 13 = .ok (.goto 4, 3) := by decide +kernel
theorem dM_over_16 : decode bM_over 16 = .ok (.iconst 0, 1) := by decide +kernel
theorem dM_over_17 : decode bM_over 17 = .ok (.invokevirtual 118, 3) := by decide +kernel
theorem dM_over_20 : decode bM_over 20 = .ok (.ireturn, 1) := by decide +kernel
def f_M_over (n : Nat)  (s : mb_T) : Option (Int32 × mb_T) := mb_cl (f_M_screaming n s) fun r_3 s_1 => mb_cl (f_M_isOver n s_1) fun r_6 s_4 => mb_cl (f_M_ask n r_3 (if r_6 = 0 then 0 else 1 : Int32) s_4) fun r_11 s_9 => some (r_11, s_9)
set_option maxHeartbeats 4000000 in
set_option maxRecDepth 100000 in
theorem t_M_over {dd n : Nat}  {s : mb_T} {out : Int32 × mb_T}  (h : f_M_over n  s = some out) : mb_MC (dd + 3) yM_over bM_over 1 (some .int) [.ref 200] s (some (.int out.1)) out.2 := by
  unfold f_M_over at h
  refine mj_mc (lv := [.ref 200]) mM_over rfl rfl (Nat.le_of_ble_eq_true rfl) (fun K hK hR => ?_)
  have hK : mj_C (dd + 3) 0 0 RM_c "over" bM_over 1 K := hK
  refine ro_aload_n hK dM_over_0 rfl ?_
  refine ro_aload_n hK dM_over_1 rfl ?_
  obtain ⟨r_3, s_1, q_2, h⟩ := mb_cl_e h
  refine rb_callV hK mM_screaming vM_198 (t_M_screaming (dd := dd + 1) q_2) rfl mb_oM rfl (Nat.le_of_ble_eq_true rfl) dM_over_2 rfl ⟨Nat.le_refl _, Nat.le_refl _⟩ ?_
  show K 0 0 5 [.ref 200] [.int r_3, .ref 200] (mb_s s_1)
  refine ro_aload_n hK dM_over_5 rfl ?_
  obtain ⟨r_6, s_4, q_5, h⟩ := mb_cl_e h
  refine rb_callV hK mM_isOver vM_206 (t_M_isOver (dd := dd + 0) q_5) rfl mb_oM rfl (Nat.le_of_ble_eq_true rfl) dM_over_6 rfl ⟨Nat.le_refl _, Nat.le_refl _⟩ ?_
  show K 0 0 9 [.ref 200] [.int r_6, .int r_3, .ref 200] (mb_s s_4)
  have j_8 : ∀ w_ : Int32, w_ = (if r_6 = 0 then 0 else 1 : Int32) → K 0 0 17 [.ref 200] [.int w_, .int r_3, .ref 200] (mb_s s_4) → K 0 0 9 [.ref 200] [.int r_6, .int r_3, .ref 200] (mb_s s_4) := by
    intro w_ hw hj
    refine ro_if_eq (tgt := 16) hK dM_over_9 (by decide) (fun c_7 => ?_) (fun c_7 => ?_)
    · skip
      refine ro_iconst (x := 0) hK (by decide) dM_over_16 ?_
      have hw := (hw.trans (if_pos c_7))
      subst hw
      exact hj
    · skip
      refine ro_iconst (x := 1) hK (by decide) dM_over_12 ?_
      refine ro_goto (tgt := 17) hK dM_over_13 (by decide) ?_
      have hw := (hw.trans (if_neg c_7))
      subst hw
      exact hj
  refine j_8 _ rfl ?_
  obtain ⟨r_11, s_9, q_10, h⟩ := mb_cl_e h
  refine rb_callV hK mM_ask vM_118 (t_M_ask (dd := dd + 1) q_10) rfl mb_oM rfl (Nat.le_of_ble_eq_true rfl) dM_over_17 rfl ⟨Nat.le_refl _, Nat.le_refl _⟩ ?_
  show K 0 0 20 [.ref 200] [.int r_11] (mb_s s_9)
  cases h
  exact hR.1 0 0 20 _ _ _ _ rfl rfl dM_over_20 ⟨rfl, rfl⟩
theorem dM_personOf_0 : decode bM_personOf 0 = .ok (.iload_n 2, 1) := by decide +kernel
theorem dM_personOf_1 : decode bM_personOf 1 = .ok (.tableswitch 70 0 4 #[35, 42, 49, 56, 63], 35) := by decide +kernel
theorem dM_personOf_36 : decode bM_personOf 36 = .ok (.aload_n 0, 1) := by decide +kernel
theorem dM_personOf_37 : decode bM_personOf 37 = .ok (.getfield 28, 3) := by decide +kernel
theorem dM_personOf_40 : decode bM_personOf 40 = .ok (.iload_n 1, 1) := by decide +kernel
theorem dM_personOf_41 : decode bM_personOf 41 = .ok (.iaload, 1) := by decide +kernel
theorem dM_personOf_42 : decode bM_personOf 42 = .ok (.ireturn, 1) := by decide +kernel
theorem dM_personOf_43 : decode bM_personOf 43 = .ok (.aload_n 0, 1) := by decide +kernel
theorem dM_personOf_44 : decode bM_personOf 44 = .ok (.getfield 31, 3) := by decide +kernel
theorem dM_personOf_47 : decode bM_personOf 47 = .ok (.iload_n 1, 1) := by decide +kernel
theorem dM_personOf_48 : decode bM_personOf 48 = .ok (.iaload, 1) := by decide +kernel
theorem dM_personOf_49 : decode bM_personOf 49 = .ok (.ireturn, 1) := by decide +kernel
theorem dM_personOf_50 : decode bM_personOf 50 = .ok (.aload_n 0, 1) := by decide +kernel
theorem dM_personOf_51 : decode bM_personOf 51 = .ok (.getfield 34, 3) := by decide +kernel
theorem dM_personOf_54 : decode bM_personOf 54 = .ok (.iload_n 1, 1) := by decide +kernel
theorem dM_personOf_55 : decode bM_personOf 55 = .ok (.iaload, 1) := by decide +kernel
theorem dM_personOf_56 : decode bM_personOf 56 = .ok (.ireturn, 1) := by decide +kernel
theorem dM_personOf_57 : decode bM_personOf 57 = .ok (.aload_n 0, 1) := by decide +kernel
theorem dM_personOf_58 : decode bM_personOf 58 = .ok (.getfield 37, 3) := by decide +kernel
theorem dM_personOf_61 : decode bM_personOf 61 = .ok (.iload_n 1, 1) := by decide +kernel
theorem dM_personOf_62 : decode bM_personOf 62 = .ok (.iaload, 1) := by decide +kernel
theorem dM_personOf_63 : decode bM_personOf 63 = .ok (.ireturn, 1) := by decide +kernel
theorem dM_personOf_64 : decode bM_personOf 64 = .ok (.aload_n 0, 1) := by decide +kernel
theorem dM_personOf_65 : decode bM_personOf 65 = .ok (.getfield 40, 3) := by decide +kernel
theorem dM_personOf_68 : decode bM_personOf 68 = .ok (.iload_n 1, 1) := by decide +kernel
theorem dM_personOf_69 : decode bM_personOf 69 = .ok (.iaload, 1) := by decide +kernel
theorem dM_personOf_70 : decode bM_personOf 70 = .ok (.ireturn, 1) := by decide +kernel
theorem dM_personOf_71 : decode bM_personOf 71 = .ok (.aload_n 0, 1) := by decide +kernel
theorem dM_personOf_72 : decode bM_personOf 72 = .ok (.iload_n 1, 1) := by decide +kernel
theorem dM_personOf_73 : decode bM_personOf 73 = .ok (.invokevirtual 180, 3) := by decide +kernel
theorem dM_personOf_76 : decode bM_personOf 76 = .ok (.ireturn, 1) := by decide +kernel
def f_M_personOf (n : Nat) (x1 : Int32) (x2 : Int32) (s : mb_T) : Option (Int32 × mb_T) := if x2 = 0 then (mb_rd s 212 10 x1 fun x_21 => some (x_21, s)) else if x2 = 1 then (mb_rd s 213 10 x1 fun x_18 => some (x_18, s)) else if x2 = 2 then (mb_rd s 214 10 x1 fun x_15 => some (x_15, s)) else if x2 = 3 then (mb_rd s 215 10 x1 fun x_12 => some (x_12, s)) else if x2 = 4 then (mb_rd s 216 10 x1 fun x_9 => some (x_9, s)) else mb_cl (f_M_showsOf n x1 s) fun r_8 s_6 => some (r_8, s_6)
set_option maxHeartbeats 4000000 in
set_option maxRecDepth 100000 in
theorem t_M_personOf {dd n : Nat} {x1 : Int32} {x2 : Int32} {s : mb_T} {out : Int32 × mb_T}  (h : f_M_personOf n x1 x2 s = some out) : mb_MC (dd + 3) yM_personOf bM_personOf 3 (some .int) [.ref 200, .int x1, .int x2] s (some (.int out.1)) out.2 := by
  unfold f_M_personOf at h
  refine mj_mc (lv := [.ref 200, .int x1, .int x2]) mM_personOf rfl rfl (Nat.le_of_ble_eq_true rfl) (fun K hK hR => ?_)
  have hK : mj_C (dd + 3) 0 0 RM_c "personOf" bM_personOf 3 K := hK
  refine ro_iload_n hK dM_personOf_0 rfl ?_
  by_cases c_1 : x2 = 0
  · replace h := mb_ift c_1 h
    refine ro_tabIn (off := 35) (tgt := 36) hK dM_personOf_1 (by rw [c_1]; decide) (by rw [c_1]; decide) (by rw [c_1]; decide) (by decide) ?_
    refine ro_aload_n hK dM_personOf_36 rfl ?_
    refine rb_get hK fM_28 mb_oM rfl dM_personOf_37 ?_
    refine ro_iload_n hK dM_personOf_40 rfl ?_
    obtain ⟨x_21, e_22, i_23, h⟩ := mb_rd_e h
    refine rb_iald hK ai_212 i_23 e_22 dM_personOf_41 ?_
    cases h
    exact hR.1 0 0 42 _ _ _ _ rfl rfl dM_personOf_42 ⟨rfl, rfl⟩
  · replace h := mb_iff c_1 h
    by_cases c_2 : x2 = 1
    · replace h := mb_ift c_2 h
      refine ro_tabIn (off := 42) (tgt := 43) hK dM_personOf_1 (by rw [c_2]; decide) (by rw [c_2]; decide) (by rw [c_2]; decide) (by decide) ?_
      refine ro_aload_n hK dM_personOf_43 rfl ?_
      refine rb_get hK fM_31 mb_oM rfl dM_personOf_44 ?_
      refine ro_iload_n hK dM_personOf_47 rfl ?_
      obtain ⟨x_18, e_19, i_20, h⟩ := mb_rd_e h
      refine rb_iald hK ai_213 i_20 e_19 dM_personOf_48 ?_
      cases h
      exact hR.1 0 0 49 _ _ _ _ rfl rfl dM_personOf_49 ⟨rfl, rfl⟩
    · replace h := mb_iff c_2 h
      by_cases c_3 : x2 = 2
      · replace h := mb_ift c_3 h
        refine ro_tabIn (off := 49) (tgt := 50) hK dM_personOf_1 (by rw [c_3]; decide) (by rw [c_3]; decide) (by rw [c_3]; decide) (by decide) ?_
        refine ro_aload_n hK dM_personOf_50 rfl ?_
        refine rb_get hK fM_34 mb_oM rfl dM_personOf_51 ?_
        refine ro_iload_n hK dM_personOf_54 rfl ?_
        obtain ⟨x_15, e_16, i_17, h⟩ := mb_rd_e h
        refine rb_iald hK ai_214 i_17 e_16 dM_personOf_55 ?_
        cases h
        exact hR.1 0 0 56 _ _ _ _ rfl rfl dM_personOf_56 ⟨rfl, rfl⟩
      · replace h := mb_iff c_3 h
        by_cases c_4 : x2 = 3
        · replace h := mb_ift c_4 h
          refine ro_tabIn (off := 56) (tgt := 57) hK dM_personOf_1 (by rw [c_4]; decide) (by rw [c_4]; decide) (by rw [c_4]; decide) (by decide) ?_
          refine ro_aload_n hK dM_personOf_57 rfl ?_
          refine rb_get hK fM_37 mb_oM rfl dM_personOf_58 ?_
          refine ro_iload_n hK dM_personOf_61 rfl ?_
          obtain ⟨x_12, e_13, i_14, h⟩ := mb_rd_e h
          refine rb_iald hK ai_215 i_14 e_13 dM_personOf_62 ?_
          cases h
          exact hR.1 0 0 63 _ _ _ _ rfl rfl dM_personOf_63 ⟨rfl, rfl⟩
        · replace h := mb_iff c_4 h
          by_cases c_5 : x2 = 4
          · replace h := mb_ift c_5 h
            refine ro_tabIn (off := 63) (tgt := 64) hK dM_personOf_1 (by rw [c_5]; decide) (by rw [c_5]; decide) (by rw [c_5]; decide) (by decide) ?_
            refine ro_aload_n hK dM_personOf_64 rfl ?_
            refine rb_get hK fM_40 mb_oM rfl dM_personOf_65 ?_
            refine ro_iload_n hK dM_personOf_68 rfl ?_
            obtain ⟨x_9, e_10, i_11, h⟩ := mb_rd_e h
            refine rb_iald hK ai_216 i_11 e_10 dM_personOf_69 ?_
            cases h
            exact hR.1 0 0 70 _ _ _ _ rfl rfl dM_personOf_70 ⟨rfl, rfl⟩
          · replace h := mb_iff c_5 h
            have hz : Int32.toInt x2 < 0 ∨ 4 < Int32.toInt x2 := by
              rcases Int.lt_or_le (Int32.toInt x2) 0 with hz | hz
              · exact Or.inl hz
              · rcases Int.lt_or_le 4 (Int32.toInt x2) with hw | hw
                · exact Or.inr hw
                · exfalso
                  have ho : Int32.toInt x2 = 0 ∨ Int32.toInt x2 = 1 ∨ Int32.toInt x2 = 2 ∨ Int32.toInt x2 = 3 ∨ Int32.toInt x2 = 4 := by omega
                  rcases ho with ho | ho | ho | ho | ho
                  · exact c_1 (Int32.toInt_inj.mp (by rw [ho]; decide))
                  · exact c_2 (Int32.toInt_inj.mp (by rw [ho]; decide))
                  · exact c_3 (Int32.toInt_inj.mp (by rw [ho]; decide))
                  · exact c_4 (Int32.toInt_inj.mp (by rw [ho]; decide))
                  · exact c_5 (Int32.toInt_inj.mp (by rw [ho]; decide))
            refine ro_tabOut (tgt := 71) hK dM_personOf_1 hz (by decide) ?_
            refine ro_aload_n hK dM_personOf_71 rfl ?_
            refine ro_iload_n hK dM_personOf_72 rfl ?_
            obtain ⟨r_8, s_6, q_7, h⟩ := mb_cl_e h
            refine rb_callV hK mM_showsOf vM_180 (t_M_showsOf (dd := dd + 0) q_7) rfl mb_oM rfl (Nat.le_of_ble_eq_true rfl) dM_personOf_73 rfl ⟨Nat.le_refl _, Nat.le_refl _⟩ ?_
            show K 0 0 76 [.ref 200, .int x1, .int x2] [.int r_8] (mb_s s_6)
            cases h
            exact hR.1 0 0 76 _ _ _ _ rfl rfl dM_personOf_76 ⟨rfl, rfl⟩
