theorem dM_askedOf_0 : decode bM_askedOf 0 = .ok (.aload_n 0, 1) := by decide +kernel
theorem dM_askedOf_1 : decode bM_askedOf 1 = .ok (.iload_n 1, 1) := by decide +kernel
theorem dM_askedOf_2 : decode bM_askedOf 2 = .ok (.invokevirtual 183, 3) := by decide +kernel
theorem dM_askedOf_5 : decode bM_askedOf 5 = .ok (.ifCond .eq 10, 3) := by decide +kernel
theorem dM_askedOf_8 : decode bM_askedOf 8 = .ok (.iload_n 2, 1) := by decide +kernel
theorem dM_askedOf_9 : decode bM_askedOf 9 = .ok (.invokestatic 96, 3) := by decide +kernel
theorem dM_askedOf_12 : decode bM_askedOf 12 = .ok (.ifCond .ne 7, 3) := by decide +kernel
theorem dM_askedOf_15 : decode bM_askedOf 15 = .ok (.iconst (-1), 1) := by decide +kernel
theorem dM_askedOf_16 : decode bM_askedOf 16 = .ok (.goto 8, 3) := by decide +kernel
theorem dM_askedOf_19 : decode bM_askedOf 19 = .ok (.aload_n 0, 1) := by decide +kernel
theorem dM_askedOf_20 : decode bM_askedOf 20 = .ok (.iload_n 2, 1) := by decide +kernel
theorem dM_askedOf_21 : decode bM_askedOf 21 = .ok (.invokevirtual 300, 3) := by decide +kernel
theorem dM_askedOf_24 : decode bM_askedOf 24 = .ok (.ireturn, 1) := by decide +kernel
def f_M_askedOf (n : Nat) (x1 : Int32) (x2 : Int32) (s : mb_T) : Option (Int32 × mb_T) := mb_cl (f_M_isOne n x1 s) fun r_3 s_1 => if r_3 = 0 then some ((-1), s_1) else mb_cl (f_M_isRow n x2 s_1) fun r_7 s_5 => if r_7 = 0 then some ((-1), s_5) else mb_cl (f_M_askedHandings n x2 s_5) fun r_11 s_9 => some (r_11, s_9)
set_option maxHeartbeats 4000000 in
set_option maxRecDepth 100000 in
theorem t_M_askedOf {dd n : Nat} {x1 : Int32} {x2 : Int32} {s : mb_T} {out : Int32 × mb_T}  (h : f_M_askedOf n x1 x2 s = some out) : mb_MC (dd + 5) yM_askedOf bM_askedOf 3 (some .int) [.ref 200, .int x1, .int x2] s (some (.int out.1)) out.2 := by
  unfold f_M_askedOf at h
  refine mj_mc (lv := [.ref 200, .int x1, .int x2]) mM_askedOf rfl rfl (Nat.le_of_ble_eq_true rfl) (fun K hK hR => ?_)
  have hK : mj_C (dd + 5) 0 0 RM_c "askedOf" bM_askedOf 3 K := hK
  refine ro_aload_n hK dM_askedOf_0 rfl ?_
  refine ro_iload_n hK dM_askedOf_1 rfl ?_
  obtain ⟨r_3, s_1, q_2, h⟩ := mb_cl_e h
  refine rb_callV hK mM_isOne vM_183 (t_M_isOne (dd := dd + 2) q_2) rfl mb_oM rfl (Nat.le_of_ble_eq_true rfl) dM_askedOf_2 rfl ⟨Nat.le_refl _, Nat.le_refl _⟩ ?_
  show K 0 0 5 [.ref 200, .int x1, .int x2] [.int r_3] (mb_s s_1)
  refine ro_if_eq (tgt := 15) hK dM_askedOf_5 (by decide) (fun c_4 => ?_) (fun c_4 => ?_)
  · replace h := mb_ift c_4 h
    refine ro_iconst (x := (-1)) hK (by decide) dM_askedOf_15 ?_
    refine ro_goto (tgt := 24) hK dM_askedOf_16 (by decide) ?_
    cases h
    exact hR.1 0 0 24 _ _ _ _ rfl rfl dM_askedOf_24 ⟨rfl, rfl⟩
  · replace h := mb_iff c_4 h
    refine ro_iload_n hK dM_askedOf_8 rfl ?_
    obtain ⟨r_7, s_5, q_6, h⟩ := mb_cl_e h
    refine rb_callS hK mM_isRow vM_96 (t_M_isRow (dd := dd + 2) q_6) rfl (Nat.le_of_ble_eq_true rfl) dM_askedOf_9 rfl ⟨Nat.le_refl _, Nat.le_refl _⟩ ?_
    show K 0 0 12 [.ref 200, .int x1, .int x2] [.int r_7] (mb_s s_5)
    refine ro_if_ne (tgt := 19) hK dM_askedOf_12 (by decide) (fun c_8 => ?_) (fun c_8 => ?_)
    · replace h := mb_iff c_8 h
      refine ro_aload_n hK dM_askedOf_19 rfl ?_
      refine ro_iload_n hK dM_askedOf_20 rfl ?_
      obtain ⟨r_11, s_9, q_10, h⟩ := mb_cl_e h
      refine rb_callV hK mM_askedHandings vM_300 (t_M_askedHandings (dd := dd + 0) q_10) rfl mb_oM rfl (Nat.le_of_ble_eq_true rfl) dM_askedOf_21 rfl ⟨Nat.le_refl _, Nat.le_refl _⟩ ?_
      show K 0 0 24 [.ref 200, .int x1, .int x2] [.int r_11] (mb_s s_9)
      cases h
      exact hR.1 0 0 24 _ _ _ _ rfl rfl dM_askedOf_24 ⟨rfl, rfl⟩
    · replace h := mb_ift c_8 h
      refine ro_iconst (x := (-1)) hK (by decide) dM_askedOf_15 ?_
      refine ro_goto (tgt := 24) hK dM_askedOf_16 (by decide) ?_
      cases h
      exact hR.1 0 0 24 _ _ _ _ rfl rfl dM_askedOf_24 ⟨rfl, rfl⟩
theorem dM_cave_0 : decode bM_cave 0 = .ok (.aload_n 0, 1) := by decide +kernel
theorem dM_cave_1 : decode bM_cave 1 = .ok (.iload_n 1, 1) := by decide +kernel
theorem dM_cave_2 : decode bM_cave 2 = .ok (.invokevirtual 124, 3) := by decide +kernel
theorem dM_cave_5 : decode bM_cave 5 = .ok (.istore_n 2, 1) := by decide +kernel
theorem dM_cave_6 : decode bM_cave 6 = .ok (.iload_n 2, 1) := by decide +kernel
theorem dM_cave_7 : decode bM_cave 7 = .ok (.ifCond .ge 5, 3) := by decide +kernel
theorem dM_cave_10 : decode bM_cave 10 = .ok (.iload_n 2, 1) := by decide +kernel
theorem dM_cave_11 : decode bM_cave 11 = .ok (.ireturn, 1) := by decide +kernel
theorem dM_cave_12 : decode bM_cave 12 = .ok (.aload_n 0, 1) := by decide +kernel
theorem dM_cave_13 : decode bM_cave 13 = .ok (.iload_n 1, 1) := by decide +kernel
theorem dM_cave_14 : decode bM_cave 14 = .ok (.invokevirtual 158, 3) := by decide +kernel
theorem dM_cave_17 : decode bM_cave 17 = .ok (.bipush (-9), 2) := by decide +kernel
theorem dM_cave_19 : decode bM_cave 19 = .ok (.if_icmp .eq 6, 3) := by decide +kernel
theorem dM_cave_22 : decode bM_cave 22 = .ok (.bipush (-4), 2) := by decide +kernel
theorem dM_cave_24 : decode bM_cave 24 = .ok (.ireturn, 1) := by decide +kernel
theorem dM_cave_25 : decode bM_cave 25 = .ok (.aload_n 0, 1) := by decide +kernel
theorem dM_cave_26 : decode bM_cave 26 = .ok (.aload_n 0, 1) := by decide +kernel
theorem dM_cave_27 : decode bM_cave 27 = .ok (.getfield 149, 3) := by decide +kernel
theorem dM_cave_30 : decode bM_cave 30 = .ok (.putfield 161, 3) := by decide +kernel
theorem dM_cave_33 : decode bM_cave 33 = .ok (.aload_n 0, 1) := by decide +kernel
theorem dM_cave_34 : decode bM_cave 34 = .ok (.aload_n 0, 1) := by decide +kernel
theorem dM_cave_35 : decode bM_cave 35 = .ok (.getfield 137, 3) := by decide +kernel
theorem dM_cave_38 : decode bM_cave 38 = .ok (.putfield 164, 3) := by decide +kernel
theorem dM_cave_41 : decode bM_cave 41 = .ok (.aload_n 0, 1) := by decide +kernel
theorem dM_cave_42 : decode bM_cave 42 = .ok (.aload_n 0, 1) := by decide +kernel
theorem dM_cave_43 : decode bM_cave 43 = .ok (.getfield 140, 3) := by decide +kernel
theorem dM_cave_46 : decode bM_cave 46 = .ok (.putfield 167, 3) := by decide +kernel
theorem dM_cave_49 : decode bM_cave 49 = .ok (.aload_n 0, 1) := by decide +kernel
theorem dM_cave_50 : decode bM_cave 50 = .ok (.aload_n 0, 1) := by decide +kernel
theorem dM_cave_51 : decode bM_cave 51 = .ok (.getfield 161, 3) := by decide +kernel
theorem dM_cave_54 : decode bM_cave 54 = .ok (.ifCond .ne 7, 3) := by decide +kernel
theorem dM_cave_57 : decode bM_cave 57 = .ok (.iconst 0, 1) := by decide +kernel
theorem dM_cave_58 : decode bM_cave 58 = .ok (.goto 7, 3) := by decide +kernel
theorem dM_cave_61 : decode bM_cave 61 = .ok (.aload_n 0, 1) := by decide +kernel
theorem dM_cave_62 : decode bM_cave 62 = .ok (.getfield 143, 3) := by decide +kernel
theorem dM_cave_65 : decode bM_cave 65 = .ok (.putfield 170, 3) := by decide +kernel
theorem dM_cave_68 : decode bM_cave 68 = .ok (.iconst 0, 1) := by decide +kernel
theorem dM_cave_69 : decode bM_cave 69 = .ok (.istore_n 3, 1) := by decide +kernel
theorem dM_cave_70 : decode bM_cave 70 = .ok (.iload_n 3, 1) := by decide +kernel
theorem dM_cave_71 : decode bM_cave 71 = .ok (.iconst 5, 1) := by decide +kernel
theorem dM_cave_72 : decode bM_cave 72 = .ok (.if_icmp .ge 79, 3) := by decide +kernel
theorem dM_cave_75 : decode bM_cave 75 = .ok (.aload_n 0, 1) := by decide +kernel
theorem dM_cave_76 : decode bM_cave 76 = .ok (.getfield 28, 3) := by decide +kernel
theorem dM_cave_79 : decode bM_cave 79 = .ok (.iload_n 3, 1) := by decide +kernel
theorem dM_cave_80 : decode bM_cave 80 = .ok (.aload_n 0, 1) := by decide +kernel
theorem dM_cave_81 : decode bM_cave 81 = .ok (.getfield 28, 3) := by decide +kernel
theorem dM_cave_84 : decode bM_cave 84 = .ok (.iconst 5, 1) := by decide +kernel
theorem dM_cave_85 : decode bM_cave 85 = .ok (.iload_n 3, 1) := by decide +kernel
theorem dM_cave_86 : decode bM_cave 86 = .ok (.iadd, 1) := by decide +kernel
theorem dM_cave_87 : decode bM_cave 87 = .ok (.iaload, 1) := by decide +kernel
theorem dM_cave_88 : decode bM_cave 88 = .ok (.iastore, 1) := by decide +kernel
theorem dM_cave_89 : decode bM_cave 89 = .ok (.aload_n 0, 1) := by decide +kernel
theorem dM_cave_90 : decode bM_cave 90 = .ok (.getfield 31, 3) := by decide +kernel
theorem dM_cave_93 : decode bM_cave 93 = .ok (.iload_n 3, 1) := by decide +kernel
theorem dM_cave_94 : decode bM_cave 94 = .ok (.aload_n 0, 1) := by decide +kernel
theorem dM_cave_95 : decode bM_cave 95 = .ok (.getfield 31, 3) := by decide +kernel
theorem dM_cave_98 : decode bM_cave 98 = .ok (.iconst 5, 1) := by decide +kernel
theorem dM_cave_99 : decode bM_cave 99 = .ok (.iload_n 3, 1) := by decide +kernel
theorem dM_cave_100 : decode bM_cave 100 = .ok (.iadd, 1) := by decide +kernel
theorem dM_cave_101 : decode bM_cave 101 = .ok (.iaload, 1) := by decide +kernel
theorem dM_cave_102 : decode bM_cave 102 = .ok (.iastore, 1) := by decide +kernel
theorem dM_cave_103 : decode bM_cave 103 = .ok (.aload_n 0, 1) := by decide +kernel
theorem dM_cave_104 : decode bM_cave 104 = .ok (.getfield 34, 3) := by decide +kernel
theorem dM_cave_107 : decode bM_cave 107 = .ok (.iload_n 3, 1) := by decide +kernel
theorem dM_cave_108 : decode bM_cave 108 = .ok (.aload_n 0, 1) := by decide +kernel
theorem dM_cave_109 : decode bM_cave 109 = .ok (.getfield 34, 3) := by decide +kernel
theorem dM_cave_112 : decode bM_cave 112 = .ok (.iconst 5, 1) := by decide +kernel
theorem dM_cave_113 : decode bM_cave 113 = .ok (.iload_n 3, 1) := by decide +kernel
theorem dM_cave_114 : decode bM_cave 114 = .ok (.iadd, 1) := by decide +kernel
theorem dM_cave_115 : decode bM_cave 115 = .ok (.iaload, 1) := by decide +kernel
theorem dM_cave_116 : decode bM_cave 116 = .ok (.iastore, 1) := by decide +kernel
theorem dM_cave_117 : decode bM_cave 117 = .ok (.aload_n 0, 1) := by decide +kernel
theorem dM_cave_118 : decode bM_cave 118 = .ok (.getfield 37, 3) := by decide +kernel
theorem dM_cave_121 : decode bM_cave 121 = .ok (.iload_n 3, 1) := by decide +kernel
theorem dM_cave_122 : decode bM_cave 122 = .ok (.aload_n 0, 1) := by decide +kernel
theorem dM_cave_123 : decode bM_cave 123 = .ok (.getfield 37, 3) := by decide +kernel
theorem dM_cave_126 : decode bM_cave 126 = .ok (.iconst 5, 1) := by decide +kernel
theorem dM_cave_127 : decode bM_cave 127 = .ok (.iload_n 3, 1) := by decide +kernel
theorem dM_cave_128 : decode bM_cave 128 = .ok (.iadd, 1) := by decide +kernel
theorem dM_cave_129 : decode bM_cave 129 = .ok (.iaload, 1) := by decide +kernel
theorem dM_cave_130 : decode bM_cave 130 = .ok (.iastore, 1) := by decide +kernel
theorem dM_cave_131 : decode bM_cave 131 = .ok (.aload_n 0, 1) := by decide +kernel
theorem dM_cave_132 : decode bM_cave 132 = .ok (.getfield 40, 3) := by decide +kernel
theorem dM_cave_135 : decode bM_cave 135 = .ok (.iload_n 3, 1) := by decide +kernel
theorem dM_cave_136 : decode bM_cave 136 = .ok (.aload_n 0, 1) := by decide +kernel
theorem dM_cave_137 : decode bM_cave 137 = .ok (.getfield 40, 3) := by decide +kernel
theorem dM_cave_140 : decode bM_cave 140 = .ok (.iconst 5, 1) := by decide +kernel
theorem dM_cave_141 : decode bM_cave 141 = .ok (.iload_n 3, 1) := by decide +kernel
theorem dM_cave_142 : decode bM_cave 142 = .ok (.iadd, 1) := by decide +kernel
theorem dM_cave_143 : decode bM_cave 143 = .ok (.iaload, 1) := by decide +kernel
theorem dM_cave_144 : decode bM_cave 144 = .ok (.iastore, 1) := by decide +kernel
theorem dM_cave_145 : decode bM_cave 145 = .ok (.iinc 3 1, 3) := by decide +kernel
theorem dM_cave_148 : decode bM_cave 148 = .ok (.goto (-78), 3) := by decide +kernel
theorem dM_cave_151 : decode bM_cave 151 = .ok (.aload_n 0, 1) := by decide +kernel
theorem dM_cave_152 : decode bM_cave 152 = .ok (.iconst 0, 1) := by decide +kernel
theorem dM_cave_153 : decode bM_cave 153 = .ok (.putfield 173, 3) := by decide +kernel
theorem dM_cave_156 : decode bM_cave 156 = .ok (.aload_n 0, 1) := by decide +kernel
theorem dM_cave_157 : decode bM_cave 157 = .ok (.bipush (-9), 2) := by decide +kernel
theorem dM_cave_159 : decode bM_cave 159 = .ok (.putfield 50, 3) := by decide +kernel
theorem dM_cave_162 : decode bM_cave 162 = .ok (.iconst 0, 1) := by decide +kernel
theorem dM_cave_163 : decode bM_cave 163 = .ok (.istore_n 3, 1) := by decide +kernel
theorem dM_cave_164 : decode bM_cave 164 = .ok (.iload_n 3, 1) := by decide +kernel
theorem dM_cave_165 : decode bM_cave 165 = .ok (.iconst 3, 1) := by decide +kernel
theorem dM_cave_166 : decode bM_cave 166 = .ok (.if_icmp .ge 21, 3) := by decide +kernel
theorem dM_cave_169 : decode bM_cave 169 = .ok (.aload_n 0, 1) := by decide +kernel
theorem dM_cave_170 : decode bM_cave 170 = .ok (.getfield 62, 3) := by decide +kernel
theorem dM_cave_173 : decode bM_cave 173 = .ok (.sipush 850, 3) := by decide +kernel
theorem dM_cave_176 : decode bM_cave 176 = .ok (.iload_n 3, 1) := by decide +kernel
theorem dM_cave_177 : decode bM_cave 177 = .ok (.imul, 1) := by decide +kernel
theorem dM_cave_178 : decode bM_cave 178 = .ok (.bipush (-9), 2) := by decide +kernel
theorem dM_cave_180 : decode bM_cave 180 = .ok (.iastore, 1) := by decide +kernel
theorem dM_cave_181 : decode bM_cave 181 = .ok (.iinc 3 1, 3) := by decide +kernel
theorem dM_cave_184 : decode bM_cave 184 = .ok (.goto (-20), 3) := by decide +kernel
theorem dM_cave_187 : decode bM_cave 187 = .ok (.aload_n 0, 1) := by decide +kernel
theorem dM_cave_188 : decode bM_cave 188 = .ok (.getfield 161, 3) := by decide +kernel
theorem dM_cave_191 : decode bM_cave 191 = .ok (.ireturn, 1) := by decide +kernel
def f_M_cave_70 (n : Nat) (k0 : Int32 → mb_T → Option (Int32 × mb_T))  : Nat → Int32 → mb_T → Option (Int32 × mb_T)
  | 0, _, _ => none
  | f + 1, w3, s => if 5 ≤ w3 then k0 w3 s else mb_rd s 212 10 (5 + w3) fun x_20 => mb_wr s 212 10 w3 x_20 fun s_23 => mb_rd s_23 213 10 (5 + w3) fun x_26 => mb_wr s_23 213 10 w3 x_26 fun s_29 => mb_rd s_29 214 10 (5 + w3) fun x_32 => mb_wr s_29 214 10 w3 x_32 fun s_35 => mb_rd s_35 215 10 (5 + w3) fun x_38 => mb_wr s_35 215 10 w3 x_38 fun s_41 => mb_rd s_41 216 10 (5 + w3) fun x_44 => mb_wr s_41 216 10 w3 x_44 fun s_47 => f_M_cave_70 n k0 f (w3 + 1) s_47
def f_M_cave_164 (n : Nat) (k0 : Int32 → mb_T → Option (Int32 × mb_T))  : Nat → Int32 → mb_T → Option (Int32 × mb_T)
  | 0, _, _ => none
  | f + 1, w3, s => if 3 ≤ w3 then k0 w3 s else mb_wr s 229 2550 (850 * w3) (-9) fun s_57 => f_M_cave_164 n k0 f (w3 + 1) s_57
def f_M_cave (n : Nat) (x1 : Int32) (s : mb_T) : Option (Int32 × mb_T) := mb_cl (f_M_askedText n x1 s) fun r_3 s_1 => if 0 ≤ r_3 then (mb_cl (f_M_goesOn n x1 s_1) fun r_7 s_5 => if r_7 = (-9) then (mb_bd (sF s_5 200 8 (s_5.1 200 18)) fun s_9 => mb_bd (sF s_9 200 9 (s_9.1 200 19)) fun s_11 => mb_bd (sF s_11 200 10 (s_11.1 200 20)) fun s_13 => mb_bd (sF s_13 200 11 (if (s_13.1 200 8) = 0 then 0 else (s_13.1 200 21) : Int32)) fun s_17 => f_M_cave_70 n (fun x_50 s_51 => mb_bd (sF s_51 200 24 0) fun s_52 => mb_bd (sF s_52 200 25 (-9)) fun s_54 => f_M_cave_164 n (fun x_60 s_61 => some ((s_61.1 200 8), s_61)) n 0 s_54) n 0 s_17) else some ((-4), s_5)) else some (r_3, s_1)
set_option maxHeartbeats 4000000 in
set_option maxRecDepth 100000 in
theorem tl_M_cave_70 {dd n : Nat} {K : mj_KT} {out : Int32 × mb_T} (hK : mj_C (dd + 5) 0 0 RM_c "cave" bM_cave 4 K) (hR : mj_R bM_cave (some .int) (fun r2 S2 => r2 = some (.int out.1) ∧ S2 = mb_s out.2) K) {k0 : Int32 → mb_T → Option (Int32 × mb_T)}  (hk0 : ∀ (w3 : Int32) (s : mb_T), k0 w3 s = some out → K 0 0 151 [.ref 200, .retAddr 0, .retAddr 0, .int w3] [] (mb_s s)) : ∀ (f : Nat) (w3 : Int32) (s : mb_T), f_M_cave_70 n k0 f w3 s = some out → K 0 0 70 [.ref 200, .retAddr 0, .retAddr 0, .int w3] [] (mb_s s) := by
  intro f
  induction f with
  | zero =>
    intro w3 s h
    cases h
  | succ f ih =>
    intro w3 s h
    rw [f_M_cave_70] at h
    refine ro_iload_n hK dM_cave_70 rfl ?_
    refine ro_iconst (x := 5) hK (by decide) dM_cave_71 ?_
    refine ro_icmp_ge (tgt := 151) hK dM_cave_72 (by decide) (fun c_19 => ?_) (fun c_19 => ?_)
    · replace h := mb_ift c_19 h
      refine ro_fg (lv' := [.ref 200, .retAddr 0, .retAddr 0, .int w3]) hK ⟨Or.inr rfl, ⟨Or.inl rfl, ⟨Or.inl rfl, ⟨Or.inr rfl, trivial⟩⟩⟩⟩ ?_
      exact hk0 _ _ h
    · replace h := mb_iff c_19 h
      refine ro_aload_n hK dM_cave_75 rfl ?_
      refine rb_get hK fM_28 mb_oM rfl dM_cave_76 ?_
      refine ro_iload_n hK dM_cave_79 rfl ?_
      refine ro_aload_n hK dM_cave_80 rfl ?_
      refine rb_get hK fM_28 mb_oM rfl dM_cave_81 ?_
      refine ro_iconst (x := 5) hK (by decide) dM_cave_84 ?_
      refine ro_iload_n hK dM_cave_85 rfl ?_
      refine ro_iadd hK dM_cave_86 ?_
      obtain ⟨x_20, e_21, i_22, h⟩ := mb_rd_e h
      refine rb_iald hK ai_212 i_22 e_21 dM_cave_87 ?_
      obtain ⟨s_23, e_24, i_25, h⟩ := mb_wr_e h
      refine rb_iast hK ai_212 i_25 e_24 dM_cave_88 ?_
      refine ro_aload_n hK dM_cave_89 rfl ?_
      refine rb_get hK fM_31 mb_oM rfl dM_cave_90 ?_
      refine ro_iload_n hK dM_cave_93 rfl ?_
      refine ro_aload_n hK dM_cave_94 rfl ?_
      refine rb_get hK fM_31 mb_oM rfl dM_cave_95 ?_
      refine ro_iconst (x := 5) hK (by decide) dM_cave_98 ?_
      refine ro_iload_n hK dM_cave_99 rfl ?_
      refine ro_iadd hK dM_cave_100 ?_
      obtain ⟨x_26, e_27, i_28, h⟩ := mb_rd_e h
      refine rb_iald hK ai_213 i_28 e_27 dM_cave_101 ?_
      obtain ⟨s_29, e_30, i_31, h⟩ := mb_wr_e h
      refine rb_iast hK ai_213 i_31 e_30 dM_cave_102 ?_
      refine ro_aload_n hK dM_cave_103 rfl ?_
      refine rb_get hK fM_34 mb_oM rfl dM_cave_104 ?_
      refine ro_iload_n hK dM_cave_107 rfl ?_
      refine ro_aload_n hK dM_cave_108 rfl ?_
      refine rb_get hK fM_34 mb_oM rfl dM_cave_109 ?_
      refine ro_iconst (x := 5) hK (by decide) dM_cave_112 ?_
      refine ro_iload_n hK dM_cave_113 rfl ?_
      refine ro_iadd hK dM_cave_114 ?_
      obtain ⟨x_32, e_33, i_34, h⟩ := mb_rd_e h
      refine rb_iald hK ai_214 i_34 e_33 dM_cave_115 ?_
      obtain ⟨s_35, e_36, i_37, h⟩ := mb_wr_e h
      refine rb_iast hK ai_214 i_37 e_36 dM_cave_116 ?_
      refine ro_aload_n hK dM_cave_117 rfl ?_
      refine rb_get hK fM_37 mb_oM rfl dM_cave_118 ?_
      refine ro_iload_n hK dM_cave_121 rfl ?_
      refine ro_aload_n hK dM_cave_122 rfl ?_
      refine rb_get hK fM_37 mb_oM rfl dM_cave_123 ?_
      refine ro_iconst (x := 5) hK (by decide) dM_cave_126 ?_
      refine ro_iload_n hK dM_cave_127 rfl ?_
      refine ro_iadd hK dM_cave_128 ?_
      obtain ⟨x_38, e_39, i_40, h⟩ := mb_rd_e h
      refine rb_iald hK ai_215 i_40 e_39 dM_cave_129 ?_
      obtain ⟨s_41, e_42, i_43, h⟩ := mb_wr_e h
      refine rb_iast hK ai_215 i_43 e_42 dM_cave_130 ?_
      refine ro_aload_n hK dM_cave_131 rfl ?_
      refine rb_get hK fM_40 mb_oM rfl dM_cave_132 ?_
      refine ro_iload_n hK dM_cave_135 rfl ?_
      refine ro_aload_n hK dM_cave_136 rfl ?_
      refine rb_get hK fM_40 mb_oM rfl dM_cave_137 ?_
      refine ro_iconst (x := 5) hK (by decide) dM_cave_140 ?_
      refine ro_iload_n hK dM_cave_141 rfl ?_
      refine ro_iadd hK dM_cave_142 ?_
      obtain ⟨x_44, e_45, i_46, h⟩ := mb_rd_e h
      refine rb_iald hK ai_216 i_46 e_45 dM_cave_143 ?_
      obtain ⟨s_47, e_48, i_49, h⟩ := mb_wr_e h
      refine rb_iast hK ai_216 i_49 e_48 dM_cave_144 ?_
      refine ro_iincv (c := 1) hK (by decide) dM_cave_145 rfl (by decide) ?_
      show K 0 0 148 [.ref 200, .retAddr 0, .retAddr 0, .int (w3 + 1)] [] (mb_s s_47)
      refine ro_goto (tgt := 70) hK dM_cave_148 (by decide) ?_
      refine ro_fg (lv' := [.ref 200, .retAddr 0, .retAddr 0, .int (w3 + 1)]) hK ⟨Or.inr rfl, ⟨Or.inl rfl, ⟨Or.inl rfl, ⟨Or.inr rfl, trivial⟩⟩⟩⟩ ?_
      exact ih _ _ h
set_option maxHeartbeats 4000000 in
set_option maxRecDepth 100000 in
theorem tl_M_cave_164 {dd n : Nat} {K : mj_KT} {out : Int32 × mb_T} (hK : mj_C (dd + 5) 0 0 RM_c "cave" bM_cave 4 K) (hR : mj_R bM_cave (some .int) (fun r2 S2 => r2 = some (.int out.1) ∧ S2 = mb_s out.2) K) {k0 : Int32 → mb_T → Option (Int32 × mb_T)}  (hk0 : ∀ (w3 : Int32) (s : mb_T), k0 w3 s = some out → K 0 0 187 [.ref 200, .retAddr 0, .retAddr 0, .int w3] [] (mb_s s)) : ∀ (f : Nat) (w3 : Int32) (s : mb_T), f_M_cave_164 n k0 f w3 s = some out → K 0 0 164 [.ref 200, .retAddr 0, .retAddr 0, .int w3] [] (mb_s s) := by
  intro f
  induction f with
  | zero =>
    intro w3 s h
    cases h
  | succ f ih =>
    intro w3 s h
    rw [f_M_cave_164] at h
    refine ro_iload_n hK dM_cave_164 rfl ?_
    refine ro_iconst (x := 3) hK (by decide) dM_cave_165 ?_
    refine ro_icmp_ge (tgt := 187) hK dM_cave_166 (by decide) (fun c_56 => ?_) (fun c_56 => ?_)
    · replace h := mb_ift c_56 h
      refine ro_fg (lv' := [.ref 200, .retAddr 0, .retAddr 0, .int w3]) hK ⟨Or.inr rfl, ⟨Or.inl rfl, ⟨Or.inl rfl, ⟨Or.inr rfl, trivial⟩⟩⟩⟩ ?_
      exact hk0 _ _ h
    · replace h := mb_iff c_56 h
      refine ro_aload_n hK dM_cave_169 rfl ?_
      refine rb_get hK fM_62 mb_oM rfl dM_cave_170 ?_
      refine ro_sipush (x := 850) hK (by decide) dM_cave_173 ?_
      refine ro_iload_n hK dM_cave_176 rfl ?_
      refine ro_imul hK dM_cave_177 ?_
      refine ro_bipush (x := (-9)) hK (by decide) dM_cave_178 ?_
      obtain ⟨s_57, e_58, i_59, h⟩ := mb_wr_e h
      refine rb_iast hK ai_229 i_59 e_58 dM_cave_180 ?_
      refine ro_iincv (c := 1) hK (by decide) dM_cave_181 rfl (by decide) ?_
      show K 0 0 184 [.ref 200, .retAddr 0, .retAddr 0, .int (w3 + 1)] [] (mb_s s_57)
      refine ro_goto (tgt := 164) hK dM_cave_184 (by decide) ?_
      refine ro_fg (lv' := [.ref 200, .retAddr 0, .retAddr 0, .int (w3 + 1)]) hK ⟨Or.inr rfl, ⟨Or.inl rfl, ⟨Or.inl rfl, ⟨Or.inr rfl, trivial⟩⟩⟩⟩ ?_
      exact ih _ _ h
set_option maxHeartbeats 4000000 in
set_option maxRecDepth 100000 in
theorem t_M_cave {dd n : Nat} {x1 : Int32} {s : mb_T} {out : Int32 × mb_T}  (h : f_M_cave n x1 s = some out) : mb_MC (dd + 5) yM_cave bM_cave 4 (some .int) [.ref 200, .int x1] s (some (.int out.1)) out.2 := by
  unfold f_M_cave at h
  refine mj_mc (lv := [.ref 200, .int x1, .retAddr 0, .retAddr 0]) mM_cave rfl rfl (Nat.le_of_ble_eq_true rfl) (fun K hK hR => ?_)
  have hK : mj_C (dd + 5) 0 0 RM_c "cave" bM_cave 4 K := hK
  refine ro_aload_n hK dM_cave_0 rfl ?_
  refine ro_iload_n hK dM_cave_1 rfl ?_
  obtain ⟨r_3, s_1, q_2, h⟩ := mb_cl_e h
  refine rb_callV hK mM_askedText vM_124 (t_M_askedText (dd := dd + 1) q_2) rfl mb_oM rfl (Nat.le_of_ble_eq_true rfl) dM_cave_2 rfl ⟨Nat.le_refl _, Nat.le_refl _⟩ ?_
  show K 0 0 5 [.ref 200, .int x1, .retAddr 0, .retAddr 0] [.int r_3] (mb_s s_1)
  refine ro_istore_n hK dM_cave_5 (by decide) ?_
  show K 0 0 6 [.ref 200, .int x1, .int r_3, .retAddr 0] [] (mb_s s_1)
  refine ro_iload_n hK dM_cave_6 rfl ?_
  refine ro_if_ge (tgt := 12) hK dM_cave_7 (by decide) (fun c_4 => ?_) (fun c_4 => ?_)
  · replace h := mb_ift c_4 h
    refine ro_aload_n hK dM_cave_12 rfl ?_
    refine ro_iload_n hK dM_cave_13 rfl ?_
    obtain ⟨r_7, s_5, q_6, h⟩ := mb_cl_e h
    refine rb_callV hK mM_goesOn vM_158 (t_M_goesOn (dd := dd + 0) q_6) rfl mb_oM rfl (Nat.le_of_ble_eq_true rfl) dM_cave_14 rfl ⟨Nat.le_refl _, Nat.le_refl _⟩ ?_
    show K 0 0 17 [.ref 200, .int x1, .int r_3, .retAddr 0] [.int r_7] (mb_s s_5)
    refine ro_bipush (x := (-9)) hK (by decide) dM_cave_17 ?_
    refine ro_icmp_eq (tgt := 25) hK dM_cave_19 (by decide) (fun c_8 => ?_) (fun c_8 => ?_)
    · replace h := mb_ift c_8 h
      refine ro_aload_n hK dM_cave_25 rfl ?_
      refine ro_aload_n hK dM_cave_26 rfl ?_
      refine rb_get hK fM_149 mb_oM rfl dM_cave_27 ?_
      obtain ⟨s_9, e_10, h⟩ := mb_bd_e h
      refine rb_put hK gM_161 mb_oM rfl (by show 8 < 45; decide) rfl rfl e_10 dM_cave_30 ?_
      refine ro_aload_n hK dM_cave_33 rfl ?_
      refine ro_aload_n hK dM_cave_34 rfl ?_
      refine rb_get hK fM_137 mb_oM rfl dM_cave_35 ?_
      obtain ⟨s_11, e_12, h⟩ := mb_bd_e h
      refine rb_put hK gM_164 mb_oM rfl (by show 9 < 45; decide) rfl rfl e_12 dM_cave_38 ?_
      refine ro_aload_n hK dM_cave_41 rfl ?_
      refine ro_aload_n hK dM_cave_42 rfl ?_
      refine rb_get hK fM_140 mb_oM rfl dM_cave_43 ?_
      obtain ⟨s_13, e_14, h⟩ := mb_bd_e h
      refine rb_put hK gM_167 mb_oM rfl (by show 10 < 45; decide) rfl rfl e_14 dM_cave_46 ?_
      refine ro_aload_n hK dM_cave_49 rfl ?_
      refine ro_aload_n hK dM_cave_50 rfl ?_
      refine rb_get hK fM_161 mb_oM rfl dM_cave_51 ?_
      have j_16 : ∀ w_ : Int32, w_ = (if (s_13.1 200 8) = 0 then 0 else (s_13.1 200 21) : Int32) → K 0 0 65 [.ref 200, .int x1, .int r_3, .retAddr 0] [.int w_, .ref 200] (mb_s s_13) → K 0 0 54 [.ref 200, .int x1, .int r_3, .retAddr 0] [.int (s_13.1 200 8), .ref 200] (mb_s s_13) := by
        intro w_ hw hj
        refine ro_if_ne (tgt := 61) hK dM_cave_54 (by decide) (fun c_15 => ?_) (fun c_15 => ?_)
        · skip
          refine ro_aload_n hK dM_cave_61 rfl ?_
          refine rb_get hK fM_143 mb_oM rfl dM_cave_62 ?_
          have hw := (hw.trans (if_neg c_15))
          subst hw
          exact hj
        · skip
          refine ro_iconst (x := 0) hK (by decide) dM_cave_57 ?_
          refine ro_goto (tgt := 65) hK dM_cave_58 (by decide) ?_
          have hw := (hw.trans (if_pos c_15))
          subst hw
          exact hj
      refine j_16 _ rfl ?_
      obtain ⟨s_17, e_18, h⟩ := mb_bd_e h
      refine rb_put hK gM_170 mb_oM rfl (by show 11 < 45; decide) rfl rfl e_18 dM_cave_65 ?_
      refine ro_iconst (x := 0) hK (by decide) dM_cave_68 ?_
      refine ro_istore_n hK dM_cave_69 (by decide) ?_
      show K 0 0 70 [.ref 200, .int x1, .int r_3, .int 0] [] (mb_s s_17)
      refine ro_fg (lv' := [.ref 200, .retAddr 0, .retAddr 0, .int 0]) hK ⟨Or.inr rfl, ⟨Or.inl rfl, ⟨Or.inl rfl, ⟨Or.inr rfl, trivial⟩⟩⟩⟩ ?_
      refine tl_M_cave_70 (dd := dd) hK hR (fun x_50 s_51 h => ?_) n _ _ h
      refine ro_aload_n hK dM_cave_151 rfl ?_
      refine ro_iconst (x := 0) hK (by decide) dM_cave_152 ?_
      obtain ⟨s_52, e_53, h⟩ := mb_bd_e h
      refine rb_put hK gM_173 mb_oM rfl (by show 24 < 45; decide) rfl rfl e_53 dM_cave_153 ?_
      refine ro_aload_n hK dM_cave_156 rfl ?_
      refine ro_bipush (x := (-9)) hK (by decide) dM_cave_157 ?_
      obtain ⟨s_54, e_55, h⟩ := mb_bd_e h
      refine rb_put hK gM_50 mb_oM rfl (by show 25 < 45; decide) rfl rfl e_55 dM_cave_159 ?_
      refine ro_iconst (x := 0) hK (by decide) dM_cave_162 ?_
      refine ro_istore_n hK dM_cave_163 (by decide) ?_
      show K 0 0 164 [.ref 200, .retAddr 0, .retAddr 0, .int 0] [] (mb_s s_54)
      refine ro_fg (lv' := [.ref 200, .retAddr 0, .retAddr 0, .int 0]) hK ⟨Or.inr rfl, ⟨Or.inl rfl, ⟨Or.inl rfl, ⟨Or.inr rfl, trivial⟩⟩⟩⟩ ?_
      refine tl_M_cave_164 (dd := dd) hK hR (fun x_60 s_61 h => ?_) n _ _ h
      refine ro_aload_n hK dM_cave_187 rfl ?_
      refine rb_get hK fM_161 mb_oM rfl dM_cave_188 ?_
      cases h
      exact hR.1 0 0 191 _ _ _ _ rfl rfl dM_cave_191 ⟨rfl, rfl⟩
    · replace h := mb_iff c_8 h
      refine ro_bipush (x := (-4)) hK (by decide) dM_cave_22 ?_
      cases h
      exact hR.1 0 0 24 _ _ _ _ rfl rfl dM_cave_24 ⟨rfl, rfl⟩
  · replace h := mb_iff c_4 h
    refine ro_iload_n hK dM_cave_10 rfl ?_
    cases h
    exact hR.1 0 0 11 _ _ _ _ rfl rfl dM_cave_11 ⟨rfl, rfl⟩
theorem dM_digest_0 : decode bM_digest 0 = .ok (.aload_n 0, 1) := by decide +kernel
theorem dM_digest_1 : decode bM_digest 1 = .ok (.ldc2_w 332, 3) := by decide +kernel
theorem dM_digest_4 : decode bM_digest 4 = .ok (.putfield 325, 3) := by decide +kernel
theorem dM_digest_7 : decode bM_digest 7 = .ok (.iconst 0, 1) := by decide +kernel
theorem dM_digest_8 : decode bM_digest 8 = .ok (.istore_n 1, 1) := by decide +kernel
theorem dM_digest_9 : decode bM_digest 9 = .ok (.iload_n 1, 1) := by decide +kernel
theorem dM_digest_10 : decode bM_digest 10 = .ok (.bipush 7, 2) := by decide +kernel
theorem dM_digest_12 : decode bM_digest 12 = .ok (.if_icmp .gt 18, 3) := by decide +kernel
theorem dM_digest_15 : decode bM_digest 15 = .ok (.aload_n 0, 1) := by decide +kernel
theorem dM_digest_16 : decode bM_digest 16 = .ok (.aload_n 0, 1) := by decide +kernel
theorem dM_digest_17 : decode bM_digest 17 = .ok (.iload_n 1, 1) := by decide +kernel
theorem dM_digest_18 : decode bM_digest 18 = .ok (.invokevirtual 320, 3) := by decide +kernel
theorem dM_digest_21 : decode bM_digest 21 = .ok (.invokevirtual 329, 3) := by decide +kernel
theorem dM_digest_24 : decode bM_digest 24 = .ok (.iinc 1 1, 3) := by decide +kernel
theorem dM_digest_27 : decode bM_digest 27 = .ok (.goto (-18), 3) := by decide +kernel
theorem dM_digest_30 : decode bM_digest 30 = .ok (.aload_n 0, 1) := by decide +kernel
theorem dM_digest_31 : decode bM_digest 31 = .ok (.invokevirtual 334, 3) := by decide +kernel
theorem dM_digest_34 : decode bM_digest 34 = .ok (.iconst 0, 1) := by decide +kernel
theorem dM_digest_35 : decode bM_digest 35 = .ok (.istore_n 1, 1) := by decide +kernel
theorem dM_digest_36 : decode bM_digest 36 = .ok (.iload_n 1, 1) := by decide +kernel
theorem dM_digest_37 : decode bM_digest 37 = .ok (.bipush 6, 2) := by decide +kernel
theorem dM_digest_39 : decode bM_digest 39 = .ok (.if_icmp .ge 60, 3) := by decide +kernel
theorem dM_digest_42 : decode bM_digest 42 = .ok (.aload_n 0, 1) := by decide +kernel
theorem dM_digest_43 : decode bM_digest 43 = .ok (.aload_n 0, 1) := by decide +kernel
theorem dM_digest_44 : decode bM_digest 44 = .ok (.getfield 13, 3) := by decide +kernel
theorem dM_digest_47 : decode bM_digest 47 = .ok (.iload_n 1, 1) := by decide +kernel
theorem dM_digest_48 : decode bM_digest 48 = .ok (.iaload, 1) := by decide +kernel
theorem dM_digest_49 : decode bM_digest 49 = .ok (.ifCond .ge 7, 3) := by decide +kernel
theorem dM_digest_52 : decode bM_digest 52 = .ok (.iconst (-1), 1) := by decide +kernel
theorem dM_digest_53 : decode bM_digest 53 = .ok (.goto 9, 3) := by decide +kernel
theorem dM_digest_56 : decode bM_digest 56 = .ok (.aload_n 0, 1) := by decide +kernel
theorem dM_digest_57 : decode bM_digest 57 = .ok (.getfield 13, 3) := by decide +kernel
theorem dM_digest_60 : decode bM_digest 60 = .ok (.iload_n 1, 1) := by decide +kernel
theorem dM_digest_61 : decode bM_digest 61 = .ok (.iaload, 1) := by decide +kernel
theorem dM_digest_62 : decode bM_digest 62 = .ok (.invokevirtual 329, 3) := by decide +kernel
theorem dM_digest_65 : decode bM_digest 65 = .ok (.iconst 0, 1) := by decide +kernel
theorem dM_digest_66 : decode bM_digest 66 = .ok (.istore_n 2, 1) := by decide +kernel
theorem dM_digest_67 : decode bM_digest 67 = .ok (.iload_n 2, 1) := by decide +kernel
theorem dM_digest_68 : decode bM_digest 68 = .ok (.aload_n 0, 1) := by decide +kernel
theorem dM_digest_69 : decode bM_digest 69 = .ok (.getfield 13, 3) := by decide +kernel
theorem dM_digest_72 : decode bM_digest 72 = .ok (.iload_n 1, 1) := by decide +kernel
theorem dM_digest_73 : decode bM_digest 73 = .ok (.iaload, 1) := by decide +kernel
theorem dM_digest_74 : decode bM_digest 74 = .ok (.if_icmp .ge 19, 3) := by decide +kernel
theorem dM_digest_77 : decode bM_digest 77 = .ok (.aload_n 0, 1) := by decide +kernel
theorem dM_digest_78 : decode bM_digest 78 = .ok (.aload_n 0, 1) := by decide +kernel
theorem dM_digest_79 : decode bM_digest 79 = .ok (.iload_n 1, 1) := by decide +kernel
theorem dM_digest_80 : decode bM_digest 80 = .ok (.iload_n 2, 1) := by decide +kernel
theorem dM_digest_81 : decode bM_digest 81 = .ok (.invokevirtual 114, 3) := by decide +kernel
theorem dM_digest_84 : decode bM_digest 84 = .ok (.invokevirtual 329, 3) := by decide +kernel
theorem dM_digest_87 : decode bM_digest 87 = .ok (.iinc 2 1, 3) := by decide +kernel
theorem dM_digest_90 : decode bM_digest 90 = .ok (.goto (-23), 3) := by decide +kernel
theorem dM_digest_93 : decode bM_digest 93 = .ok (.iinc 1 1, 3) := by decide +kernel
theorem dM_digest_96 : decode bM_digest 96 = .ok (.goto (-60), 3) := by decide +kernel
theorem dM_digest_99 : decode bM_digest 99 = .ok (.iconst 0, 1) := by decide +kernel
theorem dM_digest_100 : decode bM_digest 100 = .ok (.istore_n 1, 1) := by decide +kernel
theorem dM_digest_101 : decode bM_digest 101 = .ok (.iload_n 1, 1) := by decide +kernel
theorem dM_digest_102 : decode bM_digest 102 = .ok (.iconst 4, 1) := by decide +kernel
theorem dM_digest_103 : decode bM_digest 103 = .ok (.if_icmp .ge 65, 3) := by decide +kernel
theorem dM_digest_106 : decode bM_digest 106 = .ok (.aload_n 0, 1) := by decide +kernel
theorem dM_digest_107 : decode bM_digest 107 = .ok (.aload_n 0, 1) := by decide +kernel
theorem dM_digest_108 : decode bM_digest 108 = .ok (.getfield 22, 3) := by decide +kernel
theorem dM_digest_111 : decode bM_digest 111 = .ok (.iload_n 1, 1) := by decide +kernel
theorem dM_digest_112 : decode bM_digest 112 = .ok (.iaload, 1) := by decide +kernel
theorem dM_digest_113 : decode bM_digest 113 = .ok (.ifCond .ge 7, 3) := by decide +kernel
theorem dM_digest_116 : decode bM_digest 116 = .ok (.iconst (-1), 1) := by decide +kernel
theorem dM_digest_117 : decode bM_digest 117 = .ok (.goto 9, 3) := by decide +kernel
theorem dM_digest_120 : decode bM_digest 120 = .ok (.aload_n 0, 1) := by decide +kernel
theorem dM_digest_121 : decode bM_digest 121 = .ok (.getfield 22, 3) := by decide +kernel
theorem dM_digest_124 : decode bM_digest 124 = .ok (.iload_n 1, 1) := by decide +kernel
theorem dM_digest_125 : decode bM_digest 125 = .ok (.iaload, 1) := by decide +kernel
theorem dM_digest_126 : decode bM_digest 126 = .ok (.invokevirtual 329, 3) := by decide +kernel
theorem dM_digest_129 : decode bM_digest 129 = .ok (.iconst 0, 1) := by decide +kernel
theorem dM_digest_130 : decode bM_digest 130 = .ok (.istore_n 2, 1) := by decide +kernel
theorem dM_digest_131 : decode bM_digest 131 = .ok (.iload_n 2, 1) := by decide +kernel
theorem dM_digest_132 : decode bM_digest 132 = .ok (.aload_n 0, 1) := by decide +kernel
theorem dM_digest_133 : decode bM_digest 133 = .ok (.getfield 22, 3) := by decide +kernel
theorem dM_digest_136 : decode bM_digest 136 = .ok (.iload_n 1, 1) := by decide +kernel
theorem dM_digest_137 : decode bM_digest 137 = .ok (.iaload, 1) := by decide +kernel
theorem dM_digest_138 : decode bM_digest 138 = .ok (.if_icmp .ge 24, 3) := by decide +kernel
theorem dM_digest_141 : decode bM_digest 141 = .ok (.aload_n 0, 1) := by decide +kernel
theorem dM_digest_142 : decode bM_digest 142 = .ok (.aload_n 0, 1) := by decide +kernel
theorem dM_digest_143 : decode bM_digest 143 = .ok (.getfield 25, 3) := by decide +kernel
theorem dM_digest_146 : decode bM_digest 146 = .ok (.bipush 80, 2) := by decide +kernel
theorem dM_digest_148 : decode bM_digest 148 = .ok (.iload_n 1, 1) := by decide +kernel
theorem dM_digest_149 : decode bM_digest 149 = .ok (.imul, 1) := by decide +kernel
theorem dM_digest_150 : decode bM_digest 150 = .ok (.iload_n 2, 1) := by decide +kernel
theorem dM_digest_151 : decode bM_digest 151 = .ok (.iadd, 1) := by decide +kernel
theorem dM_digest_152 : decode bM_digest 152 = .ok (.iaload, 1) := by decide +kernel
theorem dM_digest_153 : decode bM_digest 153 = .ok (.invokevirtual 329, 3) := by decide +kernel
theorem dM_digest_156 : decode bM_digest 156 = .ok (.iinc 2 1, 3) := by decide +kernel
theorem dM_digest_159 : decode bM_digest 159 = .ok (.goto (-28), 3) := by decide +kernel
theorem dM_digest_162 : decode bM_digest 162 = .ok (.iinc 1 1, 3) := by decide +kernel
theorem dM_digest_165 : decode bM_digest 165 = .ok (.goto (-64), 3) := by decide +kernel
theorem dM_digest_168 : decode bM_digest 168 = .ok (.aload_n 0, 1) := by decide +kernel
theorem dM_digest_169 : decode bM_digest 169 = .ok (.getfield 325, 3) := by decide +kernel
theorem dM_digest_172 : decode bM_digest 172 = .ok (.lreturn, 1) := by decide +kernel
def f_M_digest_9 (n : Nat) (k0 : Int32 → mb_T → Option (Int64 × mb_T))  : Nat → Int32 → mb_T → Option (Int64 × mb_T)
  | 0, _, _ => none
  | f + 1, w1, s => if 7 < w1 then k0 w1 s else mb_cl (f_M_tells n w1 s) fun r_6 s_4 => mb_cw (f_M_mix n r_6 s_4) fun s_7 => f_M_digest_9 n k0 f (w1 + 1) s_7
def f_M_digest_67 (n : Nat) (k0 : Int32 → mb_T → Option (Int64 × mb_T)) (y1 : Int32) : Nat → Int32 → mb_T → Option (Int64 × mb_T)
  | 0, _, _ => none
  | f + 1, w2, s => mb_rd s 203 6 y1 fun x_26 => if x_26 ≤ w2 then k0 w2 s else mb_cl (f_M_rowAt n y1 w2 s) fun r_32 s_30 => mb_cw (f_M_mix n r_32 s_30) fun s_33 => f_M_digest_67 n k0 y1 f (w2 + 1) s_33
def f_M_digest_36 (n : Nat) (k0 : Int32 → mb_T → Option (Int64 × mb_T))  : Nat → Int32 → mb_T → Option (Int64 × mb_T)
  | 0, _, _ => none
  | f + 1, w1, s => if 6 ≤ w1 then k0 w1 s else mb_rd s 203 6 w1 fun x_14 => mb_jn (fun (x_22 : Int32) (s_23 : mb_T) => mb_cw (f_M_mix n x_22 s_23) fun s_24 => f_M_digest_67 n (fun x_35 s_36 => f_M_digest_36 n k0 f (w1 + 1) s_36) w1 n 0 s_24) fun j_17 => if 0 ≤ x_14 then (mb_rd s 203 6 w1 fun x_19 => j_17 x_19 s) else j_17 (-1) s
def f_M_digest_131 (n : Nat) (k0 : Int32 → mb_T → Option (Int64 × mb_T)) (y1 : Int32) : Nat → Int32 → mb_T → Option (Int64 × mb_T)
  | 0, _, _ => none
  | f + 1, w2, s => mb_rd s 206 4 y1 fun x_53 => if x_53 ≤ w2 then k0 w2 s else mb_rd s 207 320 ((80 * y1) + w2) fun x_57 => mb_cw (f_M_mix n x_57 s) fun s_60 => f_M_digest_131 n k0 y1 f (w2 + 1) s_60
def f_M_digest_101 (n : Nat) (k0 : Int32 → mb_T → Option (Int64 × mb_T))  : Nat → Int32 → mb_T → Option (Int64 × mb_T)
  | 0, _, _ => none
  | f + 1, w1, s => if 4 ≤ w1 then k0 w1 s else mb_rd s 206 4 w1 fun x_41 => mb_jn (fun (x_49 : Int32) (s_50 : mb_T) => mb_cw (f_M_mix n x_49 s_50) fun s_51 => f_M_digest_131 n (fun x_62 s_63 => f_M_digest_101 n k0 f (w1 + 1) s_63) w1 n 0 s_51) fun j_44 => if 0 ≤ x_41 then (mb_rd s 206 4 w1 fun x_46 => j_44 x_46 s) else j_44 (-1) s
def f_M_digest (n : Nat)  (s : mb_T) : Option (Int64 × mb_T) := mb_bd (sJ s 200 17) fun s_1 => f_M_digest_9 n (fun x_9 s_10 => mb_cw (f_M_mixCave n s_10) fun s_11 => f_M_digest_36 n (fun x_38 s_39 => f_M_digest_101 n (fun x_65 s_66 => some ((s_66.2.2.1 200), s_66)) n 0 s_39) n 0 s_11) n 0 s_1
set_option maxHeartbeats 4000000 in
set_option maxRecDepth 100000 in
theorem tl_M_digest_9 {dd n : Nat} {K : mj_KT} {out : Int64 × mb_T} (hK : mj_C (dd + 5) 0 0 RM_c "digest" bM_digest 3 K) (hR : mj_R bM_digest (some .long) (fun r2 S2 => r2 = some (.long out.1) ∧ S2 = mb_s out.2) K) {k0 : Int32 → mb_T → Option (Int64 × mb_T)}  (hk0 : ∀ (w1 : Int32) (s : mb_T), k0 w1 s = some out → K 0 0 30 [.ref 200, .int w1, .retAddr 0] [] (mb_s s)) : ∀ (f : Nat) (w1 : Int32) (s : mb_T), f_M_digest_9 n k0 f w1 s = some out → K 0 0 9 [.ref 200, .int w1, .retAddr 0] [] (mb_s s) := by
  intro f
  induction f with
  | zero =>
    intro w1 s h
    cases h
  | succ f ih =>
    intro w1 s h
    rw [f_M_digest_9] at h
    refine ro_iload_n hK dM_digest_9 rfl ?_
    refine ro_bipush (x := 7) hK (by decide) dM_digest_10 ?_
    refine ro_icmp_gt (tgt := 30) hK dM_digest_12 (by decide) (fun c_3 => ?_) (fun c_3 => ?_)
    · replace h := mb_ift c_3 h
      refine ro_fg (lv' := [.ref 200, .int w1, .retAddr 0]) hK ⟨Or.inr rfl, ⟨Or.inr rfl, ⟨Or.inl rfl, trivial⟩⟩⟩ ?_
      exact hk0 _ _ h
    · replace h := mb_iff c_3 h
      refine ro_aload_n hK dM_digest_15 rfl ?_
      refine ro_aload_n hK dM_digest_16 rfl ?_
      refine ro_iload_n hK dM_digest_17 rfl ?_
      obtain ⟨r_6, s_4, q_5, h⟩ := mb_cl_e h
      refine rb_callV hK mM_tells vM_320 (t_M_tells (dd := dd + 2) q_5) rfl mb_oM rfl (Nat.le_of_ble_eq_true rfl) dM_digest_18 rfl ⟨Nat.le_refl _, Nat.le_refl _⟩ ?_
      show K 0 0 21 [.ref 200, .int w1, .retAddr 0] [.int r_6, .ref 200] (mb_s s_4)
      obtain ⟨s_7, q_8, h⟩ := mb_cw_e h
      refine rb_callV hK mM_mix vM_329 (t_M_mix (dd := dd + 3) q_8) rfl mb_oM rfl (Nat.le_of_ble_eq_true rfl) dM_digest_21 rfl ⟨Nat.le_refl _, Nat.le_refl _⟩ ?_
      show K 0 0 24 [.ref 200, .int w1, .retAddr 0] [] (mb_s s_7)
      refine ro_iincv (c := 1) hK (by decide) dM_digest_24 rfl (by decide) ?_
      show K 0 0 27 [.ref 200, .int (w1 + 1), .retAddr 0] [] (mb_s s_7)
      refine ro_goto (tgt := 9) hK dM_digest_27 (by decide) ?_
      refine ro_fg (lv' := [.ref 200, .int (w1 + 1), .retAddr 0]) hK ⟨Or.inr rfl, ⟨Or.inr rfl, ⟨Or.inl rfl, trivial⟩⟩⟩ ?_
      exact ih _ _ h
set_option maxHeartbeats 4000000 in
set_option maxRecDepth 100000 in
theorem tl_M_digest_67 {dd n : Nat} {K : mj_KT} {out : Int64 × mb_T} (hK : mj_C (dd + 5) 0 0 RM_c "digest" bM_digest 3 K) (hR : mj_R bM_digest (some .long) (fun r2 S2 => r2 = some (.long out.1) ∧ S2 = mb_s out.2) K) {k0 : Int32 → mb_T → Option (Int64 × mb_T)} {y1 : Int32} (hk0 : ∀ (w2 : Int32) (s : mb_T), k0 w2 s = some out → K 0 0 93 [.ref 200, .int y1, .int w2] [] (mb_s s)) : ∀ (f : Nat) (w2 : Int32) (s : mb_T), f_M_digest_67 n k0 y1 f w2 s = some out → K 0 0 67 [.ref 200, .int y1, .int w2] [] (mb_s s) := by
  intro f
  induction f with
  | zero =>
    intro w2 s h
    cases h
  | succ f ih =>
    intro w2 s h
    rw [f_M_digest_67] at h
    refine ro_iload_n hK dM_digest_67 rfl ?_
    refine ro_aload_n hK dM_digest_68 rfl ?_
    refine rb_get hK fM_13 mb_oM rfl dM_digest_69 ?_
    refine ro_iload_n hK dM_digest_72 rfl ?_
    obtain ⟨x_26, e_27, i_28, h⟩ := mb_rd_e h
    refine rb_iald hK ai_203 i_28 e_27 dM_digest_73 ?_
    refine ro_icmp_ge (tgt := 93) hK dM_digest_74 (by decide) (fun c_29 => ?_) (fun c_29 => ?_)
    · replace h := mb_ift c_29 h
      refine ro_fg (lv' := [.ref 200, .int y1, .int w2]) hK ⟨Or.inr rfl, ⟨Or.inr rfl, ⟨Or.inr rfl, trivial⟩⟩⟩ ?_
      exact hk0 _ _ h
    · replace h := mb_iff c_29 h
      refine ro_aload_n hK dM_digest_77 rfl ?_
      refine ro_aload_n hK dM_digest_78 rfl ?_
      refine ro_iload_n hK dM_digest_79 rfl ?_
      refine ro_iload_n hK dM_digest_80 rfl ?_
      obtain ⟨r_32, s_30, q_31, h⟩ := mb_cl_e h
      refine rb_callV hK mM_rowAt vM_114 (t_M_rowAt (dd := dd + 3) q_31) rfl mb_oM rfl (Nat.le_of_ble_eq_true rfl) dM_digest_81 rfl ⟨Nat.le_refl _, Nat.le_refl _⟩ ?_
      show K 0 0 84 [.ref 200, .int y1, .int w2] [.int r_32, .ref 200] (mb_s s_30)
      obtain ⟨s_33, q_34, h⟩ := mb_cw_e h
      refine rb_callV hK mM_mix vM_329 (t_M_mix (dd := dd + 3) q_34) rfl mb_oM rfl (Nat.le_of_ble_eq_true rfl) dM_digest_84 rfl ⟨Nat.le_refl _, Nat.le_refl _⟩ ?_
      show K 0 0 87 [.ref 200, .int y1, .int w2] [] (mb_s s_33)
      refine ro_iincv (c := 1) hK (by decide) dM_digest_87 rfl (by decide) ?_
      show K 0 0 90 [.ref 200, .int y1, .int (w2 + 1)] [] (mb_s s_33)
      refine ro_goto (tgt := 67) hK dM_digest_90 (by decide) ?_
      refine ro_fg (lv' := [.ref 200, .int y1, .int (w2 + 1)]) hK ⟨Or.inr rfl, ⟨Or.inr rfl, ⟨Or.inr rfl, trivial⟩⟩⟩ ?_
      exact ih _ _ h
set_option maxHeartbeats 4000000 in
set_option maxRecDepth 100000 in
theorem tl_M_digest_36 {dd n : Nat} {K : mj_KT} {out : Int64 × mb_T} (hK : mj_C (dd + 5) 0 0 RM_c "digest" bM_digest 3 K) (hR : mj_R bM_digest (some .long) (fun r2 S2 => r2 = some (.long out.1) ∧ S2 = mb_s out.2) K) {k0 : Int32 → mb_T → Option (Int64 × mb_T)}  (hk0 : ∀ (w1 : Int32) (s : mb_T), k0 w1 s = some out → K 0 0 99 [.ref 200, .int w1, .retAddr 0] [] (mb_s s)) : ∀ (f : Nat) (w1 : Int32) (s : mb_T), f_M_digest_36 n k0 f w1 s = some out → K 0 0 36 [.ref 200, .int w1, .retAddr 0] [] (mb_s s) := by
  intro f
  induction f with
  | zero =>
    intro w1 s h
    cases h
  | succ f ih =>
    intro w1 s h
    rw [f_M_digest_36] at h
    refine ro_iload_n hK dM_digest_36 rfl ?_
    refine ro_bipush (x := 6) hK (by decide) dM_digest_37 ?_
    refine ro_icmp_ge (tgt := 99) hK dM_digest_39 (by decide) (fun c_13 => ?_) (fun c_13 => ?_)
    · replace h := mb_ift c_13 h
      refine ro_fg (lv' := [.ref 200, .int w1, .retAddr 0]) hK ⟨Or.inr rfl, ⟨Or.inr rfl, ⟨Or.inl rfl, trivial⟩⟩⟩ ?_
      exact hk0 _ _ h
    · replace h := mb_iff c_13 h
      refine ro_aload_n hK dM_digest_42 rfl ?_
      refine ro_aload_n hK dM_digest_43 rfl ?_
      refine rb_get hK fM_13 mb_oM rfl dM_digest_44 ?_
      refine ro_iload_n hK dM_digest_47 rfl ?_
      obtain ⟨x_14, e_15, i_16, h⟩ := mb_rd_e h
      refine rb_iald hK ai_203 i_16 e_15 dM_digest_48 ?_
      obtain ⟨j_17, e_37, h⟩ := mb_jn_e h
      have hj_17 : ∀ (x_22 : Int32) (s_23 : mb_T), j_17 x_22 s_23 = some out → K 0 0 62 [.ref 200, .int w1, .retAddr 0] [.int x_22, .ref 200] (mb_s s_23) := by
        intro x_22 s_23 h
        rw [e_37] at h
        obtain ⟨s_24, q_25, h⟩ := mb_cw_e h
        refine rb_callV hK mM_mix vM_329 (t_M_mix (dd := dd + 3) q_25) rfl mb_oM rfl (Nat.le_of_ble_eq_true rfl) dM_digest_62 rfl ⟨Nat.le_refl _, Nat.le_refl _⟩ ?_
        show K 0 0 65 [.ref 200, .int w1, .retAddr 0] [] (mb_s s_24)
        refine ro_iconst (x := 0) hK (by decide) dM_digest_65 ?_
        refine ro_istore_n hK dM_digest_66 (by decide) ?_
        show K 0 0 67 [.ref 200, .int w1, .int 0] [] (mb_s s_24)
        refine ro_fg (lv' := [.ref 200, .int w1, .int 0]) hK ⟨Or.inr rfl, ⟨Or.inr rfl, ⟨Or.inr rfl, trivial⟩⟩⟩ ?_
        refine tl_M_digest_67 (dd := dd) hK hR (fun x_35 s_36 h => ?_) n _ _ h
        refine ro_iincv (c := 1) hK (by decide) dM_digest_93 rfl (by decide) ?_
        show K 0 0 96 [.ref 200, .int (w1 + 1), .int x_35] [] (mb_s s_36)
        refine ro_goto (tgt := 36) hK dM_digest_96 (by decide) ?_
        refine ro_fg (lv' := [.ref 200, .int (w1 + 1), .retAddr 0]) hK ⟨Or.inr rfl, ⟨Or.inr rfl, ⟨Or.inl rfl, trivial⟩⟩⟩ ?_
        exact ih _ _ h
      refine ro_if_ge (tgt := 56) hK dM_digest_49 (by decide) (fun c_18 => ?_) (fun c_18 => ?_)
      · replace h := mb_ift c_18 h
        refine ro_aload_n hK dM_digest_56 rfl ?_
        refine rb_get hK fM_13 mb_oM rfl dM_digest_57 ?_
        refine ro_iload_n hK dM_digest_60 rfl ?_
        obtain ⟨x_19, e_20, i_21, h⟩ := mb_rd_e h
        refine rb_iald hK ai_203 i_21 e_20 dM_digest_61 ?_
        refine ro_fg (lv' := [.ref 200, .int w1, .retAddr 0]) hK ⟨Or.inr rfl, ⟨Or.inr rfl, ⟨Or.inl rfl, trivial⟩⟩⟩ ?_
        exact hj_17 _ _ h
      · replace h := mb_iff c_18 h
        refine ro_iconst (x := (-1)) hK (by decide) dM_digest_52 ?_
        refine ro_goto (tgt := 62) hK dM_digest_53 (by decide) ?_
        refine ro_fg (lv' := [.ref 200, .int w1, .retAddr 0]) hK ⟨Or.inr rfl, ⟨Or.inr rfl, ⟨Or.inl rfl, trivial⟩⟩⟩ ?_
        exact hj_17 _ _ h
set_option maxHeartbeats 4000000 in
set_option maxRecDepth 100000 in
theorem tl_M_digest_131 {dd n : Nat} {K : mj_KT} {out : Int64 × mb_T} (hK : mj_C (dd + 5) 0 0 RM_c "digest" bM_digest 3 K) (hR : mj_R bM_digest (some .long) (fun r2 S2 => r2 = some (.long out.1) ∧ S2 = mb_s out.2) K) {k0 : Int32 → mb_T → Option (Int64 × mb_T)} {y1 : Int32} (hk0 : ∀ (w2 : Int32) (s : mb_T), k0 w2 s = some out → K 0 0 162 [.ref 200, .int y1, .int w2] [] (mb_s s)) : ∀ (f : Nat) (w2 : Int32) (s : mb_T), f_M_digest_131 n k0 y1 f w2 s = some out → K 0 0 131 [.ref 200, .int y1, .int w2] [] (mb_s s) := by
  intro f
  induction f with
  | zero =>
    intro w2 s h
    cases h
  | succ f ih =>
    intro w2 s h
    rw [f_M_digest_131] at h
    refine ro_iload_n hK dM_digest_131 rfl ?_
    refine ro_aload_n hK dM_digest_132 rfl ?_
    refine rb_get hK fM_22 mb_oM rfl dM_digest_133 ?_
    refine ro_iload_n hK dM_digest_136 rfl ?_
    obtain ⟨x_53, e_54, i_55, h⟩ := mb_rd_e h
    refine rb_iald hK ai_206 i_55 e_54 dM_digest_137 ?_
    refine ro_icmp_ge (tgt := 162) hK dM_digest_138 (by decide) (fun c_56 => ?_) (fun c_56 => ?_)
    · replace h := mb_ift c_56 h
      refine ro_fg (lv' := [.ref 200, .int y1, .int w2]) hK ⟨Or.inr rfl, ⟨Or.inr rfl, ⟨Or.inr rfl, trivial⟩⟩⟩ ?_
      exact hk0 _ _ h
    · replace h := mb_iff c_56 h
      refine ro_aload_n hK dM_digest_141 rfl ?_
      refine ro_aload_n hK dM_digest_142 rfl ?_
      refine rb_get hK fM_25 mb_oM rfl dM_digest_143 ?_
      refine ro_bipush (x := 80) hK (by decide) dM_digest_146 ?_
      refine ro_iload_n hK dM_digest_148 rfl ?_
      refine ro_imul hK dM_digest_149 ?_
      refine ro_iload_n hK dM_digest_150 rfl ?_
      refine ro_iadd hK dM_digest_151 ?_
      obtain ⟨x_57, e_58, i_59, h⟩ := mb_rd_e h
      refine rb_iald hK ai_207 i_59 e_58 dM_digest_152 ?_
      obtain ⟨s_60, q_61, h⟩ := mb_cw_e h
      refine rb_callV hK mM_mix vM_329 (t_M_mix (dd := dd + 3) q_61) rfl mb_oM rfl (Nat.le_of_ble_eq_true rfl) dM_digest_153 rfl ⟨Nat.le_refl _, Nat.le_refl _⟩ ?_
      show K 0 0 156 [.ref 200, .int y1, .int w2] [] (mb_s s_60)
      refine ro_iincv (c := 1) hK (by decide) dM_digest_156 rfl (by decide) ?_
      show K 0 0 159 [.ref 200, .int y1, .int (w2 + 1)] [] (mb_s s_60)
      refine ro_goto (tgt := 131) hK dM_digest_159 (by decide) ?_
      refine ro_fg (lv' := [.ref 200, .int y1, .int (w2 + 1)]) hK ⟨Or.inr rfl, ⟨Or.inr rfl, ⟨Or.inr rfl, trivial⟩⟩⟩ ?_
      exact ih _ _ h
set_option maxHeartbeats 4000000 in
set_option maxRecDepth 100000 in
theorem tl_M_digest_101 {dd n : Nat} {K : mj_KT} {out : Int64 × mb_T} (hK : mj_C (dd + 5) 0 0 RM_c "digest" bM_digest 3 K) (hR : mj_R bM_digest (some .long) (fun r2 S2 => r2 = some (.long out.1) ∧ S2 = mb_s out.2) K) {k0 : Int32 → mb_T → Option (Int64 × mb_T)}  (hk0 : ∀ (w1 : Int32) (s : mb_T), k0 w1 s = some out → K 0 0 168 [.ref 200, .int w1, .retAddr 0] [] (mb_s s)) : ∀ (f : Nat) (w1 : Int32) (s : mb_T), f_M_digest_101 n k0 f w1 s = some out → K 0 0 101 [.ref 200, .int w1, .retAddr 0] [] (mb_s s) := by
  intro f
  induction f with
  | zero =>
    intro w1 s h
    cases h
  | succ f ih =>
    intro w1 s h
    rw [f_M_digest_101] at h
    refine ro_iload_n hK dM_digest_101 rfl ?_
    refine ro_iconst (x := 4) hK (by decide) dM_digest_102 ?_
    refine ro_icmp_ge (tgt := 168) hK dM_digest_103 (by decide) (fun c_40 => ?_) (fun c_40 => ?_)
    · replace h := mb_ift c_40 h
      refine ro_fg (lv' := [.ref 200, .int w1, .retAddr 0]) hK ⟨Or.inr rfl, ⟨Or.inr rfl, ⟨Or.inl rfl, trivial⟩⟩⟩ ?_
      exact hk0 _ _ h
    · replace h := mb_iff c_40 h
      refine ro_aload_n hK dM_digest_106 rfl ?_
      refine ro_aload_n hK dM_digest_107 rfl ?_
      refine rb_get hK fM_22 mb_oM rfl dM_digest_108 ?_
      refine ro_iload_n hK dM_digest_111 rfl ?_
      obtain ⟨x_41, e_42, i_43, h⟩ := mb_rd_e h
      refine rb_iald hK ai_206 i_43 e_42 dM_digest_112 ?_
      obtain ⟨j_44, e_64, h⟩ := mb_jn_e h
      have hj_44 : ∀ (x_49 : Int32) (s_50 : mb_T), j_44 x_49 s_50 = some out → K 0 0 126 [.ref 200, .int w1, .retAddr 0] [.int x_49, .ref 200] (mb_s s_50) := by
        intro x_49 s_50 h
        rw [e_64] at h
        obtain ⟨s_51, q_52, h⟩ := mb_cw_e h
        refine rb_callV hK mM_mix vM_329 (t_M_mix (dd := dd + 3) q_52) rfl mb_oM rfl (Nat.le_of_ble_eq_true rfl) dM_digest_126 rfl ⟨Nat.le_refl _, Nat.le_refl _⟩ ?_
        show K 0 0 129 [.ref 200, .int w1, .retAddr 0] [] (mb_s s_51)
        refine ro_iconst (x := 0) hK (by decide) dM_digest_129 ?_
        refine ro_istore_n hK dM_digest_130 (by decide) ?_
        show K 0 0 131 [.ref 200, .int w1, .int 0] [] (mb_s s_51)
        refine ro_fg (lv' := [.ref 200, .int w1, .int 0]) hK ⟨Or.inr rfl, ⟨Or.inr rfl, ⟨Or.inr rfl, trivial⟩⟩⟩ ?_
        refine tl_M_digest_131 (dd := dd) hK hR (fun x_62 s_63 h => ?_) n _ _ h
        refine ro_iincv (c := 1) hK (by decide) dM_digest_162 rfl (by decide) ?_
        show K 0 0 165 [.ref 200, .int (w1 + 1), .int x_62] [] (mb_s s_63)
        refine ro_goto (tgt := 101) hK dM_digest_165 (by decide) ?_
        refine ro_fg (lv' := [.ref 200, .int (w1 + 1), .retAddr 0]) hK ⟨Or.inr rfl, ⟨Or.inr rfl, ⟨Or.inl rfl, trivial⟩⟩⟩ ?_
        exact ih _ _ h
      refine ro_if_ge (tgt := 120) hK dM_digest_113 (by decide) (fun c_45 => ?_) (fun c_45 => ?_)
      · replace h := mb_ift c_45 h
        refine ro_aload_n hK dM_digest_120 rfl ?_
        refine rb_get hK fM_22 mb_oM rfl dM_digest_121 ?_
        refine ro_iload_n hK dM_digest_124 rfl ?_
        obtain ⟨x_46, e_47, i_48, h⟩ := mb_rd_e h
        refine rb_iald hK ai_206 i_48 e_47 dM_digest_125 ?_
        refine ro_fg (lv' := [.ref 200, .int w1, .retAddr 0]) hK ⟨Or.inr rfl, ⟨Or.inr rfl, ⟨Or.inl rfl, trivial⟩⟩⟩ ?_
        exact hj_44 _ _ h
      · replace h := mb_iff c_45 h
        refine ro_iconst (x := (-1)) hK (by decide) dM_digest_116 ?_
        refine ro_goto (tgt := 126) hK dM_digest_117 (by decide) ?_
        refine ro_fg (lv' := [.ref 200, .int w1, .retAddr 0]) hK ⟨Or.inr rfl, ⟨Or.inr rfl, ⟨Or.inl rfl, trivial⟩⟩⟩ ?_
        exact hj_44 _ _ h
set_option maxHeartbeats 4000000 in
set_option maxRecDepth 100000 in
theorem t_M_digest {dd n : Nat}  {s : mb_T} {out : Int64 × mb_T}  (h : f_M_digest n  s = some out) : mb_MC (dd + 5) yM_digest bM_digest 3 (some .long) [.ref 200] s (some (.long out.1)) out.2 := by
  unfold f_M_digest at h
  refine mj_mc (lv := [.ref 200, .retAddr 0, .retAddr 0]) mM_digest rfl rfl (Nat.le_of_ble_eq_true rfl) (fun K hK hR => ?_)
  have hK : mj_C (dd + 5) 0 0 RM_c "digest" bM_digest 3 K := hK
  refine ro_aload_n hK dM_digest_0 rfl ?_
  refine ro_ldc2 hK cM_332 dM_digest_1 ?_
  obtain ⟨s_1, e_2, h⟩ := mb_bd_e h
  refine rb_putJ hK gM_325 e_2 dM_digest_4 ?_
  refine ro_iconst (x := 0) hK (by decide) dM_digest_7 ?_
  refine ro_istore_n hK dM_digest_8 (by decide) ?_
  show K 0 0 9 [.ref 200, .int 0, .retAddr 0] [] (mb_s s_1)
  refine ro_fg (lv' := [.ref 200, .int 0, .retAddr 0]) hK ⟨Or.inr rfl, ⟨Or.inr rfl, ⟨Or.inl rfl, trivial⟩⟩⟩ ?_
  refine tl_M_digest_9 (dd := dd) hK hR (fun x_9 s_10 h => ?_) n _ _ h
  refine ro_aload_n hK dM_digest_30 rfl ?_
  obtain ⟨s_11, q_12, h⟩ := mb_cw_e h
  refine rb_callV hK mM_mixCave vM_334 (t_M_mixCave (dd := dd + 0) q_12) rfl mb_oM rfl (Nat.le_of_ble_eq_true rfl) dM_digest_31 rfl ⟨Nat.le_refl _, Nat.le_refl _⟩ ?_
  show K 0 0 34 [.ref 200, .int x_9, .retAddr 0] [] (mb_s s_11)
  refine ro_iconst (x := 0) hK (by decide) dM_digest_34 ?_
  refine ro_istore_n hK dM_digest_35 (by decide) ?_
  show K 0 0 36 [.ref 200, .int 0, .retAddr 0] [] (mb_s s_11)
  refine ro_fg (lv' := [.ref 200, .int 0, .retAddr 0]) hK ⟨Or.inr rfl, ⟨Or.inr rfl, ⟨Or.inl rfl, trivial⟩⟩⟩ ?_
  refine tl_M_digest_36 (dd := dd) hK hR (fun x_38 s_39 h => ?_) n _ _ h
  refine ro_iconst (x := 0) hK (by decide) dM_digest_99 ?_
  refine ro_istore_n hK dM_digest_100 (by decide) ?_
  show K 0 0 101 [.ref 200, .int 0, .retAddr 0] [] (mb_s s_39)
  refine ro_fg (lv' := [.ref 200, .int 0, .retAddr 0]) hK ⟨Or.inr rfl, ⟨Or.inr rfl, ⟨Or.inl rfl, trivial⟩⟩⟩ ?_
  refine tl_M_digest_101 (dd := dd) hK hR (fun x_65 s_66 h => ?_) n _ _ h
  refine ro_aload_n hK dM_digest_168 rfl ?_
  refine rb_get hK fM_325 mb_oM rfl dM_digest_169 ?_
  cases h
  exact hR.2.1 0 0 172 _ _ _ rfl dM_digest_172 ⟨rfl, rfl⟩
theorem dM_fault_0 : decode bM_fault 0 = .ok (.aload_n 0, 1) := by decide +kernel
theorem dM_fault_1 : decode bM_fault 1 = .ok (.iload_n 1, 1) := by decide +kernel
theorem dM_fault_2 : decode bM_fault 2 = .ok (.invokevirtual 124, 3) := by decide +kernel
theorem dM_fault_5 : decode bM_fault 5 = .ok (.istore_n 2, 1) := by decide +kernel
theorem dM_fault_6 : decode bM_fault 6 = .ok (.iload_n 2, 1) := by decide +kernel
theorem dM_fault_7 : decode bM_fault 7 = .ok (.ifCond .ge 7, 3) := by decide +kernel
theorem dM_fault_10 : decode bM_fault 10 = .ok (.iload_n 2, 1) := by decide +kernel
theorem dM_fault_11 : decode bM_fault 11 = .ok (.goto 8, 3) := by decide +kernel
theorem dM_fault_14 : decode bM_fault 14 = .ok (.aload_n 0, 1) := by decide +kernel
theorem dM_fault_15 : decode bM_fault 15 = .ok (.iload_n 1, 1) := by decide +kernel
theorem dM_fault_16 : decode bM_fault 16 = .ok (.invokevirtual 158, 3) := by decide +kernel
theorem dM_fault_19 : decode bM_fault 19 = .ok (.ireturn, 1) := by decide +kernel
def f_M_fault (n : Nat) (x1 : Int32) (s : mb_T) : Option (Int32 × mb_T) := mb_cl (f_M_askedText n x1 s) fun r_3 s_1 => if 0 ≤ r_3 then (mb_cl (f_M_goesOn n x1 s_1) fun r_7 s_5 => some (r_7, s_5)) else some (r_3, s_1)
set_option maxHeartbeats 4000000 in
set_option maxRecDepth 100000 in
theorem t_M_fault {dd n : Nat} {x1 : Int32} {s : mb_T} {out : Int32 × mb_T}  (h : f_M_fault n x1 s = some out) : mb_MC (dd + 5) yM_fault bM_fault 3 (some .int) [.ref 200, .int x1] s (some (.int out.1)) out.2 := by
  unfold f_M_fault at h
  refine mj_mc (lv := [.ref 200, .int x1, .retAddr 0]) mM_fault rfl rfl (Nat.le_of_ble_eq_true rfl) (fun K hK hR => ?_)
  have hK : mj_C (dd + 5) 0 0 RM_c "fault" bM_fault 3 K := hK
  refine ro_aload_n hK dM_fault_0 rfl ?_
  refine ro_iload_n hK dM_fault_1 rfl ?_
  obtain ⟨r_3, s_1, q_2, h⟩ := mb_cl_e h
  refine rb_callV hK mM_askedText vM_124 (t_M_askedText (dd := dd + 1) q_2) rfl mb_oM rfl (Nat.le_of_ble_eq_true rfl) dM_fault_2 rfl ⟨Nat.le_refl _, Nat.le_refl _⟩ ?_
  show K 0 0 5 [.ref 200, .int x1, .retAddr 0] [.int r_3] (mb_s s_1)
  refine ro_istore_n hK dM_fault_5 (by decide) ?_
  show K 0 0 6 [.ref 200, .int x1, .int r_3] [] (mb_s s_1)
  refine ro_iload_n hK dM_fault_6 rfl ?_
  refine ro_if_ge (tgt := 14) hK dM_fault_7 (by decide) (fun c_4 => ?_) (fun c_4 => ?_)
  · replace h := mb_ift c_4 h
    refine ro_aload_n hK dM_fault_14 rfl ?_
    refine ro_iload_n hK dM_fault_15 rfl ?_
    obtain ⟨r_7, s_5, q_6, h⟩ := mb_cl_e h
    refine rb_callV hK mM_goesOn vM_158 (t_M_goesOn (dd := dd + 0) q_6) rfl mb_oM rfl (Nat.le_of_ble_eq_true rfl) dM_fault_16 rfl ⟨Nat.le_refl _, Nat.le_refl _⟩ ?_
    show K 0 0 19 [.ref 200, .int x1, .int r_3] [.int r_7] (mb_s s_5)
    cases h
    exact hR.1 0 0 19 _ _ _ _ rfl rfl dM_fault_19 ⟨rfl, rfl⟩
  · replace h := mb_iff c_4 h
    refine ro_iload_n hK dM_fault_10 rfl ?_
    refine ro_goto (tgt := 19) hK dM_fault_11 (by decide) ?_
    cases h
    exact hR.1 0 0 19 _ _ _ _ rfl rfl dM_fault_19 ⟨rfl, rfl⟩
theorem dM_holdsOf_0 : decode bM_holdsOf 0 = .ok (.aload_n 0, 1) := by decide +kernel
theorem dM_holdsOf_1 : decode bM_holdsOf 1 = .ok (.invokevirtual 222, 3) := by decide +kernel
theorem dM_holdsOf_4 : decode bM_holdsOf 4 = .ok (.iconst 0, 1) := by decide +kernel
theorem dM_holdsOf_5 : decode bM_holdsOf 5 = .ok (.istore_n 2, 1) := by decide +kernel
theorem dM_holdsOf_6 : decode bM_holdsOf 6 = .ok (.iload_n 2, 1) := by decide +kernel
theorem dM_holdsOf_7 : decode bM_holdsOf 7 = .ok (.bipush 100, 2) := by decide +kernel
theorem dM_holdsOf_9 : decode bM_holdsOf 9 = .ok (.if_icmp .ge 25, 3) := by decide +kernel
theorem dM_holdsOf_12 : decode bM_holdsOf 12 = .ok (.aload_n 0, 1) := by decide +kernel
theorem dM_holdsOf_13 : decode bM_holdsOf 13 = .ok (.invokevirtual 206, 3) := by decide +kernel
theorem dM_holdsOf_16 : decode bM_holdsOf 16 = .ok (.ifCond .ne 18, 3) := by decide +kernel
theorem dM_holdsOf_19 : decode bM_holdsOf 19 = .ok (.aload_n 0, 1) := by decide +kernel
theorem dM_holdsOf_20 : decode bM_holdsOf 20 = .ok (.aload_n 0, 1) := by decide +kernel
theorem dM_holdsOf_21 : decode bM_holdsOf 21 = .ok (.iload_n 1, 1) := by decide +kernel
theorem dM_holdsOf_22 : decode bM_holdsOf 22 = .ok (.invokevirtual 210, 3) := by decide +kernel
theorem dM_holdsOf_25 : decode bM_holdsOf 25 = .ok (.invokevirtual 202, 3) := by decide +kernel
theorem dM_holdsOf_28 : decode bM_holdsOf 28 = .ok (.iinc 2 1, 3) := by decide +kernel
theorem dM_holdsOf_31 : decode bM_holdsOf 31 = .ok (.goto (-25), 3) := by decide +kernel
theorem dM_holdsOf_34 : decode bM_holdsOf 34 = .ok (.aload_n 0, 1) := by decide +kernel
theorem dM_holdsOf_35 : decode bM_holdsOf 35 = .ok (.aload_n 0, 1) := by decide +kernel
theorem dM_holdsOf_36 : decode bM_holdsOf 36 = .ok (.invokevirtual 198, 3) := by decide +kernel
theorem dM_holdsOf_39 : decode bM_holdsOf 39 = .ok (.putfield 225, 3) := by decide +kernel
theorem dM_holdsOf_42 : decode bM_holdsOf 42 = .ok (.aload_n 0, 1) := by decide +kernel
theorem dM_holdsOf_43 : decode bM_holdsOf 43 = .ok (.invokevirtual 228, 3) := by decide +kernel
theorem dM_holdsOf_46 : decode bM_holdsOf 46 = .ok (.aload_n 0, 1) := by decide +kernel
theorem dM_holdsOf_47 : decode bM_holdsOf 47 = .ok (.getfield 225, 3) := by decide +kernel
theorem dM_holdsOf_50 : decode bM_holdsOf 50 = .ok (.ifCond .ne 8, 3) := by decide +kernel
theorem dM_holdsOf_53 : decode bM_holdsOf 53 = .ok (.bipush (-9), 2) := by decide +kernel
theorem dM_holdsOf_55 : decode bM_holdsOf 55 = .ok (.goto 4, 3) := by decide +kernel
theorem dM_holdsOf_58 : decode bM_holdsOf 58 = .ok (.iload_n 2, 1) := by decide +kernel
theorem dM_holdsOf_59 : decode bM_holdsOf 59 = .ok (.ireturn, 1) := by decide +kernel
def f_M_holdsOf_6 (n : Nat) (k0 : Int32 → mb_T → Option (Int32 × mb_T)) (y1 : Int32) : Nat → Int32 → mb_T → Option (Int32 × mb_T)
  | 0, _, _ => none
  | f + 1, w2, s => if 100 ≤ w2 then k0 w2 s else mb_cl (f_M_isOver n s) fun r_6 s_4 => if r_6 = 0 then (mb_cl (f_M_nextBy n y1 s_4) fun r_10 s_8 => mb_cw (f_M_passMinute n r_10 s_8) fun s_11 => f_M_holdsOf_6 n k0 y1 f (w2 + 1) s_11) else k0 w2 s_4
def f_M_holdsOf (n : Nat) (x1 : Int32) (s : mb_T) : Option (Int32 × mb_T) := mb_cw (f_M_putAside n s) fun s_1 => f_M_holdsOf_6 n (fun x_13 s_14 => mb_cl (f_M_screaming n s_14) fun r_17 s_15 => mb_bd (sF s_15 200 31 r_17) fun s_18 => mb_cw (f_M_comeBack n s_18) fun s_20 => some ((if (s_20.1 200 31) = 0 then (-9) else x_13 : Int32), s_20)) x1 n 0 s_1
set_option maxHeartbeats 4000000 in
set_option maxRecDepth 100000 in
theorem tl_M_holdsOf_6 {dd n : Nat} {K : mj_KT} {out : Int32 × mb_T} (hK : mj_C (dd + 5) 0 0 RM_c "holdsOf" bM_holdsOf 3 K) (hR : mj_R bM_holdsOf (some .int) (fun r2 S2 => r2 = some (.int out.1) ∧ S2 = mb_s out.2) K) {k0 : Int32 → mb_T → Option (Int32 × mb_T)} {y1 : Int32} (hk0 : ∀ (w2 : Int32) (s : mb_T), k0 w2 s = some out → K 0 0 34 [.ref 200, .int y1, .int w2] [] (mb_s s)) : ∀ (f : Nat) (w2 : Int32) (s : mb_T), f_M_holdsOf_6 n k0 y1 f w2 s = some out → K 0 0 6 [.ref 200, .int y1, .int w2] [] (mb_s s) := by
  intro f
  induction f with
  | zero =>
    intro w2 s h
    cases h
  | succ f ih =>
    intro w2 s h
    rw [f_M_holdsOf_6] at h
    refine ro_iload_n hK dM_holdsOf_6 rfl ?_
    refine ro_bipush (x := 100) hK (by decide) dM_holdsOf_7 ?_
    refine ro_icmp_ge (tgt := 34) hK dM_holdsOf_9 (by decide) (fun c_3 => ?_) (fun c_3 => ?_)
    · replace h := mb_ift c_3 h
      refine ro_fg (lv' := [.ref 200, .int y1, .int w2]) hK ⟨Or.inr rfl, ⟨Or.inr rfl, ⟨Or.inr rfl, trivial⟩⟩⟩ ?_
      exact hk0 _ _ h
    · replace h := mb_iff c_3 h
      refine ro_aload_n hK dM_holdsOf_12 rfl ?_
      obtain ⟨r_6, s_4, q_5, h⟩ := mb_cl_e h
      refine rb_callV hK mM_isOver vM_206 (t_M_isOver (dd := dd + 2) q_5) rfl mb_oM rfl (Nat.le_of_ble_eq_true rfl) dM_holdsOf_13 rfl ⟨Nat.le_refl _, Nat.le_refl _⟩ ?_
      show K 0 0 16 [.ref 200, .int y1, .int w2] [.int r_6] (mb_s s_4)
      refine ro_if_ne (tgt := 34) hK dM_holdsOf_16 (by decide) (fun c_7 => ?_) (fun c_7 => ?_)
      · replace h := mb_iff c_7 h
        refine ro_fg (lv' := [.ref 200, .int y1, .int w2]) hK ⟨Or.inr rfl, ⟨Or.inr rfl, ⟨Or.inr rfl, trivial⟩⟩⟩ ?_
        exact hk0 _ _ h
      · replace h := mb_ift c_7 h
        refine ro_aload_n hK dM_holdsOf_19 rfl ?_
        refine ro_aload_n hK dM_holdsOf_20 rfl ?_
        refine ro_iload_n hK dM_holdsOf_21 rfl ?_
        obtain ⟨r_10, s_8, q_9, h⟩ := mb_cl_e h
        refine rb_callV hK mM_nextBy vM_210 (t_M_nextBy (dd := dd + 0) q_9) rfl mb_oM rfl (Nat.le_of_ble_eq_true rfl) dM_holdsOf_22 rfl ⟨Nat.le_refl _, Nat.le_refl _⟩ ?_
        show K 0 0 25 [.ref 200, .int y1, .int w2] [.int r_10, .ref 200] (mb_s s_8)
        obtain ⟨s_11, q_12, h⟩ := mb_cw_e h
        refine rb_callV hK mM_passMinute vM_202 (t_M_passMinute (dd := dd + 2) q_12) rfl mb_oM rfl (Nat.le_of_ble_eq_true rfl) dM_holdsOf_25 rfl ⟨Nat.le_refl _, Nat.le_refl _⟩ ?_
        show K 0 0 28 [.ref 200, .int y1, .int w2] [] (mb_s s_11)
        refine ro_iincv (c := 1) hK (by decide) dM_holdsOf_28 rfl (by decide) ?_
        show K 0 0 31 [.ref 200, .int y1, .int (w2 + 1)] [] (mb_s s_11)
        refine ro_goto (tgt := 6) hK dM_holdsOf_31 (by decide) ?_
        refine ro_fg (lv' := [.ref 200, .int y1, .int (w2 + 1)]) hK ⟨Or.inr rfl, ⟨Or.inr rfl, ⟨Or.inr rfl, trivial⟩⟩⟩ ?_
        exact ih _ _ h
set_option maxHeartbeats 4000000 in
set_option maxRecDepth 100000 in
theorem t_M_holdsOf {dd n : Nat} {x1 : Int32} {s : mb_T} {out : Int32 × mb_T}  (h : f_M_holdsOf n x1 s = some out) : mb_MC (dd + 5) yM_holdsOf bM_holdsOf 3 (some .int) [.ref 200, .int x1] s (some (.int out.1)) out.2 := by
  unfold f_M_holdsOf at h
  refine mj_mc (lv := [.ref 200, .int x1, .retAddr 0]) mM_holdsOf rfl rfl (Nat.le_of_ble_eq_true rfl) (fun K hK hR => ?_)
  have hK : mj_C (dd + 5) 0 0 RM_c "holdsOf" bM_holdsOf 3 K := hK
  refine ro_aload_n hK dM_holdsOf_0 rfl ?_
  obtain ⟨s_1, q_2, h⟩ := mb_cw_e h
  refine rb_callV hK mM_putAside vM_222 (t_M_putAside (dd := dd + 3) q_2) rfl mb_oM rfl (Nat.le_of_ble_eq_true rfl) dM_holdsOf_1 rfl ⟨Nat.le_refl _, Nat.le_refl _⟩ ?_
  show K 0 0 4 [.ref 200, .int x1, .retAddr 0] [] (mb_s s_1)
  refine ro_iconst (x := 0) hK (by decide) dM_holdsOf_4 ?_
  refine ro_istore_n hK dM_holdsOf_5 (by decide) ?_
  show K 0 0 6 [.ref 200, .int x1, .int 0] [] (mb_s s_1)
  refine ro_fg (lv' := [.ref 200, .int x1, .int 0]) hK ⟨Or.inr rfl, ⟨Or.inr rfl, ⟨Or.inr rfl, trivial⟩⟩⟩ ?_
  refine tl_M_holdsOf_6 (dd := dd) hK hR (fun x_13 s_14 h => ?_) n _ _ h
  refine ro_aload_n hK dM_holdsOf_34 rfl ?_
  refine ro_aload_n hK dM_holdsOf_35 rfl ?_
  obtain ⟨r_17, s_15, q_16, h⟩ := mb_cl_e h
  refine rb_callV hK mM_screaming vM_198 (t_M_screaming (dd := dd + 3) q_16) rfl mb_oM rfl (Nat.le_of_ble_eq_true rfl) dM_holdsOf_36 rfl ⟨Nat.le_refl _, Nat.le_refl _⟩ ?_
  show K 0 0 39 [.ref 200, .int x1, .int x_13] [.int r_17, .ref 200] (mb_s s_15)
  obtain ⟨s_18, e_19, h⟩ := mb_bd_e h
  refine rb_put hK gM_225 mb_oM rfl (by show 31 < 45; decide) rfl rfl e_19 dM_holdsOf_39 ?_
  refine ro_aload_n hK dM_holdsOf_42 rfl ?_
  obtain ⟨s_20, q_21, h⟩ := mb_cw_e h
  refine rb_callV hK mM_comeBack vM_228 (t_M_comeBack (dd := dd + 3) q_21) rfl mb_oM rfl (Nat.le_of_ble_eq_true rfl) dM_holdsOf_43 rfl ⟨Nat.le_refl _, Nat.le_refl _⟩ ?_
  show K 0 0 46 [.ref 200, .int x1, .int x_13] [] (mb_s s_20)
  refine ro_aload_n hK dM_holdsOf_46 rfl ?_
  refine rb_get hK fM_225 mb_oM rfl dM_holdsOf_47 ?_
  have j_23 : ∀ w_ : Int32, w_ = (if (s_20.1 200 31) = 0 then (-9) else x_13 : Int32) → K 0 0 59 [.ref 200, .int x1, .int x_13] [.int w_] (mb_s s_20) → K 0 0 50 [.ref 200, .int x1, .int x_13] [.int (s_20.1 200 31)] (mb_s s_20) := by
    intro w_ hw hj
    refine ro_if_ne (tgt := 58) hK dM_holdsOf_50 (by decide) (fun c_22 => ?_) (fun c_22 => ?_)
    · skip
      refine ro_iload_n hK dM_holdsOf_58 rfl ?_
      have hw := (hw.trans (if_neg c_22))
      subst hw
      exact hj
    · skip
      refine ro_bipush (x := (-9)) hK (by decide) dM_holdsOf_53 ?_
      refine ro_goto (tgt := 59) hK dM_holdsOf_55 (by decide) ?_
      have hw := (hw.trans (if_pos c_22))
      subst hw
      exact hj
  refine j_23 _ rfl ?_
  cases h
  exact hR.1 0 0 59 _ _ _ _ rfl rfl dM_holdsOf_59 ⟨rfl, rfl⟩
theorem dM_judged_0 : decode bM_judged 0 = .ok (.aload_n 0, 1) := by decide +kernel
theorem dM_judged_1 : decode bM_judged 1 = .ok (.invokevirtual 222, 3) := by decide +kernel
theorem dM_judged_4 : decode bM_judged 4 = .ok (.bipush (-9), 2) := by decide +kernel
theorem dM_judged_6 : decode bM_judged 6 = .ok (.istore_n 2, 1) := by decide +kernel
theorem dM_judged_7 : decode bM_judged 7 = .ok (.aload_n 0, 1) := by decide +kernel
theorem dM_judged_8 : decode bM_judged 8 = .ok (.aload_n 0, 1) := by decide +kernel
theorem dM_judged_9 : decode bM_judged 9 = .ok (.invokevirtual 206, 3) := by decide +kernel
theorem dM_judged_12 : decode bM_judged 12 = .ok (.ifCond .eq 7, 3) := by decide +kernel
theorem dM_judged_15 : decode bM_judged 15 = .ok (.iconst 0, 1) := by decide +kernel
theorem dM_judged_16 : decode bM_judged 16 = .ok (.goto 5, 3) := by decide +kernel
theorem dM_judged_19 : decode bM_judged 19 = .ok (.bipush (-9), 2) := by decide +kernel
theorem dM_judged_21 : decode bM_judged 21 = .ok (.putfield 297, 3) := by decide +kernel
theorem dM_judged_24 : decode bM_judged 24 = .ok (.iconst 0, 1) := by decide +kernel
theorem dM_judged_25 : decode bM_judged 25 = .ok (.istore_n 3, 1) := by decide +kernel
theorem dM_judged_26 : decode bM_judged 26 = .ok (.iload_n 3, 1) := by decide +kernel
theorem dM_judged_27 : decode bM_judged 27 = .ok (.aload_n 0, 1) := by decide +kernel
theorem dM_judged_28 : decode bM_judged 28 = .ok (.getfield 13, 3) := by decide +kernel
theorem dM_judged_31 : decode bM_judged 31 = .ok (.iload_n 1, 1) := by decide +kernel
theorem dM_judged_32 : decode bM_judged 32 = .ok (.iaload, 1) := by decide +kernel
theorem dM_judged_33 : decode bM_judged 33 = .ok (.if_icmp .ge 78, 3) := by decide +kernel
theorem dM_judged_36 : decode bM_judged 36 = .ok (.aload_n 0, 1) := by decide +kernel
theorem dM_judged_37 : decode bM_judged 37 = .ok (.iload_n 1, 1) := by decide +kernel
theorem dM_judged_38 : decode bM_judged 38 = .ok (.iload_n 3, 1) := by decide +kernel
theorem dM_judged_39 : decode bM_judged 39 = .ok (.invokevirtual 114, 3) := by decide +kernel
theorem dM_judged_42 : decode bM_judged 42 = .ok (.istore 4, 2) := by decide +kernel
theorem dM_judged_44 : decode bM_judged 44 = .ok (.iload_n 2, 1) := by decide +kernel
theorem dM_judged_45 : decode bM_judged 45 = .ok (.bipush (-9), 2) := by decide +kernel
theorem dM_judged_47 : decode bM_judged 47 = .ok (.if_icmp .ne 20, 3) := by decide +kernel
theorem dM_judged_50 : decode bM_judged 50 = .ok (.aload_n 0, 1) := by decide +kernel
theorem dM_judged_51 : decode bM_judged 51 = .ok (.aload_n 0, 1) := by decide +kernel
theorem dM_judged_52 : decode bM_judged 52 = .ok (.getfield 167, 3) := by decide +kernel
theorem dM_judged_55 : decode bM_judged 55 = .ok (.invokevirtual 210, 3) := by decide +kernel
theorem dM_judged_58 : decode bM_judged 58 = .ok (.iload 4, 2) := by decide +kernel
theorem dM_judged_60 : decode bM_judged 60 = .ok (.if_icmp .eq 7, 3) := by decide +kernel
theorem dM_judged_63 : decode bM_judged 63 = .ok (.iload_n 3, 1) := by decide +kernel
theorem dM_judged_64 : decode bM_judged 64 = .ok (.goto 4, 3) := by decide +kernel
theorem dM_judged_67 : decode bM_judged 67 = .ok (.iload_n 2, 1) := by decide +kernel
theorem dM_judged_68 : decode bM_judged 68 = .ok (.istore_n 2, 1) := by decide +kernel
theorem dM_judged_69 : decode bM_judged 69 = .ok (.aload_n 0, 1) := by decide +kernel
theorem dM_judged_70 : decode bM_judged 70 = .ok (.iload 4, 2) := by decide +kernel
theorem dM_judged_72 : decode bM_judged 72 = .ok (.invokevirtual 202, 3) := by decide +kernel
theorem dM_judged_75 : decode bM_judged 75 = .ok (.aload_n 0, 1) := by decide +kernel
theorem dM_judged_76 : decode bM_judged 76 = .ok (.aload_n 0, 1) := by decide +kernel
theorem dM_judged_77 : decode bM_judged 77 = .ok (.getfield 297, 3) := by decide +kernel
theorem dM_judged_80 : decode bM_judged 80 = .ok (.bipush (-9), 2) := by decide +kernel
theorem dM_judged_82 : decode bM_judged 82 = .ok (.if_icmp .ne 16, 3) := by decide +kernel
theorem dM_judged_85 : decode bM_judged 85 = .ok (.aload_n 0, 1) := by decide +kernel
theorem dM_judged_86 : decode bM_judged 86 = .ok (.invokevirtual 206, 3) := by decide +kernel
theorem dM_judged_89 : decode bM_judged 89 = .ok (.ifCond .eq 9, 3) := by decide +kernel
theorem dM_judged_92 : decode bM_judged 92 = .ok (.iload_n 3, 1) := by decide +kernel
theorem dM_judged_93 : decode bM_judged 93 = .ok (.iconst 1, 1) := by decide +kernel
theorem dM_judged_94 : decode bM_judged 94 = .ok (.iadd, 1) := by decide +kernel
theorem dM_judged_95 : decode bM_judged 95 = .ok (.goto 7, 3) := by decide +kernel
theorem dM_judged_98 : decode bM_judged 98 = .ok (.aload_n 0, 1) := by decide +kernel
theorem dM_judged_99 : decode bM_judged 99 = .ok (.getfield 297, 3) := by decide +kernel
theorem dM_judged_102 : decode bM_judged 102 = .ok (.putfield 297, 3) := by decide +kernel
theorem dM_judged_105 : decode bM_judged 105 = .ok (.iinc 3 1, 3) := by decide +kernel
theorem dM_judged_108 : decode bM_judged 108 = .ok (.goto (-82), 3) := by decide +kernel
theorem dM_judged_111 : decode bM_judged 111 = .ok (.aload_n 0, 1) := by decide +kernel
theorem dM_judged_112 : decode bM_judged 112 = .ok (.invokevirtual 228, 3) := by decide +kernel
theorem dM_judged_115 : decode bM_judged 115 = .ok (.iload_n 2, 1) := by decide +kernel
theorem dM_judged_116 : decode bM_judged 116 = .ok (.bipush (-9), 2) := by decide +kernel
theorem dM_judged_118 : decode bM_judged 118 = .ok (.if_icmp .ne 12, 3) := by decide +kernel
theorem dM_judged_121 : decode bM_judged 121 = .ok (.aload_n 0, 1) := by decide +kernel
theorem dM_judged_122 : decode bM_judged 122 = .ok (.getfield 13, 3) := by decide +kernel
theorem dM_judged_125 : decode bM_judged 125 = .ok (.iload_n 1, 1) := by decide +kernel
theorem dM_judged_126 : decode bM_judged 126 = .ok (.iaload, 1) := by decide +kernel
theorem dM_judged_127 : decode bM_judged 127 = .ok (.goto 4, 3) := by decide +kernel
theorem dM_judged_130 : decode bM_judged 130 = .ok (.iload_n 2, 1) := by decide +kernel
theorem dM_judged_131 : decode bM_judged 131 = .ok (.ireturn, 1) := by decide +kernel
def f_M_judged_26 (n : Nat) (k0 : Int32 → Int32 → mb_T → Option (Int32 × mb_T)) (y1 : Int32) : Nat → Int32 → Int32 → mb_T → Option (Int32 × mb_T)
  | 0, _, _, _ => none
  | f + 1, w2, w3, s => mb_rd s 203 6 y1 fun x_10 => if x_10 ≤ w3 then k0 w2 w3 s else mb_cl (f_M_rowAt n y1 w3 s) fun r_16 s_14 => mb_jn (fun (x_24 : Int32) (s_25 : mb_T) => mb_cw (f_M_passMinute n r_16 s_25) fun s_26 => if (s_26.1 200 43) = (-9) then (mb_cl (f_M_isOver n s_26) fun r_33 s_31 => mb_bd (sF s_31 200 43 (if r_33 = 0 then (s_31.1 200 43) else (w3 + 1) : Int32)) fun s_36 => f_M_judged_26 n k0 y1 f x_24 (w3 + 1) s_36) else mb_bd (sF s_26 200 43 (s_26.1 200 43)) fun s_29 => f_M_judged_26 n k0 y1 f x_24 (w3 + 1) s_29) fun j_17 => if w2 = (-9) then (mb_cl (f_M_nextBy n (s_14.1 200 10) s_14) fun r_21 s_19 => j_17 (if r_21 = r_16 then w2 else w3 : Int32) s_19) else j_17 w2 s_14
def f_M_judged (n : Nat) (x1 : Int32) (s : mb_T) : Option (Int32 × mb_T) := mb_cw (f_M_putAside n s) fun s_1 => mb_cl (f_M_isOver n s_1) fun r_5 s_3 => mb_bd (sF s_3 200 43 (if r_5 = 0 then (-9) else 0 : Int32)) fun s_8 => f_M_judged_26 n (fun x_39 x_40 s_41 => mb_cw (f_M_comeBack n s_41) fun s_42 => if x_39 = (-9) then (mb_rd s_42 203 6 x1 fun x_45 => some (x_45, s_42)) else some (x_39, s_42)) x1 n (-9) 0 s_8
set_option maxHeartbeats 4000000 in
set_option maxRecDepth 100000 in
theorem tl_M_judged_26 {dd n : Nat} {K : mj_KT} {out : Int32 × mb_T} (hK : mj_C (dd + 5) 0 0 RM_c "judged" bM_judged 5 K) (hR : mj_R bM_judged (some .int) (fun r2 S2 => r2 = some (.int out.1) ∧ S2 = mb_s out.2) K) {k0 : Int32 → Int32 → mb_T → Option (Int32 × mb_T)} {y1 : Int32} (hk0 : ∀ (w2 : Int32) (w3 : Int32) (s : mb_T), k0 w2 w3 s = some out → K 0 0 111 [.ref 200, .int y1, .int w2, .int w3, .retAddr 0] [] (mb_s s)) : ∀ (f : Nat) (w2 : Int32) (w3 : Int32) (s : mb_T), f_M_judged_26 n k0 y1 f w2 w3 s = some out → K 0 0 26 [.ref 200, .int y1, .int w2, .int w3, .retAddr 0] [] (mb_s s) := by
  intro f
  induction f with
  | zero =>
    intro w2 w3 s h
    cases h
  | succ f ih =>
    intro w2 w3 s h
    rw [f_M_judged_26] at h
    refine ro_iload_n hK dM_judged_26 rfl ?_
    refine ro_aload_n hK dM_judged_27 rfl ?_
    refine rb_get hK fM_13 mb_oM rfl dM_judged_28 ?_
    refine ro_iload_n hK dM_judged_31 rfl ?_
    obtain ⟨x_10, e_11, i_12, h⟩ := mb_rd_e h
    refine rb_iald hK ai_203 i_12 e_11 dM_judged_32 ?_
    refine ro_icmp_ge (tgt := 111) hK dM_judged_33 (by decide) (fun c_13 => ?_) (fun c_13 => ?_)
    · replace h := mb_ift c_13 h
      refine ro_fg (lv' := [.ref 200, .int y1, .int w2, .int w3, .retAddr 0]) hK ⟨Or.inr rfl, ⟨Or.inr rfl, ⟨Or.inr rfl, ⟨Or.inr rfl, ⟨Or.inl rfl, trivial⟩⟩⟩⟩⟩ ?_
      exact hk0 _ _ _ h
    · replace h := mb_iff c_13 h
      refine ro_aload_n hK dM_judged_36 rfl ?_
      refine ro_iload_n hK dM_judged_37 rfl ?_
      refine ro_iload_n hK dM_judged_38 rfl ?_
      obtain ⟨r_16, s_14, q_15, h⟩ := mb_cl_e h
      refine rb_callV hK mM_rowAt vM_114 (t_M_rowAt (dd := dd + 3) q_15) rfl mb_oM rfl (Nat.le_of_ble_eq_true rfl) dM_judged_39 rfl ⟨Nat.le_refl _, Nat.le_refl _⟩ ?_
      show K 0 0 42 [.ref 200, .int y1, .int w2, .int w3, .retAddr 0] [.int r_16] (mb_s s_14)
      refine ro_istore hK dM_judged_42 (by decide) ?_
      show K 0 0 44 [.ref 200, .int y1, .int w2, .int w3, .int r_16] [] (mb_s s_14)
      refine ro_iload_n hK dM_judged_44 rfl ?_
      refine ro_bipush (x := (-9)) hK (by decide) dM_judged_45 ?_
      obtain ⟨j_17, e_38, h⟩ := mb_jn_e h
      have hj_17 : ∀ (x_24 : Int32) (s_25 : mb_T), j_17 x_24 s_25 = some out → K 0 0 68 [.ref 200, .int y1, .int w2, .int w3, .int r_16] [.int x_24] (mb_s s_25) := by
        intro x_24 s_25 h
        rw [e_38] at h
        refine ro_istore_n hK dM_judged_68 (by decide) ?_
        show K 0 0 69 [.ref 200, .int y1, .int x_24, .int w3, .int r_16] [] (mb_s s_25)
        refine ro_aload_n hK dM_judged_69 rfl ?_
        refine ro_iload hK dM_judged_70 rfl ?_
        obtain ⟨s_26, q_27, h⟩ := mb_cw_e h
        refine rb_callV hK mM_passMinute vM_202 (t_M_passMinute (dd := dd + 2) q_27) rfl mb_oM rfl (Nat.le_of_ble_eq_true rfl) dM_judged_72 rfl ⟨Nat.le_refl _, Nat.le_refl _⟩ ?_
        show K 0 0 75 [.ref 200, .int y1, .int x_24, .int w3, .int r_16] [] (mb_s s_26)
        refine ro_aload_n hK dM_judged_75 rfl ?_
        refine ro_aload_n hK dM_judged_76 rfl ?_
        refine rb_get hK fM_297 mb_oM rfl dM_judged_77 ?_
        refine ro_bipush (x := (-9)) hK (by decide) dM_judged_80 ?_
        refine ro_icmp_ne (tgt := 98) hK dM_judged_82 (by decide) (fun c_28 => ?_) (fun c_28 => ?_)
        · replace h := mb_iff c_28 h
          refine ro_aload_n hK dM_judged_98 rfl ?_
          refine rb_get hK fM_297 mb_oM rfl dM_judged_99 ?_
          obtain ⟨s_29, e_30, h⟩ := mb_bd_e h
          refine rb_put hK gM_297 mb_oM rfl (by show 43 < 45; decide) rfl rfl e_30 dM_judged_102 ?_
          refine ro_iincv (c := 1) hK (by decide) dM_judged_105 rfl (by decide) ?_
          show K 0 0 108 [.ref 200, .int y1, .int x_24, .int (w3 + 1), .int r_16] [] (mb_s s_29)
          refine ro_goto (tgt := 26) hK dM_judged_108 (by decide) ?_
          refine ro_fg (lv' := [.ref 200, .int y1, .int x_24, .int (w3 + 1), .retAddr 0]) hK ⟨Or.inr rfl, ⟨Or.inr rfl, ⟨Or.inr rfl, ⟨Or.inr rfl, ⟨Or.inl rfl, trivial⟩⟩⟩⟩⟩ ?_
          exact ih _ _ _ h
        · replace h := mb_ift c_28 h
          refine ro_aload_n hK dM_judged_85 rfl ?_
          obtain ⟨r_33, s_31, q_32, h⟩ := mb_cl_e h
          refine rb_callV hK mM_isOver vM_206 (t_M_isOver (dd := dd + 2) q_32) rfl mb_oM rfl (Nat.le_of_ble_eq_true rfl) dM_judged_86 rfl ⟨Nat.le_refl _, Nat.le_refl _⟩ ?_
          show K 0 0 89 [.ref 200, .int y1, .int x_24, .int w3, .int r_16] [.int r_33, .ref 200] (mb_s s_31)
          have j_35 : ∀ w_ : Int32, w_ = (if r_33 = 0 then (s_31.1 200 43) else (w3 + 1) : Int32) → K 0 0 102 [.ref 200, .int y1, .int x_24, .int w3, .int r_16] [.int w_, .ref 200] (mb_s s_31) → K 0 0 89 [.ref 200, .int y1, .int x_24, .int w3, .int r_16] [.int r_33, .ref 200] (mb_s s_31) := by
            intro w_ hw hj
            refine ro_if_eq (tgt := 98) hK dM_judged_89 (by decide) (fun c_34 => ?_) (fun c_34 => ?_)
            · skip
              refine ro_aload_n hK dM_judged_98 rfl ?_
              refine rb_get hK fM_297 mb_oM rfl dM_judged_99 ?_
              have hw := (hw.trans (if_pos c_34))
              subst hw
              exact hj
            · skip
              refine ro_iload_n hK dM_judged_92 rfl ?_
              refine ro_iconst (x := 1) hK (by decide) dM_judged_93 ?_
              refine ro_iadd hK dM_judged_94 ?_
              refine ro_goto (tgt := 102) hK dM_judged_95 (by decide) ?_
              have hw := (hw.trans (if_neg c_34))
              subst hw
              exact hj
          refine j_35 _ rfl ?_
          obtain ⟨s_36, e_37, h⟩ := mb_bd_e h
          refine rb_put hK gM_297 mb_oM rfl (by show 43 < 45; decide) rfl rfl e_37 dM_judged_102 ?_
          refine ro_iincv (c := 1) hK (by decide) dM_judged_105 rfl (by decide) ?_
          show K 0 0 108 [.ref 200, .int y1, .int x_24, .int (w3 + 1), .int r_16] [] (mb_s s_36)
          refine ro_goto (tgt := 26) hK dM_judged_108 (by decide) ?_
          refine ro_fg (lv' := [.ref 200, .int y1, .int x_24, .int (w3 + 1), .retAddr 0]) hK ⟨Or.inr rfl, ⟨Or.inr rfl, ⟨Or.inr rfl, ⟨Or.inr rfl, ⟨Or.inl rfl, trivial⟩⟩⟩⟩⟩ ?_
          exact ih _ _ _ h
      refine ro_icmp_ne (tgt := 67) hK dM_judged_47 (by decide) (fun c_18 => ?_) (fun c_18 => ?_)
      · replace h := mb_iff c_18 h
        refine ro_iload_n hK dM_judged_67 rfl ?_
        refine ro_fg (lv' := [.ref 200, .int y1, .int w2, .int w3, .int r_16]) hK ⟨Or.inr rfl, ⟨Or.inr rfl, ⟨Or.inr rfl, ⟨Or.inr rfl, ⟨Or.inr rfl, trivial⟩⟩⟩⟩⟩ ?_
        exact hj_17 _ _ h
      · replace h := mb_ift c_18 h
        refine ro_aload_n hK dM_judged_50 rfl ?_
        refine ro_aload_n hK dM_judged_51 rfl ?_
        refine rb_get hK fM_167 mb_oM rfl dM_judged_52 ?_
        obtain ⟨r_21, s_19, q_20, h⟩ := mb_cl_e h
        refine rb_callV hK mM_nextBy vM_210 (t_M_nextBy (dd := dd + 0) q_20) rfl mb_oM rfl (Nat.le_of_ble_eq_true rfl) dM_judged_55 rfl ⟨Nat.le_refl _, Nat.le_refl _⟩ ?_
        show K 0 0 58 [.ref 200, .int y1, .int w2, .int w3, .int r_16] [.int r_21] (mb_s s_19)
        refine ro_iload hK dM_judged_58 rfl ?_
        have j_23 : ∀ w_ : Int32, w_ = (if r_21 = r_16 then w2 else w3 : Int32) → K 0 0 68 [.ref 200, .int y1, .int w2, .int w3, .int r_16] [.int w_] (mb_s s_19) → K 0 0 60 [.ref 200, .int y1, .int w2, .int w3, .int r_16] [.int r_16, .int r_21] (mb_s s_19) := by
          intro w_ hw hj
          refine ro_icmp_eq (tgt := 67) hK dM_judged_60 (by decide) (fun c_22 => ?_) (fun c_22 => ?_)
          · skip
            refine ro_iload_n hK dM_judged_67 rfl ?_
            have hw := (hw.trans (if_pos c_22))
            subst hw
            exact hj
          · skip
            refine ro_iload_n hK dM_judged_63 rfl ?_
            refine ro_goto (tgt := 68) hK dM_judged_64 (by decide) ?_
            have hw := (hw.trans (if_neg c_22))
            subst hw
            exact hj
        refine j_23 _ rfl ?_
        refine ro_fg (lv' := [.ref 200, .int y1, .int w2, .int w3, .int r_16]) hK ⟨Or.inr rfl, ⟨Or.inr rfl, ⟨Or.inr rfl, ⟨Or.inr rfl, ⟨Or.inr rfl, trivial⟩⟩⟩⟩⟩ ?_
        exact hj_17 _ _ h
set_option maxHeartbeats 4000000 in
set_option maxRecDepth 100000 in
theorem t_M_judged {dd n : Nat} {x1 : Int32} {s : mb_T} {out : Int32 × mb_T}  (h : f_M_judged n x1 s = some out) : mb_MC (dd + 5) yM_judged bM_judged 5 (some .int) [.ref 200, .int x1] s (some (.int out.1)) out.2 := by
  unfold f_M_judged at h
  refine mj_mc (lv := [.ref 200, .int x1, .retAddr 0, .retAddr 0, .retAddr 0]) mM_judged rfl rfl (Nat.le_of_ble_eq_true rfl) (fun K hK hR => ?_)
  have hK : mj_C (dd + 5) 0 0 RM_c "judged" bM_judged 5 K := hK
  refine ro_aload_n hK dM_judged_0 rfl ?_
  obtain ⟨s_1, q_2, h⟩ := mb_cw_e h
  refine rb_callV hK mM_putAside vM_222 (t_M_putAside (dd := dd + 3) q_2) rfl mb_oM rfl (Nat.le_of_ble_eq_true rfl) dM_judged_1 rfl ⟨Nat.le_refl _, Nat.le_refl _⟩ ?_
  show K 0 0 4 [.ref 200, .int x1, .retAddr 0, .retAddr 0, .retAddr 0] [] (mb_s s_1)
  refine ro_bipush (x := (-9)) hK (by decide) dM_judged_4 ?_
  refine ro_istore_n hK dM_judged_6 (by decide) ?_
  show K 0 0 7 [.ref 200, .int x1, .int (-9), .retAddr 0, .retAddr 0] [] (mb_s s_1)
  refine ro_aload_n hK dM_judged_7 rfl ?_
  refine ro_aload_n hK dM_judged_8 rfl ?_
  obtain ⟨r_5, s_3, q_4, h⟩ := mb_cl_e h
  refine rb_callV hK mM_isOver vM_206 (t_M_isOver (dd := dd + 2) q_4) rfl mb_oM rfl (Nat.le_of_ble_eq_true rfl) dM_judged_9 rfl ⟨Nat.le_refl _, Nat.le_refl _⟩ ?_
  show K 0 0 12 [.ref 200, .int x1, .int (-9), .retAddr 0, .retAddr 0] [.int r_5, .ref 200] (mb_s s_3)
  have j_7 : ∀ w_ : Int32, w_ = (if r_5 = 0 then (-9) else 0 : Int32) → K 0 0 21 [.ref 200, .int x1, .int (-9), .retAddr 0, .retAddr 0] [.int w_, .ref 200] (mb_s s_3) → K 0 0 12 [.ref 200, .int x1, .int (-9), .retAddr 0, .retAddr 0] [.int r_5, .ref 200] (mb_s s_3) := by
    intro w_ hw hj
    refine ro_if_eq (tgt := 19) hK dM_judged_12 (by decide) (fun c_6 => ?_) (fun c_6 => ?_)
    · skip
      refine ro_bipush (x := (-9)) hK (by decide) dM_judged_19 ?_
      have hw := (hw.trans (if_pos c_6))
      subst hw
      exact hj
    · skip
      refine ro_iconst (x := 0) hK (by decide) dM_judged_15 ?_
      refine ro_goto (tgt := 21) hK dM_judged_16 (by decide) ?_
      have hw := (hw.trans (if_neg c_6))
      subst hw
      exact hj
  refine j_7 _ rfl ?_
  obtain ⟨s_8, e_9, h⟩ := mb_bd_e h
  refine rb_put hK gM_297 mb_oM rfl (by show 43 < 45; decide) rfl rfl e_9 dM_judged_21 ?_
  refine ro_iconst (x := 0) hK (by decide) dM_judged_24 ?_
  refine ro_istore_n hK dM_judged_25 (by decide) ?_
  show K 0 0 26 [.ref 200, .int x1, .int (-9), .int 0, .retAddr 0] [] (mb_s s_8)
  refine ro_fg (lv' := [.ref 200, .int x1, .int (-9), .int 0, .retAddr 0]) hK ⟨Or.inr rfl, ⟨Or.inr rfl, ⟨Or.inr rfl, ⟨Or.inr rfl, ⟨Or.inl rfl, trivial⟩⟩⟩⟩⟩ ?_
  refine tl_M_judged_26 (dd := dd) hK hR (fun x_39 x_40 s_41 h => ?_) n _ _ _ h
  refine ro_aload_n hK dM_judged_111 rfl ?_
  obtain ⟨s_42, q_43, h⟩ := mb_cw_e h
  refine rb_callV hK mM_comeBack vM_228 (t_M_comeBack (dd := dd + 3) q_43) rfl mb_oM rfl (Nat.le_of_ble_eq_true rfl) dM_judged_112 rfl ⟨Nat.le_refl _, Nat.le_refl _⟩ ?_
  show K 0 0 115 [.ref 200, .int x1, .int x_39, .int x_40, .retAddr 0] [] (mb_s s_42)
  refine ro_iload_n hK dM_judged_115 rfl ?_
  refine ro_bipush (x := (-9)) hK (by decide) dM_judged_116 ?_
  refine ro_icmp_ne (tgt := 130) hK dM_judged_118 (by decide) (fun c_44 => ?_) (fun c_44 => ?_)
  · replace h := mb_iff c_44 h
    refine ro_iload_n hK dM_judged_130 rfl ?_
    cases h
    exact hR.1 0 0 131 _ _ _ _ rfl rfl dM_judged_131 ⟨rfl, rfl⟩
  · replace h := mb_ift c_44 h
    refine ro_aload_n hK dM_judged_121 rfl ?_
    refine rb_get hK fM_13 mb_oM rfl dM_judged_122 ?_
    refine ro_iload_n hK dM_judged_125 rfl ?_
    obtain ⟨x_45, e_46, i_47, h⟩ := mb_rd_e h
    refine rb_iald hK ai_203 i_47 e_46 dM_judged_126 ?_
    refine ro_goto (tgt := 131) hK dM_judged_127 (by decide) ?_
    cases h
    exact hR.1 0 0 131 _ _ _ _ rfl rfl dM_judged_131 ⟨rfl, rfl⟩
theorem dM_lay_0 : decode bM_lay 0 = .ok (.aload_n 0, 1) := by decide +kernel
theorem dM_lay_1 : decode bM_lay 1 = .ok (.iload_n 1, 1) := by decide +kernel
theorem dM_lay_2 : decode bM_lay 2 = .ok (.iload_n 2, 1) := by decide +kernel
theorem dM_lay_3 : decode bM_lay 3 = .ok (.invokevirtual 121, 3) := by decide +kernel
theorem dM_lay_6 : decode bM_lay 6 = .ok (.istore 4, 2) := by decide +kernel
theorem dM_lay_8 : decode bM_lay 8 = .ok (.iload 4, 2) := by decide +kernel
theorem dM_lay_10 : decode bM_lay 10 = .ok (.ifCond .ge 6, 3) := by decide +kernel
theorem dM_lay_13 : decode bM_lay 13 = .ok (.iload 4, 2) := by decide +kernel
theorem dM_lay_15 : decode bM_lay 15 = .ok (.ireturn, 1) := by decide +kernel
theorem dM_lay_16 : decode bM_lay 16 = .ok (.aload_n 0, 1) := by decide +kernel
theorem dM_lay_17 : decode bM_lay 17 = .ok (.iload_n 1, 1) := by decide +kernel
theorem dM_lay_18 : decode bM_lay 18 = .ok (.iload_n 2, 1) := by decide +kernel
theorem dM_lay_19 : decode bM_lay 19 = .ok (.iload_n 3, 1) := by decide +kernel
theorem dM_lay_20 : decode bM_lay 20 = .ok (.invokevirtual 107, 3) := by decide +kernel
theorem dM_lay_23 : decode bM_lay 23 = .ok (.iconst 1, 1) := by decide +kernel
theorem dM_lay_24 : decode bM_lay 24 = .ok (.ireturn, 1) := by decide +kernel
def f_M_lay (n : Nat) (x1 : Int32) (x2 : Int32) (x3 : Int32) (s : mb_T) : Option (Int32 × mb_T) := mb_cl (f_M_at n x1 x2 s) fun r_3 s_1 => if 0 ≤ r_3 then (mb_cw (f_M_setRow n x1 x2 x3 s_1) fun s_5 => some (1, s_5)) else some (r_3, s_1)
set_option maxHeartbeats 4000000 in
set_option maxRecDepth 100000 in
theorem t_M_lay {dd n : Nat} {x1 : Int32} {x2 : Int32} {x3 : Int32} {s : mb_T} {out : Int32 × mb_T}  (h : f_M_lay n x1 x2 x3 s = some out) : mb_MC (dd + 5) yM_lay bM_lay 5 (some .int) [.ref 200, .int x1, .int x2, .int x3] s (some (.int out.1)) out.2 := by
  unfold f_M_lay at h
  refine mj_mc (lv := [.ref 200, .int x1, .int x2, .int x3, .retAddr 0]) mM_lay rfl rfl (Nat.le_of_ble_eq_true rfl) (fun K hK hR => ?_)
  have hK : mj_C (dd + 5) 0 0 RM_c "lay" bM_lay 5 K := hK
  refine ro_aload_n hK dM_lay_0 rfl ?_
  refine ro_iload_n hK dM_lay_1 rfl ?_
  refine ro_iload_n hK dM_lay_2 rfl ?_
  obtain ⟨r_3, s_1, q_2, h⟩ := mb_cl_e h
  refine rb_callV hK mM_at vM_121 (t_M_at (dd := dd + 0) q_2) rfl mb_oM rfl (Nat.le_of_ble_eq_true rfl) dM_lay_3 rfl ⟨Nat.le_refl _, Nat.le_refl _⟩ ?_
  show K 0 0 6 [.ref 200, .int x1, .int x2, .int x3, .retAddr 0] [.int r_3] (mb_s s_1)
  refine ro_istore hK dM_lay_6 (by decide) ?_
  show K 0 0 8 [.ref 200, .int x1, .int x2, .int x3, .int r_3] [] (mb_s s_1)
  refine ro_iload hK dM_lay_8 rfl ?_
  refine ro_if_ge (tgt := 16) hK dM_lay_10 (by decide) (fun c_4 => ?_) (fun c_4 => ?_)
  · replace h := mb_ift c_4 h
    refine ro_aload_n hK dM_lay_16 rfl ?_
    refine ro_iload_n hK dM_lay_17 rfl ?_
    refine ro_iload_n hK dM_lay_18 rfl ?_
    refine ro_iload_n hK dM_lay_19 rfl ?_
    obtain ⟨s_5, q_6, h⟩ := mb_cw_e h
    refine rb_callV hK mM_setRow vM_107 (t_M_setRow (dd := dd + 3) q_6) rfl mb_oM rfl (Nat.le_of_ble_eq_true rfl) dM_lay_20 rfl ⟨Nat.le_refl _, Nat.le_refl _⟩ ?_
    show K 0 0 23 [.ref 200, .int x1, .int x2, .int x3, .int r_3] [] (mb_s s_5)
    refine ro_iconst (x := 1) hK (by decide) dM_lay_23 ?_
    cases h
    exact hR.1 0 0 24 _ _ _ _ rfl rfl dM_lay_24 ⟨rfl, rfl⟩
  · replace h := mb_iff c_4 h
    refine ro_iload hK dM_lay_13 rfl ?_
    cases h
    exact hR.1 0 0 15 _ _ _ _ rfl rfl dM_lay_15 ⟨rfl, rfl⟩
theorem dM_minutes_0 : decode bM_minutes 0 = .ok (.iload_n 1, 1) := by decide +kernel
theorem dM_minutes_1 : decode bM_minutes 1 = .ok (.iconst 0, 1) := by decide +kernel
theorem dM_minutes_2 : decode bM_minutes 2 = .ok (.bipush 60, 2) := by decide +kernel
theorem dM_minutes_4 : decode bM_minutes 4 = .ok (.invokestatic 92, 3) := by decide +kernel
theorem dM_minutes_7 : decode bM_minutes 7 = .ok (.ifCond .ne 5, 3) := by decide +kernel
theorem dM_minutes_10 : decode bM_minutes 10 = .ok (.iconst (-1), 1) := by decide +kernel
theorem dM_minutes_11 : decode bM_minutes 11 = .ok (.ireturn, 1) := by decide +kernel
theorem dM_minutes_12 : decode bM_minutes 12 = .ok (.aload_n 0, 1) := by decide +kernel
theorem dM_minutes_13 : decode bM_minutes 13 = .ok (.getfield 161, 3) := by decide +kernel
theorem dM_minutes_16 : decode bM_minutes 16 = .ok (.ifCond .ne 6, 3) := by decide +kernel
theorem dM_minutes_19 : decode bM_minutes 19 = .ok (.bipush (-4), 2) := by decide +kernel
theorem dM_minutes_21 : decode bM_minutes 21 = .ok (.ireturn, 1) := by decide +kernel
theorem dM_minutes_22 : decode bM_minutes 22 = .ok (.aload_n 0, 1) := by decide +kernel
theorem dM_minutes_23 : decode bM_minutes 23 = .ok (.getfield 173, 3) := by decide +kernel
theorem dM_minutes_26 : decode bM_minutes 26 = .ok (.iload_n 1, 1) := by decide +kernel
theorem dM_minutes_27 : decode bM_minutes 27 = .ok (.iadd, 1) := by decide +kernel
theorem dM_minutes_28 : decode bM_minutes 28 = .ok (.bipush 120, 2) := by decide +kernel
theorem dM_minutes_30 : decode bM_minutes 30 = .ok (.if_icmp .le 6, 3) := by decide +kernel
theorem dM_minutes_33 : decode bM_minutes 33 = .ok (.bipush (-2), 2) := by decide +kernel
theorem dM_minutes_35 : decode bM_minutes 35 = .ok (.ireturn, 1) := by decide +kernel
theorem dM_minutes_36 : decode bM_minutes 36 = .ok (.iconst 0, 1) := by decide +kernel
theorem dM_minutes_37 : decode bM_minutes 37 = .ok (.istore_n 2, 1) := by decide +kernel
theorem dM_minutes_38 : decode bM_minutes 38 = .ok (.iload_n 2, 1) := by decide +kernel
theorem dM_minutes_39 : decode bM_minutes 39 = .ok (.iload_n 1, 1) := by decide +kernel
theorem dM_minutes_40 : decode bM_minutes 40 = .ok (.if_icmp .ge 28, 3) := by decide +kernel
theorem dM_minutes_43 : decode bM_minutes 43 = .ok (.aload_n 0, 1) := by decide +kernel
theorem dM_minutes_44 : decode bM_minutes 44 = .ok (.invokevirtual 206, 3) := by decide +kernel
theorem dM_minutes_47 : decode bM_minutes 47 = .ok (.ifCond .ne 21, 3) := by decide +kernel
theorem dM_minutes_50 : decode bM_minutes 50 = .ok (.aload_n 0, 1) := by decide +kernel
theorem dM_minutes_51 : decode bM_minutes 51 = .ok (.aload_n 0, 1) := by decide +kernel
theorem dM_minutes_52 : decode bM_minutes 52 = .ok (.aload_n 0, 1) := by decide +kernel
theorem dM_minutes_53 : decode bM_minutes 53 = .ok (.getfield 167, 3) := by decide +kernel
theorem dM_minutes_56 : decode bM_minutes 56 = .ok (.invokevirtual 210, 3) := by decide +kernel
theorem dM_minutes_59 : decode bM_minutes 59 = .ok (.invokevirtual 213, 3) := by decide +kernel
theorem dM_minutes_62 : decode bM_minutes 62 = .ok (.iinc 2 1, 3) := by decide +kernel
theorem dM_minutes_65 : decode bM_minutes 65 = .ok (.goto (-27), 3) := by decide +kernel
theorem dM_minutes_68 : decode bM_minutes 68 = .ok (.iload_n 2, 1) := by decide +kernel
theorem dM_minutes_69 : decode bM_minutes 69 = .ok (.ireturn, 1) := by decide +kernel
def f_M_minutes_38 (n : Nat) (k0 : Int32 → mb_T → Option (Int32 × mb_T)) (y1 : Int32) : Nat → Int32 → mb_T → Option (Int32 × mb_T)
  | 0, _, _ => none
  | f + 1, w2, s => if y1 ≤ w2 then k0 w2 s else mb_cl (f_M_isOver n s) fun r_10 s_8 => if r_10 = 0 then (mb_cl (f_M_nextBy n (s_8.1 200 10) s_8) fun r_14 s_12 => mb_cw (f_M_goMinute n r_14 s_12) fun s_15 => f_M_minutes_38 n k0 y1 f (w2 + 1) s_15) else k0 w2 s_8
def f_M_minutes (n : Nat) (x1 : Int32) (s : mb_T) : Option (Int32 × mb_T) := mb_cl (f_M_in n x1 0 60 s) fun r_3 s_1 => if r_3 = 0 then some ((-1), s_1) else if (s_1.1 200 8) = 0 then some ((-4), s_1) else if ((s_1.1 200 24) + x1) ≤ 120 then f_M_minutes_38 n (fun x_17 s_18 => some (x_17, s_18)) x1 n 0 s_1 else some ((-2), s_1)
set_option maxHeartbeats 4000000 in
set_option maxRecDepth 100000 in
theorem tl_M_minutes_38 {dd n : Nat} {K : mj_KT} {out : Int32 × mb_T} (hK : mj_C (dd + 5) 0 0 RM_c "minutes" bM_minutes 3 K) (hR : mj_R bM_minutes (some .int) (fun r2 S2 => r2 = some (.int out.1) ∧ S2 = mb_s out.2) K) {k0 : Int32 → mb_T → Option (Int32 × mb_T)} {y1 : Int32} (hk0 : ∀ (w2 : Int32) (s : mb_T), k0 w2 s = some out → K 0 0 68 [.ref 200, .int y1, .int w2] [] (mb_s s)) : ∀ (f : Nat) (w2 : Int32) (s : mb_T), f_M_minutes_38 n k0 y1 f w2 s = some out → K 0 0 38 [.ref 200, .int y1, .int w2] [] (mb_s s) := by
  intro f
  induction f with
  | zero =>
    intro w2 s h
    cases h
  | succ f ih =>
    intro w2 s h
    rw [f_M_minutes_38] at h
    refine ro_iload_n hK dM_minutes_38 rfl ?_
    refine ro_iload_n hK dM_minutes_39 rfl ?_
    refine ro_icmp_ge (tgt := 68) hK dM_minutes_40 (by decide) (fun c_7 => ?_) (fun c_7 => ?_)
    · replace h := mb_ift c_7 h
      refine ro_fg (lv' := [.ref 200, .int y1, .int w2]) hK ⟨Or.inr rfl, ⟨Or.inr rfl, ⟨Or.inr rfl, trivial⟩⟩⟩ ?_
      exact hk0 _ _ h
    · replace h := mb_iff c_7 h
      refine ro_aload_n hK dM_minutes_43 rfl ?_
      obtain ⟨r_10, s_8, q_9, h⟩ := mb_cl_e h
      refine rb_callV hK mM_isOver vM_206 (t_M_isOver (dd := dd + 2) q_9) rfl mb_oM rfl (Nat.le_of_ble_eq_true rfl) dM_minutes_44 rfl ⟨Nat.le_refl _, Nat.le_refl _⟩ ?_
      show K 0 0 47 [.ref 200, .int y1, .int w2] [.int r_10] (mb_s s_8)
      refine ro_if_ne (tgt := 68) hK dM_minutes_47 (by decide) (fun c_11 => ?_) (fun c_11 => ?_)
      · replace h := mb_iff c_11 h
        refine ro_fg (lv' := [.ref 200, .int y1, .int w2]) hK ⟨Or.inr rfl, ⟨Or.inr rfl, ⟨Or.inr rfl, trivial⟩⟩⟩ ?_
        exact hk0 _ _ h
      · replace h := mb_ift c_11 h
        refine ro_aload_n hK dM_minutes_50 rfl ?_
        refine ro_aload_n hK dM_minutes_51 rfl ?_
        refine ro_aload_n hK dM_minutes_52 rfl ?_
        refine rb_get hK fM_167 mb_oM rfl dM_minutes_53 ?_
        obtain ⟨r_14, s_12, q_13, h⟩ := mb_cl_e h
        refine rb_callV hK mM_nextBy vM_210 (t_M_nextBy (dd := dd + 0) q_13) rfl mb_oM rfl (Nat.le_of_ble_eq_true rfl) dM_minutes_56 rfl ⟨Nat.le_refl _, Nat.le_refl _⟩ ?_
        show K 0 0 59 [.ref 200, .int y1, .int w2] [.int r_14, .ref 200] (mb_s s_12)
        obtain ⟨s_15, q_16, h⟩ := mb_cw_e h
        refine rb_callV hK mM_goMinute vM_213 (t_M_goMinute (dd := dd + 1) q_16) rfl mb_oM rfl (Nat.le_of_ble_eq_true rfl) dM_minutes_59 rfl ⟨Nat.le_refl _, Nat.le_refl _⟩ ?_
        show K 0 0 62 [.ref 200, .int y1, .int w2] [] (mb_s s_15)
        refine ro_iincv (c := 1) hK (by decide) dM_minutes_62 rfl (by decide) ?_
        show K 0 0 65 [.ref 200, .int y1, .int (w2 + 1)] [] (mb_s s_15)
        refine ro_goto (tgt := 38) hK dM_minutes_65 (by decide) ?_
        refine ro_fg (lv' := [.ref 200, .int y1, .int (w2 + 1)]) hK ⟨Or.inr rfl, ⟨Or.inr rfl, ⟨Or.inr rfl, trivial⟩⟩⟩ ?_
        exact ih _ _ h
set_option maxHeartbeats 4000000 in
set_option maxRecDepth 100000 in
theorem t_M_minutes {dd n : Nat} {x1 : Int32} {s : mb_T} {out : Int32 × mb_T}  (h : f_M_minutes n x1 s = some out) : mb_MC (dd + 5) yM_minutes bM_minutes 3 (some .int) [.ref 200, .int x1] s (some (.int out.1)) out.2 := by
  unfold f_M_minutes at h
  refine mj_mc (lv := [.ref 200, .int x1, .retAddr 0]) mM_minutes rfl rfl (Nat.le_of_ble_eq_true rfl) (fun K hK hR => ?_)
  have hK : mj_C (dd + 5) 0 0 RM_c "minutes" bM_minutes 3 K := hK
  refine ro_iload_n hK dM_minutes_0 rfl ?_
  refine ro_iconst (x := 0) hK (by decide) dM_minutes_1 ?_
  refine ro_bipush (x := 60) hK (by decide) dM_minutes_2 ?_
  obtain ⟨r_3, s_1, q_2, h⟩ := mb_cl_e h
  refine rb_callS hK mM_in vM_92 (t_M_in (dd := dd + 3) q_2) rfl (Nat.le_of_ble_eq_true rfl) dM_minutes_4 rfl ⟨Nat.le_refl _, Nat.le_refl _⟩ ?_
  show K 0 0 7 [.ref 200, .int x1, .retAddr 0] [.int r_3] (mb_s s_1)
  refine ro_if_ne (tgt := 12) hK dM_minutes_7 (by decide) (fun c_4 => ?_) (fun c_4 => ?_)
  · replace h := mb_iff c_4 h
    refine ro_aload_n hK dM_minutes_12 rfl ?_
    refine rb_get hK fM_161 mb_oM rfl dM_minutes_13 ?_
    refine ro_if_ne (tgt := 22) hK dM_minutes_16 (by decide) (fun c_5 => ?_) (fun c_5 => ?_)
    · replace h := mb_iff c_5 h
      refine ro_aload_n hK dM_minutes_22 rfl ?_
      refine rb_get hK fM_173 mb_oM rfl dM_minutes_23 ?_
      refine ro_iload_n hK dM_minutes_26 rfl ?_
      refine ro_iadd hK dM_minutes_27 ?_
      refine ro_bipush (x := 120) hK (by decide) dM_minutes_28 ?_
      refine ro_icmp_le (tgt := 36) hK dM_minutes_30 (by decide) (fun c_6 => ?_) (fun c_6 => ?_)
      · replace h := mb_ift c_6 h
        refine ro_iconst (x := 0) hK (by decide) dM_minutes_36 ?_
        refine ro_istore_n hK dM_minutes_37 (by decide) ?_
        show K 0 0 38 [.ref 200, .int x1, .int 0] [] (mb_s s_1)
        refine ro_fg (lv' := [.ref 200, .int x1, .int 0]) hK ⟨Or.inr rfl, ⟨Or.inr rfl, ⟨Or.inr rfl, trivial⟩⟩⟩ ?_
        refine tl_M_minutes_38 (dd := dd) hK hR (fun x_17 s_18 h => ?_) n _ _ h
        refine ro_iload_n hK dM_minutes_68 rfl ?_
        cases h
        exact hR.1 0 0 69 _ _ _ _ rfl rfl dM_minutes_69 ⟨rfl, rfl⟩
      · replace h := mb_iff c_6 h
        refine ro_bipush (x := (-2)) hK (by decide) dM_minutes_33 ?_
        cases h
        exact hR.1 0 0 35 _ _ _ _ rfl rfl dM_minutes_35 ⟨rfl, rfl⟩
    · replace h := mb_ift c_5 h
      refine ro_bipush (x := (-4)) hK (by decide) dM_minutes_19 ?_
      cases h
      exact hR.1 0 0 21 _ _ _ _ rfl rfl dM_minutes_21 ⟨rfl, rfl⟩
  · replace h := mb_ift c_4 h
    refine ro_iconst (x := (-1)) hK (by decide) dM_minutes_10 ?_
    cases h
    exact hR.1 0 0 11 _ _ _ _ rfl rfl dM_minutes_11 ⟨rfl, rfl⟩
theorem dM_next_0 : decode bM_next 0 = .ok (.aload_n 0, 1) := by decide +kernel
theorem dM_next_1 : decode bM_next 1 = .ok (.getfield 161, 3) := by decide +kernel
theorem dM_next_4 : decode bM_next 4 = .ok (.ifCond .eq 10, 3) := by decide +kernel
theorem dM_next_7 : decode bM_next 7 = .ok (.aload_n 0, 1) := by decide +kernel
theorem dM_next_8 : decode bM_next 8 = .ok (.invokevirtual 206, 3) := by decide +kernel
theorem dM_next_11 : decode bM_next 11 = .ok (.ifCond .eq 8, 3) := by decide +kernel
theorem dM_next_14 : decode bM_next 14 = .ok (.bipush (-4), 2) := by decide +kernel
theorem dM_next_16 : decode bM_next 16 = .ok (.goto 11, 3) := by decide +kernel
theorem dM_next_19 : decode bM_next 19 = .ok (.aload_n 0, 1) := by decide +kernel
theorem dM_next_20 : decode bM_next 20 = .ok (.aload_n 0, 1) := by decide +kernel
theorem dM_next_21 : decode bM_next 21 = .ok (.getfield 167, 3) := by decide +kernel
theorem dM_next_24 : decode bM_next 24 = .ok (.invokevirtual 210, 3) := by decide +kernel
theorem dM_next_27 : decode bM_next 27 = .ok (.ireturn, 1) := by decide +kernel
def f_M_next (n : Nat)  (s : mb_T) : Option (Int32 × mb_T) := if (s.1 200 8) = 0 then some ((-4), s) else mb_cl (f_M_isOver n s) fun r_4 s_2 => if r_4 = 0 then (mb_cl (f_M_nextBy n (s_2.1 200 10) s_2) fun r_8 s_6 => some (r_8, s_6)) else some ((-4), s_2)
set_option maxHeartbeats 4000000 in
set_option maxRecDepth 100000 in
theorem t_M_next {dd n : Nat}  {s : mb_T} {out : Int32 × mb_T}  (h : f_M_next n  s = some out) : mb_MC (dd + 5) yM_next bM_next 1 (some .int) [.ref 200] s (some (.int out.1)) out.2 := by
  unfold f_M_next at h
  refine mj_mc (lv := [.ref 200]) mM_next rfl rfl (Nat.le_of_ble_eq_true rfl) (fun K hK hR => ?_)
  have hK : mj_C (dd + 5) 0 0 RM_c "next" bM_next 1 K := hK
  refine ro_aload_n hK dM_next_0 rfl ?_
  refine rb_get hK fM_161 mb_oM rfl dM_next_1 ?_
  refine ro_if_eq (tgt := 14) hK dM_next_4 (by decide) (fun c_1 => ?_) (fun c_1 => ?_)
  · replace h := mb_ift c_1 h
    refine ro_bipush (x := (-4)) hK (by decide) dM_next_14 ?_
    refine ro_goto (tgt := 27) hK dM_next_16 (by decide) ?_
    cases h
    exact hR.1 0 0 27 _ _ _ _ rfl rfl dM_next_27 ⟨rfl, rfl⟩
  · replace h := mb_iff c_1 h
    refine ro_aload_n hK dM_next_7 rfl ?_
    obtain ⟨r_4, s_2, q_3, h⟩ := mb_cl_e h
    refine rb_callV hK mM_isOver vM_206 (t_M_isOver (dd := dd + 2) q_3) rfl mb_oM rfl (Nat.le_of_ble_eq_true rfl) dM_next_8 rfl ⟨Nat.le_refl _, Nat.le_refl _⟩ ?_
    show K 0 0 11 [.ref 200] [.int r_4] (mb_s s_2)
    refine ro_if_eq (tgt := 19) hK dM_next_11 (by decide) (fun c_5 => ?_) (fun c_5 => ?_)
    · replace h := mb_ift c_5 h
      refine ro_aload_n hK dM_next_19 rfl ?_
      refine ro_aload_n hK dM_next_20 rfl ?_
      refine rb_get hK fM_167 mb_oM rfl dM_next_21 ?_
      obtain ⟨r_8, s_6, q_7, h⟩ := mb_cl_e h
      refine rb_callV hK mM_nextBy vM_210 (t_M_nextBy (dd := dd + 0) q_7) rfl mb_oM rfl (Nat.le_of_ble_eq_true rfl) dM_next_24 rfl ⟨Nat.le_refl _, Nat.le_refl _⟩ ?_
      show K 0 0 27 [.ref 200] [.int r_8] (mb_s s_6)
      cases h
      exact hR.1 0 0 27 _ _ _ _ rfl rfl dM_next_27 ⟨rfl, rfl⟩
    · replace h := mb_iff c_5 h
      refine ro_bipush (x := (-4)) hK (by decide) dM_next_14 ?_
      refine ro_goto (tgt := 27) hK dM_next_16 (by decide) ?_
      cases h
      exact hR.1 0 0 27 _ _ _ _ rfl rfl dM_next_27 ⟨rfl, rfl⟩
theorem dM_pass_0 : decode bM_pass 0 = .ok (.aload_n 0, 1) := by decide +kernel
theorem dM_pass_1 : decode bM_pass 1 = .ok (.iconst 0, 1) := by decide +kernel
theorem dM_pass_2 : decode bM_pass 2 = .ok (.putfield 244, 3) := by decide +kernel
theorem dM_pass_5 : decode bM_pass 5 = .ok (.iconst 0, 1) := by decide +kernel
theorem dM_pass_6 : decode bM_pass 6 = .ok (.istore_n 3, 1) := by decide +kernel
theorem dM_pass_7 : decode bM_pass 7 = .ok (.iload_n 3, 1) := by decide +kernel
theorem dM_pass_8 : decode bM_pass 8 = .ok (.iload_n 1, 1) := by decide +kernel
theorem dM_pass_9 : decode bM_pass 9 = .ok (.if_icmp .ge 50, 3) := by decide +kernel
theorem dM_pass_12 : decode bM_pass 12 = .ok (.aload_n 0, 1) := by decide +kernel
theorem dM_pass_13 : decode bM_pass 13 = .ok (.invokevirtual 206, 3) := by decide +kernel
theorem dM_pass_16 : decode bM_pass 16 = .ok (.ifCond .ne 43, 3) := by decide +kernel
theorem dM_pass_19 : decode bM_pass 19 = .ok (.aload_n 0, 1) := by decide +kernel
theorem dM_pass_20 : decode bM_pass 20 = .ok (.aload_n 0, 1) := by decide +kernel
theorem dM_pass_21 : decode bM_pass 21 = .ok (.aload_n 0, 1) := by decide +kernel
theorem dM_pass_22 : decode bM_pass 22 = .ok (.getfield 167, 3) := by decide +kernel
theorem dM_pass_25 : decode bM_pass 25 = .ok (.invokevirtual 210, 3) := by decide +kernel
theorem dM_pass_28 : decode bM_pass 28 = .ok (.invokevirtual 202, 3) := by decide +kernel
theorem dM_pass_31 : decode bM_pass 31 = .ok (.aload_n 0, 1) := by decide +kernel
theorem dM_pass_32 : decode bM_pass 32 = .ok (.dup, 1) := by decide +kernel
theorem dM_pass_33 : decode bM_pass 33 = .ok (.getfield 244, 3) := by decide +kernel
theorem dM_pass_36 : decode bM_pass 36 = .ok (.aload_n 0, 1) := by decide +kernel
theorem dM_pass_37 : decode bM_pass 37 = .ok (.getfield 50, 3) := by decide +kernel
theorem dM_pass_40 : decode bM_pass 40 = .ok (.iload_n 2, 1) := by decide +kernel
theorem dM_pass_41 : decode bM_pass 41 = .ok (.if_icmp .ne 7, 3) := by decide +kernel
theorem dM_pass_44 : decode bM_pass 44 = .ok (.iconst 1, 1) := by decide +kernel
theorem dM_pass_45 : decode bM_pass 45 = .ok (.goto 4, 3) := by decide +kernel
theorem dM_pass_48 : decode bM_pass 48 = .ok (.iconst 0, 1) := by decide +kernel
theorem dM_pass_49 : decode bM_pass 49 = .ok (.iadd, 1) := by decide +kernel
theorem dM_pass_50 : decode bM_pass 50 = .ok (.putfield 244, 3) := by decide +kernel
theorem dM_pass_53 : decode bM_pass 53 = .ok (.iinc 3 1, 3) := by decide +kernel
theorem dM_pass_56 : decode bM_pass 56 = .ok (.goto (-49), 3) := by decide +kernel
theorem dM_pass_59 : decode bM_pass 59 = .ok (.return_, 1) := by decide +kernel
def f_M_pass_7 (n : Nat) (k0 : Int32 → mb_T → Option (mb_T)) (y1 : Int32) (y2 : Int32) : Nat → Int32 → mb_T → Option (mb_T)
  | 0, _, _ => none
  | f + 1, w3, s => if y1 ≤ w3 then k0 w3 s else mb_cl (f_M_isOver n s) fun r_6 s_4 => if r_6 = 0 then (mb_cl (f_M_nextBy n (s_4.1 200 10) s_4) fun r_10 s_8 => mb_cw (f_M_passMinute n r_10 s_8) fun s_11 => mb_bd (sF s_11 200 33 ((s_11.1 200 33) + (if (s_11.1 200 25) = y2 then 1 else 0 : Int32))) fun s_15 => f_M_pass_7 n k0 y1 y2 f (w3 + 1) s_15) else k0 w3 s_4
def f_M_pass (n : Nat) (x1 : Int32) (x2 : Int32) (s : mb_T) : Option (mb_T) := mb_bd (sF s 200 33 0) fun s_1 => f_M_pass_7 n (fun x_17 s_18 => some s_18) x1 x2 n 0 s_1
set_option maxHeartbeats 4000000 in
set_option maxRecDepth 100000 in
theorem tl_M_pass_7 {dd n : Nat} {K : mj_KT} {out : mb_T} (hK : mj_C (dd + 5) 0 0 RM_c "pass" bM_pass 4 K) (hR : mj_R bM_pass none (fun r2 S2 => r2 = none ∧ S2 = mb_s out) K) {k0 : Int32 → mb_T → Option (mb_T)} {y1 : Int32} {y2 : Int32} (hk0 : ∀ (w3 : Int32) (s : mb_T), k0 w3 s = some out → K 0 0 59 [.ref 200, .int y1, .int y2, .int w3] [] (mb_s s)) : ∀ (f : Nat) (w3 : Int32) (s : mb_T), f_M_pass_7 n k0 y1 y2 f w3 s = some out → K 0 0 7 [.ref 200, .int y1, .int y2, .int w3] [] (mb_s s) := by
  intro f
  induction f with
  | zero =>
    intro w3 s h
    cases h
  | succ f ih =>
    intro w3 s h
    rw [f_M_pass_7] at h
    refine ro_iload_n hK dM_pass_7 rfl ?_
    refine ro_iload_n hK dM_pass_8 rfl ?_
    refine ro_icmp_ge (tgt := 59) hK dM_pass_9 (by decide) (fun c_3 => ?_) (fun c_3 => ?_)
    · replace h := mb_ift c_3 h
      refine ro_fg (lv' := [.ref 200, .int y1, .int y2, .int w3]) hK ⟨Or.inr rfl, ⟨Or.inr rfl, ⟨Or.inr rfl, ⟨Or.inr rfl, trivial⟩⟩⟩⟩ ?_
      exact hk0 _ _ h
    · replace h := mb_iff c_3 h
      refine ro_aload_n hK dM_pass_12 rfl ?_
      obtain ⟨r_6, s_4, q_5, h⟩ := mb_cl_e h
      refine rb_callV hK mM_isOver vM_206 (t_M_isOver (dd := dd + 2) q_5) rfl mb_oM rfl (Nat.le_of_ble_eq_true rfl) dM_pass_13 rfl ⟨Nat.le_refl _, Nat.le_refl _⟩ ?_
      show K 0 0 16 [.ref 200, .int y1, .int y2, .int w3] [.int r_6] (mb_s s_4)
      refine ro_if_ne (tgt := 59) hK dM_pass_16 (by decide) (fun c_7 => ?_) (fun c_7 => ?_)
      · replace h := mb_iff c_7 h
        refine ro_fg (lv' := [.ref 200, .int y1, .int y2, .int w3]) hK ⟨Or.inr rfl, ⟨Or.inr rfl, ⟨Or.inr rfl, ⟨Or.inr rfl, trivial⟩⟩⟩⟩ ?_
        exact hk0 _ _ h
      · replace h := mb_ift c_7 h
        refine ro_aload_n hK dM_pass_19 rfl ?_
        refine ro_aload_n hK dM_pass_20 rfl ?_
        refine ro_aload_n hK dM_pass_21 rfl ?_
        refine rb_get hK fM_167 mb_oM rfl dM_pass_22 ?_
        obtain ⟨r_10, s_8, q_9, h⟩ := mb_cl_e h
        refine rb_callV hK mM_nextBy vM_210 (t_M_nextBy (dd := dd + 0) q_9) rfl mb_oM rfl (Nat.le_of_ble_eq_true rfl) dM_pass_25 rfl ⟨Nat.le_refl _, Nat.le_refl _⟩ ?_
        show K 0 0 28 [.ref 200, .int y1, .int y2, .int w3] [.int r_10, .ref 200] (mb_s s_8)
        obtain ⟨s_11, q_12, h⟩ := mb_cw_e h
        refine rb_callV hK mM_passMinute vM_202 (t_M_passMinute (dd := dd + 2) q_12) rfl mb_oM rfl (Nat.le_of_ble_eq_true rfl) dM_pass_28 rfl ⟨Nat.le_refl _, Nat.le_refl _⟩ ?_
        show K 0 0 31 [.ref 200, .int y1, .int y2, .int w3] [] (mb_s s_11)
        refine ro_aload_n hK dM_pass_31 rfl ?_
        refine ro_dup hK dM_pass_32 rfl ?_
        refine rb_get hK fM_244 mb_oM rfl dM_pass_33 ?_
        refine ro_aload_n hK dM_pass_36 rfl ?_
        refine rb_get hK fM_50 mb_oM rfl dM_pass_37 ?_
        refine ro_iload_n hK dM_pass_40 rfl ?_
        have j_14 : ∀ w_ : Int32, w_ = (if (s_11.1 200 25) = y2 then 1 else 0 : Int32) → K 0 0 49 [.ref 200, .int y1, .int y2, .int w3] [.int w_, .int (s_11.1 200 33), .ref 200] (mb_s s_11) → K 0 0 41 [.ref 200, .int y1, .int y2, .int w3] [.int y2, .int (s_11.1 200 25), .int (s_11.1 200 33), .ref 200] (mb_s s_11) := by
          intro w_ hw hj
          refine ro_icmp_ne (tgt := 48) hK dM_pass_41 (by decide) (fun c_13 => ?_) (fun c_13 => ?_)
          · skip
            refine ro_iconst (x := 0) hK (by decide) dM_pass_48 ?_
            have hw := (hw.trans (if_neg c_13))
            subst hw
            exact hj
          · skip
            refine ro_iconst (x := 1) hK (by decide) dM_pass_44 ?_
            refine ro_goto (tgt := 49) hK dM_pass_45 (by decide) ?_
            have hw := (hw.trans (if_pos c_13))
            subst hw
            exact hj
        refine j_14 _ rfl ?_
        refine ro_iadd hK dM_pass_49 ?_
        obtain ⟨s_15, e_16, h⟩ := mb_bd_e h
        refine rb_put hK gM_244 mb_oM rfl (by show 33 < 45; decide) rfl rfl e_16 dM_pass_50 ?_
        refine ro_iincv (c := 1) hK (by decide) dM_pass_53 rfl (by decide) ?_
        show K 0 0 56 [.ref 200, .int y1, .int y2, .int (w3 + 1)] [] (mb_s s_15)
        refine ro_goto (tgt := 7) hK dM_pass_56 (by decide) ?_
        refine ro_fg (lv' := [.ref 200, .int y1, .int y2, .int (w3 + 1)]) hK ⟨Or.inr rfl, ⟨Or.inr rfl, ⟨Or.inr rfl, ⟨Or.inr rfl, trivial⟩⟩⟩⟩ ?_
        exact ih _ _ h
set_option maxHeartbeats 4000000 in
set_option maxRecDepth 100000 in
theorem t_M_pass {dd n : Nat} {x1 : Int32} {x2 : Int32} {s : mb_T} {out : mb_T}  (h : f_M_pass n x1 x2 s = some out) : mb_MC (dd + 5) yM_pass bM_pass 4 none [.ref 200, .int x1, .int x2] s none out := by
  unfold f_M_pass at h
  refine mj_mc (lv := [.ref 200, .int x1, .int x2, .retAddr 0]) mM_pass rfl rfl (Nat.le_of_ble_eq_true rfl) (fun K hK hR => ?_)
  have hK : mj_C (dd + 5) 0 0 RM_c "pass" bM_pass 4 K := hK
  refine ro_aload_n hK dM_pass_0 rfl ?_
  refine ro_iconst (x := 0) hK (by decide) dM_pass_1 ?_
  obtain ⟨s_1, e_2, h⟩ := mb_bd_e h
  refine rb_put hK gM_244 mb_oM rfl (by show 33 < 45; decide) rfl rfl e_2 dM_pass_2 ?_
  refine ro_iconst (x := 0) hK (by decide) dM_pass_5 ?_
  refine ro_istore_n hK dM_pass_6 (by decide) ?_
  show K 0 0 7 [.ref 200, .int x1, .int x2, .int 0] [] (mb_s s_1)
  refine ro_fg (lv' := [.ref 200, .int x1, .int x2, .int 0]) hK ⟨Or.inr rfl, ⟨Or.inr rfl, ⟨Or.inr rfl, ⟨Or.inr rfl, trivial⟩⟩⟩⟩ ?_
  refine tl_M_pass_7 (dd := dd) hK hR (fun x_17 s_18 h => ?_) n _ _ h
  cases h
  exact hR.2.2 0 0 59 _ _ rfl dM_pass_59 ⟨rfl, rfl⟩
