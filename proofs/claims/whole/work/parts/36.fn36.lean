theorem dC_holds_0 : decode bC_holds 0 = .ok (.iload_n 1, 1) := by decide +kernel
theorem dC_holds_1 : decode bC_holds 1 = .ok (.invokestatic 168, 3) := by decide +kernel
theorem dC_holds_4 : decode bC_holds 4 = .ok (.ifCond .ne 5, 3) := by decide +kernel
theorem dC_holds_7 : decode bC_holds 7 = .ok (.iconst (-1), 1) := by decide +kernel
theorem dC_holds_8 : decode bC_holds 8 = .ok (.ireturn, 1) := by decide +kernel
theorem dC_holds_9 : decode bC_holds 9 = .ok (.aload_n 0, 1) := by decide +kernel
theorem dC_holds_10 : decode bC_holds 10 = .ok (.getfield 29, 3) := by decide +kernel
theorem dC_holds_13 : decode bC_holds 13 = .ok (.getfield 128, 3) := by decide +kernel
theorem dC_holds_16 : decode bC_holds 16 = .ok (.ifCond .ne 6, 3) := by decide +kernel
theorem dC_holds_19 : decode bC_holds 19 = .ok (.bipush (-4), 2) := by decide +kernel
theorem dC_holds_21 : decode bC_holds 21 = .ok (.ireturn, 1) := by decide +kernel
theorem dC_holds_22 : decode bC_holds 22 = .ok (.aload_n 0, 1) := by decide +kernel
theorem dC_holds_23 : decode bC_holds 23 = .ok (.getfield 50, 3) := by decide +kernel
theorem dC_holds_26 : decode bC_holds 26 = .ok (.aload_n 0, 1) := by decide +kernel
theorem dC_holds_27 : decode bC_holds 27 = .ok (.getfield 29, 3) := by decide +kernel
theorem dC_holds_30 : decode bC_holds 30 = .ok (.invokevirtual 144, 3) := by decide +kernel
theorem dC_holds_33 : decode bC_holds 33 = .ok (.aload_n 0, 1) := by decide +kernel
theorem dC_holds_34 : decode bC_holds 34 = .ok (.getfield 50, 3) := by decide +kernel
theorem dC_holds_37 : decode bC_holds 37 = .ok (.iload_n 1, 1) := by decide +kernel
theorem dC_holds_38 : decode bC_holds 38 = .ok (.bipush 100, 2) := by decide +kernel
theorem dC_holds_40 : decode bC_holds 40 = .ok (.invokevirtual 225, 3) := by decide +kernel
theorem dC_holds_43 : decode bC_holds 43 = .ok (.istore_n 2, 1) := by decide +kernel
theorem dC_holds_44 : decode bC_holds 44 = .ok (.iload_n 2, 1) := by decide +kernel
theorem dC_holds_45 : decode bC_holds 45 = .ok (.bipush (-9), 2) := by decide +kernel
theorem dC_holds_47 : decode bC_holds 47 = .ok (.if_icmp .eq 14, 3) := by decide +kernel
theorem dC_holds_50 : decode bC_holds 50 = .ok (.aload_n 0, 1) := by decide +kernel
theorem dC_holds_51 : decode bC_holds 51 = .ok (.aload_n 0, 1) := by decide +kernel
theorem dC_holds_52 : decode bC_holds 52 = .ok (.getfield 50, 3) := by decide +kernel
theorem dC_holds_55 : decode bC_holds 55 = .ok (.invokevirtual 203, 3) := by decide +kernel
theorem dC_holds_58 : decode bC_holds 58 = .ok (.putfield 74, 3) := by decide +kernel
theorem dC_holds_61 : decode bC_holds 61 = .ok (.iload_n 2, 1) := by decide +kernel
theorem dC_holds_62 : decode bC_holds 62 = .ok (.ireturn, 1) := by decide +kernel
def f_C_holds (n : Nat) (x1 : Int32) (s : mb_T) : Option (Int32 × mb_T) := mb_cl (f_C_isLaw n x1 s) fun r_3 s_1 => if r_3 = 0 then some ((-1), s_1) else if (s_1.1 100 0) = 0 then some ((-4), s_1) else mb_cw (f_A_begin n 100 s_1) fun s_6 => mb_cl (f_A_howLong n x1 100 s_6) fun r_10 s_8 => if r_10 = (-9) then some (r_10, s_8) else mb_cl (f_A_whoScream n s_8) fun r_14 s_12 => mb_bd (sF s_12 0 14 r_14) fun s_15 => some (r_10, s_15)
set_option maxHeartbeats 4000000 in
set_option maxRecDepth 100000 in
theorem t_C_holds {dd n : Nat} {x1 : Int32} {s : mb_T} {out : Int32 × mb_T}  (h : f_C_holds n x1 s = some out) : mb_MC (dd + 7) yC_holds bC_holds 3 (some .int) [.ref 0, .int x1] s (some (.int out.1)) out.2 := by
  unfold f_C_holds at h
  refine mj_mc (lv := [.ref 0, .int x1, .retAddr 0]) mC_holds rfl rfl (Nat.le_of_ble_eq_true rfl) (fun K hK hR => ?_)
  have hK : mj_C (dd + 7) 0 0 RC_c "holds" bC_holds 3 K := hK
  refine ro_iload_n hK dC_holds_0 rfl ?_
  obtain ⟨r_3, s_1, q_2, h⟩ := mb_cl_e h
  refine rb_callS hK mC_isLaw vC_168 (t_C_isLaw (dd := dd + 5) q_2) rfl (Nat.le_of_ble_eq_true rfl) dC_holds_1 rfl ⟨Nat.le_refl _, Nat.le_refl _⟩ ?_
  show K 0 0 4 [.ref 0, .int x1, .retAddr 0] [.int r_3] (mb_s s_1)
  refine ro_if_ne (tgt := 9) hK dC_holds_4 (by decide) (fun c_4 => ?_) (fun c_4 => ?_)
  · replace h := mb_iff c_4 h
    refine ro_aload_n hK dC_holds_9 rfl ?_
    refine rb_get hK fC_29 mb_oC rfl dC_holds_10 ?_
    refine rb_get hK fC_128 (mb_cvo (Or.inl rfl)) rfl dC_holds_13 ?_
    refine ro_if_ne (tgt := 22) hK dC_holds_16 (by decide) (fun c_5 => ?_) (fun c_5 => ?_)
    · replace h := mb_iff c_5 h
      refine ro_aload_n hK dC_holds_22 rfl ?_
      refine rb_get hK fC_50 mb_oC rfl dC_holds_23 ?_
      refine ro_aload_n hK dC_holds_26 rfl ?_
      refine rb_get hK fC_29 mb_oC rfl dC_holds_27 ?_
      obtain ⟨s_6, q_7, h⟩ := mb_cw_e h
      refine rb_callV hK mA_begin vC_144 (t_A_begin (dd := dd + 3) (Or.inl rfl) q_7) rfl mb_oA rfl (Nat.le_of_ble_eq_true rfl) dC_holds_30 rfl ⟨Nat.le_refl _, Nat.le_refl _⟩ ?_
      show K 0 0 33 [.ref 0, .int x1, .retAddr 0] [] (mb_s s_6)
      refine ro_aload_n hK dC_holds_33 rfl ?_
      refine rb_get hK fC_50 mb_oC rfl dC_holds_34 ?_
      refine ro_iload_n hK dC_holds_37 rfl ?_
      refine ro_bipush (x := 100) hK (by decide) dC_holds_38 ?_
      obtain ⟨r_10, s_8, q_9, h⟩ := mb_cl_e h
      refine rb_callV hK mA_howLong vC_225 (t_A_howLong (dd := dd + 0) q_9) rfl mb_oA rfl (Nat.le_of_ble_eq_true rfl) dC_holds_40 rfl ⟨Nat.le_refl _, Nat.le_refl _⟩ ?_
      show K 0 0 43 [.ref 0, .int x1, .retAddr 0] [.int r_10] (mb_s s_8)
      refine ro_istore_n hK dC_holds_43 (by decide) ?_
      show K 0 0 44 [.ref 0, .int x1, .int r_10] [] (mb_s s_8)
      refine ro_iload_n hK dC_holds_44 rfl ?_
      refine ro_bipush (x := (-9)) hK (by decide) dC_holds_45 ?_
      refine ro_icmp_eq (tgt := 61) hK dC_holds_47 (by decide) (fun c_11 => ?_) (fun c_11 => ?_)
      · replace h := mb_ift c_11 h
        refine ro_iload_n hK dC_holds_61 rfl ?_
        cases h
        exact hR.1 0 0 62 _ _ _ _ rfl rfl dC_holds_62 ⟨rfl, rfl⟩
      · replace h := mb_iff c_11 h
        refine ro_aload_n hK dC_holds_50 rfl ?_
        refine ro_aload_n hK dC_holds_51 rfl ?_
        refine rb_get hK fC_50 mb_oC rfl dC_holds_52 ?_
        obtain ⟨r_14, s_12, q_13, h⟩ := mb_cl_e h
        refine rb_callV hK mA_whoScream vC_203 (t_A_whoScream (dd := dd + 5) q_13) rfl mb_oA rfl (Nat.le_of_ble_eq_true rfl) dC_holds_55 rfl ⟨Nat.le_refl _, Nat.le_refl _⟩ ?_
        show K 0 0 58 [.ref 0, .int x1, .int r_10] [.int r_14, .ref 0] (mb_s s_12)
        obtain ⟨s_15, e_16, h⟩ := mb_bd_e h
        refine rb_put hK gC_74 mb_oC rfl (by show 14 < 15; decide) rfl rfl e_16 dC_holds_58 ?_
        refine ro_iload_n hK dC_holds_61 rfl ?_
        cases h
        exact hR.1 0 0 62 _ _ _ _ rfl rfl dC_holds_62 ⟨rfl, rfl⟩
    · replace h := mb_ift c_5 h
      refine ro_bipush (x := (-4)) hK (by decide) dC_holds_19 ?_
      cases h
      exact hR.1 0 0 21 _ _ _ _ rfl rfl dC_holds_21 ⟨rfl, rfl⟩
  · replace h := mb_ift c_4 h
    refine ro_iconst (x := (-1)) hK (by decide) dC_holds_7 ?_
    cases h
    exact hR.1 0 0 8 _ _ _ _ rfl rfl dC_holds_8 ⟨rfl, rfl⟩
theorem dC_spare_0 : decode bC_spare 0 = .ok (.iload_n 1, 1) := by decide +kernel
theorem dC_spare_1 : decode bC_spare 1 = .ok (.invokestatic 180, 3) := by decide +kernel
theorem dC_spare_4 : decode bC_spare 4 = .ok (.ifCond .ne 5, 3) := by decide +kernel
theorem dC_spare_7 : decode bC_spare 7 = .ok (.iconst (-1), 1) := by decide +kernel
theorem dC_spare_8 : decode bC_spare 8 = .ok (.ireturn, 1) := by decide +kernel
theorem dC_spare_9 : decode bC_spare 9 = .ok (.aload_n 0, 1) := by decide +kernel
theorem dC_spare_10 : decode bC_spare 10 = .ok (.getfield 29, 3) := by decide +kernel
theorem dC_spare_13 : decode bC_spare 13 = .ok (.getfield 128, 3) := by decide +kernel
theorem dC_spare_16 : decode bC_spare 16 = .ok (.ifCond .ne 6, 3) := by decide +kernel
theorem dC_spare_19 : decode bC_spare 19 = .ok (.bipush (-4), 2) := by decide +kernel
theorem dC_spare_21 : decode bC_spare 21 = .ok (.ireturn, 1) := by decide +kernel
theorem dC_spare_22 : decode bC_spare 22 = .ok (.iconst 0, 1) := by decide +kernel
theorem dC_spare_23 : decode bC_spare 23 = .ok (.istore_n 2, 1) := by decide +kernel
theorem dC_spare_24 : decode bC_spare 24 = .ok (.iload_n 2, 1) := by decide +kernel
theorem dC_spare_25 : decode bC_spare 25 = .ok (.bipush 99, 2) := by decide +kernel
theorem dC_spare_27 : decode bC_spare 27 = .ok (.if_icmp .gt 50, 3) := by decide +kernel
theorem dC_spare_30 : decode bC_spare 30 = .ok (.aload_n 0, 1) := by decide +kernel
theorem dC_spare_31 : decode bC_spare 31 = .ok (.getfield 50, 3) := by decide +kernel
theorem dC_spare_34 : decode bC_spare 34 = .ok (.aload_n 0, 1) := by decide +kernel
theorem dC_spare_35 : decode bC_spare 35 = .ok (.getfield 29, 3) := by decide +kernel
theorem dC_spare_38 : decode bC_spare 38 = .ok (.invokevirtual 144, 3) := by decide +kernel
theorem dC_spare_41 : decode bC_spare 41 = .ok (.aload_n 0, 1) := by decide +kernel
theorem dC_spare_42 : decode bC_spare 42 = .ok (.getfield 50, 3) := by decide +kernel
theorem dC_spare_45 : decode bC_spare 45 = .ok (.iload_n 2, 1) := by decide +kernel
theorem dC_spare_46 : decode bC_spare 46 = .ok (.putfield 286, 3) := by decide +kernel
theorem dC_spare_49 : decode bC_spare 49 = .ok (.aload_n 0, 1) := by decide +kernel
theorem dC_spare_50 : decode bC_spare 50 = .ok (.getfield 50, 3) := by decide +kernel
theorem dC_spare_53 : decode bC_spare 53 = .ok (.aload_n 0, 1) := by decide +kernel
theorem dC_spare_54 : decode bC_spare 54 = .ok (.getfield 29, 3) := by decide +kernel
theorem dC_spare_57 : decode bC_spare 57 = .ok (.getfield 171, 3) := by decide +kernel
theorem dC_spare_60 : decode bC_spare 60 = .ok (.iload_n 1, 1) := by decide +kernel
theorem dC_spare_61 : decode bC_spare 61 = .ok (.invokevirtual 225, 3) := by decide +kernel
theorem dC_spare_64 : decode bC_spare 64 = .ok (.bipush (-9), 2) := by decide +kernel
theorem dC_spare_66 : decode bC_spare 66 = .ok (.if_icmp .ne 5, 3) := by decide +kernel
theorem dC_spare_69 : decode bC_spare 69 = .ok (.iload_n 2, 1) := by decide +kernel
theorem dC_spare_70 : decode bC_spare 70 = .ok (.ireturn, 1) := by decide +kernel
theorem dC_spare_71 : decode bC_spare 71 = .ok (.iinc 2 1, 3) := by decide +kernel
theorem dC_spare_74 : decode bC_spare 74 = .ok (.goto (-50), 3) := by decide +kernel
theorem dC_spare_77 : decode bC_spare 77 = .ok (.bipush (-9), 2) := by decide +kernel
theorem dC_spare_79 : decode bC_spare 79 = .ok (.ireturn, 1) := by decide +kernel
def f_C_spare_24 (n : Nat) (k0 : Int32 → mb_T → Option (Int32 × mb_T)) (k1 : Int32 → mb_T → Option (Int32 × mb_T)) (y1 : Int32) : Nat → Int32 → mb_T → Option (Int32 × mb_T)
  | 0, _, _ => none
  | f + 1, w2, s => if 99 < w2 then k1 w2 s else mb_cw (f_A_begin n 100 s) fun s_7 => mb_bd (sF s_7 40 2 w2) fun s_9 => mb_cl (f_A_howLong n (s_9.1 100 2) y1 s_9) fun r_13 s_11 => if r_13 = (-9) then k0 w2 s_11 else f_C_spare_24 n k0 k1 y1 f (w2 + 1) s_11
def f_C_spare (n : Nat) (x1 : Int32) (s : mb_T) : Option (Int32 × mb_T) := mb_cl (f_C_isSpan n x1 s) fun r_3 s_1 => if r_3 = 0 then some ((-1), s_1) else if (s_1.1 100 0) = 0 then some ((-4), s_1) else f_C_spare_24 n (fun x_15 s_16 => some (x_15, s_16)) (fun x_17 s_18 => some ((-9), s_18)) x1 n 0 s_1
set_option maxHeartbeats 4000000 in
set_option maxRecDepth 100000 in
theorem tl_C_spare_24 {dd n : Nat} {K : mj_KT} {out : Int32 × mb_T} (hK : mj_C (dd + 7) 0 0 RC_c "spare" bC_spare 3 K) (hR : mj_R bC_spare (some .int) (fun r2 S2 => r2 = some (.int out.1) ∧ S2 = mb_s out.2) K) {k0 : Int32 → mb_T → Option (Int32 × mb_T)} {k1 : Int32 → mb_T → Option (Int32 × mb_T)} {y1 : Int32} (hk0 : ∀ (w2 : Int32) (s : mb_T), k0 w2 s = some out → K 0 0 69 [.ref 0, .int y1, .int w2] [] (mb_s s)) (hk1 : ∀ (w2 : Int32) (s : mb_T), k1 w2 s = some out → K 0 0 77 [.ref 0, .int y1, .int w2] [] (mb_s s)) : ∀ (f : Nat) (w2 : Int32) (s : mb_T), f_C_spare_24 n k0 k1 y1 f w2 s = some out → K 0 0 24 [.ref 0, .int y1, .int w2] [] (mb_s s) := by
  intro f
  induction f with
  | zero =>
    intro w2 s h
    cases h
  | succ f ih =>
    intro w2 s h
    rw [f_C_spare_24] at h
    refine ro_iload_n hK dC_spare_24 rfl ?_
    refine ro_bipush (x := 99) hK (by decide) dC_spare_25 ?_
    refine ro_icmp_gt (tgt := 77) hK dC_spare_27 (by decide) (fun c_6 => ?_) (fun c_6 => ?_)
    · replace h := mb_ift c_6 h
      refine ro_fg (lv' := [.ref 0, .int y1, .int w2]) hK ⟨Or.inr rfl, ⟨Or.inr rfl, ⟨Or.inr rfl, trivial⟩⟩⟩ ?_
      exact hk1 _ _ h
    · replace h := mb_iff c_6 h
      refine ro_aload_n hK dC_spare_30 rfl ?_
      refine rb_get hK fC_50 mb_oC rfl dC_spare_31 ?_
      refine ro_aload_n hK dC_spare_34 rfl ?_
      refine rb_get hK fC_29 mb_oC rfl dC_spare_35 ?_
      obtain ⟨s_7, q_8, h⟩ := mb_cw_e h
      refine rb_callV hK mA_begin vC_144 (t_A_begin (dd := dd + 3) (Or.inl rfl) q_8) rfl mb_oA rfl (Nat.le_of_ble_eq_true rfl) dC_spare_38 rfl ⟨Nat.le_refl _, Nat.le_refl _⟩ ?_
      show K 0 0 41 [.ref 0, .int y1, .int w2] [] (mb_s s_7)
      refine ro_aload_n hK dC_spare_41 rfl ?_
      refine rb_get hK fC_50 mb_oC rfl dC_spare_42 ?_
      refine ro_iload_n hK dC_spare_45 rfl ?_
      obtain ⟨s_9, e_10, h⟩ := mb_bd_e h
      refine rb_put hK gC_286 mb_oA rfl (by show 2 < 17; decide) rfl rfl e_10 dC_spare_46 ?_
      refine ro_aload_n hK dC_spare_49 rfl ?_
      refine rb_get hK fC_50 mb_oC rfl dC_spare_50 ?_
      refine ro_aload_n hK dC_spare_53 rfl ?_
      refine rb_get hK fC_29 mb_oC rfl dC_spare_54 ?_
      refine rb_get hK fC_171 (mb_cvo (Or.inl rfl)) rfl dC_spare_57 ?_
      refine ro_iload_n hK dC_spare_60 rfl ?_
      obtain ⟨r_13, s_11, q_12, h⟩ := mb_cl_e h
      refine rb_callV hK mA_howLong vC_225 (t_A_howLong (dd := dd + 0) q_12) rfl mb_oA rfl (Nat.le_of_ble_eq_true rfl) dC_spare_61 rfl ⟨Nat.le_refl _, Nat.le_refl _⟩ ?_
      show K 0 0 64 [.ref 0, .int y1, .int w2] [.int r_13] (mb_s s_11)
      refine ro_bipush (x := (-9)) hK (by decide) dC_spare_64 ?_
      refine ro_icmp_ne (tgt := 71) hK dC_spare_66 (by decide) (fun c_14 => ?_) (fun c_14 => ?_)
      · replace h := mb_iff c_14 h
        refine ro_iincv (c := 1) hK (by decide) dC_spare_71 rfl (by decide) ?_
        show K 0 0 74 [.ref 0, .int y1, .int (w2 + 1)] [] (mb_s s_11)
        refine ro_goto (tgt := 24) hK dC_spare_74 (by decide) ?_
        refine ro_fg (lv' := [.ref 0, .int y1, .int (w2 + 1)]) hK ⟨Or.inr rfl, ⟨Or.inr rfl, ⟨Or.inr rfl, trivial⟩⟩⟩ ?_
        exact ih _ _ h
      · replace h := mb_ift c_14 h
        refine ro_fg (lv' := [.ref 0, .int y1, .int w2]) hK ⟨Or.inr rfl, ⟨Or.inr rfl, ⟨Or.inr rfl, trivial⟩⟩⟩ ?_
        exact hk0 _ _ h
set_option maxHeartbeats 4000000 in
set_option maxRecDepth 100000 in
theorem t_C_spare {dd n : Nat} {x1 : Int32} {s : mb_T} {out : Int32 × mb_T}  (h : f_C_spare n x1 s = some out) : mb_MC (dd + 7) yC_spare bC_spare 3 (some .int) [.ref 0, .int x1] s (some (.int out.1)) out.2 := by
  unfold f_C_spare at h
  refine mj_mc (lv := [.ref 0, .int x1, .retAddr 0]) mC_spare rfl rfl (Nat.le_of_ble_eq_true rfl) (fun K hK hR => ?_)
  have hK : mj_C (dd + 7) 0 0 RC_c "spare" bC_spare 3 K := hK
  refine ro_iload_n hK dC_spare_0 rfl ?_
  obtain ⟨r_3, s_1, q_2, h⟩ := mb_cl_e h
  refine rb_callS hK mC_isSpan vC_180 (t_C_isSpan (dd := dd + 5) q_2) rfl (Nat.le_of_ble_eq_true rfl) dC_spare_1 rfl ⟨Nat.le_refl _, Nat.le_refl _⟩ ?_
  show K 0 0 4 [.ref 0, .int x1, .retAddr 0] [.int r_3] (mb_s s_1)
  refine ro_if_ne (tgt := 9) hK dC_spare_4 (by decide) (fun c_4 => ?_) (fun c_4 => ?_)
  · replace h := mb_iff c_4 h
    refine ro_aload_n hK dC_spare_9 rfl ?_
    refine rb_get hK fC_29 mb_oC rfl dC_spare_10 ?_
    refine rb_get hK fC_128 (mb_cvo (Or.inl rfl)) rfl dC_spare_13 ?_
    refine ro_if_ne (tgt := 22) hK dC_spare_16 (by decide) (fun c_5 => ?_) (fun c_5 => ?_)
    · replace h := mb_iff c_5 h
      refine ro_iconst (x := 0) hK (by decide) dC_spare_22 ?_
      refine ro_istore_n hK dC_spare_23 (by decide) ?_
      show K 0 0 24 [.ref 0, .int x1, .int 0] [] (mb_s s_1)
      refine ro_fg (lv' := [.ref 0, .int x1, .int 0]) hK ⟨Or.inr rfl, ⟨Or.inr rfl, ⟨Or.inr rfl, trivial⟩⟩⟩ ?_
      refine tl_C_spare_24 (dd := dd) hK hR (fun x_15 s_16 h => ?_) (fun x_17 s_18 h => ?_) n _ _ h
      · skip
        refine ro_iload_n hK dC_spare_69 rfl ?_
        cases h
        exact hR.1 0 0 70 _ _ _ _ rfl rfl dC_spare_70 ⟨rfl, rfl⟩
      · skip
        refine ro_bipush (x := (-9)) hK (by decide) dC_spare_77 ?_
        cases h
        exact hR.1 0 0 79 _ _ _ _ rfl rfl dC_spare_79 ⟨rfl, rfl⟩
    · replace h := mb_ift c_5 h
      refine ro_bipush (x := (-4)) hK (by decide) dC_spare_19 ?_
      cases h
      exact hR.1 0 0 21 _ _ _ _ rfl rfl dC_spare_21 ⟨rfl, rfl⟩
  · replace h := mb_ift c_4 h
    refine ro_iconst (x := (-1)) hK (by decide) dC_spare_7 ?_
    cases h
    exact hR.1 0 0 8 _ _ _ _ rfl rfl dC_spare_8 ⟨rfl, rfl⟩
theorem dM_swap_0 : decode bM_swap 0 = .ok (.aload_n 0, 1) := by decide +kernel
theorem dM_swap_1 : decode bM_swap 1 = .ok (.getfield 161, 3) := by decide +kernel
theorem dM_swap_4 : decode bM_swap 4 = .ok (.ifCond .ne 6, 3) := by decide +kernel
theorem dM_swap_7 : decode bM_swap 7 = .ok (.bipush (-4), 2) := by decide +kernel
theorem dM_swap_9 : decode bM_swap 9 = .ok (.ireturn, 1) := by decide +kernel
theorem dM_swap_10 : decode bM_swap 10 = .ok (.bipush (-9), 2) := by decide +kernel
theorem dM_swap_12 : decode bM_swap 12 = .ok (.istore_n 1, 1) := by decide +kernel
theorem dM_swap_13 : decode bM_swap 13 = .ok (.aload_n 0, 1) := by decide +kernel
theorem dM_swap_14 : decode bM_swap 14 = .ok (.aload_n 0, 1) := by decide +kernel
theorem dM_swap_15 : decode bM_swap 15 = .ok (.getfield 167, 3) := by decide +kernel
theorem dM_swap_18 : decode bM_swap 18 = .ok (.invokevirtual 231, 3) := by decide +kernel
theorem dM_swap_21 : decode bM_swap 21 = .ok (.istore_n 2, 1) := by decide +kernel
theorem dM_swap_22 : decode bM_swap 22 = .ok (.iconst 0, 1) := by decide +kernel
theorem dM_swap_23 : decode bM_swap 23 = .ok (.istore_n 3, 1) := by decide +kernel
theorem dM_swap_24 : decode bM_swap 24 = .ok (.iload_n 3, 1) := by decide +kernel
theorem dM_swap_25 : decode bM_swap 25 = .ok (.aload_n 0, 1) := by decide +kernel
theorem dM_swap_26 : decode bM_swap 26 = .ok (.getfield 161, 3) := by decide +kernel
theorem dM_swap_29 : decode bM_swap 29 = .ok (.if_icmp .ge 107, 3) := by decide +kernel
theorem dM_swap_32 : decode bM_swap 32 = .ok (.iload_n 3, 1) := by decide +kernel
theorem dM_swap_33 : decode bM_swap 33 = .ok (.iconst 1, 1) := by decide +kernel
theorem dM_swap_34 : decode bM_swap 34 = .ok (.iadd, 1) := by decide +kernel
theorem dM_swap_35 : decode bM_swap 35 = .ok (.istore 4, 2) := by decide +kernel
theorem dM_swap_37 : decode bM_swap 37 = .ok (.iload 4, 2) := by decide +kernel
theorem dM_swap_39 : decode bM_swap 39 = .ok (.aload_n 0, 1) := by decide +kernel
theorem dM_swap_40 : decode bM_swap 40 = .ok (.getfield 161, 3) := by decide +kernel
theorem dM_swap_43 : decode bM_swap 43 = .ok (.if_icmp .ge 87, 3) := by decide +kernel
theorem dM_swap_46 : decode bM_swap 46 = .ok (.iconst 0, 1) := by decide +kernel
theorem dM_swap_47 : decode bM_swap 47 = .ok (.istore 5, 2) := by decide +kernel
theorem dM_swap_49 : decode bM_swap 49 = .ok (.iload 5, 2) := by decide +kernel
theorem dM_swap_51 : decode bM_swap 51 = .ok (.aload_n 0, 1) := by decide +kernel
theorem dM_swap_52 : decode bM_swap 52 = .ok (.getfield 161, 3) := by decide +kernel
theorem dM_swap_55 : decode bM_swap 55 = .ok (.if_icmp .ge 40, 3) := by decide +kernel
theorem dM_swap_58 : decode bM_swap 58 = .ok (.aload_n 0, 1) := by decide +kernel
theorem dM_swap_59 : decode bM_swap 59 = .ok (.getfield 80, 3) := by decide +kernel
theorem dM_swap_62 : decode bM_swap 62 = .ok (.iload 5, 2) := by decide +kernel
theorem dM_swap_64 : decode bM_swap 64 = .ok (.iload 5, 2) := by decide +kernel
theorem dM_swap_66 : decode bM_swap 66 = .ok (.iload_n 3, 1) := by decide +kernel
theorem dM_swap_67 : decode bM_swap 67 = .ok (.if_icmp .ne 8, 3) := by decide +kernel
theorem dM_swap_70 : decode bM_swap 70 = .ok (.iload 4, 2) := by decide +kernel
theorem dM_swap_72 : decode bM_swap 72 = .ok (.goto 16, 3) := by decide +kernel
theorem dM_swap_75 : decode bM_swap 75 = .ok (.iload 5, 2) := by decide +kernel
theorem dM_swap_77 : decode bM_swap 77 = .ok (.iload 4, 2) := by decide +kernel
theorem dM_swap_79 : decode bM_swap 79 = .ok (.if_icmp .ne 7, 3) := by decide +kernel
theorem dM_swap_82 : decode bM_swap 82 = .ok (.iload_n 3, 1) := by decide +kernel
theorem dM_swap_83 : decode bM_swap 83 = .ok (.goto 5, 3) := by decide +kernel
theorem dM_swap_86 : decode bM_swap 86 = .ok (.iload 5, 2) := by decide +kernel
theorem dM_swap_88 : decode bM_swap 88 = .ok (.iastore, 1) := by decide +kernel
theorem dM_swap_89 : decode bM_swap 89 = .ok (.iinc 5 1, 3) := by decide +kernel
theorem dM_swap_92 : decode bM_swap 92 = .ok (.goto (-43), 3) := by decide +kernel
theorem dM_swap_95 : decode bM_swap 95 = .ok (.aload_n 0, 1) := by decide +kernel
theorem dM_swap_96 : decode bM_swap 96 = .ok (.invokevirtual 284, 3) := by decide +kernel
theorem dM_swap_99 : decode bM_swap 99 = .ok (.istore 5, 2) := by decide +kernel
theorem dM_swap_101 : decode bM_swap 101 = .ok (.iload 5, 2) := by decide +kernel
theorem dM_swap_103 : decode bM_swap 103 = .ok (.invokestatic 235, 3) := by decide +kernel
theorem dM_swap_106 : decode bM_swap 106 = .ok (.iload_n 2, 1) := by decide +kernel
theorem dM_swap_107 : decode bM_swap 107 = .ok (.invokestatic 235, 3) := by decide +kernel
theorem dM_swap_110 : decode bM_swap 110 = .ok (.if_icmp .le 14, 3) := by decide +kernel
theorem dM_swap_113 : decode bM_swap 113 = .ok (.bipush 10, 2) := by decide +kernel
theorem dM_swap_115 : decode bM_swap 115 = .ok (.iload_n 3, 1) := by decide +kernel
theorem dM_swap_116 : decode bM_swap 116 = .ok (.imul, 1) := by decide +kernel
theorem dM_swap_117 : decode bM_swap 117 = .ok (.iload 4, 2) := by decide +kernel
theorem dM_swap_119 : decode bM_swap 119 = .ok (.iadd, 1) := by decide +kernel
theorem dM_swap_120 : decode bM_swap 120 = .ok (.istore_n 1, 1) := by decide +kernel
theorem dM_swap_121 : decode bM_swap 121 = .ok (.iload 5, 2) := by decide +kernel
theorem dM_swap_123 : decode bM_swap 123 = .ok (.istore_n 2, 1) := by decide +kernel
theorem dM_swap_124 : decode bM_swap 124 = .ok (.iinc 4 1, 3) := by decide +kernel
theorem dM_swap_127 : decode bM_swap 127 = .ok (.goto (-90), 3) := by decide +kernel
theorem dM_swap_130 : decode bM_swap 130 = .ok (.iinc 3 1, 3) := by decide +kernel
theorem dM_swap_133 : decode bM_swap 133 = .ok (.goto (-109), 3) := by decide +kernel
theorem dM_swap_136 : decode bM_swap 136 = .ok (.iload_n 1, 1) := by decide +kernel
theorem dM_swap_137 : decode bM_swap 137 = .ok (.bipush (-9), 2) := by decide +kernel
theorem dM_swap_139 : decode bM_swap 139 = .ok (.if_icmp .ne 8, 3) := by decide +kernel
theorem dM_swap_142 : decode bM_swap 142 = .ok (.bipush (-9), 2) := by decide +kernel
theorem dM_swap_144 : decode bM_swap 144 = .ok (.goto 9, 3) := by decide +kernel
theorem dM_swap_147 : decode bM_swap 147 = .ok (.aload_n 0, 1) := by decide +kernel
theorem dM_swap_148 : decode bM_swap 148 = .ok (.iload_n 2, 1) := by decide +kernel
theorem dM_swap_149 : decode bM_swap 149 = .ok (.iload_n 1, 1) := by decide +kernel
theorem dM_swap_150 : decode bM_swap 150 = .ok (.invokevirtual 118, 3) := by decide +kernel
theorem dM_swap_153 : decode bM_swap 153 = .ok (.ireturn, 1) := by decide +kernel
def f_M_swap_49 (n : Nat) (k0 : Int32 → mb_T → Option (Int32 × mb_T)) (y1 : Int32) (y2 : Int32) (y3 : Int32) (y4 : Int32) : Nat → Int32 → mb_T → Option (Int32 × mb_T)
  | 0, _, _ => none
  | f + 1, w5, s => if (s.1 200 8) ≤ w5 then k0 w5 s else mb_wr s 239 5 w5 (if w5 = y3 then y4 else (if w5 = y4 then y3 else w5 : Int32) : Int32) fun s_11 => f_M_swap_49 n k0 y1 y2 y3 y4 f (w5 + 1) s_11
def f_M_swap_37 (n : Nat) (k0 : Int32 → Int32 → Int32 → mb_T → Option (Int32 × mb_T)) (y3 : Int32) : Nat → Int32 → Int32 → Int32 → mb_T → Option (Int32 × mb_T)
  | 0, _, _, _, _ => none
  | f + 1, w1, w2, w4, s => if (s.1 200 8) ≤ w4 then k0 w1 w2 w4 s else f_M_swap_49 n (fun x_14 s_15 => mb_cl (f_M_holdsSo n s_15) fun r_18 s_16 => mb_cl (f_M_longBy n r_18 s_16) fun r_21 s_19 => mb_cl (f_M_longBy n w2 s_19) fun r_24 s_22 => if r_21 ≤ r_24 then f_M_swap_37 n k0 y3 f w1 w2 (w4 + 1) s_22 else f_M_swap_37 n k0 y3 f ((10 * y3) + w4) r_18 (w4 + 1) s_22) w1 w2 y3 w4 n 0 s
def f_M_swap_24 (n : Nat) (k0 : Int32 → Int32 → Int32 → mb_T → Option (Int32 × mb_T))  : Nat → Int32 → Int32 → Int32 → mb_T → Option (Int32 × mb_T)
  | 0, _, _, _, _ => none
  | f + 1, w1, w2, w3, s => if (s.1 200 8) ≤ w3 then k0 w1 w2 w3 s else f_M_swap_37 n (fun x_26 x_27 x_28 s_29 => f_M_swap_24 n k0 f x_26 x_27 (w3 + 1) s_29) w3 n w1 w2 (w3 + 1) s
def f_M_swap (n : Nat)  (s : mb_T) : Option (Int32 × mb_T) := if (s.1 200 8) = 0 then some ((-4), s) else mb_cl (f_M_holdsOf n (s.1 200 10) s) fun r_4 s_2 => f_M_swap_24 n (fun x_30 x_31 x_32 s_33 => if x_30 = (-9) then some ((-9), s_33) else mb_cl (f_M_ask n x_31 x_30 s_33) fun r_37 s_35 => some (r_37, s_35)) n (-9) r_4 0 s_2
set_option maxHeartbeats 4000000 in
set_option maxRecDepth 100000 in
theorem tl_M_swap_49 {dd n : Nat} {K : mj_KT} {out : Int32 × mb_T} (hK : mj_C (dd + 7) 0 0 RM_c "swap" bM_swap 6 K) (hR : mj_R bM_swap (some .int) (fun r2 S2 => r2 = some (.int out.1) ∧ S2 = mb_s out.2) K) {k0 : Int32 → mb_T → Option (Int32 × mb_T)} {y1 : Int32} {y2 : Int32} {y3 : Int32} {y4 : Int32} (hk0 : ∀ (w5 : Int32) (s : mb_T), k0 w5 s = some out → K 0 0 95 [.ref 200, .int y1, .int y2, .int y3, .int y4, .int w5] [] (mb_s s)) : ∀ (f : Nat) (w5 : Int32) (s : mb_T), f_M_swap_49 n k0 y1 y2 y3 y4 f w5 s = some out → K 0 0 49 [.ref 200, .int y1, .int y2, .int y3, .int y4, .int w5] [] (mb_s s) := by
  intro f
  induction f with
  | zero =>
    intro w5 s h
    cases h
  | succ f ih =>
    intro w5 s h
    rw [f_M_swap_49] at h
    refine ro_iload hK dM_swap_49 rfl ?_
    refine ro_aload_n hK dM_swap_51 rfl ?_
    refine rb_get hK fM_161 mb_oM rfl dM_swap_52 ?_
    refine ro_icmp_ge (tgt := 95) hK dM_swap_55 (by decide) (fun c_7 => ?_) (fun c_7 => ?_)
    · replace h := mb_ift c_7 h
      refine ro_fg (lv' := [.ref 200, .int y1, .int y2, .int y3, .int y4, .int w5]) hK ⟨Or.inr rfl, ⟨Or.inr rfl, ⟨Or.inr rfl, ⟨Or.inr rfl, ⟨Or.inr rfl, ⟨Or.inr rfl, trivial⟩⟩⟩⟩⟩⟩ ?_
      exact hk0 _ _ h
    · replace h := mb_iff c_7 h
      refine ro_aload_n hK dM_swap_58 rfl ?_
      refine rb_get hK fM_80 mb_oM rfl dM_swap_59 ?_
      refine ro_iload hK dM_swap_62 rfl ?_
      refine ro_iload hK dM_swap_64 rfl ?_
      refine ro_iload_n hK dM_swap_66 rfl ?_
      have j_10 : ∀ w_ : Int32, w_ = (if w5 = y3 then y4 else (if w5 = y4 then y3 else w5 : Int32) : Int32) → K 0 0 88 [.ref 200, .int y1, .int y2, .int y3, .int y4, .int w5] [.int w_, .int w5, .ref 239] (mb_s s) → K 0 0 67 [.ref 200, .int y1, .int y2, .int y3, .int y4, .int w5] [.int y3, .int w5, .int w5, .ref 239] (mb_s s) := by
        intro w_ hw hj
        refine ro_icmp_ne (tgt := 75) hK dM_swap_67 (by decide) (fun c_8 => ?_) (fun c_8 => ?_)
        · skip
          refine ro_iload hK dM_swap_75 rfl ?_
          refine ro_iload hK dM_swap_77 rfl ?_
          refine ro_icmp_ne (tgt := 86) hK dM_swap_79 (by decide) (fun c_9 => ?_) (fun c_9 => ?_)
          · skip
            refine ro_iload hK dM_swap_86 rfl ?_
            have hw := ((hw.trans (if_neg c_8)).trans (if_neg c_9))
            subst hw
            exact hj
          · skip
            refine ro_iload_n hK dM_swap_82 rfl ?_
            refine ro_goto (tgt := 88) hK dM_swap_83 (by decide) ?_
            have hw := ((hw.trans (if_neg c_8)).trans (if_pos c_9))
            subst hw
            exact hj
        · skip
          refine ro_iload hK dM_swap_70 rfl ?_
          refine ro_goto (tgt := 88) hK dM_swap_72 (by decide) ?_
          have hw := (hw.trans (if_pos c_8))
          subst hw
          exact hj
      refine j_10 _ rfl ?_
      obtain ⟨s_11, e_12, i_13, h⟩ := mb_wr_e h
      refine rb_iast hK ai_239 i_13 e_12 dM_swap_88 ?_
      refine ro_iincv (c := 1) hK (by decide) dM_swap_89 rfl (by decide) ?_
      show K 0 0 92 [.ref 200, .int y1, .int y2, .int y3, .int y4, .int (w5 + 1)] [] (mb_s s_11)
      refine ro_goto (tgt := 49) hK dM_swap_92 (by decide) ?_
      refine ro_fg (lv' := [.ref 200, .int y1, .int y2, .int y3, .int y4, .int (w5 + 1)]) hK ⟨Or.inr rfl, ⟨Or.inr rfl, ⟨Or.inr rfl, ⟨Or.inr rfl, ⟨Or.inr rfl, ⟨Or.inr rfl, trivial⟩⟩⟩⟩⟩⟩ ?_
      exact ih _ _ h
set_option maxHeartbeats 4000000 in
set_option maxRecDepth 100000 in
theorem tl_M_swap_37 {dd n : Nat} {K : mj_KT} {out : Int32 × mb_T} (hK : mj_C (dd + 7) 0 0 RM_c "swap" bM_swap 6 K) (hR : mj_R bM_swap (some .int) (fun r2 S2 => r2 = some (.int out.1) ∧ S2 = mb_s out.2) K) {k0 : Int32 → Int32 → Int32 → mb_T → Option (Int32 × mb_T)} {y3 : Int32} (hk0 : ∀ (w1 : Int32) (w2 : Int32) (w4 : Int32) (s : mb_T), k0 w1 w2 w4 s = some out → K 0 0 130 [.ref 200, .int w1, .int w2, .int y3, .int w4, .retAddr 0] [] (mb_s s)) : ∀ (f : Nat) (w1 : Int32) (w2 : Int32) (w4 : Int32) (s : mb_T), f_M_swap_37 n k0 y3 f w1 w2 w4 s = some out → K 0 0 37 [.ref 200, .int w1, .int w2, .int y3, .int w4, .retAddr 0] [] (mb_s s) := by
  intro f
  induction f with
  | zero =>
    intro w1 w2 w4 s h
    cases h
  | succ f ih =>
    intro w1 w2 w4 s h
    rw [f_M_swap_37] at h
    refine ro_iload hK dM_swap_37 rfl ?_
    refine ro_aload_n hK dM_swap_39 rfl ?_
    refine rb_get hK fM_161 mb_oM rfl dM_swap_40 ?_
    refine ro_icmp_ge (tgt := 130) hK dM_swap_43 (by decide) (fun c_6 => ?_) (fun c_6 => ?_)
    · replace h := mb_ift c_6 h
      refine ro_fg (lv' := [.ref 200, .int w1, .int w2, .int y3, .int w4, .retAddr 0]) hK ⟨Or.inr rfl, ⟨Or.inr rfl, ⟨Or.inr rfl, ⟨Or.inr rfl, ⟨Or.inr rfl, ⟨Or.inl rfl, trivial⟩⟩⟩⟩⟩⟩ ?_
      exact hk0 _ _ _ _ h
    · replace h := mb_iff c_6 h
      refine ro_iconst (x := 0) hK (by decide) dM_swap_46 ?_
      refine ro_istore hK dM_swap_47 (by decide) ?_
      show K 0 0 49 [.ref 200, .int w1, .int w2, .int y3, .int w4, .int 0] [] (mb_s s)
      refine ro_fg (lv' := [.ref 200, .int w1, .int w2, .int y3, .int w4, .int 0]) hK ⟨Or.inr rfl, ⟨Or.inr rfl, ⟨Or.inr rfl, ⟨Or.inr rfl, ⟨Or.inr rfl, ⟨Or.inr rfl, trivial⟩⟩⟩⟩⟩⟩ ?_
      refine tl_M_swap_49 (dd := dd) hK hR (fun x_14 s_15 h => ?_) n _ _ h
      refine ro_aload_n hK dM_swap_95 rfl ?_
      obtain ⟨r_18, s_16, q_17, h⟩ := mb_cl_e h
      refine rb_callV hK mM_holdsSo vM_284 (t_M_holdsSo (dd := dd + 0) q_17) rfl mb_oM rfl (Nat.le_of_ble_eq_true rfl) dM_swap_96 rfl ⟨Nat.le_refl _, Nat.le_refl _⟩ ?_
      show K 0 0 99 [.ref 200, .int w1, .int w2, .int y3, .int w4, .int x_14] [.int r_18] (mb_s s_16)
      refine ro_istore hK dM_swap_99 (by decide) ?_
      show K 0 0 101 [.ref 200, .int w1, .int w2, .int y3, .int w4, .int r_18] [] (mb_s s_16)
      refine ro_iload hK dM_swap_101 rfl ?_
      obtain ⟨r_21, s_19, q_20, h⟩ := mb_cl_e h
      refine rb_callS hK mM_longBy vM_235 (t_M_longBy (dd := dd + 5) q_20) rfl (Nat.le_of_ble_eq_true rfl) dM_swap_103 rfl ⟨Nat.le_refl _, Nat.le_refl _⟩ ?_
      show K 0 0 106 [.ref 200, .int w1, .int w2, .int y3, .int w4, .int r_18] [.int r_21] (mb_s s_19)
      refine ro_iload_n hK dM_swap_106 rfl ?_
      obtain ⟨r_24, s_22, q_23, h⟩ := mb_cl_e h
      refine rb_callS hK mM_longBy vM_235 (t_M_longBy (dd := dd + 5) q_23) rfl (Nat.le_of_ble_eq_true rfl) dM_swap_107 rfl ⟨Nat.le_refl _, Nat.le_refl _⟩ ?_
      show K 0 0 110 [.ref 200, .int w1, .int w2, .int y3, .int w4, .int r_18] [.int r_24, .int r_21] (mb_s s_22)
      refine ro_icmp_le (tgt := 124) hK dM_swap_110 (by decide) (fun c_25 => ?_) (fun c_25 => ?_)
      · replace h := mb_ift c_25 h
        refine ro_iincv (c := 1) hK (by decide) dM_swap_124 rfl (by decide) ?_
        show K 0 0 127 [.ref 200, .int w1, .int w2, .int y3, .int (w4 + 1), .int r_18] [] (mb_s s_22)
        refine ro_goto (tgt := 37) hK dM_swap_127 (by decide) ?_
        refine ro_fg (lv' := [.ref 200, .int w1, .int w2, .int y3, .int (w4 + 1), .retAddr 0]) hK ⟨Or.inr rfl, ⟨Or.inr rfl, ⟨Or.inr rfl, ⟨Or.inr rfl, ⟨Or.inr rfl, ⟨Or.inl rfl, trivial⟩⟩⟩⟩⟩⟩ ?_
        exact ih _ _ _ _ h
      · replace h := mb_iff c_25 h
        refine ro_bipush (x := 10) hK (by decide) dM_swap_113 ?_
        refine ro_iload_n hK dM_swap_115 rfl ?_
        refine ro_imul hK dM_swap_116 ?_
        refine ro_iload hK dM_swap_117 rfl ?_
        refine ro_iadd hK dM_swap_119 ?_
        refine ro_istore_n hK dM_swap_120 (by decide) ?_
        show K 0 0 121 [.ref 200, .int ((10 * y3) + w4), .int w2, .int y3, .int w4, .int r_18] [] (mb_s s_22)
        refine ro_iload hK dM_swap_121 rfl ?_
        refine ro_istore_n hK dM_swap_123 (by decide) ?_
        show K 0 0 124 [.ref 200, .int ((10 * y3) + w4), .int r_18, .int y3, .int w4, .int r_18] [] (mb_s s_22)
        refine ro_iincv (c := 1) hK (by decide) dM_swap_124 rfl (by decide) ?_
        show K 0 0 127 [.ref 200, .int ((10 * y3) + w4), .int r_18, .int y3, .int (w4 + 1), .int r_18] [] (mb_s s_22)
        refine ro_goto (tgt := 37) hK dM_swap_127 (by decide) ?_
        refine ro_fg (lv' := [.ref 200, .int ((10 * y3) + w4), .int r_18, .int y3, .int (w4 + 1), .retAddr 0]) hK ⟨Or.inr rfl, ⟨Or.inr rfl, ⟨Or.inr rfl, ⟨Or.inr rfl, ⟨Or.inr rfl, ⟨Or.inl rfl, trivial⟩⟩⟩⟩⟩⟩ ?_
        exact ih _ _ _ _ h
set_option maxHeartbeats 4000000 in
set_option maxRecDepth 100000 in
theorem tl_M_swap_24 {dd n : Nat} {K : mj_KT} {out : Int32 × mb_T} (hK : mj_C (dd + 7) 0 0 RM_c "swap" bM_swap 6 K) (hR : mj_R bM_swap (some .int) (fun r2 S2 => r2 = some (.int out.1) ∧ S2 = mb_s out.2) K) {k0 : Int32 → Int32 → Int32 → mb_T → Option (Int32 × mb_T)}  (hk0 : ∀ (w1 : Int32) (w2 : Int32) (w3 : Int32) (s : mb_T), k0 w1 w2 w3 s = some out → K 0 0 136 [.ref 200, .int w1, .int w2, .int w3, .retAddr 0, .retAddr 0] [] (mb_s s)) : ∀ (f : Nat) (w1 : Int32) (w2 : Int32) (w3 : Int32) (s : mb_T), f_M_swap_24 n k0 f w1 w2 w3 s = some out → K 0 0 24 [.ref 200, .int w1, .int w2, .int w3, .retAddr 0, .retAddr 0] [] (mb_s s) := by
  intro f
  induction f with
  | zero =>
    intro w1 w2 w3 s h
    cases h
  | succ f ih =>
    intro w1 w2 w3 s h
    rw [f_M_swap_24] at h
    refine ro_iload_n hK dM_swap_24 rfl ?_
    refine ro_aload_n hK dM_swap_25 rfl ?_
    refine rb_get hK fM_161 mb_oM rfl dM_swap_26 ?_
    refine ro_icmp_ge (tgt := 136) hK dM_swap_29 (by decide) (fun c_5 => ?_) (fun c_5 => ?_)
    · replace h := mb_ift c_5 h
      refine ro_fg (lv' := [.ref 200, .int w1, .int w2, .int w3, .retAddr 0, .retAddr 0]) hK ⟨Or.inr rfl, ⟨Or.inr rfl, ⟨Or.inr rfl, ⟨Or.inr rfl, ⟨Or.inl rfl, ⟨Or.inl rfl, trivial⟩⟩⟩⟩⟩⟩ ?_
      exact hk0 _ _ _ _ h
    · replace h := mb_iff c_5 h
      refine ro_iload_n hK dM_swap_32 rfl ?_
      refine ro_iconst (x := 1) hK (by decide) dM_swap_33 ?_
      refine ro_iadd hK dM_swap_34 ?_
      refine ro_istore hK dM_swap_35 (by decide) ?_
      show K 0 0 37 [.ref 200, .int w1, .int w2, .int w3, .int (w3 + 1), .retAddr 0] [] (mb_s s)
      refine ro_fg (lv' := [.ref 200, .int w1, .int w2, .int w3, .int (w3 + 1), .retAddr 0]) hK ⟨Or.inr rfl, ⟨Or.inr rfl, ⟨Or.inr rfl, ⟨Or.inr rfl, ⟨Or.inr rfl, ⟨Or.inl rfl, trivial⟩⟩⟩⟩⟩⟩ ?_
      refine tl_M_swap_37 (dd := dd) hK hR (fun x_26 x_27 x_28 s_29 h => ?_) n _ _ _ _ h
      refine ro_iincv (c := 1) hK (by decide) dM_swap_130 rfl (by decide) ?_
      show K 0 0 133 [.ref 200, .int x_26, .int x_27, .int (w3 + 1), .int x_28, .retAddr 0] [] (mb_s s_29)
      refine ro_goto (tgt := 24) hK dM_swap_133 (by decide) ?_
      refine ro_fg (lv' := [.ref 200, .int x_26, .int x_27, .int (w3 + 1), .retAddr 0, .retAddr 0]) hK ⟨Or.inr rfl, ⟨Or.inr rfl, ⟨Or.inr rfl, ⟨Or.inr rfl, ⟨Or.inl rfl, ⟨Or.inl rfl, trivial⟩⟩⟩⟩⟩⟩ ?_
      exact ih _ _ _ _ h
set_option maxHeartbeats 4000000 in
set_option maxRecDepth 100000 in
theorem t_M_swap {dd n : Nat}  {s : mb_T} {out : Int32 × mb_T}  (h : f_M_swap n  s = some out) : mb_MC (dd + 7) yM_swap bM_swap 6 (some .int) [.ref 200] s (some (.int out.1)) out.2 := by
  unfold f_M_swap at h
  refine mj_mc (lv := [.ref 200, .retAddr 0, .retAddr 0, .retAddr 0, .retAddr 0, .retAddr 0]) mM_swap rfl rfl (Nat.le_of_ble_eq_true rfl) (fun K hK hR => ?_)
  have hK : mj_C (dd + 7) 0 0 RM_c "swap" bM_swap 6 K := hK
  refine ro_aload_n hK dM_swap_0 rfl ?_
  refine rb_get hK fM_161 mb_oM rfl dM_swap_1 ?_
  refine ro_if_ne (tgt := 10) hK dM_swap_4 (by decide) (fun c_1 => ?_) (fun c_1 => ?_)
  · replace h := mb_iff c_1 h
    refine ro_bipush (x := (-9)) hK (by decide) dM_swap_10 ?_
    refine ro_istore_n hK dM_swap_12 (by decide) ?_
    show K 0 0 13 [.ref 200, .int (-9), .retAddr 0, .retAddr 0, .retAddr 0, .retAddr 0] [] (mb_s s)
    refine ro_aload_n hK dM_swap_13 rfl ?_
    refine ro_aload_n hK dM_swap_14 rfl ?_
    refine rb_get hK fM_167 mb_oM rfl dM_swap_15 ?_
    obtain ⟨r_4, s_2, q_3, h⟩ := mb_cl_e h
    refine rb_callV hK mM_holdsOf vM_231 (t_M_holdsOf (dd := dd + 1) q_3) rfl mb_oM rfl (Nat.le_of_ble_eq_true rfl) dM_swap_18 rfl ⟨Nat.le_refl _, Nat.le_refl _⟩ ?_
    show K 0 0 21 [.ref 200, .int (-9), .retAddr 0, .retAddr 0, .retAddr 0, .retAddr 0] [.int r_4] (mb_s s_2)
    refine ro_istore_n hK dM_swap_21 (by decide) ?_
    show K 0 0 22 [.ref 200, .int (-9), .int r_4, .retAddr 0, .retAddr 0, .retAddr 0] [] (mb_s s_2)
    refine ro_iconst (x := 0) hK (by decide) dM_swap_22 ?_
    refine ro_istore_n hK dM_swap_23 (by decide) ?_
    show K 0 0 24 [.ref 200, .int (-9), .int r_4, .int 0, .retAddr 0, .retAddr 0] [] (mb_s s_2)
    refine ro_fg (lv' := [.ref 200, .int (-9), .int r_4, .int 0, .retAddr 0, .retAddr 0]) hK ⟨Or.inr rfl, ⟨Or.inr rfl, ⟨Or.inr rfl, ⟨Or.inr rfl, ⟨Or.inl rfl, ⟨Or.inl rfl, trivial⟩⟩⟩⟩⟩⟩ ?_
    refine tl_M_swap_24 (dd := dd) hK hR (fun x_30 x_31 x_32 s_33 h => ?_) n _ _ _ _ h
    refine ro_iload_n hK dM_swap_136 rfl ?_
    refine ro_bipush (x := (-9)) hK (by decide) dM_swap_137 ?_
    refine ro_icmp_ne (tgt := 147) hK dM_swap_139 (by decide) (fun c_34 => ?_) (fun c_34 => ?_)
    · replace h := mb_iff c_34 h
      refine ro_aload_n hK dM_swap_147 rfl ?_
      refine ro_iload_n hK dM_swap_148 rfl ?_
      refine ro_iload_n hK dM_swap_149 rfl ?_
      obtain ⟨r_37, s_35, q_36, h⟩ := mb_cl_e h
      refine rb_callV hK mM_ask vM_118 (t_M_ask (dd := dd + 5) q_36) rfl mb_oM rfl (Nat.le_of_ble_eq_true rfl) dM_swap_150 rfl ⟨Nat.le_refl _, Nat.le_refl _⟩ ?_
      show K 0 0 153 [.ref 200, .int x_30, .int x_31, .int x_32, .retAddr 0, .retAddr 0] [.int r_37] (mb_s s_35)
      cases h
      exact hR.1 0 0 153 _ _ _ _ rfl rfl dM_swap_153 ⟨rfl, rfl⟩
    · replace h := mb_ift c_34 h
      refine ro_bipush (x := (-9)) hK (by decide) dM_swap_142 ?_
      refine ro_goto (tgt := 153) hK dM_swap_144 (by decide) ?_
      cases h
      exact hR.1 0 0 153 _ _ _ _ rfl rfl dM_swap_153 ⟨rfl, rfl⟩
  · replace h := mb_ift c_1 h
    refine ro_bipush (x := (-4)) hK (by decide) dM_swap_7 ?_
    cases h
    exact hR.1 0 0 9 _ _ _ _ rfl rfl dM_swap_9 ⟨rfl, rfl⟩
theorem dC_order_0 : decode bC_order 0 = .ok (.iload_n 1, 1) := by decide +kernel
theorem dC_order_1 : decode bC_order 1 = .ok (.invokestatic 83, 3) := by decide +kernel
theorem dC_order_4 : decode bC_order 4 = .ok (.ifCond .ne 5, 3) := by decide +kernel
theorem dC_order_7 : decode bC_order 7 = .ok (.iconst (-1), 1) := by decide +kernel
theorem dC_order_8 : decode bC_order 8 = .ok (.ireturn, 1) := by decide +kernel
theorem dC_order_9 : decode bC_order 9 = .ok (.aload_n 0, 1) := by decide +kernel
theorem dC_order_10 : decode bC_order 10 = .ok (.getfield 29, 3) := by decide +kernel
theorem dC_order_13 : decode bC_order 13 = .ok (.getfield 128, 3) := by decide +kernel
theorem dC_order_16 : decode bC_order 16 = .ok (.ifCond .ne 6, 3) := by decide +kernel
theorem dC_order_19 : decode bC_order 19 = .ok (.bipush (-4), 2) := by decide +kernel
theorem dC_order_21 : decode bC_order 21 = .ok (.ireturn, 1) := by decide +kernel
theorem dC_order_22 : decode bC_order 22 = .ok (.aload_n 0, 1) := by decide +kernel
theorem dC_order_23 : decode bC_order 23 = .ok (.invokevirtual 273, 3) := by decide +kernel
theorem dC_order_26 : decode bC_order 26 = .ok (.aload_n 0, 1) := by decide +kernel
theorem dC_order_27 : decode bC_order 27 = .ok (.invokevirtual 276, 3) := by decide +kernel
theorem dC_order_30 : decode bC_order 30 = .ok (.istore_n 2, 1) := by decide +kernel
theorem dC_order_31 : decode bC_order 31 = .ok (.aload_n 0, 1) := by decide +kernel
theorem dC_order_32 : decode bC_order 32 = .ok (.getfield 61, 3) := by decide +kernel
theorem dC_order_35 : decode bC_order 35 = .ok (.iconst 0, 1) := by decide +kernel
theorem dC_order_36 : decode bC_order 36 = .ok (.aload_n 0, 1) := by decide +kernel
theorem dC_order_37 : decode bC_order 37 = .ok (.getfield 64, 3) := by decide +kernel
theorem dC_order_40 : decode bC_order 40 = .ok (.iconst 0, 1) := by decide +kernel
theorem dC_order_41 : decode bC_order 41 = .ok (.iconst 5, 1) := by decide +kernel
theorem dC_order_42 : decode bC_order 42 = .ok (.invokestatic 102, 3) := by decide +kernel
theorem dC_order_45 : decode bC_order 45 = .ok (.iconst 0, 1) := by decide +kernel
theorem dC_order_46 : decode bC_order 46 = .ok (.istore_n 3, 1) := by decide +kernel
theorem dC_order_47 : decode bC_order 47 = .ok (.iload_n 3, 1) := by decide +kernel
theorem dC_order_48 : decode bC_order 48 = .ok (.bipush 120, 2) := by decide +kernel
theorem dC_order_50 : decode bC_order 50 = .ok (.if_icmp .ge 48, 3) := by decide +kernel
theorem dC_order_53 : decode bC_order 53 = .ok (.aload_n 0, 1) := by decide +kernel
theorem dC_order_54 : decode bC_order 54 = .ok (.invokevirtual 279, 3) := by decide +kernel
theorem dC_order_57 : decode bC_order 57 = .ok (.ifCond .eq 41, 3) := by decide +kernel
theorem dC_order_60 : decode bC_order 60 = .ok (.aload_n 0, 1) := by decide +kernel
theorem dC_order_61 : decode bC_order 61 = .ok (.invokevirtual 276, 3) := by decide +kernel
theorem dC_order_64 : decode bC_order 64 = .ok (.istore 4, 2) := by decide +kernel
theorem dC_order_66 : decode bC_order 66 = .ok (.iload 4, 2) := by decide +kernel
theorem dC_order_68 : decode bC_order 68 = .ok (.iload_n 2, 1) := by decide +kernel
theorem dC_order_69 : decode bC_order 69 = .ok (.invokestatic 228, 3) := by decide +kernel
theorem dC_order_72 : decode bC_order 72 = .ok (.ifCond .eq 20, 3) := by decide +kernel
theorem dC_order_75 : decode bC_order 75 = .ok (.iload 4, 2) := by decide +kernel
theorem dC_order_77 : decode bC_order 77 = .ok (.istore_n 2, 1) := by decide +kernel
theorem dC_order_78 : decode bC_order 78 = .ok (.aload_n 0, 1) := by decide +kernel
theorem dC_order_79 : decode bC_order 79 = .ok (.getfield 61, 3) := by decide +kernel
theorem dC_order_82 : decode bC_order 82 = .ok (.iconst 0, 1) := by decide +kernel
theorem dC_order_83 : decode bC_order 83 = .ok (.aload_n 0, 1) := by decide +kernel
theorem dC_order_84 : decode bC_order 84 = .ok (.getfield 64, 3) := by decide +kernel
theorem dC_order_87 : decode bC_order 87 = .ok (.iconst 0, 1) := by decide +kernel
theorem dC_order_88 : decode bC_order 88 = .ok (.iconst 5, 1) := by decide +kernel
theorem dC_order_89 : decode bC_order 89 = .ok (.invokestatic 102, 3) := by decide +kernel
theorem dC_order_92 : decode bC_order 92 = .ok (.iinc 3 1, 3) := by decide +kernel
theorem dC_order_95 : decode bC_order 95 = .ok (.goto (-48), 3) := by decide +kernel
theorem dC_order_98 : decode bC_order 98 = .ok (.aload_n 0, 1) := by decide +kernel
theorem dC_order_99 : decode bC_order 99 = .ok (.iload_n 1, 1) := by decide +kernel
theorem dC_order_100 : decode bC_order 100 = .ok (.aload_n 0, 1) := by decide +kernel
theorem dC_order_101 : decode bC_order 101 = .ok (.getfield 64, 3) := by decide +kernel
theorem dC_order_104 : decode bC_order 104 = .ok (.aload_n 0, 1) := by decide +kernel
theorem dC_order_105 : decode bC_order 105 = .ok (.getfield 29, 3) := by decide +kernel
theorem dC_order_108 : decode bC_order 108 = .ok (.getfield 128, 3) := by decide +kernel
theorem dC_order_111 : decode bC_order 111 = .ok (.invokevirtual 262, 3) := by decide +kernel
theorem dC_order_114 : decode bC_order 114 = .ok (.iload_n 2, 1) := by decide +kernel
theorem dC_order_115 : decode bC_order 115 = .ok (.ireturn, 1) := by decide +kernel
def f_C_order_47 (n : Nat) (k0 : Int32 → Int32 → mb_T → Option (Int32 × mb_T)) (y1 : Int32) : Nat → Int32 → Int32 → mb_T → Option (Int32 × mb_T)
  | 0, _, _, _ => none
  | f + 1, w2, w3, s => if 120 ≤ w3 then k0 w2 w3 s else mb_cl (f_C_nextSeating n s) fun r_17 s_15 => if r_17 = 0 then k0 w2 w3 s_15 else mb_cl (f_C_holdingAsSeated n s_15) fun r_21 s_19 => mb_cl (f_C_isLonger n r_21 w2 s_19) fun r_24 s_22 => if r_24 = 0 then f_C_order_47 n k0 y1 f w2 (w3 + 1) s_22 else mb_cp s_22 10 5 11 5 0 0 5 fun s_26 => f_C_order_47 n k0 y1 f r_21 (w3 + 1) s_26
def f_C_order (n : Nat) (x1 : Int32) (s : mb_T) : Option (Int32 × mb_T) := mb_cl (f_C_isRow n x1 s) fun r_3 s_1 => if r_3 = 0 then some ((-1), s_1) else if (s_1.1 100 0) = 0 then some ((-4), s_1) else mb_cw (f_C_sitByNumbers n s_1) fun s_6 => mb_cl (f_C_holdingAsSeated n s_6) fun r_10 s_8 => mb_cp s_8 10 5 11 5 0 0 5 fun s_11 => f_C_order_47 n (fun x_29 x_30 s_31 => mb_cw (f_C_fillRow n x1 11 5 (s_31.1 100 0) s_31) fun s_32 => some (x_29, s_32)) x1 n r_10 0 s_11
set_option maxHeartbeats 4000000 in
set_option maxRecDepth 100000 in
theorem tl_C_order_47 {dd n : Nat} {K : mj_KT} {out : Int32 × mb_T} (hK : mj_C (dd + 8) 0 0 RC_c "order" bC_order 5 K) (hR : mj_R bC_order (some .int) (fun r2 S2 => r2 = some (.int out.1) ∧ S2 = mb_s out.2) K) {k0 : Int32 → Int32 → mb_T → Option (Int32 × mb_T)} {y1 : Int32} (hk0 : ∀ (w2 : Int32) (w3 : Int32) (s : mb_T), k0 w2 w3 s = some out → K 0 0 98 [.ref 0, .int y1, .int w2, .int w3, .retAddr 0] [] (mb_s s)) : ∀ (f : Nat) (w2 : Int32) (w3 : Int32) (s : mb_T), f_C_order_47 n k0 y1 f w2 w3 s = some out → K 0 0 47 [.ref 0, .int y1, .int w2, .int w3, .retAddr 0] [] (mb_s s) := by
  intro f
  induction f with
  | zero =>
    intro w2 w3 s h
    cases h
  | succ f ih =>
    intro w2 w3 s h
    rw [f_C_order_47] at h
    refine ro_iload_n hK dC_order_47 rfl ?_
    refine ro_bipush (x := 120) hK (by decide) dC_order_48 ?_
    refine ro_icmp_ge (tgt := 98) hK dC_order_50 (by decide) (fun c_14 => ?_) (fun c_14 => ?_)
    · replace h := mb_ift c_14 h
      refine ro_fg (lv' := [.ref 0, .int y1, .int w2, .int w3, .retAddr 0]) hK ⟨Or.inr rfl, ⟨Or.inr rfl, ⟨Or.inr rfl, ⟨Or.inr rfl, ⟨Or.inl rfl, trivial⟩⟩⟩⟩⟩ ?_
      exact hk0 _ _ _ h
    · replace h := mb_iff c_14 h
      refine ro_aload_n hK dC_order_53 rfl ?_
      obtain ⟨r_17, s_15, q_16, h⟩ := mb_cl_e h
      refine rb_callV hK mC_nextSeating vC_279 (t_C_nextSeating (dd := dd + 5) q_16) rfl mb_oC rfl (Nat.le_of_ble_eq_true rfl) dC_order_54 rfl ⟨Nat.le_refl _, Nat.le_refl _⟩ ?_
      show K 0 0 57 [.ref 0, .int y1, .int w2, .int w3, .retAddr 0] [.int r_17] (mb_s s_15)
      refine ro_if_eq (tgt := 98) hK dC_order_57 (by decide) (fun c_18 => ?_) (fun c_18 => ?_)
      · replace h := mb_ift c_18 h
        refine ro_fg (lv' := [.ref 0, .int y1, .int w2, .int w3, .retAddr 0]) hK ⟨Or.inr rfl, ⟨Or.inr rfl, ⟨Or.inr rfl, ⟨Or.inr rfl, ⟨Or.inl rfl, trivial⟩⟩⟩⟩⟩ ?_
        exact hk0 _ _ _ h
      · replace h := mb_iff c_18 h
        refine ro_aload_n hK dC_order_60 rfl ?_
        obtain ⟨r_21, s_19, q_20, h⟩ := mb_cl_e h
        refine rb_callV hK mC_holdingAsSeated vC_276 (t_C_holdingAsSeated (dd := dd + 0) q_20) rfl mb_oC rfl (Nat.le_of_ble_eq_true rfl) dC_order_61 rfl ⟨Nat.le_refl _, Nat.le_refl _⟩ ?_
        show K 0 0 64 [.ref 0, .int y1, .int w2, .int w3, .retAddr 0] [.int r_21] (mb_s s_19)
        refine ro_istore hK dC_order_64 (by decide) ?_
        show K 0 0 66 [.ref 0, .int y1, .int w2, .int w3, .int r_21] [] (mb_s s_19)
        refine ro_iload hK dC_order_66 rfl ?_
        refine ro_iload_n hK dC_order_68 rfl ?_
        obtain ⟨r_24, s_22, q_23, h⟩ := mb_cl_e h
        refine rb_callS hK mC_isLonger vC_228 (t_C_isLonger (dd := dd + 6) q_23) rfl (Nat.le_of_ble_eq_true rfl) dC_order_69 rfl ⟨Nat.le_refl _, Nat.le_refl _⟩ ?_
        show K 0 0 72 [.ref 0, .int y1, .int w2, .int w3, .int r_21] [.int r_24] (mb_s s_22)
        refine ro_if_eq (tgt := 92) hK dC_order_72 (by decide) (fun c_25 => ?_) (fun c_25 => ?_)
        · replace h := mb_ift c_25 h
          refine ro_iincv (c := 1) hK (by decide) dC_order_92 rfl (by decide) ?_
          show K 0 0 95 [.ref 0, .int y1, .int w2, .int (w3 + 1), .int r_21] [] (mb_s s_22)
          refine ro_goto (tgt := 47) hK dC_order_95 (by decide) ?_
          refine ro_fg (lv' := [.ref 0, .int y1, .int w2, .int (w3 + 1), .retAddr 0]) hK ⟨Or.inr rfl, ⟨Or.inr rfl, ⟨Or.inr rfl, ⟨Or.inr rfl, ⟨Or.inl rfl, trivial⟩⟩⟩⟩⟩ ?_
          exact ih _ _ _ h
        · replace h := mb_iff c_25 h
          refine ro_iload hK dC_order_75 rfl ?_
          refine ro_istore_n hK dC_order_77 (by decide) ?_
          show K 0 0 78 [.ref 0, .int y1, .int r_21, .int w3, .int r_21] [] (mb_s s_22)
          refine ro_aload_n hK dC_order_78 rfl ?_
          refine rb_get hK fC_61 mb_oC rfl dC_order_79 ?_
          refine ro_iconst (x := 0) hK (by decide) dC_order_82 ?_
          refine ro_aload_n hK dC_order_83 rfl ?_
          refine rb_get hK fC_64 mb_oC rfl dC_order_84 ?_
          refine ro_iconst (x := 0) hK (by decide) dC_order_87 ?_
          refine ro_iconst (x := 5) hK (by decide) dC_order_88 ?_
          obtain ⟨s_26, e_27, i_28, h⟩ := mb_cp_e h
          refine rb_copy hK vC_102 (by omega) (Nat.le_of_ble_eq_true rfl) ai_10 ai_11 i_28 e_27 dC_order_89 ?_
          refine ro_iincv (c := 1) hK (by decide) dC_order_92 rfl (by decide) ?_
          show K 0 0 95 [.ref 0, .int y1, .int r_21, .int (w3 + 1), .int r_21] [] (mb_s s_26)
          refine ro_goto (tgt := 47) hK dC_order_95 (by decide) ?_
          refine ro_fg (lv' := [.ref 0, .int y1, .int r_21, .int (w3 + 1), .retAddr 0]) hK ⟨Or.inr rfl, ⟨Or.inr rfl, ⟨Or.inr rfl, ⟨Or.inr rfl, ⟨Or.inl rfl, trivial⟩⟩⟩⟩⟩ ?_
          exact ih _ _ _ h
set_option maxHeartbeats 4000000 in
set_option maxRecDepth 100000 in
theorem t_C_order {dd n : Nat} {x1 : Int32} {s : mb_T} {out : Int32 × mb_T}  (h : f_C_order n x1 s = some out) : mb_MC (dd + 8) yC_order bC_order 5 (some .int) [.ref 0, .int x1] s (some (.int out.1)) out.2 := by
  unfold f_C_order at h
  refine mj_mc (lv := [.ref 0, .int x1, .retAddr 0, .retAddr 0, .retAddr 0]) mC_order rfl rfl (Nat.le_of_ble_eq_true rfl) (fun K hK hR => ?_)
  have hK : mj_C (dd + 8) 0 0 RC_c "order" bC_order 5 K := hK
  refine ro_iload_n hK dC_order_0 rfl ?_
  obtain ⟨r_3, s_1, q_2, h⟩ := mb_cl_e h
  refine rb_callS hK mC_isRow vC_83 (t_C_isRow (dd := dd + 6) q_2) rfl (Nat.le_of_ble_eq_true rfl) dC_order_1 rfl ⟨Nat.le_refl _, Nat.le_refl _⟩ ?_
  show K 0 0 4 [.ref 0, .int x1, .retAddr 0, .retAddr 0, .retAddr 0] [.int r_3] (mb_s s_1)
  refine ro_if_ne (tgt := 9) hK dC_order_4 (by decide) (fun c_4 => ?_) (fun c_4 => ?_)
  · replace h := mb_iff c_4 h
    refine ro_aload_n hK dC_order_9 rfl ?_
    refine rb_get hK fC_29 mb_oC rfl dC_order_10 ?_
    refine rb_get hK fC_128 (mb_cvo (Or.inl rfl)) rfl dC_order_13 ?_
    refine ro_if_ne (tgt := 22) hK dC_order_16 (by decide) (fun c_5 => ?_) (fun c_5 => ?_)
    · replace h := mb_iff c_5 h
      refine ro_aload_n hK dC_order_22 rfl ?_
      obtain ⟨s_6, q_7, h⟩ := mb_cw_e h
      refine rb_callV hK mC_sitByNumbers vC_273 (t_C_sitByNumbers (dd := dd + 6) q_7) rfl mb_oC rfl (Nat.le_of_ble_eq_true rfl) dC_order_23 rfl ⟨Nat.le_refl _, Nat.le_refl _⟩ ?_
      show K 0 0 26 [.ref 0, .int x1, .retAddr 0, .retAddr 0, .retAddr 0] [] (mb_s s_6)
      refine ro_aload_n hK dC_order_26 rfl ?_
      obtain ⟨r_10, s_8, q_9, h⟩ := mb_cl_e h
      refine rb_callV hK mC_holdingAsSeated vC_276 (t_C_holdingAsSeated (dd := dd + 0) q_9) rfl mb_oC rfl (Nat.le_of_ble_eq_true rfl) dC_order_27 rfl ⟨Nat.le_refl _, Nat.le_refl _⟩ ?_
      show K 0 0 30 [.ref 0, .int x1, .retAddr 0, .retAddr 0, .retAddr 0] [.int r_10] (mb_s s_8)
      refine ro_istore_n hK dC_order_30 (by decide) ?_
      show K 0 0 31 [.ref 0, .int x1, .int r_10, .retAddr 0, .retAddr 0] [] (mb_s s_8)
      refine ro_aload_n hK dC_order_31 rfl ?_
      refine rb_get hK fC_61 mb_oC rfl dC_order_32 ?_
      refine ro_iconst (x := 0) hK (by decide) dC_order_35 ?_
      refine ro_aload_n hK dC_order_36 rfl ?_
      refine rb_get hK fC_64 mb_oC rfl dC_order_37 ?_
      refine ro_iconst (x := 0) hK (by decide) dC_order_40 ?_
      refine ro_iconst (x := 5) hK (by decide) dC_order_41 ?_
      obtain ⟨s_11, e_12, i_13, h⟩ := mb_cp_e h
      refine rb_copy hK vC_102 (by omega) (Nat.le_of_ble_eq_true rfl) ai_10 ai_11 i_13 e_12 dC_order_42 ?_
      refine ro_iconst (x := 0) hK (by decide) dC_order_45 ?_
      refine ro_istore_n hK dC_order_46 (by decide) ?_
      show K 0 0 47 [.ref 0, .int x1, .int r_10, .int 0, .retAddr 0] [] (mb_s s_11)
      refine ro_fg (lv' := [.ref 0, .int x1, .int r_10, .int 0, .retAddr 0]) hK ⟨Or.inr rfl, ⟨Or.inr rfl, ⟨Or.inr rfl, ⟨Or.inr rfl, ⟨Or.inl rfl, trivial⟩⟩⟩⟩⟩ ?_
      refine tl_C_order_47 (dd := dd) hK hR (fun x_29 x_30 s_31 h => ?_) n _ _ _ h
      refine ro_aload_n hK dC_order_98 rfl ?_
      refine ro_iload_n hK dC_order_99 rfl ?_
      refine ro_aload_n hK dC_order_100 rfl ?_
      refine rb_get hK fC_64 mb_oC rfl dC_order_101 ?_
      refine ro_aload_n hK dC_order_104 rfl ?_
      refine rb_get hK fC_29 mb_oC rfl dC_order_105 ?_
      refine rb_get hK fC_128 (mb_cvo (Or.inl rfl)) rfl dC_order_108 ?_
      obtain ⟨s_32, q_33, h⟩ := mb_cw_e h
      refine rb_callV hK mC_fillRow vC_262 (t_C_fillRow (dd := dd + 6) ai_11 q_33) rfl mb_oC rfl (Nat.le_of_ble_eq_true rfl) dC_order_111 rfl ⟨Nat.le_refl _, Nat.le_refl _⟩ ?_
      show K 0 0 114 [.ref 0, .int x1, .int x_29, .int x_30, .retAddr 0] [] (mb_s s_32)
      refine ro_iload_n hK dC_order_114 rfl ?_
      cases h
      exact hR.1 0 0 115 _ _ _ _ rfl rfl dC_order_115 ⟨rfl, rfl⟩
    · replace h := mb_ift c_5 h
      refine ro_bipush (x := (-4)) hK (by decide) dC_order_19 ?_
      cases h
      exact hR.1 0 0 21 _ _ _ _ rfl rfl dC_order_21 ⟨rfl, rfl⟩
  · replace h := mb_ift c_4 h
    refine ro_iconst (x := (-1)) hK (by decide) dC_order_7 ?_
    cases h
    exact hR.1 0 0 8 _ _ _ _ rfl rfl dC_order_8 ⟨rfl, rfl⟩
theorem dC_swap_0 : decode bC_swap 0 = .ok (.aload_n 0, 1) := by decide +kernel
theorem dC_swap_1 : decode bC_swap 1 = .ok (.getfield 29, 3) := by decide +kernel
theorem dC_swap_4 : decode bC_swap 4 = .ok (.getfield 128, 3) := by decide +kernel
theorem dC_swap_7 : decode bC_swap 7 = .ok (.ifCond .ne 6, 3) := by decide +kernel
theorem dC_swap_10 : decode bC_swap 10 = .ok (.bipush (-4), 2) := by decide +kernel
theorem dC_swap_12 : decode bC_swap 12 = .ok (.ireturn, 1) := by decide +kernel
theorem dC_swap_13 : decode bC_swap 13 = .ok (.aload_n 0, 1) := by decide +kernel
theorem dC_swap_14 : decode bC_swap 14 = .ok (.invokevirtual 273, 3) := by decide +kernel
theorem dC_swap_17 : decode bC_swap 17 = .ok (.aload_n 0, 1) := by decide +kernel
theorem dC_swap_18 : decode bC_swap 18 = .ok (.invokevirtual 276, 3) := by decide +kernel
theorem dC_swap_21 : decode bC_swap 21 = .ok (.istore_n 1, 1) := by decide +kernel
theorem dC_swap_22 : decode bC_swap 22 = .ok (.bipush (-9), 2) := by decide +kernel
theorem dC_swap_24 : decode bC_swap 24 = .ok (.istore_n 2, 1) := by decide +kernel
theorem dC_swap_25 : decode bC_swap 25 = .ok (.iconst 0, 1) := by decide +kernel
theorem dC_swap_26 : decode bC_swap 26 = .ok (.istore_n 3, 1) := by decide +kernel
theorem dC_swap_27 : decode bC_swap 27 = .ok (.iload_n 3, 1) := by decide +kernel
theorem dC_swap_28 : decode bC_swap 28 = .ok (.aload_n 0, 1) := by decide +kernel
theorem dC_swap_29 : decode bC_swap 29 = .ok (.getfield 29, 3) := by decide +kernel
theorem dC_swap_32 : decode bC_swap 32 = .ok (.getfield 128, 3) := by decide +kernel
theorem dC_swap_35 : decode bC_swap 35 = .ok (.if_icmp .ge 72, 3) := by decide +kernel
theorem dC_swap_38 : decode bC_swap 38 = .ok (.iload_n 3, 1) := by decide +kernel
theorem dC_swap_39 : decode bC_swap 39 = .ok (.iconst 1, 1) := by decide +kernel
theorem dC_swap_40 : decode bC_swap 40 = .ok (.iadd, 1) := by decide +kernel
theorem dC_swap_41 : decode bC_swap 41 = .ok (.istore 4, 2) := by decide +kernel
theorem dC_swap_43 : decode bC_swap 43 = .ok (.iload 4, 2) := by decide +kernel
theorem dC_swap_45 : decode bC_swap 45 = .ok (.aload_n 0, 1) := by decide +kernel
theorem dC_swap_46 : decode bC_swap 46 = .ok (.getfield 29, 3) := by decide +kernel
theorem dC_swap_49 : decode bC_swap 49 = .ok (.getfield 128, 3) := by decide +kernel
theorem dC_swap_52 : decode bC_swap 52 = .ok (.if_icmp .ge 49, 3) := by decide +kernel
theorem dC_swap_55 : decode bC_swap 55 = .ok (.aload_n 0, 1) := by decide +kernel
theorem dC_swap_56 : decode bC_swap 56 = .ok (.iload_n 3, 1) := by decide +kernel
theorem dC_swap_57 : decode bC_swap 57 = .ok (.iload 4, 2) := by decide +kernel
theorem dC_swap_59 : decode bC_swap 59 = .ok (.invokevirtual 282, 3) := by decide +kernel
theorem dC_swap_62 : decode bC_swap 62 = .ok (.aload_n 0, 1) := by decide +kernel
theorem dC_swap_63 : decode bC_swap 63 = .ok (.invokevirtual 276, 3) := by decide +kernel
theorem dC_swap_66 : decode bC_swap 66 = .ok (.istore 5, 2) := by decide +kernel
theorem dC_swap_68 : decode bC_swap 68 = .ok (.aload_n 0, 1) := by decide +kernel
theorem dC_swap_69 : decode bC_swap 69 = .ok (.iload_n 3, 1) := by decide +kernel
theorem dC_swap_70 : decode bC_swap 70 = .ok (.iload 4, 2) := by decide +kernel
theorem dC_swap_72 : decode bC_swap 72 = .ok (.invokevirtual 282, 3) := by decide +kernel
theorem dC_swap_75 : decode bC_swap 75 = .ok (.iload 5, 2) := by decide +kernel
theorem dC_swap_77 : decode bC_swap 77 = .ok (.iload_n 1, 1) := by decide +kernel
theorem dC_swap_78 : decode bC_swap 78 = .ok (.invokestatic 228, 3) := by decide +kernel
theorem dC_swap_81 : decode bC_swap 81 = .ok (.ifCond .eq 14, 3) := by decide +kernel
theorem dC_swap_84 : decode bC_swap 84 = .ok (.iload 5, 2) := by decide +kernel
theorem dC_swap_86 : decode bC_swap 86 = .ok (.istore_n 1, 1) := by decide +kernel
theorem dC_swap_87 : decode bC_swap 87 = .ok (.bipush 10, 2) := by decide +kernel
theorem dC_swap_89 : decode bC_swap 89 = .ok (.iload_n 3, 1) := by decide +kernel
theorem dC_swap_90 : decode bC_swap 90 = .ok (.imul, 1) := by decide +kernel
theorem dC_swap_91 : decode bC_swap 91 = .ok (.iload 4, 2) := by decide +kernel
theorem dC_swap_93 : decode bC_swap 93 = .ok (.iadd, 1) := by decide +kernel
theorem dC_swap_94 : decode bC_swap 94 = .ok (.istore_n 2, 1) := by decide +kernel
theorem dC_swap_95 : decode bC_swap 95 = .ok (.iinc 4 1, 3) := by decide +kernel
theorem dC_swap_98 : decode bC_swap 98 = .ok (.goto (-55), 3) := by decide +kernel
theorem dC_swap_101 : decode bC_swap 101 = .ok (.iinc 3 1, 3) := by decide +kernel
theorem dC_swap_104 : decode bC_swap 104 = .ok (.goto (-77), 3) := by decide +kernel
theorem dC_swap_107 : decode bC_swap 107 = .ok (.iload_n 2, 1) := by decide +kernel
theorem dC_swap_108 : decode bC_swap 108 = .ok (.bipush (-9), 2) := by decide +kernel
theorem dC_swap_110 : decode bC_swap 110 = .ok (.if_icmp .eq 8, 3) := by decide +kernel
theorem dC_swap_113 : decode bC_swap 113 = .ok (.aload_n 0, 1) := by decide +kernel
theorem dC_swap_114 : decode bC_swap 114 = .ok (.iload_n 1, 1) := by decide +kernel
theorem dC_swap_115 : decode bC_swap 115 = .ok (.putfield 74, 3) := by decide +kernel
theorem dC_swap_118 : decode bC_swap 118 = .ok (.iload_n 2, 1) := by decide +kernel
theorem dC_swap_119 : decode bC_swap 119 = .ok (.ireturn, 1) := by decide +kernel
def f_C_swap_43 (n : Nat) (k0 : Int32 → Int32 → Int32 → mb_T → Option (Int32 × mb_T)) (y3 : Int32) : Nat → Int32 → Int32 → Int32 → mb_T → Option (Int32 × mb_T)
  | 0, _, _, _, _ => none
  | f + 1, w1, w2, w4, s => if (s.1 100 0) ≤ w4 then k0 w1 w2 w4 s else mb_cw (f_C_exchangeSeats n y3 w4 s) fun s_9 => mb_cl (f_C_holdingAsSeated n s_9) fun r_13 s_11 => mb_cw (f_C_exchangeSeats n y3 w4 s_11) fun s_14 => mb_cl (f_C_isLonger n r_13 w1 s_14) fun r_18 s_16 => if r_18 = 0 then f_C_swap_43 n k0 y3 f w1 w2 (w4 + 1) s_16 else f_C_swap_43 n k0 y3 f r_13 ((10 * y3) + w4) (w4 + 1) s_16
def f_C_swap_27 (n : Nat) (k0 : Int32 → Int32 → Int32 → mb_T → Option (Int32 × mb_T))  : Nat → Int32 → Int32 → Int32 → mb_T → Option (Int32 × mb_T)
  | 0, _, _, _, _ => none
  | f + 1, w1, w2, w3, s => if (s.1 100 0) ≤ w3 then k0 w1 w2 w3 s else f_C_swap_43 n (fun x_20 x_21 x_22 s_23 => f_C_swap_27 n k0 f x_20 x_21 (w3 + 1) s_23) w3 n w1 w2 (w3 + 1) s
def f_C_swap (n : Nat)  (s : mb_T) : Option (Int32 × mb_T) := if (s.1 100 0) = 0 then some ((-4), s) else mb_cw (f_C_sitByNumbers n s) fun s_2 => mb_cl (f_C_holdingAsSeated n s_2) fun r_6 s_4 => f_C_swap_27 n (fun x_24 x_25 x_26 s_27 => if x_25 = (-9) then some (x_25, s_27) else mb_bd (sF s_27 0 14 x_24) fun s_29 => some (x_25, s_29)) n r_6 (-9) 0 s_4
set_option maxHeartbeats 4000000 in
set_option maxRecDepth 100000 in
theorem tl_C_swap_43 {dd n : Nat} {K : mj_KT} {out : Int32 × mb_T} (hK : mj_C (dd + 8) 0 0 RC_c "swap" bC_swap 6 K) (hR : mj_R bC_swap (some .int) (fun r2 S2 => r2 = some (.int out.1) ∧ S2 = mb_s out.2) K) {k0 : Int32 → Int32 → Int32 → mb_T → Option (Int32 × mb_T)} {y3 : Int32} (hk0 : ∀ (w1 : Int32) (w2 : Int32) (w4 : Int32) (s : mb_T), k0 w1 w2 w4 s = some out → K 0 0 101 [.ref 0, .int w1, .int w2, .int y3, .int w4, .retAddr 0] [] (mb_s s)) : ∀ (f : Nat) (w1 : Int32) (w2 : Int32) (w4 : Int32) (s : mb_T), f_C_swap_43 n k0 y3 f w1 w2 w4 s = some out → K 0 0 43 [.ref 0, .int w1, .int w2, .int y3, .int w4, .retAddr 0] [] (mb_s s) := by
  intro f
  induction f with
  | zero =>
    intro w1 w2 w4 s h
    cases h
  | succ f ih =>
    intro w1 w2 w4 s h
    rw [f_C_swap_43] at h
    refine ro_iload hK dC_swap_43 rfl ?_
    refine ro_aload_n hK dC_swap_45 rfl ?_
    refine rb_get hK fC_29 mb_oC rfl dC_swap_46 ?_
    refine rb_get hK fC_128 (mb_cvo (Or.inl rfl)) rfl dC_swap_49 ?_
    refine ro_icmp_ge (tgt := 101) hK dC_swap_52 (by decide) (fun c_8 => ?_) (fun c_8 => ?_)
    · replace h := mb_ift c_8 h
      refine ro_fg (lv' := [.ref 0, .int w1, .int w2, .int y3, .int w4, .retAddr 0]) hK ⟨Or.inr rfl, ⟨Or.inr rfl, ⟨Or.inr rfl, ⟨Or.inr rfl, ⟨Or.inr rfl, ⟨Or.inl rfl, trivial⟩⟩⟩⟩⟩⟩ ?_
      exact hk0 _ _ _ _ h
    · replace h := mb_iff c_8 h
      refine ro_aload_n hK dC_swap_55 rfl ?_
      refine ro_iload_n hK dC_swap_56 rfl ?_
      refine ro_iload hK dC_swap_57 rfl ?_
      obtain ⟨s_9, q_10, h⟩ := mb_cw_e h
      refine rb_callV hK mC_exchangeSeats vC_282 (t_C_exchangeSeats (dd := dd + 6) q_10) rfl mb_oC rfl (Nat.le_of_ble_eq_true rfl) dC_swap_59 rfl ⟨Nat.le_refl _, Nat.le_refl _⟩ ?_
      show K 0 0 62 [.ref 0, .int w1, .int w2, .int y3, .int w4, .retAddr 0] [] (mb_s s_9)
      refine ro_aload_n hK dC_swap_62 rfl ?_
      obtain ⟨r_13, s_11, q_12, h⟩ := mb_cl_e h
      refine rb_callV hK mC_holdingAsSeated vC_276 (t_C_holdingAsSeated (dd := dd + 0) q_12) rfl mb_oC rfl (Nat.le_of_ble_eq_true rfl) dC_swap_63 rfl ⟨Nat.le_refl _, Nat.le_refl _⟩ ?_
      show K 0 0 66 [.ref 0, .int w1, .int w2, .int y3, .int w4, .retAddr 0] [.int r_13] (mb_s s_11)
      refine ro_istore hK dC_swap_66 (by decide) ?_
      show K 0 0 68 [.ref 0, .int w1, .int w2, .int y3, .int w4, .int r_13] [] (mb_s s_11)
      refine ro_aload_n hK dC_swap_68 rfl ?_
      refine ro_iload_n hK dC_swap_69 rfl ?_
      refine ro_iload hK dC_swap_70 rfl ?_
      obtain ⟨s_14, q_15, h⟩ := mb_cw_e h
      refine rb_callV hK mC_exchangeSeats vC_282 (t_C_exchangeSeats (dd := dd + 6) q_15) rfl mb_oC rfl (Nat.le_of_ble_eq_true rfl) dC_swap_72 rfl ⟨Nat.le_refl _, Nat.le_refl _⟩ ?_
      show K 0 0 75 [.ref 0, .int w1, .int w2, .int y3, .int w4, .int r_13] [] (mb_s s_14)
      refine ro_iload hK dC_swap_75 rfl ?_
      refine ro_iload_n hK dC_swap_77 rfl ?_
      obtain ⟨r_18, s_16, q_17, h⟩ := mb_cl_e h
      refine rb_callS hK mC_isLonger vC_228 (t_C_isLonger (dd := dd + 6) q_17) rfl (Nat.le_of_ble_eq_true rfl) dC_swap_78 rfl ⟨Nat.le_refl _, Nat.le_refl _⟩ ?_
      show K 0 0 81 [.ref 0, .int w1, .int w2, .int y3, .int w4, .int r_13] [.int r_18] (mb_s s_16)
      refine ro_if_eq (tgt := 95) hK dC_swap_81 (by decide) (fun c_19 => ?_) (fun c_19 => ?_)
      · replace h := mb_ift c_19 h
        refine ro_iincv (c := 1) hK (by decide) dC_swap_95 rfl (by decide) ?_
        show K 0 0 98 [.ref 0, .int w1, .int w2, .int y3, .int (w4 + 1), .int r_13] [] (mb_s s_16)
        refine ro_goto (tgt := 43) hK dC_swap_98 (by decide) ?_
        refine ro_fg (lv' := [.ref 0, .int w1, .int w2, .int y3, .int (w4 + 1), .retAddr 0]) hK ⟨Or.inr rfl, ⟨Or.inr rfl, ⟨Or.inr rfl, ⟨Or.inr rfl, ⟨Or.inr rfl, ⟨Or.inl rfl, trivial⟩⟩⟩⟩⟩⟩ ?_
        exact ih _ _ _ _ h
      · replace h := mb_iff c_19 h
        refine ro_iload hK dC_swap_84 rfl ?_
        refine ro_istore_n hK dC_swap_86 (by decide) ?_
        show K 0 0 87 [.ref 0, .int r_13, .int w2, .int y3, .int w4, .int r_13] [] (mb_s s_16)
        refine ro_bipush (x := 10) hK (by decide) dC_swap_87 ?_
        refine ro_iload_n hK dC_swap_89 rfl ?_
        refine ro_imul hK dC_swap_90 ?_
        refine ro_iload hK dC_swap_91 rfl ?_
        refine ro_iadd hK dC_swap_93 ?_
        refine ro_istore_n hK dC_swap_94 (by decide) ?_
        show K 0 0 95 [.ref 0, .int r_13, .int ((10 * y3) + w4), .int y3, .int w4, .int r_13] [] (mb_s s_16)
        refine ro_iincv (c := 1) hK (by decide) dC_swap_95 rfl (by decide) ?_
        show K 0 0 98 [.ref 0, .int r_13, .int ((10 * y3) + w4), .int y3, .int (w4 + 1), .int r_13] [] (mb_s s_16)
        refine ro_goto (tgt := 43) hK dC_swap_98 (by decide) ?_
        refine ro_fg (lv' := [.ref 0, .int r_13, .int ((10 * y3) + w4), .int y3, .int (w4 + 1), .retAddr 0]) hK ⟨Or.inr rfl, ⟨Or.inr rfl, ⟨Or.inr rfl, ⟨Or.inr rfl, ⟨Or.inr rfl, ⟨Or.inl rfl, trivial⟩⟩⟩⟩⟩⟩ ?_
        exact ih _ _ _ _ h
set_option maxHeartbeats 4000000 in
set_option maxRecDepth 100000 in
theorem tl_C_swap_27 {dd n : Nat} {K : mj_KT} {out : Int32 × mb_T} (hK : mj_C (dd + 8) 0 0 RC_c "swap" bC_swap 6 K) (hR : mj_R bC_swap (some .int) (fun r2 S2 => r2 = some (.int out.1) ∧ S2 = mb_s out.2) K) {k0 : Int32 → Int32 → Int32 → mb_T → Option (Int32 × mb_T)}  (hk0 : ∀ (w1 : Int32) (w2 : Int32) (w3 : Int32) (s : mb_T), k0 w1 w2 w3 s = some out → K 0 0 107 [.ref 0, .int w1, .int w2, .int w3, .retAddr 0, .retAddr 0] [] (mb_s s)) : ∀ (f : Nat) (w1 : Int32) (w2 : Int32) (w3 : Int32) (s : mb_T), f_C_swap_27 n k0 f w1 w2 w3 s = some out → K 0 0 27 [.ref 0, .int w1, .int w2, .int w3, .retAddr 0, .retAddr 0] [] (mb_s s) := by
  intro f
  induction f with
  | zero =>
    intro w1 w2 w3 s h
    cases h
  | succ f ih =>
    intro w1 w2 w3 s h
    rw [f_C_swap_27] at h
    refine ro_iload_n hK dC_swap_27 rfl ?_
    refine ro_aload_n hK dC_swap_28 rfl ?_
    refine rb_get hK fC_29 mb_oC rfl dC_swap_29 ?_
    refine rb_get hK fC_128 (mb_cvo (Or.inl rfl)) rfl dC_swap_32 ?_
    refine ro_icmp_ge (tgt := 107) hK dC_swap_35 (by decide) (fun c_7 => ?_) (fun c_7 => ?_)
    · replace h := mb_ift c_7 h
      refine ro_fg (lv' := [.ref 0, .int w1, .int w2, .int w3, .retAddr 0, .retAddr 0]) hK ⟨Or.inr rfl, ⟨Or.inr rfl, ⟨Or.inr rfl, ⟨Or.inr rfl, ⟨Or.inl rfl, ⟨Or.inl rfl, trivial⟩⟩⟩⟩⟩⟩ ?_
      exact hk0 _ _ _ _ h
    · replace h := mb_iff c_7 h
      refine ro_iload_n hK dC_swap_38 rfl ?_
      refine ro_iconst (x := 1) hK (by decide) dC_swap_39 ?_
      refine ro_iadd hK dC_swap_40 ?_
      refine ro_istore hK dC_swap_41 (by decide) ?_
      show K 0 0 43 [.ref 0, .int w1, .int w2, .int w3, .int (w3 + 1), .retAddr 0] [] (mb_s s)
      refine ro_fg (lv' := [.ref 0, .int w1, .int w2, .int w3, .int (w3 + 1), .retAddr 0]) hK ⟨Or.inr rfl, ⟨Or.inr rfl, ⟨Or.inr rfl, ⟨Or.inr rfl, ⟨Or.inr rfl, ⟨Or.inl rfl, trivial⟩⟩⟩⟩⟩⟩ ?_
      refine tl_C_swap_43 (dd := dd) hK hR (fun x_20 x_21 x_22 s_23 h => ?_) n _ _ _ _ h
      refine ro_iincv (c := 1) hK (by decide) dC_swap_101 rfl (by decide) ?_
      show K 0 0 104 [.ref 0, .int x_20, .int x_21, .int (w3 + 1), .int x_22, .retAddr 0] [] (mb_s s_23)
      refine ro_goto (tgt := 27) hK dC_swap_104 (by decide) ?_
      refine ro_fg (lv' := [.ref 0, .int x_20, .int x_21, .int (w3 + 1), .retAddr 0, .retAddr 0]) hK ⟨Or.inr rfl, ⟨Or.inr rfl, ⟨Or.inr rfl, ⟨Or.inr rfl, ⟨Or.inl rfl, ⟨Or.inl rfl, trivial⟩⟩⟩⟩⟩⟩ ?_
      exact ih _ _ _ _ h
set_option maxHeartbeats 4000000 in
set_option maxRecDepth 100000 in
theorem t_C_swap {dd n : Nat}  {s : mb_T} {out : Int32 × mb_T}  (h : f_C_swap n  s = some out) : mb_MC (dd + 8) yC_swap bC_swap 6 (some .int) [.ref 0] s (some (.int out.1)) out.2 := by
  unfold f_C_swap at h
  refine mj_mc (lv := [.ref 0, .retAddr 0, .retAddr 0, .retAddr 0, .retAddr 0, .retAddr 0]) mC_swap rfl rfl (Nat.le_of_ble_eq_true rfl) (fun K hK hR => ?_)
  have hK : mj_C (dd + 8) 0 0 RC_c "swap" bC_swap 6 K := hK
  refine ro_aload_n hK dC_swap_0 rfl ?_
  refine rb_get hK fC_29 mb_oC rfl dC_swap_1 ?_
  refine rb_get hK fC_128 (mb_cvo (Or.inl rfl)) rfl dC_swap_4 ?_
  refine ro_if_ne (tgt := 13) hK dC_swap_7 (by decide) (fun c_1 => ?_) (fun c_1 => ?_)
  · replace h := mb_iff c_1 h
    refine ro_aload_n hK dC_swap_13 rfl ?_
    obtain ⟨s_2, q_3, h⟩ := mb_cw_e h
    refine rb_callV hK mC_sitByNumbers vC_273 (t_C_sitByNumbers (dd := dd + 6) q_3) rfl mb_oC rfl (Nat.le_of_ble_eq_true rfl) dC_swap_14 rfl ⟨Nat.le_refl _, Nat.le_refl _⟩ ?_
    show K 0 0 17 [.ref 0, .retAddr 0, .retAddr 0, .retAddr 0, .retAddr 0, .retAddr 0] [] (mb_s s_2)
    refine ro_aload_n hK dC_swap_17 rfl ?_
    obtain ⟨r_6, s_4, q_5, h⟩ := mb_cl_e h
    refine rb_callV hK mC_holdingAsSeated vC_276 (t_C_holdingAsSeated (dd := dd + 0) q_5) rfl mb_oC rfl (Nat.le_of_ble_eq_true rfl) dC_swap_18 rfl ⟨Nat.le_refl _, Nat.le_refl _⟩ ?_
    show K 0 0 21 [.ref 0, .retAddr 0, .retAddr 0, .retAddr 0, .retAddr 0, .retAddr 0] [.int r_6] (mb_s s_4)
    refine ro_istore_n hK dC_swap_21 (by decide) ?_
    show K 0 0 22 [.ref 0, .int r_6, .retAddr 0, .retAddr 0, .retAddr 0, .retAddr 0] [] (mb_s s_4)
    refine ro_bipush (x := (-9)) hK (by decide) dC_swap_22 ?_
    refine ro_istore_n hK dC_swap_24 (by decide) ?_
    show K 0 0 25 [.ref 0, .int r_6, .int (-9), .retAddr 0, .retAddr 0, .retAddr 0] [] (mb_s s_4)
    refine ro_iconst (x := 0) hK (by decide) dC_swap_25 ?_
    refine ro_istore_n hK dC_swap_26 (by decide) ?_
    show K 0 0 27 [.ref 0, .int r_6, .int (-9), .int 0, .retAddr 0, .retAddr 0] [] (mb_s s_4)
    refine ro_fg (lv' := [.ref 0, .int r_6, .int (-9), .int 0, .retAddr 0, .retAddr 0]) hK ⟨Or.inr rfl, ⟨Or.inr rfl, ⟨Or.inr rfl, ⟨Or.inr rfl, ⟨Or.inl rfl, ⟨Or.inl rfl, trivial⟩⟩⟩⟩⟩⟩ ?_
    refine tl_C_swap_27 (dd := dd) hK hR (fun x_24 x_25 x_26 s_27 h => ?_) n _ _ _ _ h
    refine ro_iload_n hK dC_swap_107 rfl ?_
    refine ro_bipush (x := (-9)) hK (by decide) dC_swap_108 ?_
    refine ro_icmp_eq (tgt := 118) hK dC_swap_110 (by decide) (fun c_28 => ?_) (fun c_28 => ?_)
    · replace h := mb_ift c_28 h
      refine ro_iload_n hK dC_swap_118 rfl ?_
      cases h
      exact hR.1 0 0 119 _ _ _ _ rfl rfl dC_swap_119 ⟨rfl, rfl⟩
    · replace h := mb_iff c_28 h
      refine ro_aload_n hK dC_swap_113 rfl ?_
      refine ro_iload_n hK dC_swap_114 rfl ?_
      obtain ⟨s_29, e_30, h⟩ := mb_bd_e h
      refine rb_put hK gC_74 mb_oC rfl (by show 14 < 15; decide) rfl rfl e_30 dC_swap_115 ?_
      refine ro_iload_n hK dC_swap_118 rfl ?_
      cases h
      exact hR.1 0 0 119 _ _ _ _ rfl rfl dC_swap_119 ⟨rfl, rfl⟩
  · replace h := mb_ift c_1 h
    refine ro_bipush (x := (-4)) hK (by decide) dC_swap_10 ?_
    cases h
    exact hR.1 0 0 12 _ _ _ _ rfl rfl dC_swap_12 ⟨rfl, rfl⟩
theorem dM_calmOn_0 : decode bM_calmOn 0 = .ok (.aload_n 0, 1) := by decide +kernel
theorem dM_calmOn_1 : decode bM_calmOn 1 = .ok (.invokevirtual 206, 3) := by decide +kernel
theorem dM_calmOn_4 : decode bM_calmOn 4 = .ok (.ifCond .eq 4, 3) := by decide +kernel
theorem dM_calmOn_7 : decode bM_calmOn 7 = .ok (.return_, 1) := by decide +kernel
theorem dM_calmOn_8 : decode bM_calmOn 8 = .ok (.iload_n 1, 1) := by decide +kernel
theorem dM_calmOn_9 : decode bM_calmOn 9 = .ok (.iload_n 2, 1) := by decide +kernel
theorem dM_calmOn_10 : decode bM_calmOn 10 = .ok (.if_icmp .ne 32, 3) := by decide +kernel
theorem dM_calmOn_13 : decode bM_calmOn 13 = .ok (.aload_n 0, 1) := by decide +kernel
theorem dM_calmOn_14 : decode bM_calmOn 14 = .ok (.getfield 31, 3) := by decide +kernel
theorem dM_calmOn_17 : decode bM_calmOn 17 = .ok (.aload_n 0, 1) := by decide +kernel
theorem dM_calmOn_18 : decode bM_calmOn 18 = .ok (.invokevirtual 254, 3) := by decide +kernel
theorem dM_calmOn_21 : decode bM_calmOn 21 = .ok (.iaload, 1) := by decide +kernel
theorem dM_calmOn_22 : decode bM_calmOn 22 = .ok (.istore_n 3, 1) := by decide +kernel
theorem dM_calmOn_23 : decode bM_calmOn 23 = .ok (.iload_n 3, 1) := by decide +kernel
theorem dM_calmOn_24 : decode bM_calmOn 24 = .ok (.aload_n 0, 1) := by decide +kernel
theorem dM_calmOn_25 : decode bM_calmOn 25 = .ok (.getfield 278, 3) := by decide +kernel
theorem dM_calmOn_28 : decode bM_calmOn 28 = .ok (.if_icmp .ge 13, 3) := by decide +kernel
theorem dM_calmOn_31 : decode bM_calmOn 31 = .ok (.aload_n 0, 1) := by decide +kernel
theorem dM_calmOn_32 : decode bM_calmOn 32 = .ok (.iload_n 3, 1) := by decide +kernel
theorem dM_calmOn_33 : decode bM_calmOn 33 = .ok (.putfield 278, 3) := by decide +kernel
theorem dM_calmOn_36 : decode bM_calmOn 36 = .ok (.aload_n 0, 1) := by decide +kernel
theorem dM_calmOn_37 : decode bM_calmOn 37 = .ok (.iload_n 2, 1) := by decide +kernel
theorem dM_calmOn_38 : decode bM_calmOn 38 = .ok (.invokevirtual 260, 3) := by decide +kernel
theorem dM_calmOn_41 : decode bM_calmOn 41 = .ok (.return_, 1) := by decide +kernel
theorem dM_calmOn_42 : decode bM_calmOn 42 = .ok (.aload_n 0, 1) := by decide +kernel
theorem dM_calmOn_43 : decode bM_calmOn 43 = .ok (.iload_n 1, 1) := by decide +kernel
theorem dM_calmOn_44 : decode bM_calmOn 44 = .ok (.invokevirtual 263, 3) := by decide +kernel
theorem dM_calmOn_47 : decode bM_calmOn 47 = .ok (.iconst 0, 1) := by decide +kernel
theorem dM_calmOn_48 : decode bM_calmOn 48 = .ok (.istore_n 3, 1) := by decide +kernel
theorem dM_calmOn_49 : decode bM_calmOn 49 = .ok (.iload_n 3, 1) := by decide +kernel
theorem dM_calmOn_50 : decode bM_calmOn 50 = .ok (.aload_n 0, 1) := by decide +kernel
theorem dM_calmOn_51 : decode bM_calmOn 51 = .ok (.getfield 161, 3) := by decide +kernel
theorem dM_calmOn_54 : decode bM_calmOn 54 = .ok (.if_icmp .ge 34, 3) := by decide +kernel
theorem dM_calmOn_57 : decode bM_calmOn 57 = .ok (.aload_n 0, 1) := by decide +kernel
theorem dM_calmOn_58 : decode bM_calmOn 58 = .ok (.getfield 74, 3) := by decide +kernel
theorem dM_calmOn_61 : decode bM_calmOn 61 = .ok (.iload_n 1, 1) := by decide +kernel
theorem dM_calmOn_62 : decode bM_calmOn 62 = .ok (.iload_n 3, 1) := by decide +kernel
theorem dM_calmOn_63 : decode bM_calmOn 63 = .ok (.iastore, 1) := by decide +kernel
theorem dM_calmOn_64 : decode bM_calmOn 64 = .ok (.aload_n 0, 1) := by decide +kernel
theorem dM_calmOn_65 : decode bM_calmOn 65 = .ok (.iload_n 3, 1) := by decide +kernel
theorem dM_calmOn_66 : decode bM_calmOn 66 = .ok (.invokevirtual 202, 3) := by decide +kernel
theorem dM_calmOn_69 : decode bM_calmOn 69 = .ok (.aload_n 0, 1) := by decide +kernel
theorem dM_calmOn_70 : decode bM_calmOn 70 = .ok (.iload_n 1, 1) := by decide +kernel
theorem dM_calmOn_71 : decode bM_calmOn 71 = .ok (.iconst 1, 1) := by decide +kernel
theorem dM_calmOn_72 : decode bM_calmOn 72 = .ok (.iadd, 1) := by decide +kernel
theorem dM_calmOn_73 : decode bM_calmOn 73 = .ok (.iload_n 2, 1) := by decide +kernel
theorem dM_calmOn_74 : decode bM_calmOn 74 = .ok (.invokevirtual 281, 3) := by decide +kernel
theorem dM_calmOn_77 : decode bM_calmOn 77 = .ok (.aload_n 0, 1) := by decide +kernel
theorem dM_calmOn_78 : decode bM_calmOn 78 = .ok (.iload_n 1, 1) := by decide +kernel
theorem dM_calmOn_79 : decode bM_calmOn 79 = .ok (.invokevirtual 269, 3) := by decide +kernel
theorem dM_calmOn_82 : decode bM_calmOn 82 = .ok (.iinc 3 1, 3) := by decide +kernel
theorem dM_calmOn_85 : decode bM_calmOn 85 = .ok (.goto (-36), 3) := by decide +kernel
theorem dM_calmOn_88 : decode bM_calmOn 88 = .ok (.return_, 1) := by decide +kernel
def f_M_calmOn_49 (n : Nat) (rec : Int32 → Int32 → mb_T → Option (mb_T)) (k0 : Int32 → mb_T → Option (mb_T)) (y1 : Int32) (y2 : Int32) : Nat → Int32 → mb_T → Option (mb_T)
  | 0, _, _ => none
  | f + 1, w3, s => if (s.1 200 8) ≤ w3 then k0 w3 s else mb_wr s 235 6 y1 w3 fun s_9 => mb_cw (f_M_passMinute n w3 s_9) fun s_12 => mb_cw (rec (y1 + 1) y2 s_12) fun s_14 => mb_cw (f_M_backTo n y1 s_14) fun s_16 => f_M_calmOn_49 n rec k0 y1 y2 f (w3 + 1) s_16
def f_M_calmOn_b (n : Nat) (rec : Int32 → Int32 → mb_T → Option (mb_T)) (x1 : Int32) (x2 : Int32) (s : mb_T) : Option (mb_T) := mb_cl (f_M_isOver n s) fun r_3 s_1 => if r_3 = 0 then (if x1 = x2 then (mb_cl (f_M_greatest n s_1) fun r_22 s_20 => mb_rd s_20 213 10 r_22 fun x_23 => if (s_20.1 200 38) ≤ x_23 then some s_20 else mb_bd (sF s_20 200 38 x_23) fun s_27 => mb_cw (f_M_copyLaid n x2 s_27) fun s_29 => some s_29) else mb_cw (f_M_putDepth n x1 s_1) fun s_6 => f_M_calmOn_49 n rec (fun x_18 s_19 => some s_19) x1 x2 n 0 s_6) else some s_1
def f_M_calmOn (n : Nat) : Nat → Int32 → Int32 → mb_T → Option (mb_T)
  | 0 => fun _ _ _ => none
  | q + 1 => f_M_calmOn_b n (f_M_calmOn n q)
set_option maxHeartbeats 4000000 in
set_option maxRecDepth 100000 in
theorem tl_M_calmOn_49 {dd n : Nat} {K : mj_KT} {out : mb_T} (hK : mj_C (dd + 3) 0 0 RM_c "calmOn" bM_calmOn 4 K) (hR : mj_R bM_calmOn none (fun r2 S2 => r2 = none ∧ S2 = mb_s out) K) {rec : Int32 → Int32 → mb_T → Option (mb_T)} (hrec : ∀ {x1 x2 : Int32} {s s1 : mb_T}, rec x1 x2 s = some s1 → mb_MC (dd + 2) yM_calmOn bM_calmOn 4 none [.ref 200, .int x1, .int x2] s none s1) {k0 : Int32 → mb_T → Option (mb_T)} {y1 : Int32} {y2 : Int32} (hk0 : ∀ (w3 : Int32) (s : mb_T), k0 w3 s = some out → K 0 0 88 [.ref 200, .int y1, .int y2, .int w3] [] (mb_s s)) : ∀ (f : Nat) (w3 : Int32) (s : mb_T), f_M_calmOn_49 n rec k0 y1 y2 f w3 s = some out → K 0 0 49 [.ref 200, .int y1, .int y2, .int w3] [] (mb_s s) := by
  intro f
  induction f with
  | zero =>
    intro w3 s h
    cases h
  | succ f ih =>
    intro w3 s h
    rw [f_M_calmOn_49] at h
    refine ro_iload_n hK dM_calmOn_49 rfl ?_
    refine ro_aload_n hK dM_calmOn_50 rfl ?_
    refine rb_get hK fM_161 mb_oM rfl dM_calmOn_51 ?_
    refine ro_icmp_ge (tgt := 88) hK dM_calmOn_54 (by decide) (fun c_8 => ?_) (fun c_8 => ?_)
    · replace h := mb_ift c_8 h
      refine ro_fg (lv' := [.ref 200, .int y1, .int y2, .int w3]) hK ⟨Or.inr rfl, ⟨Or.inr rfl, ⟨Or.inr rfl, ⟨Or.inr rfl, trivial⟩⟩⟩⟩ ?_
      exact hk0 _ _ h
    · replace h := mb_iff c_8 h
      refine ro_aload_n hK dM_calmOn_57 rfl ?_
      refine rb_get hK fM_74 mb_oM rfl dM_calmOn_58 ?_
      refine ro_iload_n hK dM_calmOn_61 rfl ?_
      refine ro_iload_n hK dM_calmOn_62 rfl ?_
      obtain ⟨s_9, e_10, i_11, h⟩ := mb_wr_e h
      refine rb_iast hK ai_235 i_11 e_10 dM_calmOn_63 ?_
      refine ro_aload_n hK dM_calmOn_64 rfl ?_
      refine ro_iload_n hK dM_calmOn_65 rfl ?_
      obtain ⟨s_12, q_13, h⟩ := mb_cw_e h
      refine rb_callV hK mM_passMinute vM_202 (t_M_passMinute (dd := dd + 0) q_13) rfl mb_oM rfl (Nat.le_of_ble_eq_true rfl) dM_calmOn_66 rfl ⟨Nat.le_refl _, Nat.le_refl _⟩ ?_
      show K 0 0 69 [.ref 200, .int y1, .int y2, .int w3] [] (mb_s s_12)
      refine ro_aload_n hK dM_calmOn_69 rfl ?_
      refine ro_iload_n hK dM_calmOn_70 rfl ?_
      refine ro_iconst (x := 1) hK (by decide) dM_calmOn_71 ?_
      refine ro_iadd hK dM_calmOn_72 ?_
      refine ro_iload_n hK dM_calmOn_73 rfl ?_
      obtain ⟨s_14, q_15, h⟩ := mb_cw_e h
      refine rb_callV hK mM_calmOn vM_281 (hrec q_15) rfl mb_oM rfl (Nat.le_of_ble_eq_true rfl) dM_calmOn_74 rfl ⟨Nat.le_refl _, Nat.le_refl _⟩ ?_
      show K 0 0 77 [.ref 200, .int y1, .int y2, .int w3] [] (mb_s s_14)
      refine ro_aload_n hK dM_calmOn_77 rfl ?_
      refine ro_iload_n hK dM_calmOn_78 rfl ?_
      obtain ⟨s_16, q_17, h⟩ := mb_cw_e h
      refine rb_callV hK mM_backTo vM_269 (t_M_backTo (dd := dd + 1) q_17) rfl mb_oM rfl (Nat.le_of_ble_eq_true rfl) dM_calmOn_79 rfl ⟨Nat.le_refl _, Nat.le_refl _⟩ ?_
      show K 0 0 82 [.ref 200, .int y1, .int y2, .int w3] [] (mb_s s_16)
      refine ro_iincv (c := 1) hK (by decide) dM_calmOn_82 rfl (by decide) ?_
      show K 0 0 85 [.ref 200, .int y1, .int y2, .int (w3 + 1)] [] (mb_s s_16)
      refine ro_goto (tgt := 49) hK dM_calmOn_85 (by decide) ?_
      refine ro_fg (lv' := [.ref 200, .int y1, .int y2, .int (w3 + 1)]) hK ⟨Or.inr rfl, ⟨Or.inr rfl, ⟨Or.inr rfl, ⟨Or.inr rfl, trivial⟩⟩⟩⟩ ?_
      exact ih _ _ h
set_option maxHeartbeats 4000000 in
set_option maxRecDepth 100000 in
theorem tb_M_calmOn {dd n : Nat} {rec : Int32 → Int32 → mb_T → Option (mb_T)} (hrec : ∀ {x1 x2 : Int32} {s s1 : mb_T}, rec x1 x2 s = some s1 → mb_MC (dd + 2) yM_calmOn bM_calmOn 4 none [.ref 200, .int x1, .int x2] s none s1) {x1 : Int32} {x2 : Int32} {s : mb_T} {out : mb_T}  (h : f_M_calmOn_b n rec x1 x2 s = some out) : mb_MC (dd + 3) yM_calmOn bM_calmOn 4 none [.ref 200, .int x1, .int x2] s none out := by
  unfold f_M_calmOn_b at h
  refine mj_mc (lv := [.ref 200, .int x1, .int x2, .retAddr 0]) mM_calmOn rfl rfl (Nat.le_of_ble_eq_true rfl) (fun K hK hR => ?_)
  have hK : mj_C (dd + 3) 0 0 RM_c "calmOn" bM_calmOn 4 K := hK
  refine ro_aload_n hK dM_calmOn_0 rfl ?_
  obtain ⟨r_3, s_1, q_2, h⟩ := mb_cl_e h
  refine rb_callV hK mM_isOver vM_206 (t_M_isOver (dd := dd + 0) q_2) rfl mb_oM rfl (Nat.le_of_ble_eq_true rfl) dM_calmOn_1 rfl ⟨Nat.le_refl _, Nat.le_refl _⟩ ?_
  show K 0 0 4 [.ref 200, .int x1, .int x2, .retAddr 0] [.int r_3] (mb_s s_1)
  refine ro_if_eq (tgt := 8) hK dM_calmOn_4 (by decide) (fun c_4 => ?_) (fun c_4 => ?_)
  · replace h := mb_ift c_4 h
    refine ro_iload_n hK dM_calmOn_8 rfl ?_
    refine ro_iload_n hK dM_calmOn_9 rfl ?_
    refine ro_icmp_ne (tgt := 42) hK dM_calmOn_10 (by decide) (fun c_5 => ?_) (fun c_5 => ?_)
    · replace h := mb_iff c_5 h
      refine ro_aload_n hK dM_calmOn_42 rfl ?_
      refine ro_iload_n hK dM_calmOn_43 rfl ?_
      obtain ⟨s_6, q_7, h⟩ := mb_cw_e h
      refine rb_callV hK mM_putDepth vM_263 (t_M_putDepth (dd := dd + 1) q_7) rfl mb_oM rfl (Nat.le_of_ble_eq_true rfl) dM_calmOn_44 rfl ⟨Nat.le_refl _, Nat.le_refl _⟩ ?_
      show K 0 0 47 [.ref 200, .int x1, .int x2, .retAddr 0] [] (mb_s s_6)
      refine ro_iconst (x := 0) hK (by decide) dM_calmOn_47 ?_
      refine ro_istore_n hK dM_calmOn_48 (by decide) ?_
      show K 0 0 49 [.ref 200, .int x1, .int x2, .int 0] [] (mb_s s_6)
      refine ro_fg (lv' := [.ref 200, .int x1, .int x2, .int 0]) hK ⟨Or.inr rfl, ⟨Or.inr rfl, ⟨Or.inr rfl, ⟨Or.inr rfl, trivial⟩⟩⟩⟩ ?_
      refine tl_M_calmOn_49 (dd := dd) hK hR hrec (fun x_18 s_19 h => ?_) n _ _ h
      cases h
      exact hR.2.2 0 0 88 _ _ rfl dM_calmOn_88 ⟨rfl, rfl⟩
    · replace h := mb_ift c_5 h
      refine ro_aload_n hK dM_calmOn_13 rfl ?_
      refine rb_get hK fM_31 mb_oM rfl dM_calmOn_14 ?_
      refine ro_aload_n hK dM_calmOn_17 rfl ?_
      obtain ⟨r_22, s_20, q_21, h⟩ := mb_cl_e h
      refine rb_callV hK mM_greatest vM_254 (t_M_greatest (dd := dd + 1) q_21) rfl mb_oM rfl (Nat.le_of_ble_eq_true rfl) dM_calmOn_18 rfl ⟨Nat.le_refl _, Nat.le_refl _⟩ ?_
      show K 0 0 21 [.ref 200, .int x1, .int x2, .retAddr 0] [.int r_22, .ref 213] (mb_s s_20)
      obtain ⟨x_23, e_24, i_25, h⟩ := mb_rd_e h
      refine rb_iald hK ai_213 i_25 e_24 dM_calmOn_21 ?_
      refine ro_istore_n hK dM_calmOn_22 (by decide) ?_
      show K 0 0 23 [.ref 200, .int x1, .int x2, .int x_23] [] (mb_s s_20)
      refine ro_iload_n hK dM_calmOn_23 rfl ?_
      refine ro_aload_n hK dM_calmOn_24 rfl ?_
      refine rb_get hK fM_278 mb_oM rfl dM_calmOn_25 ?_
      refine ro_icmp_ge (tgt := 41) hK dM_calmOn_28 (by decide) (fun c_26 => ?_) (fun c_26 => ?_)
      · replace h := mb_ift c_26 h
        cases h
        exact hR.2.2 0 0 41 _ _ rfl dM_calmOn_41 ⟨rfl, rfl⟩
      · replace h := mb_iff c_26 h
        refine ro_aload_n hK dM_calmOn_31 rfl ?_
        refine ro_iload_n hK dM_calmOn_32 rfl ?_
        obtain ⟨s_27, e_28, h⟩ := mb_bd_e h
        refine rb_put hK gM_278 mb_oM rfl (by show 38 < 45; decide) rfl rfl e_28 dM_calmOn_33 ?_
        refine ro_aload_n hK dM_calmOn_36 rfl ?_
        refine ro_iload_n hK dM_calmOn_37 rfl ?_
        obtain ⟨s_29, q_30, h⟩ := mb_cw_e h
        refine rb_callV hK mM_copyLaid vM_260 (t_M_copyLaid (dd := dd + 1) q_30) rfl mb_oM rfl (Nat.le_of_ble_eq_true rfl) dM_calmOn_38 rfl ⟨Nat.le_refl _, Nat.le_refl _⟩ ?_
        show K 0 0 41 [.ref 200, .int x1, .int x2, .int x_23] [] (mb_s s_29)
        cases h
        exact hR.2.2 0 0 41 _ _ rfl dM_calmOn_41 ⟨rfl, rfl⟩
  · replace h := mb_iff c_4 h
    cases h
    exact hR.2.2 0 0 7 _ _ rfl dM_calmOn_7 ⟨rfl, rfl⟩
set_option maxHeartbeats 4000000 in
set_option maxRecDepth 100000 in
theorem t_M_calmOn {n : Nat} : ∀ (q : Nat) {dd : Nat} {x1 x2 : Int32} {s : mb_T} {out : mb_T} (h : f_M_calmOn n q x1 x2 s = some out), mb_MC (dd + q + 3) yM_calmOn bM_calmOn 4 none [.ref 200, .int x1, .int x2] s none out
  | 0, _, _, _, _, _, h => by cases h
  | q + 1, dd, x1, x2, s, out, h => tb_M_calmOn (dd := dd + q + 1) (rec := f_M_calmOn n q) (fun hq => t_M_calmOn q (dd := dd) hq) h
theorem dM_longOn_0 : decode bM_longOn 0 = .ok (.aload_n 0, 1) := by decide +kernel
theorem dM_longOn_1 : decode bM_longOn 1 = .ok (.invokevirtual 206, 3) := by decide +kernel
theorem dM_longOn_4 : decode bM_longOn 4 = .ok (.ifCond .eq 8, 3) := by decide +kernel
theorem dM_longOn_7 : decode bM_longOn 7 = .ok (.iload_n 1, 1) := by decide +kernel
theorem dM_longOn_8 : decode bM_longOn 8 = .ok (.ifCond .le 4, 3) := by decide +kernel
theorem dM_longOn_11 : decode bM_longOn 11 = .ok (.return_, 1) := by decide +kernel
theorem dM_longOn_12 : decode bM_longOn 12 = .ok (.iload_n 1, 1) := by decide +kernel
theorem dM_longOn_13 : decode bM_longOn 13 = .ok (.aload_n 0, 1) := by decide +kernel
theorem dM_longOn_14 : decode bM_longOn 14 = .ok (.getfield 257, 3) := by decide +kernel
theorem dM_longOn_17 : decode bM_longOn 17 = .ok (.if_icmp .le 13, 3) := by decide +kernel
theorem dM_longOn_20 : decode bM_longOn 20 = .ok (.aload_n 0, 1) := by decide +kernel
theorem dM_longOn_21 : decode bM_longOn 21 = .ok (.iload_n 1, 1) := by decide +kernel
theorem dM_longOn_22 : decode bM_longOn 22 = .ok (.putfield 257, 3) := by decide +kernel
theorem dM_longOn_25 : decode bM_longOn 25 = .ok (.aload_n 0, 1) := by decide +kernel
theorem dM_longOn_26 : decode bM_longOn 26 = .ok (.iload_n 1, 1) := by decide +kernel
theorem dM_longOn_27 : decode bM_longOn 27 = .ok (.invokevirtual 260, 3) := by decide +kernel
theorem dM_longOn_30 : decode bM_longOn 30 = .ok (.iload_n 1, 1) := by decide +kernel
theorem dM_longOn_31 : decode bM_longOn 31 = .ok (.bipush 6, 2) := by decide +kernel
theorem dM_longOn_33 : decode bM_longOn 33 = .ok (.if_icmp .eq 10, 3) := by decide +kernel
theorem dM_longOn_36 : decode bM_longOn 36 = .ok (.aload_n 0, 1) := by decide +kernel
theorem dM_longOn_37 : decode bM_longOn 37 = .ok (.invokevirtual 206, 3) := by decide +kernel
theorem dM_longOn_40 : decode bM_longOn 40 = .ok (.ifCond .eq 4, 3) := by decide +kernel
theorem dM_longOn_43 : decode bM_longOn 43 = .ok (.return_, 1) := by decide +kernel
theorem dM_longOn_44 : decode bM_longOn 44 = .ok (.aload_n 0, 1) := by decide +kernel
theorem dM_longOn_45 : decode bM_longOn 45 = .ok (.iload_n 1, 1) := by decide +kernel
theorem dM_longOn_46 : decode bM_longOn 46 = .ok (.invokevirtual 263, 3) := by decide +kernel
theorem dM_longOn_49 : decode bM_longOn 49 = .ok (.iconst 0, 1) := by decide +kernel
theorem dM_longOn_50 : decode bM_longOn 50 = .ok (.istore_n 2, 1) := by decide +kernel
theorem dM_longOn_51 : decode bM_longOn 51 = .ok (.iload_n 2, 1) := by decide +kernel
theorem dM_longOn_52 : decode bM_longOn 52 = .ok (.aload_n 0, 1) := by decide +kernel
theorem dM_longOn_53 : decode bM_longOn 53 = .ok (.getfield 161, 3) := by decide +kernel
theorem dM_longOn_56 : decode bM_longOn 56 = .ok (.if_icmp .ge 33, 3) := by decide +kernel
theorem dM_longOn_59 : decode bM_longOn 59 = .ok (.aload_n 0, 1) := by decide +kernel
theorem dM_longOn_60 : decode bM_longOn 60 = .ok (.getfield 74, 3) := by decide +kernel
theorem dM_longOn_63 : decode bM_longOn 63 = .ok (.iload_n 1, 1) := by decide +kernel
theorem dM_longOn_64 : decode bM_longOn 64 = .ok (.iload_n 2, 1) := by decide +kernel
theorem dM_longOn_65 : decode bM_longOn 65 = .ok (.iastore, 1) := by decide +kernel
theorem dM_longOn_66 : decode bM_longOn 66 = .ok (.aload_n 0, 1) := by decide +kernel
theorem dM_longOn_67 : decode bM_longOn 67 = .ok (.iload_n 2, 1) := by decide +kernel
theorem dM_longOn_68 : decode bM_longOn 68 = .ok (.invokevirtual 202, 3) := by decide +kernel
theorem dM_longOn_71 : decode bM_longOn 71 = .ok (.aload_n 0, 1) := by decide +kernel
theorem dM_longOn_72 : decode bM_longOn 72 = .ok (.iload_n 1, 1) := by decide +kernel
theorem dM_longOn_73 : decode bM_longOn 73 = .ok (.iconst 1, 1) := by decide +kernel
theorem dM_longOn_74 : decode bM_longOn 74 = .ok (.iadd, 1) := by decide +kernel
theorem dM_longOn_75 : decode bM_longOn 75 = .ok (.invokevirtual 266, 3) := by decide +kernel
theorem dM_longOn_78 : decode bM_longOn 78 = .ok (.aload_n 0, 1) := by decide +kernel
theorem dM_longOn_79 : decode bM_longOn 79 = .ok (.iload_n 1, 1) := by decide +kernel
theorem dM_longOn_80 : decode bM_longOn 80 = .ok (.invokevirtual 269, 3) := by decide +kernel
theorem dM_longOn_83 : decode bM_longOn 83 = .ok (.iinc 2 1, 3) := by decide +kernel
theorem dM_longOn_86 : decode bM_longOn 86 = .ok (.goto (-35), 3) := by decide +kernel
theorem dM_longOn_89 : decode bM_longOn 89 = .ok (.return_, 1) := by decide +kernel
def f_M_longOn_51 (n : Nat) (rec : Int32 → mb_T → Option (mb_T)) (k0 : Int32 → mb_T → Option (mb_T)) (y1 : Int32) : Nat → Int32 → mb_T → Option (mb_T)
  | 0, _, _ => none
  | f + 1, w2, s => if (s.1 200 8) ≤ w2 then k0 w2 s else mb_wr s 235 6 y1 w2 fun s_23 => mb_cw (f_M_passMinute n w2 s_23) fun s_26 => mb_cw (rec (y1 + 1) s_26) fun s_28 => mb_cw (f_M_backTo n y1 s_28) fun s_30 => f_M_longOn_51 n rec k0 y1 f (w2 + 1) s_30
def f_M_longOn_b (n : Nat) (rec : Int32 → mb_T → Option (mb_T)) (x1 : Int32) (s : mb_T) : Option (mb_T) := mb_cl (f_M_isOver n s) fun r_3 s_1 => mb_jn (fun (s_7 : mb_T) => mb_jn (fun (s_14 : mb_T) => if x1 = 6 then some s_14 else mb_cl (f_M_isOver n s_14) fun r_18 s_16 => if r_18 = 0 then (mb_cw (f_M_putDepth n x1 s_16) fun s_20 => f_M_longOn_51 n rec (fun x_32 s_33 => some s_33) x1 n 0 s_20) else some s_16) fun j_8 => if x1 ≤ (s_7.1 200 37) then j_8 s_7 else mb_bd (sF s_7 200 37 x1) fun s_10 => mb_cw (f_M_copyLaid n x1 s_10) fun s_12 => j_8 s_12) fun j_4 => if r_3 = 0 then j_4 s_1 else if x1 ≤ 0 then j_4 s_1 else some s_1
def f_M_longOn (n : Nat) : Nat → Int32 → mb_T → Option (mb_T)
  | 0 => fun _ _ => none
  | q + 1 => f_M_longOn_b n (f_M_longOn n q)
set_option maxHeartbeats 4000000 in
set_option maxRecDepth 100000 in
theorem tl_M_longOn_51 {dd n : Nat} {K : mj_KT} {out : mb_T} (hK : mj_C (dd + 3) 0 0 RM_c "longOn" bM_longOn 3 K) (hR : mj_R bM_longOn none (fun r2 S2 => r2 = none ∧ S2 = mb_s out) K) {rec : Int32 → mb_T → Option (mb_T)} (hrec : ∀ {x1 : Int32} {s s1 : mb_T}, rec x1 s = some s1 → mb_MC (dd + 2) yM_longOn bM_longOn 3 none [.ref 200, .int x1] s none s1) {k0 : Int32 → mb_T → Option (mb_T)} {y1 : Int32} (hk0 : ∀ (w2 : Int32) (s : mb_T), k0 w2 s = some out → K 0 0 89 [.ref 200, .int y1, .int w2] [] (mb_s s)) : ∀ (f : Nat) (w2 : Int32) (s : mb_T), f_M_longOn_51 n rec k0 y1 f w2 s = some out → K 0 0 51 [.ref 200, .int y1, .int w2] [] (mb_s s) := by
  intro f
  induction f with
  | zero =>
    intro w2 s h
    cases h
  | succ f ih =>
    intro w2 s h
    rw [f_M_longOn_51] at h
    refine ro_iload_n hK dM_longOn_51 rfl ?_
    refine ro_aload_n hK dM_longOn_52 rfl ?_
    refine rb_get hK fM_161 mb_oM rfl dM_longOn_53 ?_
    refine ro_icmp_ge (tgt := 89) hK dM_longOn_56 (by decide) (fun c_22 => ?_) (fun c_22 => ?_)
    · replace h := mb_ift c_22 h
      refine ro_fg (lv' := [.ref 200, .int y1, .int w2]) hK ⟨Or.inr rfl, ⟨Or.inr rfl, ⟨Or.inr rfl, trivial⟩⟩⟩ ?_
      exact hk0 _ _ h
    · replace h := mb_iff c_22 h
      refine ro_aload_n hK dM_longOn_59 rfl ?_
      refine rb_get hK fM_74 mb_oM rfl dM_longOn_60 ?_
      refine ro_iload_n hK dM_longOn_63 rfl ?_
      refine ro_iload_n hK dM_longOn_64 rfl ?_
      obtain ⟨s_23, e_24, i_25, h⟩ := mb_wr_e h
      refine rb_iast hK ai_235 i_25 e_24 dM_longOn_65 ?_
      refine ro_aload_n hK dM_longOn_66 rfl ?_
      refine ro_iload_n hK dM_longOn_67 rfl ?_
      obtain ⟨s_26, q_27, h⟩ := mb_cw_e h
      refine rb_callV hK mM_passMinute vM_202 (t_M_passMinute (dd := dd + 0) q_27) rfl mb_oM rfl (Nat.le_of_ble_eq_true rfl) dM_longOn_68 rfl ⟨Nat.le_refl _, Nat.le_refl _⟩ ?_
      show K 0 0 71 [.ref 200, .int y1, .int w2] [] (mb_s s_26)
      refine ro_aload_n hK dM_longOn_71 rfl ?_
      refine ro_iload_n hK dM_longOn_72 rfl ?_
      refine ro_iconst (x := 1) hK (by decide) dM_longOn_73 ?_
      refine ro_iadd hK dM_longOn_74 ?_
      obtain ⟨s_28, q_29, h⟩ := mb_cw_e h
      refine rb_callV hK mM_longOn vM_266 (hrec q_29) rfl mb_oM rfl (Nat.le_of_ble_eq_true rfl) dM_longOn_75 rfl ⟨Nat.le_refl _, Nat.le_refl _⟩ ?_
      show K 0 0 78 [.ref 200, .int y1, .int w2] [] (mb_s s_28)
      refine ro_aload_n hK dM_longOn_78 rfl ?_
      refine ro_iload_n hK dM_longOn_79 rfl ?_
      obtain ⟨s_30, q_31, h⟩ := mb_cw_e h
      refine rb_callV hK mM_backTo vM_269 (t_M_backTo (dd := dd + 1) q_31) rfl mb_oM rfl (Nat.le_of_ble_eq_true rfl) dM_longOn_80 rfl ⟨Nat.le_refl _, Nat.le_refl _⟩ ?_
      show K 0 0 83 [.ref 200, .int y1, .int w2] [] (mb_s s_30)
      refine ro_iincv (c := 1) hK (by decide) dM_longOn_83 rfl (by decide) ?_
      show K 0 0 86 [.ref 200, .int y1, .int (w2 + 1)] [] (mb_s s_30)
      refine ro_goto (tgt := 51) hK dM_longOn_86 (by decide) ?_
      refine ro_fg (lv' := [.ref 200, .int y1, .int (w2 + 1)]) hK ⟨Or.inr rfl, ⟨Or.inr rfl, ⟨Or.inr rfl, trivial⟩⟩⟩ ?_
      exact ih _ _ h
set_option maxHeartbeats 4000000 in
set_option maxRecDepth 100000 in
theorem tb_M_longOn {dd n : Nat} {rec : Int32 → mb_T → Option (mb_T)} (hrec : ∀ {x1 : Int32} {s s1 : mb_T}, rec x1 s = some s1 → mb_MC (dd + 2) yM_longOn bM_longOn 3 none [.ref 200, .int x1] s none s1) {x1 : Int32} {s : mb_T} {out : mb_T}  (h : f_M_longOn_b n rec x1 s = some out) : mb_MC (dd + 3) yM_longOn bM_longOn 3 none [.ref 200, .int x1] s none out := by
  unfold f_M_longOn_b at h
  refine mj_mc (lv := [.ref 200, .int x1, .retAddr 0]) mM_longOn rfl rfl (Nat.le_of_ble_eq_true rfl) (fun K hK hR => ?_)
  have hK : mj_C (dd + 3) 0 0 RM_c "longOn" bM_longOn 3 K := hK
  refine ro_aload_n hK dM_longOn_0 rfl ?_
  obtain ⟨r_3, s_1, q_2, h⟩ := mb_cl_e h
  refine rb_callV hK mM_isOver vM_206 (t_M_isOver (dd := dd + 0) q_2) rfl mb_oM rfl (Nat.le_of_ble_eq_true rfl) dM_longOn_1 rfl ⟨Nat.le_refl _, Nat.le_refl _⟩ ?_
  show K 0 0 4 [.ref 200, .int x1, .retAddr 0] [.int r_3] (mb_s s_1)
  obtain ⟨j_4, e_35, h⟩ := mb_jn_e h
  have hj_4 : ∀ (s_7 : mb_T), j_4 s_7 = some out → K 0 0 12 [.ref 200, .int x1, .retAddr 0] [] (mb_s s_7) := by
    intro s_7 h
    rw [e_35] at h
    refine ro_iload_n hK dM_longOn_12 rfl ?_
    refine ro_aload_n hK dM_longOn_13 rfl ?_
    refine rb_get hK fM_257 mb_oM rfl dM_longOn_14 ?_
    obtain ⟨j_8, e_34, h⟩ := mb_jn_e h
    have hj_8 : ∀ (s_14 : mb_T), j_8 s_14 = some out → K 0 0 30 [.ref 200, .int x1, .retAddr 0] [] (mb_s s_14) := by
      intro s_14 h
      rw [e_34] at h
      refine ro_iload_n hK dM_longOn_30 rfl ?_
      refine ro_bipush (x := 6) hK (by decide) dM_longOn_31 ?_
      refine ro_icmp_eq (tgt := 43) hK dM_longOn_33 (by decide) (fun c_15 => ?_) (fun c_15 => ?_)
      · replace h := mb_ift c_15 h
        cases h
        exact hR.2.2 0 0 43 _ _ rfl dM_longOn_43 ⟨rfl, rfl⟩
      · replace h := mb_iff c_15 h
        refine ro_aload_n hK dM_longOn_36 rfl ?_
        obtain ⟨r_18, s_16, q_17, h⟩ := mb_cl_e h
        refine rb_callV hK mM_isOver vM_206 (t_M_isOver (dd := dd + 0) q_17) rfl mb_oM rfl (Nat.le_of_ble_eq_true rfl) dM_longOn_37 rfl ⟨Nat.le_refl _, Nat.le_refl _⟩ ?_
        show K 0 0 40 [.ref 200, .int x1, .retAddr 0] [.int r_18] (mb_s s_16)
        refine ro_if_eq (tgt := 44) hK dM_longOn_40 (by decide) (fun c_19 => ?_) (fun c_19 => ?_)
        · replace h := mb_ift c_19 h
          refine ro_aload_n hK dM_longOn_44 rfl ?_
          refine ro_iload_n hK dM_longOn_45 rfl ?_
          obtain ⟨s_20, q_21, h⟩ := mb_cw_e h
          refine rb_callV hK mM_putDepth vM_263 (t_M_putDepth (dd := dd + 1) q_21) rfl mb_oM rfl (Nat.le_of_ble_eq_true rfl) dM_longOn_46 rfl ⟨Nat.le_refl _, Nat.le_refl _⟩ ?_
          show K 0 0 49 [.ref 200, .int x1, .retAddr 0] [] (mb_s s_20)
          refine ro_iconst (x := 0) hK (by decide) dM_longOn_49 ?_
          refine ro_istore_n hK dM_longOn_50 (by decide) ?_
          show K 0 0 51 [.ref 200, .int x1, .int 0] [] (mb_s s_20)
          refine ro_fg (lv' := [.ref 200, .int x1, .int 0]) hK ⟨Or.inr rfl, ⟨Or.inr rfl, ⟨Or.inr rfl, trivial⟩⟩⟩ ?_
          refine tl_M_longOn_51 (dd := dd) hK hR hrec (fun x_32 s_33 h => ?_) n _ _ h
          cases h
          exact hR.2.2 0 0 89 _ _ rfl dM_longOn_89 ⟨rfl, rfl⟩
        · replace h := mb_iff c_19 h
          cases h
          exact hR.2.2 0 0 43 _ _ rfl dM_longOn_43 ⟨rfl, rfl⟩
    refine ro_icmp_le (tgt := 30) hK dM_longOn_17 (by decide) (fun c_9 => ?_) (fun c_9 => ?_)
    · replace h := mb_ift c_9 h
      refine ro_fg (lv' := [.ref 200, .int x1, .retAddr 0]) hK ⟨Or.inr rfl, ⟨Or.inr rfl, ⟨Or.inl rfl, trivial⟩⟩⟩ ?_
      exact hj_8 _ h
    · replace h := mb_iff c_9 h
      refine ro_aload_n hK dM_longOn_20 rfl ?_
      refine ro_iload_n hK dM_longOn_21 rfl ?_
      obtain ⟨s_10, e_11, h⟩ := mb_bd_e h
      refine rb_put hK gM_257 mb_oM rfl (by show 37 < 45; decide) rfl rfl e_11 dM_longOn_22 ?_
      refine ro_aload_n hK dM_longOn_25 rfl ?_
      refine ro_iload_n hK dM_longOn_26 rfl ?_
      obtain ⟨s_12, q_13, h⟩ := mb_cw_e h
      refine rb_callV hK mM_copyLaid vM_260 (t_M_copyLaid (dd := dd + 1) q_13) rfl mb_oM rfl (Nat.le_of_ble_eq_true rfl) dM_longOn_27 rfl ⟨Nat.le_refl _, Nat.le_refl _⟩ ?_
      show K 0 0 30 [.ref 200, .int x1, .retAddr 0] [] (mb_s s_12)
      refine ro_fg (lv' := [.ref 200, .int x1, .retAddr 0]) hK ⟨Or.inr rfl, ⟨Or.inr rfl, ⟨Or.inl rfl, trivial⟩⟩⟩ ?_
      exact hj_8 _ h
  refine ro_if_eq (tgt := 12) hK dM_longOn_4 (by decide) (fun c_5 => ?_) (fun c_5 => ?_)
  · replace h := mb_ift c_5 h
    refine ro_fg (lv' := [.ref 200, .int x1, .retAddr 0]) hK ⟨Or.inr rfl, ⟨Or.inr rfl, ⟨Or.inl rfl, trivial⟩⟩⟩ ?_
    exact hj_4 _ h
  · replace h := mb_iff c_5 h
    refine ro_iload_n hK dM_longOn_7 rfl ?_
    refine ro_if_le (tgt := 12) hK dM_longOn_8 (by decide) (fun c_6 => ?_) (fun c_6 => ?_)
    · replace h := mb_ift c_6 h
      refine ro_fg (lv' := [.ref 200, .int x1, .retAddr 0]) hK ⟨Or.inr rfl, ⟨Or.inr rfl, ⟨Or.inl rfl, trivial⟩⟩⟩ ?_
      exact hj_4 _ h
    · replace h := mb_iff c_6 h
      cases h
      exact hR.2.2 0 0 11 _ _ rfl dM_longOn_11 ⟨rfl, rfl⟩
set_option maxHeartbeats 4000000 in
set_option maxRecDepth 100000 in
theorem t_M_longOn {n : Nat} : ∀ (q : Nat) {dd : Nat} {x1 : Int32} {s : mb_T} {out : mb_T} (h : f_M_longOn n q x1 s = some out), mb_MC (dd + q + 3) yM_longOn bM_longOn 3 none [.ref 200, .int x1] s none out
  | 0, _, _, _, _, h => by cases h
  | q + 1, dd, x1, s, out, h => tb_M_longOn (dd := dd + q + 1) (rec := f_M_longOn n q) (fun hq => t_M_longOn q (dd := dd) hq) h
theorem dS_handFrom_0 : decode bS_handFrom 0 = .ok (.aload_n 0, 1) := by decide +kernel
theorem dS_handFrom_1 : decode bS_handFrom 1 = .ok (.aload_n 1, 1) := by decide +kernel
theorem dS_handFrom_2 : decode bS_handFrom 2 = .ok (.iload_n 2, 1) := by decide +kernel
theorem dS_handFrom_3 : decode bS_handFrom 3 = .ok (.invokevirtual 52, 3) := by decide +kernel
theorem dS_handFrom_6 : decode bS_handFrom 6 = .ok (.iload_n 2, 1) := by decide +kernel
theorem dS_handFrom_7 : decode bS_handFrom 7 = .ok (.aload_n 0, 1) := by decide +kernel
theorem dS_handFrom_8 : decode bS_handFrom 8 = .ok (.getfield 22, 3) := by decide +kernel
theorem dS_handFrom_11 : decode bS_handFrom 11 = .ok (.if_icmp .ge 9, 3) := by decide +kernel
theorem dS_handFrom_14 : decode bS_handFrom 14 = .ok (.iload_n 2, 1) := by decide +kernel
theorem dS_handFrom_15 : decode bS_handFrom 15 = .ok (.bipush 6, 2) := by decide +kernel
theorem dS_handFrom_17 : decode bS_handFrom 17 = .ok (.if_icmp .lt 4, 3) := by decide +kernel
theorem dS_handFrom_20 : decode bS_handFrom 20 = .ok (.return_, 1) := by decide +kernel
theorem dS_handFrom_21 : decode bS_handFrom 21 = .ok (.aload_n 1, 1) := by decide +kernel
theorem dS_handFrom_22 : decode bS_handFrom 22 = .ok (.iload_n 2, 1) := by decide +kernel
theorem dS_handFrom_23 : decode bS_handFrom 23 = .ok (.invokevirtual 55, 3) := by decide +kernel
theorem dS_handFrom_26 : decode bS_handFrom 26 = .ok (.iconst 0, 1) := by decide +kernel
theorem dS_handFrom_27 : decode bS_handFrom 27 = .ok (.istore_n 3, 1) := by decide +kernel
theorem dS_handFrom_28 : decode bS_handFrom 28 = .ok (.iload_n 3, 1) := by decide +kernel
theorem dS_handFrom_29 : decode bS_handFrom 29 = .ok (.aload_n 1, 1) := by decide +kernel
theorem dS_handFrom_30 : decode bS_handFrom 30 = .ok (.getfield 59, 3) := by decide +kernel
theorem dS_handFrom_33 : decode bS_handFrom 33 = .ok (.if_icmp .ge 48, 3) := by decide +kernel
theorem dS_handFrom_36 : decode bS_handFrom 36 = .ok (.aload_n 0, 1) := by decide +kernel
theorem dS_handFrom_37 : decode bS_handFrom 37 = .ok (.invokevirtual 62, 3) := by decide +kernel
theorem dS_handFrom_40 : decode bS_handFrom 40 = .ok (.ifCond .ne 41, 3) := by decide +kernel
theorem dS_handFrom_43 : decode bS_handFrom 43 = .ok (.aload_n 0, 1) := by decide +kernel
theorem dS_handFrom_44 : decode bS_handFrom 44 = .ok (.getfield 9, 3) := by decide +kernel
theorem dS_handFrom_47 : decode bS_handFrom 47 = .ok (.iload_n 2, 1) := by decide +kernel
theorem dS_handFrom_48 : decode bS_handFrom 48 = .ok (.iload_n 3, 1) := by decide +kernel
theorem dS_handFrom_49 : decode bS_handFrom 49 = .ok (.iastore, 1) := by decide +kernel
theorem dS_handFrom_50 : decode bS_handFrom 50 = .ok (.aload_n 1, 1) := by decide +kernel
theorem dS_handFrom_51 : decode bS_handFrom 51 = .ok (.iload_n 3, 1) := by decide +kernel
theorem dS_handFrom_52 : decode bS_handFrom 52 = .ok (.invokevirtual 65, 3) := by decide +kernel
theorem dS_handFrom_55 : decode bS_handFrom 55 = .ok (.aload_n 1, 1) := by decide +kernel
theorem dS_handFrom_56 : decode bS_handFrom 56 = .ok (.invokevirtual 42, 3) := by decide +kernel
theorem dS_handFrom_59 : decode bS_handFrom 59 = .ok (.ifCond .ne 11, 3) := by decide +kernel
theorem dS_handFrom_62 : decode bS_handFrom 62 = .ok (.aload_n 0, 1) := by decide +kernel
theorem dS_handFrom_63 : decode bS_handFrom 63 = .ok (.aload_n 1, 1) := by decide +kernel
theorem dS_handFrom_64 : decode bS_handFrom 64 = .ok (.iload_n 2, 1) := by decide +kernel
theorem dS_handFrom_65 : decode bS_handFrom 65 = .ok (.iconst 1, 1) := by decide +kernel
theorem dS_handFrom_66 : decode bS_handFrom 66 = .ok (.iadd, 1) := by decide +kernel
theorem dS_handFrom_67 : decode bS_handFrom 67 = .ok (.invokevirtual 48, 3) := by decide +kernel
theorem dS_handFrom_70 : decode bS_handFrom 70 = .ok (.aload_n 1, 1) := by decide +kernel
theorem dS_handFrom_71 : decode bS_handFrom 71 = .ok (.iload_n 2, 1) := by decide +kernel
theorem dS_handFrom_72 : decode bS_handFrom 72 = .ok (.invokevirtual 68, 3) := by decide +kernel
theorem dS_handFrom_75 : decode bS_handFrom 75 = .ok (.iinc 3 1, 3) := by decide +kernel
theorem dS_handFrom_78 : decode bS_handFrom 78 = .ok (.goto (-50), 3) := by decide +kernel
theorem dS_handFrom_81 : decode bS_handFrom 81 = .ok (.return_, 1) := by decide +kernel
def f_S_handFrom_28 (n : Nat) (rec : Int32 → mb_T → Option (mb_T)) (k0 : Int32 → mb_T → Option (mb_T)) (y2 : Int32) : Nat → Int32 → mb_T → Option (mb_T)
  | 0, _, _ => none
  | f + 1, w3, s => if (s.1 40 0) ≤ w3 then k0 w3 s else mb_cl (f_S_isSettled n s) fun r_10 s_8 => if r_10 = 0 then (mb_wr s_8 61 6 y2 w3 fun s_12 => mb_cw (f_A_pass n w3 s_12) fun s_15 => mb_cl (f_A_isOver n s_15) fun r_19 s_17 => mb_jn (fun (s_24 : mb_T) => mb_cw (f_A_restore n y2 s_24) fun s_25 => f_S_handFrom_28 n rec k0 y2 f (w3 + 1) s_25) fun j_20 => if r_19 = 0 then (mb_cw (rec (y2 + 1) s_17) fun s_22 => j_20 s_22) else j_20 s_17) else k0 w3 s_8
def f_S_handFrom_b (n : Nat) (rec : Int32 → mb_T → Option (mb_T)) (x2 : Int32) (s : mb_T) : Option (mb_T) := mb_cw (f_S_weigh n x2 s) fun s_1 => if (s_1.1 60 2) ≤ x2 then some s_1 else if x2 < 6 then (mb_cw (f_A_save n x2 s_1) fun s_5 => f_S_handFrom_28 n rec (fun x_28 s_29 => some s_29) x2 n 0 s_5) else some s_1
def f_S_handFrom (n : Nat) : Nat → Int32 → mb_T → Option (mb_T)
  | 0 => fun _ _ => none
  | q + 1 => f_S_handFrom_b n (f_S_handFrom n q)
set_option maxHeartbeats 4000000 in
set_option maxRecDepth 100000 in
theorem tl_S_handFrom_28 {dd n : Nat} {K : mj_KT} {out : mb_T} (hK : mj_C (dd + 4) 0 0 RS_c "handFrom" bS_handFrom 4 K) (hR : mj_R bS_handFrom none (fun r2 S2 => r2 = none ∧ S2 = mb_s out) K) {rec : Int32 → mb_T → Option (mb_T)} (hrec : ∀ {x2 : Int32} {s s1 : mb_T}, rec x2 s = some s1 → mb_MC (dd + 3) yS_handFrom bS_handFrom 4 none [.ref 60, .ref 40, .int x2] s none s1) {k0 : Int32 → mb_T → Option (mb_T)} {y2 : Int32} (hk0 : ∀ (w3 : Int32) (s : mb_T), k0 w3 s = some out → K 0 0 81 [.ref 60, .ref 40, .int y2, .int w3] [] (mb_s s)) : ∀ (f : Nat) (w3 : Int32) (s : mb_T), f_S_handFrom_28 n rec k0 y2 f w3 s = some out → K 0 0 28 [.ref 60, .ref 40, .int y2, .int w3] [] (mb_s s) := by
  intro f
  induction f with
  | zero =>
    intro w3 s h
    cases h
  | succ f ih =>
    intro w3 s h
    rw [f_S_handFrom_28] at h
    refine ro_iload_n hK dS_handFrom_28 rfl ?_
    refine ro_aload_n hK dS_handFrom_29 rfl ?_
    refine rb_get hK fS_59 mb_oA rfl dS_handFrom_30 ?_
    refine ro_icmp_ge (tgt := 81) hK dS_handFrom_33 (by decide) (fun c_7 => ?_) (fun c_7 => ?_)
    · replace h := mb_ift c_7 h
      refine ro_fg (lv' := [.ref 60, .ref 40, .int y2, .int w3]) hK ⟨Or.inr rfl, ⟨Or.inr rfl, ⟨Or.inr rfl, ⟨Or.inr rfl, trivial⟩⟩⟩⟩ ?_
      exact hk0 _ _ h
    · replace h := mb_iff c_7 h
      refine ro_aload_n hK dS_handFrom_36 rfl ?_
      obtain ⟨r_10, s_8, q_9, h⟩ := mb_cl_e h
      refine rb_callV hK mS_isSettled vS_62 (t_S_isSettled (dd := dd + 2) q_9) rfl mb_oS rfl (Nat.le_of_ble_eq_true rfl) dS_handFrom_37 rfl ⟨Nat.le_refl _, Nat.le_refl _⟩ ?_
      show K 0 0 40 [.ref 60, .ref 40, .int y2, .int w3] [.int r_10] (mb_s s_8)
      refine ro_if_ne (tgt := 81) hK dS_handFrom_40 (by decide) (fun c_11 => ?_) (fun c_11 => ?_)
      · replace h := mb_iff c_11 h
        refine ro_fg (lv' := [.ref 60, .ref 40, .int y2, .int w3]) hK ⟨Or.inr rfl, ⟨Or.inr rfl, ⟨Or.inr rfl, ⟨Or.inr rfl, trivial⟩⟩⟩⟩ ?_
        exact hk0 _ _ h
      · replace h := mb_ift c_11 h
        refine ro_aload_n hK dS_handFrom_43 rfl ?_
        refine rb_get hK fS_9 mb_oS rfl dS_handFrom_44 ?_
        refine ro_iload_n hK dS_handFrom_47 rfl ?_
        refine ro_iload_n hK dS_handFrom_48 rfl ?_
        obtain ⟨s_12, e_13, i_14, h⟩ := mb_wr_e h
        refine rb_iast hK ai_61 i_14 e_13 dS_handFrom_49 ?_
        refine ro_aload_n hK dS_handFrom_50 rfl ?_
        refine ro_iload_n hK dS_handFrom_51 rfl ?_
        obtain ⟨s_15, q_16, h⟩ := mb_cw_e h
        refine rb_callV hK mA_pass vS_65 (t_A_pass (dd := dd + 1) q_16) rfl mb_oA rfl (Nat.le_of_ble_eq_true rfl) dS_handFrom_52 rfl ⟨Nat.le_refl _, Nat.le_refl _⟩ ?_
        show K 0 0 55 [.ref 60, .ref 40, .int y2, .int w3] [] (mb_s s_15)
        refine ro_aload_n hK dS_handFrom_55 rfl ?_
        obtain ⟨r_19, s_17, q_18, h⟩ := mb_cl_e h
        refine rb_callV hK mA_isOver vS_42 (t_A_isOver (dd := dd + 1) q_18) rfl mb_oA rfl (Nat.le_of_ble_eq_true rfl) dS_handFrom_56 rfl ⟨Nat.le_refl _, Nat.le_refl _⟩ ?_
        show K 0 0 59 [.ref 60, .ref 40, .int y2, .int w3] [.int r_19] (mb_s s_17)
        obtain ⟨j_20, e_27, h⟩ := mb_jn_e h
        have hj_20 : ∀ (s_24 : mb_T), j_20 s_24 = some out → K 0 0 70 [.ref 60, .ref 40, .int y2, .int w3] [] (mb_s s_24) := by
          intro s_24 h
          rw [e_27] at h
          refine ro_aload_n hK dS_handFrom_70 rfl ?_
          refine ro_iload_n hK dS_handFrom_71 rfl ?_
          obtain ⟨s_25, q_26, h⟩ := mb_cw_e h
          refine rb_callV hK mA_restore vS_68 (t_A_restore (dd := dd + 2) q_26) rfl mb_oA rfl (Nat.le_of_ble_eq_true rfl) dS_handFrom_72 rfl ⟨Nat.le_refl _, Nat.le_refl _⟩ ?_
          show K 0 0 75 [.ref 60, .ref 40, .int y2, .int w3] [] (mb_s s_25)
          refine ro_iincv (c := 1) hK (by decide) dS_handFrom_75 rfl (by decide) ?_
          show K 0 0 78 [.ref 60, .ref 40, .int y2, .int (w3 + 1)] [] (mb_s s_25)
          refine ro_goto (tgt := 28) hK dS_handFrom_78 (by decide) ?_
          refine ro_fg (lv' := [.ref 60, .ref 40, .int y2, .int (w3 + 1)]) hK ⟨Or.inr rfl, ⟨Or.inr rfl, ⟨Or.inr rfl, ⟨Or.inr rfl, trivial⟩⟩⟩⟩ ?_
          exact ih _ _ h
        refine ro_if_ne (tgt := 70) hK dS_handFrom_59 (by decide) (fun c_21 => ?_) (fun c_21 => ?_)
        · replace h := mb_iff c_21 h
          refine ro_fg (lv' := [.ref 60, .ref 40, .int y2, .int w3]) hK ⟨Or.inr rfl, ⟨Or.inr rfl, ⟨Or.inr rfl, ⟨Or.inr rfl, trivial⟩⟩⟩⟩ ?_
          exact hj_20 _ h
        · replace h := mb_ift c_21 h
          refine ro_aload_n hK dS_handFrom_62 rfl ?_
          refine ro_aload_n hK dS_handFrom_63 rfl ?_
          refine ro_iload_n hK dS_handFrom_64 rfl ?_
          refine ro_iconst (x := 1) hK (by decide) dS_handFrom_65 ?_
          refine ro_iadd hK dS_handFrom_66 ?_
          obtain ⟨s_22, q_23, h⟩ := mb_cw_e h
          refine rb_callV hK mS_handFrom vS_48 (hrec q_23) rfl mb_oS rfl (Nat.le_of_ble_eq_true rfl) dS_handFrom_67 rfl ⟨Nat.le_refl _, Nat.le_refl _⟩ ?_
          show K 0 0 70 [.ref 60, .ref 40, .int y2, .int w3] [] (mb_s s_22)
          refine ro_fg (lv' := [.ref 60, .ref 40, .int y2, .int w3]) hK ⟨Or.inr rfl, ⟨Or.inr rfl, ⟨Or.inr rfl, ⟨Or.inr rfl, trivial⟩⟩⟩⟩ ?_
          exact hj_20 _ h
set_option maxHeartbeats 4000000 in
set_option maxRecDepth 100000 in
theorem tb_S_handFrom {dd n : Nat} {rec : Int32 → mb_T → Option (mb_T)} (hrec : ∀ {x2 : Int32} {s s1 : mb_T}, rec x2 s = some s1 → mb_MC (dd + 3) yS_handFrom bS_handFrom 4 none [.ref 60, .ref 40, .int x2] s none s1) {x2 : Int32} {s : mb_T} {out : mb_T}  (h : f_S_handFrom_b n rec x2 s = some out) : mb_MC (dd + 4) yS_handFrom bS_handFrom 4 none [.ref 60, .ref 40, .int x2] s none out := by
  unfold f_S_handFrom_b at h
  refine mj_mc (lv := [.ref 60, .ref 40, .int x2, .retAddr 0]) mS_handFrom rfl rfl (Nat.le_of_ble_eq_true rfl) (fun K hK hR => ?_)
  have hK : mj_C (dd + 4) 0 0 RS_c "handFrom" bS_handFrom 4 K := hK
  refine ro_aload_n hK dS_handFrom_0 rfl ?_
  refine ro_aload_n hK dS_handFrom_1 rfl ?_
  refine ro_iload_n hK dS_handFrom_2 rfl ?_
  obtain ⟨s_1, q_2, h⟩ := mb_cw_e h
  refine rb_callV hK mS_weigh vS_52 (t_S_weigh (dd := dd + 0) q_2) rfl mb_oS rfl (Nat.le_of_ble_eq_true rfl) dS_handFrom_3 rfl ⟨Nat.le_refl _, Nat.le_refl _⟩ ?_
  show K 0 0 6 [.ref 60, .ref 40, .int x2, .retAddr 0] [] (mb_s s_1)
  refine ro_iload_n hK dS_handFrom_6 rfl ?_
  refine ro_aload_n hK dS_handFrom_7 rfl ?_
  refine rb_get hK fS_22 mb_oS rfl dS_handFrom_8 ?_
  refine ro_icmp_ge (tgt := 20) hK dS_handFrom_11 (by decide) (fun c_3 => ?_) (fun c_3 => ?_)
  · replace h := mb_ift c_3 h
    cases h
    exact hR.2.2 0 0 20 _ _ rfl dS_handFrom_20 ⟨rfl, rfl⟩
  · replace h := mb_iff c_3 h
    refine ro_iload_n hK dS_handFrom_14 rfl ?_
    refine ro_bipush (x := 6) hK (by decide) dS_handFrom_15 ?_
    refine ro_icmp_lt (tgt := 21) hK dS_handFrom_17 (by decide) (fun c_4 => ?_) (fun c_4 => ?_)
    · replace h := mb_ift c_4 h
      refine ro_aload_n hK dS_handFrom_21 rfl ?_
      refine ro_iload_n hK dS_handFrom_22 rfl ?_
      obtain ⟨s_5, q_6, h⟩ := mb_cw_e h
      refine rb_callV hK mA_save vS_55 (t_A_save (dd := dd + 2) q_6) rfl mb_oA rfl (Nat.le_of_ble_eq_true rfl) dS_handFrom_23 rfl ⟨Nat.le_refl _, Nat.le_refl _⟩ ?_
      show K 0 0 26 [.ref 60, .ref 40, .int x2, .retAddr 0] [] (mb_s s_5)
      refine ro_iconst (x := 0) hK (by decide) dS_handFrom_26 ?_
      refine ro_istore_n hK dS_handFrom_27 (by decide) ?_
      show K 0 0 28 [.ref 60, .ref 40, .int x2, .int 0] [] (mb_s s_5)
      refine ro_fg (lv' := [.ref 60, .ref 40, .int x2, .int 0]) hK ⟨Or.inr rfl, ⟨Or.inr rfl, ⟨Or.inr rfl, ⟨Or.inr rfl, trivial⟩⟩⟩⟩ ?_
      refine tl_S_handFrom_28 (dd := dd) hK hR hrec (fun x_28 s_29 h => ?_) n _ _ h
      cases h
      exact hR.2.2 0 0 81 _ _ rfl dS_handFrom_81 ⟨rfl, rfl⟩
    · replace h := mb_iff c_4 h
      cases h
      exact hR.2.2 0 0 20 _ _ rfl dS_handFrom_20 ⟨rfl, rfl⟩
set_option maxHeartbeats 4000000 in
set_option maxRecDepth 100000 in
theorem t_S_handFrom {n : Nat} : ∀ (q : Nat) {dd : Nat} {x2 : Int32} {s : mb_T} {out : mb_T} (h : f_S_handFrom n q x2 s = some out), mb_MC (dd + q + 4) yS_handFrom bS_handFrom 4 none [.ref 60, .ref 40, .int x2] s none out
  | 0, _, _, _, _, h => by cases h
  | q + 1, dd, x2, s, out, h => tb_S_handFrom (dd := dd + q + 1) (rec := f_S_handFrom n q) (fun hq => t_S_handFrom q (dd := dd) hq) h
