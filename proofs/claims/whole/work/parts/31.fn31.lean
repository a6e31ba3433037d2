theorem dR_read_0 : decode bR_read 0 = .ok (.aload_n 0, 1) := by decide +kernel
theorem dR_read_1 : decode bR_read 1 = .ok (.aload_n 1, 1) := by decide +kernel
theorem dR_read_2 : decode bR_read 2 = .ok (.putfield 9, 3) := by decide +kernel
theorem dR_read_5 : decode bR_read 5 = .ok (.aload_n 0, 1) := by decide +kernel
theorem dR_read_6 : decode bR_read 6 = .ok (.iload_n 2, 1) := by decide +kernel
theorem dR_read_7 : decode bR_read 7 = .ok (.aload_n 1, 1) := by decide +kernel
theorem dR_read_8 : decode bR_read 8 = .ok (.arraylength, 1) := by decide +kernel
theorem dR_read_9 : decode bR_read 9 = .ok (.invokestatic 15, 3) := by decide +kernel
theorem dR_read_12 : decode bR_read 12 = .ok (.putfield 21, 3) := by decide +kernel
theorem dR_read_15 : decode bR_read 15 = .ok (.aload_n 0, 1) := by decide +kernel
theorem dR_read_16 : decode bR_read 16 = .ok (.iconst 0, 1) := by decide +kernel
theorem dR_read_17 : decode bR_read 17 = .ok (.putfield 25, 3) := by decide +kernel
theorem dR_read_20 : decode bR_read 20 = .ok (.aload_n 0, 1) := by decide +kernel
theorem dR_read_21 : decode bR_read 21 = .ok (.bipush (-9), 2) := by decide +kernel
theorem dR_read_23 : decode bR_read 23 = .ok (.putfield 28, 3) := by decide +kernel
theorem dR_read_26 : decode bR_read 26 = .ok (.aload_n 3, 1) := by decide +kernel
theorem dR_read_27 : decode bR_read 27 = .ok (.invokevirtual 31, 3) := by decide +kernel
theorem dR_read_30 : decode bR_read 30 = .ok (.aload_n 0, 1) := by decide +kernel
theorem dR_read_31 : decode bR_read 31 = .ok (.aload_n 3, 1) := by decide +kernel
theorem dR_read_32 : decode bR_read 32 = .ok (.invokevirtual 36, 3) := by decide +kernel
theorem dR_read_35 : decode bR_read 35 = .ok (.iconst 0, 1) := by decide +kernel
theorem dR_read_36 : decode bR_read 36 = .ok (.istore 4, 2) := by decide +kernel
theorem dR_read_38 : decode bR_read 38 = .ok (.iload 4, 2) := by decide +kernel
theorem dR_read_40 : decode bR_read 40 = .ok (.iconst 5, 1) := by decide +kernel
theorem dR_read_41 : decode bR_read 41 = .ok (.if_icmp .gt 43, 3) := by decide +kernel
theorem dR_read_44 : decode bR_read 44 = .ok (.aload_n 0, 1) := by decide +kernel
theorem dR_read_45 : decode bR_read 45 = .ok (.getfield 28, 3) := by decide +kernel
theorem dR_read_48 : decode bR_read 48 = .ok (.bipush (-9), 2) := by decide +kernel
theorem dR_read_50 : decode bR_read 50 = .ok (.if_icmp .ne 34, 3) := by decide +kernel
theorem dR_read_53 : decode bR_read 53 = .ok (.aload_n 0, 1) := by decide +kernel
theorem dR_read_54 : decode bR_read 54 = .ok (.invokevirtual 40, 3) := by decide +kernel
theorem dR_read_57 : decode bR_read 57 = .ok (.aload_n 0, 1) := by decide +kernel
theorem dR_read_58 : decode bR_read 58 = .ok (.getfield 25, 3) := by decide +kernel
theorem dR_read_61 : decode bR_read 61 = .ok (.aload_n 0, 1) := by decide +kernel
theorem dR_read_62 : decode bR_read 62 = .ok (.getfield 21, 3) := by decide +kernel
theorem dR_read_65 : decode bR_read 65 = .ok (.if_icmp .lt 6, 3) := by decide +kernel
theorem dR_read_68 : decode bR_read 68 = .ok (.goto 16, 3) := by decide +kernel
theorem dR_read_71 : decode bR_read 71 = .ok (.aload_n 0, 1) := by decide +kernel
theorem dR_read_72 : decode bR_read 72 = .ok (.aload_n 3, 1) := by decide +kernel
theorem dR_read_73 : decode bR_read 73 = .ok (.iload 4, 2) := by decide +kernel
theorem dR_read_75 : decode bR_read 75 = .ok (.invokevirtual 43, 3) := by decide +kernel
theorem dR_read_78 : decode bR_read 78 = .ok (.iinc 4 1, 3) := by decide +kernel
theorem dR_read_81 : decode bR_read 81 = .ok (.goto (-43), 3) := by decide +kernel
theorem dR_read_84 : decode bR_read 84 = .ok (.aload_n 3, 1) := by decide +kernel
theorem dR_read_85 : decode bR_read 85 = .ok (.getfield 47, 3) := by decide +kernel
theorem dR_read_88 : decode bR_read 88 = .ok (.ifCond .ne 7, 3) := by decide +kernel
theorem dR_read_91 : decode bR_read 91 = .ok (.aload_n 3, 1) := by decide +kernel
theorem dR_read_92 : decode bR_read 92 = .ok (.invokevirtual 31, 3) := by decide +kernel
theorem dR_read_95 : decode bR_read 95 = .ok (.aload_n 0, 1) := by decide +kernel
theorem dR_read_96 : decode bR_read 96 = .ok (.getfield 28, 3) := by decide +kernel
theorem dR_read_99 : decode bR_read 99 = .ok (.ireturn, 1) := by decide +kernel
def f_R_read_38 (n : Nat) (k0 : Int32 → mb_T → Option (Int32 × mb_T)) (k1 : Int32 → mb_T → Option (Int32 × mb_T)) (y3 : Nat) : Nat → Int32 → mb_T → Option (Int32 × mb_T)
  | 0, _, _ => none
  | f + 1, w4, s => if 5 < w4 then k1 w4 s else if (s.1 36 3) = (-9) then (mb_cw (f_R_skipBlanks n s) fun s_15 => if (s_15.1 36 2) < (s_15.1 36 1) then (mb_cw (f_R_readOne n y3 w4 s_15) fun s_18 => f_R_read_38 n k0 k1 y3 f (w4 + 1) s_18) else k0 w4 s_15) else k1 w4 s
def f_R_read (n : Nat) (a1 : Nat) (x2 : Int32) (c3 : Nat) (s : mb_T) : Option (Int32 × mb_T) := mb_bd (sG s 36 a1) fun s_1 => mb_bd (sF s_1 36 1 (if (Int32.ofNat 80) < x2 then (Int32.ofNat 80) else x2 : Int32)) fun s_3 => mb_bd (sF s_3 36 2 0) fun s_5 => mb_bd (sF s_5 36 3 (-9)) fun s_7 => mb_cw (f_V_clear n c3 s_7) fun s_9 => mb_cw (f_R_readHead n c3 s_9) fun s_11 => f_R_read_38 n (fun x_20 s_21 => if (s_21.1 c3 0) = 0 then (mb_cw (f_V_clear n c3 s_21) fun s_23 => some ((s_23.1 36 3), s_23)) else some ((s_21.1 36 3), s_21)) (fun x_25 s_26 => if (s_26.1 c3 0) = 0 then (mb_cw (f_V_clear n c3 s_26) fun s_28 => some ((s_28.1 36 3), s_28)) else some ((s_26.1 36 3), s_26)) c3 n 0 s_11
set_option maxHeartbeats 4000000 in
set_option maxRecDepth 100000 in
theorem tl_R_read_38 {dd n : Nat} {K : mj_KT} {out : Int32 × mb_T} (hK : mj_C (dd + 4) 0 0 RR_c "read" bR_read 5 K) (hR : mj_R bR_read (some .int) (fun r2 S2 => r2 = some (.int out.1) ∧ S2 = mb_s out.2) K) {k0 : Int32 → mb_T → Option (Int32 × mb_T)} {k1 : Int32 → mb_T → Option (Int32 × mb_T)} {y3 : Nat} (hy3 : mb_cv y3) (hk0 : ∀ (w4 : Int32) (s : mb_T), k0 w4 s = some out → K 0 0 68 [.ref 36, .retAddr 0, .retAddr 0, .ref y3, .int w4] [] (mb_s s)) (hk1 : ∀ (w4 : Int32) (s : mb_T), k1 w4 s = some out → K 0 0 84 [.ref 36, .retAddr 0, .retAddr 0, .ref y3, .int w4] [] (mb_s s)) : ∀ (f : Nat) (w4 : Int32) (s : mb_T), f_R_read_38 n k0 k1 y3 f w4 s = some out → K 0 0 38 [.ref 36, .retAddr 0, .retAddr 0, .ref y3, .int w4] [] (mb_s s) := by
  intro f
  induction f with
  | zero =>
    intro w4 s h
    cases h
  | succ f ih =>
    intro w4 s h
    rw [f_R_read_38] at h
    refine ro_iload hK dR_read_38 rfl ?_
    refine ro_iconst (x := 5) hK (by decide) dR_read_40 ?_
    refine ro_icmp_gt (tgt := 84) hK dR_read_41 (by decide) (fun c_13 => ?_) (fun c_13 => ?_)
    · replace h := mb_ift c_13 h
      refine ro_fg (lv' := [.ref 36, .retAddr 0, .retAddr 0, .ref y3, .int w4]) hK ⟨Or.inr rfl, ⟨Or.inl rfl, ⟨Or.inl rfl, ⟨Or.inr rfl, ⟨Or.inr rfl, trivial⟩⟩⟩⟩⟩ ?_
      exact hk1 _ _ h
    · replace h := mb_iff c_13 h
      refine ro_aload_n hK dR_read_44 rfl ?_
      refine rb_get hK fR_28 mb_oR rfl dR_read_45 ?_
      refine ro_bipush (x := (-9)) hK (by decide) dR_read_48 ?_
      refine ro_icmp_ne (tgt := 84) hK dR_read_50 (by decide) (fun c_14 => ?_) (fun c_14 => ?_)
      · replace h := mb_iff c_14 h
        refine ro_fg (lv' := [.ref 36, .retAddr 0, .retAddr 0, .ref y3, .int w4]) hK ⟨Or.inr rfl, ⟨Or.inl rfl, ⟨Or.inl rfl, ⟨Or.inr rfl, ⟨Or.inr rfl, trivial⟩⟩⟩⟩⟩ ?_
        exact hk1 _ _ h
      · replace h := mb_ift c_14 h
        refine ro_aload_n hK dR_read_53 rfl ?_
        obtain ⟨s_15, q_16, h⟩ := mb_cw_e h
        refine rb_callV hK mR_skipBlanks vR_40 (t_R_skipBlanks (dd := dd + 2) q_16) rfl mb_oR rfl (Nat.le_of_ble_eq_true rfl) dR_read_54 rfl ⟨Nat.le_refl _, Nat.le_refl _⟩ ?_
        show K 0 0 57 [.ref 36, .retAddr 0, .retAddr 0, .ref y3, .int w4] [] (mb_s s_15)
        refine ro_aload_n hK dR_read_57 rfl ?_
        refine rb_get hK fR_25 mb_oR rfl dR_read_58 ?_
        refine ro_aload_n hK dR_read_61 rfl ?_
        refine rb_get hK fR_21 mb_oR rfl dR_read_62 ?_
        refine ro_icmp_lt (tgt := 71) hK dR_read_65 (by decide) (fun c_17 => ?_) (fun c_17 => ?_)
        · replace h := mb_ift c_17 h
          refine ro_aload_n hK dR_read_71 rfl ?_
          refine ro_aload_n hK dR_read_72 rfl ?_
          refine ro_iload hK dR_read_73 rfl ?_
          obtain ⟨s_18, q_19, h⟩ := mb_cw_e h
          refine rb_callV hK mR_readOne vR_43 (t_R_readOne (dd := dd + 0) hy3 q_19) rfl mb_oR rfl (Nat.le_of_ble_eq_true rfl) dR_read_75 rfl ⟨Nat.le_refl _, Nat.le_refl _⟩ ?_
          show K 0 0 78 [.ref 36, .retAddr 0, .retAddr 0, .ref y3, .int w4] [] (mb_s s_18)
          refine ro_iincv (c := 1) hK (by decide) dR_read_78 rfl (by decide) ?_
          show K 0 0 81 [.ref 36, .retAddr 0, .retAddr 0, .ref y3, .int (w4 + 1)] [] (mb_s s_18)
          refine ro_goto (tgt := 38) hK dR_read_81 (by decide) ?_
          refine ro_fg (lv' := [.ref 36, .retAddr 0, .retAddr 0, .ref y3, .int (w4 + 1)]) hK ⟨Or.inr rfl, ⟨Or.inl rfl, ⟨Or.inl rfl, ⟨Or.inr rfl, ⟨Or.inr rfl, trivial⟩⟩⟩⟩⟩ ?_
          exact ih _ _ h
        · replace h := mb_iff c_17 h
          refine ro_fg (lv' := [.ref 36, .retAddr 0, .retAddr 0, .ref y3, .int w4]) hK ⟨Or.inr rfl, ⟨Or.inl rfl, ⟨Or.inl rfl, ⟨Or.inr rfl, ⟨Or.inr rfl, trivial⟩⟩⟩⟩⟩ ?_
          exact hk0 _ _ h
set_option maxHeartbeats 4000000 in
set_option maxRecDepth 100000 in
theorem t_R_read {dd n : Nat} {a1 : Nat} {x2 : Int32} {c3 : Nat} {s : mb_T} {out : Int32 × mb_T} (ha1 : 30 ≤ a1 ∧ a1 ≤ 33) (hc3 : mb_cv c3) (h : f_R_read n a1 x2 c3 s = some out) : mb_MC (dd + 4) yR_read bR_read 5 (some .int) [.ref 36, .ref a1, .int x2, .ref c3] s (some (.int out.1)) out.2 := by
  unfold f_R_read at h
  refine mj_mc (lv := [.ref 36, .ref a1, .int x2, .ref c3, .retAddr 0]) mR_read rfl rfl (Nat.le_of_ble_eq_true rfl) (fun K hK hR => ?_)
  have hK : mj_C (dd + 4) 0 0 RR_c "read" bR_read 5 K := hK
  refine ro_aload_n hK dR_read_0 rfl ?_
  refine ro_aload_n hK dR_read_1 rfl ?_
  obtain ⟨s_1, e_2, h⟩ := mb_bd_e h
  refine rb_putG hK gR_9 ha1 e_2 dR_read_2 ?_
  refine ro_aload_n hK dR_read_5 rfl ?_
  refine ro_iload_n hK dR_read_6 rfl ?_
  refine ro_aload_n hK dR_read_7 rfl ?_
  refine rb_alenB hK (mb_tb ha1) dR_read_8 ?_
  refine ro_mmin hK vR_15 (by omega) (Nat.le_of_ble_eq_true rfl) dR_read_9 ?_
  obtain ⟨s_3, e_4, h⟩ := mb_bd_e h
  refine rb_put hK gR_21 mb_oR rfl (by show 1 < 4; decide) rfl rfl e_4 dR_read_12 ?_
  refine ro_aload_n hK dR_read_15 rfl ?_
  refine ro_iconst (x := 0) hK (by decide) dR_read_16 ?_
  obtain ⟨s_5, e_6, h⟩ := mb_bd_e h
  refine rb_put hK gR_25 mb_oR rfl (by show 2 < 4; decide) rfl rfl e_6 dR_read_17 ?_
  refine ro_aload_n hK dR_read_20 rfl ?_
  refine ro_bipush (x := (-9)) hK (by decide) dR_read_21 ?_
  obtain ⟨s_7, e_8, h⟩ := mb_bd_e h
  refine rb_put hK gR_28 mb_oR rfl (by show 3 < 4; decide) rfl rfl e_8 dR_read_23 ?_
  refine ro_aload_n hK dR_read_26 rfl ?_
  obtain ⟨s_9, q_10, h⟩ := mb_cw_e h
  refine rb_callV hK mV_clear vR_31 (t_V_clear (dd := dd + 2) hc3 q_10) rfl (mb_cvo hc3) rfl (Nat.le_of_ble_eq_true rfl) dR_read_27 rfl ⟨Nat.le_refl _, Nat.le_refl _⟩ ?_
  show K 0 0 30 [.ref 36, .ref a1, .int x2, .ref c3, .retAddr 0] [] (mb_s s_9)
  refine ro_aload_n hK dR_read_30 rfl ?_
  refine ro_aload_n hK dR_read_31 rfl ?_
  obtain ⟨s_11, q_12, h⟩ := mb_cw_e h
  refine rb_callV hK mR_readHead vR_36 (t_R_readHead (dd := dd + 0) hc3 q_12) rfl mb_oR rfl (Nat.le_of_ble_eq_true rfl) dR_read_32 rfl ⟨Nat.le_refl _, Nat.le_refl _⟩ ?_
  show K 0 0 35 [.ref 36, .ref a1, .int x2, .ref c3, .retAddr 0] [] (mb_s s_11)
  refine ro_iconst (x := 0) hK (by decide) dR_read_35 ?_
  refine ro_istore hK dR_read_36 (by decide) ?_
  show K 0 0 38 [.ref 36, .ref a1, .int x2, .ref c3, .int 0] [] (mb_s s_11)
  refine ro_fg (lv' := [.ref 36, .retAddr 0, .retAddr 0, .ref c3, .int 0]) hK ⟨Or.inr rfl, ⟨Or.inl rfl, ⟨Or.inl rfl, ⟨Or.inr rfl, ⟨Or.inr rfl, trivial⟩⟩⟩⟩⟩ ?_
  refine tl_R_read_38 (dd := dd) hK hR hc3 (fun x_20 s_21 h => ?_) (fun x_25 s_26 h => ?_) n _ _ h
  · skip
    refine ro_goto (tgt := 84) hK dR_read_68 (by decide) ?_
    refine ro_aload_n hK dR_read_84 rfl ?_
    refine rb_get hK fR_47 (mb_cvo hc3) rfl dR_read_85 ?_
    refine ro_if_ne (tgt := 95) hK dR_read_88 (by decide) (fun c_22 => ?_) (fun c_22 => ?_)
    · replace h := mb_iff c_22 h
      refine ro_aload_n hK dR_read_95 rfl ?_
      refine rb_get hK fR_28 mb_oR rfl dR_read_96 ?_
      cases h
      exact hR.1 0 0 99 _ _ _ _ rfl rfl dR_read_99 ⟨rfl, rfl⟩
    · replace h := mb_ift c_22 h
      refine ro_aload_n hK dR_read_91 rfl ?_
      obtain ⟨s_23, q_24, h⟩ := mb_cw_e h
      refine rb_callV hK mV_clear vR_31 (t_V_clear (dd := dd + 2) hc3 q_24) rfl (mb_cvo hc3) rfl (Nat.le_of_ble_eq_true rfl) dR_read_92 rfl ⟨Nat.le_refl _, Nat.le_refl _⟩ ?_
      show K 0 0 95 [.ref 36, .retAddr 0, .retAddr 0, .ref c3, .int x_20] [] (mb_s s_23)
      refine ro_aload_n hK dR_read_95 rfl ?_
      refine rb_get hK fR_28 mb_oR rfl dR_read_96 ?_
      cases h
      exact hR.1 0 0 99 _ _ _ _ rfl rfl dR_read_99 ⟨rfl, rfl⟩
  · skip
    refine ro_aload_n hK dR_read_84 rfl ?_
    refine rb_get hK fR_47 (mb_cvo hc3) rfl dR_read_85 ?_
    refine ro_if_ne (tgt := 95) hK dR_read_88 (by decide) (fun c_27 => ?_) (fun c_27 => ?_)
    · replace h := mb_iff c_27 h
      refine ro_aload_n hK dR_read_95 rfl ?_
      refine rb_get hK fR_28 mb_oR rfl dR_read_96 ?_
      cases h
      exact hR.1 0 0 99 _ _ _ _ rfl rfl dR_read_99 ⟨rfl, rfl⟩
    · replace h := mb_ift c_27 h
      refine ro_aload_n hK dR_read_91 rfl ?_
      obtain ⟨s_28, q_29, h⟩ := mb_cw_e h
      refine rb_callV hK mV_clear vR_31 (t_V_clear (dd := dd + 2) hc3 q_29) rfl (mb_cvo hc3) rfl (Nat.le_of_ble_eq_true rfl) dR_read_92 rfl ⟨Nat.le_refl _, Nat.le_refl _⟩ ?_
      show K 0 0 95 [.ref 36, .retAddr 0, .retAddr 0, .ref c3, .int x_25] [] (mb_s s_28)
      refine ro_aload_n hK dR_read_95 rfl ?_
      refine rb_get hK fR_28 mb_oR rfl dR_read_96 ?_
      cases h
      exact hR.1 0 0 99 _ _ _ _ rfl rfl dR_read_99 ⟨rfl, rfl⟩
theorem dM_askedHandings_0 : decode bM_askedHandings 0 = .ok (.aload_n 0, 1) := by decide +kernel
theorem dM_askedHandings_1 : decode bM_askedHandings 1 = .ok (.iload_n 1, 1) := by decide +kernel
theorem dM_askedHandings_2 : decode bM_askedHandings 2 = .ok (.invokevirtual 111, 3) := by decide +kernel
theorem dM_askedHandings_5 : decode bM_askedHandings 5 = .ok (.istore_n 2, 1) := by decide +kernel
theorem dM_askedHandings_6 : decode bM_askedHandings 6 = .ok (.iload_n 2, 1) := by decide +kernel
theorem dM_askedHandings_7 : decode bM_askedHandings 7 = .ok (.ifCond .ge 5, 3) := by decide +kernel
theorem dM_askedHandings_10 : decode bM_askedHandings 10 = .ok (.iload_n 2, 1) := by decide +kernel
theorem dM_askedHandings_11 : decode bM_askedHandings 11 = .ok (.ireturn, 1) := by decide +kernel
theorem dM_askedHandings_12 : decode bM_askedHandings 12 = .ok (.iconst 0, 1) := by decide +kernel
theorem dM_askedHandings_13 : decode bM_askedHandings 13 = .ok (.istore_n 3, 1) := by decide +kernel
theorem dM_askedHandings_14 : decode bM_askedHandings 14 = .ok (.iload_n 3, 1) := by decide +kernel
theorem dM_askedHandings_15 : decode bM_askedHandings 15 = .ok (.aload_n 0, 1) := by decide +kernel
theorem dM_askedHandings_16 : decode bM_askedHandings 16 = .ok (.getfield 13, 3) := by decide +kernel
theorem dM_askedHandings_19 : decode bM_askedHandings 19 = .ok (.iload_n 1, 1) := by decide +kernel
theorem dM_askedHandings_20 : decode bM_askedHandings 20 = .ok (.iaload, 1) := by decide +kernel
theorem dM_askedHandings_21 : decode bM_askedHandings 21 = .ok (.if_icmp .ge 28, 3) := by decide +kernel
theorem dM_askedHandings_24 : decode bM_askedHandings 24 = .ok (.aload_n 0, 1) := by decide +kernel
theorem dM_askedHandings_25 : decode bM_askedHandings 25 = .ok (.aload_n 0, 1) := by decide +kernel
theorem dM_askedHandings_26 : decode bM_askedHandings 26 = .ok (.iload_n 1, 1) := by decide +kernel
theorem dM_askedHandings_27 : decode bM_askedHandings 27 = .ok (.iload_n 3, 1) := by decide +kernel
theorem dM_askedHandings_28 : decode bM_askedHandings 28 = .ok (.invokevirtual 114, 3) := by decide +kernel
theorem dM_askedHandings_31 : decode bM_askedHandings 31 = .ok (.invokevirtual 183, 3) := by decide +kernel
theorem dM_askedHandings_34 : decode bM_askedHandings 34 = .ok (.ifCond .ne 9, 3) := by decide +kernel
theorem dM_askedHandings_37 : decode bM_askedHandings 37 = .ok (.aload_n 0, 1) := by decide +kernel
theorem dM_askedHandings_38 : decode bM_askedHandings 38 = .ok (.iconst 3, 1) := by decide +kernel
theorem dM_askedHandings_39 : decode bM_askedHandings 39 = .ok (.invokevirtual 100, 3) := by decide +kernel
theorem dM_askedHandings_42 : decode bM_askedHandings 42 = .ok (.ireturn, 1) := by decide +kernel
theorem dM_askedHandings_43 : decode bM_askedHandings 43 = .ok (.iinc 3 1, 3) := by decide +kernel
theorem dM_askedHandings_46 : decode bM_askedHandings 46 = .ok (.goto (-32), 3) := by decide +kernel
theorem dM_askedHandings_49 : decode bM_askedHandings 49 = .ok (.iconst 0, 1) := by decide +kernel
theorem dM_askedHandings_50 : decode bM_askedHandings 50 = .ok (.ireturn, 1) := by decide +kernel
def f_M_askedHandings_14 (n : Nat) (k0 : Int32 → mb_T → Option (Int32 × mb_T)) (k1 : Int32 → mb_T → Option (Int32 × mb_T)) (y1 : Int32) : Nat → Int32 → mb_T → Option (Int32 × mb_T)
  | 0, _, _ => none
  | f + 1, w3, s => mb_rd s 203 6 y1 fun x_5 => if x_5 ≤ w3 then k1 w3 s else mb_cl (f_M_rowAt n y1 w3 s) fun r_11 s_9 => mb_cl (f_M_isOne n r_11 s_9) fun r_14 s_12 => if r_14 = 0 then k0 w3 s_12 else f_M_askedHandings_14 n k0 k1 y1 f (w3 + 1) s_12
def f_M_askedHandings (n : Nat) (x1 : Int32) (s : mb_T) : Option (Int32 × mb_T) := mb_cl (f_M_askedRow n x1 s) fun r_3 s_1 => if 0 ≤ r_3 then (f_M_askedHandings_14 n (fun x_16 s_17 => mb_cl (f_M_meet n 3 s_17) fun r_20 s_18 => some (r_20, s_18)) (fun x_21 s_22 => some (0, s_22)) x1 n 0 s_1) else some (r_3, s_1)
set_option maxHeartbeats 4000000 in
set_option maxRecDepth 100000 in
theorem tl_M_askedHandings_14 {dd n : Nat} {K : mj_KT} {out : Int32 × mb_T} (hK : mj_C (dd + 4) 0 0 RM_c "askedHandings" bM_askedHandings 4 K) (hR : mj_R bM_askedHandings (some .int) (fun r2 S2 => r2 = some (.int out.1) ∧ S2 = mb_s out.2) K) {k0 : Int32 → mb_T → Option (Int32 × mb_T)} {k1 : Int32 → mb_T → Option (Int32 × mb_T)} {y1 : Int32} (hk0 : ∀ (w3 : Int32) (s : mb_T), k0 w3 s = some out → K 0 0 37 [.ref 200, .int y1, .retAddr 0, .int w3] [] (mb_s s)) (hk1 : ∀ (w3 : Int32) (s : mb_T), k1 w3 s = some out → K 0 0 49 [.ref 200, .int y1, .retAddr 0, .int w3] [] (mb_s s)) : ∀ (f : Nat) (w3 : Int32) (s : mb_T), f_M_askedHandings_14 n k0 k1 y1 f w3 s = some out → K 0 0 14 [.ref 200, .int y1, .retAddr 0, .int w3] [] (mb_s s) := by
  intro f
  induction f with
  | zero =>
    intro w3 s h
    cases h
  | succ f ih =>
    intro w3 s h
    rw [f_M_askedHandings_14] at h
    refine ro_iload_n hK dM_askedHandings_14 rfl ?_
    refine ro_aload_n hK dM_askedHandings_15 rfl ?_
    refine rb_get hK fM_13 mb_oM rfl dM_askedHandings_16 ?_
    refine ro_iload_n hK dM_askedHandings_19 rfl ?_
    obtain ⟨x_5, e_6, i_7, h⟩ := mb_rd_e h
    refine rb_iald hK ai_203 i_7 e_6 dM_askedHandings_20 ?_
    refine ro_icmp_ge (tgt := 49) hK dM_askedHandings_21 (by decide) (fun c_8 => ?_) (fun c_8 => ?_)
    · replace h := mb_ift c_8 h
      refine ro_fg (lv' := [.ref 200, .int y1, .retAddr 0, .int w3]) hK ⟨Or.inr rfl, ⟨Or.inr rfl, ⟨Or.inl rfl, ⟨Or.inr rfl, trivial⟩⟩⟩⟩ ?_
      exact hk1 _ _ h
    · replace h := mb_iff c_8 h
      refine ro_aload_n hK dM_askedHandings_24 rfl ?_
      refine ro_aload_n hK dM_askedHandings_25 rfl ?_
      refine ro_iload_n hK dM_askedHandings_26 rfl ?_
      refine ro_iload_n hK dM_askedHandings_27 rfl ?_
      obtain ⟨r_11, s_9, q_10, h⟩ := mb_cl_e h
      refine rb_callV hK mM_rowAt vM_114 (t_M_rowAt (dd := dd + 2) q_10) rfl mb_oM rfl (Nat.le_of_ble_eq_true rfl) dM_askedHandings_28 rfl ⟨Nat.le_refl _, Nat.le_refl _⟩ ?_
      show K 0 0 31 [.ref 200, .int y1, .retAddr 0, .int w3] [.int r_11, .ref 200] (mb_s s_9)
      obtain ⟨r_14, s_12, q_13, h⟩ := mb_cl_e h
      refine rb_callV hK mM_isOne vM_183 (t_M_isOne (dd := dd + 1) q_13) rfl mb_oM rfl (Nat.le_of_ble_eq_true rfl) dM_askedHandings_31 rfl ⟨Nat.le_refl _, Nat.le_refl _⟩ ?_
      show K 0 0 34 [.ref 200, .int y1, .retAddr 0, .int w3] [.int r_14] (mb_s s_12)
      refine ro_if_ne (tgt := 43) hK dM_askedHandings_34 (by decide) (fun c_15 => ?_) (fun c_15 => ?_)
      · replace h := mb_iff c_15 h
        refine ro_iincv (c := 1) hK (by decide) dM_askedHandings_43 rfl (by decide) ?_
        show K 0 0 46 [.ref 200, .int y1, .retAddr 0, .int (w3 + 1)] [] (mb_s s_12)
        refine ro_goto (tgt := 14) hK dM_askedHandings_46 (by decide) ?_
        refine ro_fg (lv' := [.ref 200, .int y1, .retAddr 0, .int (w3 + 1)]) hK ⟨Or.inr rfl, ⟨Or.inr rfl, ⟨Or.inl rfl, ⟨Or.inr rfl, trivial⟩⟩⟩⟩ ?_
        exact ih _ _ h
      · replace h := mb_ift c_15 h
        refine ro_fg (lv' := [.ref 200, .int y1, .retAddr 0, .int w3]) hK ⟨Or.inr rfl, ⟨Or.inr rfl, ⟨Or.inl rfl, ⟨Or.inr rfl, trivial⟩⟩⟩⟩ ?_
        exact hk0 _ _ h
set_option maxHeartbeats 4000000 in
set_option maxRecDepth 100000 in
theorem t_M_askedHandings {dd n : Nat} {x1 : Int32} {s : mb_T} {out : Int32 × mb_T}  (h : f_M_askedHandings n x1 s = some out) : mb_MC (dd + 4) yM_askedHandings bM_askedHandings 4 (some .int) [.ref 200, .int x1] s (some (.int out.1)) out.2 := by
  unfold f_M_askedHandings at h
  refine mj_mc (lv := [.ref 200, .int x1, .retAddr 0, .retAddr 0]) mM_askedHandings rfl rfl (Nat.le_of_ble_eq_true rfl) (fun K hK hR => ?_)
  have hK : mj_C (dd + 4) 0 0 RM_c "askedHandings" bM_askedHandings 4 K := hK
  refine ro_aload_n hK dM_askedHandings_0 rfl ?_
  refine ro_iload_n hK dM_askedHandings_1 rfl ?_
  obtain ⟨r_3, s_1, q_2, h⟩ := mb_cl_e h
  refine rb_callV hK mM_askedRow vM_111 (t_M_askedRow (dd := dd + 0) q_2) rfl mb_oM rfl (Nat.le_of_ble_eq_true rfl) dM_askedHandings_2 rfl ⟨Nat.le_refl _, Nat.le_refl _⟩ ?_
  show K 0 0 5 [.ref 200, .int x1, .retAddr 0, .retAddr 0] [.int r_3] (mb_s s_1)
  refine ro_istore_n hK dM_askedHandings_5 (by decide) ?_
  show K 0 0 6 [.ref 200, .int x1, .int r_3, .retAddr 0] [] (mb_s s_1)
  refine ro_iload_n hK dM_askedHandings_6 rfl ?_
  refine ro_if_ge (tgt := 12) hK dM_askedHandings_7 (by decide) (fun c_4 => ?_) (fun c_4 => ?_)
  · replace h := mb_ift c_4 h
    refine ro_iconst (x := 0) hK (by decide) dM_askedHandings_12 ?_
    refine ro_istore_n hK dM_askedHandings_13 (by decide) ?_
    show K 0 0 14 [.ref 200, .int x1, .int r_3, .int 0] [] (mb_s s_1)
    refine ro_fg (lv' := [.ref 200, .int x1, .retAddr 0, .int 0]) hK ⟨Or.inr rfl, ⟨Or.inr rfl, ⟨Or.inl rfl, ⟨Or.inr rfl, trivial⟩⟩⟩⟩ ?_
    refine tl_M_askedHandings_14 (dd := dd) hK hR (fun x_16 s_17 h => ?_) (fun x_21 s_22 h => ?_) n _ _ h
    · skip
      refine ro_aload_n hK dM_askedHandings_37 rfl ?_
      refine ro_iconst (x := 3) hK (by decide) dM_askedHandings_38 ?_
      obtain ⟨r_20, s_18, q_19, h⟩ := mb_cl_e h
      refine rb_callV hK mM_meet vM_100 (t_M_meet (dd := dd + 2) q_19) rfl mb_oM rfl (Nat.le_of_ble_eq_true rfl) dM_askedHandings_39 rfl ⟨Nat.le_refl _, Nat.le_refl _⟩ ?_
      show K 0 0 42 [.ref 200, .int x1, .retAddr 0, .int x_16] [.int r_20] (mb_s s_18)
      cases h
      exact hR.1 0 0 42 _ _ _ _ rfl rfl dM_askedHandings_42 ⟨rfl, rfl⟩
    · skip
      refine ro_iconst (x := 0) hK (by decide) dM_askedHandings_49 ?_
      cases h
      exact hR.1 0 0 50 _ _ _ _ rfl rfl dM_askedHandings_50 ⟨rfl, rfl⟩
  · replace h := mb_iff c_4 h
    refine ro_iload_n hK dM_askedHandings_10 rfl ?_
    cases h
    exact hR.1 0 0 11 _ _ _ _ rfl rfl dM_askedHandings_11 ⟨rfl, rfl⟩
theorem dM_at_0 : decode bM_at 0 = .ok (.aload_n 0, 1) := by decide +kernel
theorem dM_at_1 : decode bM_at 1 = .ok (.iload_n 1, 1) := by decide +kernel
theorem dM_at_2 : decode bM_at 2 = .ok (.invokevirtual 111, 3) := by decide +kernel
theorem dM_at_5 : decode bM_at 5 = .ok (.istore_n 3, 1) := by decide +kernel
theorem dM_at_6 : decode bM_at 6 = .ok (.iload_n 3, 1) := by decide +kernel
theorem dM_at_7 : decode bM_at 7 = .ok (.ifCond .ge 5, 3) := by decide +kernel
theorem dM_at_10 : decode bM_at 10 = .ok (.iload_n 3, 1) := by decide +kernel
theorem dM_at_11 : decode bM_at 11 = .ok (.ireturn, 1) := by decide +kernel
theorem dM_at_12 : decode bM_at 12 = .ok (.iload_n 2, 1) := by decide +kernel
theorem dM_at_13 : decode bM_at 13 = .ok (.iconst 0, 1) := by decide +kernel
theorem dM_at_14 : decode bM_at 14 = .ok (.aload_n 0, 1) := by decide +kernel
theorem dM_at_15 : decode bM_at 15 = .ok (.getfield 13, 3) := by decide +kernel
theorem dM_at_18 : decode bM_at 18 = .ok (.iload_n 1, 1) := by decide +kernel
theorem dM_at_19 : decode bM_at 19 = .ok (.iaload, 1) := by decide +kernel
theorem dM_at_20 : decode bM_at 20 = .ok (.iconst 1, 1) := by decide +kernel
theorem dM_at_21 : decode bM_at 21 = .ok (.isub, 1) := by decide +kernel
theorem dM_at_22 : decode bM_at 22 = .ok (.invokestatic 92, 3) := by decide +kernel
theorem dM_at_25 : decode bM_at 25 = .ok (.ifCond .eq 17, 3) := by decide +kernel
theorem dM_at_28 : decode bM_at 28 = .ok (.aload_n 0, 1) := by decide +kernel
theorem dM_at_29 : decode bM_at 29 = .ok (.aload_n 0, 1) := by decide +kernel
theorem dM_at_30 : decode bM_at 30 = .ok (.iload_n 1, 1) := by decide +kernel
theorem dM_at_31 : decode bM_at 31 = .ok (.iload_n 2, 1) := by decide +kernel
theorem dM_at_32 : decode bM_at 32 = .ok (.invokevirtual 114, 3) := by decide +kernel
theorem dM_at_35 : decode bM_at 35 = .ok (.iconst 1, 1) := by decide +kernel
theorem dM_at_36 : decode bM_at 36 = .ok (.invokevirtual 118, 3) := by decide +kernel
theorem dM_at_39 : decode bM_at 39 = .ok (.goto 8, 3) := by decide +kernel
theorem dM_at_42 : decode bM_at 42 = .ok (.aload_n 0, 1) := by decide +kernel
theorem dM_at_43 : decode bM_at 43 = .ok (.iconst 2, 1) := by decide +kernel
theorem dM_at_44 : decode bM_at 44 = .ok (.invokevirtual 100, 3) := by decide +kernel
theorem dM_at_47 : decode bM_at 47 = .ok (.ireturn, 1) := by decide +kernel
def f_M_at (n : Nat) (x1 : Int32) (x2 : Int32) (s : mb_T) : Option (Int32 × mb_T) := mb_cl (f_M_askedRow n x1 s) fun r_3 s_1 => if 0 ≤ r_3 then (mb_rd s_1 203 6 x1 fun x_5 => mb_cl (f_M_in n x2 0 (x_5 - 1) s_1) fun r_10 s_8 => if r_10 = 0 then (mb_cl (f_M_meet n 2 s_8) fun r_14 s_12 => some (r_14, s_12)) else mb_cl (f_M_rowAt n x1 x2 s_8) fun r_17 s_15 => mb_cl (f_M_ask n r_17 1 s_15) fun r_20 s_18 => some (r_20, s_18)) else some (r_3, s_1)
set_option maxHeartbeats 4000000 in
set_option maxRecDepth 100000 in
theorem t_M_at {dd n : Nat} {x1 : Int32} {x2 : Int32} {s : mb_T} {out : Int32 × mb_T}  (h : f_M_at n x1 x2 s = some out) : mb_MC (dd + 4) yM_at bM_at 4 (some .int) [.ref 200, .int x1, .int x2] s (some (.int out.1)) out.2 := by
  unfold f_M_at at h
  refine mj_mc (lv := [.ref 200, .int x1, .int x2, .retAddr 0]) mM_at rfl rfl (Nat.le_of_ble_eq_true rfl) (fun K hK hR => ?_)
  have hK : mj_C (dd + 4) 0 0 RM_c "at" bM_at 4 K := hK
  refine ro_aload_n hK dM_at_0 rfl ?_
  refine ro_iload_n hK dM_at_1 rfl ?_
  obtain ⟨r_3, s_1, q_2, h⟩ := mb_cl_e h
  refine rb_callV hK mM_askedRow vM_111 (t_M_askedRow (dd := dd + 0) q_2) rfl mb_oM rfl (Nat.le_of_ble_eq_true rfl) dM_at_2 rfl ⟨Nat.le_refl _, Nat.le_refl _⟩ ?_
  show K 0 0 5 [.ref 200, .int x1, .int x2, .retAddr 0] [.int r_3] (mb_s s_1)
  refine ro_istore_n hK dM_at_5 (by decide) ?_
  show K 0 0 6 [.ref 200, .int x1, .int x2, .int r_3] [] (mb_s s_1)
  refine ro_iload_n hK dM_at_6 rfl ?_
  refine ro_if_ge (tgt := 12) hK dM_at_7 (by decide) (fun c_4 => ?_) (fun c_4 => ?_)
  · replace h := mb_ift c_4 h
    refine ro_iload_n hK dM_at_12 rfl ?_
    refine ro_iconst (x := 0) hK (by decide) dM_at_13 ?_
    refine ro_aload_n hK dM_at_14 rfl ?_
    refine rb_get hK fM_13 mb_oM rfl dM_at_15 ?_
    refine ro_iload_n hK dM_at_18 rfl ?_
    obtain ⟨x_5, e_6, i_7, h⟩ := mb_rd_e h
    refine rb_iald hK ai_203 i_7 e_6 dM_at_19 ?_
    refine ro_iconst (x := 1) hK (by decide) dM_at_20 ?_
    refine ro_isub hK dM_at_21 ?_
    obtain ⟨r_10, s_8, q_9, h⟩ := mb_cl_e h
    refine rb_callS hK mM_in vM_92 (t_M_in (dd := dd + 2) q_9) rfl (Nat.le_of_ble_eq_true rfl) dM_at_22 rfl ⟨Nat.le_refl _, Nat.le_refl _⟩ ?_
    show K 0 0 25 [.ref 200, .int x1, .int x2, .int r_3] [.int r_10] (mb_s s_8)
    refine ro_if_eq (tgt := 42) hK dM_at_25 (by decide) (fun c_11 => ?_) (fun c_11 => ?_)
    · replace h := mb_ift c_11 h
      refine ro_aload_n hK dM_at_42 rfl ?_
      refine ro_iconst (x := 2) hK (by decide) dM_at_43 ?_
      obtain ⟨r_14, s_12, q_13, h⟩ := mb_cl_e h
      refine rb_callV hK mM_meet vM_100 (t_M_meet (dd := dd + 2) q_13) rfl mb_oM rfl (Nat.le_of_ble_eq_true rfl) dM_at_44 rfl ⟨Nat.le_refl _, Nat.le_refl _⟩ ?_
      show K 0 0 47 [.ref 200, .int x1, .int x2, .int r_3] [.int r_14] (mb_s s_12)
      cases h
      exact hR.1 0 0 47 _ _ _ _ rfl rfl dM_at_47 ⟨rfl, rfl⟩
    · replace h := mb_iff c_11 h
      refine ro_aload_n hK dM_at_28 rfl ?_
      refine ro_aload_n hK dM_at_29 rfl ?_
      refine ro_iload_n hK dM_at_30 rfl ?_
      refine ro_iload_n hK dM_at_31 rfl ?_
      obtain ⟨r_17, s_15, q_16, h⟩ := mb_cl_e h
      refine rb_callV hK mM_rowAt vM_114 (t_M_rowAt (dd := dd + 2) q_16) rfl mb_oM rfl (Nat.le_of_ble_eq_true rfl) dM_at_32 rfl ⟨Nat.le_refl _, Nat.le_refl _⟩ ?_
      show K 0 0 35 [.ref 200, .int x1, .int x2, .int r_3] [.int r_17, .ref 200] (mb_s s_15)
      refine ro_iconst (x := 1) hK (by decide) dM_at_35 ?_
      obtain ⟨r_20, s_18, q_19, h⟩ := mb_cl_e h
      refine rb_callV hK mM_ask vM_118 (t_M_ask (dd := dd + 2) q_19) rfl mb_oM rfl (Nat.le_of_ble_eq_true rfl) dM_at_36 rfl ⟨Nat.le_refl _, Nat.le_refl _⟩ ?_
      show K 0 0 39 [.ref 200, .int x1, .int x2, .int r_3] [.int r_20] (mb_s s_18)
      refine ro_goto (tgt := 47) hK dM_at_39 (by decide) ?_
      cases h
      exact hR.1 0 0 47 _ _ _ _ rfl rfl dM_at_47 ⟨rfl, rfl⟩
  · replace h := mb_iff c_4 h
    refine ro_iload_n hK dM_at_10 rfl ?_
    cases h
    exact hR.1 0 0 11 _ _ _ _ rfl rfl dM_at_11 ⟨rfl, rfl⟩
theorem dM_goesOn_0 : decode bM_goesOn 0 = .ok (.aload_n 0, 1) := by decide +kernel
theorem dM_goesOn_1 : decode bM_goesOn 1 = .ok (.iconst 0, 1) := by decide +kernel
theorem dM_goesOn_2 : decode bM_goesOn 2 = .ok (.putfield 127, 3) := by decide +kernel
theorem dM_goesOn_5 : decode bM_goesOn 5 = .ok (.aload_n 0, 1) := by decide +kernel
theorem dM_goesOn_6 : decode bM_goesOn 6 = .ok (.iconst 0, 1) := by decide +kernel
theorem dM_goesOn_7 : decode bM_goesOn 7 = .ok (.putfield 149, 3) := by decide +kernel
theorem dM_goesOn_10 : decode bM_goesOn 10 = .ok (.aload_n 0, 1) := by decide +kernel
theorem dM_goesOn_11 : decode bM_goesOn 11 = .ok (.bipush (-9), 2) := by decide +kernel
theorem dM_goesOn_13 : decode bM_goesOn 13 = .ok (.putfield 137, 3) := by decide +kernel
theorem dM_goesOn_16 : decode bM_goesOn 16 = .ok (.aload_n 0, 1) := by decide +kernel
theorem dM_goesOn_17 : decode bM_goesOn 17 = .ok (.getfield 127, 3) := by decide +kernel
theorem dM_goesOn_20 : decode bM_goesOn 20 = .ok (.aload_n 0, 1) := by decide +kernel
theorem dM_goesOn_21 : decode bM_goesOn 21 = .ok (.getfield 22, 3) := by decide +kernel
theorem dM_goesOn_24 : decode bM_goesOn 24 = .ok (.iload_n 1, 1) := by decide +kernel
theorem dM_goesOn_25 : decode bM_goesOn 25 = .ok (.iaload, 1) := by decide +kernel
theorem dM_goesOn_26 : decode bM_goesOn 26 = .ok (.if_icmp .ge 59, 3) := by decide +kernel
theorem dM_goesOn_29 : decode bM_goesOn 29 = .ok (.aload_n 0, 1) := by decide +kernel
theorem dM_goesOn_30 : decode bM_goesOn 30 = .ok (.iload_n 1, 1) := by decide +kernel
theorem dM_goesOn_31 : decode bM_goesOn 31 = .ok (.invokevirtual 130, 3) := by decide +kernel
theorem dM_goesOn_34 : decode bM_goesOn 34 = .ok (.bipush 32, 2) := by decide +kernel
theorem dM_goesOn_36 : decode bM_goesOn 36 = .ok (.if_icmp .ne 16, 3) := by decide +kernel
theorem dM_goesOn_39 : decode bM_goesOn 39 = .ok (.aload_n 0, 1) := by decide +kernel
theorem dM_goesOn_40 : decode bM_goesOn 40 = .ok (.dup, 1) := by decide +kernel
theorem dM_goesOn_41 : decode bM_goesOn 41 = .ok (.getfield 127, 3) := by decide +kernel
theorem dM_goesOn_44 : decode bM_goesOn 44 = .ok (.iconst 1, 1) := by decide +kernel
theorem dM_goesOn_45 : decode bM_goesOn 45 = .ok (.iadd, 1) := by decide +kernel
theorem dM_goesOn_46 : decode bM_goesOn 46 = .ok (.putfield 127, 3) := by decide +kernel
theorem dM_goesOn_49 : decode bM_goesOn 49 = .ok (.goto (-33), 3) := by decide +kernel
theorem dM_goesOn_52 : decode bM_goesOn 52 = .ok (.aload_n 0, 1) := by decide +kernel
theorem dM_goesOn_53 : decode bM_goesOn 53 = .ok (.getfield 137, 3) := by decide +kernel
theorem dM_goesOn_56 : decode bM_goesOn 56 = .ok (.bipush (-9), 2) := by decide +kernel
theorem dM_goesOn_58 : decode bM_goesOn 58 = .ok (.if_icmp .ne 14, 3) := by decide +kernel
theorem dM_goesOn_61 : decode bM_goesOn 61 = .ok (.aload_n 0, 1) := by decide +kernel
theorem dM_goesOn_62 : decode bM_goesOn 62 = .ok (.iload_n 1, 1) := by decide +kernel
theorem dM_goesOn_63 : decode bM_goesOn 63 = .ok (.invokevirtual 152, 3) := by decide +kernel
theorem dM_goesOn_66 : decode bM_goesOn 66 = .ok (.ifCond .ne (-50), 3) := by decide +kernel
theorem dM_goesOn_69 : decode bM_goesOn 69 = .ok (.goto 11, 3) := by decide +kernel
theorem dM_goesOn_72 : decode bM_goesOn 72 = .ok (.aload_n 0, 1) := by decide +kernel
theorem dM_goesOn_73 : decode bM_goesOn 73 = .ok (.iload_n 1, 1) := by decide +kernel
theorem dM_goesOn_74 : decode bM_goesOn 74 = .ok (.invokevirtual 155, 3) := by decide +kernel
theorem dM_goesOn_77 : decode bM_goesOn 77 = .ok (.ifCond .ne (-61), 3) := by decide +kernel
theorem dM_goesOn_80 : decode bM_goesOn 80 = .ok (.aload_n 0, 1) := by decide +kernel
theorem dM_goesOn_81 : decode bM_goesOn 81 = .ok (.getfield 127, 3) := by decide +kernel
theorem dM_goesOn_84 : decode bM_goesOn 84 = .ok (.ireturn, 1) := by decide +kernel
theorem dM_goesOn_85 : decode bM_goesOn 85 = .ok (.aload_n 0, 1) := by decide +kernel
theorem dM_goesOn_86 : decode bM_goesOn 86 = .ok (.getfield 137, 3) := by decide +kernel
theorem dM_goesOn_89 : decode bM_goesOn 89 = .ok (.bipush (-9), 2) := by decide +kernel
theorem dM_goesOn_91 : decode bM_goesOn 91 = .ok (.if_icmp .ne 12, 3) := by decide +kernel
theorem dM_goesOn_94 : decode bM_goesOn 94 = .ok (.aload_n 0, 1) := by decide +kernel
theorem dM_goesOn_95 : decode bM_goesOn 95 = .ok (.getfield 22, 3) := by decide +kernel
theorem dM_goesOn_98 : decode bM_goesOn 98 = .ok (.iload_n 1, 1) := by decide +kernel
theorem dM_goesOn_99 : decode bM_goesOn 99 = .ok (.iaload, 1) := by decide +kernel
theorem dM_goesOn_100 : decode bM_goesOn 100 = .ok (.goto 5, 3) := by decide +kernel
theorem dM_goesOn_103 : decode bM_goesOn 103 = .ok (.bipush (-9), 2) := by decide +kernel
theorem dM_goesOn_105 : decode bM_goesOn 105 = .ok (.ireturn, 1) := by decide +kernel
def f_M_goesOn_16 (n : Nat) (k0 : mb_T → Option (Int32 × mb_T)) (k1 : mb_T → Option (Int32 × mb_T)) (k2 : mb_T → Option (Int32 × mb_T)) (y1 : Int32) : Nat → mb_T → Option (Int32 × mb_T)
  | 0, _ => none
  | f + 1, s => mb_rd s 206 4 y1 fun x_7 => if x_7 ≤ (s.1 200 17) then k2 s else mb_cl (f_M_here n y1 s) fun r_13 s_11 => if r_13 = 32 then (mb_bd (sF s_11 200 17 ((s_11.1 200 17) + 1)) fun s_24 => f_M_goesOn_16 n k0 k1 k2 y1 f s_24) else if (s_11.1 200 19) = (-9) then (mb_cl (f_M_readsHead n y1 s_11) fun r_22 s_20 => if r_22 = 0 then k0 s_20 else f_M_goesOn_16 n k0 k1 k2 y1 f s_20) else mb_cl (f_M_readsPerson n y1 s_11) fun r_18 s_16 => if r_18 = 0 then k1 s_16 else f_M_goesOn_16 n k0 k1 k2 y1 f s_16
def f_M_goesOn (n : Nat) (x1 : Int32) (s : mb_T) : Option (Int32 × mb_T) := mb_bd (sF s 200 17 0) fun s_1 => mb_bd (sF s_1 200 18 0) fun s_3 => mb_bd (sF s_3 200 19 (-9)) fun s_5 => f_M_goesOn_16 n (fun s_26 => some ((s_26.1 200 17), s_26)) (fun s_27 => some ((s_27.1 200 17), s_27)) (fun s_28 => if (s_28.1 200 19) = (-9) then (mb_rd s_28 206 4 x1 fun x_30 => some (x_30, s_28)) else some ((-9), s_28)) x1 n s_5
set_option maxHeartbeats 4000000 in
set_option maxRecDepth 100000 in
theorem tl_M_goesOn_16 {dd n : Nat} {K : mj_KT} {out : Int32 × mb_T} (hK : mj_C (dd + 4) 0 0 RM_c "goesOn" bM_goesOn 2 K) (hR : mj_R bM_goesOn (some .int) (fun r2 S2 => r2 = some (.int out.1) ∧ S2 = mb_s out.2) K) {k0 : mb_T → Option (Int32 × mb_T)} {k1 : mb_T → Option (Int32 × mb_T)} {k2 : mb_T → Option (Int32 × mb_T)} {y1 : Int32} (hk0 : ∀ (s : mb_T), k0 s = some out → K 0 0 69 [.ref 200, .int y1] [] (mb_s s)) (hk1 : ∀ (s : mb_T), k1 s = some out → K 0 0 80 [.ref 200, .int y1] [] (mb_s s)) (hk2 : ∀ (s : mb_T), k2 s = some out → K 0 0 85 [.ref 200, .int y1] [] (mb_s s)) : ∀ (f : Nat) (s : mb_T), f_M_goesOn_16 n k0 k1 k2 y1 f s = some out → K 0 0 16 [.ref 200, .int y1] [] (mb_s s) := by
  intro f
  induction f with
  | zero =>
    intro  s h
    cases h
  | succ f ih =>
    intro  s h
    rw [f_M_goesOn_16] at h
    refine ro_aload_n hK dM_goesOn_16 rfl ?_
    refine rb_get hK fM_127 mb_oM rfl dM_goesOn_17 ?_
    refine ro_aload_n hK dM_goesOn_20 rfl ?_
    refine rb_get hK fM_22 mb_oM rfl dM_goesOn_21 ?_
    refine ro_iload_n hK dM_goesOn_24 rfl ?_
    obtain ⟨x_7, e_8, i_9, h⟩ := mb_rd_e h
    refine rb_iald hK ai_206 i_9 e_8 dM_goesOn_25 ?_
    refine ro_icmp_ge (tgt := 85) hK dM_goesOn_26 (by decide) (fun c_10 => ?_) (fun c_10 => ?_)
    · replace h := mb_ift c_10 h
      refine ro_fg (lv' := [.ref 200, .int y1]) hK ⟨Or.inr rfl, ⟨Or.inr rfl, trivial⟩⟩ ?_
      exact hk2 _ h
    · replace h := mb_iff c_10 h
      refine ro_aload_n hK dM_goesOn_29 rfl ?_
      refine ro_iload_n hK dM_goesOn_30 rfl ?_
      obtain ⟨r_13, s_11, q_12, h⟩ := mb_cl_e h
      refine rb_callV hK mM_here vM_130 (t_M_here (dd := dd + 2) q_12) rfl mb_oM rfl (Nat.le_of_ble_eq_true rfl) dM_goesOn_31 rfl ⟨Nat.le_refl _, Nat.le_refl _⟩ ?_
      show K 0 0 34 [.ref 200, .int y1] [.int r_13] (mb_s s_11)
      refine ro_bipush (x := 32) hK (by decide) dM_goesOn_34 ?_
      refine ro_icmp_ne (tgt := 52) hK dM_goesOn_36 (by decide) (fun c_14 => ?_) (fun c_14 => ?_)
      · replace h := mb_iff c_14 h
        refine ro_aload_n hK dM_goesOn_52 rfl ?_
        refine rb_get hK fM_137 mb_oM rfl dM_goesOn_53 ?_
        refine ro_bipush (x := (-9)) hK (by decide) dM_goesOn_56 ?_
        refine ro_icmp_ne (tgt := 72) hK dM_goesOn_58 (by decide) (fun c_15 => ?_) (fun c_15 => ?_)
        · replace h := mb_iff c_15 h
          refine ro_aload_n hK dM_goesOn_72 rfl ?_
          refine ro_iload_n hK dM_goesOn_73 rfl ?_
          obtain ⟨r_18, s_16, q_17, h⟩ := mb_cl_e h
          refine rb_callV hK mM_readsPerson vM_155 (t_M_readsPerson (dd := dd + 0) q_17) rfl mb_oM rfl (Nat.le_of_ble_eq_true rfl) dM_goesOn_74 rfl ⟨Nat.le_refl _, Nat.le_refl _⟩ ?_
          show K 0 0 77 [.ref 200, .int y1] [.int r_18] (mb_s s_16)
          refine ro_if_ne (tgt := 16) hK dM_goesOn_77 (by decide) (fun c_19 => ?_) (fun c_19 => ?_)
          · replace h := mb_iff c_19 h
            refine ro_fg (lv' := [.ref 200, .int y1]) hK ⟨Or.inr rfl, ⟨Or.inr rfl, trivial⟩⟩ ?_
            exact ih _ h
          · replace h := mb_ift c_19 h
            refine ro_fg (lv' := [.ref 200, .int y1]) hK ⟨Or.inr rfl, ⟨Or.inr rfl, trivial⟩⟩ ?_
            exact hk1 _ h
        · replace h := mb_ift c_15 h
          refine ro_aload_n hK dM_goesOn_61 rfl ?_
          refine ro_iload_n hK dM_goesOn_62 rfl ?_
          obtain ⟨r_22, s_20, q_21, h⟩ := mb_cl_e h
          refine rb_callV hK mM_readsHead vM_152 (t_M_readsHead (dd := dd + 0) q_21) rfl mb_oM rfl (Nat.le_of_ble_eq_true rfl) dM_goesOn_63 rfl ⟨Nat.le_refl _, Nat.le_refl _⟩ ?_
          show K 0 0 66 [.ref 200, .int y1] [.int r_22] (mb_s s_20)
          refine ro_if_ne (tgt := 16) hK dM_goesOn_66 (by decide) (fun c_23 => ?_) (fun c_23 => ?_)
          · replace h := mb_iff c_23 h
            refine ro_fg (lv' := [.ref 200, .int y1]) hK ⟨Or.inr rfl, ⟨Or.inr rfl, trivial⟩⟩ ?_
            exact ih _ h
          · replace h := mb_ift c_23 h
            refine ro_fg (lv' := [.ref 200, .int y1]) hK ⟨Or.inr rfl, ⟨Or.inr rfl, trivial⟩⟩ ?_
            exact hk0 _ h
      · replace h := mb_ift c_14 h
        refine ro_aload_n hK dM_goesOn_39 rfl ?_
        refine ro_dup hK dM_goesOn_40 rfl ?_
        refine rb_get hK fM_127 mb_oM rfl dM_goesOn_41 ?_
        refine ro_iconst (x := 1) hK (by decide) dM_goesOn_44 ?_
        refine ro_iadd hK dM_goesOn_45 ?_
        obtain ⟨s_24, e_25, h⟩ := mb_bd_e h
        refine rb_put hK gM_127 mb_oM rfl (by show 17 < 45; decide) rfl rfl e_25 dM_goesOn_46 ?_
        refine ro_goto (tgt := 16) hK dM_goesOn_49 (by decide) ?_
        refine ro_fg (lv' := [.ref 200, .int y1]) hK ⟨Or.inr rfl, ⟨Or.inr rfl, trivial⟩⟩ ?_
        exact ih _ h
set_option maxHeartbeats 4000000 in
set_option maxRecDepth 100000 in
theorem t_M_goesOn {dd n : Nat} {x1 : Int32} {s : mb_T} {out : Int32 × mb_T}  (h : f_M_goesOn n x1 s = some out) : mb_MC (dd + 4) yM_goesOn bM_goesOn 2 (some .int) [.ref 200, .int x1] s (some (.int out.1)) out.2 := by
  unfold f_M_goesOn at h
  refine mj_mc (lv := [.ref 200, .int x1]) mM_goesOn rfl rfl (Nat.le_of_ble_eq_true rfl) (fun K hK hR => ?_)
  have hK : mj_C (dd + 4) 0 0 RM_c "goesOn" bM_goesOn 2 K := hK
  refine ro_aload_n hK dM_goesOn_0 rfl ?_
  refine ro_iconst (x := 0) hK (by decide) dM_goesOn_1 ?_
  obtain ⟨s_1, e_2, h⟩ := mb_bd_e h
  refine rb_put hK gM_127 mb_oM rfl (by show 17 < 45; decide) rfl rfl e_2 dM_goesOn_2 ?_
  refine ro_aload_n hK dM_goesOn_5 rfl ?_
  refine ro_iconst (x := 0) hK (by decide) dM_goesOn_6 ?_
  obtain ⟨s_3, e_4, h⟩ := mb_bd_e h
  refine rb_put hK gM_149 mb_oM rfl (by show 18 < 45; decide) rfl rfl e_4 dM_goesOn_7 ?_
  refine ro_aload_n hK dM_goesOn_10 rfl ?_
  refine ro_bipush (x := (-9)) hK (by decide) dM_goesOn_11 ?_
  obtain ⟨s_5, e_6, h⟩ := mb_bd_e h
  refine rb_put hK gM_137 mb_oM rfl (by show 19 < 45; decide) rfl rfl e_6 dM_goesOn_13 ?_
  refine ro_fg (lv' := [.ref 200, .int x1]) hK ⟨Or.inr rfl, ⟨Or.inr rfl, trivial⟩⟩ ?_
  refine tl_M_goesOn_16 (dd := dd) hK hR (fun s_26 h => ?_) (fun s_27 h => ?_) (fun s_28 h => ?_) n _ h
  · skip
    refine ro_goto (tgt := 80) hK dM_goesOn_69 (by decide) ?_
    refine ro_aload_n hK dM_goesOn_80 rfl ?_
    refine rb_get hK fM_127 mb_oM rfl dM_goesOn_81 ?_
    cases h
    exact hR.1 0 0 84 _ _ _ _ rfl rfl dM_goesOn_84 ⟨rfl, rfl⟩
  · skip
    refine ro_aload_n hK dM_goesOn_80 rfl ?_
    refine rb_get hK fM_127 mb_oM rfl dM_goesOn_81 ?_
    cases h
    exact hR.1 0 0 84 _ _ _ _ rfl rfl dM_goesOn_84 ⟨rfl, rfl⟩
  · skip
    refine ro_aload_n hK dM_goesOn_85 rfl ?_
    refine rb_get hK fM_137 mb_oM rfl dM_goesOn_86 ?_
    refine ro_bipush (x := (-9)) hK (by decide) dM_goesOn_89 ?_
    refine ro_icmp_ne (tgt := 103) hK dM_goesOn_91 (by decide) (fun c_29 => ?_) (fun c_29 => ?_)
    · replace h := mb_iff c_29 h
      refine ro_bipush (x := (-9)) hK (by decide) dM_goesOn_103 ?_
      cases h
      exact hR.1 0 0 105 _ _ _ _ rfl rfl dM_goesOn_105 ⟨rfl, rfl⟩
    · replace h := mb_ift c_29 h
      refine ro_aload_n hK dM_goesOn_94 rfl ?_
      refine rb_get hK fM_22 mb_oM rfl dM_goesOn_95 ?_
      refine ro_iload_n hK dM_goesOn_98 rfl ?_
      obtain ⟨x_30, e_31, i_32, h⟩ := mb_rd_e h
      refine rb_iald hK ai_206 i_32 e_31 dM_goesOn_99 ?_
      refine ro_goto (tgt := 105) hK dM_goesOn_100 (by decide) ?_
      cases h
      exact hR.1 0 0 105 _ _ _ _ rfl rfl dM_goesOn_105 ⟨rfl, rfl⟩
theorem dM_hand_0 : decode bM_hand 0 = .ok (.aload_n 0, 1) := by decide +kernel
theorem dM_hand_1 : decode bM_hand 1 = .ok (.iload_n 1, 1) := by decide +kernel
theorem dM_hand_2 : decode bM_hand 2 = .ok (.invokevirtual 183, 3) := by decide +kernel
theorem dM_hand_5 : decode bM_hand 5 = .ok (.ifCond .ne 5, 3) := by decide +kernel
theorem dM_hand_8 : decode bM_hand 8 = .ok (.iconst (-1), 1) := by decide +kernel
theorem dM_hand_9 : decode bM_hand 9 = .ok (.ireturn, 1) := by decide +kernel
theorem dM_hand_10 : decode bM_hand 10 = .ok (.aload_n 0, 1) := by decide +kernel
theorem dM_hand_11 : decode bM_hand 11 = .ok (.invokevirtual 206, 3) := by decide +kernel
theorem dM_hand_14 : decode bM_hand 14 = .ok (.ifCond .eq 6, 3) := by decide +kernel
theorem dM_hand_17 : decode bM_hand 17 = .ok (.bipush (-4), 2) := by decide +kernel
theorem dM_hand_19 : decode bM_hand 19 = .ok (.ireturn, 1) := by decide +kernel
theorem dM_hand_20 : decode bM_hand 20 = .ok (.aload_n 0, 1) := by decide +kernel
theorem dM_hand_21 : decode bM_hand 21 = .ok (.getfield 173, 3) := by decide +kernel
theorem dM_hand_24 : decode bM_hand 24 = .ok (.bipush 120, 2) := by decide +kernel
theorem dM_hand_26 : decode bM_hand 26 = .ok (.if_icmp .ne 6, 3) := by decide +kernel
theorem dM_hand_29 : decode bM_hand 29 = .ok (.bipush (-2), 2) := by decide +kernel
theorem dM_hand_31 : decode bM_hand 31 = .ok (.ireturn, 1) := by decide +kernel
theorem dM_hand_32 : decode bM_hand 32 = .ok (.aload_n 0, 1) := by decide +kernel
theorem dM_hand_33 : decode bM_hand 33 = .ok (.iload_n 1, 1) := by decide +kernel
theorem dM_hand_34 : decode bM_hand 34 = .ok (.invokevirtual 213, 3) := by decide +kernel
theorem dM_hand_37 : decode bM_hand 37 = .ok (.aload_n 0, 1) := by decide +kernel
theorem dM_hand_38 : decode bM_hand 38 = .ok (.getfield 31, 3) := by decide +kernel
theorem dM_hand_41 : decode bM_hand 41 = .ok (.iload_n 1, 1) := by decide +kernel
theorem dM_hand_42 : decode bM_hand 42 = .ok (.iaload, 1) := by decide +kernel
theorem dM_hand_43 : decode bM_hand 43 = .ok (.ireturn, 1) := by decide +kernel
def f_M_hand (n : Nat) (x1 : Int32) (s : mb_T) : Option (Int32 × mb_T) := mb_cl (f_M_isOne n x1 s) fun r_3 s_1 => if r_3 = 0 then some ((-1), s_1) else mb_cl (f_M_isOver n s_1) fun r_7 s_5 => if r_7 = 0 then (if (s_5.1 200 24) = 120 then some ((-2), s_5) else mb_cw (f_M_goMinute n x1 s_5) fun s_10 => mb_rd s_10 213 10 x1 fun x_12 => some (x_12, s_10)) else some ((-4), s_5)
set_option maxHeartbeats 4000000 in
set_option maxRecDepth 100000 in
theorem t_M_hand {dd n : Nat} {x1 : Int32} {s : mb_T} {out : Int32 × mb_T}  (h : f_M_hand n x1 s = some out) : mb_MC (dd + 4) yM_hand bM_hand 2 (some .int) [.ref 200, .int x1] s (some (.int out.1)) out.2 := by
  unfold f_M_hand at h
  refine mj_mc (lv := [.ref 200, .int x1]) mM_hand rfl rfl (Nat.le_of_ble_eq_true rfl) (fun K hK hR => ?_)
  have hK : mj_C (dd + 4) 0 0 RM_c "hand" bM_hand 2 K := hK
  refine ro_aload_n hK dM_hand_0 rfl ?_
  refine ro_iload_n hK dM_hand_1 rfl ?_
  obtain ⟨r_3, s_1, q_2, h⟩ := mb_cl_e h
  refine rb_callV hK mM_isOne vM_183 (t_M_isOne (dd := dd + 1) q_2) rfl mb_oM rfl (Nat.le_of_ble_eq_true rfl) dM_hand_2 rfl ⟨Nat.le_refl _, Nat.le_refl _⟩ ?_
  show K 0 0 5 [.ref 200, .int x1] [.int r_3] (mb_s s_1)
  refine ro_if_ne (tgt := 10) hK dM_hand_5 (by decide) (fun c_4 => ?_) (fun c_4 => ?_)
  · replace h := mb_iff c_4 h
    refine ro_aload_n hK dM_hand_10 rfl ?_
    obtain ⟨r_7, s_5, q_6, h⟩ := mb_cl_e h
    refine rb_callV hK mM_isOver vM_206 (t_M_isOver (dd := dd + 1) q_6) rfl mb_oM rfl (Nat.le_of_ble_eq_true rfl) dM_hand_11 rfl ⟨Nat.le_refl _, Nat.le_refl _⟩ ?_
    show K 0 0 14 [.ref 200, .int x1] [.int r_7] (mb_s s_5)
    refine ro_if_eq (tgt := 20) hK dM_hand_14 (by decide) (fun c_8 => ?_) (fun c_8 => ?_)
    · replace h := mb_ift c_8 h
      refine ro_aload_n hK dM_hand_20 rfl ?_
      refine rb_get hK fM_173 mb_oM rfl dM_hand_21 ?_
      refine ro_bipush (x := 120) hK (by decide) dM_hand_24 ?_
      refine ro_icmp_ne (tgt := 32) hK dM_hand_26 (by decide) (fun c_9 => ?_) (fun c_9 => ?_)
      · replace h := mb_iff c_9 h
        refine ro_aload_n hK dM_hand_32 rfl ?_
        refine ro_iload_n hK dM_hand_33 rfl ?_
        obtain ⟨s_10, q_11, h⟩ := mb_cw_e h
        refine rb_callV hK mM_goMinute vM_213 (t_M_goMinute (dd := dd + 0) q_11) rfl mb_oM rfl (Nat.le_of_ble_eq_true rfl) dM_hand_34 rfl ⟨Nat.le_refl _, Nat.le_refl _⟩ ?_
        show K 0 0 37 [.ref 200, .int x1] [] (mb_s s_10)
        refine ro_aload_n hK dM_hand_37 rfl ?_
        refine rb_get hK fM_31 mb_oM rfl dM_hand_38 ?_
        refine ro_iload_n hK dM_hand_41 rfl ?_
        obtain ⟨x_12, e_13, i_14, h⟩ := mb_rd_e h
        refine rb_iald hK ai_213 i_14 e_13 dM_hand_42 ?_
        cases h
        exact hR.1 0 0 43 _ _ _ _ rfl rfl dM_hand_43 ⟨rfl, rfl⟩
      · replace h := mb_ift c_9 h
        refine ro_bipush (x := (-2)) hK (by decide) dM_hand_29 ?_
        cases h
        exact hR.1 0 0 31 _ _ _ _ rfl rfl dM_hand_31 ⟨rfl, rfl⟩
    · replace h := mb_iff c_8 h
      refine ro_bipush (x := (-4)) hK (by decide) dM_hand_17 ?_
      cases h
      exact hR.1 0 0 19 _ _ _ _ rfl rfl dM_hand_19 ⟨rfl, rfl⟩
  · replace h := mb_ift c_4 h
    refine ro_iconst (x := (-1)) hK (by decide) dM_hand_8 ?_
    cases h
    exact hR.1 0 0 9 _ _ _ _ rfl rfl dM_hand_9 ⟨rfl, rfl⟩
theorem dM_layBest_0 : decode bM_layBest 0 = .ok (.aload_n 0, 1) := by decide +kernel
theorem dM_layBest_1 : decode bM_layBest 1 = .ok (.iload_n 1, 1) := by decide +kernel
theorem dM_layBest_2 : decode bM_layBest 2 = .ok (.iload_n 2, 1) := by decide +kernel
theorem dM_layBest_3 : decode bM_layBest 3 = .ok (.invokevirtual 272, 3) := by decide +kernel
theorem dM_layBest_6 : decode bM_layBest 6 = .ok (.pop, 1) := by decide +kernel
theorem dM_layBest_7 : decode bM_layBest 7 = .ok (.iconst 0, 1) := by decide +kernel
theorem dM_layBest_8 : decode bM_layBest 8 = .ok (.istore_n 3, 1) := by decide +kernel
theorem dM_layBest_9 : decode bM_layBest 9 = .ok (.iload_n 3, 1) := by decide +kernel
theorem dM_layBest_10 : decode bM_layBest 10 = .ok (.iload_n 2, 1) := by decide +kernel
theorem dM_layBest_11 : decode bM_layBest 11 = .ok (.if_icmp .ge 21, 3) := by decide +kernel
theorem dM_layBest_14 : decode bM_layBest 14 = .ok (.aload_n 0, 1) := by decide +kernel
theorem dM_layBest_15 : decode bM_layBest 15 = .ok (.iload_n 1, 1) := by decide +kernel
theorem dM_layBest_16 : decode bM_layBest 16 = .ok (.iload_n 3, 1) := by decide +kernel
theorem dM_layBest_17 : decode bM_layBest 17 = .ok (.aload_n 0, 1) := by decide +kernel
theorem dM_layBest_18 : decode bM_layBest 18 = .ok (.getfield 77, 3) := by decide +kernel
theorem dM_layBest_21 : decode bM_layBest 21 = .ok (.iload_n 3, 1) := by decide +kernel
theorem dM_layBest_22 : decode bM_layBest 22 = .ok (.iaload, 1) := by decide +kernel
theorem dM_layBest_23 : decode bM_layBest 23 = .ok (.invokevirtual 107, 3) := by decide +kernel
theorem dM_layBest_26 : decode bM_layBest 26 = .ok (.iinc 3 1, 3) := by decide +kernel
theorem dM_layBest_29 : decode bM_layBest 29 = .ok (.goto (-20), 3) := by decide +kernel
theorem dM_layBest_32 : decode bM_layBest 32 = .ok (.return_, 1) := by decide +kernel
def f_M_layBest_9 (n : Nat) (k0 : Int32 → mb_T → Option (mb_T)) (y1 : Int32) (y2 : Int32) : Nat → Int32 → mb_T → Option (mb_T)
  | 0, _, _ => none
  | f + 1, w3, s => if y2 ≤ w3 then k0 w3 s else mb_rd s 236 6 w3 fun x_5 => mb_cw (f_M_setRow n y1 w3 x_5 s) fun s_8 => f_M_layBest_9 n k0 y1 y2 f (w3 + 1) s_8
def f_M_layBest (n : Nat) (x1 : Int32) (x2 : Int32) (s : mb_T) : Option (mb_T) := mb_cl (f_M_row n x1 x2 s) fun r_3 s_1 => f_M_layBest_9 n (fun x_10 s_11 => some s_11) x1 x2 n 0 s_1
set_option maxHeartbeats 4000000 in
set_option maxRecDepth 100000 in
theorem tl_M_layBest_9 {dd n : Nat} {K : mj_KT} {out : mb_T} (hK : mj_C (dd + 4) 0 0 RM_c "layBest" bM_layBest 4 K) (hR : mj_R bM_layBest none (fun r2 S2 => r2 = none ∧ S2 = mb_s out) K) {k0 : Int32 → mb_T → Option (mb_T)} {y1 : Int32} {y2 : Int32} (hk0 : ∀ (w3 : Int32) (s : mb_T), k0 w3 s = some out → K 0 0 32 [.ref 200, .int y1, .int y2, .int w3] [] (mb_s s)) : ∀ (f : Nat) (w3 : Int32) (s : mb_T), f_M_layBest_9 n k0 y1 y2 f w3 s = some out → K 0 0 9 [.ref 200, .int y1, .int y2, .int w3] [] (mb_s s) := by
  intro f
  induction f with
  | zero =>
    intro w3 s h
    cases h
  | succ f ih =>
    intro w3 s h
    rw [f_M_layBest_9] at h
    refine ro_iload_n hK dM_layBest_9 rfl ?_
    refine ro_iload_n hK dM_layBest_10 rfl ?_
    refine ro_icmp_ge (tgt := 32) hK dM_layBest_11 (by decide) (fun c_4 => ?_) (fun c_4 => ?_)
    · replace h := mb_ift c_4 h
      refine ro_fg (lv' := [.ref 200, .int y1, .int y2, .int w3]) hK ⟨Or.inr rfl, ⟨Or.inr rfl, ⟨Or.inr rfl, ⟨Or.inr rfl, trivial⟩⟩⟩⟩ ?_
      exact hk0 _ _ h
    · replace h := mb_iff c_4 h
      refine ro_aload_n hK dM_layBest_14 rfl ?_
      refine ro_iload_n hK dM_layBest_15 rfl ?_
      refine ro_iload_n hK dM_layBest_16 rfl ?_
      refine ro_aload_n hK dM_layBest_17 rfl ?_
      refine rb_get hK fM_77 mb_oM rfl dM_layBest_18 ?_
      refine ro_iload_n hK dM_layBest_21 rfl ?_
      obtain ⟨x_5, e_6, i_7, h⟩ := mb_rd_e h
      refine rb_iald hK ai_236 i_7 e_6 dM_layBest_22 ?_
      obtain ⟨s_8, q_9, h⟩ := mb_cw_e h
      refine rb_callV hK mM_setRow vM_107 (t_M_setRow (dd := dd + 2) q_9) rfl mb_oM rfl (Nat.le_of_ble_eq_true rfl) dM_layBest_23 rfl ⟨Nat.le_refl _, Nat.le_refl _⟩ ?_
      show K 0 0 26 [.ref 200, .int y1, .int y2, .int w3] [] (mb_s s_8)
      refine ro_iincv (c := 1) hK (by decide) dM_layBest_26 rfl (by decide) ?_
      show K 0 0 29 [.ref 200, .int y1, .int y2, .int (w3 + 1)] [] (mb_s s_8)
      refine ro_goto (tgt := 9) hK dM_layBest_29 (by decide) ?_
      refine ro_fg (lv' := [.ref 200, .int y1, .int y2, .int (w3 + 1)]) hK ⟨Or.inr rfl, ⟨Or.inr rfl, ⟨Or.inr rfl, ⟨Or.inr rfl, trivial⟩⟩⟩⟩ ?_
      exact ih _ _ h
set_option maxHeartbeats 4000000 in
set_option maxRecDepth 100000 in
theorem t_M_layBest {dd n : Nat} {x1 : Int32} {x2 : Int32} {s : mb_T} {out : mb_T}  (h : f_M_layBest n x1 x2 s = some out) : mb_MC (dd + 4) yM_layBest bM_layBest 4 none [.ref 200, .int x1, .int x2] s none out := by
  unfold f_M_layBest at h
  refine mj_mc (lv := [.ref 200, .int x1, .int x2, .retAddr 0]) mM_layBest rfl rfl (Nat.le_of_ble_eq_true rfl) (fun K hK hR => ?_)
  have hK : mj_C (dd + 4) 0 0 RM_c "layBest" bM_layBest 4 K := hK
  refine ro_aload_n hK dM_layBest_0 rfl ?_
  refine ro_iload_n hK dM_layBest_1 rfl ?_
  refine ro_iload_n hK dM_layBest_2 rfl ?_
  obtain ⟨r_3, s_1, q_2, h⟩ := mb_cl_e h
  refine rb_callV hK mM_row vM_272 (t_M_row (dd := dd + 0) q_2) rfl mb_oM rfl (Nat.le_of_ble_eq_true rfl) dM_layBest_3 rfl ⟨Nat.le_refl _, Nat.le_refl _⟩ ?_
  show K 0 0 6 [.ref 200, .int x1, .int x2, .retAddr 0] [.int r_3] (mb_s s_1)
  refine ro_pop hK dM_layBest_6 rfl ?_
  refine ro_iconst (x := 0) hK (by decide) dM_layBest_7 ?_
  refine ro_istore_n hK dM_layBest_8 (by decide) ?_
  show K 0 0 9 [.ref 200, .int x1, .int x2, .int 0] [] (mb_s s_1)
  refine ro_fg (lv' := [.ref 200, .int x1, .int x2, .int 0]) hK ⟨Or.inr rfl, ⟨Or.inr rfl, ⟨Or.inr rfl, ⟨Or.inr rfl, trivial⟩⟩⟩⟩ ?_
  refine tl_M_layBest_9 (dd := dd) hK hR (fun x_10 s_11 h => ?_) n _ _ h
  cases h
  exact hR.2.2 0 0 32 _ _ rfl dM_layBest_32 ⟨rfl, rfl⟩
theorem dM_mean_0 : decode bM_mean 0 = .ok (.aload_n 0, 1) := by decide +kernel
theorem dM_mean_1 : decode bM_mean 1 = .ok (.iload_n 1, 1) := by decide +kernel
theorem dM_mean_2 : decode bM_mean 2 = .ok (.invokevirtual 111, 3) := by decide +kernel
theorem dM_mean_5 : decode bM_mean 5 = .ok (.istore_n 2, 1) := by decide +kernel
theorem dM_mean_6 : decode bM_mean 6 = .ok (.iload_n 2, 1) := by decide +kernel
theorem dM_mean_7 : decode bM_mean 7 = .ok (.ifCond .ge 5, 3) := by decide +kernel
theorem dM_mean_10 : decode bM_mean 10 = .ok (.iload_n 2, 1) := by decide +kernel
theorem dM_mean_11 : decode bM_mean 11 = .ok (.ireturn, 1) := by decide +kernel
theorem dM_mean_12 : decode bM_mean 12 = .ok (.lconst 0, 1) := by decide +kernel
theorem dM_mean_13 : decode bM_mean 13 = .ok (.lstore_n 3, 1) := by decide +kernel
theorem dM_mean_14 : decode bM_mean 14 = .ok (.iconst 0, 1) := by decide +kernel
theorem dM_mean_15 : decode bM_mean 15 = .ok (.istore 5, 2) := by decide +kernel
theorem dM_mean_17 : decode bM_mean 17 = .ok (.iload 5, 2) := by decide +kernel
theorem dM_mean_19 : decode bM_mean 19 = .ok (.aload_n 0, 1) := by decide +kernel
theorem dM_mean_20 : decode bM_mean 20 = .ok (.getfield 13, 3) := by decide +kernel
theorem dM_mean_23 : decode bM_mean 23 = .ok (.iload_n 1, 1) := by decide +kernel
theorem dM_mean_24 : decode bM_mean 24 = .ok (.iaload, 1) := by decide +kernel
theorem dM_mean_25 : decode bM_mean 25 = .ok (.if_icmp .ge 20, 3) := by decide +kernel
theorem dM_mean_28 : decode bM_mean 28 = .ok (.lload_n 3, 1) := by decide +kernel
theorem dM_mean_29 : decode bM_mean 29 = .ok (.aload_n 0, 1) := by decide +kernel
theorem dM_mean_30 : decode bM_mean 30 = .ok (.iload_n 1, 1) := by decide +kernel
theorem dM_mean_31 : decode bM_mean 31 = .ok (.iload 5, 2) := by decide +kernel
theorem dM_mean_33 : decode bM_mean 33 = .ok (.invokevirtual 114, 3) := by decide +kernel
theorem dM_mean_36 : decode bM_mean 36 = .ok (.i2l, 1) := by decide +kernel
theorem dM_mean_37 : decode bM_mean 37 = .ok (.ladd, 1) := by decide +kernel
theorem dM_mean_38 : decode bM_mean 38 = .ok (.lstore_n 3, 1) := by decide +kernel
theorem dM_mean_39 : decode bM_mean 39 = .ok (.iinc 5 1, 3) := by decide +kernel
theorem dM_mean_42 : decode bM_mean 42 = .ok (.goto (-25), 3) := by decide +kernel
theorem dM_mean_45 : decode bM_mean 45 = .ok (.aload_n 0, 1) := by decide +kernel
theorem dM_mean_46 : decode bM_mean 46 = .ok (.getfield 13, 3) := by decide +kernel
theorem dM_mean_49 : decode bM_mean 49 = .ok (.iload_n 1, 1) := by decide +kernel
theorem dM_mean_50 : decode bM_mean 50 = .ok (.iaload, 1) := by decide +kernel
theorem dM_mean_51 : decode bM_mean 51 = .ok (.ifCond .ne 11, 3) := by decide +kernel
theorem dM_mean_54 : decode bM_mean 54 = .ok (.aload_n 0, 1) := by decide +kernel
theorem dM_mean_55 : decode bM_mean 55 = .ok (.iconst 4, 1) := by decide +kernel
theorem dM_mean_56 : decode bM_mean 56 = .ok (.invokevirtual 100, 3) := by decide +kernel
theorem dM_mean_59 : decode bM_mean 59 = .ok (.goto 18, 3) := by decide +kernel
theorem dM_mean_62 : decode bM_mean 62 = .ok (.aload_n 0, 1) := by decide +kernel
theorem dM_mean_63 : decode bM_mean 63 = .ok (.lload_n 3, 1) := by decide +kernel
theorem dM_mean_64 : decode bM_mean 64 = .ok (.aload_n 0, 1) := by decide +kernel
theorem dM_mean_65 : decode bM_mean 65 = .ok (.getfield 13, 3) := by decide +kernel
theorem dM_mean_68 : decode bM_mean 68 = .ok (.iload_n 1, 1) := by decide +kernel
theorem dM_mean_69 : decode bM_mean 69 = .ok (.iaload, 1) := by decide +kernel
theorem dM_mean_70 : decode bM_mean 70 = .ok (.i2l, 1) := by decide +kernel
theorem dM_mean_71 : decode bM_mean 71 = .ok (.ldiv, 1) := by decide +kernel
theorem dM_mean_72 : decode bM_mean 72 = .ok (.l2i, 1) := by decide +kernel
theorem dM_mean_73 : decode bM_mean 73 = .ok (.iconst 1, 1) := by decide +kernel
theorem dM_mean_74 : decode bM_mean 74 = .ok (.invokevirtual 118, 3) := by decide +kernel
theorem dM_mean_77 : decode bM_mean 77 = .ok (.ireturn, 1) := by decide +kernel
def f_M_mean_17 (n : Nat) (k0 : Int64 → Int32 → mb_T → Option (Int32 × mb_T)) (y1 : Int32) : Nat → Int64 → Int32 → mb_T → Option (Int32 × mb_T)
  | 0, _, _, _ => none
  | f + 1, w3, w5, s => mb_rd s 203 6 y1 fun x_5 => if x_5 ≤ w5 then k0 w3 w5 s else mb_cl (f_M_rowAt n y1 w5 s) fun r_11 s_9 => f_M_mean_17 n k0 y1 f (w3 + (Int32.toInt64 r_11)) (w5 + 1) s_9
def f_M_mean (n : Nat) (x1 : Int32) (s : mb_T) : Option (Int32 × mb_T) := mb_cl (f_M_askedRow n x1 s) fun r_3 s_1 => if 0 ≤ r_3 then (f_M_mean_17 n (fun x_12 x_13 s_14 => mb_rd s_14 203 6 x1 fun x_15 => if x_15 = 0 then (mb_cl (f_M_meet n 4 s_14) fun r_28 s_26 => some (r_28, s_26)) else mb_rd s_14 203 6 x1 fun x_19 => mb_dl (Int32.toInt64 x_19) (mb_cl (f_M_ask n (Int64.toInt32 (x_12 / (Int32.toInt64 x_19))) 1 s_14) fun r_25 s_23 => some (r_25, s_23))) x1 n 0 0 s_1) else some (r_3, s_1)
set_option maxHeartbeats 4000000 in
set_option maxRecDepth 100000 in
theorem tl_M_mean_17 {dd n : Nat} {K : mj_KT} {out : Int32 × mb_T} (hK : mj_C (dd + 4) 0 0 RM_c "mean" bM_mean 6 K) (hR : mj_R bM_mean (some .int) (fun r2 S2 => r2 = some (.int out.1) ∧ S2 = mb_s out.2) K) {k0 : Int64 → Int32 → mb_T → Option (Int32 × mb_T)} {y1 : Int32} (hk0 : ∀ (w3 : Int64) (w5 : Int32) (s : mb_T), k0 w3 w5 s = some out → K 0 0 45 [.ref 200, .int y1, .retAddr 0, .long w3, .retAddr 0, .int w5] [] (mb_s s)) : ∀ (f : Nat) (w3 : Int64) (w5 : Int32) (s : mb_T), f_M_mean_17 n k0 y1 f w3 w5 s = some out → K 0 0 17 [.ref 200, .int y1, .retAddr 0, .long w3, .retAddr 0, .int w5] [] (mb_s s) := by
  intro f
  induction f with
  | zero =>
    intro w3 w5 s h
    cases h
  | succ f ih =>
    intro w3 w5 s h
    rw [f_M_mean_17] at h
    refine ro_iload hK dM_mean_17 rfl ?_
    refine ro_aload_n hK dM_mean_19 rfl ?_
    refine rb_get hK fM_13 mb_oM rfl dM_mean_20 ?_
    refine ro_iload_n hK dM_mean_23 rfl ?_
    obtain ⟨x_5, e_6, i_7, h⟩ := mb_rd_e h
    refine rb_iald hK ai_203 i_7 e_6 dM_mean_24 ?_
    refine ro_icmp_ge (tgt := 45) hK dM_mean_25 (by decide) (fun c_8 => ?_) (fun c_8 => ?_)
    · replace h := mb_ift c_8 h
      refine ro_fg (lv' := [.ref 200, .int y1, .retAddr 0, .long w3, .retAddr 0, .int w5]) hK ⟨Or.inr rfl, ⟨Or.inr rfl, ⟨Or.inl rfl, ⟨Or.inr rfl, ⟨Or.inl rfl, ⟨Or.inr rfl, trivial⟩⟩⟩⟩⟩⟩ ?_
      exact hk0 _ _ _ h
    · replace h := mb_iff c_8 h
      refine ro_lload_n hK dM_mean_28 rfl ?_
      refine ro_aload_n hK dM_mean_29 rfl ?_
      refine ro_iload_n hK dM_mean_30 rfl ?_
      refine ro_iload hK dM_mean_31 rfl ?_
      obtain ⟨r_11, s_9, q_10, h⟩ := mb_cl_e h
      refine rb_callV hK mM_rowAt vM_114 (t_M_rowAt (dd := dd + 2) q_10) rfl mb_oM rfl (Nat.le_of_ble_eq_true rfl) dM_mean_33 rfl ⟨Nat.le_refl _, Nat.le_refl _⟩ ?_
      show K 0 0 36 [.ref 200, .int y1, .retAddr 0, .long w3, .retAddr 0, .int w5] [.int r_11, .long w3] (mb_s s_9)
      refine ro_i2l hK dM_mean_36 ?_
      refine ro_ladd hK dM_mean_37 ?_
      refine ro_lstore_n hK dM_mean_38 (by decide) ?_
      show K 0 0 39 [.ref 200, .int y1, .retAddr 0, .long (w3 + (Int32.toInt64 r_11)), .retAddr 0, .int w5] [] (mb_s s_9)
      refine ro_iincv (c := 1) hK (by decide) dM_mean_39 rfl (by decide) ?_
      show K 0 0 42 [.ref 200, .int y1, .retAddr 0, .long (w3 + (Int32.toInt64 r_11)), .retAddr 0, .int (w5 + 1)] [] (mb_s s_9)
      refine ro_goto (tgt := 17) hK dM_mean_42 (by decide) ?_
      refine ro_fg (lv' := [.ref 200, .int y1, .retAddr 0, .long (w3 + (Int32.toInt64 r_11)), .retAddr 0, .int (w5 + 1)]) hK ⟨Or.inr rfl, ⟨Or.inr rfl, ⟨Or.inl rfl, ⟨Or.inr rfl, ⟨Or.inl rfl, ⟨Or.inr rfl, trivial⟩⟩⟩⟩⟩⟩ ?_
      exact ih _ _ _ h
set_option maxHeartbeats 4000000 in
set_option maxRecDepth 100000 in
theorem t_M_mean {dd n : Nat} {x1 : Int32} {s : mb_T} {out : Int32 × mb_T}  (h : f_M_mean n x1 s = some out) : mb_MC (dd + 4) yM_mean bM_mean 6 (some .int) [.ref 200, .int x1] s (some (.int out.1)) out.2 := by
  unfold f_M_mean at h
  refine mj_mc (lv := [.ref 200, .int x1, .retAddr 0, .retAddr 0, .retAddr 0, .retAddr 0]) mM_mean rfl rfl (Nat.le_of_ble_eq_true rfl) (fun K hK hR => ?_)
  have hK : mj_C (dd + 4) 0 0 RM_c "mean" bM_mean 6 K := hK
  refine ro_aload_n hK dM_mean_0 rfl ?_
  refine ro_iload_n hK dM_mean_1 rfl ?_
  obtain ⟨r_3, s_1, q_2, h⟩ := mb_cl_e h
  refine rb_callV hK mM_askedRow vM_111 (t_M_askedRow (dd := dd + 0) q_2) rfl mb_oM rfl (Nat.le_of_ble_eq_true rfl) dM_mean_2 rfl ⟨Nat.le_refl _, Nat.le_refl _⟩ ?_
  show K 0 0 5 [.ref 200, .int x1, .retAddr 0, .retAddr 0, .retAddr 0, .retAddr 0] [.int r_3] (mb_s s_1)
  refine ro_istore_n hK dM_mean_5 (by decide) ?_
  show K 0 0 6 [.ref 200, .int x1, .int r_3, .retAddr 0, .retAddr 0, .retAddr 0] [] (mb_s s_1)
  refine ro_iload_n hK dM_mean_6 rfl ?_
  refine ro_if_ge (tgt := 12) hK dM_mean_7 (by decide) (fun c_4 => ?_) (fun c_4 => ?_)
  · replace h := mb_ift c_4 h
    refine ro_lconst (x := 0) hK (by decide) dM_mean_12 ?_
    refine ro_lstore_n hK dM_mean_13 (by decide) ?_
    show K 0 0 14 [.ref 200, .int x1, .int r_3, .long 0, .retAddr 0, .retAddr 0] [] (mb_s s_1)
    refine ro_iconst (x := 0) hK (by decide) dM_mean_14 ?_
    refine ro_istore hK dM_mean_15 (by decide) ?_
    show K 0 0 17 [.ref 200, .int x1, .int r_3, .long 0, .retAddr 0, .int 0] [] (mb_s s_1)
    refine ro_fg (lv' := [.ref 200, .int x1, .retAddr 0, .long 0, .retAddr 0, .int 0]) hK ⟨Or.inr rfl, ⟨Or.inr rfl, ⟨Or.inl rfl, ⟨Or.inr rfl, ⟨Or.inl rfl, ⟨Or.inr rfl, trivial⟩⟩⟩⟩⟩⟩ ?_
    refine tl_M_mean_17 (dd := dd) hK hR (fun x_12 x_13 s_14 h => ?_) n _ _ _ h
    refine ro_aload_n hK dM_mean_45 rfl ?_
    refine rb_get hK fM_13 mb_oM rfl dM_mean_46 ?_
    refine ro_iload_n hK dM_mean_49 rfl ?_
    obtain ⟨x_15, e_16, i_17, h⟩ := mb_rd_e h
    refine rb_iald hK ai_203 i_17 e_16 dM_mean_50 ?_
    refine ro_if_ne (tgt := 62) hK dM_mean_51 (by decide) (fun c_18 => ?_) (fun c_18 => ?_)
    · replace h := mb_iff c_18 h
      refine ro_aload_n hK dM_mean_62 rfl ?_
      refine ro_lload_n hK dM_mean_63 rfl ?_
      refine ro_aload_n hK dM_mean_64 rfl ?_
      refine rb_get hK fM_13 mb_oM rfl dM_mean_65 ?_
      refine ro_iload_n hK dM_mean_68 rfl ?_
      obtain ⟨x_19, e_20, i_21, h⟩ := mb_rd_e h
      refine rb_iald hK ai_203 i_21 e_20 dM_mean_69 ?_
      refine ro_i2l hK dM_mean_70 ?_
      obtain ⟨z_22, h⟩ := mb_dl_e h
      refine ro_ldiv hK dM_mean_71 z_22 ?_
      refine ro_l2i hK dM_mean_72 ?_
      refine ro_iconst (x := 1) hK (by decide) dM_mean_73 ?_
      obtain ⟨r_25, s_23, q_24, h⟩ := mb_cl_e h
      refine rb_callV hK mM_ask vM_118 (t_M_ask (dd := dd + 2) q_24) rfl mb_oM rfl (Nat.le_of_ble_eq_true rfl) dM_mean_74 rfl ⟨Nat.le_refl _, Nat.le_refl _⟩ ?_
      show K 0 0 77 [.ref 200, .int x1, .retAddr 0, .long x_12, .retAddr 0, .int x_13] [.int r_25] (mb_s s_23)
      cases h
      exact hR.1 0 0 77 _ _ _ _ rfl rfl dM_mean_77 ⟨rfl, rfl⟩
    · replace h := mb_ift c_18 h
      refine ro_aload_n hK dM_mean_54 rfl ?_
      refine ro_iconst (x := 4) hK (by decide) dM_mean_55 ?_
      obtain ⟨r_28, s_26, q_27, h⟩ := mb_cl_e h
      refine rb_callV hK mM_meet vM_100 (t_M_meet (dd := dd + 2) q_27) rfl mb_oM rfl (Nat.le_of_ble_eq_true rfl) dM_mean_56 rfl ⟨Nat.le_refl _, Nat.le_refl _⟩ ?_
      show K 0 0 59 [.ref 200, .int x1, .retAddr 0, .long x_12, .retAddr 0, .int x_13] [.int r_28] (mb_s s_26)
      refine ro_goto (tgt := 77) hK dM_mean_59 (by decide) ?_
      cases h
      exact hR.1 0 0 77 _ _ _ _ rfl rfl dM_mean_77 ⟨rfl, rfl⟩
  · replace h := mb_iff c_4 h
    refine ro_iload_n hK dM_mean_10 rfl ?_
    cases h
    exact hR.1 0 0 11 _ _ _ _ rfl rfl dM_mean_11 ⟨rfl, rfl⟩
theorem dM_mixCave_0 : decode bM_mixCave 0 = .ok (.aload_n 0, 1) := by decide +kernel
theorem dM_mixCave_1 : decode bM_mixCave 1 = .ok (.aload_n 0, 1) := by decide +kernel
theorem dM_mixCave_2 : decode bM_mixCave 2 = .ok (.getfield 161, 3) := by decide +kernel
theorem dM_mixCave_5 : decode bM_mixCave 5 = .ok (.ifCond .ne 7, 3) := by decide +kernel
theorem dM_mixCave_8 : decode bM_mixCave 8 = .ok (.iconst 0, 1) := by decide +kernel
theorem dM_mixCave_9 : decode bM_mixCave 9 = .ok (.goto 7, 3) := by decide +kernel
theorem dM_mixCave_12 : decode bM_mixCave 12 = .ok (.aload_n 0, 1) := by decide +kernel
theorem dM_mixCave_13 : decode bM_mixCave 13 = .ok (.getfield 164, 3) := by decide +kernel
theorem dM_mixCave_16 : decode bM_mixCave 16 = .ok (.invokevirtual 329, 3) := by decide +kernel
theorem dM_mixCave_19 : decode bM_mixCave 19 = .ok (.aload_n 0, 1) := by decide +kernel
theorem dM_mixCave_20 : decode bM_mixCave 20 = .ok (.aload_n 0, 1) := by decide +kernel
theorem dM_mixCave_21 : decode bM_mixCave 21 = .ok (.getfield 161, 3) := by decide +kernel
theorem dM_mixCave_24 : decode bM_mixCave 24 = .ok (.ifCond .ne 7, 3) := by decide +kernel
theorem dM_mixCave_27 : decode bM_mixCave 27 = .ok (.iconst 0, 1) := by decide +kernel
theorem dM_mixCave_28 : decode bM_mixCave 28 = .ok (.goto 7, 3) := by decide +kernel
theorem dM_mixCave_31 : decode bM_mixCave 31 = .ok (.aload_n 0, 1) := by decide +kernel
theorem dM_mixCave_32 : decode bM_mixCave 32 = .ok (.getfield 167, 3) := by decide +kernel
theorem dM_mixCave_35 : decode bM_mixCave 35 = .ok (.invokevirtual 329, 3) := by decide +kernel
theorem dM_mixCave_38 : decode bM_mixCave 38 = .ok (.iconst 0, 1) := by decide +kernel
theorem dM_mixCave_39 : decode bM_mixCave 39 = .ok (.istore_n 1, 1) := by decide +kernel
theorem dM_mixCave_40 : decode bM_mixCave 40 = .ok (.iload_n 1, 1) := by decide +kernel
theorem dM_mixCave_41 : decode bM_mixCave 41 = .ok (.aload_n 0, 1) := by decide +kernel
theorem dM_mixCave_42 : decode bM_mixCave 42 = .ok (.getfield 161, 3) := by decide +kernel
theorem dM_mixCave_45 : decode bM_mixCave 45 = .ok (.if_icmp .ge 32, 3) := by decide +kernel
theorem dM_mixCave_48 : decode bM_mixCave 48 = .ok (.iconst 0, 1) := by decide +kernel
theorem dM_mixCave_49 : decode bM_mixCave 49 = .ok (.istore_n 2, 1) := by decide +kernel
theorem dM_mixCave_50 : decode bM_mixCave 50 = .ok (.iload_n 2, 1) := by decide +kernel
theorem dM_mixCave_51 : decode bM_mixCave 51 = .ok (.iconst 5, 1) := by decide +kernel
theorem dM_mixCave_52 : decode bM_mixCave 52 = .ok (.if_icmp .gt 19, 3) := by decide +kernel
theorem dM_mixCave_55 : decode bM_mixCave 55 = .ok (.aload_n 0, 1) := by decide +kernel
theorem dM_mixCave_56 : decode bM_mixCave 56 = .ok (.aload_n 0, 1) := by decide +kernel
theorem dM_mixCave_57 : decode bM_mixCave 57 = .ok (.iload_n 1, 1) := by decide +kernel
theorem dM_mixCave_58 : decode bM_mixCave 58 = .ok (.iload_n 2, 1) := by decide +kernel
theorem dM_mixCave_59 : decode bM_mixCave 59 = .ok (.invokevirtual 186, 3) := by decide +kernel
theorem dM_mixCave_62 : decode bM_mixCave 62 = .ok (.invokevirtual 329, 3) := by decide +kernel
theorem dM_mixCave_65 : decode bM_mixCave 65 = .ok (.iinc 2 1, 3) := by decide +kernel
theorem dM_mixCave_68 : decode bM_mixCave 68 = .ok (.goto (-18), 3) := by decide +kernel
theorem dM_mixCave_71 : decode bM_mixCave 71 = .ok (.iinc 1 1, 3) := by decide +kernel
theorem dM_mixCave_74 : decode bM_mixCave 74 = .ok (.goto (-34), 3) := by decide +kernel
theorem dM_mixCave_77 : decode bM_mixCave 77 = .ok (.iconst 0, 1) := by decide +kernel
theorem dM_mixCave_78 : decode bM_mixCave 78 = .ok (.istore_n 1, 1) := by decide +kernel
theorem dM_mixCave_79 : decode bM_mixCave 79 = .ok (.iload_n 1, 1) := by decide +kernel
theorem dM_mixCave_80 : decode bM_mixCave 80 = .ok (.aload_n 0, 1) := by decide +kernel
theorem dM_mixCave_81 : decode bM_mixCave 81 = .ok (.getfield 173, 3) := by decide +kernel
theorem dM_mixCave_84 : decode bM_mixCave 84 = .ok (.if_icmp .ge 19, 3) := by decide +kernel
theorem dM_mixCave_87 : decode bM_mixCave 87 = .ok (.aload_n 0, 1) := by decide +kernel
theorem dM_mixCave_88 : decode bM_mixCave 88 = .ok (.aload_n 0, 1) := by decide +kernel
theorem dM_mixCave_89 : decode bM_mixCave 89 = .ok (.getfield 53, 3) := by decide +kernel
theorem dM_mixCave_92 : decode bM_mixCave 92 = .ok (.iload_n 1, 1) := by decide +kernel
theorem dM_mixCave_93 : decode bM_mixCave 93 = .ok (.iaload, 1) := by decide +kernel
theorem dM_mixCave_94 : decode bM_mixCave 94 = .ok (.invokevirtual 329, 3) := by decide +kernel
theorem dM_mixCave_97 : decode bM_mixCave 97 = .ok (.iinc 1 1, 3) := by decide +kernel
theorem dM_mixCave_100 : decode bM_mixCave 100 = .ok (.goto (-21), 3) := by decide +kernel
theorem dM_mixCave_103 : decode bM_mixCave 103 = .ok (.iconst 0, 1) := by decide +kernel
theorem dM_mixCave_104 : decode bM_mixCave 104 = .ok (.istore_n 1, 1) := by decide +kernel
theorem dM_mixCave_105 : decode bM_mixCave 105 = .ok (.iload_n 1, 1) := by decide +kernel
theorem dM_mixCave_106 : decode bM_mixCave 106 = .ok (.iconst 3, 1) := by decide +kernel
theorem dM_mixCave_107 : decode bM_mixCave 107 = .ok (.if_icmp .ge 42, 3) := by decide +kernel
theorem dM_mixCave_110 : decode bM_mixCave 110 = .ok (.aload_n 0, 1) := by decide +kernel
theorem dM_mixCave_111 : decode bM_mixCave 111 = .ok (.aload_n 0, 1) := by decide +kernel
theorem dM_mixCave_112 : decode bM_mixCave 112 = .ok (.getfield 62, 3) := by decide +kernel
theorem dM_mixCave_115 : decode bM_mixCave 115 = .ok (.sipush 850, 3) := by decide +kernel
theorem dM_mixCave_118 : decode bM_mixCave 118 = .ok (.iload_n 1, 1) := by decide +kernel
theorem dM_mixCave_119 : decode bM_mixCave 119 = .ok (.imul, 1) := by decide +kernel
theorem dM_mixCave_120 : decode bM_mixCave 120 = .ok (.iaload, 1) := by decide +kernel
theorem dM_mixCave_121 : decode bM_mixCave 121 = .ok (.bipush (-9), 2) := by decide +kernel
theorem dM_mixCave_123 : decode bM_mixCave 123 = .ok (.if_icmp .ne 7, 3) := by decide +kernel
theorem dM_mixCave_126 : decode bM_mixCave 126 = .ok (.iconst (-1), 1) := by decide +kernel
theorem dM_mixCave_127 : decode bM_mixCave 127 = .ok (.goto 13, 3) := by decide +kernel
theorem dM_mixCave_130 : decode bM_mixCave 130 = .ok (.aload_n 0, 1) := by decide +kernel
theorem dM_mixCave_131 : decode bM_mixCave 131 = .ok (.getfield 62, 3) := by decide +kernel
theorem dM_mixCave_134 : decode bM_mixCave 134 = .ok (.sipush 850, 3) := by decide +kernel
theorem dM_mixCave_137 : decode bM_mixCave 137 = .ok (.iload_n 1, 1) := by decide +kernel
theorem dM_mixCave_138 : decode bM_mixCave 138 = .ok (.imul, 1) := by decide +kernel
theorem dM_mixCave_139 : decode bM_mixCave 139 = .ok (.iaload, 1) := by decide +kernel
theorem dM_mixCave_140 : decode bM_mixCave 140 = .ok (.invokevirtual 329, 3) := by decide +kernel
theorem dM_mixCave_143 : decode bM_mixCave 143 = .ok (.iinc 1 1, 3) := by decide +kernel
theorem dM_mixCave_146 : decode bM_mixCave 146 = .ok (.goto (-41), 3) := by decide +kernel
theorem dM_mixCave_149 : decode bM_mixCave 149 = .ok (.return_, 1) := by decide +kernel
def f_M_mixCave_50 (n : Nat) (k0 : Int32 → mb_T → Option (mb_T)) (y1 : Int32) : Nat → Int32 → mb_T → Option (mb_T)
  | 0, _, _ => none
  | f + 1, w2, s => if 5 < w2 then k0 w2 s else mb_cl (f_M_personOf n y1 w2 s) fun r_13 s_11 => mb_cw (f_M_mix n r_13 s_11) fun s_14 => f_M_mixCave_50 n k0 y1 f (w2 + 1) s_14
def f_M_mixCave_40 (n : Nat) (k0 : Int32 → mb_T → Option (mb_T))  : Nat → Int32 → mb_T → Option (mb_T)
  | 0, _, _ => none
  | f + 1, w1, s => if (s.1 200 8) ≤ w1 then k0 w1 s else f_M_mixCave_50 n (fun x_16 s_17 => f_M_mixCave_40 n k0 f (w1 + 1) s_17) w1 n 0 s
def f_M_mixCave_79 (n : Nat) (k0 : Int32 → mb_T → Option (mb_T))  : Nat → Int32 → mb_T → Option (mb_T)
  | 0, _, _ => none
  | f + 1, w1, s => if (s.1 200 24) ≤ w1 then k0 w1 s else mb_rd s 226 120 w1 fun x_21 => mb_cw (f_M_mix n x_21 s) fun s_24 => f_M_mixCave_79 n k0 f (w1 + 1) s_24
def f_M_mixCave_105 (n : Nat) (k0 : Int32 → mb_T → Option (mb_T))  : Nat → Int32 → mb_T → Option (mb_T)
  | 0, _, _ => none
  | f + 1, w1, s => if 3 ≤ w1 then k0 w1 s else mb_rd s 229 2550 (850 * w1) fun x_29 => mb_jn (fun (x_37 : Int32) (s_38 : mb_T) => mb_cw (f_M_mix n x_37 s_38) fun s_39 => f_M_mixCave_105 n k0 f (w1 + 1) s_39) fun j_32 => if x_29 = (-9) then j_32 (-1) s else mb_rd s 229 2550 (850 * w1) fun x_34 => j_32 x_34 s
def f_M_mixCave (n : Nat)  (s : mb_T) : Option (mb_T) := mb_cw (f_M_mix n (if (s.1 200 8) = 0 then 0 else (s.1 200 9) : Int32) s) fun s_3 => mb_cw (f_M_mix n (if (s_3.1 200 8) = 0 then 0 else (s_3.1 200 10) : Int32) s_3) fun s_7 => f_M_mixCave_40 n (fun x_18 s_19 => f_M_mixCave_79 n (fun x_26 s_27 => f_M_mixCave_105 n (fun x_42 s_43 => some s_43) n 0 s_27) n 0 s_19) n 0 s_7
set_option maxHeartbeats 4000000 in
set_option maxRecDepth 100000 in
theorem tl_M_mixCave_50 {dd n : Nat} {K : mj_KT} {out : mb_T} (hK : mj_C (dd + 4) 0 0 RM_c "mixCave" bM_mixCave 3 K) (hR : mj_R bM_mixCave none (fun r2 S2 => r2 = none ∧ S2 = mb_s out) K) {k0 : Int32 → mb_T → Option (mb_T)} {y1 : Int32} (hk0 : ∀ (w2 : Int32) (s : mb_T), k0 w2 s = some out → K 0 0 71 [.ref 200, .int y1, .int w2] [] (mb_s s)) : ∀ (f : Nat) (w2 : Int32) (s : mb_T), f_M_mixCave_50 n k0 y1 f w2 s = some out → K 0 0 50 [.ref 200, .int y1, .int w2] [] (mb_s s) := by
  intro f
  induction f with
  | zero =>
    intro w2 s h
    cases h
  | succ f ih =>
    intro w2 s h
    rw [f_M_mixCave_50] at h
    refine ro_iload_n hK dM_mixCave_50 rfl ?_
    refine ro_iconst (x := 5) hK (by decide) dM_mixCave_51 ?_
    refine ro_icmp_gt (tgt := 71) hK dM_mixCave_52 (by decide) (fun c_10 => ?_) (fun c_10 => ?_)
    · replace h := mb_ift c_10 h
      refine ro_fg (lv' := [.ref 200, .int y1, .int w2]) hK ⟨Or.inr rfl, ⟨Or.inr rfl, ⟨Or.inr rfl, trivial⟩⟩⟩ ?_
      exact hk0 _ _ h
    · replace h := mb_iff c_10 h
      refine ro_aload_n hK dM_mixCave_55 rfl ?_
      refine ro_aload_n hK dM_mixCave_56 rfl ?_
      refine ro_iload_n hK dM_mixCave_57 rfl ?_
      refine ro_iload_n hK dM_mixCave_58 rfl ?_
      obtain ⟨r_13, s_11, q_12, h⟩ := mb_cl_e h
      refine rb_callV hK mM_personOf vM_186 (t_M_personOf (dd := dd + 0) q_12) rfl mb_oM rfl (Nat.le_of_ble_eq_true rfl) dM_mixCave_59 rfl ⟨Nat.le_refl _, Nat.le_refl _⟩ ?_
      show K 0 0 62 [.ref 200, .int y1, .int w2] [.int r_13, .ref 200] (mb_s s_11)
      obtain ⟨s_14, q_15, h⟩ := mb_cw_e h
      refine rb_callV hK mM_mix vM_329 (t_M_mix (dd := dd + 2) q_15) rfl mb_oM rfl (Nat.le_of_ble_eq_true rfl) dM_mixCave_62 rfl ⟨Nat.le_refl _, Nat.le_refl _⟩ ?_
      show K 0 0 65 [.ref 200, .int y1, .int w2] [] (mb_s s_14)
      refine ro_iincv (c := 1) hK (by decide) dM_mixCave_65 rfl (by decide) ?_
      show K 0 0 68 [.ref 200, .int y1, .int (w2 + 1)] [] (mb_s s_14)
      refine ro_goto (tgt := 50) hK dM_mixCave_68 (by decide) ?_
      refine ro_fg (lv' := [.ref 200, .int y1, .int (w2 + 1)]) hK ⟨Or.inr rfl, ⟨Or.inr rfl, ⟨Or.inr rfl, trivial⟩⟩⟩ ?_
      exact ih _ _ h
set_option maxHeartbeats 4000000 in
set_option maxRecDepth 100000 in
theorem tl_M_mixCave_40 {dd n : Nat} {K : mj_KT} {out : mb_T} (hK : mj_C (dd + 4) 0 0 RM_c "mixCave" bM_mixCave 3 K) (hR : mj_R bM_mixCave none (fun r2 S2 => r2 = none ∧ S2 = mb_s out) K) {k0 : Int32 → mb_T → Option (mb_T)}  (hk0 : ∀ (w1 : Int32) (s : mb_T), k0 w1 s = some out → K 0 0 77 [.ref 200, .int w1, .retAddr 0] [] (mb_s s)) : ∀ (f : Nat) (w1 : Int32) (s : mb_T), f_M_mixCave_40 n k0 f w1 s = some out → K 0 0 40 [.ref 200, .int w1, .retAddr 0] [] (mb_s s) := by
  intro f
  induction f with
  | zero =>
    intro w1 s h
    cases h
  | succ f ih =>
    intro w1 s h
    rw [f_M_mixCave_40] at h
    refine ro_iload_n hK dM_mixCave_40 rfl ?_
    refine ro_aload_n hK dM_mixCave_41 rfl ?_
    refine rb_get hK fM_161 mb_oM rfl dM_mixCave_42 ?_
    refine ro_icmp_ge (tgt := 77) hK dM_mixCave_45 (by decide) (fun c_9 => ?_) (fun c_9 => ?_)
    · replace h := mb_ift c_9 h
      refine ro_fg (lv' := [.ref 200, .int w1, .retAddr 0]) hK ⟨Or.inr rfl, ⟨Or.inr rfl, ⟨Or.inl rfl, trivial⟩⟩⟩ ?_
      exact hk0 _ _ h
    · replace h := mb_iff c_9 h
      refine ro_iconst (x := 0) hK (by decide) dM_mixCave_48 ?_
      refine ro_istore_n hK dM_mixCave_49 (by decide) ?_
      show K 0 0 50 [.ref 200, .int w1, .int 0] [] (mb_s s)
      refine ro_fg (lv' := [.ref 200, .int w1, .int 0]) hK ⟨Or.inr rfl, ⟨Or.inr rfl, ⟨Or.inr rfl, trivial⟩⟩⟩ ?_
      refine tl_M_mixCave_50 (dd := dd) hK hR (fun x_16 s_17 h => ?_) n _ _ h
      refine ro_iincv (c := 1) hK (by decide) dM_mixCave_71 rfl (by decide) ?_
      show K 0 0 74 [.ref 200, .int (w1 + 1), .int x_16] [] (mb_s s_17)
      refine ro_goto (tgt := 40) hK dM_mixCave_74 (by decide) ?_
      refine ro_fg (lv' := [.ref 200, .int (w1 + 1), .retAddr 0]) hK ⟨Or.inr rfl, ⟨Or.inr rfl, ⟨Or.inl rfl, trivial⟩⟩⟩ ?_
      exact ih _ _ h
set_option maxHeartbeats 4000000 in
set_option maxRecDepth 100000 in
theorem tl_M_mixCave_79 {dd n : Nat} {K : mj_KT} {out : mb_T} (hK : mj_C (dd + 4) 0 0 RM_c "mixCave" bM_mixCave 3 K) (hR : mj_R bM_mixCave none (fun r2 S2 => r2 = none ∧ S2 = mb_s out) K) {k0 : Int32 → mb_T → Option (mb_T)}  (hk0 : ∀ (w1 : Int32) (s : mb_T), k0 w1 s = some out → K 0 0 103 [.ref 200, .int w1, .retAddr 0] [] (mb_s s)) : ∀ (f : Nat) (w1 : Int32) (s : mb_T), f_M_mixCave_79 n k0 f w1 s = some out → K 0 0 79 [.ref 200, .int w1, .retAddr 0] [] (mb_s s) := by
  intro f
  induction f with
  | zero =>
    intro w1 s h
    cases h
  | succ f ih =>
    intro w1 s h
    rw [f_M_mixCave_79] at h
    refine ro_iload_n hK dM_mixCave_79 rfl ?_
    refine ro_aload_n hK dM_mixCave_80 rfl ?_
    refine rb_get hK fM_173 mb_oM rfl dM_mixCave_81 ?_
    refine ro_icmp_ge (tgt := 103) hK dM_mixCave_84 (by decide) (fun c_20 => ?_) (fun c_20 => ?_)
    · replace h := mb_ift c_20 h
      refine ro_fg (lv' := [.ref 200, .int w1, .retAddr 0]) hK ⟨Or.inr rfl, ⟨Or.inr rfl, ⟨Or.inl rfl, trivial⟩⟩⟩ ?_
      exact hk0 _ _ h
    · replace h := mb_iff c_20 h
      refine ro_aload_n hK dM_mixCave_87 rfl ?_
      refine ro_aload_n hK dM_mixCave_88 rfl ?_
      refine rb_get hK fM_53 mb_oM rfl dM_mixCave_89 ?_
      refine ro_iload_n hK dM_mixCave_92 rfl ?_
      obtain ⟨x_21, e_22, i_23, h⟩ := mb_rd_e h
      refine rb_iald hK ai_226 i_23 e_22 dM_mixCave_93 ?_
      obtain ⟨s_24, q_25, h⟩ := mb_cw_e h
      refine rb_callV hK mM_mix vM_329 (t_M_mix (dd := dd + 2) q_25) rfl mb_oM rfl (Nat.le_of_ble_eq_true rfl) dM_mixCave_94 rfl ⟨Nat.le_refl _, Nat.le_refl _⟩ ?_
      show K 0 0 97 [.ref 200, .int w1, .retAddr 0] [] (mb_s s_24)
      refine ro_iincv (c := 1) hK (by decide) dM_mixCave_97 rfl (by decide) ?_
      show K 0 0 100 [.ref 200, .int (w1 + 1), .retAddr 0] [] (mb_s s_24)
      refine ro_goto (tgt := 79) hK dM_mixCave_100 (by decide) ?_
      refine ro_fg (lv' := [.ref 200, .int (w1 + 1), .retAddr 0]) hK ⟨Or.inr rfl, ⟨Or.inr rfl, ⟨Or.inl rfl, trivial⟩⟩⟩ ?_
      exact ih _ _ h
set_option maxHeartbeats 4000000 in
set_option maxRecDepth 100000 in
theorem tl_M_mixCave_105 {dd n : Nat} {K : mj_KT} {out : mb_T} (hK : mj_C (dd + 4) 0 0 RM_c "mixCave" bM_mixCave 3 K) (hR : mj_R bM_mixCave none (fun r2 S2 => r2 = none ∧ S2 = mb_s out) K) {k0 : Int32 → mb_T → Option (mb_T)}  (hk0 : ∀ (w1 : Int32) (s : mb_T), k0 w1 s = some out → K 0 0 149 [.ref 200, .int w1, .retAddr 0] [] (mb_s s)) : ∀ (f : Nat) (w1 : Int32) (s : mb_T), f_M_mixCave_105 n k0 f w1 s = some out → K 0 0 105 [.ref 200, .int w1, .retAddr 0] [] (mb_s s) := by
  intro f
  induction f with
  | zero =>
    intro w1 s h
    cases h
  | succ f ih =>
    intro w1 s h
    rw [f_M_mixCave_105] at h
    refine ro_iload_n hK dM_mixCave_105 rfl ?_
    refine ro_iconst (x := 3) hK (by decide) dM_mixCave_106 ?_
    refine ro_icmp_ge (tgt := 149) hK dM_mixCave_107 (by decide) (fun c_28 => ?_) (fun c_28 => ?_)
    · replace h := mb_ift c_28 h
      refine ro_fg (lv' := [.ref 200, .int w1, .retAddr 0]) hK ⟨Or.inr rfl, ⟨Or.inr rfl, ⟨Or.inl rfl, trivial⟩⟩⟩ ?_
      exact hk0 _ _ h
    · replace h := mb_iff c_28 h
      refine ro_aload_n hK dM_mixCave_110 rfl ?_
      refine ro_aload_n hK dM_mixCave_111 rfl ?_
      refine rb_get hK fM_62 mb_oM rfl dM_mixCave_112 ?_
      refine ro_sipush (x := 850) hK (by decide) dM_mixCave_115 ?_
      refine ro_iload_n hK dM_mixCave_118 rfl ?_
      refine ro_imul hK dM_mixCave_119 ?_
      obtain ⟨x_29, e_30, i_31, h⟩ := mb_rd_e h
      refine rb_iald hK ai_229 i_31 e_30 dM_mixCave_120 ?_
      refine ro_bipush (x := (-9)) hK (by decide) dM_mixCave_121 ?_
      obtain ⟨j_32, e_41, h⟩ := mb_jn_e h
      have hj_32 : ∀ (x_37 : Int32) (s_38 : mb_T), j_32 x_37 s_38 = some out → K 0 0 140 [.ref 200, .int w1, .retAddr 0] [.int x_37, .ref 200] (mb_s s_38) := by
        intro x_37 s_38 h
        rw [e_41] at h
        obtain ⟨s_39, q_40, h⟩ := mb_cw_e h
        refine rb_callV hK mM_mix vM_329 (t_M_mix (dd := dd + 2) q_40) rfl mb_oM rfl (Nat.le_of_ble_eq_true rfl) dM_mixCave_140 rfl ⟨Nat.le_refl _, Nat.le_refl _⟩ ?_
        show K 0 0 143 [.ref 200, .int w1, .retAddr 0] [] (mb_s s_39)
        refine ro_iincv (c := 1) hK (by decide) dM_mixCave_143 rfl (by decide) ?_
        show K 0 0 146 [.ref 200, .int (w1 + 1), .retAddr 0] [] (mb_s s_39)
        refine ro_goto (tgt := 105) hK dM_mixCave_146 (by decide) ?_
        refine ro_fg (lv' := [.ref 200, .int (w1 + 1), .retAddr 0]) hK ⟨Or.inr rfl, ⟨Or.inr rfl, ⟨Or.inl rfl, trivial⟩⟩⟩ ?_
        exact ih _ _ h
      refine ro_icmp_ne (tgt := 130) hK dM_mixCave_123 (by decide) (fun c_33 => ?_) (fun c_33 => ?_)
      · replace h := mb_iff c_33 h
        refine ro_aload_n hK dM_mixCave_130 rfl ?_
        refine rb_get hK fM_62 mb_oM rfl dM_mixCave_131 ?_
        refine ro_sipush (x := 850) hK (by decide) dM_mixCave_134 ?_
        refine ro_iload_n hK dM_mixCave_137 rfl ?_
        refine ro_imul hK dM_mixCave_138 ?_
        obtain ⟨x_34, e_35, i_36, h⟩ := mb_rd_e h
        refine rb_iald hK ai_229 i_36 e_35 dM_mixCave_139 ?_
        refine ro_fg (lv' := [.ref 200, .int w1, .retAddr 0]) hK ⟨Or.inr rfl, ⟨Or.inr rfl, ⟨Or.inl rfl, trivial⟩⟩⟩ ?_
        exact hj_32 _ _ h
      · replace h := mb_ift c_33 h
        refine ro_iconst (x := (-1)) hK (by decide) dM_mixCave_126 ?_
        refine ro_goto (tgt := 140) hK dM_mixCave_127 (by decide) ?_
        refine ro_fg (lv' := [.ref 200, .int w1, .retAddr 0]) hK ⟨Or.inr rfl, ⟨Or.inr rfl, ⟨Or.inl rfl, trivial⟩⟩⟩ ?_
        exact hj_32 _ _ h
set_option maxHeartbeats 4000000 in
set_option maxRecDepth 100000 in
theorem t_M_mixCave {dd n : Nat}  {s : mb_T} {out : mb_T}  (h : f_M_mixCave n  s = some out) : mb_MC (dd + 4) yM_mixCave bM_mixCave 3 none [.ref 200] s none out := by
  unfold f_M_mixCave at h
  refine mj_mc (lv := [.ref 200, .retAddr 0, .retAddr 0]) mM_mixCave rfl rfl (Nat.le_of_ble_eq_true rfl) (fun K hK hR => ?_)
  have hK : mj_C (dd + 4) 0 0 RM_c "mixCave" bM_mixCave 3 K := hK
  refine ro_aload_n hK dM_mixCave_0 rfl ?_
  refine ro_aload_n hK dM_mixCave_1 rfl ?_
  refine rb_get hK fM_161 mb_oM rfl dM_mixCave_2 ?_
  have j_2 : ∀ w_ : Int32, w_ = (if (s.1 200 8) = 0 then 0 else (s.1 200 9) : Int32) → K 0 0 16 [.ref 200, .retAddr 0, .retAddr 0] [.int w_, .ref 200] (mb_s s) → K 0 0 5 [.ref 200, .retAddr 0, .retAddr 0] [.int (s.1 200 8), .ref 200] (mb_s s) := by
    intro w_ hw hj
    refine ro_if_ne (tgt := 12) hK dM_mixCave_5 (by decide) (fun c_1 => ?_) (fun c_1 => ?_)
    · skip
      refine ro_aload_n hK dM_mixCave_12 rfl ?_
      refine rb_get hK fM_164 mb_oM rfl dM_mixCave_13 ?_
      have hw := (hw.trans (if_neg c_1))
      subst hw
      exact hj
    · skip
      refine ro_iconst (x := 0) hK (by decide) dM_mixCave_8 ?_
      refine ro_goto (tgt := 16) hK dM_mixCave_9 (by decide) ?_
      have hw := (hw.trans (if_pos c_1))
      subst hw
      exact hj
  refine j_2 _ rfl ?_
  obtain ⟨s_3, q_4, h⟩ := mb_cw_e h
  refine rb_callV hK mM_mix vM_329 (t_M_mix (dd := dd + 2) q_4) rfl mb_oM rfl (Nat.le_of_ble_eq_true rfl) dM_mixCave_16 rfl ⟨Nat.le_refl _, Nat.le_refl _⟩ ?_
  show K 0 0 19 [.ref 200, .retAddr 0, .retAddr 0] [] (mb_s s_3)
  refine ro_aload_n hK dM_mixCave_19 rfl ?_
  refine ro_aload_n hK dM_mixCave_20 rfl ?_
  refine rb_get hK fM_161 mb_oM rfl dM_mixCave_21 ?_
  have j_6 : ∀ w_ : Int32, w_ = (if (s_3.1 200 8) = 0 then 0 else (s_3.1 200 10) : Int32) → K 0 0 35 [.ref 200, .retAddr 0, .retAddr 0] [.int w_, .ref 200] (mb_s s_3) → K 0 0 24 [.ref 200, .retAddr 0, .retAddr 0] [.int (s_3.1 200 8), .ref 200] (mb_s s_3) := by
    intro w_ hw hj
    refine ro_if_ne (tgt := 31) hK dM_mixCave_24 (by decide) (fun c_5 => ?_) (fun c_5 => ?_)
    · skip
      refine ro_aload_n hK dM_mixCave_31 rfl ?_
      refine rb_get hK fM_167 mb_oM rfl dM_mixCave_32 ?_
      have hw := (hw.trans (if_neg c_5))
      subst hw
      exact hj
    · skip
      refine ro_iconst (x := 0) hK (by decide) dM_mixCave_27 ?_
      refine ro_goto (tgt := 35) hK dM_mixCave_28 (by decide) ?_
      have hw := (hw.trans (if_pos c_5))
      subst hw
      exact hj
  refine j_6 _ rfl ?_
  obtain ⟨s_7, q_8, h⟩ := mb_cw_e h
  refine rb_callV hK mM_mix vM_329 (t_M_mix (dd := dd + 2) q_8) rfl mb_oM rfl (Nat.le_of_ble_eq_true rfl) dM_mixCave_35 rfl ⟨Nat.le_refl _, Nat.le_refl _⟩ ?_
  show K 0 0 38 [.ref 200, .retAddr 0, .retAddr 0] [] (mb_s s_7)
  refine ro_iconst (x := 0) hK (by decide) dM_mixCave_38 ?_
  refine ro_istore_n hK dM_mixCave_39 (by decide) ?_
  show K 0 0 40 [.ref 200, .int 0, .retAddr 0] [] (mb_s s_7)
  refine ro_fg (lv' := [.ref 200, .int 0, .retAddr 0]) hK ⟨Or.inr rfl, ⟨Or.inr rfl, ⟨Or.inl rfl, trivial⟩⟩⟩ ?_
  refine tl_M_mixCave_40 (dd := dd) hK hR (fun x_18 s_19 h => ?_) n _ _ h
  refine ro_iconst (x := 0) hK (by decide) dM_mixCave_77 ?_
  refine ro_istore_n hK dM_mixCave_78 (by decide) ?_
  show K 0 0 79 [.ref 200, .int 0, .retAddr 0] [] (mb_s s_19)
  refine ro_fg (lv' := [.ref 200, .int 0, .retAddr 0]) hK ⟨Or.inr rfl, ⟨Or.inr rfl, ⟨Or.inl rfl, trivial⟩⟩⟩ ?_
  refine tl_M_mixCave_79 (dd := dd) hK hR (fun x_26 s_27 h => ?_) n _ _ h
  refine ro_iconst (x := 0) hK (by decide) dM_mixCave_103 ?_
  refine ro_istore_n hK dM_mixCave_104 (by decide) ?_
  show K 0 0 105 [.ref 200, .int 0, .retAddr 0] [] (mb_s s_27)
  refine ro_fg (lv' := [.ref 200, .int 0, .retAddr 0]) hK ⟨Or.inr rfl, ⟨Or.inr rfl, ⟨Or.inl rfl, trivial⟩⟩⟩ ?_
  refine tl_M_mixCave_105 (dd := dd) hK hR (fun x_42 s_43 h => ?_) n _ _ h
  cases h
  exact hR.2.2 0 0 149 _ _ rfl dM_mixCave_149 ⟨rfl, rfl⟩
theorem dM_nextBy_0 : decode bM_nextBy 0 = .ok (.iconst 1, 1) := by decide +kernel
theorem dM_nextBy_1 : decode bM_nextBy 1 = .ok (.aload_n 0, 1) := by decide +kernel
theorem dM_nextBy_2 : decode bM_nextBy 2 = .ok (.getfield 161, 3) := by decide +kernel
theorem dM_nextBy_5 : decode bM_nextBy 5 = .ok (.ishl, 1) := by decide +kernel
theorem dM_nextBy_6 : decode bM_nextBy 6 = .ok (.iconst 1, 1) := by decide +kernel
theorem dM_nextBy_7 : decode bM_nextBy 7 = .ok (.isub, 1) := by decide +kernel
theorem dM_nextBy_8 : decode bM_nextBy 8 = .ok (.istore_n 2, 1) := by decide +kernel
theorem dM_nextBy_9 : decode bM_nextBy 9 = .ok (.iload_n 1, 1) := by decide +kernel
theorem dM_nextBy_10 : decode bM_nextBy 10 = .ok (.ifCond .ne 9, 3) := by decide +kernel
theorem dM_nextBy_13 : decode bM_nextBy 13 = .ok (.aload_n 0, 1) := by decide +kernel
theorem dM_nextBy_14 : decode bM_nextBy 14 = .ok (.iload_n 2, 1) := by decide +kernel
theorem dM_nextBy_15 : decode bM_nextBy 15 = .ok (.invokevirtual 195, 3) := by decide +kernel
theorem dM_nextBy_18 : decode bM_nextBy 18 = .ok (.ireturn, 1) := by decide +kernel
theorem dM_nextBy_19 : decode bM_nextBy 19 = .ok (.aload_n 0, 1) := by decide +kernel
theorem dM_nextBy_20 : decode bM_nextBy 20 = .ok (.getfield 50, 3) := by decide +kernel
theorem dM_nextBy_23 : decode bM_nextBy 23 = .ok (.bipush (-9), 2) := by decide +kernel
theorem dM_nextBy_25 : decode bM_nextBy 25 = .ok (.if_icmp .ne 5, 3) := by decide +kernel
theorem dM_nextBy_28 : decode bM_nextBy 28 = .ok (.iconst 0, 1) := by decide +kernel
theorem dM_nextBy_29 : decode bM_nextBy 29 = .ok (.ireturn, 1) := by decide +kernel
theorem dM_nextBy_30 : decode bM_nextBy 30 = .ok (.iload_n 1, 1) := by decide +kernel
theorem dM_nextBy_31 : decode bM_nextBy 31 = .ok (.iconst 1, 1) := by decide +kernel
theorem dM_nextBy_32 : decode bM_nextBy 32 = .ok (.if_icmp .ne 27, 3) := by decide +kernel
theorem dM_nextBy_35 : decode bM_nextBy 35 = .ok (.aload_n 0, 1) := by decide +kernel
theorem dM_nextBy_36 : decode bM_nextBy 36 = .ok (.getfield 50, 3) := by decide +kernel
theorem dM_nextBy_39 : decode bM_nextBy 39 = .ok (.aload_n 0, 1) := by decide +kernel
theorem dM_nextBy_40 : decode bM_nextBy 40 = .ok (.getfield 161, 3) := by decide +kernel
theorem dM_nextBy_43 : decode bM_nextBy 43 = .ok (.iconst 1, 1) := by decide +kernel
theorem dM_nextBy_44 : decode bM_nextBy 44 = .ok (.isub, 1) := by decide +kernel
theorem dM_nextBy_45 : decode bM_nextBy 45 = .ok (.if_icmp .ne 7, 3) := by decide +kernel
theorem dM_nextBy_48 : decode bM_nextBy 48 = .ok (.iconst 0, 1) := by decide +kernel
theorem dM_nextBy_49 : decode bM_nextBy 49 = .ok (.goto 9, 3) := by decide +kernel
theorem dM_nextBy_52 : decode bM_nextBy 52 = .ok (.aload_n 0, 1) := by decide +kernel
theorem dM_nextBy_53 : decode bM_nextBy 53 = .ok (.getfield 50, 3) := by decide +kernel
theorem dM_nextBy_56 : decode bM_nextBy 56 = .ok (.iconst 1, 1) := by decide +kernel
theorem dM_nextBy_57 : decode bM_nextBy 57 = .ok (.iadd, 1) := by decide +kernel
theorem dM_nextBy_58 : decode bM_nextBy 58 = .ok (.ireturn, 1) := by decide +kernel
theorem dM_nextBy_59 : decode bM_nextBy 59 = .ok (.iload_n 1, 1) := by decide +kernel
theorem dM_nextBy_60 : decode bM_nextBy 60 = .ok (.iconst 3, 1) := by decide +kernel
theorem dM_nextBy_61 : decode bM_nextBy 61 = .ok (.if_icmp .ne 26, 3) := by decide +kernel
theorem dM_nextBy_64 : decode bM_nextBy 64 = .ok (.aload_n 0, 1) := by decide +kernel
theorem dM_nextBy_65 : decode bM_nextBy 65 = .ok (.getfield 173, 3) := by decide +kernel
theorem dM_nextBy_68 : decode bM_nextBy 68 = .ok (.iconst 2, 1) := by decide +kernel
theorem dM_nextBy_69 : decode bM_nextBy 69 = .ok (.irem, 1) := by decide +kernel
theorem dM_nextBy_70 : decode bM_nextBy 70 = .ok (.iconst 1, 1) := by decide +kernel
theorem dM_nextBy_71 : decode bM_nextBy 71 = .ok (.if_icmp .ne 10, 3) := by decide +kernel
theorem dM_nextBy_74 : decode bM_nextBy 74 = .ok (.aload_n 0, 1) := by decide +kernel
theorem dM_nextBy_75 : decode bM_nextBy 75 = .ok (.getfield 50, 3) := by decide +kernel
theorem dM_nextBy_78 : decode bM_nextBy 78 = .ok (.goto 8, 3) := by decide +kernel
theorem dM_nextBy_81 : decode bM_nextBy 81 = .ok (.aload_n 0, 1) := by decide +kernel
theorem dM_nextBy_82 : decode bM_nextBy 82 = .ok (.iload_n 2, 1) := by decide +kernel
theorem dM_nextBy_83 : decode bM_nextBy 83 = .ok (.invokevirtual 195, 3) := by decide +kernel
theorem dM_nextBy_86 : decode bM_nextBy 86 = .ok (.ireturn, 1) := by decide +kernel
theorem dM_nextBy_87 : decode bM_nextBy 87 = .ok (.iconst 1, 1) := by decide +kernel
theorem dM_nextBy_88 : decode bM_nextBy 88 = .ok (.aload_n 0, 1) := by decide +kernel
theorem dM_nextBy_89 : decode bM_nextBy 89 = .ok (.getfield 50, 3) := by decide +kernel
theorem dM_nextBy_92 : decode bM_nextBy 92 = .ok (.ishl, 1) := by decide +kernel
theorem dM_nextBy_93 : decode bM_nextBy 93 = .ok (.istore_n 3, 1) := by decide +kernel
theorem dM_nextBy_94 : decode bM_nextBy 94 = .ok (.iconst 0, 1) := by decide +kernel
theorem dM_nextBy_95 : decode bM_nextBy 95 = .ok (.istore 4, 2) := by decide +kernel
theorem dM_nextBy_97 : decode bM_nextBy 97 = .ok (.iload 4, 2) := by decide +kernel
theorem dM_nextBy_99 : decode bM_nextBy 99 = .ok (.aload_n 0, 1) := by decide +kernel
theorem dM_nextBy_100 : decode bM_nextBy 100 = .ok (.getfield 161, 3) := by decide +kernel
theorem dM_nextBy_103 : decode bM_nextBy 103 = .ok (.if_icmp .ge 33, 3) := by decide +kernel
theorem dM_nextBy_106 : decode bM_nextBy 106 = .ok (.iload_n 3, 1) := by decide +kernel
theorem dM_nextBy_107 : decode bM_nextBy 107 = .ok (.aload_n 0, 1) := by decide +kernel
theorem dM_nextBy_108 : decode bM_nextBy 108 = .ok (.aload_n 0, 1) := by decide +kernel
theorem dM_nextBy_109 : decode bM_nextBy 109 = .ok (.getfield 50, 3) := by decide +kernel
theorem dM_nextBy_112 : decode bM_nextBy 112 = .ok (.iload 4, 2) := by decide +kernel
theorem dM_nextBy_114 : decode bM_nextBy 114 = .ok (.invokevirtual 192, 3) := by decide +kernel
theorem dM_nextBy_117 : decode bM_nextBy 117 = .ok (.ifCond .eq 10, 3) := by decide +kernel
theorem dM_nextBy_120 : decode bM_nextBy 120 = .ok (.iconst 1, 1) := by decide +kernel
theorem dM_nextBy_121 : decode bM_nextBy 121 = .ok (.iload 4, 2) := by decide +kernel
theorem dM_nextBy_123 : decode bM_nextBy 123 = .ok (.ishl, 1) := by decide +kernel
theorem dM_nextBy_124 : decode bM_nextBy 124 = .ok (.goto 4, 3) := by decide +kernel
theorem dM_nextBy_127 : decode bM_nextBy 127 = .ok (.iconst 0, 1) := by decide +kernel
theorem dM_nextBy_128 : decode bM_nextBy 128 = .ok (.ior, 1) := by decide +kernel
theorem dM_nextBy_129 : decode bM_nextBy 129 = .ok (.istore_n 3, 1) := by decide +kernel
theorem dM_nextBy_130 : decode bM_nextBy 130 = .ok (.iinc 4 1, 3) := by decide +kernel
theorem dM_nextBy_133 : decode bM_nextBy 133 = .ok (.goto (-36), 3) := by decide +kernel
theorem dM_nextBy_136 : decode bM_nextBy 136 = .ok (.aload_n 0, 1) := by decide +kernel
theorem dM_nextBy_137 : decode bM_nextBy 137 = .ok (.iload_n 3, 1) := by decide +kernel
theorem dM_nextBy_138 : decode bM_nextBy 138 = .ok (.invokevirtual 195, 3) := by decide +kernel
theorem dM_nextBy_141 : decode bM_nextBy 141 = .ok (.ireturn, 1) := by decide +kernel
def f_M_nextBy_97 (n : Nat) (k0 : Int32 → Int32 → mb_T → Option (Int32 × mb_T))  : Nat → Int32 → Int32 → mb_T → Option (Int32 × mb_T)
  | 0, _, _, _ => none
  | f + 1, w3, w4, s => if (s.1 200 8) ≤ w4 then k0 w3 w4 s else mb_cl (f_M_isBeside n (s.1 200 25) w4 s) fun r_8 s_6 => f_M_nextBy_97 n k0 f (w3 ||| (if r_8 = 0 then 0 else (1 <<< (w4 &&& 31)) : Int32)) (w4 + 1) s_6
def f_M_nextBy (n : Nat) (x1 : Int32) (s : mb_T) : Option (Int32 × mb_T) := if x1 = 0 then (mb_cl (f_M_mostOf n ((1 <<< ((s.1 200 8) &&& 31)) - 1) s) fun r_26 s_24 => some (r_26, s_24)) else if (s.1 200 25) = (-9) then some (0, s) else if x1 = 1 then some ((if (s.1 200 25) = ((s.1 200 8) - 1) then 0 else ((s.1 200 25) + 1) : Int32), s) else if x1 = 3 then (mb_dv 2 (if ((s.1 200 24) - (s.1 200 24) / 2 * 2) = 1 then some ((s.1 200 25), s) else mb_cl (f_M_mostOf n ((1 <<< ((s.1 200 8) &&& 31)) - 1) s) fun r_21 s_19 => some (r_21, s_19))) else f_M_nextBy_97 n (fun x_11 x_12 s_13 => mb_cl (f_M_mostOf n x_11 s_13) fun r_16 s_14 => some (r_16, s_14)) n (1 <<< ((s.1 200 25) &&& 31)) 0 s
set_option maxHeartbeats 4000000 in
set_option maxRecDepth 100000 in
theorem tl_M_nextBy_97 {dd n : Nat} {K : mj_KT} {out : Int32 × mb_T} (hK : mj_C (dd + 4) 0 0 RM_c "nextBy" bM_nextBy 5 K) (hR : mj_R bM_nextBy (some .int) (fun r2 S2 => r2 = some (.int out.1) ∧ S2 = mb_s out.2) K) {k0 : Int32 → Int32 → mb_T → Option (Int32 × mb_T)}  (hk0 : ∀ (w3 : Int32) (w4 : Int32) (s : mb_T), k0 w3 w4 s = some out → K 0 0 136 [.ref 200, .retAddr 0, .retAddr 0, .int w3, .int w4] [] (mb_s s)) : ∀ (f : Nat) (w3 : Int32) (w4 : Int32) (s : mb_T), f_M_nextBy_97 n k0 f w3 w4 s = some out → K 0 0 97 [.ref 200, .retAddr 0, .retAddr 0, .int w3, .int w4] [] (mb_s s) := by
  intro f
  induction f with
  | zero =>
    intro w3 w4 s h
    cases h
  | succ f ih =>
    intro w3 w4 s h
    rw [f_M_nextBy_97] at h
    refine ro_iload hK dM_nextBy_97 rfl ?_
    refine ro_aload_n hK dM_nextBy_99 rfl ?_
    refine rb_get hK fM_161 mb_oM rfl dM_nextBy_100 ?_
    refine ro_icmp_ge (tgt := 136) hK dM_nextBy_103 (by decide) (fun c_5 => ?_) (fun c_5 => ?_)
    · replace h := mb_ift c_5 h
      refine ro_fg (lv' := [.ref 200, .retAddr 0, .retAddr 0, .int w3, .int w4]) hK ⟨Or.inr rfl, ⟨Or.inl rfl, ⟨Or.inl rfl, ⟨Or.inr rfl, ⟨Or.inr rfl, trivial⟩⟩⟩⟩⟩ ?_
      exact hk0 _ _ _ h
    · replace h := mb_iff c_5 h
      refine ro_iload_n hK dM_nextBy_106 rfl ?_
      refine ro_aload_n hK dM_nextBy_107 rfl ?_
      refine ro_aload_n hK dM_nextBy_108 rfl ?_
      refine rb_get hK fM_50 mb_oM rfl dM_nextBy_109 ?_
      refine ro_iload hK dM_nextBy_112 rfl ?_
      obtain ⟨r_8, s_6, q_7, h⟩ := mb_cl_e h
      refine rb_callV hK mM_isBeside vM_192 (t_M_isBeside (dd := dd + 2) q_7) rfl mb_oM rfl (Nat.le_of_ble_eq_true rfl) dM_nextBy_114 rfl ⟨Nat.le_refl _, Nat.le_refl _⟩ ?_
      show K 0 0 117 [.ref 200, .retAddr 0, .retAddr 0, .int w3, .int w4] [.int r_8, .int w3] (mb_s s_6)
      have j_10 : ∀ w_ : Int32, w_ = (if r_8 = 0 then 0 else (1 <<< (w4 &&& 31)) : Int32) → K 0 0 128 [.ref 200, .retAddr 0, .retAddr 0, .int w3, .int w4] [.int w_, .int w3] (mb_s s_6) → K 0 0 117 [.ref 200, .retAddr 0, .retAddr 0, .int w3, .int w4] [.int r_8, .int w3] (mb_s s_6) := by
        intro w_ hw hj
        refine ro_if_eq (tgt := 127) hK dM_nextBy_117 (by decide) (fun c_9 => ?_) (fun c_9 => ?_)
        · skip
          refine ro_iconst (x := 0) hK (by decide) dM_nextBy_127 ?_
          have hw := (hw.trans (if_pos c_9))
          subst hw
          exact hj
        · skip
          refine ro_iconst (x := 1) hK (by decide) dM_nextBy_120 ?_
          refine ro_iload hK dM_nextBy_121 rfl ?_
          refine ro_ishl hK dM_nextBy_123 ?_
          refine ro_goto (tgt := 128) hK dM_nextBy_124 (by decide) ?_
          have hw := (hw.trans (if_neg c_9))
          subst hw
          exact hj
      refine j_10 _ rfl ?_
      refine ro_ior hK dM_nextBy_128 ?_
      refine ro_istore_n hK dM_nextBy_129 (by decide) ?_
      show K 0 0 130 [.ref 200, .retAddr 0, .retAddr 0, .int (w3 ||| (if r_8 = 0 then 0 else (1 <<< (w4 &&& 31)) : Int32)), .int w4] [] (mb_s s_6)
      refine ro_iincv (c := 1) hK (by decide) dM_nextBy_130 rfl (by decide) ?_
      show K 0 0 133 [.ref 200, .retAddr 0, .retAddr 0, .int (w3 ||| (if r_8 = 0 then 0 else (1 <<< (w4 &&& 31)) : Int32)), .int (w4 + 1)] [] (mb_s s_6)
      refine ro_goto (tgt := 97) hK dM_nextBy_133 (by decide) ?_
      refine ro_fg (lv' := [.ref 200, .retAddr 0, .retAddr 0, .int (w3 ||| (if r_8 = 0 then 0 else (1 <<< (w4 &&& 31)) : Int32)), .int (w4 + 1)]) hK ⟨Or.inr rfl, ⟨Or.inl rfl, ⟨Or.inl rfl, ⟨Or.inr rfl, ⟨Or.inr rfl, trivial⟩⟩⟩⟩⟩ ?_
      exact ih _ _ _ h
set_option maxHeartbeats 4000000 in
set_option maxRecDepth 100000 in
theorem t_M_nextBy {dd n : Nat} {x1 : Int32} {s : mb_T} {out : Int32 × mb_T}  (h : f_M_nextBy n x1 s = some out) : mb_MC (dd + 4) yM_nextBy bM_nextBy 5 (some .int) [.ref 200, .int x1] s (some (.int out.1)) out.2 := by
  unfold f_M_nextBy at h
  refine mj_mc (lv := [.ref 200, .int x1, .retAddr 0, .retAddr 0, .retAddr 0]) mM_nextBy rfl rfl (Nat.le_of_ble_eq_true rfl) (fun K hK hR => ?_)
  have hK : mj_C (dd + 4) 0 0 RM_c "nextBy" bM_nextBy 5 K := hK
  refine ro_iconst (x := 1) hK (by decide) dM_nextBy_0 ?_
  refine ro_aload_n hK dM_nextBy_1 rfl ?_
  refine rb_get hK fM_161 mb_oM rfl dM_nextBy_2 ?_
  refine ro_ishl hK dM_nextBy_5 ?_
  refine ro_iconst (x := 1) hK (by decide) dM_nextBy_6 ?_
  refine ro_isub hK dM_nextBy_7 ?_
  refine ro_istore_n hK dM_nextBy_8 (by decide) ?_
  show K 0 0 9 [.ref 200, .int x1, .int ((1 <<< ((s.1 200 8) &&& 31)) - 1), .retAddr 0, .retAddr 0] [] (mb_s s)
  refine ro_iload_n hK dM_nextBy_9 rfl ?_
  refine ro_if_ne (tgt := 19) hK dM_nextBy_10 (by decide) (fun c_1 => ?_) (fun c_1 => ?_)
  · replace h := mb_iff c_1 h
    refine ro_aload_n hK dM_nextBy_19 rfl ?_
    refine rb_get hK fM_50 mb_oM rfl dM_nextBy_20 ?_
    refine ro_bipush (x := (-9)) hK (by decide) dM_nextBy_23 ?_
    refine ro_icmp_ne (tgt := 30) hK dM_nextBy_25 (by decide) (fun c_2 => ?_) (fun c_2 => ?_)
    · replace h := mb_iff c_2 h
      refine ro_iload_n hK dM_nextBy_30 rfl ?_
      refine ro_iconst (x := 1) hK (by decide) dM_nextBy_31 ?_
      refine ro_icmp_ne (tgt := 59) hK dM_nextBy_32 (by decide) (fun c_3 => ?_) (fun c_3 => ?_)
      · replace h := mb_iff c_3 h
        refine ro_iload_n hK dM_nextBy_59 rfl ?_
        refine ro_iconst (x := 3) hK (by decide) dM_nextBy_60 ?_
        refine ro_icmp_ne (tgt := 87) hK dM_nextBy_61 (by decide) (fun c_4 => ?_) (fun c_4 => ?_)
        · replace h := mb_iff c_4 h
          refine ro_iconst (x := 1) hK (by decide) dM_nextBy_87 ?_
          refine ro_aload_n hK dM_nextBy_88 rfl ?_
          refine rb_get hK fM_50 mb_oM rfl dM_nextBy_89 ?_
          refine ro_ishl hK dM_nextBy_92 ?_
          refine ro_istore_n hK dM_nextBy_93 (by decide) ?_
          show K 0 0 94 [.ref 200, .int x1, .int ((1 <<< ((s.1 200 8) &&& 31)) - 1), .int (1 <<< ((s.1 200 25) &&& 31)), .retAddr 0] [] (mb_s s)
          refine ro_iconst (x := 0) hK (by decide) dM_nextBy_94 ?_
          refine ro_istore hK dM_nextBy_95 (by decide) ?_
          show K 0 0 97 [.ref 200, .int x1, .int ((1 <<< ((s.1 200 8) &&& 31)) - 1), .int (1 <<< ((s.1 200 25) &&& 31)), .int 0] [] (mb_s s)
          refine ro_fg (lv' := [.ref 200, .retAddr 0, .retAddr 0, .int (1 <<< ((s.1 200 25) &&& 31)), .int 0]) hK ⟨Or.inr rfl, ⟨Or.inl rfl, ⟨Or.inl rfl, ⟨Or.inr rfl, ⟨Or.inr rfl, trivial⟩⟩⟩⟩⟩ ?_
          refine tl_M_nextBy_97 (dd := dd) hK hR (fun x_11 x_12 s_13 h => ?_) n _ _ _ h
          refine ro_aload_n hK dM_nextBy_136 rfl ?_
          refine ro_iload_n hK dM_nextBy_137 rfl ?_
          obtain ⟨r_16, s_14, q_15, h⟩ := mb_cl_e h
          refine rb_callV hK mM_mostOf vM_195 (t_M_mostOf (dd := dd + 0) q_15) rfl mb_oM rfl (Nat.le_of_ble_eq_true rfl) dM_nextBy_138 rfl ⟨Nat.le_refl _, Nat.le_refl _⟩ ?_
          show K 0 0 141 [.ref 200, .retAddr 0, .retAddr 0, .int x_11, .int x_12] [.int r_16] (mb_s s_14)
          cases h
          exact hR.1 0 0 141 _ _ _ _ rfl rfl dM_nextBy_141 ⟨rfl, rfl⟩
        · replace h := mb_ift c_4 h
          refine ro_aload_n hK dM_nextBy_64 rfl ?_
          refine rb_get hK fM_173 mb_oM rfl dM_nextBy_65 ?_
          refine ro_iconst (x := 2) hK (by decide) dM_nextBy_68 ?_
          obtain ⟨z_17, h⟩ := mb_dv_e h
          refine ro_irem hK dM_nextBy_69 z_17 ?_
          refine ro_iconst (x := 1) hK (by decide) dM_nextBy_70 ?_
          refine ro_icmp_ne (tgt := 81) hK dM_nextBy_71 (by decide) (fun c_18 => ?_) (fun c_18 => ?_)
          · replace h := mb_iff c_18 h
            refine ro_aload_n hK dM_nextBy_81 rfl ?_
            refine ro_iload_n hK dM_nextBy_82 rfl ?_
            obtain ⟨r_21, s_19, q_20, h⟩ := mb_cl_e h
            refine rb_callV hK mM_mostOf vM_195 (t_M_mostOf (dd := dd + 0) q_20) rfl mb_oM rfl (Nat.le_of_ble_eq_true rfl) dM_nextBy_83 rfl ⟨Nat.le_refl _, Nat.le_refl _⟩ ?_
            show K 0 0 86 [.ref 200, .int x1, .int ((1 <<< ((s.1 200 8) &&& 31)) - 1), .retAddr 0, .retAddr 0] [.int r_21] (mb_s s_19)
            cases h
            exact hR.1 0 0 86 _ _ _ _ rfl rfl dM_nextBy_86 ⟨rfl, rfl⟩
          · replace h := mb_ift c_18 h
            refine ro_aload_n hK dM_nextBy_74 rfl ?_
            refine rb_get hK fM_50 mb_oM rfl dM_nextBy_75 ?_
            refine ro_goto (tgt := 86) hK dM_nextBy_78 (by decide) ?_
            cases h
            exact hR.1 0 0 86 _ _ _ _ rfl rfl dM_nextBy_86 ⟨rfl, rfl⟩
      · replace h := mb_ift c_3 h
        refine ro_aload_n hK dM_nextBy_35 rfl ?_
        refine rb_get hK fM_50 mb_oM rfl dM_nextBy_36 ?_
        refine ro_aload_n hK dM_nextBy_39 rfl ?_
        refine rb_get hK fM_161 mb_oM rfl dM_nextBy_40 ?_
        refine ro_iconst (x := 1) hK (by decide) dM_nextBy_43 ?_
        refine ro_isub hK dM_nextBy_44 ?_
        have j_23 : ∀ w_ : Int32, w_ = (if (s.1 200 25) = ((s.1 200 8) - 1) then 0 else ((s.1 200 25) + 1) : Int32) → K 0 0 58 [.ref 200, .int x1, .int ((1 <<< ((s.1 200 8) &&& 31)) - 1), .retAddr 0, .retAddr 0] [.int w_] (mb_s s) → K 0 0 45 [.ref 200, .int x1, .int ((1 <<< ((s.1 200 8) &&& 31)) - 1), .retAddr 0, .retAddr 0] [.int ((s.1 200 8) - 1), .int (s.1 200 25)] (mb_s s) := by
          intro w_ hw hj
          refine ro_icmp_ne (tgt := 52) hK dM_nextBy_45 (by decide) (fun c_22 => ?_) (fun c_22 => ?_)
          · skip
            refine ro_aload_n hK dM_nextBy_52 rfl ?_
            refine rb_get hK fM_50 mb_oM rfl dM_nextBy_53 ?_
            refine ro_iconst (x := 1) hK (by decide) dM_nextBy_56 ?_
            refine ro_iadd hK dM_nextBy_57 ?_
            have hw := (hw.trans (if_neg c_22))
            subst hw
            exact hj
          · skip
            refine ro_iconst (x := 0) hK (by decide) dM_nextBy_48 ?_
            refine ro_goto (tgt := 58) hK dM_nextBy_49 (by decide) ?_
            have hw := (hw.trans (if_pos c_22))
            subst hw
            exact hj
        refine j_23 _ rfl ?_
        cases h
        exact hR.1 0 0 58 _ _ _ _ rfl rfl dM_nextBy_58 ⟨rfl, rfl⟩
    · replace h := mb_ift c_2 h
      refine ro_iconst (x := 0) hK (by decide) dM_nextBy_28 ?_
      cases h
      exact hR.1 0 0 29 _ _ _ _ rfl rfl dM_nextBy_29 ⟨rfl, rfl⟩
  · replace h := mb_ift c_1 h
    refine ro_aload_n hK dM_nextBy_13 rfl ?_
    refine ro_iload_n hK dM_nextBy_14 rfl ?_
    obtain ⟨r_26, s_24, q_25, h⟩ := mb_cl_e h
    refine rb_callV hK mM_mostOf vM_195 (t_M_mostOf (dd := dd + 0) q_25) rfl mb_oM rfl (Nat.le_of_ble_eq_true rfl) dM_nextBy_15 rfl ⟨Nat.le_refl _, Nat.le_refl _⟩ ?_
    show K 0 0 18 [.ref 200, .int x1, .int ((1 <<< ((s.1 200 8) &&& 31)) - 1), .retAddr 0, .retAddr 0] [.int r_26] (mb_s s_24)
    cases h
    exact hR.1 0 0 18 _ _ _ _ rfl rfl dM_nextBy_18 ⟨rfl, rfl⟩
theorem dM_person_0 : decode bM_person 0 = .ok (.aload_n 0, 1) := by decide +kernel
theorem dM_person_1 : decode bM_person 1 = .ok (.iload_n 1, 1) := by decide +kernel
theorem dM_person_2 : decode bM_person 2 = .ok (.invokevirtual 183, 3) := by decide +kernel
theorem dM_person_5 : decode bM_person 5 = .ok (.ifCond .eq 26, 3) := by decide +kernel
theorem dM_person_8 : decode bM_person 8 = .ok (.iload_n 2, 1) := by decide +kernel
theorem dM_person_9 : decode bM_person 9 = .ok (.iconst 0, 1) := by decide +kernel
theorem dM_person_10 : decode bM_person 10 = .ok (.iconst 5, 1) := by decide +kernel
theorem dM_person_11 : decode bM_person 11 = .ok (.invokestatic 92, 3) := by decide +kernel
theorem dM_person_14 : decode bM_person 14 = .ok (.ifCond .eq 17, 3) := by decide +kernel
theorem dM_person_17 : decode bM_person 17 = .ok (.aload_n 0, 1) := by decide +kernel
theorem dM_person_18 : decode bM_person 18 = .ok (.aload_n 0, 1) := by decide +kernel
theorem dM_person_19 : decode bM_person 19 = .ok (.iload_n 1, 1) := by decide +kernel
theorem dM_person_20 : decode bM_person 20 = .ok (.iload_n 2, 1) := by decide +kernel
theorem dM_person_21 : decode bM_person 21 = .ok (.invokevirtual 186, 3) := by decide +kernel
theorem dM_person_24 : decode bM_person 24 = .ok (.iconst 1, 1) := by decide +kernel
theorem dM_person_25 : decode bM_person 25 = .ok (.invokevirtual 118, 3) := by decide +kernel
theorem dM_person_28 : decode bM_person 28 = .ok (.goto 4, 3) := by decide +kernel
theorem dM_person_31 : decode bM_person 31 = .ok (.iconst (-1), 1) := by decide +kernel
theorem dM_person_32 : decode bM_person 32 = .ok (.ireturn, 1) := by decide +kernel
def f_M_person (n : Nat) (x1 : Int32) (x2 : Int32) (s : mb_T) : Option (Int32 × mb_T) := mb_cl (f_M_isOne n x1 s) fun r_3 s_1 => if r_3 = 0 then some ((-1), s_1) else mb_cl (f_M_in n x2 0 5 s_1) fun r_7 s_5 => if r_7 = 0 then some ((-1), s_5) else mb_cl (f_M_personOf n x1 x2 s_5) fun r_11 s_9 => mb_cl (f_M_ask n r_11 1 s_9) fun r_14 s_12 => some (r_14, s_12)
set_option maxHeartbeats 4000000 in
set_option maxRecDepth 100000 in
theorem t_M_person {dd n : Nat} {x1 : Int32} {x2 : Int32} {s : mb_T} {out : Int32 × mb_T}  (h : f_M_person n x1 x2 s = some out) : mb_MC (dd + 4) yM_person bM_person 3 (some .int) [.ref 200, .int x1, .int x2] s (some (.int out.1)) out.2 := by
  unfold f_M_person at h
  refine mj_mc (lv := [.ref 200, .int x1, .int x2]) mM_person rfl rfl (Nat.le_of_ble_eq_true rfl) (fun K hK hR => ?_)
  have hK : mj_C (dd + 4) 0 0 RM_c "person" bM_person 3 K := hK
  refine ro_aload_n hK dM_person_0 rfl ?_
  refine ro_iload_n hK dM_person_1 rfl ?_
  obtain ⟨r_3, s_1, q_2, h⟩ := mb_cl_e h
  refine rb_callV hK mM_isOne vM_183 (t_M_isOne (dd := dd + 1) q_2) rfl mb_oM rfl (Nat.le_of_ble_eq_true rfl) dM_person_2 rfl ⟨Nat.le_refl _, Nat.le_refl _⟩ ?_
  show K 0 0 5 [.ref 200, .int x1, .int x2] [.int r_3] (mb_s s_1)
  refine ro_if_eq (tgt := 31) hK dM_person_5 (by decide) (fun c_4 => ?_) (fun c_4 => ?_)
  · replace h := mb_ift c_4 h
    refine ro_iconst (x := (-1)) hK (by decide) dM_person_31 ?_
    cases h
    exact hR.1 0 0 32 _ _ _ _ rfl rfl dM_person_32 ⟨rfl, rfl⟩
  · replace h := mb_iff c_4 h
    refine ro_iload_n hK dM_person_8 rfl ?_
    refine ro_iconst (x := 0) hK (by decide) dM_person_9 ?_
    refine ro_iconst (x := 5) hK (by decide) dM_person_10 ?_
    obtain ⟨r_7, s_5, q_6, h⟩ := mb_cl_e h
    refine rb_callS hK mM_in vM_92 (t_M_in (dd := dd + 2) q_6) rfl (Nat.le_of_ble_eq_true rfl) dM_person_11 rfl ⟨Nat.le_refl _, Nat.le_refl _⟩ ?_
    show K 0 0 14 [.ref 200, .int x1, .int x2] [.int r_7] (mb_s s_5)
    refine ro_if_eq (tgt := 31) hK dM_person_14 (by decide) (fun c_8 => ?_) (fun c_8 => ?_)
    · replace h := mb_ift c_8 h
      refine ro_iconst (x := (-1)) hK (by decide) dM_person_31 ?_
      cases h
      exact hR.1 0 0 32 _ _ _ _ rfl rfl dM_person_32 ⟨rfl, rfl⟩
    · replace h := mb_iff c_8 h
      refine ro_aload_n hK dM_person_17 rfl ?_
      refine ro_aload_n hK dM_person_18 rfl ?_
      refine ro_iload_n hK dM_person_19 rfl ?_
      refine ro_iload_n hK dM_person_20 rfl ?_
      obtain ⟨r_11, s_9, q_10, h⟩ := mb_cl_e h
      refine rb_callV hK mM_personOf vM_186 (t_M_personOf (dd := dd + 0) q_10) rfl mb_oM rfl (Nat.le_of_ble_eq_true rfl) dM_person_21 rfl ⟨Nat.le_refl _, Nat.le_refl _⟩ ?_
      show K 0 0 24 [.ref 200, .int x1, .int x2] [.int r_11, .ref 200] (mb_s s_9)
      refine ro_iconst (x := 1) hK (by decide) dM_person_24 ?_
      obtain ⟨r_14, s_12, q_13, h⟩ := mb_cl_e h
      refine rb_callV hK mM_ask vM_118 (t_M_ask (dd := dd + 2) q_13) rfl mb_oM rfl (Nat.le_of_ble_eq_true rfl) dM_person_25 rfl ⟨Nat.le_refl _, Nat.le_refl _⟩ ?_
      show K 0 0 28 [.ref 200, .int x1, .int x2] [.int r_14] (mb_s s_12)
      refine ro_goto (tgt := 32) hK dM_person_28 (by decide) ?_
      cases h
      exact hR.1 0 0 32 _ _ _ _ rfl rfl dM_person_32 ⟨rfl, rfl⟩
theorem dM_put_0 : decode bM_put 0 = .ok (.aload_n 0, 1) := by decide +kernel
theorem dM_put_1 : decode bM_put 1 = .ok (.iload_n 1, 1) := by decide +kernel
theorem dM_put_2 : decode bM_put 2 = .ok (.invokevirtual 124, 3) := by decide +kernel
theorem dM_put_5 : decode bM_put 5 = .ok (.istore 4, 2) := by decide +kernel
theorem dM_put_7 : decode bM_put 7 = .ok (.iload 4, 2) := by decide +kernel
theorem dM_put_9 : decode bM_put 9 = .ok (.ifCond .ge 6, 3) := by decide +kernel
theorem dM_put_12 : decode bM_put 12 = .ok (.iload 4, 2) := by decide +kernel
theorem dM_put_14 : decode bM_put 14 = .ok (.ireturn, 1) := by decide +kernel
theorem dM_put_15 : decode bM_put 15 = .ok (.iload_n 2, 1) := by decide +kernel
theorem dM_put_16 : decode bM_put 16 = .ok (.iconst 0, 1) := by decide +kernel
theorem dM_put_17 : decode bM_put 17 = .ok (.aload_n 0, 1) := by decide +kernel
theorem dM_put_18 : decode bM_put 18 = .ok (.getfield 22, 3) := by decide +kernel
theorem dM_put_21 : decode bM_put 21 = .ok (.iload_n 1, 1) := by decide +kernel
theorem dM_put_22 : decode bM_put 22 = .ok (.iaload, 1) := by decide +kernel
theorem dM_put_23 : decode bM_put 23 = .ok (.iconst 1, 1) := by decide +kernel
theorem dM_put_24 : decode bM_put 24 = .ok (.isub, 1) := by decide +kernel
theorem dM_put_25 : decode bM_put 25 = .ok (.invokestatic 92, 3) := by decide +kernel
theorem dM_put_28 : decode bM_put 28 = .ok (.ifCond .ne 9, 3) := by decide +kernel
theorem dM_put_31 : decode bM_put 31 = .ok (.aload_n 0, 1) := by decide +kernel
theorem dM_put_32 : decode bM_put 32 = .ok (.iconst 2, 1) := by decide +kernel
theorem dM_put_33 : decode bM_put 33 = .ok (.invokevirtual 100, 3) := by decide +kernel
theorem dM_put_36 : decode bM_put 36 = .ok (.ireturn, 1) := by decide +kernel
theorem dM_put_37 : decode bM_put 37 = .ok (.aload_n 0, 1) := by decide +kernel
theorem dM_put_38 : decode bM_put 38 = .ok (.getfield 25, 3) := by decide +kernel
theorem dM_put_41 : decode bM_put 41 = .ok (.bipush 80, 2) := by decide +kernel
theorem dM_put_43 : decode bM_put 43 = .ok (.iload_n 1, 1) := by decide +kernel
theorem dM_put_44 : decode bM_put 44 = .ok (.imul, 1) := by decide +kernel
theorem dM_put_45 : decode bM_put 45 = .ok (.iload_n 2, 1) := by decide +kernel
theorem dM_put_46 : decode bM_put 46 = .ok (.iadd, 1) := by decide +kernel
theorem dM_put_47 : decode bM_put 47 = .ok (.iaload, 1) := by decide +kernel
theorem dM_put_48 : decode bM_put 48 = .ok (.istore 5, 2) := by decide +kernel
theorem dM_put_50 : decode bM_put 50 = .ok (.aload_n 0, 1) := by decide +kernel
theorem dM_put_51 : decode bM_put 51 = .ok (.getfield 25, 3) := by decide +kernel
theorem dM_put_54 : decode bM_put 54 = .ok (.bipush 80, 2) := by decide +kernel
theorem dM_put_56 : decode bM_put 56 = .ok (.iload_n 1, 1) := by decide +kernel
theorem dM_put_57 : decode bM_put 57 = .ok (.imul, 1) := by decide +kernel
theorem dM_put_58 : decode bM_put 58 = .ok (.iload_n 2, 1) := by decide +kernel
theorem dM_put_59 : decode bM_put 59 = .ok (.iadd, 1) := by decide +kernel
theorem dM_put_60 : decode bM_put 60 = .ok (.iload_n 3, 1) := by decide +kernel
theorem dM_put_61 : decode bM_put 61 = .ok (.i2b, 1) := by decide +kernel
theorem dM_put_62 : decode bM_put 62 = .ok (.iastore, 1) := by decide +kernel
theorem dM_put_63 : decode bM_put 63 = .ok (.iload 5, 2) := by decide +kernel
theorem dM_put_65 : decode bM_put 65 = .ok (.sipush 1000, 3) := by decide +kernel
theorem dM_put_68 : decode bM_put 68 = .ok (.iadd, 1) := by decide +kernel
theorem dM_put_69 : decode bM_put 69 = .ok (.ireturn, 1) := by decide +kernel
def f_M_put (n : Nat) (x1 : Int32) (x2 : Int32) (x3 : Int32) (s : mb_T) : Option (Int32 × mb_T) := mb_cl (f_M_askedText n x1 s) fun r_3 s_1 => if 0 ≤ r_3 then (mb_rd s_1 206 4 x1 fun x_5 => mb_cl (f_M_in n x2 0 (x_5 - 1) s_1) fun r_10 s_8 => if r_10 = 0 then (mb_cl (f_M_meet n 2 s_8) fun r_20 s_18 => some (r_20, s_18)) else mb_rd s_8 207 320 ((80 * x1) + x2) fun x_12 => mb_wr s_8 207 320 ((80 * x1) + x2) (Int8.toInt32 (Int32.toInt8 x3)) fun s_15 => some ((x_12 + 1000), s_15)) else some (r_3, s_1)
set_option maxHeartbeats 4000000 in
set_option maxRecDepth 100000 in
theorem t_M_put {dd n : Nat} {x1 : Int32} {x2 : Int32} {x3 : Int32} {s : mb_T} {out : Int32 × mb_T}  (h : f_M_put n x1 x2 x3 s = some out) : mb_MC (dd + 4) yM_put bM_put 6 (some .int) [.ref 200, .int x1, .int x2, .int x3] s (some (.int out.1)) out.2 := by
  unfold f_M_put at h
  refine mj_mc (lv := [.ref 200, .int x1, .int x2, .int x3, .retAddr 0, .retAddr 0]) mM_put rfl rfl (Nat.le_of_ble_eq_true rfl) (fun K hK hR => ?_)
  have hK : mj_C (dd + 4) 0 0 RM_c "put" bM_put 6 K := hK
  refine ro_aload_n hK dM_put_0 rfl ?_
  refine ro_iload_n hK dM_put_1 rfl ?_
  obtain ⟨r_3, s_1, q_2, h⟩ := mb_cl_e h
  refine rb_callV hK mM_askedText vM_124 (t_M_askedText (dd := dd + 0) q_2) rfl mb_oM rfl (Nat.le_of_ble_eq_true rfl) dM_put_2 rfl ⟨Nat.le_refl _, Nat.le_refl _⟩ ?_
  show K 0 0 5 [.ref 200, .int x1, .int x2, .int x3, .retAddr 0, .retAddr 0] [.int r_3] (mb_s s_1)
  refine ro_istore hK dM_put_5 (by decide) ?_
  show K 0 0 7 [.ref 200, .int x1, .int x2, .int x3, .int r_3, .retAddr 0] [] (mb_s s_1)
  refine ro_iload hK dM_put_7 rfl ?_
  refine ro_if_ge (tgt := 15) hK dM_put_9 (by decide) (fun c_4 => ?_) (fun c_4 => ?_)
  · replace h := mb_ift c_4 h
    refine ro_iload_n hK dM_put_15 rfl ?_
    refine ro_iconst (x := 0) hK (by decide) dM_put_16 ?_
    refine ro_aload_n hK dM_put_17 rfl ?_
    refine rb_get hK fM_22 mb_oM rfl dM_put_18 ?_
    refine ro_iload_n hK dM_put_21 rfl ?_
    obtain ⟨x_5, e_6, i_7, h⟩ := mb_rd_e h
    refine rb_iald hK ai_206 i_7 e_6 dM_put_22 ?_
    refine ro_iconst (x := 1) hK (by decide) dM_put_23 ?_
    refine ro_isub hK dM_put_24 ?_
    obtain ⟨r_10, s_8, q_9, h⟩ := mb_cl_e h
    refine rb_callS hK mM_in vM_92 (t_M_in (dd := dd + 2) q_9) rfl (Nat.le_of_ble_eq_true rfl) dM_put_25 rfl ⟨Nat.le_refl _, Nat.le_refl _⟩ ?_
    show K 0 0 28 [.ref 200, .int x1, .int x2, .int x3, .int r_3, .retAddr 0] [.int r_10] (mb_s s_8)
    refine ro_if_ne (tgt := 37) hK dM_put_28 (by decide) (fun c_11 => ?_) (fun c_11 => ?_)
    · replace h := mb_iff c_11 h
      refine ro_aload_n hK dM_put_37 rfl ?_
      refine rb_get hK fM_25 mb_oM rfl dM_put_38 ?_
      refine ro_bipush (x := 80) hK (by decide) dM_put_41 ?_
      refine ro_iload_n hK dM_put_43 rfl ?_
      refine ro_imul hK dM_put_44 ?_
      refine ro_iload_n hK dM_put_45 rfl ?_
      refine ro_iadd hK dM_put_46 ?_
      obtain ⟨x_12, e_13, i_14, h⟩ := mb_rd_e h
      refine rb_iald hK ai_207 i_14 e_13 dM_put_47 ?_
      refine ro_istore hK dM_put_48 (by decide) ?_
      show K 0 0 50 [.ref 200, .int x1, .int x2, .int x3, .int r_3, .int x_12] [] (mb_s s_8)
      refine ro_aload_n hK dM_put_50 rfl ?_
      refine rb_get hK fM_25 mb_oM rfl dM_put_51 ?_
      refine ro_bipush (x := 80) hK (by decide) dM_put_54 ?_
      refine ro_iload_n hK dM_put_56 rfl ?_
      refine ro_imul hK dM_put_57 ?_
      refine ro_iload_n hK dM_put_58 rfl ?_
      refine ro_iadd hK dM_put_59 ?_
      refine ro_iload_n hK dM_put_60 rfl ?_
      refine ro_i2b hK dM_put_61 ?_
      obtain ⟨s_15, e_16, i_17, h⟩ := mb_wr_e h
      refine rb_iast hK ai_207 i_17 e_16 dM_put_62 ?_
      refine ro_iload hK dM_put_63 rfl ?_
      refine ro_sipush (x := 1000) hK (by decide) dM_put_65 ?_
      refine ro_iadd hK dM_put_68 ?_
      cases h
      exact hR.1 0 0 69 _ _ _ _ rfl rfl dM_put_69 ⟨rfl, rfl⟩
    · replace h := mb_ift c_11 h
      refine ro_aload_n hK dM_put_31 rfl ?_
      refine ro_iconst (x := 2) hK (by decide) dM_put_32 ?_
      obtain ⟨r_20, s_18, q_19, h⟩ := mb_cl_e h
      refine rb_callV hK mM_meet vM_100 (t_M_meet (dd := dd + 2) q_19) rfl mb_oM rfl (Nat.le_of_ble_eq_true rfl) dM_put_33 rfl ⟨Nat.le_refl _, Nat.le_refl _⟩ ?_
      show K 0 0 36 [.ref 200, .int x1, .int x2, .int x3, .int r_3, .retAddr 0] [.int r_20] (mb_s s_18)
      cases h
      exact hR.1 0 0 36 _ _ _ _ rfl rfl dM_put_36 ⟨rfl, rfl⟩
  · replace h := mb_iff c_4 h
    refine ro_iload hK dM_put_12 rfl ?_
    cases h
    exact hR.1 0 0 14 _ _ _ _ rfl rfl dM_put_14 ⟨rfl, rfl⟩
