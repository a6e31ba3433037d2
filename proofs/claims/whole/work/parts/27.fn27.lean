theorem dC_passMinute_0 : decode bC_passMinute 0 = .ok (.aload_n 0, 1) := by decide +kernel
theorem dC_passMinute_1 : decode bC_passMinute 1 = .ok (.getfield 29, 3) := by decide +kernel
theorem dC_passMinute_4 : decode bC_passMinute 4 = .ok (.iload_n 1, 1) := by decide +kernel
theorem dC_passMinute_5 : decode bC_passMinute 5 = .ok (.invokevirtual 365, 3) := by decide +kernel
theorem dC_passMinute_8 : decode bC_passMinute 8 = .ok (.aload_n 0, 1) := by decide +kernel
theorem dC_passMinute_9 : decode bC_passMinute 9 = .ok (.getfield 50, 3) := by decide +kernel
theorem dC_passMinute_12 : decode bC_passMinute 12 = .ok (.iload_n 1, 1) := by decide +kernel
theorem dC_passMinute_13 : decode bC_passMinute 13 = .ok (.invokevirtual 241, 3) := by decide +kernel
theorem dC_passMinute_16 : decode bC_passMinute 16 = .ok (.aload_n 0, 1) := by decide +kernel
theorem dC_passMinute_17 : decode bC_passMinute 17 = .ok (.getfield 29, 3) := by decide +kernel
theorem dC_passMinute_20 : decode bC_passMinute 20 = .ok (.aload_n 0, 1) := by decide +kernel
theorem dC_passMinute_21 : decode bC_passMinute 21 = .ok (.getfield 50, 3) := by decide +kernel
theorem dC_passMinute_24 : decode bC_passMinute 24 = .ok (.invokevirtual 209, 3) := by decide +kernel
theorem dC_passMinute_27 : decode bC_passMinute 27 = .ok (.return_, 1) := by decide +kernel
def f_C_passMinute (n : Nat) (x1 : Int32) (s : mb_T) : Option (mb_T) := mb_cw (f_V_remember n 100 x1 s) fun s_1 => mb_cw (f_A_pass n x1 s_1) fun s_3 => mb_cw (f_V_take n 100 s_3) fun s_5 => some s_5
set_option maxHeartbeats 4000000 in
set_option maxRecDepth 100000 in
theorem t_C_passMinute {dd n : Nat} {x1 : Int32} {s : mb_T} {out : mb_T}  (h : f_C_passMinute n x1 s = some out) : mb_MC (dd + 3) yC_passMinute bC_passMinute 2 none [.ref 0, .int x1] s none out := by
  unfold f_C_passMinute at h
  refine mj_mc (lv := [.ref 0, .int x1]) mC_passMinute rfl rfl (Nat.le_of_ble_eq_true rfl) (fun K hK hR => ?_)
  have hK : mj_C (dd + 3) 0 0 RC_c "passMinute" bC_passMinute 2 K := hK
  refine ro_aload_n hK dC_passMinute_0 rfl ?_
  refine rb_get hK fC_29 mb_oC rfl dC_passMinute_1 ?_
  refine ro_iload_n hK dC_passMinute_4 rfl ?_
  obtain ⟨s_1, q_2, h⟩ := mb_cw_e h
  refine rb_callV hK mV_remember vC_365 (t_V_remember (dd := dd + 1) (Or.inl rfl) q_2) rfl (mb_cvo (Or.inl rfl)) rfl (Nat.le_of_ble_eq_true rfl) dC_passMinute_5 rfl ⟨Nat.le_refl _, Nat.le_refl _⟩ ?_
  show K 0 0 8 [.ref 0, .int x1] [] (mb_s s_1)
  refine ro_aload_n hK dC_passMinute_8 rfl ?_
  refine rb_get hK fC_50 mb_oC rfl dC_passMinute_9 ?_
  refine ro_iload_n hK dC_passMinute_12 rfl ?_
  obtain ⟨s_3, q_4, h⟩ := mb_cw_e h
  refine rb_callV hK mA_pass vC_241 (t_A_pass (dd := dd + 0) q_4) rfl mb_oA rfl (Nat.le_of_ble_eq_true rfl) dC_passMinute_13 rfl ⟨Nat.le_refl _, Nat.le_refl _⟩ ?_
  show K 0 0 16 [.ref 0, .int x1] [] (mb_s s_3)
  refine ro_aload_n hK dC_passMinute_16 rfl ?_
  refine rb_get hK fC_29 mb_oC rfl dC_passMinute_17 ?_
  refine ro_aload_n hK dC_passMinute_20 rfl ?_
  refine rb_get hK fC_50 mb_oC rfl dC_passMinute_21 ?_
  obtain ⟨s_5, q_6, h⟩ := mb_cw_e h
  refine rb_callV hK mV_take vC_209 (t_V_take (dd := dd + 1) (Or.inl rfl) q_6) rfl (mb_cvo (Or.inl rfl)) rfl (Nat.le_of_ble_eq_true rfl) dC_passMinute_24 rfl ⟨Nat.le_refl _, Nat.le_refl _⟩ ?_
  show K 0 0 27 [.ref 0, .int x1] [] (mb_s s_5)
  cases h
  exact hR.2.2 0 0 27 _ _ rfl dC_passMinute_27 ⟨rfl, rfl⟩
theorem dC_placeRefusal_0 : decode bC_placeRefusal 0 = .ok (.aload_n 0, 1) := by decide +kernel
theorem dC_placeRefusal_1 : decode bC_placeRefusal 1 = .ok (.iload_n 1, 1) := by decide +kernel
theorem dC_placeRefusal_2 : decode bC_placeRefusal 2 = .ok (.invokevirtual 95, 3) := by decide +kernel
theorem dC_placeRefusal_5 : decode bC_placeRefusal 5 = .ok (.istore_n 3, 1) := by decide +kernel
theorem dC_placeRefusal_6 : decode bC_placeRefusal 6 = .ok (.iload_n 3, 1) := by decide +kernel
theorem dC_placeRefusal_7 : decode bC_placeRefusal 7 = .ok (.ifCond .eq 5, 3) := by decide +kernel
theorem dC_placeRefusal_10 : decode bC_placeRefusal 10 = .ok (.iload_n 3, 1) := by decide +kernel
theorem dC_placeRefusal_11 : decode bC_placeRefusal 11 = .ok (.ireturn, 1) := by decide +kernel
theorem dC_placeRefusal_12 : decode bC_placeRefusal 12 = .ok (.iload_n 2, 1) := by decide +kernel
theorem dC_placeRefusal_13 : decode bC_placeRefusal 13 = .ok (.ifCond .lt 13, 3) := by decide +kernel
theorem dC_placeRefusal_16 : decode bC_placeRefusal 16 = .ok (.iload_n 2, 1) := by decide +kernel
theorem dC_placeRefusal_17 : decode bC_placeRefusal 17 = .ok (.aload_n 0, 1) := by decide +kernel
theorem dC_placeRefusal_18 : decode bC_placeRefusal 18 = .ok (.getfield 14, 3) := by decide +kernel
theorem dC_placeRefusal_21 : decode bC_placeRefusal 21 = .ok (.iload_n 1, 1) := by decide +kernel
theorem dC_placeRefusal_22 : decode bC_placeRefusal 22 = .ok (.iaload, 1) := by decide +kernel
theorem dC_placeRefusal_23 : decode bC_placeRefusal 23 = .ok (.if_icmp .lt 11, 3) := by decide +kernel
theorem dC_placeRefusal_26 : decode bC_placeRefusal 26 = .ok (.aload_n 0, 1) := by decide +kernel
theorem dC_placeRefusal_27 : decode bC_placeRefusal 27 = .ok (.iconst 2, 1) := by decide +kernel
theorem dC_placeRefusal_28 : decode bC_placeRefusal 28 = .ok (.invokevirtual 87, 3) := by decide +kernel
theorem dC_placeRefusal_31 : decode bC_placeRefusal 31 = .ok (.goto 4, 3) := by decide +kernel
theorem dC_placeRefusal_34 : decode bC_placeRefusal 34 = .ok (.iconst 0, 1) := by decide +kernel
theorem dC_placeRefusal_35 : decode bC_placeRefusal 35 = .ok (.ireturn, 1) := by decide +kernel
def f_C_placeRefusal (n : Nat) (x1 : Int32) (x2 : Int32) (s : mb_T) : Option (Int32 × mb_T) := mb_cl (f_C_rowRefusal n x1 s) fun r_3 s_1 => if r_3 = 0 then (mb_jn (fun (s_11 : mb_T) => mb_cl (f_C_found n 2 s_11) fun r_14 s_12 => some (r_14, s_12)) fun j_5 => if x2 < 0 then j_5 s_1 else mb_rd s_1 1 6 x1 fun x_7 => if x2 < x_7 then some (0, s_1) else j_5 s_1) else some (r_3, s_1)
set_option maxHeartbeats 4000000 in
set_option maxRecDepth 100000 in
theorem t_C_placeRefusal {dd n : Nat} {x1 : Int32} {x2 : Int32} {s : mb_T} {out : Int32 × mb_T}  (h : f_C_placeRefusal n x1 x2 s = some out) : mb_MC (dd + 3) yC_placeRefusal bC_placeRefusal 4 (some .int) [.ref 0, .int x1, .int x2] s (some (.int out.1)) out.2 := by
  unfold f_C_placeRefusal at h
  refine mj_mc (lv := [.ref 0, .int x1, .int x2, .retAddr 0]) mC_placeRefusal rfl rfl (Nat.le_of_ble_eq_true rfl) (fun K hK hR => ?_)
  have hK : mj_C (dd + 3) 0 0 RC_c "placeRefusal" bC_placeRefusal 4 K := hK
  refine ro_aload_n hK dC_placeRefusal_0 rfl ?_
  refine ro_iload_n hK dC_placeRefusal_1 rfl ?_
  obtain ⟨r_3, s_1, q_2, h⟩ := mb_cl_e h
  refine rb_callV hK mC_rowRefusal vC_95 (t_C_rowRefusal (dd := dd + 0) q_2) rfl mb_oC rfl (Nat.le_of_ble_eq_true rfl) dC_placeRefusal_2 rfl ⟨Nat.le_refl _, Nat.le_refl _⟩ ?_
  show K 0 0 5 [.ref 0, .int x1, .int x2, .retAddr 0] [.int r_3] (mb_s s_1)
  refine ro_istore_n hK dC_placeRefusal_5 (by decide) ?_
  show K 0 0 6 [.ref 0, .int x1, .int x2, .int r_3] [] (mb_s s_1)
  refine ro_iload_n hK dC_placeRefusal_6 rfl ?_
  refine ro_if_eq (tgt := 12) hK dC_placeRefusal_7 (by decide) (fun c_4 => ?_) (fun c_4 => ?_)
  · replace h := mb_ift c_4 h
    refine ro_iload_n hK dC_placeRefusal_12 rfl ?_
    obtain ⟨j_5, e_15, h⟩ := mb_jn_e h
    have hj_5 : ∀ (s_11 : mb_T), j_5 s_11 = some out → K 0 0 26 [.ref 0, .int x1, .int x2, .int r_3] [] (mb_s s_11) := by
      intro s_11 h
      rw [e_15] at h
      refine ro_aload_n hK dC_placeRefusal_26 rfl ?_
      refine ro_iconst (x := 2) hK (by decide) dC_placeRefusal_27 ?_
      obtain ⟨r_14, s_12, q_13, h⟩ := mb_cl_e h
      refine rb_callV hK mC_found vC_87 (t_C_found (dd := dd + 1) q_13) rfl mb_oC rfl (Nat.le_of_ble_eq_true rfl) dC_placeRefusal_28 rfl ⟨Nat.le_refl _, Nat.le_refl _⟩ ?_
      show K 0 0 31 [.ref 0, .int x1, .int x2, .int r_3] [.int r_14] (mb_s s_12)
      refine ro_goto (tgt := 35) hK dC_placeRefusal_31 (by decide) ?_
      cases h
      exact hR.1 0 0 35 _ _ _ _ rfl rfl dC_placeRefusal_35 ⟨rfl, rfl⟩
    refine ro_if_lt (tgt := 26) hK dC_placeRefusal_13 (by decide) (fun c_6 => ?_) (fun c_6 => ?_)
    · replace h := mb_ift c_6 h
      refine ro_fg (lv' := [.ref 0, .int x1, .int x2, .int r_3]) hK ⟨Or.inr rfl, ⟨Or.inr rfl, ⟨Or.inr rfl, ⟨Or.inr rfl, trivial⟩⟩⟩⟩ ?_
      exact hj_5 _ h
    · replace h := mb_iff c_6 h
      refine ro_iload_n hK dC_placeRefusal_16 rfl ?_
      refine ro_aload_n hK dC_placeRefusal_17 rfl ?_
      refine rb_get hK fC_14 mb_oC rfl dC_placeRefusal_18 ?_
      refine ro_iload_n hK dC_placeRefusal_21 rfl ?_
      obtain ⟨x_7, e_8, i_9, h⟩ := mb_rd_e h
      refine rb_iald hK ai_1 i_9 e_8 dC_placeRefusal_22 ?_
      refine ro_icmp_lt (tgt := 34) hK dC_placeRefusal_23 (by decide) (fun c_10 => ?_) (fun c_10 => ?_)
      · replace h := mb_ift c_10 h
        refine ro_iconst (x := 0) hK (by decide) dC_placeRefusal_34 ?_
        cases h
        exact hR.1 0 0 35 _ _ _ _ rfl rfl dC_placeRefusal_35 ⟨rfl, rfl⟩
      · replace h := mb_iff c_10 h
        refine ro_fg (lv' := [.ref 0, .int x1, .int x2, .int r_3]) hK ⟨Or.inr rfl, ⟨Or.inr rfl, ⟨Or.inr rfl, ⟨Or.inr rfl, trivial⟩⟩⟩⟩ ?_
        exact hj_5 _ h
  · replace h := mb_iff c_4 h
    refine ro_iload_n hK dC_placeRefusal_10 rfl ?_
    cases h
    exact hR.1 0 0 11 _ _ _ _ rfl rfl dC_placeRefusal_11 ⟨rfl, rfl⟩
theorem dC_put_0 : decode bC_put 0 = .ok (.aload_n 0, 1) := by decide +kernel
theorem dC_put_1 : decode bC_put 1 = .ok (.iload_n 1, 1) := by decide +kernel
theorem dC_put_2 : decode bC_put 2 = .ok (.invokevirtual 114, 3) := by decide +kernel
theorem dC_put_5 : decode bC_put 5 = .ok (.istore 4, 2) := by decide +kernel
theorem dC_put_7 : decode bC_put 7 = .ok (.iload 4, 2) := by decide +kernel
theorem dC_put_9 : decode bC_put 9 = .ok (.ifCond .eq 6, 3) := by decide +kernel
theorem dC_put_12 : decode bC_put 12 = .ok (.iload 4, 2) := by decide +kernel
theorem dC_put_14 : decode bC_put 14 = .ok (.ireturn, 1) := by decide +kernel
theorem dC_put_15 : decode bC_put 15 = .ok (.iload_n 2, 1) := by decide +kernel
theorem dC_put_16 : decode bC_put 16 = .ok (.ifCond .lt 13, 3) := by decide +kernel
theorem dC_put_19 : decode bC_put 19 = .ok (.iload_n 2, 1) := by decide +kernel
theorem dC_put_20 : decode bC_put 20 = .ok (.aload_n 0, 1) := by decide +kernel
theorem dC_put_21 : decode bC_put 21 = .ok (.getfield 23, 3) := by decide +kernel
theorem dC_put_24 : decode bC_put 24 = .ok (.iload_n 1, 1) := by decide +kernel
theorem dC_put_25 : decode bC_put 25 = .ok (.iaload, 1) := by decide +kernel
theorem dC_put_26 : decode bC_put 26 = .ok (.if_icmp .lt 9, 3) := by decide +kernel
theorem dC_put_29 : decode bC_put 29 = .ok (.aload_n 0, 1) := by decide +kernel
theorem dC_put_30 : decode bC_put 30 = .ok (.iconst 2, 1) := by decide +kernel
theorem dC_put_31 : decode bC_put 31 = .ok (.invokevirtual 87, 3) := by decide +kernel
theorem dC_put_34 : decode bC_put 34 = .ok (.ireturn, 1) := by decide +kernel
theorem dC_put_35 : decode bC_put 35 = .ok (.aload_n 0, 1) := by decide +kernel
theorem dC_put_36 : decode bC_put 36 = .ok (.getfield 20, 3) := by decide +kernel
theorem dC_put_39 : decode bC_put 39 = .ok (.iload_n 1, 1) := by decide +kernel
theorem dC_put_40 : decode bC_put 40 = .ok (.aaload, 1) := by decide +kernel
theorem dC_put_41 : decode bC_put 41 = .ok (.iload_n 2, 1) := by decide +kernel
theorem dC_put_42 : decode bC_put 42 = .ok (.baload, 1) := by decide +kernel
theorem dC_put_43 : decode bC_put 43 = .ok (.istore 5, 2) := by decide +kernel
theorem dC_put_45 : decode bC_put 45 = .ok (.aload_n 0, 1) := by decide +kernel
theorem dC_put_46 : decode bC_put 46 = .ok (.getfield 20, 3) := by decide +kernel
theorem dC_put_49 : decode bC_put 49 = .ok (.iload_n 1, 1) := by decide +kernel
theorem dC_put_50 : decode bC_put 50 = .ok (.aaload, 1) := by decide +kernel
theorem dC_put_51 : decode bC_put 51 = .ok (.iload_n 2, 1) := by decide +kernel
theorem dC_put_52 : decode bC_put 52 = .ok (.iload_n 3, 1) := by decide +kernel
theorem dC_put_53 : decode bC_put 53 = .ok (.i2b, 1) := by decide +kernel
theorem dC_put_54 : decode bC_put 54 = .ok (.bastore, 1) := by decide +kernel
theorem dC_put_55 : decode bC_put 55 = .ok (.iload 5, 2) := by decide +kernel
theorem dC_put_57 : decode bC_put 57 = .ok (.sipush 1000, 3) := by decide +kernel
theorem dC_put_60 : decode bC_put 60 = .ok (.iadd, 1) := by decide +kernel
theorem dC_put_61 : decode bC_put 61 = .ok (.ireturn, 1) := by decide +kernel
def f_C_put (n : Nat) (x1 : Int32) (x2 : Int32) (x3 : Int32) (s : mb_T) : Option (Int32 × mb_T) := mb_cl (f_C_textRefusal n x1 s) fun r_3 s_1 => if r_3 = 0 then (mb_jn (fun (s_19 : mb_T) => mb_cl (f_C_found n 2 s_19) fun r_22 s_20 => some (r_22, s_20)) fun j_5 => if x2 < 0 then j_5 s_1 else mb_rd s_1 3 4 x1 fun x_7 => if x2 < x_7 then (mb_ix x1 4 (mb_rd s_1 (30 + x1.toNatClampNeg) 80 x2 fun x_12 => mb_ix x1 4 (mb_wr s_1 (30 + x1.toNatClampNeg) 80 x2 (Int8.toInt32 (Int32.toInt8 (Int8.toInt32 (Int32.toInt8 x3)))) fun s_16 => some ((x_12 + 1000), s_16)))) else j_5 s_1) else some (r_3, s_1)
set_option maxHeartbeats 4000000 in
set_option maxRecDepth 100000 in
theorem t_C_put {dd n : Nat} {x1 : Int32} {x2 : Int32} {x3 : Int32} {s : mb_T} {out : Int32 × mb_T}  (h : f_C_put n x1 x2 x3 s = some out) : mb_MC (dd + 3) yC_put bC_put 6 (some .int) [.ref 0, .int x1, .int x2, .int x3] s (some (.int out.1)) out.2 := by
  unfold f_C_put at h
  refine mj_mc (lv := [.ref 0, .int x1, .int x2, .int x3, .retAddr 0, .retAddr 0]) mC_put rfl rfl (Nat.le_of_ble_eq_true rfl) (fun K hK hR => ?_)
  have hK : mj_C (dd + 3) 0 0 RC_c "put" bC_put 6 K := hK
  refine ro_aload_n hK dC_put_0 rfl ?_
  refine ro_iload_n hK dC_put_1 rfl ?_
  obtain ⟨r_3, s_1, q_2, h⟩ := mb_cl_e h
  refine rb_callV hK mC_textRefusal vC_114 (t_C_textRefusal (dd := dd + 0) q_2) rfl mb_oC rfl (Nat.le_of_ble_eq_true rfl) dC_put_2 rfl ⟨Nat.le_refl _, Nat.le_refl _⟩ ?_
  show K 0 0 5 [.ref 0, .int x1, .int x2, .int x3, .retAddr 0, .retAddr 0] [.int r_3] (mb_s s_1)
  refine ro_istore hK dC_put_5 (by decide) ?_
  show K 0 0 7 [.ref 0, .int x1, .int x2, .int x3, .int r_3, .retAddr 0] [] (mb_s s_1)
  refine ro_iload hK dC_put_7 rfl ?_
  refine ro_if_eq (tgt := 15) hK dC_put_9 (by decide) (fun c_4 => ?_) (fun c_4 => ?_)
  · replace h := mb_ift c_4 h
    refine ro_iload_n hK dC_put_15 rfl ?_
    obtain ⟨j_5, e_23, h⟩ := mb_jn_e h
    have hj_5 : ∀ (s_19 : mb_T), j_5 s_19 = some out → K 0 0 29 [.ref 0, .int x1, .int x2, .int x3, .int r_3, .retAddr 0] [] (mb_s s_19) := by
      intro s_19 h
      rw [e_23] at h
      refine ro_aload_n hK dC_put_29 rfl ?_
      refine ro_iconst (x := 2) hK (by decide) dC_put_30 ?_
      obtain ⟨r_22, s_20, q_21, h⟩ := mb_cl_e h
      refine rb_callV hK mC_found vC_87 (t_C_found (dd := dd + 1) q_21) rfl mb_oC rfl (Nat.le_of_ble_eq_true rfl) dC_put_31 rfl ⟨Nat.le_refl _, Nat.le_refl _⟩ ?_
      show K 0 0 34 [.ref 0, .int x1, .int x2, .int x3, .int r_3, .retAddr 0] [.int r_22] (mb_s s_20)
      cases h
      exact hR.1 0 0 34 _ _ _ _ rfl rfl dC_put_34 ⟨rfl, rfl⟩
    refine ro_if_lt (tgt := 29) hK dC_put_16 (by decide) (fun c_6 => ?_) (fun c_6 => ?_)
    · replace h := mb_ift c_6 h
      refine ro_fg (lv' := [.ref 0, .int x1, .int x2, .int x3, .int r_3, .retAddr 0]) hK ⟨Or.inr rfl, ⟨Or.inr rfl, ⟨Or.inr rfl, ⟨Or.inr rfl, ⟨Or.inr rfl, ⟨Or.inl rfl, trivial⟩⟩⟩⟩⟩⟩ ?_
      exact hj_5 _ h
    · replace h := mb_iff c_6 h
      refine ro_iload_n hK dC_put_19 rfl ?_
      refine ro_aload_n hK dC_put_20 rfl ?_
      refine rb_get hK fC_23 mb_oC rfl dC_put_21 ?_
      refine ro_iload_n hK dC_put_24 rfl ?_
      obtain ⟨x_7, e_8, i_9, h⟩ := mb_rd_e h
      refine rb_iald hK ai_3 i_9 e_8 dC_put_25 ?_
      refine ro_icmp_lt (tgt := 35) hK dC_put_26 (by decide) (fun c_10 => ?_) (fun c_10 => ?_)
      · replace h := mb_ift c_10 h
        refine ro_aload_n hK dC_put_35 rfl ?_
        refine rb_get hK fC_20 mb_oC rfl dC_put_36 ?_
        refine ro_iload_n hK dC_put_39 rfl ?_
        obtain ⟨i_11, h⟩ := mb_ix_e h
        refine rb_texts hK i_11 dC_put_40 ?_
        refine ro_iload_n hK dC_put_41 rfl ?_
        obtain ⟨x_12, e_13, i_14, h⟩ := mb_rd_e h
        refine rb_bald hK (mb_tb (mb_tx i_11)) i_14 e_13 dC_put_42 ?_
        refine ro_istore hK dC_put_43 (by decide) ?_
        show K 0 0 45 [.ref 0, .int x1, .int x2, .int x3, .int r_3, .int x_12] [] (mb_s s_1)
        refine ro_aload_n hK dC_put_45 rfl ?_
        refine rb_get hK fC_20 mb_oC rfl dC_put_46 ?_
        refine ro_iload_n hK dC_put_49 rfl ?_
        obtain ⟨i_15, h⟩ := mb_ix_e h
        refine rb_texts hK i_15 dC_put_50 ?_
        refine ro_iload_n hK dC_put_51 rfl ?_
        refine ro_iload_n hK dC_put_52 rfl ?_
        refine ro_i2b hK dC_put_53 ?_
        obtain ⟨s_16, e_17, i_18, h⟩ := mb_wr_e h
        refine rb_bast hK (mb_tb (mb_tx i_15)) i_18 e_17 dC_put_54 ?_
        refine ro_iload hK dC_put_55 rfl ?_
        refine ro_sipush (x := 1000) hK (by decide) dC_put_57 ?_
        refine ro_iadd hK dC_put_60 ?_
        cases h
        exact hR.1 0 0 61 _ _ _ _ rfl rfl dC_put_61 ⟨rfl, rfl⟩
      · replace h := mb_iff c_10 h
        refine ro_fg (lv' := [.ref 0, .int x1, .int x2, .int x3, .int r_3, .retAddr 0]) hK ⟨Or.inr rfl, ⟨Or.inr rfl, ⟨Or.inr rfl, ⟨Or.inr rfl, ⟨Or.inr rfl, ⟨Or.inl rfl, trivial⟩⟩⟩⟩⟩⟩ ?_
        exact hj_5 _ h
  · replace h := mb_iff c_4 h
    refine ro_iload hK dC_put_12 rfl ?_
    cases h
    exact hR.1 0 0 14 _ _ _ _ rfl rfl dC_put_14 ⟨rfl, rfl⟩
theorem dC_tear_0 : decode bC_tear 0 = .ok (.aload_n 0, 1) := by decide +kernel
theorem dC_tear_1 : decode bC_tear 1 = .ok (.iload_n 1, 1) := by decide +kernel
theorem dC_tear_2 : decode bC_tear 2 = .ok (.invokevirtual 95, 3) := by decide +kernel
theorem dC_tear_5 : decode bC_tear 5 = .ok (.istore_n 2, 1) := by decide +kernel
theorem dC_tear_6 : decode bC_tear 6 = .ok (.iload_n 2, 1) := by decide +kernel
theorem dC_tear_7 : decode bC_tear 7 = .ok (.ifCond .eq 5, 3) := by decide +kernel
theorem dC_tear_10 : decode bC_tear 10 = .ok (.iload_n 2, 1) := by decide +kernel
theorem dC_tear_11 : decode bC_tear 11 = .ok (.ireturn, 1) := by decide +kernel
theorem dC_tear_12 : decode bC_tear 12 = .ok (.aload_n 0, 1) := by decide +kernel
theorem dC_tear_13 : decode bC_tear 13 = .ok (.getfield 14, 3) := by decide +kernel
theorem dC_tear_16 : decode bC_tear 16 = .ok (.iload_n 1, 1) := by decide +kernel
theorem dC_tear_17 : decode bC_tear 17 = .ok (.iconst (-1), 1) := by decide +kernel
theorem dC_tear_18 : decode bC_tear 18 = .ok (.iastore, 1) := by decide +kernel
theorem dC_tear_19 : decode bC_tear 19 = .ok (.iconst 1, 1) := by decide +kernel
theorem dC_tear_20 : decode bC_tear 20 = .ok (.ireturn, 1) := by decide +kernel
def f_C_tear (n : Nat) (x1 : Int32) (s : mb_T) : Option (Int32 × mb_T) := mb_cl (f_C_rowRefusal n x1 s) fun r_3 s_1 => if r_3 = 0 then (mb_wr s_1 1 6 x1 (-1) fun s_5 => some (1, s_5)) else some (r_3, s_1)
set_option maxHeartbeats 4000000 in
set_option maxRecDepth 100000 in
theorem t_C_tear {dd n : Nat} {x1 : Int32} {s : mb_T} {out : Int32 × mb_T}  (h : f_C_tear n x1 s = some out) : mb_MC (dd + 3) yC_tear bC_tear 3 (some .int) [.ref 0, .int x1] s (some (.int out.1)) out.2 := by
  unfold f_C_tear at h
  refine mj_mc (lv := [.ref 0, .int x1, .retAddr 0]) mC_tear rfl rfl (Nat.le_of_ble_eq_true rfl) (fun K hK hR => ?_)
  have hK : mj_C (dd + 3) 0 0 RC_c "tear" bC_tear 3 K := hK
  refine ro_aload_n hK dC_tear_0 rfl ?_
  refine ro_iload_n hK dC_tear_1 rfl ?_
  obtain ⟨r_3, s_1, q_2, h⟩ := mb_cl_e h
  refine rb_callV hK mC_rowRefusal vC_95 (t_C_rowRefusal (dd := dd + 0) q_2) rfl mb_oC rfl (Nat.le_of_ble_eq_true rfl) dC_tear_2 rfl ⟨Nat.le_refl _, Nat.le_refl _⟩ ?_
  show K 0 0 5 [.ref 0, .int x1, .retAddr 0] [.int r_3] (mb_s s_1)
  refine ro_istore_n hK dC_tear_5 (by decide) ?_
  show K 0 0 6 [.ref 0, .int x1, .int r_3] [] (mb_s s_1)
  refine ro_iload_n hK dC_tear_6 rfl ?_
  refine ro_if_eq (tgt := 12) hK dC_tear_7 (by decide) (fun c_4 => ?_) (fun c_4 => ?_)
  · replace h := mb_ift c_4 h
    refine ro_aload_n hK dC_tear_12 rfl ?_
    refine rb_get hK fC_14 mb_oC rfl dC_tear_13 ?_
    refine ro_iload_n hK dC_tear_16 rfl ?_
    refine ro_iconst (x := (-1)) hK (by decide) dC_tear_17 ?_
    obtain ⟨s_5, e_6, i_7, h⟩ := mb_wr_e h
    refine rb_iast hK ai_1 i_7 e_6 dC_tear_18 ?_
    refine ro_iconst (x := 1) hK (by decide) dC_tear_19 ?_
    cases h
    exact hR.1 0 0 20 _ _ _ _ rfl rfl dC_tear_20 ⟨rfl, rfl⟩
  · replace h := mb_iff c_4 h
    refine ro_iload_n hK dC_tear_10 rfl ?_
    cases h
    exact hR.1 0 0 11 _ _ _ _ rfl rfl dC_tear_11 ⟨rfl, rfl⟩
theorem dA_begin_0 : decode bA_begin 0 = .ok (.aload_n 0, 1) := by decide +kernel
theorem dA_begin_1 : decode bA_begin 1 = .ok (.aload_n 1, 1) := by decide +kernel
theorem dA_begin_2 : decode bA_begin 2 = .ok (.getfield 42, 3) := by decide +kernel
theorem dA_begin_5 : decode bA_begin 5 = .ok (.putfield 48, 3) := by decide +kernel
theorem dA_begin_8 : decode bA_begin 8 = .ok (.aload_n 0, 1) := by decide +kernel
theorem dA_begin_9 : decode bA_begin 9 = .ok (.aload_n 1, 1) := by decide +kernel
theorem dA_begin_10 : decode bA_begin 10 = .ok (.getfield 49, 3) := by decide +kernel
theorem dA_begin_13 : decode bA_begin 13 = .ok (.putfield 52, 3) := by decide +kernel
theorem dA_begin_16 : decode bA_begin 16 = .ok (.aload_n 0, 1) := by decide +kernel
theorem dA_begin_17 : decode bA_begin 17 = .ok (.aload_n 1, 1) := by decide +kernel
theorem dA_begin_18 : decode bA_begin 18 = .ok (.getfield 53, 3) := by decide +kernel
theorem dA_begin_21 : decode bA_begin 21 = .ok (.putfield 56, 3) := by decide +kernel
theorem dA_begin_24 : decode bA_begin 24 = .ok (.aload_n 0, 1) := by decide +kernel
theorem dA_begin_25 : decode bA_begin 25 = .ok (.iconst 0, 1) := by decide +kernel
theorem dA_begin_26 : decode bA_begin 26 = .ok (.putfield 57, 3) := by decide +kernel
theorem dA_begin_29 : decode bA_begin 29 = .ok (.aload_n 0, 1) := by decide +kernel
theorem dA_begin_30 : decode bA_begin 30 = .ok (.aload_n 1, 1) := by decide +kernel
theorem dA_begin_31 : decode bA_begin 31 = .ok (.getfield 61, 3) := by decide +kernel
theorem dA_begin_34 : decode bA_begin 34 = .ok (.putfield 64, 3) := by decide +kernel
theorem dA_begin_37 : decode bA_begin 37 = .ok (.aload_n 0, 1) := by decide +kernel
theorem dA_begin_38 : decode bA_begin 38 = .ok (.aload_n 1, 1) := by decide +kernel
theorem dA_begin_39 : decode bA_begin 39 = .ok (.invokevirtual 65, 3) := by decide +kernel
theorem dA_begin_42 : decode bA_begin 42 = .ok (.putfield 69, 3) := by decide +kernel
theorem dA_begin_45 : decode bA_begin 45 = .ok (.aload_n 0, 1) := by decide +kernel
theorem dA_begin_46 : decode bA_begin 46 = .ok (.aload_n 1, 1) := by decide +kernel
theorem dA_begin_47 : decode bA_begin 47 = .ok (.iconst 3, 1) := by decide +kernel
theorem dA_begin_48 : decode bA_begin 48 = .ok (.invokevirtual 72, 3) := by decide +kernel
theorem dA_begin_51 : decode bA_begin 51 = .ok (.putfield 76, 3) := by decide +kernel
theorem dA_begin_54 : decode bA_begin 54 = .ok (.aload_n 1, 1) := by decide +kernel
theorem dA_begin_55 : decode bA_begin 55 = .ok (.getfield 79, 3) := by decide +kernel
theorem dA_begin_58 : decode bA_begin 58 = .ok (.iconst 0, 1) := by decide +kernel
theorem dA_begin_59 : decode bA_begin 59 = .ok (.aload_n 0, 1) := by decide +kernel
theorem dA_begin_60 : decode bA_begin 60 = .ok (.getfield 9, 3) := by decide +kernel
theorem dA_begin_63 : decode bA_begin 63 = .ok (.iconst 0, 1) := by decide +kernel
theorem dA_begin_64 : decode bA_begin 64 = .ok (.iconst 5, 1) := by decide +kernel
theorem dA_begin_65 : decode bA_begin 65 = .ok (.invokestatic 80, 3) := by decide +kernel
theorem dA_begin_68 : decode bA_begin 68 = .ok (.aload_n 1, 1) := by decide +kernel
theorem dA_begin_69 : decode bA_begin 69 = .ok (.getfield 86, 3) := by decide +kernel
theorem dA_begin_72 : decode bA_begin 72 = .ok (.iconst 0, 1) := by decide +kernel
theorem dA_begin_73 : decode bA_begin 73 = .ok (.aload_n 0, 1) := by decide +kernel
theorem dA_begin_74 : decode bA_begin 74 = .ok (.getfield 15, 3) := by decide +kernel
theorem dA_begin_77 : decode bA_begin 77 = .ok (.iconst 0, 1) := by decide +kernel
theorem dA_begin_78 : decode bA_begin 78 = .ok (.iconst 5, 1) := by decide +kernel
theorem dA_begin_79 : decode bA_begin 79 = .ok (.invokestatic 80, 3) := by decide +kernel
theorem dA_begin_82 : decode bA_begin 82 = .ok (.aload_n 1, 1) := by decide +kernel
theorem dA_begin_83 : decode bA_begin 83 = .ok (.getfield 87, 3) := by decide +kernel
theorem dA_begin_86 : decode bA_begin 86 = .ok (.iconst 0, 1) := by decide +kernel
theorem dA_begin_87 : decode bA_begin 87 = .ok (.aload_n 0, 1) := by decide +kernel
theorem dA_begin_88 : decode bA_begin 88 = .ok (.getfield 21, 3) := by decide +kernel
theorem dA_begin_91 : decode bA_begin 91 = .ok (.iconst 0, 1) := by decide +kernel
theorem dA_begin_92 : decode bA_begin 92 = .ok (.iconst 5, 1) := by decide +kernel
theorem dA_begin_93 : decode bA_begin 93 = .ok (.invokestatic 80, 3) := by decide +kernel
theorem dA_begin_96 : decode bA_begin 96 = .ok (.aload_n 1, 1) := by decide +kernel
theorem dA_begin_97 : decode bA_begin 97 = .ok (.getfield 88, 3) := by decide +kernel
theorem dA_begin_100 : decode bA_begin 100 = .ok (.iconst 0, 1) := by decide +kernel
theorem dA_begin_101 : decode bA_begin 101 = .ok (.aload_n 0, 1) := by decide +kernel
theorem dA_begin_102 : decode bA_begin 102 = .ok (.getfield 24, 3) := by decide +kernel
theorem dA_begin_105 : decode bA_begin 105 = .ok (.iconst 0, 1) := by decide +kernel
theorem dA_begin_106 : decode bA_begin 106 = .ok (.iconst 5, 1) := by decide +kernel
theorem dA_begin_107 : decode bA_begin 107 = .ok (.invokestatic 80, 3) := by decide +kernel
theorem dA_begin_110 : decode bA_begin 110 = .ok (.aload_n 1, 1) := by decide +kernel
theorem dA_begin_111 : decode bA_begin 111 = .ok (.getfield 89, 3) := by decide +kernel
theorem dA_begin_114 : decode bA_begin 114 = .ok (.iconst 0, 1) := by decide +kernel
theorem dA_begin_115 : decode bA_begin 115 = .ok (.aload_n 0, 1) := by decide +kernel
theorem dA_begin_116 : decode bA_begin 116 = .ok (.getfield 27, 3) := by decide +kernel
theorem dA_begin_119 : decode bA_begin 119 = .ok (.iconst 0, 1) := by decide +kernel
theorem dA_begin_120 : decode bA_begin 120 = .ok (.iconst 5, 1) := by decide +kernel
theorem dA_begin_121 : decode bA_begin 121 = .ok (.invokestatic 80, 3) := by decide +kernel
theorem dA_begin_124 : decode bA_begin 124 = .ok (.aload_n 0, 1) := by decide +kernel
theorem dA_begin_125 : decode bA_begin 125 = .ok (.getfield 30, 3) := by decide +kernel
theorem dA_begin_128 : decode bA_begin 128 = .ok (.iconst 0, 1) := by decide +kernel
theorem dA_begin_129 : decode bA_begin 129 = .ok (.invokestatic 90, 3) := by decide +kernel
theorem dA_begin_132 : decode bA_begin 132 = .ok (.iconst 1, 1) := by decide +kernel
theorem dA_begin_133 : decode bA_begin 133 = .ok (.istore_n 2, 1) := by decide +kernel
theorem dA_begin_134 : decode bA_begin 134 = .ok (.iload_n 2, 1) := by decide +kernel
theorem dA_begin_135 : decode bA_begin 135 = .ok (.aload_n 0, 1) := by decide +kernel
theorem dA_begin_136 : decode bA_begin 136 = .ok (.getfield 48, 3) := by decide +kernel
theorem dA_begin_139 : decode bA_begin 139 = .ok (.if_icmp .ge 17, 3) := by decide +kernel
theorem dA_begin_142 : decode bA_begin 142 = .ok (.aload_n 0, 1) := by decide +kernel
theorem dA_begin_143 : decode bA_begin 143 = .ok (.iload_n 2, 1) := by decide +kernel
theorem dA_begin_144 : decode bA_begin 144 = .ok (.iconst 1, 1) := by decide +kernel
theorem dA_begin_145 : decode bA_begin 145 = .ok (.isub, 1) := by decide +kernel
theorem dA_begin_146 : decode bA_begin 146 = .ok (.iload_n 2, 1) := by decide +kernel
theorem dA_begin_147 : decode bA_begin 147 = .ok (.invokevirtual 96, 3) := by decide +kernel
theorem dA_begin_150 : decode bA_begin 150 = .ok (.iinc 2 1, 3) := by decide +kernel
theorem dA_begin_153 : decode bA_begin 153 = .ok (.goto (-19), 3) := by decide +kernel
theorem dA_begin_156 : decode bA_begin 156 = .ok (.aload_n 0, 1) := by decide +kernel
theorem dA_begin_157 : decode bA_begin 157 = .ok (.getfield 52, 3) := by decide +kernel
theorem dA_begin_160 : decode bA_begin 160 = .ok (.iconst 1, 1) := by decide +kernel
theorem dA_begin_161 : decode bA_begin 161 = .ok (.if_icmp .ne 22, 3) := by decide +kernel
theorem dA_begin_164 : decode bA_begin 164 = .ok (.aload_n 0, 1) := by decide +kernel
theorem dA_begin_165 : decode bA_begin 165 = .ok (.getfield 48, 3) := by decide +kernel
theorem dA_begin_168 : decode bA_begin 168 = .ok (.iconst 2, 1) := by decide +kernel
theorem dA_begin_169 : decode bA_begin 169 = .ok (.if_icmp .le 14, 3) := by decide +kernel
theorem dA_begin_172 : decode bA_begin 172 = .ok (.aload_n 0, 1) := by decide +kernel
theorem dA_begin_173 : decode bA_begin 173 = .ok (.iconst 0, 1) := by decide +kernel
theorem dA_begin_174 : decode bA_begin 174 = .ok (.aload_n 0, 1) := by decide +kernel
theorem dA_begin_175 : decode bA_begin 175 = .ok (.getfield 48, 3) := by decide +kernel
theorem dA_begin_178 : decode bA_begin 178 = .ok (.iconst 1, 1) := by decide +kernel
theorem dA_begin_179 : decode bA_begin 179 = .ok (.isub, 1) := by decide +kernel
theorem dA_begin_180 : decode bA_begin 180 = .ok (.invokevirtual 96, 3) := by decide +kernel
theorem dA_begin_183 : decode bA_begin 183 = .ok (.aload_n 0, 1) := by decide +kernel
theorem dA_begin_184 : decode bA_begin 184 = .ok (.invokevirtual 100, 3) := by decide +kernel
theorem dA_begin_187 : decode bA_begin 187 = .ok (.return_, 1) := by decide +kernel
def f_A_begin_134 (n : Nat) (k0 : Int32 → mb_T → Option (mb_T))  : Nat → Int32 → mb_T → Option (mb_T)
  | 0, _, _ => none
  | f + 1, w2, s => if (s.1 40 0) ≤ w2 then k0 w2 s else mb_cw (f_A_seatTogether n (w2 - 1) w2 s) fun s_39 => f_A_begin_134 n k0 f (w2 + 1) s_39
def f_A_begin (n : Nat) (c1 : Nat) (s : mb_T) : Option (mb_T) := mb_bd (sF s 40 0 (s.1 c1 0)) fun s_1 => mb_bd (sF s_1 40 1 (s_1.1 c1 1)) fun s_3 => mb_bd (sF s_3 40 2 (s_3.1 c1 3)) fun s_5 => mb_bd (sF s_5 40 3 0) fun s_7 => mb_bd (sF s_7 40 4 (s_7.1 c1 4)) fun s_9 => mb_cl (f_V_lastHolder n c1 s_9) fun r_13 s_11 => mb_bd (sF s_11 40 5 r_13) fun s_14 => mb_cl (f_V_bitsOfKind n c1 3 s_14) fun r_18 s_16 => mb_bd (sF s_16 40 6 r_18) fun s_19 => mb_cp s_19 (c1 + 5) 5 47 5 0 0 5 fun s_21 => mb_cp s_21 (c1 + 6) 5 48 5 0 0 5 fun s_24 => mb_cp s_24 (c1 + 7) 5 50 5 0 0 5 fun s_27 => mb_cp s_27 (c1 + 8) 5 51 5 0 0 5 fun s_30 => mb_cp s_30 (c1 + 9) 5 52 5 0 0 5 fun s_33 => mb_cw (f_Y_fillI n 53 5 0 s_33) fun s_36 => f_A_begin_134 n (fun x_41 s_42 => mb_jn (fun (s_48 : mb_T) => mb_cw (f_A_countCalmBeside n s_48) fun s_49 => some s_49) fun j_43 => if (s_42.1 40 1) = 1 then (if (s_42.1 40 0) ≤ 2 then j_43 s_42 else mb_cw (f_A_seatTogether n 0 ((s_42.1 40 0) - 1) s_42) fun s_46 => j_43 s_46) else j_43 s_42) n 1 s_36
set_option maxHeartbeats 4000000 in
set_option maxRecDepth 100000 in
theorem tl_A_begin_134 {dd n : Nat} {K : mj_KT} {out : mb_T} (hK : mj_C (dd + 3) 0 0 RA_c "begin" bA_begin 3 K) (hR : mj_R bA_begin none (fun r2 S2 => r2 = none ∧ S2 = mb_s out) K) {k0 : Int32 → mb_T → Option (mb_T)}  (hk0 : ∀ (w2 : Int32) (s : mb_T), k0 w2 s = some out → K 0 0 156 [.ref 40, .retAddr 0, .int w2] [] (mb_s s)) : ∀ (f : Nat) (w2 : Int32) (s : mb_T), f_A_begin_134 n k0 f w2 s = some out → K 0 0 134 [.ref 40, .retAddr 0, .int w2] [] (mb_s s) := by
  intro f
  induction f with
  | zero =>
    intro w2 s h
    cases h
  | succ f ih =>
    intro w2 s h
    rw [f_A_begin_134] at h
    refine ro_iload_n hK dA_begin_134 rfl ?_
    refine ro_aload_n hK dA_begin_135 rfl ?_
    refine rb_get hK fA_48 mb_oA rfl dA_begin_136 ?_
    refine ro_icmp_ge (tgt := 156) hK dA_begin_139 (by decide) (fun c_38 => ?_) (fun c_38 => ?_)
    · replace h := mb_ift c_38 h
      refine ro_fg (lv' := [.ref 40, .retAddr 0, .int w2]) hK ⟨Or.inr rfl, ⟨Or.inl rfl, ⟨Or.inr rfl, trivial⟩⟩⟩ ?_
      exact hk0 _ _ h
    · replace h := mb_iff c_38 h
      refine ro_aload_n hK dA_begin_142 rfl ?_
      refine ro_iload_n hK dA_begin_143 rfl ?_
      refine ro_iconst (x := 1) hK (by decide) dA_begin_144 ?_
      refine ro_isub hK dA_begin_145 ?_
      refine ro_iload_n hK dA_begin_146 rfl ?_
      obtain ⟨s_39, q_40, h⟩ := mb_cw_e h
      refine rb_callV hK mA_seatTogether vA_96 (t_A_seatTogether (dd := dd + 0) q_40) rfl mb_oA rfl (Nat.le_of_ble_eq_true rfl) dA_begin_147 rfl ⟨Nat.le_refl _, Nat.le_refl _⟩ ?_
      show K 0 0 150 [.ref 40, .retAddr 0, .int w2] [] (mb_s s_39)
      refine ro_iincv (c := 1) hK (by decide) dA_begin_150 rfl (by decide) ?_
      show K 0 0 153 [.ref 40, .retAddr 0, .int (w2 + 1)] [] (mb_s s_39)
      refine ro_goto (tgt := 134) hK dA_begin_153 (by decide) ?_
      refine ro_fg (lv' := [.ref 40, .retAddr 0, .int (w2 + 1)]) hK ⟨Or.inr rfl, ⟨Or.inl rfl, ⟨Or.inr rfl, trivial⟩⟩⟩ ?_
      exact ih _ _ h
set_option maxHeartbeats 4000000 in
set_option maxRecDepth 100000 in
theorem t_A_begin {dd n : Nat} {c1 : Nat} {s : mb_T} {out : mb_T} (hc1 : mb_cv c1) (h : f_A_begin n c1 s = some out) : mb_MC (dd + 3) yA_begin bA_begin 3 none [.ref 40, .ref c1] s none out := by
  unfold f_A_begin at h
  refine mj_mc (lv := [.ref 40, .ref c1, .retAddr 0]) mA_begin rfl rfl (Nat.le_of_ble_eq_true rfl) (fun K hK hR => ?_)
  have hK : mj_C (dd + 3) 0 0 RA_c "begin" bA_begin 3 K := hK
  refine ro_aload_n hK dA_begin_0 rfl ?_
  refine ro_aload_n hK dA_begin_1 rfl ?_
  refine rb_get hK fA_42 (mb_cvo hc1) rfl dA_begin_2 ?_
  obtain ⟨s_1, e_2, h⟩ := mb_bd_e h
  refine rb_put hK gA_48 mb_oA rfl (by show 0 < 17; decide) rfl rfl e_2 dA_begin_5 ?_
  refine ro_aload_n hK dA_begin_8 rfl ?_
  refine ro_aload_n hK dA_begin_9 rfl ?_
  refine rb_get hK fA_49 (mb_cvo hc1) rfl dA_begin_10 ?_
  obtain ⟨s_3, e_4, h⟩ := mb_bd_e h
  refine rb_put hK gA_52 mb_oA rfl (by show 1 < 17; decide) rfl rfl e_4 dA_begin_13 ?_
  refine ro_aload_n hK dA_begin_16 rfl ?_
  refine ro_aload_n hK dA_begin_17 rfl ?_
  refine rb_get hK fA_53 (mb_cvo hc1) rfl dA_begin_18 ?_
  obtain ⟨s_5, e_6, h⟩ := mb_bd_e h
  refine rb_put hK gA_56 mb_oA rfl (by show 2 < 17; decide) rfl rfl e_6 dA_begin_21 ?_
  refine ro_aload_n hK dA_begin_24 rfl ?_
  refine ro_iconst (x := 0) hK (by decide) dA_begin_25 ?_
  obtain ⟨s_7, e_8, h⟩ := mb_bd_e h
  refine rb_put hK gA_57 mb_oA rfl (by show 3 < 17; decide) (by decide) rfl e_8 dA_begin_26 ?_
  refine ro_aload_n hK dA_begin_29 rfl ?_
  refine ro_aload_n hK dA_begin_30 rfl ?_
  refine rb_get hK fA_61 (mb_cvo hc1) rfl dA_begin_31 ?_
  obtain ⟨s_9, e_10, h⟩ := mb_bd_e h
  refine rb_put hK gA_64 mb_oA rfl (by show 4 < 17; decide) rfl rfl e_10 dA_begin_34 ?_
  refine ro_aload_n hK dA_begin_37 rfl ?_
  refine ro_aload_n hK dA_begin_38 rfl ?_
  obtain ⟨r_13, s_11, q_12, h⟩ := mb_cl_e h
  refine rb_callV hK mV_lastHolder vA_65 (t_V_lastHolder (dd := dd + 1) hc1 q_12) rfl (mb_cvo hc1) rfl (Nat.le_of_ble_eq_true rfl) dA_begin_39 rfl ⟨Nat.le_refl _, Nat.le_refl _⟩ ?_
  show K 0 0 42 [.ref 40, .ref c1, .retAddr 0] [.int r_13, .ref 40] (mb_s s_11)
  obtain ⟨s_14, e_15, h⟩ := mb_bd_e h
  refine rb_put hK gA_69 mb_oA rfl (by show 5 < 17; decide) rfl rfl e_15 dA_begin_42 ?_
  refine ro_aload_n hK dA_begin_45 rfl ?_
  refine ro_aload_n hK dA_begin_46 rfl ?_
  refine ro_iconst (x := 3) hK (by decide) dA_begin_47 ?_
  obtain ⟨r_18, s_16, q_17, h⟩ := mb_cl_e h
  refine rb_callV hK mV_bitsOfKind vA_72 (t_V_bitsOfKind (dd := dd + 0) hc1 q_17) rfl (mb_cvo hc1) rfl (Nat.le_of_ble_eq_true rfl) dA_begin_48 rfl ⟨Nat.le_refl _, Nat.le_refl _⟩ ?_
  show K 0 0 51 [.ref 40, .ref c1, .retAddr 0] [.int r_18, .ref 40] (mb_s s_16)
  obtain ⟨s_19, e_20, h⟩ := mb_bd_e h
  refine rb_put hK gA_76 mb_oA rfl (by show 6 < 17; decide) rfl rfl e_20 dA_begin_51 ?_
  refine ro_aload_n hK dA_begin_54 rfl ?_
  refine rb_get hK fA_79 (mb_cvo hc1) rfl dA_begin_55 ?_
  refine ro_iconst (x := 0) hK (by decide) dA_begin_58 ?_
  refine ro_aload_n hK dA_begin_59 rfl ?_
  refine rb_get hK fA_9 mb_oA rfl dA_begin_60 ?_
  refine ro_iconst (x := 0) hK (by decide) dA_begin_63 ?_
  refine ro_iconst (x := 5) hK (by decide) dA_begin_64 ?_
  obtain ⟨s_21, e_22, i_23, h⟩ := mb_cp_e h
  refine rb_copy hK vA_80 (by omega) (Nat.le_of_ble_eq_true rfl) (mb_cv5 hc1) ai_47 i_23 e_22 dA_begin_65 ?_
  refine ro_aload_n hK dA_begin_68 rfl ?_
  refine rb_get hK fA_86 (mb_cvo hc1) rfl dA_begin_69 ?_
  refine ro_iconst (x := 0) hK (by decide) dA_begin_72 ?_
  refine ro_aload_n hK dA_begin_73 rfl ?_
  refine rb_get hK fA_15 mb_oA rfl dA_begin_74 ?_
  refine ro_iconst (x := 0) hK (by decide) dA_begin_77 ?_
  refine ro_iconst (x := 5) hK (by decide) dA_begin_78 ?_
  obtain ⟨s_24, e_25, i_26, h⟩ := mb_cp_e h
  refine rb_copy hK vA_80 (by omega) (Nat.le_of_ble_eq_true rfl) (mb_cv6 hc1) ai_48 i_26 e_25 dA_begin_79 ?_
  refine ro_aload_n hK dA_begin_82 rfl ?_
  refine rb_get hK fA_87 (mb_cvo hc1) rfl dA_begin_83 ?_
  refine ro_iconst (x := 0) hK (by decide) dA_begin_86 ?_
  refine ro_aload_n hK dA_begin_87 rfl ?_
  refine rb_get hK fA_21 mb_oA rfl dA_begin_88 ?_
  refine ro_iconst (x := 0) hK (by decide) dA_begin_91 ?_
  refine ro_iconst (x := 5) hK (by decide) dA_begin_92 ?_
  obtain ⟨s_27, e_28, i_29, h⟩ := mb_cp_e h
  refine rb_copy hK vA_80 (by omega) (Nat.le_of_ble_eq_true rfl) (mb_cv7 hc1) ai_50 i_29 e_28 dA_begin_93 ?_
  refine ro_aload_n hK dA_begin_96 rfl ?_
  refine rb_get hK fA_88 (mb_cvo hc1) rfl dA_begin_97 ?_
  refine ro_iconst (x := 0) hK (by decide) dA_begin_100 ?_
  refine ro_aload_n hK dA_begin_101 rfl ?_
  refine rb_get hK fA_24 mb_oA rfl dA_begin_102 ?_
  refine ro_iconst (x := 0) hK (by decide) dA_begin_105 ?_
  refine ro_iconst (x := 5) hK (by decide) dA_begin_106 ?_
  obtain ⟨s_30, e_31, i_32, h⟩ := mb_cp_e h
  refine rb_copy hK vA_80 (by omega) (Nat.le_of_ble_eq_true rfl) (mb_cv8 hc1) ai_51 i_32 e_31 dA_begin_107 ?_
  refine ro_aload_n hK dA_begin_110 rfl ?_
  refine rb_get hK fA_89 (mb_cvo hc1) rfl dA_begin_111 ?_
  refine ro_iconst (x := 0) hK (by decide) dA_begin_114 ?_
  refine ro_aload_n hK dA_begin_115 rfl ?_
  refine rb_get hK fA_27 mb_oA rfl dA_begin_116 ?_
  refine ro_iconst (x := 0) hK (by decide) dA_begin_119 ?_
  refine ro_iconst (x := 5) hK (by decide) dA_begin_120 ?_
  obtain ⟨s_33, e_34, i_35, h⟩ := mb_cp_e h
  refine rb_copy hK vA_80 (by omega) (Nat.le_of_ble_eq_true rfl) (mb_cv9 hc1) ai_52 i_35 e_34 dA_begin_121 ?_
  refine ro_aload_n hK dA_begin_124 rfl ?_
  refine rb_get hK fA_30 mb_oA rfl dA_begin_125 ?_
  refine ro_iconst (x := 0) hK (by decide) dA_begin_128 ?_
  obtain ⟨s_36, q_37, h⟩ := mb_cw_e h
  refine rb_callS hK mY_fillI vA_90 (t_Y_fillI (dd := dd + 1) ai_53 q_37) rfl (Nat.le_of_ble_eq_true rfl) dA_begin_129 rfl ⟨Nat.le_refl _, Nat.le_refl _⟩ ?_
  show K 0 0 132 [.ref 40, .ref c1, .retAddr 0] [] (mb_s s_36)
  refine ro_iconst (x := 1) hK (by decide) dA_begin_132 ?_
  refine ro_istore_n hK dA_begin_133 (by decide) ?_
  show K 0 0 134 [.ref 40, .ref c1, .int 1] [] (mb_s s_36)
  refine ro_fg (lv' := [.ref 40, .retAddr 0, .int 1]) hK ⟨Or.inr rfl, ⟨Or.inl rfl, ⟨Or.inr rfl, trivial⟩⟩⟩ ?_
  refine tl_A_begin_134 (dd := dd) hK hR (fun x_41 s_42 h => ?_) n _ _ h
  refine ro_aload_n hK dA_begin_156 rfl ?_
  refine rb_get hK fA_52 mb_oA rfl dA_begin_157 ?_
  refine ro_iconst (x := 1) hK (by decide) dA_begin_160 ?_
  obtain ⟨j_43, e_51, h⟩ := mb_jn_e h
  have hj_43 : ∀ (s_48 : mb_T), j_43 s_48 = some out → K 0 0 183 [.ref 40, .retAddr 0, .int x_41] [] (mb_s s_48) := by
    intro s_48 h
    rw [e_51] at h
    refine ro_aload_n hK dA_begin_183 rfl ?_
    obtain ⟨s_49, q_50, h⟩ := mb_cw_e h
    refine rb_callV hK mA_countCalmBeside vA_100 (t_A_countCalmBeside (dd := dd + 0) q_50) rfl mb_oA rfl (Nat.le_of_ble_eq_true rfl) dA_begin_184 rfl ⟨Nat.le_refl _, Nat.le_refl _⟩ ?_
    show K 0 0 187 [.ref 40, .retAddr 0, .int x_41] [] (mb_s s_49)
    cases h
    exact hR.2.2 0 0 187 _ _ rfl dA_begin_187 ⟨rfl, rfl⟩
  refine ro_icmp_ne (tgt := 183) hK dA_begin_161 (by decide) (fun c_44 => ?_) (fun c_44 => ?_)
  · replace h := mb_iff c_44 h
    refine ro_fg (lv' := [.ref 40, .retAddr 0, .int x_41]) hK ⟨Or.inr rfl, ⟨Or.inl rfl, ⟨Or.inr rfl, trivial⟩⟩⟩ ?_
    exact hj_43 _ h
  · replace h := mb_ift c_44 h
    refine ro_aload_n hK dA_begin_164 rfl ?_
    refine rb_get hK fA_48 mb_oA rfl dA_begin_165 ?_
    refine ro_iconst (x := 2) hK (by decide) dA_begin_168 ?_
    refine ro_icmp_le (tgt := 183) hK dA_begin_169 (by decide) (fun c_45 => ?_) (fun c_45 => ?_)
    · replace h := mb_ift c_45 h
      refine ro_fg (lv' := [.ref 40, .retAddr 0, .int x_41]) hK ⟨Or.inr rfl, ⟨Or.inl rfl, ⟨Or.inr rfl, trivial⟩⟩⟩ ?_
      exact hj_43 _ h
    · replace h := mb_iff c_45 h
      refine ro_aload_n hK dA_begin_172 rfl ?_
      refine ro_iconst (x := 0) hK (by decide) dA_begin_173 ?_
      refine ro_aload_n hK dA_begin_174 rfl ?_
      refine rb_get hK fA_48 mb_oA rfl dA_begin_175 ?_
      refine ro_iconst (x := 1) hK (by decide) dA_begin_178 ?_
      refine ro_isub hK dA_begin_179 ?_
      obtain ⟨s_46, q_47, h⟩ := mb_cw_e h
      refine rb_callV hK mA_seatTogether vA_96 (t_A_seatTogether (dd := dd + 0) q_47) rfl mb_oA rfl (Nat.le_of_ble_eq_true rfl) dA_begin_180 rfl ⟨Nat.le_refl _, Nat.le_refl _⟩ ?_
      show K 0 0 183 [.ref 40, .retAddr 0, .int x_41] [] (mb_s s_46)
      refine ro_fg (lv' := [.ref 40, .retAddr 0, .int x_41]) hK ⟨Or.inr rfl, ⟨Or.inl rfl, ⟨Or.inr rfl, trivial⟩⟩⟩ ?_
      exact hj_43 _ h
theorem dA_showsMost_0 : decode bA_showsMost 0 = .ok (.iconst (-1), 1) := by decide +kernel
theorem dA_showsMost_1 : decode bA_showsMost 1 = .ok (.istore_n 2, 1) := by decide +kernel
theorem dA_showsMost_2 : decode bA_showsMost 2 = .ok (.iconst 0, 1) := by decide +kernel
theorem dA_showsMost_3 : decode bA_showsMost 3 = .ok (.istore_n 3, 1) := by decide +kernel
theorem dA_showsMost_4 : decode bA_showsMost 4 = .ok (.iconst 0, 1) := by decide +kernel
theorem dA_showsMost_5 : decode bA_showsMost 5 = .ok (.istore 4, 2) := by decide +kernel
theorem dA_showsMost_7 : decode bA_showsMost 7 = .ok (.iload 4, 2) := by decide +kernel
theorem dA_showsMost_9 : decode bA_showsMost 9 = .ok (.aload_n 0, 1) := by decide +kernel
theorem dA_showsMost_10 : decode bA_showsMost 10 = .ok (.getfield 48, 3) := by decide +kernel
theorem dA_showsMost_13 : decode bA_showsMost 13 = .ok (.if_icmp .ge 43, 3) := by decide +kernel
theorem dA_showsMost_16 : decode bA_showsMost 16 = .ok (.iload_n 1, 1) := by decide +kernel
theorem dA_showsMost_17 : decode bA_showsMost 17 = .ok (.iload 4, 2) := by decide +kernel
theorem dA_showsMost_19 : decode bA_showsMost 19 = .ok (.ishr, 1) := by decide +kernel
theorem dA_showsMost_20 : decode bA_showsMost 20 = .ok (.iconst 1, 1) := by decide +kernel
theorem dA_showsMost_21 : decode bA_showsMost 21 = .ok (.iand, 1) := by decide +kernel
theorem dA_showsMost_22 : decode bA_showsMost 22 = .ok (.ifCond .eq 28, 3) := by decide +kernel
theorem dA_showsMost_25 : decode bA_showsMost 25 = .ok (.iload_n 2, 1) := by decide +kernel
theorem dA_showsMost_26 : decode bA_showsMost 26 = .ok (.iconst (-1), 1) := by decide +kernel
theorem dA_showsMost_27 : decode bA_showsMost 27 = .ok (.if_icmp .eq 13, 3) := by decide +kernel
theorem dA_showsMost_30 : decode bA_showsMost 30 = .ok (.aload_n 0, 1) := by decide +kernel
theorem dA_showsMost_31 : decode bA_showsMost 31 = .ok (.iload 4, 2) := by decide +kernel
theorem dA_showsMost_33 : decode bA_showsMost 33 = .ok (.invokevirtual 125, 3) := by decide +kernel
theorem dA_showsMost_36 : decode bA_showsMost 36 = .ok (.iload_n 3, 1) := by decide +kernel
theorem dA_showsMost_37 : decode bA_showsMost 37 = .ok (.if_icmp .le 13, 3) := by decide +kernel
theorem dA_showsMost_40 : decode bA_showsMost 40 = .ok (.iload 4, 2) := by decide +kernel
theorem dA_showsMost_42 : decode bA_showsMost 42 = .ok (.istore_n 2, 1) := by decide +kernel
theorem dA_showsMost_43 : decode bA_showsMost 43 = .ok (.aload_n 0, 1) := by decide +kernel
theorem dA_showsMost_44 : decode bA_showsMost 44 = .ok (.iload 4, 2) := by decide +kernel
theorem dA_showsMost_46 : decode bA_showsMost 46 = .ok (.invokevirtual 125, 3) := by decide +kernel
theorem dA_showsMost_49 : decode bA_showsMost 49 = .ok (.istore_n 3, 1) := by decide +kernel
theorem dA_showsMost_50 : decode bA_showsMost 50 = .ok (.iinc 4 1, 3) := by decide +kernel
theorem dA_showsMost_53 : decode bA_showsMost 53 = .ok (.goto (-46), 3) := by decide +kernel
theorem dA_showsMost_56 : decode bA_showsMost 56 = .ok (.iload_n 2, 1) := by decide +kernel
theorem dA_showsMost_57 : decode bA_showsMost 57 = .ok (.ireturn, 1) := by decide +kernel
def f_A_showsMost_7 (n : Nat) (k0 : Int32 → Int32 → Int32 → mb_T → Option (Int32 × mb_T)) (y1 : Int32) : Nat → Int32 → Int32 → Int32 → mb_T → Option (Int32 × mb_T)
  | 0, _, _, _, _ => none
  | f + 1, w2, w3, w4, s => if (s.1 40 0) ≤ w4 then k0 w2 w3 w4 s else if ((y1 >>> (w4 &&& 31)) &&& 1) = 0 then f_A_showsMost_7 n k0 y1 f w2 w3 (w4 + 1) s else mb_jn (fun (s_9 : mb_T) => mb_cl (f_A_shows n w4 s_9) fun r_12 s_10 => f_A_showsMost_7 n k0 y1 f w4 r_12 (w4 + 1) s_10) fun j_3 => if w2 = (-1) then j_3 s else mb_cl (f_A_shows n w4 s) fun r_7 s_5 => if r_7 ≤ w3 then f_A_showsMost_7 n k0 y1 f w2 w3 (w4 + 1) s_5 else j_3 s_5
def f_A_showsMost (n : Nat) (x1 : Int32) (s : mb_T) : Option (Int32 × mb_T) := f_A_showsMost_7 n (fun x_14 x_15 x_16 s_17 => some (x_14, s_17)) x1 n (-1) 0 0 s
set_option maxHeartbeats 4000000 in
set_option maxRecDepth 100000 in
theorem tl_A_showsMost_7 {dd n : Nat} {K : mj_KT} {out : Int32 × mb_T} (hK : mj_C (dd + 3) 0 0 RA_c "showsMost" bA_showsMost 5 K) (hR : mj_R bA_showsMost (some .int) (fun r2 S2 => r2 = some (.int out.1) ∧ S2 = mb_s out.2) K) {k0 : Int32 → Int32 → Int32 → mb_T → Option (Int32 × mb_T)} {y1 : Int32} (hk0 : ∀ (w2 : Int32) (w3 : Int32) (w4 : Int32) (s : mb_T), k0 w2 w3 w4 s = some out → K 0 0 56 [.ref 40, .int y1, .int w2, .int w3, .int w4] [] (mb_s s)) : ∀ (f : Nat) (w2 : Int32) (w3 : Int32) (w4 : Int32) (s : mb_T), f_A_showsMost_7 n k0 y1 f w2 w3 w4 s = some out → K 0 0 7 [.ref 40, .int y1, .int w2, .int w3, .int w4] [] (mb_s s) := by
  intro f
  induction f with
  | zero =>
    intro w2 w3 w4 s h
    cases h
  | succ f ih =>
    intro w2 w3 w4 s h
    rw [f_A_showsMost_7] at h
    refine ro_iload hK dA_showsMost_7 rfl ?_
    refine ro_aload_n hK dA_showsMost_9 rfl ?_
    refine rb_get hK fA_48 mb_oA rfl dA_showsMost_10 ?_
    refine ro_icmp_ge (tgt := 56) hK dA_showsMost_13 (by decide) (fun c_1 => ?_) (fun c_1 => ?_)
    · replace h := mb_ift c_1 h
      refine ro_fg (lv' := [.ref 40, .int y1, .int w2, .int w3, .int w4]) hK ⟨Or.inr rfl, ⟨Or.inr rfl, ⟨Or.inr rfl, ⟨Or.inr rfl, ⟨Or.inr rfl, trivial⟩⟩⟩⟩⟩ ?_
      exact hk0 _ _ _ _ h
    · replace h := mb_iff c_1 h
      refine ro_iload_n hK dA_showsMost_16 rfl ?_
      refine ro_iload hK dA_showsMost_17 rfl ?_
      refine ro_ishr hK dA_showsMost_19 ?_
      refine ro_iconst (x := 1) hK (by decide) dA_showsMost_20 ?_
      refine ro_iand hK dA_showsMost_21 ?_
      refine ro_if_eq (tgt := 50) hK dA_showsMost_22 (by decide) (fun c_2 => ?_) (fun c_2 => ?_)
      · replace h := mb_ift c_2 h
        refine ro_iincv (c := 1) hK (by decide) dA_showsMost_50 rfl (by decide) ?_
        show K 0 0 53 [.ref 40, .int y1, .int w2, .int w3, .int (w4 + 1)] [] (mb_s s)
        refine ro_goto (tgt := 7) hK dA_showsMost_53 (by decide) ?_
        refine ro_fg (lv' := [.ref 40, .int y1, .int w2, .int w3, .int (w4 + 1)]) hK ⟨Or.inr rfl, ⟨Or.inr rfl, ⟨Or.inr rfl, ⟨Or.inr rfl, ⟨Or.inr rfl, trivial⟩⟩⟩⟩⟩ ?_
        exact ih _ _ _ _ h
      · replace h := mb_iff c_2 h
        refine ro_iload_n hK dA_showsMost_25 rfl ?_
        refine ro_iconst (x := (-1)) hK (by decide) dA_showsMost_26 ?_
        obtain ⟨j_3, e_13, h⟩ := mb_jn_e h
        have hj_3 : ∀ (s_9 : mb_T), j_3 s_9 = some out → K 0 0 40 [.ref 40, .int y1, .int w2, .int w3, .int w4] [] (mb_s s_9) := by
          intro s_9 h
          rw [e_13] at h
          refine ro_iload hK dA_showsMost_40 rfl ?_
          refine ro_istore_n hK dA_showsMost_42 (by decide) ?_
          show K 0 0 43 [.ref 40, .int y1, .int w4, .int w3, .int w4] [] (mb_s s_9)
          refine ro_aload_n hK dA_showsMost_43 rfl ?_
          refine ro_iload hK dA_showsMost_44 rfl ?_
          obtain ⟨r_12, s_10, q_11, h⟩ := mb_cl_e h
          refine rb_callV hK mA_shows vA_125 (t_A_shows (dd := dd + 0) q_11) rfl mb_oA rfl (Nat.le_of_ble_eq_true rfl) dA_showsMost_46 rfl ⟨Nat.le_refl _, Nat.le_refl _⟩ ?_
          show K 0 0 49 [.ref 40, .int y1, .int w4, .int w3, .int w4] [.int r_12] (mb_s s_10)
          refine ro_istore_n hK dA_showsMost_49 (by decide) ?_
          show K 0 0 50 [.ref 40, .int y1, .int w4, .int r_12, .int w4] [] (mb_s s_10)
          refine ro_iincv (c := 1) hK (by decide) dA_showsMost_50 rfl (by decide) ?_
          show K 0 0 53 [.ref 40, .int y1, .int w4, .int r_12, .int (w4 + 1)] [] (mb_s s_10)
          refine ro_goto (tgt := 7) hK dA_showsMost_53 (by decide) ?_
          refine ro_fg (lv' := [.ref 40, .int y1, .int w4, .int r_12, .int (w4 + 1)]) hK ⟨Or.inr rfl, ⟨Or.inr rfl, ⟨Or.inr rfl, ⟨Or.inr rfl, ⟨Or.inr rfl, trivial⟩⟩⟩⟩⟩ ?_
          exact ih _ _ _ _ h
        refine ro_icmp_eq (tgt := 40) hK dA_showsMost_27 (by decide) (fun c_4 => ?_) (fun c_4 => ?_)
        · replace h := mb_ift c_4 h
          refine ro_fg (lv' := [.ref 40, .int y1, .int w2, .int w3, .int w4]) hK ⟨Or.inr rfl, ⟨Or.inr rfl, ⟨Or.inr rfl, ⟨Or.inr rfl, ⟨Or.inr rfl, trivial⟩⟩⟩⟩⟩ ?_
          exact hj_3 _ h
        · replace h := mb_iff c_4 h
          refine ro_aload_n hK dA_showsMost_30 rfl ?_
          refine ro_iload hK dA_showsMost_31 rfl ?_
          obtain ⟨r_7, s_5, q_6, h⟩ := mb_cl_e h
          refine rb_callV hK mA_shows vA_125 (t_A_shows (dd := dd + 0) q_6) rfl mb_oA rfl (Nat.le_of_ble_eq_true rfl) dA_showsMost_33 rfl ⟨Nat.le_refl _, Nat.le_refl _⟩ ?_
          show K 0 0 36 [.ref 40, .int y1, .int w2, .int w3, .int w4] [.int r_7] (mb_s s_5)
          refine ro_iload_n hK dA_showsMost_36 rfl ?_
          refine ro_icmp_le (tgt := 50) hK dA_showsMost_37 (by decide) (fun c_8 => ?_) (fun c_8 => ?_)
          · replace h := mb_ift c_8 h
            refine ro_iincv (c := 1) hK (by decide) dA_showsMost_50 rfl (by decide) ?_
            show K 0 0 53 [.ref 40, .int y1, .int w2, .int w3, .int (w4 + 1)] [] (mb_s s_5)
            refine ro_goto (tgt := 7) hK dA_showsMost_53 (by decide) ?_
            refine ro_fg (lv' := [.ref 40, .int y1, .int w2, .int w3, .int (w4 + 1)]) hK ⟨Or.inr rfl, ⟨Or.inr rfl, ⟨Or.inr rfl, ⟨Or.inr rfl, ⟨Or.inr rfl, trivial⟩⟩⟩⟩⟩ ?_
            exact ih _ _ _ _ h
          · replace h := mb_iff c_8 h
            refine ro_fg (lv' := [.ref 40, .int y1, .int w2, .int w3, .int w4]) hK ⟨Or.inr rfl, ⟨Or.inr rfl, ⟨Or.inr rfl, ⟨Or.inr rfl, ⟨Or.inr rfl, trivial⟩⟩⟩⟩⟩ ?_
            exact hj_3 _ h
set_option maxHeartbeats 4000000 in
set_option maxRecDepth 100000 in
theorem t_A_showsMost {dd n : Nat} {x1 : Int32} {s : mb_T} {out : Int32 × mb_T}  (h : f_A_showsMost n x1 s = some out) : mb_MC (dd + 3) yA_showsMost bA_showsMost 5 (some .int) [.ref 40, .int x1] s (some (.int out.1)) out.2 := by
  unfold f_A_showsMost at h
  refine mj_mc (lv := [.ref 40, .int x1, .retAddr 0, .retAddr 0, .retAddr 0]) mA_showsMost rfl rfl (Nat.le_of_ble_eq_true rfl) (fun K hK hR => ?_)
  have hK : mj_C (dd + 3) 0 0 RA_c "showsMost" bA_showsMost 5 K := hK
  refine ro_iconst (x := (-1)) hK (by decide) dA_showsMost_0 ?_
  refine ro_istore_n hK dA_showsMost_1 (by decide) ?_
  show K 0 0 2 [.ref 40, .int x1, .int (-1), .retAddr 0, .retAddr 0] [] (mb_s s)
  refine ro_iconst (x := 0) hK (by decide) dA_showsMost_2 ?_
  refine ro_istore_n hK dA_showsMost_3 (by decide) ?_
  show K 0 0 4 [.ref 40, .int x1, .int (-1), .int 0, .retAddr 0] [] (mb_s s)
  refine ro_iconst (x := 0) hK (by decide) dA_showsMost_4 ?_
  refine ro_istore hK dA_showsMost_5 (by decide) ?_
  show K 0 0 7 [.ref 40, .int x1, .int (-1), .int 0, .int 0] [] (mb_s s)
  refine ro_fg (lv' := [.ref 40, .int x1, .int (-1), .int 0, .int 0]) hK ⟨Or.inr rfl, ⟨Or.inr rfl, ⟨Or.inr rfl, ⟨Or.inr rfl, ⟨Or.inr rfl, trivial⟩⟩⟩⟩⟩ ?_
  refine tl_A_showsMost_7 (dd := dd) hK hR (fun x_14 x_15 x_16 s_17 h => ?_) n _ _ _ _ h
  refine ro_iload_n hK dA_showsMost_56 rfl ?_
  cases h
  exact hR.1 0 0 57 _ _ _ _ rfl rfl dA_showsMost_57 ⟨rfl, rfl⟩
theorem dA_sit_0 : decode bA_sit 0 = .ok (.aload_n 0, 1) := by decide +kernel
theorem dA_sit_1 : decode bA_sit 1 = .ok (.getfield 30, 3) := by decide +kernel
theorem dA_sit_4 : decode bA_sit 4 = .ok (.iconst 0, 1) := by decide +kernel
theorem dA_sit_5 : decode bA_sit 5 = .ok (.invokestatic 90, 3) := by decide +kernel
theorem dA_sit_8 : decode bA_sit 8 = .ok (.iconst 1, 1) := by decide +kernel
theorem dA_sit_9 : decode bA_sit 9 = .ok (.istore_n 2, 1) := by decide +kernel
theorem dA_sit_10 : decode bA_sit 10 = .ok (.iload_n 2, 1) := by decide +kernel
theorem dA_sit_11 : decode bA_sit 11 = .ok (.aload_n 0, 1) := by decide +kernel
theorem dA_sit_12 : decode bA_sit 12 = .ok (.getfield 48, 3) := by decide +kernel
theorem dA_sit_15 : decode bA_sit 15 = .ok (.if_icmp .ge 27, 3) := by decide +kernel
theorem dA_sit_18 : decode bA_sit 18 = .ok (.iload_n 2, 1) := by decide +kernel
theorem dA_sit_19 : decode bA_sit 19 = .ok (.aload_n 1, 1) := by decide +kernel
theorem dA_sit_20 : decode bA_sit 20 = .ok (.arraylength, 1) := by decide +kernel
theorem dA_sit_21 : decode bA_sit 21 = .ok (.if_icmp .ge 21, 3) := by decide +kernel
theorem dA_sit_24 : decode bA_sit 24 = .ok (.aload_n 0, 1) := by decide +kernel
theorem dA_sit_25 : decode bA_sit 25 = .ok (.aload_n 1, 1) := by decide +kernel
theorem dA_sit_26 : decode bA_sit 26 = .ok (.iload_n 2, 1) := by decide +kernel
theorem dA_sit_27 : decode bA_sit 27 = .ok (.iconst 1, 1) := by decide +kernel
theorem dA_sit_28 : decode bA_sit 28 = .ok (.isub, 1) := by decide +kernel
theorem dA_sit_29 : decode bA_sit 29 = .ok (.iaload, 1) := by decide +kernel
theorem dA_sit_30 : decode bA_sit 30 = .ok (.aload_n 1, 1) := by decide +kernel
theorem dA_sit_31 : decode bA_sit 31 = .ok (.iload_n 2, 1) := by decide +kernel
theorem dA_sit_32 : decode bA_sit 32 = .ok (.iaload, 1) := by decide +kernel
theorem dA_sit_33 : decode bA_sit 33 = .ok (.invokevirtual 96, 3) := by decide +kernel
theorem dA_sit_36 : decode bA_sit 36 = .ok (.iinc 2 1, 3) := by decide +kernel
theorem dA_sit_39 : decode bA_sit 39 = .ok (.goto (-29), 3) := by decide +kernel
theorem dA_sit_42 : decode bA_sit 42 = .ok (.aload_n 0, 1) := by decide +kernel
theorem dA_sit_43 : decode bA_sit 43 = .ok (.getfield 52, 3) := by decide +kernel
theorem dA_sit_46 : decode bA_sit 46 = .ok (.iconst 1, 1) := by decide +kernel
theorem dA_sit_47 : decode bA_sit 47 = .ok (.if_icmp .ne 35, 3) := by decide +kernel
theorem dA_sit_50 : decode bA_sit 50 = .ok (.aload_n 0, 1) := by decide +kernel
theorem dA_sit_51 : decode bA_sit 51 = .ok (.getfield 48, 3) := by decide +kernel
theorem dA_sit_54 : decode bA_sit 54 = .ok (.iconst 2, 1) := by decide +kernel
theorem dA_sit_55 : decode bA_sit 55 = .ok (.if_icmp .le 27, 3) := by decide +kernel
theorem dA_sit_58 : decode bA_sit 58 = .ok (.aload_n 0, 1) := by decide +kernel
theorem dA_sit_59 : decode bA_sit 59 = .ok (.getfield 48, 3) := by decide +kernel
theorem dA_sit_62 : decode bA_sit 62 = .ok (.aload_n 1, 1) := by decide +kernel
theorem dA_sit_63 : decode bA_sit 63 = .ok (.arraylength, 1) := by decide +kernel
theorem dA_sit_64 : decode bA_sit 64 = .ok (.if_icmp .gt 18, 3) := by decide +kernel
theorem dA_sit_67 : decode bA_sit 67 = .ok (.aload_n 0, 1) := by decide +kernel
theorem dA_sit_68 : decode bA_sit 68 = .ok (.aload_n 1, 1) := by decide +kernel
theorem dA_sit_69 : decode bA_sit 69 = .ok (.iconst 0, 1) := by decide +kernel
theorem dA_sit_70 : decode bA_sit 70 = .ok (.iaload, 1) := by decide +kernel
theorem dA_sit_71 : decode bA_sit 71 = .ok (.aload_n 1, 1) := by decide +kernel
theorem dA_sit_72 : decode bA_sit 72 = .ok (.aload_n 0, 1) := by decide +kernel
theorem dA_sit_73 : decode bA_sit 73 = .ok (.getfield 48, 3) := by decide +kernel
theorem dA_sit_76 : decode bA_sit 76 = .ok (.iconst 1, 1) := by decide +kernel
theorem dA_sit_77 : decode bA_sit 77 = .ok (.isub, 1) := by decide +kernel
theorem dA_sit_78 : decode bA_sit 78 = .ok (.iaload, 1) := by decide +kernel
theorem dA_sit_79 : decode bA_sit 79 = .ok (.invokevirtual 96, 3) := by decide +kernel
theorem dA_sit_82 : decode bA_sit 82 = .ok (.aload_n 0, 1) := by decide +kernel
theorem dA_sit_83 : decode bA_sit 83 = .ok (.invokevirtual 100, 3) := by decide +kernel
theorem dA_sit_86 : decode bA_sit 86 = .ok (.return_, 1) := by decide +kernel
def f_A_sit_10 (n : Nat) (k0 : Int32 → mb_T → Option (mb_T)) (y1 z1 : Nat) : Nat → Int32 → mb_T → Option (mb_T)
  | 0, _, _ => none
  | f + 1, w2, s => if (s.1 40 0) ≤ w2 then k0 w2 s else if (Int32.ofNat z1) ≤ w2 then k0 w2 s else mb_rd s y1 z1 (w2 - 1) fun x_5 => mb_rd s y1 z1 w2 fun x_8 => mb_cw (f_A_seatTogether n x_5 x_8 s) fun s_11 => f_A_sit_10 n k0 y1 z1 f (w2 + 1) s_11
def f_A_sit (n : Nat) (a1 n1 : Nat) (s : mb_T) : Option (mb_T) := mb_cw (f_Y_fillI n 53 5 0 s) fun s_1 => f_A_sit_10 n (fun x_13 s_14 => mb_jn (fun (s_27 : mb_T) => mb_cw (f_A_countCalmBeside n s_27) fun s_28 => some s_28) fun j_15 => if (s_14.1 40 1) = 1 then (if (s_14.1 40 0) ≤ 2 then j_15 s_14 else if (Int32.ofNat n1) < (s_14.1 40 0) then j_15 s_14 else mb_rd s_14 a1 n1 0 fun x_19 => mb_rd s_14 a1 n1 ((s_14.1 40 0) - 1) fun x_22 => mb_cw (f_A_seatTogether n x_19 x_22 s_14) fun s_25 => j_15 s_25) else j_15 s_14) a1 n1 n 1 s_1
set_option maxHeartbeats 4000000 in
set_option maxRecDepth 100000 in
theorem tl_A_sit_10 {dd n : Nat} {K : mj_KT} {out : mb_T} (hK : mj_C (dd + 3) 0 0 RA_c "sit" bA_sit 3 K) (hR : mj_R bA_sit none (fun r2 S2 => r2 = none ∧ S2 = mb_s out) K) {k0 : Int32 → mb_T → Option (mb_T)} {y1 z1 : Nat} (hy1 : mb_ai y1 z1) (hk0 : ∀ (w2 : Int32) (s : mb_T), k0 w2 s = some out → K 0 0 42 [.ref 40, .ref y1, .int w2] [] (mb_s s)) : ∀ (f : Nat) (w2 : Int32) (s : mb_T), f_A_sit_10 n k0 y1 z1 f w2 s = some out → K 0 0 10 [.ref 40, .ref y1, .int w2] [] (mb_s s) := by
  intro f
  induction f with
  | zero =>
    intro w2 s h
    cases h
  | succ f ih =>
    intro w2 s h
    rw [f_A_sit_10] at h
    refine ro_iload_n hK dA_sit_10 rfl ?_
    refine ro_aload_n hK dA_sit_11 rfl ?_
    refine rb_get hK fA_48 mb_oA rfl dA_sit_12 ?_
    refine ro_icmp_ge (tgt := 42) hK dA_sit_15 (by decide) (fun c_3 => ?_) (fun c_3 => ?_)
    · replace h := mb_ift c_3 h
      refine ro_fg (lv' := [.ref 40, .ref y1, .int w2]) hK ⟨Or.inr rfl, ⟨Or.inr rfl, ⟨Or.inr rfl, trivial⟩⟩⟩ ?_
      exact hk0 _ _ h
    · replace h := mb_iff c_3 h
      refine ro_iload_n hK dA_sit_18 rfl ?_
      refine ro_aload_n hK dA_sit_19 rfl ?_
      refine rb_alenI hK hy1 dA_sit_20 ?_
      refine ro_icmp_ge (tgt := 42) hK dA_sit_21 (by decide) (fun c_4 => ?_) (fun c_4 => ?_)
      · replace h := mb_ift c_4 h
        refine ro_fg (lv' := [.ref 40, .ref y1, .int w2]) hK ⟨Or.inr rfl, ⟨Or.inr rfl, ⟨Or.inr rfl, trivial⟩⟩⟩ ?_
        exact hk0 _ _ h
      · replace h := mb_iff c_4 h
        refine ro_aload_n hK dA_sit_24 rfl ?_
        refine ro_aload_n hK dA_sit_25 rfl ?_
        refine ro_iload_n hK dA_sit_26 rfl ?_
        refine ro_iconst (x := 1) hK (by decide) dA_sit_27 ?_
        refine ro_isub hK dA_sit_28 ?_
        obtain ⟨x_5, e_6, i_7, h⟩ := mb_rd_e h
        refine rb_iald hK hy1 i_7 e_6 dA_sit_29 ?_
        refine ro_aload_n hK dA_sit_30 rfl ?_
        refine ro_iload_n hK dA_sit_31 rfl ?_
        obtain ⟨x_8, e_9, i_10, h⟩ := mb_rd_e h
        refine rb_iald hK hy1 i_10 e_9 dA_sit_32 ?_
        obtain ⟨s_11, q_12, h⟩ := mb_cw_e h
        refine rb_callV hK mA_seatTogether vA_96 (t_A_seatTogether (dd := dd + 0) q_12) rfl mb_oA rfl (Nat.le_of_ble_eq_true rfl) dA_sit_33 rfl ⟨Nat.le_refl _, Nat.le_refl _⟩ ?_
        show K 0 0 36 [.ref 40, .ref y1, .int w2] [] (mb_s s_11)
        refine ro_iincv (c := 1) hK (by decide) dA_sit_36 rfl (by decide) ?_
        show K 0 0 39 [.ref 40, .ref y1, .int (w2 + 1)] [] (mb_s s_11)
        refine ro_goto (tgt := 10) hK dA_sit_39 (by decide) ?_
        refine ro_fg (lv' := [.ref 40, .ref y1, .int (w2 + 1)]) hK ⟨Or.inr rfl, ⟨Or.inr rfl, ⟨Or.inr rfl, trivial⟩⟩⟩ ?_
        exact ih _ _ h
set_option maxHeartbeats 4000000 in
set_option maxRecDepth 100000 in
theorem t_A_sit {dd n : Nat} {a1 n1 : Nat} {s : mb_T} {out : mb_T} (ha1 : mb_ai a1 n1) (h : f_A_sit n a1 n1 s = some out) : mb_MC (dd + 3) yA_sit bA_sit 3 none [.ref 40, .ref a1] s none out := by
  unfold f_A_sit at h
  refine mj_mc (lv := [.ref 40, .ref a1, .retAddr 0]) mA_sit rfl rfl (Nat.le_of_ble_eq_true rfl) (fun K hK hR => ?_)
  have hK : mj_C (dd + 3) 0 0 RA_c "sit" bA_sit 3 K := hK
  refine ro_aload_n hK dA_sit_0 rfl ?_
  refine rb_get hK fA_30 mb_oA rfl dA_sit_1 ?_
  refine ro_iconst (x := 0) hK (by decide) dA_sit_4 ?_
  obtain ⟨s_1, q_2, h⟩ := mb_cw_e h
  refine rb_callS hK mY_fillI vA_90 (t_Y_fillI (dd := dd + 1) ai_53 q_2) rfl (Nat.le_of_ble_eq_true rfl) dA_sit_5 rfl ⟨Nat.le_refl _, Nat.le_refl _⟩ ?_
  show K 0 0 8 [.ref 40, .ref a1, .retAddr 0] [] (mb_s s_1)
  refine ro_iconst (x := 1) hK (by decide) dA_sit_8 ?_
  refine ro_istore_n hK dA_sit_9 (by decide) ?_
  show K 0 0 10 [.ref 40, .ref a1, .int 1] [] (mb_s s_1)
  refine ro_fg (lv' := [.ref 40, .ref a1, .int 1]) hK ⟨Or.inr rfl, ⟨Or.inr rfl, ⟨Or.inr rfl, trivial⟩⟩⟩ ?_
  refine tl_A_sit_10 (dd := dd) hK hR ha1 (fun x_13 s_14 h => ?_) n _ _ h
  refine ro_aload_n hK dA_sit_42 rfl ?_
  refine rb_get hK fA_52 mb_oA rfl dA_sit_43 ?_
  refine ro_iconst (x := 1) hK (by decide) dA_sit_46 ?_
  obtain ⟨j_15, e_30, h⟩ := mb_jn_e h
  have hj_15 : ∀ (s_27 : mb_T), j_15 s_27 = some out → K 0 0 82 [.ref 40, .ref a1, .int x_13] [] (mb_s s_27) := by
    intro s_27 h
    rw [e_30] at h
    refine ro_aload_n hK dA_sit_82 rfl ?_
    obtain ⟨s_28, q_29, h⟩ := mb_cw_e h
    refine rb_callV hK mA_countCalmBeside vA_100 (t_A_countCalmBeside (dd := dd + 0) q_29) rfl mb_oA rfl (Nat.le_of_ble_eq_true rfl) dA_sit_83 rfl ⟨Nat.le_refl _, Nat.le_refl _⟩ ?_
    show K 0 0 86 [.ref 40, .ref a1, .int x_13] [] (mb_s s_28)
    cases h
    exact hR.2.2 0 0 86 _ _ rfl dA_sit_86 ⟨rfl, rfl⟩
  refine ro_icmp_ne (tgt := 82) hK dA_sit_47 (by decide) (fun c_16 => ?_) (fun c_16 => ?_)
  · replace h := mb_iff c_16 h
    refine ro_fg (lv' := [.ref 40, .ref a1, .int x_13]) hK ⟨Or.inr rfl, ⟨Or.inr rfl, ⟨Or.inr rfl, trivial⟩⟩⟩ ?_
    exact hj_15 _ h
  · replace h := mb_ift c_16 h
    refine ro_aload_n hK dA_sit_50 rfl ?_
    refine rb_get hK fA_48 mb_oA rfl dA_sit_51 ?_
    refine ro_iconst (x := 2) hK (by decide) dA_sit_54 ?_
    refine ro_icmp_le (tgt := 82) hK dA_sit_55 (by decide) (fun c_17 => ?_) (fun c_17 => ?_)
    · replace h := mb_ift c_17 h
      refine ro_fg (lv' := [.ref 40, .ref a1, .int x_13]) hK ⟨Or.inr rfl, ⟨Or.inr rfl, ⟨Or.inr rfl, trivial⟩⟩⟩ ?_
      exact hj_15 _ h
    · replace h := mb_iff c_17 h
      refine ro_aload_n hK dA_sit_58 rfl ?_
      refine rb_get hK fA_48 mb_oA rfl dA_sit_59 ?_
      refine ro_aload_n hK dA_sit_62 rfl ?_
      refine rb_alenI hK ha1 dA_sit_63 ?_
      refine ro_icmp_gt (tgt := 82) hK dA_sit_64 (by decide) (fun c_18 => ?_) (fun c_18 => ?_)
      · replace h := mb_ift c_18 h
        refine ro_fg (lv' := [.ref 40, .ref a1, .int x_13]) hK ⟨Or.inr rfl, ⟨Or.inr rfl, ⟨Or.inr rfl, trivial⟩⟩⟩ ?_
        exact hj_15 _ h
      · replace h := mb_iff c_18 h
        refine ro_aload_n hK dA_sit_67 rfl ?_
        refine ro_aload_n hK dA_sit_68 rfl ?_
        refine ro_iconst (x := 0) hK (by decide) dA_sit_69 ?_
        obtain ⟨x_19, e_20, i_21, h⟩ := mb_rd_e h
        refine rb_iald hK ha1 i_21 e_20 dA_sit_70 ?_
        refine ro_aload_n hK dA_sit_71 rfl ?_
        refine ro_aload_n hK dA_sit_72 rfl ?_
        refine rb_get hK fA_48 mb_oA rfl dA_sit_73 ?_
        refine ro_iconst (x := 1) hK (by decide) dA_sit_76 ?_
        refine ro_isub hK dA_sit_77 ?_
        obtain ⟨x_22, e_23, i_24, h⟩ := mb_rd_e h
        refine rb_iald hK ha1 i_24 e_23 dA_sit_78 ?_
        obtain ⟨s_25, q_26, h⟩ := mb_cw_e h
        refine rb_callV hK mA_seatTogether vA_96 (t_A_seatTogether (dd := dd + 0) q_26) rfl mb_oA rfl (Nat.le_of_ble_eq_true rfl) dA_sit_79 rfl ⟨Nat.le_refl _, Nat.le_refl _⟩ ?_
        show K 0 0 82 [.ref 40, .ref a1, .int x_13] [] (mb_s s_25)
        refine ro_fg (lv' := [.ref 40, .ref a1, .int x_13]) hK ⟨Or.inr rfl, ⟨Or.inr rfl, ⟨Or.inr rfl, trivial⟩⟩⟩ ?_
        exact hj_15 _ h
theorem dA_tellStory_0 : decode bA_tellStory 0 = .ok (.aload_n 0, 1) := by decide +kernel
theorem dA_tellStory_1 : decode bA_tellStory 1 = .ok (.iload_n 1, 1) := by decide +kernel
theorem dA_tellStory_2 : decode bA_tellStory 2 = .ok (.invokevirtual 116, 3) := by decide +kernel
theorem dA_tellStory_5 : decode bA_tellStory 5 = .ok (.istore_n 2, 1) := by decide +kernel
theorem dA_tellStory_6 : decode bA_tellStory 6 = .ok (.iconst 0, 1) := by decide +kernel
theorem dA_tellStory_7 : decode bA_tellStory 7 = .ok (.istore_n 3, 1) := by decide +kernel
theorem dA_tellStory_8 : decode bA_tellStory 8 = .ok (.iload_n 3, 1) := by decide +kernel
theorem dA_tellStory_9 : decode bA_tellStory 9 = .ok (.aload_n 0, 1) := by decide +kernel
theorem dA_tellStory_10 : decode bA_tellStory 10 = .ok (.getfield 48, 3) := by decide +kernel
theorem dA_tellStory_13 : decode bA_tellStory 13 = .ok (.if_icmp .ge 72, 3) := by decide +kernel
theorem dA_tellStory_16 : decode bA_tellStory 16 = .ok (.iload_n 2, 1) := by decide +kernel
theorem dA_tellStory_17 : decode bA_tellStory 17 = .ok (.iload_n 3, 1) := by decide +kernel
theorem dA_tellStory_18 : decode bA_tellStory 18 = .ok (.ishr, 1) := by decide +kernel
theorem dA_tellStory_19 : decode bA_tellStory 19 = .ok (.iconst 1, 1) := by decide +kernel
theorem dA_tellStory_20 : decode bA_tellStory 20 = .ok (.iand, 1) := by decide +kernel
theorem dA_tellStory_21 : decode bA_tellStory 21 = .ok (.ifCond .eq 24, 3) := by decide +kernel
theorem dA_tellStory_24 : decode bA_tellStory 24 = .ok (.aload_n 0, 1) := by decide +kernel
theorem dA_tellStory_25 : decode bA_tellStory 25 = .ok (.getfield 15, 3) := by decide +kernel
theorem dA_tellStory_28 : decode bA_tellStory 28 = .ok (.iload_n 3, 1) := by decide +kernel
theorem dA_tellStory_29 : decode bA_tellStory 29 = .ok (.aload_n 0, 1) := by decide +kernel
theorem dA_tellStory_30 : decode bA_tellStory 30 = .ok (.getfield 15, 3) := by decide +kernel
theorem dA_tellStory_33 : decode bA_tellStory 33 = .ok (.iload_n 3, 1) := by decide +kernel
theorem dA_tellStory_34 : decode bA_tellStory 34 = .ok (.iaload, 1) := by decide +kernel
theorem dA_tellStory_35 : decode bA_tellStory 35 = .ok (.iconst 2, 1) := by decide +kernel
theorem dA_tellStory_36 : decode bA_tellStory 36 = .ok (.isub, 1) := by decide +kernel
theorem dA_tellStory_37 : decode bA_tellStory 37 = .ok (.iconst 0, 1) := by decide +kernel
theorem dA_tellStory_38 : decode bA_tellStory 38 = .ok (.invokestatic 132, 3) := by decide +kernel
theorem dA_tellStory_41 : decode bA_tellStory 41 = .ok (.iastore, 1) := by decide +kernel
theorem dA_tellStory_42 : decode bA_tellStory 42 = .ok (.goto 37, 3) := by decide +kernel
theorem dA_tellStory_45 : decode bA_tellStory 45 = .ok (.iload_n 3, 1) := by decide +kernel
theorem dA_tellStory_46 : decode bA_tellStory 46 = .ok (.iload_n 1, 1) := by decide +kernel
theorem dA_tellStory_47 : decode bA_tellStory 47 = .ok (.if_icmp .ne 32, 3) := by decide +kernel
theorem dA_tellStory_50 : decode bA_tellStory 50 = .ok (.aload_n 0, 1) := by decide +kernel
theorem dA_tellStory_51 : decode bA_tellStory 51 = .ok (.getfield 9, 3) := by decide +kernel
theorem dA_tellStory_54 : decode bA_tellStory 54 = .ok (.iload_n 3, 1) := by decide +kernel
theorem dA_tellStory_55 : decode bA_tellStory 55 = .ok (.iaload, 1) := by decide +kernel
theorem dA_tellStory_56 : decode bA_tellStory 56 = .ok (.iconst 4, 1) := by decide +kernel
theorem dA_tellStory_57 : decode bA_tellStory 57 = .ok (.if_icmp .eq 22, 3) := by decide +kernel
theorem dA_tellStory_60 : decode bA_tellStory 60 = .ok (.aload_n 0, 1) := by decide +kernel
theorem dA_tellStory_61 : decode bA_tellStory 61 = .ok (.getfield 15, 3) := by decide +kernel
theorem dA_tellStory_64 : decode bA_tellStory 64 = .ok (.iload_n 3, 1) := by decide +kernel
theorem dA_tellStory_65 : decode bA_tellStory 65 = .ok (.aload_n 0, 1) := by decide +kernel
theorem dA_tellStory_66 : decode bA_tellStory 66 = .ok (.getfield 15, 3) := by decide +kernel
theorem dA_tellStory_69 : decode bA_tellStory 69 = .ok (.iload_n 3, 1) := by decide +kernel
theorem dA_tellStory_70 : decode bA_tellStory 70 = .ok (.iaload, 1) := by decide +kernel
theorem dA_tellStory_71 : decode bA_tellStory 71 = .ok (.iconst 1, 1) := by decide +kernel
theorem dA_tellStory_72 : decode bA_tellStory 72 = .ok (.iadd, 1) := by decide +kernel
theorem dA_tellStory_73 : decode bA_tellStory 73 = .ok (.bipush 99, 2) := by decide +kernel
theorem dA_tellStory_75 : decode bA_tellStory 75 = .ok (.invokestatic 137, 3) := by decide +kernel
theorem dA_tellStory_78 : decode bA_tellStory 78 = .ok (.iastore, 1) := by decide +kernel
theorem dA_tellStory_79 : decode bA_tellStory 79 = .ok (.iinc 3 1, 3) := by decide +kernel
theorem dA_tellStory_82 : decode bA_tellStory 82 = .ok (.goto (-74), 3) := by decide +kernel
theorem dA_tellStory_85 : decode bA_tellStory 85 = .ok (.return_, 1) := by decide +kernel
def f_A_tellStory_8 (n : Nat) (k0 : Int32 → mb_T → Option (mb_T)) (y1 : Int32) (y2 : Int32) : Nat → Int32 → mb_T → Option (mb_T)
  | 0, _, _ => none
  | f + 1, w3, s => if (s.1 40 0) ≤ w3 then k0 w3 s else if ((y2 >>> (w3 &&& 31)) &&& 1) = 0 then (if w3 = y1 then (mb_rd s 47 5 w3 fun x_7 => if x_7 = 4 then f_A_tellStory_8 n k0 y1 y2 f (w3 + 1) s else mb_rd s 48 5 w3 fun x_11 => mb_wr s 48 5 w3 (if 99 < (x_11 + 1) then 99 else (x_11 + 1) : Int32) fun s_14 => f_A_tellStory_8 n k0 y1 y2 f (w3 + 1) s_14) else f_A_tellStory_8 n k0 y1 y2 f (w3 + 1) s) else mb_rd s 48 5 w3 fun x_17 => mb_wr s 48 5 w3 (if (x_17 - 2) < 0 then 0 else (x_17 - 2) : Int32) fun s_20 => f_A_tellStory_8 n k0 y1 y2 f (w3 + 1) s_20
def f_A_tellStory (n : Nat) (x1 : Int32) (s : mb_T) : Option (mb_T) := mb_cl (f_A_bitsBeside n x1 s) fun r_3 s_1 => f_A_tellStory_8 n (fun x_23 s_24 => some s_24) x1 r_3 n 0 s_1
set_option maxHeartbeats 4000000 in
set_option maxRecDepth 100000 in
theorem tl_A_tellStory_8 {dd n : Nat} {K : mj_KT} {out : mb_T} (hK : mj_C (dd + 3) 0 0 RA_c "tellStory" bA_tellStory 4 K) (hR : mj_R bA_tellStory none (fun r2 S2 => r2 = none ∧ S2 = mb_s out) K) {k0 : Int32 → mb_T → Option (mb_T)} {y1 : Int32} {y2 : Int32} (hk0 : ∀ (w3 : Int32) (s : mb_T), k0 w3 s = some out → K 0 0 85 [.ref 40, .int y1, .int y2, .int w3] [] (mb_s s)) : ∀ (f : Nat) (w3 : Int32) (s : mb_T), f_A_tellStory_8 n k0 y1 y2 f w3 s = some out → K 0 0 8 [.ref 40, .int y1, .int y2, .int w3] [] (mb_s s) := by
  intro f
  induction f with
  | zero =>
    intro w3 s h
    cases h
  | succ f ih =>
    intro w3 s h
    rw [f_A_tellStory_8] at h
    refine ro_iload_n hK dA_tellStory_8 rfl ?_
    refine ro_aload_n hK dA_tellStory_9 rfl ?_
    refine rb_get hK fA_48 mb_oA rfl dA_tellStory_10 ?_
    refine ro_icmp_ge (tgt := 85) hK dA_tellStory_13 (by decide) (fun c_4 => ?_) (fun c_4 => ?_)
    · replace h := mb_ift c_4 h
      refine ro_fg (lv' := [.ref 40, .int y1, .int y2, .int w3]) hK ⟨Or.inr rfl, ⟨Or.inr rfl, ⟨Or.inr rfl, ⟨Or.inr rfl, trivial⟩⟩⟩⟩ ?_
      exact hk0 _ _ h
    · replace h := mb_iff c_4 h
      refine ro_iload_n hK dA_tellStory_16 rfl ?_
      refine ro_iload_n hK dA_tellStory_17 rfl ?_
      refine ro_ishr hK dA_tellStory_18 ?_
      refine ro_iconst (x := 1) hK (by decide) dA_tellStory_19 ?_
      refine ro_iand hK dA_tellStory_20 ?_
      refine ro_if_eq (tgt := 45) hK dA_tellStory_21 (by decide) (fun c_5 => ?_) (fun c_5 => ?_)
      · replace h := mb_ift c_5 h
        refine ro_iload_n hK dA_tellStory_45 rfl ?_
        refine ro_iload_n hK dA_tellStory_46 rfl ?_
        refine ro_icmp_ne (tgt := 79) hK dA_tellStory_47 (by decide) (fun c_6 => ?_) (fun c_6 => ?_)
        · replace h := mb_iff c_6 h
          refine ro_iincv (c := 1) hK (by decide) dA_tellStory_79 rfl (by decide) ?_
          show K 0 0 82 [.ref 40, .int y1, .int y2, .int (w3 + 1)] [] (mb_s s)
          refine ro_goto (tgt := 8) hK dA_tellStory_82 (by decide) ?_
          refine ro_fg (lv' := [.ref 40, .int y1, .int y2, .int (w3 + 1)]) hK ⟨Or.inr rfl, ⟨Or.inr rfl, ⟨Or.inr rfl, ⟨Or.inr rfl, trivial⟩⟩⟩⟩ ?_
          exact ih _ _ h
        · replace h := mb_ift c_6 h
          refine ro_aload_n hK dA_tellStory_50 rfl ?_
          refine rb_get hK fA_9 mb_oA rfl dA_tellStory_51 ?_
          refine ro_iload_n hK dA_tellStory_54 rfl ?_
          obtain ⟨x_7, e_8, i_9, h⟩ := mb_rd_e h
          refine rb_iald hK ai_47 i_9 e_8 dA_tellStory_55 ?_
          refine ro_iconst (x := 4) hK (by decide) dA_tellStory_56 ?_
          refine ro_icmp_eq (tgt := 79) hK dA_tellStory_57 (by decide) (fun c_10 => ?_) (fun c_10 => ?_)
          · replace h := mb_ift c_10 h
            refine ro_iincv (c := 1) hK (by decide) dA_tellStory_79 rfl (by decide) ?_
            show K 0 0 82 [.ref 40, .int y1, .int y2, .int (w3 + 1)] [] (mb_s s)
            refine ro_goto (tgt := 8) hK dA_tellStory_82 (by decide) ?_
            refine ro_fg (lv' := [.ref 40, .int y1, .int y2, .int (w3 + 1)]) hK ⟨Or.inr rfl, ⟨Or.inr rfl, ⟨Or.inr rfl, ⟨Or.inr rfl, trivial⟩⟩⟩⟩ ?_
            exact ih _ _ h
          · replace h := mb_iff c_10 h
            refine ro_aload_n hK dA_tellStory_60 rfl ?_
            refine rb_get hK fA_15 mb_oA rfl dA_tellStory_61 ?_
            refine ro_iload_n hK dA_tellStory_64 rfl ?_
            refine ro_aload_n hK dA_tellStory_65 rfl ?_
            refine rb_get hK fA_15 mb_oA rfl dA_tellStory_66 ?_
            refine ro_iload_n hK dA_tellStory_69 rfl ?_
            obtain ⟨x_11, e_12, i_13, h⟩ := mb_rd_e h
            refine rb_iald hK ai_48 i_13 e_12 dA_tellStory_70 ?_
            refine ro_iconst (x := 1) hK (by decide) dA_tellStory_71 ?_
            refine ro_iadd hK dA_tellStory_72 ?_
            refine ro_bipush (x := 99) hK (by decide) dA_tellStory_73 ?_
            refine ro_mmin hK vA_137 (by omega) (Nat.le_of_ble_eq_true rfl) dA_tellStory_75 ?_
            obtain ⟨s_14, e_15, i_16, h⟩ := mb_wr_e h
            refine rb_iast hK ai_48 i_16 e_15 dA_tellStory_78 ?_
            refine ro_iincv (c := 1) hK (by decide) dA_tellStory_79 rfl (by decide) ?_
            show K 0 0 82 [.ref 40, .int y1, .int y2, .int (w3 + 1)] [] (mb_s s_14)
            refine ro_goto (tgt := 8) hK dA_tellStory_82 (by decide) ?_
            refine ro_fg (lv' := [.ref 40, .int y1, .int y2, .int (w3 + 1)]) hK ⟨Or.inr rfl, ⟨Or.inr rfl, ⟨Or.inr rfl, ⟨Or.inr rfl, trivial⟩⟩⟩⟩ ?_
            exact ih _ _ h
      · replace h := mb_iff c_5 h
        refine ro_aload_n hK dA_tellStory_24 rfl ?_
        refine rb_get hK fA_15 mb_oA rfl dA_tellStory_25 ?_
        refine ro_iload_n hK dA_tellStory_28 rfl ?_
        refine ro_aload_n hK dA_tellStory_29 rfl ?_
        refine rb_get hK fA_15 mb_oA rfl dA_tellStory_30 ?_
        refine ro_iload_n hK dA_tellStory_33 rfl ?_
        obtain ⟨x_17, e_18, i_19, h⟩ := mb_rd_e h
        refine rb_iald hK ai_48 i_19 e_18 dA_tellStory_34 ?_
        refine ro_iconst (x := 2) hK (by decide) dA_tellStory_35 ?_
        refine ro_isub hK dA_tellStory_36 ?_
        refine ro_iconst (x := 0) hK (by decide) dA_tellStory_37 ?_
        refine ro_mmax hK vA_132 (by omega) (Nat.le_of_ble_eq_true rfl) dA_tellStory_38 ?_
        obtain ⟨s_20, e_21, i_22, h⟩ := mb_wr_e h
        refine rb_iast hK ai_48 i_22 e_21 dA_tellStory_41 ?_
        refine ro_goto (tgt := 79) hK dA_tellStory_42 (by decide) ?_
        refine ro_iincv (c := 1) hK (by decide) dA_tellStory_79 rfl (by decide) ?_
        show K 0 0 82 [.ref 40, .int y1, .int y2, .int (w3 + 1)] [] (mb_s s_20)
        refine ro_goto (tgt := 8) hK dA_tellStory_82 (by decide) ?_
        refine ro_fg (lv' := [.ref 40, .int y1, .int y2, .int (w3 + 1)]) hK ⟨Or.inr rfl, ⟨Or.inr rfl, ⟨Or.inr rfl, ⟨Or.inr rfl, trivial⟩⟩⟩⟩ ?_
        exact ih _ _ h
set_option maxHeartbeats 4000000 in
set_option maxRecDepth 100000 in
theorem t_A_tellStory {dd n : Nat} {x1 : Int32} {s : mb_T} {out : mb_T}  (h : f_A_tellStory n x1 s = some out) : mb_MC (dd + 3) yA_tellStory bA_tellStory 4 none [.ref 40, .int x1] s none out := by
  unfold f_A_tellStory at h
  refine mj_mc (lv := [.ref 40, .int x1, .retAddr 0, .retAddr 0]) mA_tellStory rfl rfl (Nat.le_of_ble_eq_true rfl) (fun K hK hR => ?_)
  have hK : mj_C (dd + 3) 0 0 RA_c "tellStory" bA_tellStory 4 K := hK
  refine ro_aload_n hK dA_tellStory_0 rfl ?_
  refine ro_iload_n hK dA_tellStory_1 rfl ?_
  obtain ⟨r_3, s_1, q_2, h⟩ := mb_cl_e h
  refine rb_callV hK mA_bitsBeside vA_116 (t_A_bitsBeside (dd := dd + 0) q_2) rfl mb_oA rfl (Nat.le_of_ble_eq_true rfl) dA_tellStory_2 rfl ⟨Nat.le_refl _, Nat.le_refl _⟩ ?_
  show K 0 0 5 [.ref 40, .int x1, .retAddr 0, .retAddr 0] [.int r_3] (mb_s s_1)
  refine ro_istore_n hK dA_tellStory_5 (by decide) ?_
  show K 0 0 6 [.ref 40, .int x1, .int r_3, .retAddr 0] [] (mb_s s_1)
  refine ro_iconst (x := 0) hK (by decide) dA_tellStory_6 ?_
  refine ro_istore_n hK dA_tellStory_7 (by decide) ?_
  show K 0 0 8 [.ref 40, .int x1, .int r_3, .int 0] [] (mb_s s_1)
  refine ro_fg (lv' := [.ref 40, .int x1, .int r_3, .int 0]) hK ⟨Or.inr rfl, ⟨Or.inr rfl, ⟨Or.inr rfl, ⟨Or.inr rfl, trivial⟩⟩⟩⟩ ?_
  refine tl_A_tellStory_8 (dd := dd) hK hR (fun x_23 s_24 h => ?_) n _ _ h
  cases h
  exact hR.2.2 0 0 85 _ _ rfl dA_tellStory_85 ⟨rfl, rfl⟩
theorem dR_readHead_0 : decode bR_readHead 0 = .ok (.aload_n 0, 1) := by decide +kernel
theorem dR_readHead_1 : decode bR_readHead 1 = .ok (.invokevirtual 40, 3) := by decide +kernel
theorem dR_readHead_4 : decode bR_readHead 4 = .ok (.aload_n 0, 1) := by decide +kernel
theorem dR_readHead_5 : decode bR_readHead 5 = .ok (.aload_n 0, 1) := by decide +kernel
theorem dR_readHead_6 : decode bR_readHead 6 = .ok (.invokevirtual 50, 3) := by decide +kernel
theorem dR_readHead_9 : decode bR_readHead 9 = .ok (.bipush 119, 2) := by decide +kernel
theorem dR_readHead_11 : decode bR_readHead 11 = .ok (.if_icmp .ne 7, 3) := by decide +kernel
theorem dR_readHead_14 : decode bR_readHead 14 = .ok (.iconst 1, 1) := by decide +kernel
theorem dR_readHead_15 : decode bR_readHead 15 = .ok (.goto 4, 3) := by decide +kernel
theorem dR_readHead_18 : decode bR_readHead 18 = .ok (.iconst 0, 1) := by decide +kernel
theorem dR_readHead_19 : decode bR_readHead 19 = .ok (.invokevirtual 54, 3) := by decide +kernel
theorem dR_readHead_22 : decode bR_readHead 22 = .ok (.aload_n 0, 1) := by decide +kernel
theorem dR_readHead_23 : decode bR_readHead 23 = .ok (.invokevirtual 50, 3) := by decide +kernel
theorem dR_readHead_26 : decode bR_readHead 26 = .ok (.istore_n 2, 1) := by decide +kernel
theorem dR_readHead_27 : decode bR_readHead 27 = .ok (.aload_n 0, 1) := by decide +kernel
theorem dR_readHead_28 : decode bR_readHead 28 = .ok (.iload_n 2, 1) := by decide +kernel
theorem dR_readHead_29 : decode bR_readHead 29 = .ok (.bipush 114, 2) := by decide +kernel
theorem dR_readHead_31 : decode bR_readHead 31 = .ok (.if_icmp .eq 9, 3) := by decide +kernel
theorem dR_readHead_34 : decode bR_readHead 34 = .ok (.iload_n 2, 1) := by decide +kernel
theorem dR_readHead_35 : decode bR_readHead 35 = .ok (.bipush 111, 2) := by decide +kernel
theorem dR_readHead_37 : decode bR_readHead 37 = .ok (.if_icmp .ne 7, 3) := by decide +kernel
theorem dR_readHead_40 : decode bR_readHead 40 = .ok (.iconst 1, 1) := by decide +kernel
theorem dR_readHead_41 : decode bR_readHead 41 = .ok (.goto 4, 3) := by decide +kernel
theorem dR_readHead_44 : decode bR_readHead 44 = .ok (.iconst 0, 1) := by decide +kernel
theorem dR_readHead_45 : decode bR_readHead 45 = .ok (.invokevirtual 54, 3) := by decide +kernel
theorem dR_readHead_48 : decode bR_readHead 48 = .ok (.aload_n 1, 1) := by decide +kernel
theorem dR_readHead_49 : decode bR_readHead 49 = .ok (.iload_n 2, 1) := by decide +kernel
theorem dR_readHead_50 : decode bR_readHead 50 = .ok (.bipush 111, 2) := by decide +kernel
theorem dR_readHead_52 : decode bR_readHead 52 = .ok (.if_icmp .ne 7, 3) := by decide +kernel
theorem dR_readHead_55 : decode bR_readHead 55 = .ok (.iconst 1, 1) := by decide +kernel
theorem dR_readHead_56 : decode bR_readHead 56 = .ok (.goto 4, 3) := by decide +kernel
theorem dR_readHead_59 : decode bR_readHead 59 = .ok (.iconst 0, 1) := by decide +kernel
theorem dR_readHead_60 : decode bR_readHead 60 = .ok (.putfield 58, 3) := by decide +kernel
theorem dR_readHead_63 : decode bR_readHead 63 = .ok (.aload_n 1, 1) := by decide +kernel
theorem dR_readHead_64 : decode bR_readHead 64 = .ok (.aload_n 0, 1) := by decide +kernel
theorem dR_readHead_65 : decode bR_readHead 65 = .ok (.iconst 0, 1) := by decide +kernel
theorem dR_readHead_66 : decode bR_readHead 66 = .ok (.iconst 3, 1) := by decide +kernel
theorem dR_readHead_67 : decode bR_readHead 67 = .ok (.invokevirtual 61, 3) := by decide +kernel
theorem dR_readHead_70 : decode bR_readHead 70 = .ok (.putfield 64, 3) := by decide +kernel
theorem dR_readHead_73 : decode bR_readHead 73 = .ok (.aload_n 1, 1) := by decide +kernel
theorem dR_readHead_74 : decode bR_readHead 74 = .ok (.bipush 10, 2) := by decide +kernel
theorem dR_readHead_76 : decode bR_readHead 76 = .ok (.aload_n 0, 1) := by decide +kernel
theorem dR_readHead_77 : decode bR_readHead 77 = .ok (.iconst 0, 1) := by decide +kernel
theorem dR_readHead_78 : decode bR_readHead 78 = .ok (.bipush 9, 2) := by decide +kernel
theorem dR_readHead_80 : decode bR_readHead 80 = .ok (.invokevirtual 61, 3) := by decide +kernel
theorem dR_readHead_83 : decode bR_readHead 83 = .ok (.imul, 1) := by decide +kernel
theorem dR_readHead_84 : decode bR_readHead 84 = .ok (.putfield 67, 3) := by decide +kernel
theorem dR_readHead_87 : decode bR_readHead 87 = .ok (.return_, 1) := by decide +kernel
def f_R_readHead (n : Nat) (c1 : Nat) (s : mb_T) : Option (mb_T) := mb_cw (f_R_skipBlanks n s) fun s_1 => mb_cl (f_R_sign n s_1) fun r_5 s_3 => mb_cw (f_R_take n (if r_5 = 119 then 1 else 0 : Int32) s_3) fun s_8 => mb_cl (f_R_sign n s_8) fun r_12 s_10 => mb_cw (f_R_take n (if r_12 = 114 then 1 else (if r_12 = 111 then 1 else 0 : Int32) : Int32) s_10) fun s_16 => mb_bd (sF s_16 c1 1 (if r_12 = 111 then 1 else 0 : Int32)) fun s_20 => mb_cl (f_R_figure n 0 3 s_20) fun r_24 s_22 => mb_bd (sF s_22 c1 2 r_24) fun s_25 => mb_cl (f_R_figure n 0 9 s_25) fun r_29 s_27 => mb_bd (sF s_27 c1 3 (10 * r_29)) fun s_30 => some s_30
set_option maxHeartbeats 4000000 in
set_option maxRecDepth 100000 in
theorem t_R_readHead {dd n : Nat} {c1 : Nat} {s : mb_T} {out : mb_T} (hc1 : mb_cv c1) (h : f_R_readHead n c1 s = some out) : mb_MC (dd + 3) yR_readHead bR_readHead 3 none [.ref 36, .ref c1] s none out := by
  unfold f_R_readHead at h
  refine mj_mc (lv := [.ref 36, .ref c1, .retAddr 0]) mR_readHead rfl rfl (Nat.le_of_ble_eq_true rfl) (fun K hK hR => ?_)
  have hK : mj_C (dd + 3) 0 0 RR_c "readHead" bR_readHead 3 K := hK
  refine ro_aload_n hK dR_readHead_0 rfl ?_
  obtain ⟨s_1, q_2, h⟩ := mb_cw_e h
  refine rb_callV hK mR_skipBlanks vR_40 (t_R_skipBlanks (dd := dd + 1) q_2) rfl mb_oR rfl (Nat.le_of_ble_eq_true rfl) dR_readHead_1 rfl ⟨Nat.le_refl _, Nat.le_refl _⟩ ?_
  show K 0 0 4 [.ref 36, .ref c1, .retAddr 0] [] (mb_s s_1)
  refine ro_aload_n hK dR_readHead_4 rfl ?_
  refine ro_aload_n hK dR_readHead_5 rfl ?_
  obtain ⟨r_5, s_3, q_4, h⟩ := mb_cl_e h
  refine rb_callV hK mR_sign vR_50 (t_R_sign (dd := dd + 1) q_4) rfl mb_oR rfl (Nat.le_of_ble_eq_true rfl) dR_readHead_6 rfl ⟨Nat.le_refl _, Nat.le_refl _⟩ ?_
  show K 0 0 9 [.ref 36, .ref c1, .retAddr 0] [.int r_5, .ref 36] (mb_s s_3)
  refine ro_bipush (x := 119) hK (by decide) dR_readHead_9 ?_
  have j_7 : ∀ w_ : Int32, w_ = (if r_5 = 119 then 1 else 0 : Int32) → K 0 0 19 [.ref 36, .ref c1, .retAddr 0] [.int w_, .ref 36] (mb_s s_3) → K 0 0 11 [.ref 36, .ref c1, .retAddr 0] [.int 119, .int r_5, .ref 36] (mb_s s_3) := by
    intro w_ hw hj
    refine ro_icmp_ne (tgt := 18) hK dR_readHead_11 (by decide) (fun c_6 => ?_) (fun c_6 => ?_)
    · skip
      refine ro_iconst (x := 0) hK (by decide) dR_readHead_18 ?_
      have hw := (hw.trans (if_neg c_6))
      subst hw
      exact hj
    · skip
      refine ro_iconst (x := 1) hK (by decide) dR_readHead_14 ?_
      refine ro_goto (tgt := 19) hK dR_readHead_15 (by decide) ?_
      have hw := (hw.trans (if_pos c_6))
      subst hw
      exact hj
  refine j_7 _ rfl ?_
  obtain ⟨s_8, q_9, h⟩ := mb_cw_e h
  refine rb_callV hK mR_take vR_54 (t_R_take (dd := dd + 1) q_9) rfl mb_oR rfl (Nat.le_of_ble_eq_true rfl) dR_readHead_19 rfl ⟨Nat.le_refl _, Nat.le_refl _⟩ ?_
  show K 0 0 22 [.ref 36, .ref c1, .retAddr 0] [] (mb_s s_8)
  refine ro_aload_n hK dR_readHead_22 rfl ?_
  obtain ⟨r_12, s_10, q_11, h⟩ := mb_cl_e h
  refine rb_callV hK mR_sign vR_50 (t_R_sign (dd := dd + 1) q_11) rfl mb_oR rfl (Nat.le_of_ble_eq_true rfl) dR_readHead_23 rfl ⟨Nat.le_refl _, Nat.le_refl _⟩ ?_
  show K 0 0 26 [.ref 36, .ref c1, .retAddr 0] [.int r_12] (mb_s s_10)
  refine ro_istore_n hK dR_readHead_26 (by decide) ?_
  show K 0 0 27 [.ref 36, .ref c1, .int r_12] [] (mb_s s_10)
  refine ro_aload_n hK dR_readHead_27 rfl ?_
  refine ro_iload_n hK dR_readHead_28 rfl ?_
  refine ro_bipush (x := 114) hK (by decide) dR_readHead_29 ?_
  have j_15 : ∀ w_ : Int32, w_ = (if r_12 = 114 then 1 else (if r_12 = 111 then 1 else 0 : Int32) : Int32) → K 0 0 45 [.ref 36, .ref c1, .int r_12] [.int w_, .ref 36] (mb_s s_10) → K 0 0 31 [.ref 36, .ref c1, .int r_12] [.int 114, .int r_12, .ref 36] (mb_s s_10) := by
    intro w_ hw hj
    refine ro_icmp_eq (tgt := 40) hK dR_readHead_31 (by decide) (fun c_13 => ?_) (fun c_13 => ?_)
    · skip
      refine ro_iconst (x := 1) hK (by decide) dR_readHead_40 ?_
      refine ro_goto (tgt := 45) hK dR_readHead_41 (by decide) ?_
      have hw := (hw.trans (if_pos c_13))
      subst hw
      exact hj
    · skip
      refine ro_iload_n hK dR_readHead_34 rfl ?_
      refine ro_bipush (x := 111) hK (by decide) dR_readHead_35 ?_
      refine ro_icmp_ne (tgt := 44) hK dR_readHead_37 (by decide) (fun c_14 => ?_) (fun c_14 => ?_)
      · skip
        refine ro_iconst (x := 0) hK (by decide) dR_readHead_44 ?_
        have hw := ((hw.trans (if_neg c_13)).trans (if_neg c_14))
        subst hw
        exact hj
      · skip
        refine ro_iconst (x := 1) hK (by decide) dR_readHead_40 ?_
        refine ro_goto (tgt := 45) hK dR_readHead_41 (by decide) ?_
        have hw := ((hw.trans (if_neg c_13)).trans (if_pos c_14))
        subst hw
        exact hj
  refine j_15 _ rfl ?_
  obtain ⟨s_16, q_17, h⟩ := mb_cw_e h
  refine rb_callV hK mR_take vR_54 (t_R_take (dd := dd + 1) q_17) rfl mb_oR rfl (Nat.le_of_ble_eq_true rfl) dR_readHead_45 rfl ⟨Nat.le_refl _, Nat.le_refl _⟩ ?_
  show K 0 0 48 [.ref 36, .ref c1, .int r_12] [] (mb_s s_16)
  refine ro_aload_n hK dR_readHead_48 rfl ?_
  refine ro_iload_n hK dR_readHead_49 rfl ?_
  refine ro_bipush (x := 111) hK (by decide) dR_readHead_50 ?_
  have j_19 : ∀ w_ : Int32, w_ = (if r_12 = 111 then 1 else 0 : Int32) → K 0 0 60 [.ref 36, .ref c1, .int r_12] [.int w_, .ref c1] (mb_s s_16) → K 0 0 52 [.ref 36, .ref c1, .int r_12] [.int 111, .int r_12, .ref c1] (mb_s s_16) := by
    intro w_ hw hj
    refine ro_icmp_ne (tgt := 59) hK dR_readHead_52 (by decide) (fun c_18 => ?_) (fun c_18 => ?_)
    · skip
      refine ro_iconst (x := 0) hK (by decide) dR_readHead_59 ?_
      have hw := (hw.trans (if_neg c_18))
      subst hw
      exact hj
    · skip
      refine ro_iconst (x := 1) hK (by decide) dR_readHead_55 ?_
      refine ro_goto (tgt := 60) hK dR_readHead_56 (by decide) ?_
      have hw := (hw.trans (if_pos c_18))
      subst hw
      exact hj
  refine j_19 _ rfl ?_
  obtain ⟨s_20, e_21, h⟩ := mb_bd_e h
  refine rb_put hK gR_58 (mb_cvo hc1) (mb_cvs (by decide)) (by show 1 < 13; decide) rfl rfl e_21 dR_readHead_60 ?_
  refine ro_aload_n hK dR_readHead_63 rfl ?_
  refine ro_aload_n hK dR_readHead_64 rfl ?_
  refine ro_iconst (x := 0) hK (by decide) dR_readHead_65 ?_
  refine ro_iconst (x := 3) hK (by decide) dR_readHead_66 ?_
  obtain ⟨r_24, s_22, q_23, h⟩ := mb_cl_e h
  refine rb_callV hK mR_figure vR_61 (t_R_figure (dd := dd + 0) q_23) rfl mb_oR rfl (Nat.le_of_ble_eq_true rfl) dR_readHead_67 rfl ⟨Nat.le_refl _, Nat.le_refl _⟩ ?_
  show K 0 0 70 [.ref 36, .ref c1, .int r_12] [.int r_24, .ref c1] (mb_s s_22)
  obtain ⟨s_25, e_26, h⟩ := mb_bd_e h
  refine rb_put hK gR_64 (mb_cvo hc1) (mb_cvs (by decide)) (by show 2 < 13; decide) rfl rfl e_26 dR_readHead_70 ?_
  refine ro_aload_n hK dR_readHead_73 rfl ?_
  refine ro_bipush (x := 10) hK (by decide) dR_readHead_74 ?_
  refine ro_aload_n hK dR_readHead_76 rfl ?_
  refine ro_iconst (x := 0) hK (by decide) dR_readHead_77 ?_
  refine ro_bipush (x := 9) hK (by decide) dR_readHead_78 ?_
  obtain ⟨r_29, s_27, q_28, h⟩ := mb_cl_e h
  refine rb_callV hK mR_figure vR_61 (t_R_figure (dd := dd + 0) q_28) rfl mb_oR rfl (Nat.le_of_ble_eq_true rfl) dR_readHead_80 rfl ⟨Nat.le_refl _, Nat.le_refl _⟩ ?_
  show K 0 0 83 [.ref 36, .ref c1, .int r_12] [.int r_29, .int 10, .ref c1] (mb_s s_27)
  refine ro_imul hK dR_readHead_83 ?_
  obtain ⟨s_30, e_31, h⟩ := mb_bd_e h
  refine rb_put hK gR_67 (mb_cvo hc1) (mb_cvs (by decide)) (by show 3 < 13; decide) rfl rfl e_31 dR_readHead_84 ?_
  cases h
  exact hR.2.2 0 0 87 _ _ rfl dR_readHead_87 ⟨rfl, rfl⟩
theorem dR_readOne_0 : decode bR_readOne 0 = .ok (.aload_n 0, 1) := by decide +kernel
theorem dR_readOne_1 : decode bR_readOne 1 = .ok (.invokevirtual 50, 3) := by decide +kernel
theorem dR_readOne_4 : decode bR_readOne 4 = .ok (.invokestatic 70, 3) := by decide +kernel
theorem dR_readOne_7 : decode bR_readOne 7 = .ok (.istore_n 3, 1) := by decide +kernel
theorem dR_readOne_8 : decode bR_readOne 8 = .ok (.aload_n 0, 1) := by decide +kernel
theorem dR_readOne_9 : decode bR_readOne 9 = .ok (.iload_n 2, 1) := by decide +kernel
theorem dR_readOne_10 : decode bR_readOne 10 = .ok (.iconst 5, 1) := by decide +kernel
theorem dR_readOne_11 : decode bR_readOne 11 = .ok (.if_icmp .ge 11, 3) := by decide +kernel
theorem dR_readOne_14 : decode bR_readOne 14 = .ok (.iload_n 3, 1) := by decide +kernel
theorem dR_readOne_15 : decode bR_readOne 15 = .ok (.ifCond .lt 7, 3) := by decide +kernel
theorem dR_readOne_18 : decode bR_readOne 18 = .ok (.iconst 1, 1) := by decide +kernel
theorem dR_readOne_19 : decode bR_readOne 19 = .ok (.goto 4, 3) := by decide +kernel
theorem dR_readOne_22 : decode bR_readOne 22 = .ok (.iconst 0, 1) := by decide +kernel
theorem dR_readOne_23 : decode bR_readOne 23 = .ok (.invokevirtual 54, 3) := by decide +kernel
theorem dR_readOne_26 : decode bR_readOne 26 = .ok (.aload_n 0, 1) := by decide +kernel
theorem dR_readOne_27 : decode bR_readOne 27 = .ok (.iconst 0, 1) := by decide +kernel
theorem dR_readOne_28 : decode bR_readOne 28 = .ok (.bipush 9, 2) := by decide +kernel
theorem dR_readOne_30 : decode bR_readOne 30 = .ok (.invokevirtual 61, 3) := by decide +kernel
theorem dR_readOne_33 : decode bR_readOne 33 = .ok (.istore 4, 2) := by decide +kernel
theorem dR_readOne_35 : decode bR_readOne 35 = .ok (.aload_n 0, 1) := by decide +kernel
theorem dR_readOne_36 : decode bR_readOne 36 = .ok (.iconst 0, 1) := by decide +kernel
theorem dR_readOne_37 : decode bR_readOne 37 = .ok (.bipush 9, 2) := by decide +kernel
theorem dR_readOne_39 : decode bR_readOne 39 = .ok (.invokevirtual 61, 3) := by decide +kernel
theorem dR_readOne_42 : decode bR_readOne 42 = .ok (.istore 5, 2) := by decide +kernel
theorem dR_readOne_44 : decode bR_readOne 44 = .ok (.aload_n 0, 1) := by decide +kernel
theorem dR_readOne_45 : decode bR_readOne 45 = .ok (.iconst 0, 1) := by decide +kernel
theorem dR_readOne_46 : decode bR_readOne 46 = .ok (.bipush 9, 2) := by decide +kernel
theorem dR_readOne_48 : decode bR_readOne 48 = .ok (.invokevirtual 61, 3) := by decide +kernel
theorem dR_readOne_51 : decode bR_readOne 51 = .ok (.istore 6, 2) := by decide +kernel
theorem dR_readOne_53 : decode bR_readOne 53 = .ok (.iconst 5, 1) := by decide +kernel
theorem dR_readOne_54 : decode bR_readOne 54 = .ok (.aload_n 0, 1) := by decide +kernel
theorem dR_readOne_55 : decode bR_readOne 55 = .ok (.iconst 1, 1) := by decide +kernel
theorem dR_readOne_56 : decode bR_readOne 56 = .ok (.bipush 9, 2) := by decide +kernel
theorem dR_readOne_58 : decode bR_readOne 58 = .ok (.invokevirtual 61, 3) := by decide +kernel
theorem dR_readOne_61 : decode bR_readOne 61 = .ok (.imul, 1) := by decide +kernel
theorem dR_readOne_62 : decode bR_readOne 62 = .ok (.istore 7, 2) := by decide +kernel
theorem dR_readOne_64 : decode bR_readOne 64 = .ok (.aload_n 0, 1) := by decide +kernel
theorem dR_readOne_65 : decode bR_readOne 65 = .ok (.getfield 28, 3) := by decide +kernel
theorem dR_readOne_68 : decode bR_readOne 68 = .ok (.bipush (-9), 2) := by decide +kernel
theorem dR_readOne_70 : decode bR_readOne 70 = .ok (.if_icmp .ne 54, 3) := by decide +kernel
theorem dR_readOne_73 : decode bR_readOne 73 = .ok (.iload_n 2, 1) := by decide +kernel
theorem dR_readOne_74 : decode bR_readOne 74 = .ok (.iconst 5, 1) := by decide +kernel
theorem dR_readOne_75 : decode bR_readOne 75 = .ok (.if_icmp .ge 49, 3) := by decide +kernel
theorem dR_readOne_78 : decode bR_readOne 78 = .ok (.aload_n 1, 1) := by decide +kernel
theorem dR_readOne_79 : decode bR_readOne 79 = .ok (.getfield 74, 3) := by decide +kernel
theorem dR_readOne_82 : decode bR_readOne 82 = .ok (.iload_n 2, 1) := by decide +kernel
theorem dR_readOne_83 : decode bR_readOne 83 = .ok (.iload_n 3, 1) := by decide +kernel
theorem dR_readOne_84 : decode bR_readOne 84 = .ok (.iastore, 1) := by decide +kernel
theorem dR_readOne_85 : decode bR_readOne 85 = .ok (.aload_n 1, 1) := by decide +kernel
theorem dR_readOne_86 : decode bR_readOne 86 = .ok (.getfield 78, 3) := by decide +kernel
theorem dR_readOne_89 : decode bR_readOne 89 = .ok (.iload_n 2, 1) := by decide +kernel
theorem dR_readOne_90 : decode bR_readOne 90 = .ok (.iload 4, 2) := by decide +kernel
theorem dR_readOne_92 : decode bR_readOne 92 = .ok (.iastore, 1) := by decide +kernel
theorem dR_readOne_93 : decode bR_readOne 93 = .ok (.aload_n 1, 1) := by decide +kernel
theorem dR_readOne_94 : decode bR_readOne 94 = .ok (.getfield 81, 3) := by decide +kernel
theorem dR_readOne_97 : decode bR_readOne 97 = .ok (.iload_n 2, 1) := by decide +kernel
theorem dR_readOne_98 : decode bR_readOne 98 = .ok (.iload 5, 2) := by decide +kernel
theorem dR_readOne_100 : decode bR_readOne 100 = .ok (.iastore, 1) := by decide +kernel
theorem dR_readOne_101 : decode bR_readOne 101 = .ok (.aload_n 1, 1) := by decide +kernel
theorem dR_readOne_102 : decode bR_readOne 102 = .ok (.getfield 84, 3) := by decide +kernel
theorem dR_readOne_105 : decode bR_readOne 105 = .ok (.iload_n 2, 1) := by decide +kernel
theorem dR_readOne_106 : decode bR_readOne 106 = .ok (.iload 6, 2) := by decide +kernel
theorem dR_readOne_108 : decode bR_readOne 108 = .ok (.iastore, 1) := by decide +kernel
theorem dR_readOne_109 : decode bR_readOne 109 = .ok (.aload_n 1, 1) := by decide +kernel
theorem dR_readOne_110 : decode bR_readOne 110 = .ok (.getfield 87, 3) := by decide +kernel
theorem dR_readOne_113 : decode bR_readOne 113 = .ok (.iload_n 2, 1) := by decide +kernel
theorem dR_readOne_114 : decode bR_readOne 114 = .ok (.iload 7, 2) := by decide +kernel
theorem dR_readOne_116 : decode bR_readOne 116 = .ok (.iastore, 1) := by decide +kernel
theorem dR_readOne_117 : decode bR_readOne 117 = .ok (.aload_n 1, 1) := by decide +kernel
theorem dR_readOne_118 : decode bR_readOne 118 = .ok (.iload_n 2, 1) := by decide +kernel
theorem dR_readOne_119 : decode bR_readOne 119 = .ok (.iconst 1, 1) := by decide +kernel
theorem dR_readOne_120 : decode bR_readOne 120 = .ok (.iadd, 1) := by decide +kernel
theorem dR_readOne_121 : decode bR_readOne 121 = .ok (.putfield 47, 3) := by decide +kernel
theorem dR_readOne_124 : decode bR_readOne 124 = .ok (.return_, 1) := by decide +kernel
def f_R_readOne (n : Nat) (c1 : Nat) (x2 : Int32) (s : mb_T) : Option (mb_T) := mb_cl (f_R_sign n s) fun r_3 s_1 => mb_cl (f_R_kindOf n r_3 s_1) fun r_6 s_4 => mb_cw (f_R_take n (if 5 ≤ x2 then 0 else (if r_6 < 0 then 0 else 1 : Int32) : Int32) s_4) fun s_10 => mb_cl (f_R_figure n 0 9 s_10) fun r_14 s_12 => mb_cl (f_R_figure n 0 9 s_12) fun r_17 s_15 => mb_cl (f_R_figure n 0 9 s_15) fun r_20 s_18 => mb_cl (f_R_figure n 1 9 s_18) fun r_23 s_21 => if (s_21.1 36 3) = (-9) then (if 5 ≤ x2 then some s_21 else mb_wr s_21 (c1 + 5) 5 x2 r_6 fun s_26 => mb_wr s_26 (c1 + 6) 5 x2 r_14 fun s_29 => mb_wr s_29 (c1 + 7) 5 x2 r_17 fun s_32 => mb_wr s_32 (c1 + 8) 5 x2 r_20 fun s_35 => mb_wr s_35 (c1 + 9) 5 x2 (5 * r_23) fun s_38 => mb_bd (sF s_38 c1 0 (x2 + 1)) fun s_41 => some s_41) else some s_21
set_option maxHeartbeats 4000000 in
set_option maxRecDepth 100000 in
theorem t_R_readOne {dd n : Nat} {c1 : Nat} {x2 : Int32} {s : mb_T} {out : mb_T} (hc1 : mb_cv c1) (h : f_R_readOne n c1 x2 s = some out) : mb_MC (dd + 3) yR_readOne bR_readOne 8 none [.ref 36, .ref c1, .int x2] s none out := by
  unfold f_R_readOne at h
  refine mj_mc (lv := [.ref 36, .ref c1, .int x2, .retAddr 0, .retAddr 0, .retAddr 0, .retAddr 0, .retAddr 0]) mR_readOne rfl rfl (Nat.le_of_ble_eq_true rfl) (fun K hK hR => ?_)
  have hK : mj_C (dd + 3) 0 0 RR_c "readOne" bR_readOne 8 K := hK
  refine ro_aload_n hK dR_readOne_0 rfl ?_
  obtain ⟨r_3, s_1, q_2, h⟩ := mb_cl_e h
  refine rb_callV hK mR_sign vR_50 (t_R_sign (dd := dd + 1) q_2) rfl mb_oR rfl (Nat.le_of_ble_eq_true rfl) dR_readOne_1 rfl ⟨Nat.le_refl _, Nat.le_refl _⟩ ?_
  show K 0 0 4 [.ref 36, .ref c1, .int x2, .retAddr 0, .retAddr 0, .retAddr 0, .retAddr 0, .retAddr 0] [.int r_3] (mb_s s_1)
  obtain ⟨r_6, s_4, q_5, h⟩ := mb_cl_e h
  refine rb_callS hK mR_kindOf vR_70 (t_R_kindOf (dd := dd + 1) q_5) rfl (Nat.le_of_ble_eq_true rfl) dR_readOne_4 rfl ⟨Nat.le_refl _, Nat.le_refl _⟩ ?_
  show K 0 0 7 [.ref 36, .ref c1, .int x2, .retAddr 0, .retAddr 0, .retAddr 0, .retAddr 0, .retAddr 0] [.int r_6] (mb_s s_4)
  refine ro_istore_n hK dR_readOne_7 (by decide) ?_
  show K 0 0 8 [.ref 36, .ref c1, .int x2, .int r_6, .retAddr 0, .retAddr 0, .retAddr 0, .retAddr 0] [] (mb_s s_4)
  refine ro_aload_n hK dR_readOne_8 rfl ?_
  refine ro_iload_n hK dR_readOne_9 rfl ?_
  refine ro_iconst (x := 5) hK (by decide) dR_readOne_10 ?_
  have j_9 : ∀ w_ : Int32, w_ = (if 5 ≤ x2 then 0 else (if r_6 < 0 then 0 else 1 : Int32) : Int32) → K 0 0 23 [.ref 36, .ref c1, .int x2, .int r_6, .retAddr 0, .retAddr 0, .retAddr 0, .retAddr 0] [.int w_, .ref 36] (mb_s s_4) → K 0 0 11 [.ref 36, .ref c1, .int x2, .int r_6, .retAddr 0, .retAddr 0, .retAddr 0, .retAddr 0] [.int 5, .int x2, .ref 36] (mb_s s_4) := by
    intro w_ hw hj
    refine ro_icmp_ge (tgt := 22) hK dR_readOne_11 (by decide) (fun c_7 => ?_) (fun c_7 => ?_)
    · skip
      refine ro_iconst (x := 0) hK (by decide) dR_readOne_22 ?_
      have hw := (hw.trans (if_pos c_7))
      subst hw
      exact hj
    · skip
      refine ro_iload_n hK dR_readOne_14 rfl ?_
      refine ro_if_lt (tgt := 22) hK dR_readOne_15 (by decide) (fun c_8 => ?_) (fun c_8 => ?_)
      · skip
        refine ro_iconst (x := 0) hK (by decide) dR_readOne_22 ?_
        have hw := ((hw.trans (if_neg c_7)).trans (if_pos c_8))
        subst hw
        exact hj
      · skip
        refine ro_iconst (x := 1) hK (by decide) dR_readOne_18 ?_
        refine ro_goto (tgt := 23) hK dR_readOne_19 (by decide) ?_
        have hw := ((hw.trans (if_neg c_7)).trans (if_neg c_8))
        subst hw
        exact hj
  refine j_9 _ rfl ?_
  obtain ⟨s_10, q_11, h⟩ := mb_cw_e h
  refine rb_callV hK mR_take vR_54 (t_R_take (dd := dd + 1) q_11) rfl mb_oR rfl (Nat.le_of_ble_eq_true rfl) dR_readOne_23 rfl ⟨Nat.le_refl _, Nat.le_refl _⟩ ?_
  show K 0 0 26 [.ref 36, .ref c1, .int x2, .int r_6, .retAddr 0, .retAddr 0, .retAddr 0, .retAddr 0] [] (mb_s s_10)
  refine ro_aload_n hK dR_readOne_26 rfl ?_
  refine ro_iconst (x := 0) hK (by decide) dR_readOne_27 ?_
  refine ro_bipush (x := 9) hK (by decide) dR_readOne_28 ?_
  obtain ⟨r_14, s_12, q_13, h⟩ := mb_cl_e h
  refine rb_callV hK mR_figure vR_61 (t_R_figure (dd := dd + 0) q_13) rfl mb_oR rfl (Nat.le_of_ble_eq_true rfl) dR_readOne_30 rfl ⟨Nat.le_refl _, Nat.le_refl _⟩ ?_
  show K 0 0 33 [.ref 36, .ref c1, .int x2, .int r_6, .retAddr 0, .retAddr 0, .retAddr 0, .retAddr 0] [.int r_14] (mb_s s_12)
  refine ro_istore hK dR_readOne_33 (by decide) ?_
  show K 0 0 35 [.ref 36, .ref c1, .int x2, .int r_6, .int r_14, .retAddr 0, .retAddr 0, .retAddr 0] [] (mb_s s_12)
  refine ro_aload_n hK dR_readOne_35 rfl ?_
  refine ro_iconst (x := 0) hK (by decide) dR_readOne_36 ?_
  refine ro_bipush (x := 9) hK (by decide) dR_readOne_37 ?_
  obtain ⟨r_17, s_15, q_16, h⟩ := mb_cl_e h
  refine rb_callV hK mR_figure vR_61 (t_R_figure (dd := dd + 0) q_16) rfl mb_oR rfl (Nat.le_of_ble_eq_true rfl) dR_readOne_39 rfl ⟨Nat.le_refl _, Nat.le_refl _⟩ ?_
  show K 0 0 42 [.ref 36, .ref c1, .int x2, .int r_6, .int r_14, .retAddr 0, .retAddr 0, .retAddr 0] [.int r_17] (mb_s s_15)
  refine ro_istore hK dR_readOne_42 (by decide) ?_
  show K 0 0 44 [.ref 36, .ref c1, .int x2, .int r_6, .int r_14, .int r_17, .retAddr 0, .retAddr 0] [] (mb_s s_15)
  refine ro_aload_n hK dR_readOne_44 rfl ?_
  refine ro_iconst (x := 0) hK (by decide) dR_readOne_45 ?_
  refine ro_bipush (x := 9) hK (by decide) dR_readOne_46 ?_
  obtain ⟨r_20, s_18, q_19, h⟩ := mb_cl_e h
  refine rb_callV hK mR_figure vR_61 (t_R_figure (dd := dd + 0) q_19) rfl mb_oR rfl (Nat.le_of_ble_eq_true rfl) dR_readOne_48 rfl ⟨Nat.le_refl _, Nat.le_refl _⟩ ?_
  show K 0 0 51 [.ref 36, .ref c1, .int x2, .int r_6, .int r_14, .int r_17, .retAddr 0, .retAddr 0] [.int r_20] (mb_s s_18)
  refine ro_istore hK dR_readOne_51 (by decide) ?_
  show K 0 0 53 [.ref 36, .ref c1, .int x2, .int r_6, .int r_14, .int r_17, .int r_20, .retAddr 0] [] (mb_s s_18)
  refine ro_iconst (x := 5) hK (by decide) dR_readOne_53 ?_
  refine ro_aload_n hK dR_readOne_54 rfl ?_
  refine ro_iconst (x := 1) hK (by decide) dR_readOne_55 ?_
  refine ro_bipush (x := 9) hK (by decide) dR_readOne_56 ?_
  obtain ⟨r_23, s_21, q_22, h⟩ := mb_cl_e h
  refine rb_callV hK mR_figure vR_61 (t_R_figure (dd := dd + 0) q_22) rfl mb_oR rfl (Nat.le_of_ble_eq_true rfl) dR_readOne_58 rfl ⟨Nat.le_refl _, Nat.le_refl _⟩ ?_
  show K 0 0 61 [.ref 36, .ref c1, .int x2, .int r_6, .int r_14, .int r_17, .int r_20, .retAddr 0] [.int r_23, .int 5] (mb_s s_21)
  refine ro_imul hK dR_readOne_61 ?_
  refine ro_istore hK dR_readOne_62 (by decide) ?_
  show K 0 0 64 [.ref 36, .ref c1, .int x2, .int r_6, .int r_14, .int r_17, .int r_20, .int (5 * r_23)] [] (mb_s s_21)
  refine ro_aload_n hK dR_readOne_64 rfl ?_
  refine rb_get hK fR_28 mb_oR rfl dR_readOne_65 ?_
  refine ro_bipush (x := (-9)) hK (by decide) dR_readOne_68 ?_
  refine ro_icmp_ne (tgt := 124) hK dR_readOne_70 (by decide) (fun c_24 => ?_) (fun c_24 => ?_)
  · replace h := mb_iff c_24 h
    cases h
    exact hR.2.2 0 0 124 _ _ rfl dR_readOne_124 ⟨rfl, rfl⟩
  · replace h := mb_ift c_24 h
    refine ro_iload_n hK dR_readOne_73 rfl ?_
    refine ro_iconst (x := 5) hK (by decide) dR_readOne_74 ?_
    refine ro_icmp_ge (tgt := 124) hK dR_readOne_75 (by decide) (fun c_25 => ?_) (fun c_25 => ?_)
    · replace h := mb_ift c_25 h
      cases h
      exact hR.2.2 0 0 124 _ _ rfl dR_readOne_124 ⟨rfl, rfl⟩
    · replace h := mb_iff c_25 h
      refine ro_aload_n hK dR_readOne_78 rfl ?_
      refine rb_get hK fR_74 (mb_cvo hc1) rfl dR_readOne_79 ?_
      refine ro_iload_n hK dR_readOne_82 rfl ?_
      refine ro_iload_n hK dR_readOne_83 rfl ?_
      obtain ⟨s_26, e_27, i_28, h⟩ := mb_wr_e h
      refine rb_iast hK (mb_cv5 hc1) i_28 e_27 dR_readOne_84 ?_
      refine ro_aload_n hK dR_readOne_85 rfl ?_
      refine rb_get hK fR_78 (mb_cvo hc1) rfl dR_readOne_86 ?_
      refine ro_iload_n hK dR_readOne_89 rfl ?_
      refine ro_iload hK dR_readOne_90 rfl ?_
      obtain ⟨s_29, e_30, i_31, h⟩ := mb_wr_e h
      refine rb_iast hK (mb_cv6 hc1) i_31 e_30 dR_readOne_92 ?_
      refine ro_aload_n hK dR_readOne_93 rfl ?_
      refine rb_get hK fR_81 (mb_cvo hc1) rfl dR_readOne_94 ?_
      refine ro_iload_n hK dR_readOne_97 rfl ?_
      refine ro_iload hK dR_readOne_98 rfl ?_
      obtain ⟨s_32, e_33, i_34, h⟩ := mb_wr_e h
      refine rb_iast hK (mb_cv7 hc1) i_34 e_33 dR_readOne_100 ?_
      refine ro_aload_n hK dR_readOne_101 rfl ?_
      refine rb_get hK fR_84 (mb_cvo hc1) rfl dR_readOne_102 ?_
      refine ro_iload_n hK dR_readOne_105 rfl ?_
      refine ro_iload hK dR_readOne_106 rfl ?_
      obtain ⟨s_35, e_36, i_37, h⟩ := mb_wr_e h
      refine rb_iast hK (mb_cv8 hc1) i_37 e_36 dR_readOne_108 ?_
      refine ro_aload_n hK dR_readOne_109 rfl ?_
      refine rb_get hK fR_87 (mb_cvo hc1) rfl dR_readOne_110 ?_
      refine ro_iload_n hK dR_readOne_113 rfl ?_
      refine ro_iload hK dR_readOne_114 rfl ?_
      obtain ⟨s_38, e_39, i_40, h⟩ := mb_wr_e h
      refine rb_iast hK (mb_cv9 hc1) i_40 e_39 dR_readOne_116 ?_
      refine ro_aload_n hK dR_readOne_117 rfl ?_
      refine ro_iload_n hK dR_readOne_118 rfl ?_
      refine ro_iconst (x := 1) hK (by decide) dR_readOne_119 ?_
      refine ro_iadd hK dR_readOne_120 ?_
      obtain ⟨s_41, e_42, h⟩ := mb_bd_e h
      refine rb_put hK gR_47 (mb_cvo hc1) (mb_cvs (by decide)) (by show 0 < 13; decide) rfl rfl e_42 dR_readOne_121 ?_
      cases h
      exact hR.2.2 0 0 124 _ _ rfl dR_readOne_124 ⟨rfl, rfl⟩
theorem dS_weigh_0 : decode bS_weigh 0 = .ok (.aload_n 1, 1) := by decide +kernel
theorem dS_weigh_1 : decode bS_weigh 1 = .ok (.invokevirtual 71, 3) := by decide +kernel
theorem dS_weigh_4 : decode bS_weigh 4 = .ok (.istore_n 3, 1) := by decide +kernel
theorem dS_weigh_5 : decode bS_weigh 5 = .ok (.aload_n 0, 1) := by decide +kernel
theorem dS_weigh_6 : decode bS_weigh 6 = .ok (.getfield 18, 3) := by decide +kernel
theorem dS_weigh_9 : decode bS_weigh 9 = .ok (.ifCond .eq 19, 3) := by decide +kernel
theorem dS_weigh_12 : decode bS_weigh 12 = .ok (.iload_n 2, 1) := by decide +kernel
theorem dS_weigh_13 : decode bS_weigh 13 = .ok (.aload_n 0, 1) := by decide +kernel
theorem dS_weigh_14 : decode bS_weigh 14 = .ok (.getfield 26, 3) := by decide +kernel
theorem dS_weigh_17 : decode bS_weigh 17 = .ok (.if_icmp .le 7, 3) := by decide +kernel
theorem dS_weigh_20 : decode bS_weigh 20 = .ok (.iconst 1, 1) := by decide +kernel
theorem dS_weigh_21 : decode bS_weigh 21 = .ok (.goto 28, 3) := by decide +kernel
theorem dS_weigh_24 : decode bS_weigh 24 = .ok (.iconst 0, 1) := by decide +kernel
theorem dS_weigh_25 : decode bS_weigh 25 = .ok (.goto 24, 3) := by decide +kernel
theorem dS_weigh_28 : decode bS_weigh 28 = .ok (.iload_n 2, 1) := by decide +kernel
theorem dS_weigh_29 : decode bS_weigh 29 = .ok (.aload_n 0, 1) := by decide +kernel
theorem dS_weigh_30 : decode bS_weigh 30 = .ok (.getfield 22, 3) := by decide +kernel
theorem dS_weigh_33 : decode bS_weigh 33 = .ok (.if_icmp .ne 15, 3) := by decide +kernel
theorem dS_weigh_36 : decode bS_weigh 36 = .ok (.iload_n 3, 1) := by decide +kernel
theorem dS_weigh_37 : decode bS_weigh 37 = .ok (.aload_n 0, 1) := by decide +kernel
theorem dS_weigh_38 : decode bS_weigh 38 = .ok (.getfield 39, 3) := by decide +kernel
theorem dS_weigh_41 : decode bS_weigh 41 = .ok (.if_icmp .ge 7, 3) := by decide +kernel
theorem dS_weigh_44 : decode bS_weigh 44 = .ok (.iconst 1, 1) := by decide +kernel
theorem dS_weigh_45 : decode bS_weigh 45 = .ok (.goto 4, 3) := by decide +kernel
theorem dS_weigh_48 : decode bS_weigh 48 = .ok (.iconst 0, 1) := by decide +kernel
theorem dS_weigh_49 : decode bS_weigh 49 = .ok (.istore 4, 2) := by decide +kernel
theorem dS_weigh_51 : decode bS_weigh 51 = .ok (.iload 4, 2) := by decide +kernel
theorem dS_weigh_53 : decode bS_weigh 53 = .ok (.ifCond .eq 27, 3) := by decide +kernel
theorem dS_weigh_56 : decode bS_weigh 56 = .ok (.aload_n 0, 1) := by decide +kernel
theorem dS_weigh_57 : decode bS_weigh 57 = .ok (.iload_n 2, 1) := by decide +kernel
theorem dS_weigh_58 : decode bS_weigh 58 = .ok (.putfield 26, 3) := by decide +kernel
theorem dS_weigh_61 : decode bS_weigh 61 = .ok (.aload_n 0, 1) := by decide +kernel
theorem dS_weigh_62 : decode bS_weigh 62 = .ok (.iload_n 3, 1) := by decide +kernel
theorem dS_weigh_63 : decode bS_weigh 63 = .ok (.putfield 39, 3) := by decide +kernel
theorem dS_weigh_66 : decode bS_weigh 66 = .ok (.aload_n 0, 1) := by decide +kernel
theorem dS_weigh_67 : decode bS_weigh 67 = .ok (.getfield 9, 3) := by decide +kernel
theorem dS_weigh_70 : decode bS_weigh 70 = .ok (.iconst 0, 1) := by decide +kernel
theorem dS_weigh_71 : decode bS_weigh 71 = .ok (.aload_n 0, 1) := by decide +kernel
theorem dS_weigh_72 : decode bS_weigh 72 = .ok (.getfield 15, 3) := by decide +kernel
theorem dS_weigh_75 : decode bS_weigh 75 = .ok (.iconst 0, 1) := by decide +kernel
theorem dS_weigh_76 : decode bS_weigh 76 = .ok (.iload_n 2, 1) := by decide +kernel
theorem dS_weigh_77 : decode bS_weigh 77 = .ok (.invokestatic 75, 3) := by decide +kernel
theorem dS_weigh_80 : decode bS_weigh 80 = .ok (.return_, 1) := by decide +kernel
def f_S_weigh (n : Nat) (x2 : Int32) (s : mb_T) : Option (mb_T) := mb_cl (f_A_greatestFear n s) fun r_3 s_1 => if (if (s_1.1 60 1) = 0 then (if x2 = (s_1.1 60 2) then (if (s_1.1 60 5) ≤ r_3 then 0 else 1 : Int32) else 0 : Int32) else (if x2 ≤ (s_1.1 60 4) then 0 else 1 : Int32) : Int32) = 0 then some s_1 else mb_bd (sF s_1 60 4 x2) fun s_10 => mb_bd (sF s_10 60 5 r_3) fun s_12 => mb_cp s_12 61 6 64 6 0 0 x2 fun s_14 => some s_14
set_option maxHeartbeats 4000000 in
set_option maxRecDepth 100000 in
theorem t_S_weigh {dd n : Nat} {x2 : Int32} {s : mb_T} {out : mb_T}  (h : f_S_weigh n x2 s = some out) : mb_MC (dd + 3) yS_weigh bS_weigh 5 none [.ref 60, .ref 40, .int x2] s none out := by
  unfold f_S_weigh at h
  refine mj_mc (lv := [.ref 60, .ref 40, .int x2, .retAddr 0, .retAddr 0]) mS_weigh rfl rfl (Nat.le_of_ble_eq_true rfl) (fun K hK hR => ?_)
  have hK : mj_C (dd + 3) 0 0 RS_c "weigh" bS_weigh 5 K := hK
  refine ro_aload_n hK dS_weigh_0 rfl ?_
  obtain ⟨r_3, s_1, q_2, h⟩ := mb_cl_e h
  refine rb_callV hK mA_greatestFear vS_71 (t_A_greatestFear (dd := dd + 0) q_2) rfl mb_oA rfl (Nat.le_of_ble_eq_true rfl) dS_weigh_1 rfl ⟨Nat.le_refl _, Nat.le_refl _⟩ ?_
  show K 0 0 4 [.ref 60, .ref 40, .int x2, .retAddr 0, .retAddr 0] [.int r_3] (mb_s s_1)
  refine ro_istore_n hK dS_weigh_4 (by decide) ?_
  show K 0 0 5 [.ref 60, .ref 40, .int x2, .int r_3, .retAddr 0] [] (mb_s s_1)
  refine ro_aload_n hK dS_weigh_5 rfl ?_
  refine rb_get hK fS_18 mb_oS rfl dS_weigh_6 ?_
  have j_8 : ∀ w_ : Int32, w_ = (if (s_1.1 60 1) = 0 then (if x2 = (s_1.1 60 2) then (if (s_1.1 60 5) ≤ r_3 then 0 else 1 : Int32) else 0 : Int32) else (if x2 ≤ (s_1.1 60 4) then 0 else 1 : Int32) : Int32) → K 0 0 49 [.ref 60, .ref 40, .int x2, .int r_3, .retAddr 0] [.int w_] (mb_s s_1) → K 0 0 9 [.ref 60, .ref 40, .int x2, .int r_3, .retAddr 0] [.int (s_1.1 60 1)] (mb_s s_1) := by
    intro w_ hw hj
    refine ro_if_eq (tgt := 28) hK dS_weigh_9 (by decide) (fun c_4 => ?_) (fun c_4 => ?_)
    · skip
      refine ro_iload_n hK dS_weigh_28 rfl ?_
      refine ro_aload_n hK dS_weigh_29 rfl ?_
      refine rb_get hK fS_22 mb_oS rfl dS_weigh_30 ?_
      refine ro_icmp_ne (tgt := 48) hK dS_weigh_33 (by decide) (fun c_5 => ?_) (fun c_5 => ?_)
      · skip
        refine ro_iconst (x := 0) hK (by decide) dS_weigh_48 ?_
        have hw := ((hw.trans (if_pos c_4)).trans (if_neg c_5))
        subst hw
        exact hj
      · skip
        refine ro_iload_n hK dS_weigh_36 rfl ?_
        refine ro_aload_n hK dS_weigh_37 rfl ?_
        refine rb_get hK fS_39 mb_oS rfl dS_weigh_38 ?_
        refine ro_icmp_ge (tgt := 48) hK dS_weigh_41 (by decide) (fun c_6 => ?_) (fun c_6 => ?_)
        · skip
          refine ro_iconst (x := 0) hK (by decide) dS_weigh_48 ?_
          have hw := (((hw.trans (if_pos c_4)).trans (if_pos c_5)).trans (if_pos c_6))
          subst hw
          exact hj
        · skip
          refine ro_iconst (x := 1) hK (by decide) dS_weigh_44 ?_
          refine ro_goto (tgt := 49) hK dS_weigh_45 (by decide) ?_
          have hw := (((hw.trans (if_pos c_4)).trans (if_pos c_5)).trans (if_neg c_6))
          subst hw
          exact hj
    · skip
      refine ro_iload_n hK dS_weigh_12 rfl ?_
      refine ro_aload_n hK dS_weigh_13 rfl ?_
      refine rb_get hK fS_26 mb_oS rfl dS_weigh_14 ?_
      refine ro_icmp_le (tgt := 24) hK dS_weigh_17 (by decide) (fun c_7 => ?_) (fun c_7 => ?_)
      · skip
        refine ro_iconst (x := 0) hK (by decide) dS_weigh_24 ?_
        refine ro_goto (tgt := 49) hK dS_weigh_25 (by decide) ?_
        have hw := ((hw.trans (if_neg c_4)).trans (if_pos c_7))
        subst hw
        exact hj
      · skip
        refine ro_iconst (x := 1) hK (by decide) dS_weigh_20 ?_
        refine ro_goto (tgt := 49) hK dS_weigh_21 (by decide) ?_
        have hw := ((hw.trans (if_neg c_4)).trans (if_neg c_7))
        subst hw
        exact hj
  refine j_8 _ rfl ?_
  refine ro_istore hK dS_weigh_49 (by decide) ?_
  show K 0 0 51 [.ref 60, .ref 40, .int x2, .int r_3, .int (if (s_1.1 60 1) = 0 then (if x2 = (s_1.1 60 2) then (if (s_1.1 60 5) ≤ r_3 then 0 else 1 : Int32) else 0 : Int32) else (if x2 ≤ (s_1.1 60 4) then 0 else 1 : Int32) : Int32)] [] (mb_s s_1)
  refine ro_iload hK dS_weigh_51 rfl ?_
  refine ro_if_eq (tgt := 80) hK dS_weigh_53 (by decide) (fun c_9 => ?_) (fun c_9 => ?_)
  · replace h := mb_ift c_9 h
    cases h
    exact hR.2.2 0 0 80 _ _ rfl dS_weigh_80 ⟨rfl, rfl⟩
  · replace h := mb_iff c_9 h
    refine ro_aload_n hK dS_weigh_56 rfl ?_
    refine ro_iload_n hK dS_weigh_57 rfl ?_
    obtain ⟨s_10, e_11, h⟩ := mb_bd_e h
    refine rb_put hK gS_26 mb_oS rfl (by show 4 < 6; decide) rfl rfl e_11 dS_weigh_58 ?_
    refine ro_aload_n hK dS_weigh_61 rfl ?_
    refine ro_iload_n hK dS_weigh_62 rfl ?_
    obtain ⟨s_12, e_13, h⟩ := mb_bd_e h
    refine rb_put hK gS_39 mb_oS rfl (by show 5 < 6; decide) rfl rfl e_13 dS_weigh_63 ?_
    refine ro_aload_n hK dS_weigh_66 rfl ?_
    refine rb_get hK fS_9 mb_oS rfl dS_weigh_67 ?_
    refine ro_iconst (x := 0) hK (by decide) dS_weigh_70 ?_
    refine ro_aload_n hK dS_weigh_71 rfl ?_
    refine rb_get hK fS_15 mb_oS rfl dS_weigh_72 ?_
    refine ro_iconst (x := 0) hK (by decide) dS_weigh_75 ?_
    refine ro_iload_n hK dS_weigh_76 rfl ?_
    obtain ⟨s_14, e_15, i_16, h⟩ := mb_cp_e h
    refine rb_copy hK vS_75 (by omega) (Nat.le_of_ble_eq_true rfl) ai_61 ai_64 i_16 e_15 dS_weigh_77 ?_
    cases h
    exact hR.2.2 0 0 80 _ _ rfl dS_weigh_80 ⟨rfl, rfl⟩
theorem dM_askedRow_0 : decode bM_askedRow 0 = .ok (.iload_n 1, 1) := by decide +kernel
theorem dM_askedRow_1 : decode bM_askedRow 1 = .ok (.invokestatic 96, 3) := by decide +kernel
theorem dM_askedRow_4 : decode bM_askedRow 4 = .ok (.ifCond .ne 7, 3) := by decide +kernel
theorem dM_askedRow_7 : decode bM_askedRow 7 = .ok (.iconst (-1), 1) := by decide +kernel
theorem dM_askedRow_8 : decode bM_askedRow 8 = .ok (.goto 21, 3) := by decide +kernel
theorem dM_askedRow_11 : decode bM_askedRow 11 = .ok (.aload_n 0, 1) := by decide +kernel
theorem dM_askedRow_12 : decode bM_askedRow 12 = .ok (.getfield 13, 3) := by decide +kernel
theorem dM_askedRow_15 : decode bM_askedRow 15 = .ok (.iload_n 1, 1) := by decide +kernel
theorem dM_askedRow_16 : decode bM_askedRow 16 = .ok (.iaload, 1) := by decide +kernel
theorem dM_askedRow_17 : decode bM_askedRow 17 = .ok (.ifCond .ge 11, 3) := by decide +kernel
theorem dM_askedRow_20 : decode bM_askedRow 20 = .ok (.aload_n 0, 1) := by decide +kernel
theorem dM_askedRow_21 : decode bM_askedRow 21 = .ok (.iconst 1, 1) := by decide +kernel
theorem dM_askedRow_22 : decode bM_askedRow 22 = .ok (.invokevirtual 100, 3) := by decide +kernel
theorem dM_askedRow_25 : decode bM_askedRow 25 = .ok (.goto 4, 3) := by decide +kernel
theorem dM_askedRow_28 : decode bM_askedRow 28 = .ok (.iconst 0, 1) := by decide +kernel
theorem dM_askedRow_29 : decode bM_askedRow 29 = .ok (.ireturn, 1) := by decide +kernel
def f_M_askedRow (n : Nat) (x1 : Int32) (s : mb_T) : Option (Int32 × mb_T) := mb_cl (f_M_isRow n x1 s) fun r_3 s_1 => if r_3 = 0 then some ((-1), s_1) else mb_rd s_1 203 6 x1 fun x_5 => if 0 ≤ x_5 then some (0, s_1) else mb_cl (f_M_meet n 1 s_1) fun r_11 s_9 => some (r_11, s_9)
set_option maxHeartbeats 4000000 in
set_option maxRecDepth 100000 in
theorem t_M_askedRow {dd n : Nat} {x1 : Int32} {s : mb_T} {out : Int32 × mb_T}  (h : f_M_askedRow n x1 s = some out) : mb_MC (dd + 3) yM_askedRow bM_askedRow 2 (some .int) [.ref 200, .int x1] s (some (.int out.1)) out.2 := by
  unfold f_M_askedRow at h
  refine mj_mc (lv := [.ref 200, .int x1]) mM_askedRow rfl rfl (Nat.le_of_ble_eq_true rfl) (fun K hK hR => ?_)
  have hK : mj_C (dd + 3) 0 0 RM_c "askedRow" bM_askedRow 2 K := hK
  refine ro_iload_n hK dM_askedRow_0 rfl ?_
  obtain ⟨r_3, s_1, q_2, h⟩ := mb_cl_e h
  refine rb_callS hK mM_isRow vM_96 (t_M_isRow (dd := dd + 0) q_2) rfl (Nat.le_of_ble_eq_true rfl) dM_askedRow_1 rfl ⟨Nat.le_refl _, Nat.le_refl _⟩ ?_
  show K 0 0 4 [.ref 200, .int x1] [.int r_3] (mb_s s_1)
  refine ro_if_ne (tgt := 11) hK dM_askedRow_4 (by decide) (fun c_4 => ?_) (fun c_4 => ?_)
  · replace h := mb_iff c_4 h
    refine ro_aload_n hK dM_askedRow_11 rfl ?_
    refine rb_get hK fM_13 mb_oM rfl dM_askedRow_12 ?_
    refine ro_iload_n hK dM_askedRow_15 rfl ?_
    obtain ⟨x_5, e_6, i_7, h⟩ := mb_rd_e h
    refine rb_iald hK ai_203 i_7 e_6 dM_askedRow_16 ?_
    refine ro_if_ge (tgt := 28) hK dM_askedRow_17 (by decide) (fun c_8 => ?_) (fun c_8 => ?_)
    · replace h := mb_ift c_8 h
      refine ro_iconst (x := 0) hK (by decide) dM_askedRow_28 ?_
      cases h
      exact hR.1 0 0 29 _ _ _ _ rfl rfl dM_askedRow_29 ⟨rfl, rfl⟩
    · replace h := mb_iff c_8 h
      refine ro_aload_n hK dM_askedRow_20 rfl ?_
      refine ro_iconst (x := 1) hK (by decide) dM_askedRow_21 ?_
      obtain ⟨r_11, s_9, q_10, h⟩ := mb_cl_e h
      refine rb_callV hK mM_meet vM_100 (t_M_meet (dd := dd + 1) q_10) rfl mb_oM rfl (Nat.le_of_ble_eq_true rfl) dM_askedRow_22 rfl ⟨Nat.le_refl _, Nat.le_refl _⟩ ?_
      show K 0 0 25 [.ref 200, .int x1] [.int r_11] (mb_s s_9)
      refine ro_goto (tgt := 29) hK dM_askedRow_25 (by decide) ?_
      cases h
      exact hR.1 0 0 29 _ _ _ _ rfl rfl dM_askedRow_29 ⟨rfl, rfl⟩
  · replace h := mb_ift c_4 h
    refine ro_iconst (x := (-1)) hK (by decide) dM_askedRow_7 ?_
    refine ro_goto (tgt := 29) hK dM_askedRow_8 (by decide) ?_
    cases h
    exact hR.1 0 0 29 _ _ _ _ rfl rfl dM_askedRow_29 ⟨rfl, rfl⟩
