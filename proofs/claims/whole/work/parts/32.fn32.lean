theorem dM_tear_0 : decode bM_tear 0 = .ok (.aload_n 0, 1) := by decide +kernel
theorem dM_tear_1 : decode bM_tear 1 = .ok (.iload_n 1, 1) := by decide +kernel
theorem dM_tear_2 : decode bM_tear 2 = .ok (.invokevirtual 111, 3) := by decide +kernel
theorem dM_tear_5 : decode bM_tear 5 = .ok (.istore_n 2, 1) := by decide +kernel
theorem dM_tear_6 : decode bM_tear 6 = .ok (.iload_n 2, 1) := by decide +kernel
theorem dM_tear_7 : decode bM_tear 7 = .ok (.ifCond .ge 5, 3) := by decide +kernel
theorem dM_tear_10 : decode bM_tear 10 = .ok (.iload_n 2, 1) := by decide +kernel
theorem dM_tear_11 : decode bM_tear 11 = .ok (.ireturn, 1) := by decide +kernel
theorem dM_tear_12 : decode bM_tear 12 = .ok (.aload_n 0, 1) := by decide +kernel
theorem dM_tear_13 : decode bM_tear 13 = .ok (.getfield 13, 3) := by decide +kernel
theorem dM_tear_16 : decode bM_tear 16 = .ok (.iload_n 1, 1) := by decide +kernel
theorem dM_tear_17 : decode bM_tear 17 = .ok (.bipush (-9), 2) := by decide +kernel
theorem dM_tear_19 : decode bM_tear 19 = .ok (.iastore, 1) := by decide +kernel
theorem dM_tear_20 : decode bM_tear 20 = .ok (.iconst 1, 1) := by decide +kernel
theorem dM_tear_21 : decode bM_tear 21 = .ok (.ireturn, 1) := by decide +kernel
def f_M_tear (n : Nat) (x1 : Int32) (s : mb_T) : Option (Int32 × mb_T) := mb_cl (f_M_askedRow n x1 s) fun r_3 s_1 => if 0 ≤ r_3 then (mb_wr s_1 203 6 x1 (-9) fun s_5 => some (1, s_5)) else some (r_3, s_1)
set_option maxHeartbeats 4000000 in
set_option maxRecDepth 100000 in
theorem t_M_tear {dd n : Nat} {x1 : Int32} {s : mb_T} {out : Int32 × mb_T}  (h : f_M_tear n x1 s = some out) : mb_MC (dd + 4) yM_tear bM_tear 3 (some .int) [.ref 200, .int x1] s (some (.int out.1)) out.2 := by
  unfold f_M_tear at h
  refine mj_mc (lv := [.ref 200, .int x1, .retAddr 0]) mM_tear rfl rfl (Nat.le_of_ble_eq_true rfl) (fun K hK hR => ?_)
  have hK : mj_C (dd + 4) 0 0 RM_c "tear" bM_tear 3 K := hK
  refine ro_aload_n hK dM_tear_0 rfl ?_
  refine ro_iload_n hK dM_tear_1 rfl ?_
  obtain ⟨r_3, s_1, q_2, h⟩ := mb_cl_e h
  refine rb_callV hK mM_askedRow vM_111 (t_M_askedRow (dd := dd + 0) q_2) rfl mb_oM rfl (Nat.le_of_ble_eq_true rfl) dM_tear_2 rfl ⟨Nat.le_refl _, Nat.le_refl _⟩ ?_
  show K 0 0 5 [.ref 200, .int x1, .retAddr 0] [.int r_3] (mb_s s_1)
  refine ro_istore_n hK dM_tear_5 (by decide) ?_
  show K 0 0 6 [.ref 200, .int x1, .int r_3] [] (mb_s s_1)
  refine ro_iload_n hK dM_tear_6 rfl ?_
  refine ro_if_ge (tgt := 12) hK dM_tear_7 (by decide) (fun c_4 => ?_) (fun c_4 => ?_)
  · replace h := mb_ift c_4 h
    refine ro_aload_n hK dM_tear_12 rfl ?_
    refine rb_get hK fM_13 mb_oM rfl dM_tear_13 ?_
    refine ro_iload_n hK dM_tear_16 rfl ?_
    refine ro_bipush (x := (-9)) hK (by decide) dM_tear_17 ?_
    obtain ⟨s_5, e_6, i_7, h⟩ := mb_wr_e h
    refine rb_iast hK ai_203 i_7 e_6 dM_tear_19 ?_
    refine ro_iconst (x := 1) hK (by decide) dM_tear_20 ?_
    cases h
    exact hR.1 0 0 21 _ _ _ _ rfl rfl dM_tear_21 ⟨rfl, rfl⟩
  · replace h := mb_iff c_4 h
    refine ro_iload_n hK dM_tear_10 rfl ?_
    cases h
    exact hR.1 0 0 11 _ _ _ _ rfl rfl dM_tear_11 ⟨rfl, rfl⟩
theorem dC_allByLaw_0 : decode bC_allByLaw 0 = .ok (.iconst 0, 1) := by decide +kernel
theorem dC_allByLaw_1 : decode bC_allByLaw 1 = .ok (.istore_n 2, 1) := by decide +kernel
theorem dC_allByLaw_2 : decode bC_allByLaw 2 = .ok (.iload_n 2, 1) := by decide +kernel
theorem dC_allByLaw_3 : decode bC_allByLaw 3 = .ok (.aload_n 0, 1) := by decide +kernel
theorem dC_allByLaw_4 : decode bC_allByLaw 4 = .ok (.getfield 14, 3) := by decide +kernel
theorem dC_allByLaw_7 : decode bC_allByLaw 7 = .ok (.iload_n 1, 1) := by decide +kernel
theorem dC_allByLaw_8 : decode bC_allByLaw 8 = .ok (.iaload, 1) := by decide +kernel
theorem dC_allByLaw_9 : decode bC_allByLaw 9 = .ok (.if_icmp .ge 51, 3) := by decide +kernel
theorem dC_allByLaw_12 : decode bC_allByLaw 12 = .ok (.aload_n 0, 1) := by decide +kernel
theorem dC_allByLaw_13 : decode bC_allByLaw 13 = .ok (.getfield 50, 3) := by decide +kernel
theorem dC_allByLaw_16 : decode bC_allByLaw 16 = .ok (.aload_n 0, 1) := by decide +kernel
theorem dC_allByLaw_17 : decode bC_allByLaw 17 = .ok (.getfield 29, 3) := by decide +kernel
theorem dC_allByLaw_20 : decode bC_allByLaw 20 = .ok (.getfield 171, 3) := by decide +kernel
theorem dC_allByLaw_23 : decode bC_allByLaw 23 = .ok (.invokevirtual 190, 3) := by decide +kernel
theorem dC_allByLaw_26 : decode bC_allByLaw 26 = .ok (.aload_n 0, 1) := by decide +kernel
theorem dC_allByLaw_27 : decode bC_allByLaw 27 = .ok (.getfield 11, 3) := by decide +kernel
theorem dC_allByLaw_30 : decode bC_allByLaw 30 = .ok (.iload_n 1, 1) := by decide +kernel
theorem dC_allByLaw_31 : decode bC_allByLaw 31 = .ok (.aaload, 1) := by decide +kernel
theorem dC_allByLaw_32 : decode bC_allByLaw 32 = .ok (.iload_n 2, 1) := by decide +kernel
theorem dC_allByLaw_33 : decode bC_allByLaw 33 = .ok (.iaload, 1) := by decide +kernel
theorem dC_allByLaw_34 : decode bC_allByLaw 34 = .ok (.if_icmp .eq 5, 3) := by decide +kernel
theorem dC_allByLaw_37 : decode bC_allByLaw 37 = .ok (.iconst 0, 1) := by decide +kernel
theorem dC_allByLaw_38 : decode bC_allByLaw 38 = .ok (.ireturn, 1) := by decide +kernel
theorem dC_allByLaw_39 : decode bC_allByLaw 39 = .ok (.aload_n 0, 1) := by decide +kernel
theorem dC_allByLaw_40 : decode bC_allByLaw 40 = .ok (.getfield 50, 3) := by decide +kernel
theorem dC_allByLaw_43 : decode bC_allByLaw 43 = .ok (.aload_n 0, 1) := by decide +kernel
theorem dC_allByLaw_44 : decode bC_allByLaw 44 = .ok (.getfield 11, 3) := by decide +kernel
theorem dC_allByLaw_47 : decode bC_allByLaw 47 = .ok (.iload_n 1, 1) := by decide +kernel
theorem dC_allByLaw_48 : decode bC_allByLaw 48 = .ok (.aaload, 1) := by decide +kernel
theorem dC_allByLaw_49 : decode bC_allByLaw 49 = .ok (.iload_n 2, 1) := by decide +kernel
theorem dC_allByLaw_50 : decode bC_allByLaw 50 = .ok (.iaload, 1) := by decide +kernel
theorem dC_allByLaw_51 : decode bC_allByLaw 51 = .ok (.invokevirtual 241, 3) := by decide +kernel
theorem dC_allByLaw_54 : decode bC_allByLaw 54 = .ok (.iinc 2 1, 3) := by decide +kernel
theorem dC_allByLaw_57 : decode bC_allByLaw 57 = .ok (.goto (-55), 3) := by decide +kernel
theorem dC_allByLaw_60 : decode bC_allByLaw 60 = .ok (.iconst 1, 1) := by decide +kernel
theorem dC_allByLaw_61 : decode bC_allByLaw 61 = .ok (.ireturn, 1) := by decide +kernel
def f_C_allByLaw_2 (n : Nat) (k0 : Int32 → mb_T → Option (Int32 × mb_T)) (k1 : Int32 → mb_T → Option (Int32 × mb_T)) (y1 : Int32) : Nat → Int32 → mb_T → Option (Int32 × mb_T)
  | 0, _, _ => none
  | f + 1, w2, s => mb_rd s 1 6 y1 fun x_1 => if x_1 ≤ w2 then k1 w2 s else mb_cl (f_A_byLaw n (s.1 100 2) s) fun r_7 s_5 => mb_ix y1 6 (mb_rd s_5 (20 + y1.toNatClampNeg) 60 w2 fun x_9 => if r_7 = x_9 then (mb_ix y1 6 (mb_rd s_5 (20 + y1.toNatClampNeg) 60 w2 fun x_14 => mb_cw (f_A_pass n x_14 s_5) fun s_17 => f_C_allByLaw_2 n k0 k1 y1 f (w2 + 1) s_17)) else k0 w2 s_5)
def f_C_allByLaw (n : Nat) (x1 : Int32) (s : mb_T) : Option (Int32 × mb_T) := f_C_allByLaw_2 n (fun x_19 s_20 => some (0, s_20)) (fun x_21 s_22 => some (1, s_22)) x1 n 0 s
set_option maxHeartbeats 4000000 in
set_option maxRecDepth 100000 in
theorem tl_C_allByLaw_2 {dd n : Nat} {K : mj_KT} {out : Int32 × mb_T} (hK : mj_C (dd + 5) 0 0 RC_c "allByLaw" bC_allByLaw 3 K) (hR : mj_R bC_allByLaw (some .boolean) (fun r2 S2 => r2 = some (.int out.1) ∧ S2 = mb_s out.2) K) {k0 : Int32 → mb_T → Option (Int32 × mb_T)} {k1 : Int32 → mb_T → Option (Int32 × mb_T)} {y1 : Int32} (hk0 : ∀ (w2 : Int32) (s : mb_T), k0 w2 s = some out → K 0 0 37 [.ref 0, .int y1, .int w2] [] (mb_s s)) (hk1 : ∀ (w2 : Int32) (s : mb_T), k1 w2 s = some out → K 0 0 60 [.ref 0, .int y1, .int w2] [] (mb_s s)) : ∀ (f : Nat) (w2 : Int32) (s : mb_T), f_C_allByLaw_2 n k0 k1 y1 f w2 s = some out → K 0 0 2 [.ref 0, .int y1, .int w2] [] (mb_s s) := by
  intro f
  induction f with
  | zero =>
    intro w2 s h
    cases h
  | succ f ih =>
    intro w2 s h
    rw [f_C_allByLaw_2] at h
    refine ro_iload_n hK dC_allByLaw_2 rfl ?_
    refine ro_aload_n hK dC_allByLaw_3 rfl ?_
    refine rb_get hK fC_14 mb_oC rfl dC_allByLaw_4 ?_
    refine ro_iload_n hK dC_allByLaw_7 rfl ?_
    obtain ⟨x_1, e_2, i_3, h⟩ := mb_rd_e h
    refine rb_iald hK ai_1 i_3 e_2 dC_allByLaw_8 ?_
    refine ro_icmp_ge (tgt := 60) hK dC_allByLaw_9 (by decide) (fun c_4 => ?_) (fun c_4 => ?_)
    · replace h := mb_ift c_4 h
      refine ro_fg (lv' := [.ref 0, .int y1, .int w2]) hK ⟨Or.inr rfl, ⟨Or.inr rfl, ⟨Or.inr rfl, trivial⟩⟩⟩ ?_
      exact hk1 _ _ h
    · replace h := mb_iff c_4 h
      refine ro_aload_n hK dC_allByLaw_12 rfl ?_
      refine rb_get hK fC_50 mb_oC rfl dC_allByLaw_13 ?_
      refine ro_aload_n hK dC_allByLaw_16 rfl ?_
      refine rb_get hK fC_29 mb_oC rfl dC_allByLaw_17 ?_
      refine rb_get hK fC_171 (mb_cvo (Or.inl rfl)) rfl dC_allByLaw_20 ?_
      obtain ⟨r_7, s_5, q_6, h⟩ := mb_cl_e h
      refine rb_callV hK mA_byLaw vC_190 (t_A_byLaw (dd := dd + 0) q_6) rfl mb_oA rfl (Nat.le_of_ble_eq_true rfl) dC_allByLaw_23 rfl ⟨Nat.le_refl _, Nat.le_refl _⟩ ?_
      show K 0 0 26 [.ref 0, .int y1, .int w2] [.int r_7] (mb_s s_5)
      refine ro_aload_n hK dC_allByLaw_26 rfl ?_
      refine rb_get hK fC_11 mb_oC rfl dC_allByLaw_27 ?_
      refine ro_iload_n hK dC_allByLaw_30 rfl ?_
      obtain ⟨i_8, h⟩ := mb_ix_e h
      refine rb_rows hK i_8 dC_allByLaw_31 ?_
      refine ro_iload_n hK dC_allByLaw_32 rfl ?_
      obtain ⟨x_9, e_10, i_11, h⟩ := mb_rd_e h
      refine rb_iald hK (mb_rw i_8) i_11 e_10 dC_allByLaw_33 ?_
      refine ro_icmp_eq (tgt := 39) hK dC_allByLaw_34 (by decide) (fun c_12 => ?_) (fun c_12 => ?_)
      · replace h := mb_ift c_12 h
        refine ro_aload_n hK dC_allByLaw_39 rfl ?_
        refine rb_get hK fC_50 mb_oC rfl dC_allByLaw_40 ?_
        refine ro_aload_n hK dC_allByLaw_43 rfl ?_
        refine rb_get hK fC_11 mb_oC rfl dC_allByLaw_44 ?_
        refine ro_iload_n hK dC_allByLaw_47 rfl ?_
        obtain ⟨i_13, h⟩ := mb_ix_e h
        refine rb_rows hK i_13 dC_allByLaw_48 ?_
        refine ro_iload_n hK dC_allByLaw_49 rfl ?_
        obtain ⟨x_14, e_15, i_16, h⟩ := mb_rd_e h
        refine rb_iald hK (mb_rw i_13) i_16 e_15 dC_allByLaw_50 ?_
        obtain ⟨s_17, q_18, h⟩ := mb_cw_e h
        refine rb_callV hK mA_pass vC_241 (t_A_pass (dd := dd + 2) q_18) rfl mb_oA rfl (Nat.le_of_ble_eq_true rfl) dC_allByLaw_51 rfl ⟨Nat.le_refl _, Nat.le_refl _⟩ ?_
        show K 0 0 54 [.ref 0, .int y1, .int w2] [] (mb_s s_17)
        refine ro_iincv (c := 1) hK (by decide) dC_allByLaw_54 rfl (by decide) ?_
        show K 0 0 57 [.ref 0, .int y1, .int (w2 + 1)] [] (mb_s s_17)
        refine ro_goto (tgt := 2) hK dC_allByLaw_57 (by decide) ?_
        refine ro_fg (lv' := [.ref 0, .int y1, .int (w2 + 1)]) hK ⟨Or.inr rfl, ⟨Or.inr rfl, ⟨Or.inr rfl, trivial⟩⟩⟩ ?_
        exact ih _ _ h
      · replace h := mb_iff c_12 h
        refine ro_fg (lv' := [.ref 0, .int y1, .int w2]) hK ⟨Or.inr rfl, ⟨Or.inr rfl, ⟨Or.inr rfl, trivial⟩⟩⟩ ?_
        exact hk0 _ _ h
set_option maxHeartbeats 4000000 in
set_option maxRecDepth 100000 in
theorem t_C_allByLaw {dd n : Nat} {x1 : Int32} {s : mb_T} {out : Int32 × mb_T}  (h : f_C_allByLaw n x1 s = some out) : mb_MC (dd + 5) yC_allByLaw bC_allByLaw 3 (some .boolean) [.ref 0, .int x1] s (some (.int out.1)) out.2 := by
  unfold f_C_allByLaw at h
  refine mj_mc (lv := [.ref 0, .int x1, .retAddr 0]) mC_allByLaw rfl rfl (Nat.le_of_ble_eq_true rfl) (fun K hK hR => ?_)
  have hK : mj_C (dd + 5) 0 0 RC_c "allByLaw" bC_allByLaw 3 K := hK
  refine ro_iconst (x := 0) hK (by decide) dC_allByLaw_0 ?_
  refine ro_istore_n hK dC_allByLaw_1 (by decide) ?_
  show K 0 0 2 [.ref 0, .int x1, .int 0] [] (mb_s s)
  refine ro_fg (lv' := [.ref 0, .int x1, .int 0]) hK ⟨Or.inr rfl, ⟨Or.inr rfl, ⟨Or.inr rfl, trivial⟩⟩⟩ ?_
  refine tl_C_allByLaw_2 (dd := dd) hK hR (fun x_19 s_20 h => ?_) (fun x_21 s_22 h => ?_) n _ _ h
  · skip
    refine ro_iconst (x := 0) hK (by decide) dC_allByLaw_37 ?_
    cases h
    exact hR.1 0 0 38 _ _ _ _ rfl rfl dC_allByLaw_38 ⟨rfl, rfl⟩
  · skip
    refine ro_iconst (x := 1) hK (by decide) dC_allByLaw_60 ?_
    cases h
    exact hR.1 0 0 61 _ _ _ _ rfl rfl dC_allByLaw_61 ⟨rfl, rfl⟩
theorem dC_cave_0 : decode bC_cave 0 = .ok (.aload_n 0, 1) := by decide +kernel
theorem dC_cave_1 : decode bC_cave 1 = .ok (.iload_n 1, 1) := by decide +kernel
theorem dC_cave_2 : decode bC_cave 2 = .ok (.invokevirtual 114, 3) := by decide +kernel
theorem dC_cave_5 : decode bC_cave 5 = .ok (.istore_n 2, 1) := by decide +kernel
theorem dC_cave_6 : decode bC_cave 6 = .ok (.iload_n 2, 1) := by decide +kernel
theorem dC_cave_7 : decode bC_cave 7 = .ok (.ifCond .eq 5, 3) := by decide +kernel
theorem dC_cave_10 : decode bC_cave 10 = .ok (.iload_n 2, 1) := by decide +kernel
theorem dC_cave_11 : decode bC_cave 11 = .ok (.ireturn, 1) := by decide +kernel
theorem dC_cave_12 : decode bC_cave 12 = .ok (.aload_n 0, 1) := by decide +kernel
theorem dC_cave_13 : decode bC_cave 13 = .ok (.getfield 43, 3) := by decide +kernel
theorem dC_cave_16 : decode bC_cave 16 = .ok (.aload_n 0, 1) := by decide +kernel
theorem dC_cave_17 : decode bC_cave 17 = .ok (.getfield 20, 3) := by decide +kernel
theorem dC_cave_20 : decode bC_cave 20 = .ok (.iload_n 1, 1) := by decide +kernel
theorem dC_cave_21 : decode bC_cave 21 = .ok (.aaload, 1) := by decide +kernel
theorem dC_cave_22 : decode bC_cave 22 = .ok (.aload_n 0, 1) := by decide +kernel
theorem dC_cave_23 : decode bC_cave 23 = .ok (.getfield 23, 3) := by decide +kernel
theorem dC_cave_26 : decode bC_cave 26 = .ok (.iload_n 1, 1) := by decide +kernel
theorem dC_cave_27 : decode bC_cave 27 = .ok (.iaload, 1) := by decide +kernel
theorem dC_cave_28 : decode bC_cave 28 = .ok (.aload_n 0, 1) := by decide +kernel
theorem dC_cave_29 : decode bC_cave 29 = .ok (.getfield 33, 3) := by decide +kernel
theorem dC_cave_32 : decode bC_cave 32 = .ok (.invokevirtual 117, 3) := by decide +kernel
theorem dC_cave_35 : decode bC_cave 35 = .ok (.bipush (-9), 2) := by decide +kernel
theorem dC_cave_37 : decode bC_cave 37 = .ok (.if_icmp .eq 6, 3) := by decide +kernel
theorem dC_cave_40 : decode bC_cave 40 = .ok (.bipush (-4), 2) := by decide +kernel
theorem dC_cave_42 : decode bC_cave 42 = .ok (.ireturn, 1) := by decide +kernel
theorem dC_cave_43 : decode bC_cave 43 = .ok (.aload_n 0, 1) := by decide +kernel
theorem dC_cave_44 : decode bC_cave 44 = .ok (.getfield 29, 3) := by decide +kernel
theorem dC_cave_47 : decode bC_cave 47 = .ok (.aload_n 0, 1) := by decide +kernel
theorem dC_cave_48 : decode bC_cave 48 = .ok (.getfield 33, 3) := by decide +kernel
theorem dC_cave_51 : decode bC_cave 51 = .ok (.invokevirtual 121, 3) := by decide +kernel
theorem dC_cave_54 : decode bC_cave 54 = .ok (.aload_n 0, 1) := by decide +kernel
theorem dC_cave_55 : decode bC_cave 55 = .ok (.invokevirtual 125, 3) := by decide +kernel
theorem dC_cave_58 : decode bC_cave 58 = .ok (.aload_n 0, 1) := by decide +kernel
theorem dC_cave_59 : decode bC_cave 59 = .ok (.getfield 29, 3) := by decide +kernel
theorem dC_cave_62 : decode bC_cave 62 = .ok (.getfield 128, 3) := by decide +kernel
theorem dC_cave_65 : decode bC_cave 65 = .ok (.ireturn, 1) := by decide +kernel
def f_C_cave (n : Nat) (x1 : Int32) (s : mb_T) : Option (Int32 × mb_T) := mb_cl (f_C_textRefusal n x1 s) fun r_3 s_1 => if r_3 = 0 then (mb_ix x1 4 (mb_rd s_1 3 4 x1 fun x_6 => mb_cl (f_R_read n (30 + x1.toNatClampNeg) x_6 120 s_1) fun r_11 s_9 => if r_11 = (-9) then (mb_cw (f_V_become n 100 120 s_9) fun s_13 => mb_cw (f_C_forgetKept n s_13) fun s_15 => some ((s_15.1 100 0), s_15)) else some ((-4), s_9))) else some (r_3, s_1)
set_option maxHeartbeats 4000000 in
set_option maxRecDepth 100000 in
theorem t_C_cave {dd n : Nat} {x1 : Int32} {s : mb_T} {out : Int32 × mb_T}  (h : f_C_cave n x1 s = some out) : mb_MC (dd + 5) yC_cave bC_cave 3 (some .int) [.ref 0, .int x1] s (some (.int out.1)) out.2 := by
  unfold f_C_cave at h
  refine mj_mc (lv := [.ref 0, .int x1, .retAddr 0]) mC_cave rfl rfl (Nat.le_of_ble_eq_true rfl) (fun K hK hR => ?_)
  have hK : mj_C (dd + 5) 0 0 RC_c "cave" bC_cave 3 K := hK
  refine ro_aload_n hK dC_cave_0 rfl ?_
  refine ro_iload_n hK dC_cave_1 rfl ?_
  obtain ⟨r_3, s_1, q_2, h⟩ := mb_cl_e h
  refine rb_callV hK mC_textRefusal vC_114 (t_C_textRefusal (dd := dd + 2) q_2) rfl mb_oC rfl (Nat.le_of_ble_eq_true rfl) dC_cave_2 rfl ⟨Nat.le_refl _, Nat.le_refl _⟩ ?_
  show K 0 0 5 [.ref 0, .int x1, .retAddr 0] [.int r_3] (mb_s s_1)
  refine ro_istore_n hK dC_cave_5 (by decide) ?_
  show K 0 0 6 [.ref 0, .int x1, .int r_3] [] (mb_s s_1)
  refine ro_iload_n hK dC_cave_6 rfl ?_
  refine ro_if_eq (tgt := 12) hK dC_cave_7 (by decide) (fun c_4 => ?_) (fun c_4 => ?_)
  · replace h := mb_ift c_4 h
    refine ro_aload_n hK dC_cave_12 rfl ?_
    refine rb_get hK fC_43 mb_oC rfl dC_cave_13 ?_
    refine ro_aload_n hK dC_cave_16 rfl ?_
    refine rb_get hK fC_20 mb_oC rfl dC_cave_17 ?_
    refine ro_iload_n hK dC_cave_20 rfl ?_
    obtain ⟨i_5, h⟩ := mb_ix_e h
    refine rb_texts hK i_5 dC_cave_21 ?_
    refine ro_aload_n hK dC_cave_22 rfl ?_
    refine rb_get hK fC_23 mb_oC rfl dC_cave_23 ?_
    refine ro_iload_n hK dC_cave_26 rfl ?_
    obtain ⟨x_6, e_7, i_8, h⟩ := mb_rd_e h
    refine rb_iald hK ai_3 i_8 e_7 dC_cave_27 ?_
    refine ro_aload_n hK dC_cave_28 rfl ?_
    refine rb_get hK fC_33 mb_oC rfl dC_cave_29 ?_
    obtain ⟨r_11, s_9, q_10, h⟩ := mb_cl_e h
    refine rb_callV hK mR_read vC_117 (t_R_read (dd := dd + 0) (mb_tx i_5) (Or.inr (Or.inl rfl)) q_10) rfl mb_oR rfl (Nat.le_of_ble_eq_true rfl) dC_cave_32 rfl ⟨Nat.le_refl _, Nat.le_refl _⟩ ?_
    show K 0 0 35 [.ref 0, .int x1, .int r_3] [.int r_11] (mb_s s_9)
    refine ro_bipush (x := (-9)) hK (by decide) dC_cave_35 ?_
    refine ro_icmp_eq (tgt := 43) hK dC_cave_37 (by decide) (fun c_12 => ?_) (fun c_12 => ?_)
    · replace h := mb_ift c_12 h
      refine ro_aload_n hK dC_cave_43 rfl ?_
      refine rb_get hK fC_29 mb_oC rfl dC_cave_44 ?_
      refine ro_aload_n hK dC_cave_47 rfl ?_
      refine rb_get hK fC_33 mb_oC rfl dC_cave_48 ?_
      obtain ⟨s_13, q_14, h⟩ := mb_cw_e h
      refine rb_callV hK mV_become vC_121 (t_V_become (dd := dd + 3) (Or.inl rfl) (Or.inr (Or.inl rfl)) q_14) rfl (mb_cvo (Or.inl rfl)) rfl (Nat.le_of_ble_eq_true rfl) dC_cave_51 rfl ⟨Nat.le_refl _, Nat.le_refl _⟩ ?_
      show K 0 0 54 [.ref 0, .int x1, .int r_3] [] (mb_s s_13)
      refine ro_aload_n hK dC_cave_54 rfl ?_
      obtain ⟨s_15, q_16, h⟩ := mb_cw_e h
      refine rb_callV hK mC_forgetKept vC_125 (t_C_forgetKept (dd := dd + 2) q_16) rfl mb_oC rfl (Nat.le_of_ble_eq_true rfl) dC_cave_55 rfl ⟨Nat.le_refl _, Nat.le_refl _⟩ ?_
      show K 0 0 58 [.ref 0, .int x1, .int r_3] [] (mb_s s_15)
      refine ro_aload_n hK dC_cave_58 rfl ?_
      refine rb_get hK fC_29 mb_oC rfl dC_cave_59 ?_
      refine rb_get hK fC_128 (mb_cvo (Or.inl rfl)) rfl dC_cave_62 ?_
      cases h
      exact hR.1 0 0 65 _ _ _ _ rfl rfl dC_cave_65 ⟨rfl, rfl⟩
    · replace h := mb_iff c_12 h
      refine ro_bipush (x := (-4)) hK (by decide) dC_cave_40 ?_
      cases h
      exact hR.1 0 0 42 _ _ _ _ rfl rfl dC_cave_42 ⟨rfl, rfl⟩
  · replace h := mb_iff c_4 h
    refine ro_iload_n hK dC_cave_10 rfl ?_
    cases h
    exact hR.1 0 0 11 _ _ _ _ rfl rfl dC_cave_11 ⟨rfl, rfl⟩
theorem dC_count_0 : decode bC_count 0 = .ok (.iload_n 1, 1) := by decide +kernel
theorem dC_count_1 : decode bC_count 1 = .ok (.ifCond .lt 9, 3) := by decide +kernel
theorem dC_count_4 : decode bC_count 4 = .ok (.iload_n 1, 1) := by decide +kernel
theorem dC_count_5 : decode bC_count 5 = .ok (.bipush 7, 2) := by decide +kernel
theorem dC_count_7 : decode bC_count 7 = .ok (.if_icmp .le 5, 3) := by decide +kernel
theorem dC_count_10 : decode bC_count 10 = .ok (.iconst (-1), 1) := by decide +kernel
theorem dC_count_11 : decode bC_count 11 = .ok (.ireturn, 1) := by decide +kernel
theorem dC_count_12 : decode bC_count 12 = .ok (.aload_n 0, 1) := by decide +kernel
theorem dC_count_13 : decode bC_count 13 = .ok (.iload_n 1, 1) := by decide +kernel
theorem dC_count_14 : decode bC_count 14 = .ok (.invokevirtual 321, 3) := by decide +kernel
theorem dC_count_17 : decode bC_count 17 = .ok (.ireturn, 1) := by decide +kernel
def f_C_count (n : Nat) (x1 : Int32) (s : mb_T) : Option (Int32 × mb_T) := if x1 < 0 then some ((-1), s) else if x1 ≤ 7 then (mb_cl (f_C_howMany n x1 s) fun r_5 s_3 => some (r_5, s_3)) else some ((-1), s)
set_option maxHeartbeats 4000000 in
set_option maxRecDepth 100000 in
theorem t_C_count {dd n : Nat} {x1 : Int32} {s : mb_T} {out : Int32 × mb_T}  (h : f_C_count n x1 s = some out) : mb_MC (dd + 5) yC_count bC_count 2 (some .int) [.ref 0, .int x1] s (some (.int out.1)) out.2 := by
  unfold f_C_count at h
  refine mj_mc (lv := [.ref 0, .int x1]) mC_count rfl rfl (Nat.le_of_ble_eq_true rfl) (fun K hK hR => ?_)
  have hK : mj_C (dd + 5) 0 0 RC_c "count" bC_count 2 K := hK
  refine ro_iload_n hK dC_count_0 rfl ?_
  refine ro_if_lt (tgt := 10) hK dC_count_1 (by decide) (fun c_1 => ?_) (fun c_1 => ?_)
  · replace h := mb_ift c_1 h
    refine ro_iconst (x := (-1)) hK (by decide) dC_count_10 ?_
    cases h
    exact hR.1 0 0 11 _ _ _ _ rfl rfl dC_count_11 ⟨rfl, rfl⟩
  · replace h := mb_iff c_1 h
    refine ro_iload_n hK dC_count_4 rfl ?_
    refine ro_bipush (x := 7) hK (by decide) dC_count_5 ?_
    refine ro_icmp_le (tgt := 12) hK dC_count_7 (by decide) (fun c_2 => ?_) (fun c_2 => ?_)
    · replace h := mb_ift c_2 h
      refine ro_aload_n hK dC_count_12 rfl ?_
      refine ro_iload_n hK dC_count_13 rfl ?_
      obtain ⟨r_5, s_3, q_4, h⟩ := mb_cl_e h
      refine rb_callV hK mC_howMany vC_321 (t_C_howMany (dd := dd + 0) q_4) rfl mb_oC rfl (Nat.le_of_ble_eq_true rfl) dC_count_14 rfl ⟨Nat.le_refl _, Nat.le_refl _⟩ ?_
      show K 0 0 17 [.ref 0, .int x1] [.int r_5] (mb_s s_3)
      cases h
      exact hR.1 0 0 17 _ _ _ _ rfl rfl dC_count_17 ⟨rfl, rfl⟩
    · replace h := mb_iff c_2 h
      refine ro_iconst (x := (-1)) hK (by decide) dC_count_10 ?_
      cases h
      exact hR.1 0 0 11 _ _ _ _ rfl rfl dC_count_11 ⟨rfl, rfl⟩
theorem dC_digest_0 : decode bC_digest 0 = .ok (.ldc2_w 324, 3) := by decide +kernel
theorem dC_digest_3 : decode bC_digest 3 = .ok (.lstore_n 1, 1) := by decide +kernel
theorem dC_digest_4 : decode bC_digest 4 = .ok (.iconst 0, 1) := by decide +kernel
theorem dC_digest_5 : decode bC_digest 5 = .ok (.istore_n 3, 1) := by decide +kernel
theorem dC_digest_6 : decode bC_digest 6 = .ok (.iload_n 3, 1) := by decide +kernel
theorem dC_digest_7 : decode bC_digest 7 = .ok (.bipush 7, 2) := by decide +kernel
theorem dC_digest_9 : decode bC_digest 9 = .ok (.if_icmp .gt 22, 3) := by decide +kernel
theorem dC_digest_12 : decode bC_digest 12 = .ok (.ldc2_w 326, 3) := by decide +kernel
theorem dC_digest_15 : decode bC_digest 15 = .ok (.lload_n 1, 1) := by decide +kernel
theorem dC_digest_16 : decode bC_digest 16 = .ok (.lmul, 1) := by decide +kernel
theorem dC_digest_17 : decode bC_digest 17 = .ok (.aload_n 0, 1) := by decide +kernel
theorem dC_digest_18 : decode bC_digest 18 = .ok (.iload_n 3, 1) := by decide +kernel
theorem dC_digest_19 : decode bC_digest 19 = .ok (.invokevirtual 321, 3) := by decide +kernel
theorem dC_digest_22 : decode bC_digest 22 = .ok (.i2l, 1) := by decide +kernel
theorem dC_digest_23 : decode bC_digest 23 = .ok (.ladd, 1) := by decide +kernel
theorem dC_digest_24 : decode bC_digest 24 = .ok (.lstore_n 1, 1) := by decide +kernel
theorem dC_digest_25 : decode bC_digest 25 = .ok (.iinc 3 1, 3) := by decide +kernel
theorem dC_digest_28 : decode bC_digest 28 = .ok (.goto (-22), 3) := by decide +kernel
theorem dC_digest_31 : decode bC_digest 31 = .ok (.ldc2_w 326, 3) := by decide +kernel
theorem dC_digest_34 : decode bC_digest 34 = .ok (.lload_n 1, 1) := by decide +kernel
theorem dC_digest_35 : decode bC_digest 35 = .ok (.lmul, 1) := by decide +kernel
theorem dC_digest_36 : decode bC_digest 36 = .ok (.aload_n 0, 1) := by decide +kernel
theorem dC_digest_37 : decode bC_digest 37 = .ok (.getfield 29, 3) := by decide +kernel
theorem dC_digest_40 : decode bC_digest 40 = .ok (.getfield 328, 3) := by decide +kernel
theorem dC_digest_43 : decode bC_digest 43 = .ok (.i2l, 1) := by decide +kernel
theorem dC_digest_44 : decode bC_digest 44 = .ok (.ladd, 1) := by decide +kernel
theorem dC_digest_45 : decode bC_digest 45 = .ok (.lstore_n 1, 1) := by decide +kernel
theorem dC_digest_46 : decode bC_digest 46 = .ok (.ldc2_w 326, 3) := by decide +kernel
theorem dC_digest_49 : decode bC_digest 49 = .ok (.lload_n 1, 1) := by decide +kernel
theorem dC_digest_50 : decode bC_digest 50 = .ok (.lmul, 1) := by decide +kernel
theorem dC_digest_51 : decode bC_digest 51 = .ok (.aload_n 0, 1) := by decide +kernel
theorem dC_digest_52 : decode bC_digest 52 = .ok (.getfield 29, 3) := by decide +kernel
theorem dC_digest_55 : decode bC_digest 55 = .ok (.getfield 171, 3) := by decide +kernel
theorem dC_digest_58 : decode bC_digest 58 = .ok (.i2l, 1) := by decide +kernel
theorem dC_digest_59 : decode bC_digest 59 = .ok (.ladd, 1) := by decide +kernel
theorem dC_digest_60 : decode bC_digest 60 = .ok (.lstore_n 1, 1) := by decide +kernel
theorem dC_digest_61 : decode bC_digest 61 = .ok (.iconst 0, 1) := by decide +kernel
theorem dC_digest_62 : decode bC_digest 62 = .ok (.istore_n 3, 1) := by decide +kernel
theorem dC_digest_63 : decode bC_digest 63 = .ok (.iload_n 3, 1) := by decide +kernel
theorem dC_digest_64 : decode bC_digest 64 = .ok (.aload_n 0, 1) := by decide +kernel
theorem dC_digest_65 : decode bC_digest 65 = .ok (.getfield 29, 3) := by decide +kernel
theorem dC_digest_68 : decode bC_digest 68 = .ok (.getfield 128, 3) := by decide +kernel
theorem dC_digest_71 : decode bC_digest 71 = .ok (.if_icmp .ge 39, 3) := by decide +kernel
theorem dC_digest_74 : decode bC_digest 74 = .ok (.iconst 0, 1) := by decide +kernel
theorem dC_digest_75 : decode bC_digest 75 = .ok (.istore 4, 2) := by decide +kernel
theorem dC_digest_77 : decode bC_digest 77 = .ok (.iload 4, 2) := by decide +kernel
theorem dC_digest_79 : decode bC_digest 79 = .ok (.iconst 5, 1) := by decide +kernel
theorem dC_digest_80 : decode bC_digest 80 = .ok (.if_icmp .gt 24, 3) := by decide +kernel
theorem dC_digest_83 : decode bC_digest 83 = .ok (.ldc2_w 326, 3) := by decide +kernel
theorem dC_digest_86 : decode bC_digest 86 = .ok (.lload_n 1, 1) := by decide +kernel
theorem dC_digest_87 : decode bC_digest 87 = .ok (.lmul, 1) := by decide +kernel
theorem dC_digest_88 : decode bC_digest 88 = .ok (.aload_n 0, 1) := by decide +kernel
theorem dC_digest_89 : decode bC_digest 89 = .ok (.iload_n 3, 1) := by decide +kernel
theorem dC_digest_90 : decode bC_digest 90 = .ok (.iload 4, 2) := by decide +kernel
theorem dC_digest_92 : decode bC_digest 92 = .ok (.invokevirtual 134, 3) := by decide +kernel
theorem dC_digest_95 : decode bC_digest 95 = .ok (.i2l, 1) := by decide +kernel
theorem dC_digest_96 : decode bC_digest 96 = .ok (.ladd, 1) := by decide +kernel
theorem dC_digest_97 : decode bC_digest 97 = .ok (.lstore_n 1, 1) := by decide +kernel
theorem dC_digest_98 : decode bC_digest 98 = .ok (.iinc 4 1, 3) := by decide +kernel
theorem dC_digest_101 : decode bC_digest 101 = .ok (.goto (-24), 3) := by decide +kernel
theorem dC_digest_104 : decode bC_digest 104 = .ok (.iinc 3 1, 3) := by decide +kernel
theorem dC_digest_107 : decode bC_digest 107 = .ok (.goto (-44), 3) := by decide +kernel
theorem dC_digest_110 : decode bC_digest 110 = .ok (.iconst 0, 1) := by decide +kernel
theorem dC_digest_111 : decode bC_digest 111 = .ok (.istore_n 3, 1) := by decide +kernel
theorem dC_digest_112 : decode bC_digest 112 = .ok (.iload_n 3, 1) := by decide +kernel
theorem dC_digest_113 : decode bC_digest 113 = .ok (.aload_n 0, 1) := by decide +kernel
theorem dC_digest_114 : decode bC_digest 114 = .ok (.getfield 29, 3) := by decide +kernel
theorem dC_digest_117 : decode bC_digest 117 = .ok (.getfield 183, 3) := by decide +kernel
theorem dC_digest_120 : decode bC_digest 120 = .ok (.if_icmp .ge 26, 3) := by decide +kernel
theorem dC_digest_123 : decode bC_digest 123 = .ok (.ldc2_w 326, 3) := by decide +kernel
theorem dC_digest_126 : decode bC_digest 126 = .ok (.lload_n 1, 1) := by decide +kernel
theorem dC_digest_127 : decode bC_digest 127 = .ok (.lmul, 1) := by decide +kernel
theorem dC_digest_128 : decode bC_digest 128 = .ok (.aload_n 0, 1) := by decide +kernel
theorem dC_digest_129 : decode bC_digest 129 = .ok (.getfield 29, 3) := by decide +kernel
theorem dC_digest_132 : decode bC_digest 132 = .ok (.getfield 197, 3) := by decide +kernel
theorem dC_digest_135 : decode bC_digest 135 = .ok (.iload_n 3, 1) := by decide +kernel
theorem dC_digest_136 : decode bC_digest 136 = .ok (.iaload, 1) := by decide +kernel
theorem dC_digest_137 : decode bC_digest 137 = .ok (.i2l, 1) := by decide +kernel
theorem dC_digest_138 : decode bC_digest 138 = .ok (.ladd, 1) := by decide +kernel
theorem dC_digest_139 : decode bC_digest 139 = .ok (.lstore_n 1, 1) := by decide +kernel
theorem dC_digest_140 : decode bC_digest 140 = .ok (.iinc 3 1, 3) := by decide +kernel
theorem dC_digest_143 : decode bC_digest 143 = .ok (.goto (-31), 3) := by decide +kernel
theorem dC_digest_146 : decode bC_digest 146 = .ok (.iconst 0, 1) := by decide +kernel
theorem dC_digest_147 : decode bC_digest 147 = .ok (.istore_n 3, 1) := by decide +kernel
theorem dC_digest_148 : decode bC_digest 148 = .ok (.iload_n 3, 1) := by decide +kernel
theorem dC_digest_149 : decode bC_digest 149 = .ok (.iconst 3, 1) := by decide +kernel
theorem dC_digest_150 : decode bC_digest 150 = .ok (.if_icmp .ge 22, 3) := by decide +kernel
theorem dC_digest_153 : decode bC_digest 153 = .ok (.ldc2_w 326, 3) := by decide +kernel
theorem dC_digest_156 : decode bC_digest 156 = .ok (.lload_n 1, 1) := by decide +kernel
theorem dC_digest_157 : decode bC_digest 157 = .ok (.lmul, 1) := by decide +kernel
theorem dC_digest_158 : decode bC_digest 158 = .ok (.aload_n 0, 1) := by decide +kernel
theorem dC_digest_159 : decode bC_digest 159 = .ok (.iload_n 3, 1) := by decide +kernel
theorem dC_digest_160 : decode bC_digest 160 = .ok (.invokevirtual 331, 3) := by decide +kernel
theorem dC_digest_163 : decode bC_digest 163 = .ok (.i2l, 1) := by decide +kernel
theorem dC_digest_164 : decode bC_digest 164 = .ok (.ladd, 1) := by decide +kernel
theorem dC_digest_165 : decode bC_digest 165 = .ok (.lstore_n 1, 1) := by decide +kernel
theorem dC_digest_166 : decode bC_digest 166 = .ok (.iinc 3 1, 3) := by decide +kernel
theorem dC_digest_169 : decode bC_digest 169 = .ok (.goto (-21), 3) := by decide +kernel
theorem dC_digest_172 : decode bC_digest 172 = .ok (.aload_n 0, 1) := by decide +kernel
theorem dC_digest_173 : decode bC_digest 173 = .ok (.aload_n 0, 1) := by decide +kernel
theorem dC_digest_174 : decode bC_digest 174 = .ok (.lload_n 1, 1) := by decide +kernel
theorem dC_digest_175 : decode bC_digest 175 = .ok (.invokevirtual 334, 3) := by decide +kernel
theorem dC_digest_178 : decode bC_digest 178 = .ok (.invokevirtual 338, 3) := by decide +kernel
theorem dC_digest_181 : decode bC_digest 181 = .ok (.lreturn, 1) := by decide +kernel
def f_C_digest_6 (n : Nat) (k0 : Int64 → Int32 → mb_T → Option (Int64 × mb_T))  : Nat → Int64 → Int32 → mb_T → Option (Int64 × mb_T)
  | 0, _, _, _ => none
  | f + 1, w1, w3, s => if 7 < w3 then k0 w1 w3 s else mb_cl (f_C_howMany n w3 s) fun r_4 s_2 => f_C_digest_6 n k0 f ((31 * w1) + (Int32.toInt64 r_4)) (w3 + 1) s_2
def f_C_digest_77 (n : Nat) (k0 : Int64 → Int32 → mb_T → Option (Int64 × mb_T)) (y3 : Int32) : Nat → Int64 → Int32 → mb_T → Option (Int64 × mb_T)
  | 0, _, _, _ => none
  | f + 1, w1, w4, s => if 5 < w4 then k0 w1 w4 s else mb_cl (f_C_ofPerson n y3 w4 s) fun r_12 s_10 => f_C_digest_77 n k0 y3 f ((31 * w1) + (Int32.toInt64 r_12)) (w4 + 1) s_10
def f_C_digest_63 (n : Nat) (k0 : Int64 → Int32 → mb_T → Option (Int64 × mb_T))  : Nat → Int64 → Int32 → mb_T → Option (Int64 × mb_T)
  | 0, _, _, _ => none
  | f + 1, w1, w3, s => if (s.1 100 0) ≤ w3 then k0 w1 w3 s else f_C_digest_77 n (fun x_13 x_14 s_15 => f_C_digest_63 n k0 f x_13 (w3 + 1) s_15) w3 n w1 0 s
def f_C_digest_112 (n : Nat) (k0 : Int64 → Int32 → mb_T → Option (Int64 × mb_T))  : Nat → Int64 → Int32 → mb_T → Option (Int64 × mb_T)
  | 0, _, _, _ => none
  | f + 1, w1, w3, s => if (s.1 100 4) ≤ w3 then k0 w1 w3 s else mb_rd s (100 + 10) 120 w3 fun x_20 => f_C_digest_112 n k0 f ((31 * w1) + (Int32.toInt64 x_20)) (w3 + 1) s
def f_C_digest_148 (n : Nat) (k0 : Int64 → Int32 → mb_T → Option (Int64 × mb_T))  : Nat → Int64 → Int32 → mb_T → Option (Int64 × mb_T)
  | 0, _, _, _ => none
  | f + 1, w1, w3, s => if 3 ≤ w3 then k0 w1 w3 s else mb_cl (f_C_keptMinute n w3 s) fun r_29 s_27 => f_C_digest_148 n k0 f ((31 * w1) + (Int32.toInt64 r_29)) (w3 + 1) s_27
def f_C_digest (n : Nat)  (s : mb_T) : Option (Int64 × mb_T) := f_C_digest_6 n (fun x_5 x_6 s_7 => f_C_digest_63 n (fun x_16 x_17 s_18 => f_C_digest_112 n (fun x_23 x_24 s_25 => f_C_digest_148 n (fun x_30 x_31 s_32 => mb_cl (f_C_withRows n x_30 s_32) fun r_35 s_33 => mb_cl (f_C_withTexts n r_35 s_33) fun r_38 s_36 => some (r_38, s_36)) n x_23 0 s_25) n x_16 0 s_18) n ((31 * ((31 * x_5) + (Int32.toInt64 (s_7.1 100 1)))) + (Int32.toInt64 (s_7.1 100 2))) 0 s_7) n 17 0 s
set_option maxHeartbeats 4000000 in
set_option maxRecDepth 100000 in
theorem tl_C_digest_6 {dd n : Nat} {K : mj_KT} {out : Int64 × mb_T} (hK : mj_C (dd + 5) 0 0 RC_c "digest" bC_digest 5 K) (hR : mj_R bC_digest (some .long) (fun r2 S2 => r2 = some (.long out.1) ∧ S2 = mb_s out.2) K) {k0 : Int64 → Int32 → mb_T → Option (Int64 × mb_T)}  (hk0 : ∀ (w1 : Int64) (w3 : Int32) (s : mb_T), k0 w1 w3 s = some out → K 0 0 31 [.ref 0, .long w1, .retAddr 0, .int w3, .retAddr 0] [] (mb_s s)) : ∀ (f : Nat) (w1 : Int64) (w3 : Int32) (s : mb_T), f_C_digest_6 n k0 f w1 w3 s = some out → K 0 0 6 [.ref 0, .long w1, .retAddr 0, .int w3, .retAddr 0] [] (mb_s s) := by
  intro f
  induction f with
  | zero =>
    intro w1 w3 s h
    cases h
  | succ f ih =>
    intro w1 w3 s h
    rw [f_C_digest_6] at h
    refine ro_iload_n hK dC_digest_6 rfl ?_
    refine ro_bipush (x := 7) hK (by decide) dC_digest_7 ?_
    refine ro_icmp_gt (tgt := 31) hK dC_digest_9 (by decide) (fun c_1 => ?_) (fun c_1 => ?_)
    · replace h := mb_ift c_1 h
      refine ro_fg (lv' := [.ref 0, .long w1, .retAddr 0, .int w3, .retAddr 0]) hK ⟨Or.inr rfl, ⟨Or.inr rfl, ⟨Or.inl rfl, ⟨Or.inr rfl, ⟨Or.inl rfl, trivial⟩⟩⟩⟩⟩ ?_
      exact hk0 _ _ _ h
    · replace h := mb_iff c_1 h
      refine ro_ldc2 hK cC_326 dC_digest_12 ?_
      refine ro_lload_n hK dC_digest_15 rfl ?_
      refine ro_lmul hK dC_digest_16 ?_
      refine ro_aload_n hK dC_digest_17 rfl ?_
      refine ro_iload_n hK dC_digest_18 rfl ?_
      obtain ⟨r_4, s_2, q_3, h⟩ := mb_cl_e h
      refine rb_callV hK mC_howMany vC_321 (t_C_howMany (dd := dd + 0) q_3) rfl mb_oC rfl (Nat.le_of_ble_eq_true rfl) dC_digest_19 rfl ⟨Nat.le_refl _, Nat.le_refl _⟩ ?_
      show K 0 0 22 [.ref 0, .long w1, .retAddr 0, .int w3, .retAddr 0] [.int r_4, .long (31 * w1)] (mb_s s_2)
      refine ro_i2l hK dC_digest_22 ?_
      refine ro_ladd hK dC_digest_23 ?_
      refine ro_lstore_n hK dC_digest_24 (by decide) ?_
      show K 0 0 25 [.ref 0, .long ((31 * w1) + (Int32.toInt64 r_4)), .retAddr 0, .int w3, .retAddr 0] [] (mb_s s_2)
      refine ro_iincv (c := 1) hK (by decide) dC_digest_25 rfl (by decide) ?_
      show K 0 0 28 [.ref 0, .long ((31 * w1) + (Int32.toInt64 r_4)), .retAddr 0, .int (w3 + 1), .retAddr 0] [] (mb_s s_2)
      refine ro_goto (tgt := 6) hK dC_digest_28 (by decide) ?_
      refine ro_fg (lv' := [.ref 0, .long ((31 * w1) + (Int32.toInt64 r_4)), .retAddr 0, .int (w3 + 1), .retAddr 0]) hK ⟨Or.inr rfl, ⟨Or.inr rfl, ⟨Or.inl rfl, ⟨Or.inr rfl, ⟨Or.inl rfl, trivial⟩⟩⟩⟩⟩ ?_
      exact ih _ _ _ h
set_option maxHeartbeats 4000000 in
set_option maxRecDepth 100000 in
theorem tl_C_digest_77 {dd n : Nat} {K : mj_KT} {out : Int64 × mb_T} (hK : mj_C (dd + 5) 0 0 RC_c "digest" bC_digest 5 K) (hR : mj_R bC_digest (some .long) (fun r2 S2 => r2 = some (.long out.1) ∧ S2 = mb_s out.2) K) {k0 : Int64 → Int32 → mb_T → Option (Int64 × mb_T)} {y3 : Int32} (hk0 : ∀ (w1 : Int64) (w4 : Int32) (s : mb_T), k0 w1 w4 s = some out → K 0 0 104 [.ref 0, .long w1, .retAddr 0, .int y3, .int w4] [] (mb_s s)) : ∀ (f : Nat) (w1 : Int64) (w4 : Int32) (s : mb_T), f_C_digest_77 n k0 y3 f w1 w4 s = some out → K 0 0 77 [.ref 0, .long w1, .retAddr 0, .int y3, .int w4] [] (mb_s s) := by
  intro f
  induction f with
  | zero =>
    intro w1 w4 s h
    cases h
  | succ f ih =>
    intro w1 w4 s h
    rw [f_C_digest_77] at h
    refine ro_iload hK dC_digest_77 rfl ?_
    refine ro_iconst (x := 5) hK (by decide) dC_digest_79 ?_
    refine ro_icmp_gt (tgt := 104) hK dC_digest_80 (by decide) (fun c_9 => ?_) (fun c_9 => ?_)
    · replace h := mb_ift c_9 h
      refine ro_fg (lv' := [.ref 0, .long w1, .retAddr 0, .int y3, .int w4]) hK ⟨Or.inr rfl, ⟨Or.inr rfl, ⟨Or.inl rfl, ⟨Or.inr rfl, ⟨Or.inr rfl, trivial⟩⟩⟩⟩⟩ ?_
      exact hk0 _ _ _ h
    · replace h := mb_iff c_9 h
      refine ro_ldc2 hK cC_326 dC_digest_83 ?_
      refine ro_lload_n hK dC_digest_86 rfl ?_
      refine ro_lmul hK dC_digest_87 ?_
      refine ro_aload_n hK dC_digest_88 rfl ?_
      refine ro_iload_n hK dC_digest_89 rfl ?_
      refine ro_iload hK dC_digest_90 rfl ?_
      obtain ⟨r_12, s_10, q_11, h⟩ := mb_cl_e h
      refine rb_callV hK mC_ofPerson vC_134 (t_C_ofPerson (dd := dd + 0) q_11) rfl mb_oC rfl (Nat.le_of_ble_eq_true rfl) dC_digest_92 rfl ⟨Nat.le_refl _, Nat.le_refl _⟩ ?_
      show K 0 0 95 [.ref 0, .long w1, .retAddr 0, .int y3, .int w4] [.int r_12, .long (31 * w1)] (mb_s s_10)
      refine ro_i2l hK dC_digest_95 ?_
      refine ro_ladd hK dC_digest_96 ?_
      refine ro_lstore_n hK dC_digest_97 (by decide) ?_
      show K 0 0 98 [.ref 0, .long ((31 * w1) + (Int32.toInt64 r_12)), .retAddr 0, .int y3, .int w4] [] (mb_s s_10)
      refine ro_iincv (c := 1) hK (by decide) dC_digest_98 rfl (by decide) ?_
      show K 0 0 101 [.ref 0, .long ((31 * w1) + (Int32.toInt64 r_12)), .retAddr 0, .int y3, .int (w4 + 1)] [] (mb_s s_10)
      refine ro_goto (tgt := 77) hK dC_digest_101 (by decide) ?_
      refine ro_fg (lv' := [.ref 0, .long ((31 * w1) + (Int32.toInt64 r_12)), .retAddr 0, .int y3, .int (w4 + 1)]) hK ⟨Or.inr rfl, ⟨Or.inr rfl, ⟨Or.inl rfl, ⟨Or.inr rfl, ⟨Or.inr rfl, trivial⟩⟩⟩⟩⟩ ?_
      exact ih _ _ _ h
set_option maxHeartbeats 4000000 in
set_option maxRecDepth 100000 in
theorem tl_C_digest_63 {dd n : Nat} {K : mj_KT} {out : Int64 × mb_T} (hK : mj_C (dd + 5) 0 0 RC_c "digest" bC_digest 5 K) (hR : mj_R bC_digest (some .long) (fun r2 S2 => r2 = some (.long out.1) ∧ S2 = mb_s out.2) K) {k0 : Int64 → Int32 → mb_T → Option (Int64 × mb_T)}  (hk0 : ∀ (w1 : Int64) (w3 : Int32) (s : mb_T), k0 w1 w3 s = some out → K 0 0 110 [.ref 0, .long w1, .retAddr 0, .int w3, .retAddr 0] [] (mb_s s)) : ∀ (f : Nat) (w1 : Int64) (w3 : Int32) (s : mb_T), f_C_digest_63 n k0 f w1 w3 s = some out → K 0 0 63 [.ref 0, .long w1, .retAddr 0, .int w3, .retAddr 0] [] (mb_s s) := by
  intro f
  induction f with
  | zero =>
    intro w1 w3 s h
    cases h
  | succ f ih =>
    intro w1 w3 s h
    rw [f_C_digest_63] at h
    refine ro_iload_n hK dC_digest_63 rfl ?_
    refine ro_aload_n hK dC_digest_64 rfl ?_
    refine rb_get hK fC_29 mb_oC rfl dC_digest_65 ?_
    refine rb_get hK fC_128 (mb_cvo (Or.inl rfl)) rfl dC_digest_68 ?_
    refine ro_icmp_ge (tgt := 110) hK dC_digest_71 (by decide) (fun c_8 => ?_) (fun c_8 => ?_)
    · replace h := mb_ift c_8 h
      refine ro_fg (lv' := [.ref 0, .long w1, .retAddr 0, .int w3, .retAddr 0]) hK ⟨Or.inr rfl, ⟨Or.inr rfl, ⟨Or.inl rfl, ⟨Or.inr rfl, ⟨Or.inl rfl, trivial⟩⟩⟩⟩⟩ ?_
      exact hk0 _ _ _ h
    · replace h := mb_iff c_8 h
      refine ro_iconst (x := 0) hK (by decide) dC_digest_74 ?_
      refine ro_istore hK dC_digest_75 (by decide) ?_
      show K 0 0 77 [.ref 0, .long w1, .retAddr 0, .int w3, .int 0] [] (mb_s s)
      refine ro_fg (lv' := [.ref 0, .long w1, .retAddr 0, .int w3, .int 0]) hK ⟨Or.inr rfl, ⟨Or.inr rfl, ⟨Or.inl rfl, ⟨Or.inr rfl, ⟨Or.inr rfl, trivial⟩⟩⟩⟩⟩ ?_
      refine tl_C_digest_77 (dd := dd) hK hR (fun x_13 x_14 s_15 h => ?_) n _ _ _ h
      refine ro_iincv (c := 1) hK (by decide) dC_digest_104 rfl (by decide) ?_
      show K 0 0 107 [.ref 0, .long x_13, .retAddr 0, .int (w3 + 1), .int x_14] [] (mb_s s_15)
      refine ro_goto (tgt := 63) hK dC_digest_107 (by decide) ?_
      refine ro_fg (lv' := [.ref 0, .long x_13, .retAddr 0, .int (w3 + 1), .retAddr 0]) hK ⟨Or.inr rfl, ⟨Or.inr rfl, ⟨Or.inl rfl, ⟨Or.inr rfl, ⟨Or.inl rfl, trivial⟩⟩⟩⟩⟩ ?_
      exact ih _ _ _ h
set_option maxHeartbeats 4000000 in
set_option maxRecDepth 100000 in
theorem tl_C_digest_112 {dd n : Nat} {K : mj_KT} {out : Int64 × mb_T} (hK : mj_C (dd + 5) 0 0 RC_c "digest" bC_digest 5 K) (hR : mj_R bC_digest (some .long) (fun r2 S2 => r2 = some (.long out.1) ∧ S2 = mb_s out.2) K) {k0 : Int64 → Int32 → mb_T → Option (Int64 × mb_T)}  (hk0 : ∀ (w1 : Int64) (w3 : Int32) (s : mb_T), k0 w1 w3 s = some out → K 0 0 146 [.ref 0, .long w1, .retAddr 0, .int w3, .retAddr 0] [] (mb_s s)) : ∀ (f : Nat) (w1 : Int64) (w3 : Int32) (s : mb_T), f_C_digest_112 n k0 f w1 w3 s = some out → K 0 0 112 [.ref 0, .long w1, .retAddr 0, .int w3, .retAddr 0] [] (mb_s s) := by
  intro f
  induction f with
  | zero =>
    intro w1 w3 s h
    cases h
  | succ f ih =>
    intro w1 w3 s h
    rw [f_C_digest_112] at h
    refine ro_iload_n hK dC_digest_112 rfl ?_
    refine ro_aload_n hK dC_digest_113 rfl ?_
    refine rb_get hK fC_29 mb_oC rfl dC_digest_114 ?_
    refine rb_get hK fC_183 (mb_cvo (Or.inl rfl)) rfl dC_digest_117 ?_
    refine ro_icmp_ge (tgt := 146) hK dC_digest_120 (by decide) (fun c_19 => ?_) (fun c_19 => ?_)
    · replace h := mb_ift c_19 h
      refine ro_fg (lv' := [.ref 0, .long w1, .retAddr 0, .int w3, .retAddr 0]) hK ⟨Or.inr rfl, ⟨Or.inr rfl, ⟨Or.inl rfl, ⟨Or.inr rfl, ⟨Or.inl rfl, trivial⟩⟩⟩⟩⟩ ?_
      exact hk0 _ _ _ h
    · replace h := mb_iff c_19 h
      refine ro_ldc2 hK cC_326 dC_digest_123 ?_
      refine ro_lload_n hK dC_digest_126 rfl ?_
      refine ro_lmul hK dC_digest_127 ?_
      refine ro_aload_n hK dC_digest_128 rfl ?_
      refine rb_get hK fC_29 mb_oC rfl dC_digest_129 ?_
      refine rb_get hK fC_197 (mb_cvo (Or.inl rfl)) rfl dC_digest_132 ?_
      refine ro_iload_n hK dC_digest_135 rfl ?_
      obtain ⟨x_20, e_21, i_22, h⟩ := mb_rd_e h
      refine rb_iald hK (mb_cv10 (Or.inl rfl)) i_22 e_21 dC_digest_136 ?_
      refine ro_i2l hK dC_digest_137 ?_
      refine ro_ladd hK dC_digest_138 ?_
      refine ro_lstore_n hK dC_digest_139 (by decide) ?_
      show K 0 0 140 [.ref 0, .long ((31 * w1) + (Int32.toInt64 x_20)), .retAddr 0, .int w3, .retAddr 0] [] (mb_s s)
      refine ro_iincv (c := 1) hK (by decide) dC_digest_140 rfl (by decide) ?_
      show K 0 0 143 [.ref 0, .long ((31 * w1) + (Int32.toInt64 x_20)), .retAddr 0, .int (w3 + 1), .retAddr 0] [] (mb_s s)
      refine ro_goto (tgt := 112) hK dC_digest_143 (by decide) ?_
      refine ro_fg (lv' := [.ref 0, .long ((31 * w1) + (Int32.toInt64 x_20)), .retAddr 0, .int (w3 + 1), .retAddr 0]) hK ⟨Or.inr rfl, ⟨Or.inr rfl, ⟨Or.inl rfl, ⟨Or.inr rfl, ⟨Or.inl rfl, trivial⟩⟩⟩⟩⟩ ?_
      exact ih _ _ _ h
set_option maxHeartbeats 4000000 in
set_option maxRecDepth 100000 in
theorem tl_C_digest_148 {dd n : Nat} {K : mj_KT} {out : Int64 × mb_T} (hK : mj_C (dd + 5) 0 0 RC_c "digest" bC_digest 5 K) (hR : mj_R bC_digest (some .long) (fun r2 S2 => r2 = some (.long out.1) ∧ S2 = mb_s out.2) K) {k0 : Int64 → Int32 → mb_T → Option (Int64 × mb_T)}  (hk0 : ∀ (w1 : Int64) (w3 : Int32) (s : mb_T), k0 w1 w3 s = some out → K 0 0 172 [.ref 0, .long w1, .retAddr 0, .int w3, .retAddr 0] [] (mb_s s)) : ∀ (f : Nat) (w1 : Int64) (w3 : Int32) (s : mb_T), f_C_digest_148 n k0 f w1 w3 s = some out → K 0 0 148 [.ref 0, .long w1, .retAddr 0, .int w3, .retAddr 0] [] (mb_s s) := by
  intro f
  induction f with
  | zero =>
    intro w1 w3 s h
    cases h
  | succ f ih =>
    intro w1 w3 s h
    rw [f_C_digest_148] at h
    refine ro_iload_n hK dC_digest_148 rfl ?_
    refine ro_iconst (x := 3) hK (by decide) dC_digest_149 ?_
    refine ro_icmp_ge (tgt := 172) hK dC_digest_150 (by decide) (fun c_26 => ?_) (fun c_26 => ?_)
    · replace h := mb_ift c_26 h
      refine ro_fg (lv' := [.ref 0, .long w1, .retAddr 0, .int w3, .retAddr 0]) hK ⟨Or.inr rfl, ⟨Or.inr rfl, ⟨Or.inl rfl, ⟨Or.inr rfl, ⟨Or.inl rfl, trivial⟩⟩⟩⟩⟩ ?_
      exact hk0 _ _ _ h
    · replace h := mb_iff c_26 h
      refine ro_ldc2 hK cC_326 dC_digest_153 ?_
      refine ro_lload_n hK dC_digest_156 rfl ?_
      refine ro_lmul hK dC_digest_157 ?_
      refine ro_aload_n hK dC_digest_158 rfl ?_
      refine ro_iload_n hK dC_digest_159 rfl ?_
      obtain ⟨r_29, s_27, q_28, h⟩ := mb_cl_e h
      refine rb_callV hK mC_keptMinute vC_331 (t_C_keptMinute (dd := dd + 3) q_28) rfl mb_oC rfl (Nat.le_of_ble_eq_true rfl) dC_digest_160 rfl ⟨Nat.le_refl _, Nat.le_refl _⟩ ?_
      show K 0 0 163 [.ref 0, .long w1, .retAddr 0, .int w3, .retAddr 0] [.int r_29, .long (31 * w1)] (mb_s s_27)
      refine ro_i2l hK dC_digest_163 ?_
      refine ro_ladd hK dC_digest_164 ?_
      refine ro_lstore_n hK dC_digest_165 (by decide) ?_
      show K 0 0 166 [.ref 0, .long ((31 * w1) + (Int32.toInt64 r_29)), .retAddr 0, .int w3, .retAddr 0] [] (mb_s s_27)
      refine ro_iincv (c := 1) hK (by decide) dC_digest_166 rfl (by decide) ?_
      show K 0 0 169 [.ref 0, .long ((31 * w1) + (Int32.toInt64 r_29)), .retAddr 0, .int (w3 + 1), .retAddr 0] [] (mb_s s_27)
      refine ro_goto (tgt := 148) hK dC_digest_169 (by decide) ?_
      refine ro_fg (lv' := [.ref 0, .long ((31 * w1) + (Int32.toInt64 r_29)), .retAddr 0, .int (w3 + 1), .retAddr 0]) hK ⟨Or.inr rfl, ⟨Or.inr rfl, ⟨Or.inl rfl, ⟨Or.inr rfl, ⟨Or.inl rfl, trivial⟩⟩⟩⟩⟩ ?_
      exact ih _ _ _ h
set_option maxHeartbeats 4000000 in
set_option maxRecDepth 100000 in
theorem t_C_digest {dd n : Nat}  {s : mb_T} {out : Int64 × mb_T}  (h : f_C_digest n  s = some out) : mb_MC (dd + 5) yC_digest bC_digest 5 (some .long) [.ref 0] s (some (.long out.1)) out.2 := by
  unfold f_C_digest at h
  refine mj_mc (lv := [.ref 0, .retAddr 0, .retAddr 0, .retAddr 0, .retAddr 0]) mC_digest rfl rfl (Nat.le_of_ble_eq_true rfl) (fun K hK hR => ?_)
  have hK : mj_C (dd + 5) 0 0 RC_c "digest" bC_digest 5 K := hK
  refine ro_ldc2 hK cC_324 dC_digest_0 ?_
  refine ro_lstore_n hK dC_digest_3 (by decide) ?_
  show K 0 0 4 [.ref 0, .long 17, .retAddr 0, .retAddr 0, .retAddr 0] [] (mb_s s)
  refine ro_iconst (x := 0) hK (by decide) dC_digest_4 ?_
  refine ro_istore_n hK dC_digest_5 (by decide) ?_
  show K 0 0 6 [.ref 0, .long 17, .retAddr 0, .int 0, .retAddr 0] [] (mb_s s)
  refine ro_fg (lv' := [.ref 0, .long 17, .retAddr 0, .int 0, .retAddr 0]) hK ⟨Or.inr rfl, ⟨Or.inr rfl, ⟨Or.inl rfl, ⟨Or.inr rfl, ⟨Or.inl rfl, trivial⟩⟩⟩⟩⟩ ?_
  refine tl_C_digest_6 (dd := dd) hK hR (fun x_5 x_6 s_7 h => ?_) n _ _ _ h
  refine ro_ldc2 hK cC_326 dC_digest_31 ?_
  refine ro_lload_n hK dC_digest_34 rfl ?_
  refine ro_lmul hK dC_digest_35 ?_
  refine ro_aload_n hK dC_digest_36 rfl ?_
  refine rb_get hK fC_29 mb_oC rfl dC_digest_37 ?_
  refine rb_get hK fC_328 (mb_cvo (Or.inl rfl)) rfl dC_digest_40 ?_
  refine ro_i2l hK dC_digest_43 ?_
  refine ro_ladd hK dC_digest_44 ?_
  refine ro_lstore_n hK dC_digest_45 (by decide) ?_
  show K 0 0 46 [.ref 0, .long ((31 * x_5) + (Int32.toInt64 (s_7.1 100 1))), .retAddr 0, .int x_6, .retAddr 0] [] (mb_s s_7)
  refine ro_ldc2 hK cC_326 dC_digest_46 ?_
  refine ro_lload_n hK dC_digest_49 rfl ?_
  refine ro_lmul hK dC_digest_50 ?_
  refine ro_aload_n hK dC_digest_51 rfl ?_
  refine rb_get hK fC_29 mb_oC rfl dC_digest_52 ?_
  refine rb_get hK fC_171 (mb_cvo (Or.inl rfl)) rfl dC_digest_55 ?_
  refine ro_i2l hK dC_digest_58 ?_
  refine ro_ladd hK dC_digest_59 ?_
  refine ro_lstore_n hK dC_digest_60 (by decide) ?_
  show K 0 0 61 [.ref 0, .long ((31 * ((31 * x_5) + (Int32.toInt64 (s_7.1 100 1)))) + (Int32.toInt64 (s_7.1 100 2))), .retAddr 0, .int x_6, .retAddr 0] [] (mb_s s_7)
  refine ro_iconst (x := 0) hK (by decide) dC_digest_61 ?_
  refine ro_istore_n hK dC_digest_62 (by decide) ?_
  show K 0 0 63 [.ref 0, .long ((31 * ((31 * x_5) + (Int32.toInt64 (s_7.1 100 1)))) + (Int32.toInt64 (s_7.1 100 2))), .retAddr 0, .int 0, .retAddr 0] [] (mb_s s_7)
  refine ro_fg (lv' := [.ref 0, .long ((31 * ((31 * x_5) + (Int32.toInt64 (s_7.1 100 1)))) + (Int32.toInt64 (s_7.1 100 2))), .retAddr 0, .int 0, .retAddr 0]) hK ⟨Or.inr rfl, ⟨Or.inr rfl, ⟨Or.inl rfl, ⟨Or.inr rfl, ⟨Or.inl rfl, trivial⟩⟩⟩⟩⟩ ?_
  refine tl_C_digest_63 (dd := dd) hK hR (fun x_16 x_17 s_18 h => ?_) n _ _ _ h
  refine ro_iconst (x := 0) hK (by decide) dC_digest_110 ?_
  refine ro_istore_n hK dC_digest_111 (by decide) ?_
  show K 0 0 112 [.ref 0, .long x_16, .retAddr 0, .int 0, .retAddr 0] [] (mb_s s_18)
  refine ro_fg (lv' := [.ref 0, .long x_16, .retAddr 0, .int 0, .retAddr 0]) hK ⟨Or.inr rfl, ⟨Or.inr rfl, ⟨Or.inl rfl, ⟨Or.inr rfl, ⟨Or.inl rfl, trivial⟩⟩⟩⟩⟩ ?_
  refine tl_C_digest_112 (dd := dd) hK hR (fun x_23 x_24 s_25 h => ?_) n _ _ _ h
  refine ro_iconst (x := 0) hK (by decide) dC_digest_146 ?_
  refine ro_istore_n hK dC_digest_147 (by decide) ?_
  show K 0 0 148 [.ref 0, .long x_23, .retAddr 0, .int 0, .retAddr 0] [] (mb_s s_25)
  refine ro_fg (lv' := [.ref 0, .long x_23, .retAddr 0, .int 0, .retAddr 0]) hK ⟨Or.inr rfl, ⟨Or.inr rfl, ⟨Or.inl rfl, ⟨Or.inr rfl, ⟨Or.inl rfl, trivial⟩⟩⟩⟩⟩ ?_
  refine tl_C_digest_148 (dd := dd) hK hR (fun x_30 x_31 s_32 h => ?_) n _ _ _ h
  refine ro_aload_n hK dC_digest_172 rfl ?_
  refine ro_aload_n hK dC_digest_173 rfl ?_
  refine ro_lload_n hK dC_digest_174 rfl ?_
  obtain ⟨r_35, s_33, q_34, h⟩ := mb_cl_e h
  refine rb_callV hK mC_withRows vC_334 (t_C_withRows (dd := dd + 3) q_34) rfl mb_oC rfl (Nat.le_of_ble_eq_true rfl) dC_digest_175 rfl ⟨Nat.le_refl _, Nat.le_refl _⟩ ?_
  show K 0 0 178 [.ref 0, .long x_30, .retAddr 0, .int x_31, .retAddr 0] [.long r_35, .ref 0] (mb_s s_33)
  obtain ⟨r_38, s_36, q_37, h⟩ := mb_cl_e h
  refine rb_callV hK mC_withTexts vC_338 (t_C_withTexts (dd := dd + 3) q_37) rfl mb_oC rfl (Nat.le_of_ble_eq_true rfl) dC_digest_178 rfl ⟨Nat.le_refl _, Nat.le_refl _⟩ ?_
  show K 0 0 181 [.ref 0, .long x_30, .retAddr 0, .int x_31, .retAddr 0] [.long r_38] (mb_s s_36)
  cases h
  exact hR.2.1 0 0 181 _ _ _ rfl dC_digest_181 ⟨rfl, rfl⟩
theorem dC_fault_0 : decode bC_fault 0 = .ok (.aload_n 0, 1) := by decide +kernel
theorem dC_fault_1 : decode bC_fault 1 = .ok (.iload_n 1, 1) := by decide +kernel
theorem dC_fault_2 : decode bC_fault 2 = .ok (.invokevirtual 114, 3) := by decide +kernel
theorem dC_fault_5 : decode bC_fault 5 = .ok (.istore_n 2, 1) := by decide +kernel
theorem dC_fault_6 : decode bC_fault 6 = .ok (.iload_n 2, 1) := by decide +kernel
theorem dC_fault_7 : decode bC_fault 7 = .ok (.ifCond .eq 5, 3) := by decide +kernel
theorem dC_fault_10 : decode bC_fault 10 = .ok (.iload_n 2, 1) := by decide +kernel
theorem dC_fault_11 : decode bC_fault 11 = .ok (.ireturn, 1) := by decide +kernel
theorem dC_fault_12 : decode bC_fault 12 = .ok (.aload_n 0, 1) := by decide +kernel
theorem dC_fault_13 : decode bC_fault 13 = .ok (.getfield 43, 3) := by decide +kernel
theorem dC_fault_16 : decode bC_fault 16 = .ok (.aload_n 0, 1) := by decide +kernel
theorem dC_fault_17 : decode bC_fault 17 = .ok (.getfield 20, 3) := by decide +kernel
theorem dC_fault_20 : decode bC_fault 20 = .ok (.iload_n 1, 1) := by decide +kernel
theorem dC_fault_21 : decode bC_fault 21 = .ok (.aaload, 1) := by decide +kernel
theorem dC_fault_22 : decode bC_fault 22 = .ok (.aload_n 0, 1) := by decide +kernel
theorem dC_fault_23 : decode bC_fault 23 = .ok (.getfield 23, 3) := by decide +kernel
theorem dC_fault_26 : decode bC_fault 26 = .ok (.iload_n 1, 1) := by decide +kernel
theorem dC_fault_27 : decode bC_fault 27 = .ok (.iaload, 1) := by decide +kernel
theorem dC_fault_28 : decode bC_fault 28 = .ok (.aload_n 0, 1) := by decide +kernel
theorem dC_fault_29 : decode bC_fault 29 = .ok (.getfield 33, 3) := by decide +kernel
theorem dC_fault_32 : decode bC_fault 32 = .ok (.invokevirtual 117, 3) := by decide +kernel
theorem dC_fault_35 : decode bC_fault 35 = .ok (.ireturn, 1) := by decide +kernel
def f_C_fault (n : Nat) (x1 : Int32) (s : mb_T) : Option (Int32 × mb_T) := mb_cl (f_C_textRefusal n x1 s) fun r_3 s_1 => if r_3 = 0 then (mb_ix x1 4 (mb_rd s_1 3 4 x1 fun x_6 => mb_cl (f_R_read n (30 + x1.toNatClampNeg) x_6 120 s_1) fun r_11 s_9 => some (r_11, s_9))) else some (r_3, s_1)
set_option maxHeartbeats 4000000 in
set_option maxRecDepth 100000 in
theorem t_C_fault {dd n : Nat} {x1 : Int32} {s : mb_T} {out : Int32 × mb_T}  (h : f_C_fault n x1 s = some out) : mb_MC (dd + 5) yC_fault bC_fault 3 (some .int) [.ref 0, .int x1] s (some (.int out.1)) out.2 := by
  unfold f_C_fault at h
  refine mj_mc (lv := [.ref 0, .int x1, .retAddr 0]) mC_fault rfl rfl (Nat.le_of_ble_eq_true rfl) (fun K hK hR => ?_)
  have hK : mj_C (dd + 5) 0 0 RC_c "fault" bC_fault 3 K := hK
  refine ro_aload_n hK dC_fault_0 rfl ?_
  refine ro_iload_n hK dC_fault_1 rfl ?_
  obtain ⟨r_3, s_1, q_2, h⟩ := mb_cl_e h
  refine rb_callV hK mC_textRefusal vC_114 (t_C_textRefusal (dd := dd + 2) q_2) rfl mb_oC rfl (Nat.le_of_ble_eq_true rfl) dC_fault_2 rfl ⟨Nat.le_refl _, Nat.le_refl _⟩ ?_
  show K 0 0 5 [.ref 0, .int x1, .retAddr 0] [.int r_3] (mb_s s_1)
  refine ro_istore_n hK dC_fault_5 (by decide) ?_
  show K 0 0 6 [.ref 0, .int x1, .int r_3] [] (mb_s s_1)
  refine ro_iload_n hK dC_fault_6 rfl ?_
  refine ro_if_eq (tgt := 12) hK dC_fault_7 (by decide) (fun c_4 => ?_) (fun c_4 => ?_)
  · replace h := mb_ift c_4 h
    refine ro_aload_n hK dC_fault_12 rfl ?_
    refine rb_get hK fC_43 mb_oC rfl dC_fault_13 ?_
    refine ro_aload_n hK dC_fault_16 rfl ?_
    refine rb_get hK fC_20 mb_oC rfl dC_fault_17 ?_
    refine ro_iload_n hK dC_fault_20 rfl ?_
    obtain ⟨i_5, h⟩ := mb_ix_e h
    refine rb_texts hK i_5 dC_fault_21 ?_
    refine ro_aload_n hK dC_fault_22 rfl ?_
    refine rb_get hK fC_23 mb_oC rfl dC_fault_23 ?_
    refine ro_iload_n hK dC_fault_26 rfl ?_
    obtain ⟨x_6, e_7, i_8, h⟩ := mb_rd_e h
    refine rb_iald hK ai_3 i_8 e_7 dC_fault_27 ?_
    refine ro_aload_n hK dC_fault_28 rfl ?_
    refine rb_get hK fC_33 mb_oC rfl dC_fault_29 ?_
    obtain ⟨r_11, s_9, q_10, h⟩ := mb_cl_e h
    refine rb_callV hK mR_read vC_117 (t_R_read (dd := dd + 0) (mb_tx i_5) (Or.inr (Or.inl rfl)) q_10) rfl mb_oR rfl (Nat.le_of_ble_eq_true rfl) dC_fault_32 rfl ⟨Nat.le_refl _, Nat.le_refl _⟩ ?_
    show K 0 0 35 [.ref 0, .int x1, .int r_3] [.int r_11] (mb_s s_9)
    cases h
    exact hR.1 0 0 35 _ _ _ _ rfl rfl dC_fault_35 ⟨rfl, rfl⟩
  · replace h := mb_iff c_4 h
    refine ro_iload_n hK dC_fault_10 rfl ?_
    cases h
    exact hR.1 0 0 11 _ _ _ _ rfl rfl dC_fault_11 ⟨rfl, rfl⟩
theorem dC_judge_0 : decode bC_judge 0 = .ok (.aload_n 0, 1) := by decide +kernel
theorem dC_judge_1 : decode bC_judge 1 = .ok (.iload_n 1, 1) := by decide +kernel
theorem dC_judge_2 : decode bC_judge 2 = .ok (.invokevirtual 287, 3) := by decide +kernel
theorem dC_judge_5 : decode bC_judge 5 = .ok (.istore_n 2, 1) := by decide +kernel
theorem dC_judge_6 : decode bC_judge 6 = .ok (.iload_n 2, 1) := by decide +kernel
theorem dC_judge_7 : decode bC_judge 7 = .ok (.ifCond .eq 5, 3) := by decide +kernel
theorem dC_judge_10 : decode bC_judge 10 = .ok (.iload_n 2, 1) := by decide +kernel
theorem dC_judge_11 : decode bC_judge 11 = .ok (.ireturn, 1) := by decide +kernel
theorem dC_judge_12 : decode bC_judge 12 = .ok (.aload_n 0, 1) := by decide +kernel
theorem dC_judge_13 : decode bC_judge 13 = .ok (.getfield 50, 3) := by decide +kernel
theorem dC_judge_16 : decode bC_judge 16 = .ok (.aload_n 0, 1) := by decide +kernel
theorem dC_judge_17 : decode bC_judge 17 = .ok (.getfield 29, 3) := by decide +kernel
theorem dC_judge_20 : decode bC_judge 20 = .ok (.invokevirtual 144, 3) := by decide +kernel
theorem dC_judge_23 : decode bC_judge 23 = .ok (.aload_n 0, 1) := by decide +kernel
theorem dC_judge_24 : decode bC_judge 24 = .ok (.getfield 14, 3) := by decide +kernel
theorem dC_judge_27 : decode bC_judge 27 = .ok (.iload_n 1, 1) := by decide +kernel
theorem dC_judge_28 : decode bC_judge 28 = .ok (.iaload, 1) := by decide +kernel
theorem dC_judge_29 : decode bC_judge 29 = .ok (.istore_n 3, 1) := by decide +kernel
theorem dC_judge_30 : decode bC_judge 30 = .ok (.iload_n 3, 1) := by decide +kernel
theorem dC_judge_31 : decode bC_judge 31 = .ok (.istore 4, 2) := by decide +kernel
theorem dC_judge_33 : decode bC_judge 33 = .ok (.aload_n 0, 1) := by decide +kernel
theorem dC_judge_34 : decode bC_judge 34 = .ok (.getfield 50, 3) := by decide +kernel
theorem dC_judge_37 : decode bC_judge 37 = .ok (.invokevirtual 186, 3) := by decide +kernel
theorem dC_judge_40 : decode bC_judge 40 = .ok (.ifCond .eq 7, 3) := by decide +kernel
theorem dC_judge_43 : decode bC_judge 43 = .ok (.iconst 0, 1) := by decide +kernel
theorem dC_judge_44 : decode bC_judge 44 = .ok (.goto 5, 3) := by decide +kernel
theorem dC_judge_47 : decode bC_judge 47 = .ok (.bipush (-9), 2) := by decide +kernel
theorem dC_judge_49 : decode bC_judge 49 = .ok (.istore 5, 2) := by decide +kernel
theorem dC_judge_51 : decode bC_judge 51 = .ok (.iconst 0, 1) := by decide +kernel
theorem dC_judge_52 : decode bC_judge 52 = .ok (.istore 6, 2) := by decide +kernel
theorem dC_judge_54 : decode bC_judge 54 = .ok (.iload 6, 2) := by decide +kernel
theorem dC_judge_56 : decode bC_judge 56 = .ok (.iload_n 3, 1) := by decide +kernel
theorem dC_judge_57 : decode bC_judge 57 = .ok (.if_icmp .ge 81, 3) := by decide +kernel
theorem dC_judge_60 : decode bC_judge 60 = .ok (.aload_n 0, 1) := by decide +kernel
theorem dC_judge_61 : decode bC_judge 61 = .ok (.getfield 11, 3) := by decide +kernel
theorem dC_judge_64 : decode bC_judge 64 = .ok (.iload_n 1, 1) := by decide +kernel
theorem dC_judge_65 : decode bC_judge 65 = .ok (.aaload, 1) := by decide +kernel
theorem dC_judge_66 : decode bC_judge 66 = .ok (.iload 6, 2) := by decide +kernel
theorem dC_judge_68 : decode bC_judge 68 = .ok (.iaload, 1) := by decide +kernel
theorem dC_judge_69 : decode bC_judge 69 = .ok (.istore 7, 2) := by decide +kernel
theorem dC_judge_71 : decode bC_judge 71 = .ok (.iload 4, 2) := by decide +kernel
theorem dC_judge_73 : decode bC_judge 73 = .ok (.iload_n 3, 1) := by decide +kernel
theorem dC_judge_74 : decode bC_judge 74 = .ok (.if_icmp .ne 26, 3) := by decide +kernel
theorem dC_judge_77 : decode bC_judge 77 = .ok (.aload_n 0, 1) := by decide +kernel
theorem dC_judge_78 : decode bC_judge 78 = .ok (.getfield 50, 3) := by decide +kernel
theorem dC_judge_81 : decode bC_judge 81 = .ok (.aload_n 0, 1) := by decide +kernel
theorem dC_judge_82 : decode bC_judge 82 = .ok (.getfield 29, 3) := by decide +kernel
theorem dC_judge_85 : decode bC_judge 85 = .ok (.getfield 171, 3) := by decide +kernel
theorem dC_judge_88 : decode bC_judge 88 = .ok (.invokevirtual 190, 3) := by decide +kernel
theorem dC_judge_91 : decode bC_judge 91 = .ok (.iload 7, 2) := by decide +kernel
theorem dC_judge_93 : decode bC_judge 93 = .ok (.if_icmp .eq 7, 3) := by decide +kernel
theorem dC_judge_96 : decode bC_judge 96 = .ok (.iload 6, 2) := by decide +kernel
theorem dC_judge_98 : decode bC_judge 98 = .ok (.istore 4, 2) := by decide +kernel
theorem dC_judge_100 : decode bC_judge 100 = .ok (.aload_n 0, 1) := by decide +kernel
theorem dC_judge_101 : decode bC_judge 101 = .ok (.getfield 50, 3) := by decide +kernel
theorem dC_judge_104 : decode bC_judge 104 = .ok (.iload 7, 2) := by decide +kernel
theorem dC_judge_106 : decode bC_judge 106 = .ok (.invokevirtual 241, 3) := by decide +kernel
theorem dC_judge_109 : decode bC_judge 109 = .ok (.iload 5, 2) := by decide +kernel
theorem dC_judge_111 : decode bC_judge 111 = .ok (.bipush (-9), 2) := by decide +kernel
theorem dC_judge_113 : decode bC_judge 113 = .ok (.if_icmp .ne 19, 3) := by decide +kernel
theorem dC_judge_116 : decode bC_judge 116 = .ok (.aload_n 0, 1) := by decide +kernel
theorem dC_judge_117 : decode bC_judge 117 = .ok (.getfield 50, 3) := by decide +kernel
theorem dC_judge_120 : decode bC_judge 120 = .ok (.invokevirtual 186, 3) := by decide +kernel
theorem dC_judge_123 : decode bC_judge 123 = .ok (.ifCond .eq 9, 3) := by decide +kernel
theorem dC_judge_126 : decode bC_judge 126 = .ok (.iload 6, 2) := by decide +kernel
theorem dC_judge_128 : decode bC_judge 128 = .ok (.iconst 1, 1) := by decide +kernel
theorem dC_judge_129 : decode bC_judge 129 = .ok (.iadd, 1) := by decide +kernel
theorem dC_judge_130 : decode bC_judge 130 = .ok (.istore 5, 2) := by decide +kernel
theorem dC_judge_132 : decode bC_judge 132 = .ok (.iinc 6 1, 3) := by decide +kernel
theorem dC_judge_135 : decode bC_judge 135 = .ok (.goto (-81), 3) := by decide +kernel
theorem dC_judge_138 : decode bC_judge 138 = .ok (.aload_n 0, 1) := by decide +kernel
theorem dC_judge_139 : decode bC_judge 139 = .ok (.iload 5, 2) := by decide +kernel
theorem dC_judge_141 : decode bC_judge 141 = .ok (.putfield 74, 3) := by decide +kernel
theorem dC_judge_144 : decode bC_judge 144 = .ok (.iload 4, 2) := by decide +kernel
theorem dC_judge_146 : decode bC_judge 146 = .ok (.ireturn, 1) := by decide +kernel
def f_C_judge_54 (n : Nat) (k0 : Int32 → Int32 → Int32 → mb_T → Option (Int32 × mb_T)) (y1 : Int32) (y3 : Int32) : Nat → Int32 → Int32 → Int32 → mb_T → Option (Int32 × mb_T)
  | 0, _, _, _, _ => none
  | f + 1, w4, w5, w6, s => if y3 ≤ w6 then k0 w4 w5 w6 s else mb_ix y1 6 (mb_rd s (20 + y1.toNatClampNeg) 60 w6 fun x_17 => mb_jn (fun (x_26 : Int32) (s_27 : mb_T) => mb_cw (f_A_pass n x_17 s_27) fun s_28 => if w5 = (-9) then (mb_cl (f_A_isOver n s_28) fun r_33 s_31 => if r_33 = 0 then f_C_judge_54 n k0 y1 y3 f x_26 w5 (w6 + 1) s_31 else f_C_judge_54 n k0 y1 y3 f x_26 (w6 + 1) (w6 + 1) s_31) else f_C_judge_54 n k0 y1 y3 f x_26 w5 (w6 + 1) s_28) fun j_20 => if w4 = y3 then (mb_cl (f_A_byLaw n (s.1 100 2) s) fun r_24 s_22 => if r_24 = x_17 then j_20 w4 s_22 else j_20 w6 s_22) else j_20 w4 s)
def f_C_judge (n : Nat) (x1 : Int32) (s : mb_T) : Option (Int32 × mb_T) := mb_cl (f_C_handingsRefusal n x1 s) fun r_3 s_1 => if r_3 = 0 then (mb_cw (f_A_begin n 100 s_1) fun s_5 => mb_rd s_5 1 6 x1 fun x_7 => mb_cl (f_A_isOver n s_5) fun r_12 s_10 => f_C_judge_54 n (fun x_36 x_37 x_38 s_39 => mb_bd (sF s_39 0 14 x_37) fun s_40 => some (x_36, s_40)) x1 x_7 n x_7 (if r_12 = 0 then (-9) else 0 : Int32) 0 s_10) else some (r_3, s_1)
set_option maxHeartbeats 4000000 in
set_option maxRecDepth 100000 in
theorem tl_C_judge_54 {dd n : Nat} {K : mj_KT} {out : Int32 × mb_T} (hK : mj_C (dd + 5) 0 0 RC_c "judge" bC_judge 8 K) (hR : mj_R bC_judge (some .int) (fun r2 S2 => r2 = some (.int out.1) ∧ S2 = mb_s out.2) K) {k0 : Int32 → Int32 → Int32 → mb_T → Option (Int32 × mb_T)} {y1 : Int32} {y3 : Int32} (hk0 : ∀ (w4 : Int32) (w5 : Int32) (w6 : Int32) (s : mb_T), k0 w4 w5 w6 s = some out → K 0 0 138 [.ref 0, .int y1, .retAddr 0, .int y3, .int w4, .int w5, .int w6, .retAddr 0] [] (mb_s s)) : ∀ (f : Nat) (w4 : Int32) (w5 : Int32) (w6 : Int32) (s : mb_T), f_C_judge_54 n k0 y1 y3 f w4 w5 w6 s = some out → K 0 0 54 [.ref 0, .int y1, .retAddr 0, .int y3, .int w4, .int w5, .int w6, .retAddr 0] [] (mb_s s) := by
  intro f
  induction f with
  | zero =>
    intro w4 w5 w6 s h
    cases h
  | succ f ih =>
    intro w4 w5 w6 s h
    rw [f_C_judge_54] at h
    refine ro_iload hK dC_judge_54 rfl ?_
    refine ro_iload_n hK dC_judge_56 rfl ?_
    refine ro_icmp_ge (tgt := 138) hK dC_judge_57 (by decide) (fun c_15 => ?_) (fun c_15 => ?_)
    · replace h := mb_ift c_15 h
      refine ro_fg (lv' := [.ref 0, .int y1, .retAddr 0, .int y3, .int w4, .int w5, .int w6, .retAddr 0]) hK ⟨Or.inr rfl, ⟨Or.inr rfl, ⟨Or.inl rfl, ⟨Or.inr rfl, ⟨Or.inr rfl, ⟨Or.inr rfl, ⟨Or.inr rfl, ⟨Or.inl rfl, trivial⟩⟩⟩⟩⟩⟩⟩⟩ ?_
      exact hk0 _ _ _ _ h
    · replace h := mb_iff c_15 h
      refine ro_aload_n hK dC_judge_60 rfl ?_
      refine rb_get hK fC_11 mb_oC rfl dC_judge_61 ?_
      refine ro_iload_n hK dC_judge_64 rfl ?_
      obtain ⟨i_16, h⟩ := mb_ix_e h
      refine rb_rows hK i_16 dC_judge_65 ?_
      refine ro_iload hK dC_judge_66 rfl ?_
      obtain ⟨x_17, e_18, i_19, h⟩ := mb_rd_e h
      refine rb_iald hK (mb_rw i_16) i_19 e_18 dC_judge_68 ?_
      refine ro_istore hK dC_judge_69 (by decide) ?_
      show K 0 0 71 [.ref 0, .int y1, .retAddr 0, .int y3, .int w4, .int w5, .int w6, .int x_17] [] (mb_s s)
      refine ro_iload hK dC_judge_71 rfl ?_
      refine ro_iload_n hK dC_judge_73 rfl ?_
      obtain ⟨j_20, e_35, h⟩ := mb_jn_e h
      have hj_20 : ∀ (x_26 : Int32) (s_27 : mb_T), j_20 x_26 s_27 = some out → K 0 0 100 [.ref 0, .int y1, .retAddr 0, .int y3, .int x_26, .int w5, .int w6, .int x_17] [] (mb_s s_27) := by
        intro x_26 s_27 h
        rw [e_35] at h
        refine ro_aload_n hK dC_judge_100 rfl ?_
        refine rb_get hK fC_50 mb_oC rfl dC_judge_101 ?_
        refine ro_iload hK dC_judge_104 rfl ?_
        obtain ⟨s_28, q_29, h⟩ := mb_cw_e h
        refine rb_callV hK mA_pass vC_241 (t_A_pass (dd := dd + 2) q_29) rfl mb_oA rfl (Nat.le_of_ble_eq_true rfl) dC_judge_106 rfl ⟨Nat.le_refl _, Nat.le_refl _⟩ ?_
        show K 0 0 109 [.ref 0, .int y1, .retAddr 0, .int y3, .int x_26, .int w5, .int w6, .int x_17] [] (mb_s s_28)
        refine ro_iload hK dC_judge_109 rfl ?_
        refine ro_bipush (x := (-9)) hK (by decide) dC_judge_111 ?_
        refine ro_icmp_ne (tgt := 132) hK dC_judge_113 (by decide) (fun c_30 => ?_) (fun c_30 => ?_)
        · replace h := mb_iff c_30 h
          refine ro_iincv (c := 1) hK (by decide) dC_judge_132 rfl (by decide) ?_
          show K 0 0 135 [.ref 0, .int y1, .retAddr 0, .int y3, .int x_26, .int w5, .int (w6 + 1), .int x_17] [] (mb_s s_28)
          refine ro_goto (tgt := 54) hK dC_judge_135 (by decide) ?_
          refine ro_fg (lv' := [.ref 0, .int y1, .retAddr 0, .int y3, .int x_26, .int w5, .int (w6 + 1), .retAddr 0]) hK ⟨Or.inr rfl, ⟨Or.inr rfl, ⟨Or.inl rfl, ⟨Or.inr rfl, ⟨Or.inr rfl, ⟨Or.inr rfl, ⟨Or.inr rfl, ⟨Or.inl rfl, trivial⟩⟩⟩⟩⟩⟩⟩⟩ ?_
          exact ih _ _ _ _ h
        · replace h := mb_ift c_30 h
          refine ro_aload_n hK dC_judge_116 rfl ?_
          refine rb_get hK fC_50 mb_oC rfl dC_judge_117 ?_
          obtain ⟨r_33, s_31, q_32, h⟩ := mb_cl_e h
          refine rb_callV hK mA_isOver vC_186 (t_A_isOver (dd := dd + 2) q_32) rfl mb_oA rfl (Nat.le_of_ble_eq_true rfl) dC_judge_120 rfl ⟨Nat.le_refl _, Nat.le_refl _⟩ ?_
          show K 0 0 123 [.ref 0, .int y1, .retAddr 0, .int y3, .int x_26, .int w5, .int w6, .int x_17] [.int r_33] (mb_s s_31)
          refine ro_if_eq (tgt := 132) hK dC_judge_123 (by decide) (fun c_34 => ?_) (fun c_34 => ?_)
          · replace h := mb_ift c_34 h
            refine ro_iincv (c := 1) hK (by decide) dC_judge_132 rfl (by decide) ?_
            show K 0 0 135 [.ref 0, .int y1, .retAddr 0, .int y3, .int x_26, .int w5, .int (w6 + 1), .int x_17] [] (mb_s s_31)
            refine ro_goto (tgt := 54) hK dC_judge_135 (by decide) ?_
            refine ro_fg (lv' := [.ref 0, .int y1, .retAddr 0, .int y3, .int x_26, .int w5, .int (w6 + 1), .retAddr 0]) hK ⟨Or.inr rfl, ⟨Or.inr rfl, ⟨Or.inl rfl, ⟨Or.inr rfl, ⟨Or.inr rfl, ⟨Or.inr rfl, ⟨Or.inr rfl, ⟨Or.inl rfl, trivial⟩⟩⟩⟩⟩⟩⟩⟩ ?_
            exact ih _ _ _ _ h
          · replace h := mb_iff c_34 h
            refine ro_iload hK dC_judge_126 rfl ?_
            refine ro_iconst (x := 1) hK (by decide) dC_judge_128 ?_
            refine ro_iadd hK dC_judge_129 ?_
            refine ro_istore hK dC_judge_130 (by decide) ?_
            show K 0 0 132 [.ref 0, .int y1, .retAddr 0, .int y3, .int x_26, .int (w6 + 1), .int w6, .int x_17] [] (mb_s s_31)
            refine ro_iincv (c := 1) hK (by decide) dC_judge_132 rfl (by decide) ?_
            show K 0 0 135 [.ref 0, .int y1, .retAddr 0, .int y3, .int x_26, .int (w6 + 1), .int (w6 + 1), .int x_17] [] (mb_s s_31)
            refine ro_goto (tgt := 54) hK dC_judge_135 (by decide) ?_
            refine ro_fg (lv' := [.ref 0, .int y1, .retAddr 0, .int y3, .int x_26, .int (w6 + 1), .int (w6 + 1), .retAddr 0]) hK ⟨Or.inr rfl, ⟨Or.inr rfl, ⟨Or.inl rfl, ⟨Or.inr rfl, ⟨Or.inr rfl, ⟨Or.inr rfl, ⟨Or.inr rfl, ⟨Or.inl rfl, trivial⟩⟩⟩⟩⟩⟩⟩⟩ ?_
            exact ih _ _ _ _ h
      refine ro_icmp_ne (tgt := 100) hK dC_judge_74 (by decide) (fun c_21 => ?_) (fun c_21 => ?_)
      · replace h := mb_iff c_21 h
        refine ro_fg (lv' := [.ref 0, .int y1, .retAddr 0, .int y3, .int w4, .int w5, .int w6, .int x_17]) hK ⟨Or.inr rfl, ⟨Or.inr rfl, ⟨Or.inl rfl, ⟨Or.inr rfl, ⟨Or.inr rfl, ⟨Or.inr rfl, ⟨Or.inr rfl, ⟨Or.inr rfl, trivial⟩⟩⟩⟩⟩⟩⟩⟩ ?_
        exact hj_20 _ _ h
      · replace h := mb_ift c_21 h
        refine ro_aload_n hK dC_judge_77 rfl ?_
        refine rb_get hK fC_50 mb_oC rfl dC_judge_78 ?_
        refine ro_aload_n hK dC_judge_81 rfl ?_
        refine rb_get hK fC_29 mb_oC rfl dC_judge_82 ?_
        refine rb_get hK fC_171 (mb_cvo (Or.inl rfl)) rfl dC_judge_85 ?_
        obtain ⟨r_24, s_22, q_23, h⟩ := mb_cl_e h
        refine rb_callV hK mA_byLaw vC_190 (t_A_byLaw (dd := dd + 0) q_23) rfl mb_oA rfl (Nat.le_of_ble_eq_true rfl) dC_judge_88 rfl ⟨Nat.le_refl _, Nat.le_refl _⟩ ?_
        show K 0 0 91 [.ref 0, .int y1, .retAddr 0, .int y3, .int w4, .int w5, .int w6, .int x_17] [.int r_24] (mb_s s_22)
        refine ro_iload hK dC_judge_91 rfl ?_
        refine ro_icmp_eq (tgt := 100) hK dC_judge_93 (by decide) (fun c_25 => ?_) (fun c_25 => ?_)
        · replace h := mb_ift c_25 h
          refine ro_fg (lv' := [.ref 0, .int y1, .retAddr 0, .int y3, .int w4, .int w5, .int w6, .int x_17]) hK ⟨Or.inr rfl, ⟨Or.inr rfl, ⟨Or.inl rfl, ⟨Or.inr rfl, ⟨Or.inr rfl, ⟨Or.inr rfl, ⟨Or.inr rfl, ⟨Or.inr rfl, trivial⟩⟩⟩⟩⟩⟩⟩⟩ ?_
          exact hj_20 _ _ h
        · replace h := mb_iff c_25 h
          refine ro_iload hK dC_judge_96 rfl ?_
          refine ro_istore hK dC_judge_98 (by decide) ?_
          show K 0 0 100 [.ref 0, .int y1, .retAddr 0, .int y3, .int w6, .int w5, .int w6, .int x_17] [] (mb_s s_22)
          refine ro_fg (lv' := [.ref 0, .int y1, .retAddr 0, .int y3, .int w6, .int w5, .int w6, .int x_17]) hK ⟨Or.inr rfl, ⟨Or.inr rfl, ⟨Or.inl rfl, ⟨Or.inr rfl, ⟨Or.inr rfl, ⟨Or.inr rfl, ⟨Or.inr rfl, ⟨Or.inr rfl, trivial⟩⟩⟩⟩⟩⟩⟩⟩ ?_
          exact hj_20 _ _ h
set_option maxHeartbeats 4000000 in
set_option maxRecDepth 100000 in
theorem t_C_judge {dd n : Nat} {x1 : Int32} {s : mb_T} {out : Int32 × mb_T}  (h : f_C_judge n x1 s = some out) : mb_MC (dd + 5) yC_judge bC_judge 8 (some .int) [.ref 0, .int x1] s (some (.int out.1)) out.2 := by
  unfold f_C_judge at h
  refine mj_mc (lv := [.ref 0, .int x1, .retAddr 0, .retAddr 0, .retAddr 0, .retAddr 0, .retAddr 0, .retAddr 0]) mC_judge rfl rfl (Nat.le_of_ble_eq_true rfl) (fun K hK hR => ?_)
  have hK : mj_C (dd + 5) 0 0 RC_c "judge" bC_judge 8 K := hK
  refine ro_aload_n hK dC_judge_0 rfl ?_
  refine ro_iload_n hK dC_judge_1 rfl ?_
  obtain ⟨r_3, s_1, q_2, h⟩ := mb_cl_e h
  refine rb_callV hK mC_handingsRefusal vC_287 (t_C_handingsRefusal (dd := dd + 2) q_2) rfl mb_oC rfl (Nat.le_of_ble_eq_true rfl) dC_judge_2 rfl ⟨Nat.le_refl _, Nat.le_refl _⟩ ?_
  show K 0 0 5 [.ref 0, .int x1, .retAddr 0, .retAddr 0, .retAddr 0, .retAddr 0, .retAddr 0, .retAddr 0] [.int r_3] (mb_s s_1)
  refine ro_istore_n hK dC_judge_5 (by decide) ?_
  show K 0 0 6 [.ref 0, .int x1, .int r_3, .retAddr 0, .retAddr 0, .retAddr 0, .retAddr 0, .retAddr 0] [] (mb_s s_1)
  refine ro_iload_n hK dC_judge_6 rfl ?_
  refine ro_if_eq (tgt := 12) hK dC_judge_7 (by decide) (fun c_4 => ?_) (fun c_4 => ?_)
  · replace h := mb_ift c_4 h
    refine ro_aload_n hK dC_judge_12 rfl ?_
    refine rb_get hK fC_50 mb_oC rfl dC_judge_13 ?_
    refine ro_aload_n hK dC_judge_16 rfl ?_
    refine rb_get hK fC_29 mb_oC rfl dC_judge_17 ?_
    obtain ⟨s_5, q_6, h⟩ := mb_cw_e h
    refine rb_callV hK mA_begin vC_144 (t_A_begin (dd := dd + 1) (Or.inl rfl) q_6) rfl mb_oA rfl (Nat.le_of_ble_eq_true rfl) dC_judge_20 rfl ⟨Nat.le_refl _, Nat.le_refl _⟩ ?_
    show K 0 0 23 [.ref 0, .int x1, .int r_3, .retAddr 0, .retAddr 0, .retAddr 0, .retAddr 0, .retAddr 0] [] (mb_s s_5)
    refine ro_aload_n hK dC_judge_23 rfl ?_
    refine rb_get hK fC_14 mb_oC rfl dC_judge_24 ?_
    refine ro_iload_n hK dC_judge_27 rfl ?_
    obtain ⟨x_7, e_8, i_9, h⟩ := mb_rd_e h
    refine rb_iald hK ai_1 i_9 e_8 dC_judge_28 ?_
    refine ro_istore_n hK dC_judge_29 (by decide) ?_
    show K 0 0 30 [.ref 0, .int x1, .int r_3, .int x_7, .retAddr 0, .retAddr 0, .retAddr 0, .retAddr 0] [] (mb_s s_5)
    refine ro_iload_n hK dC_judge_30 rfl ?_
    refine ro_istore hK dC_judge_31 (by decide) ?_
    show K 0 0 33 [.ref 0, .int x1, .int r_3, .int x_7, .int x_7, .retAddr 0, .retAddr 0, .retAddr 0] [] (mb_s s_5)
    refine ro_aload_n hK dC_judge_33 rfl ?_
    refine rb_get hK fC_50 mb_oC rfl dC_judge_34 ?_
    obtain ⟨r_12, s_10, q_11, h⟩ := mb_cl_e h
    refine rb_callV hK mA_isOver vC_186 (t_A_isOver (dd := dd + 2) q_11) rfl mb_oA rfl (Nat.le_of_ble_eq_true rfl) dC_judge_37 rfl ⟨Nat.le_refl _, Nat.le_refl _⟩ ?_
    show K 0 0 40 [.ref 0, .int x1, .int r_3, .int x_7, .int x_7, .retAddr 0, .retAddr 0, .retAddr 0] [.int r_12] (mb_s s_10)
    have j_14 : ∀ w_ : Int32, w_ = (if r_12 = 0 then (-9) else 0 : Int32) → K 0 0 49 [.ref 0, .int x1, .int r_3, .int x_7, .int x_7, .retAddr 0, .retAddr 0, .retAddr 0] [.int w_] (mb_s s_10) → K 0 0 40 [.ref 0, .int x1, .int r_3, .int x_7, .int x_7, .retAddr 0, .retAddr 0, .retAddr 0] [.int r_12] (mb_s s_10) := by
      intro w_ hw hj
      refine ro_if_eq (tgt := 47) hK dC_judge_40 (by decide) (fun c_13 => ?_) (fun c_13 => ?_)
      · skip
        refine ro_bipush (x := (-9)) hK (by decide) dC_judge_47 ?_
        have hw := (hw.trans (if_pos c_13))
        subst hw
        exact hj
      · skip
        refine ro_iconst (x := 0) hK (by decide) dC_judge_43 ?_
        refine ro_goto (tgt := 49) hK dC_judge_44 (by decide) ?_
        have hw := (hw.trans (if_neg c_13))
        subst hw
        exact hj
    refine j_14 _ rfl ?_
    refine ro_istore hK dC_judge_49 (by decide) ?_
    show K 0 0 51 [.ref 0, .int x1, .int r_3, .int x_7, .int x_7, .int (if r_12 = 0 then (-9) else 0 : Int32), .retAddr 0, .retAddr 0] [] (mb_s s_10)
    refine ro_iconst (x := 0) hK (by decide) dC_judge_51 ?_
    refine ro_istore hK dC_judge_52 (by decide) ?_
    show K 0 0 54 [.ref 0, .int x1, .int r_3, .int x_7, .int x_7, .int (if r_12 = 0 then (-9) else 0 : Int32), .int 0, .retAddr 0] [] (mb_s s_10)
    refine ro_fg (lv' := [.ref 0, .int x1, .retAddr 0, .int x_7, .int x_7, .int (if r_12 = 0 then (-9) else 0 : Int32), .int 0, .retAddr 0]) hK ⟨Or.inr rfl, ⟨Or.inr rfl, ⟨Or.inl rfl, ⟨Or.inr rfl, ⟨Or.inr rfl, ⟨Or.inr rfl, ⟨Or.inr rfl, ⟨Or.inl rfl, trivial⟩⟩⟩⟩⟩⟩⟩⟩ ?_
    refine tl_C_judge_54 (dd := dd) hK hR (fun x_36 x_37 x_38 s_39 h => ?_) n _ _ _ _ h
    refine ro_aload_n hK dC_judge_138 rfl ?_
    refine ro_iload hK dC_judge_139 rfl ?_
    obtain ⟨s_40, e_41, h⟩ := mb_bd_e h
    refine rb_put hK gC_74 mb_oC rfl (by show 14 < 15; decide) rfl rfl e_41 dC_judge_141 ?_
    refine ro_iload hK dC_judge_144 rfl ?_
    cases h
    exact hR.1 0 0 146 _ _ _ _ rfl rfl dC_judge_146 ⟨rfl, rfl⟩
  · replace h := mb_iff c_4 h
    refine ro_iload_n hK dC_judge_10 rfl ?_
    cases h
    exact hR.1 0 0 11 _ _ _ _ rfl rfl dC_judge_11 ⟨rfl, rfl⟩
theorem dC_minutes_0 : decode bC_minutes 0 = .ok (.iload_n 1, 1) := by decide +kernel
theorem dC_minutes_1 : decode bC_minutes 1 = .ok (.invokestatic 180, 3) := by decide +kernel
theorem dC_minutes_4 : decode bC_minutes 4 = .ok (.ifCond .ne 5, 3) := by decide +kernel
theorem dC_minutes_7 : decode bC_minutes 7 = .ok (.iconst (-1), 1) := by decide +kernel
theorem dC_minutes_8 : decode bC_minutes 8 = .ok (.ireturn, 1) := by decide +kernel
theorem dC_minutes_9 : decode bC_minutes 9 = .ok (.aload_n 0, 1) := by decide +kernel
theorem dC_minutes_10 : decode bC_minutes 10 = .ok (.getfield 29, 3) := by decide +kernel
theorem dC_minutes_13 : decode bC_minutes 13 = .ok (.getfield 128, 3) := by decide +kernel
theorem dC_minutes_16 : decode bC_minutes 16 = .ok (.ifCond .ne 6, 3) := by decide +kernel
theorem dC_minutes_19 : decode bC_minutes 19 = .ok (.bipush (-4), 2) := by decide +kernel
theorem dC_minutes_21 : decode bC_minutes 21 = .ok (.ireturn, 1) := by decide +kernel
theorem dC_minutes_22 : decode bC_minutes 22 = .ok (.aload_n 0, 1) := by decide +kernel
theorem dC_minutes_23 : decode bC_minutes 23 = .ok (.getfield 29, 3) := by decide +kernel
theorem dC_minutes_26 : decode bC_minutes 26 = .ok (.getfield 183, 3) := by decide +kernel
theorem dC_minutes_29 : decode bC_minutes 29 = .ok (.iload_n 1, 1) := by decide +kernel
theorem dC_minutes_30 : decode bC_minutes 30 = .ok (.iadd, 1) := by decide +kernel
theorem dC_minutes_31 : decode bC_minutes 31 = .ok (.bipush 120, 2) := by decide +kernel
theorem dC_minutes_33 : decode bC_minutes 33 = .ok (.if_icmp .le 6, 3) := by decide +kernel
theorem dC_minutes_36 : decode bC_minutes 36 = .ok (.bipush (-2), 2) := by decide +kernel
theorem dC_minutes_38 : decode bC_minutes 38 = .ok (.ireturn, 1) := by decide +kernel
theorem dC_minutes_39 : decode bC_minutes 39 = .ok (.aload_n 0, 1) := by decide +kernel
theorem dC_minutes_40 : decode bC_minutes 40 = .ok (.getfield 50, 3) := by decide +kernel
theorem dC_minutes_43 : decode bC_minutes 43 = .ok (.aload_n 0, 1) := by decide +kernel
theorem dC_minutes_44 : decode bC_minutes 44 = .ok (.getfield 29, 3) := by decide +kernel
theorem dC_minutes_47 : decode bC_minutes 47 = .ok (.invokevirtual 144, 3) := by decide +kernel
theorem dC_minutes_50 : decode bC_minutes 50 = .ok (.iconst 0, 1) := by decide +kernel
theorem dC_minutes_51 : decode bC_minutes 51 = .ok (.istore_n 2, 1) := by decide +kernel
theorem dC_minutes_52 : decode bC_minutes 52 = .ok (.iload_n 2, 1) := by decide +kernel
theorem dC_minutes_53 : decode bC_minutes 53 = .ok (.iload_n 1, 1) := by decide +kernel
theorem dC_minutes_54 : decode bC_minutes 54 = .ok (.if_icmp .ge 37, 3) := by decide +kernel
theorem dC_minutes_57 : decode bC_minutes 57 = .ok (.aload_n 0, 1) := by decide +kernel
theorem dC_minutes_58 : decode bC_minutes 58 = .ok (.getfield 50, 3) := by decide +kernel
theorem dC_minutes_61 : decode bC_minutes 61 = .ok (.invokevirtual 186, 3) := by decide +kernel
theorem dC_minutes_64 : decode bC_minutes 64 = .ok (.ifCond .ne 27, 3) := by decide +kernel
theorem dC_minutes_67 : decode bC_minutes 67 = .ok (.aload_n 0, 1) := by decide +kernel
theorem dC_minutes_68 : decode bC_minutes 68 = .ok (.aload_n 0, 1) := by decide +kernel
theorem dC_minutes_69 : decode bC_minutes 69 = .ok (.getfield 50, 3) := by decide +kernel
theorem dC_minutes_72 : decode bC_minutes 72 = .ok (.aload_n 0, 1) := by decide +kernel
theorem dC_minutes_73 : decode bC_minutes 73 = .ok (.getfield 29, 3) := by decide +kernel
theorem dC_minutes_76 : decode bC_minutes 76 = .ok (.getfield 171, 3) := by decide +kernel
theorem dC_minutes_79 : decode bC_minutes 79 = .ok (.invokevirtual 190, 3) := by decide +kernel
theorem dC_minutes_82 : decode bC_minutes 82 = .ok (.invokevirtual 193, 3) := by decide +kernel
theorem dC_minutes_85 : decode bC_minutes 85 = .ok (.iinc 2 1, 3) := by decide +kernel
theorem dC_minutes_88 : decode bC_minutes 88 = .ok (.goto (-36), 3) := by decide +kernel
theorem dC_minutes_91 : decode bC_minutes 91 = .ok (.iload_n 2, 1) := by decide +kernel
theorem dC_minutes_92 : decode bC_minutes 92 = .ok (.ireturn, 1) := by decide +kernel
def f_C_minutes_52 (n : Nat) (k0 : Int32 → mb_T → Option (Int32 × mb_T)) (y1 : Int32) : Nat → Int32 → mb_T → Option (Int32 × mb_T)
  | 0, _, _ => none
  | f + 1, w2, s => if y1 ≤ w2 then k0 w2 s else mb_cl (f_A_isOver n s) fun r_12 s_10 => if r_12 = 0 then (mb_cl (f_A_byLaw n (s_10.1 100 2) s_10) fun r_16 s_14 => mb_cw (f_C_passMinute n r_16 s_14) fun s_17 => f_C_minutes_52 n k0 y1 f (w2 + 1) s_17) else k0 w2 s_10
def f_C_minutes (n : Nat) (x1 : Int32) (s : mb_T) : Option (Int32 × mb_T) := mb_cl (f_C_isSpan n x1 s) fun r_3 s_1 => if r_3 = 0 then some ((-1), s_1) else if (s_1.1 100 0) = 0 then some ((-4), s_1) else if ((s_1.1 100 4) + x1) ≤ 120 then (mb_cw (f_A_begin n 100 s_1) fun s_7 => f_C_minutes_52 n (fun x_19 s_20 => some (x_19, s_20)) x1 n 0 s_7) else some ((-2), s_1)
set_option maxHeartbeats 4000000 in
set_option maxRecDepth 100000 in
theorem tl_C_minutes_52 {dd n : Nat} {K : mj_KT} {out : Int32 × mb_T} (hK : mj_C (dd + 5) 0 0 RC_c "minutes" bC_minutes 3 K) (hR : mj_R bC_minutes (some .int) (fun r2 S2 => r2 = some (.int out.1) ∧ S2 = mb_s out.2) K) {k0 : Int32 → mb_T → Option (Int32 × mb_T)} {y1 : Int32} (hk0 : ∀ (w2 : Int32) (s : mb_T), k0 w2 s = some out → K 0 0 91 [.ref 0, .int y1, .int w2] [] (mb_s s)) : ∀ (f : Nat) (w2 : Int32) (s : mb_T), f_C_minutes_52 n k0 y1 f w2 s = some out → K 0 0 52 [.ref 0, .int y1, .int w2] [] (mb_s s) := by
  intro f
  induction f with
  | zero =>
    intro w2 s h
    cases h
  | succ f ih =>
    intro w2 s h
    rw [f_C_minutes_52] at h
    refine ro_iload_n hK dC_minutes_52 rfl ?_
    refine ro_iload_n hK dC_minutes_53 rfl ?_
    refine ro_icmp_ge (tgt := 91) hK dC_minutes_54 (by decide) (fun c_9 => ?_) (fun c_9 => ?_)
    · replace h := mb_ift c_9 h
      refine ro_fg (lv' := [.ref 0, .int y1, .int w2]) hK ⟨Or.inr rfl, ⟨Or.inr rfl, ⟨Or.inr rfl, trivial⟩⟩⟩ ?_
      exact hk0 _ _ h
    · replace h := mb_iff c_9 h
      refine ro_aload_n hK dC_minutes_57 rfl ?_
      refine rb_get hK fC_50 mb_oC rfl dC_minutes_58 ?_
      obtain ⟨r_12, s_10, q_11, h⟩ := mb_cl_e h
      refine rb_callV hK mA_isOver vC_186 (t_A_isOver (dd := dd + 2) q_11) rfl mb_oA rfl (Nat.le_of_ble_eq_true rfl) dC_minutes_61 rfl ⟨Nat.le_refl _, Nat.le_refl _⟩ ?_
      show K 0 0 64 [.ref 0, .int y1, .int w2] [.int r_12] (mb_s s_10)
      refine ro_if_ne (tgt := 91) hK dC_minutes_64 (by decide) (fun c_13 => ?_) (fun c_13 => ?_)
      · replace h := mb_iff c_13 h
        refine ro_fg (lv' := [.ref 0, .int y1, .int w2]) hK ⟨Or.inr rfl, ⟨Or.inr rfl, ⟨Or.inr rfl, trivial⟩⟩⟩ ?_
        exact hk0 _ _ h
      · replace h := mb_ift c_13 h
        refine ro_aload_n hK dC_minutes_67 rfl ?_
        refine ro_aload_n hK dC_minutes_68 rfl ?_
        refine rb_get hK fC_50 mb_oC rfl dC_minutes_69 ?_
        refine ro_aload_n hK dC_minutes_72 rfl ?_
        refine rb_get hK fC_29 mb_oC rfl dC_minutes_73 ?_
        refine rb_get hK fC_171 (mb_cvo (Or.inl rfl)) rfl dC_minutes_76 ?_
        obtain ⟨r_16, s_14, q_15, h⟩ := mb_cl_e h
        refine rb_callV hK mA_byLaw vC_190 (t_A_byLaw (dd := dd + 0) q_15) rfl mb_oA rfl (Nat.le_of_ble_eq_true rfl) dC_minutes_79 rfl ⟨Nat.le_refl _, Nat.le_refl _⟩ ?_
        show K 0 0 82 [.ref 0, .int y1, .int w2] [.int r_16, .ref 0] (mb_s s_14)
        obtain ⟨s_17, q_18, h⟩ := mb_cw_e h
        refine rb_callV hK mC_passMinute vC_193 (t_C_passMinute (dd := dd + 1) q_18) rfl mb_oC rfl (Nat.le_of_ble_eq_true rfl) dC_minutes_82 rfl ⟨Nat.le_refl _, Nat.le_refl _⟩ ?_
        show K 0 0 85 [.ref 0, .int y1, .int w2] [] (mb_s s_17)
        refine ro_iincv (c := 1) hK (by decide) dC_minutes_85 rfl (by decide) ?_
        show K 0 0 88 [.ref 0, .int y1, .int (w2 + 1)] [] (mb_s s_17)
        refine ro_goto (tgt := 52) hK dC_minutes_88 (by decide) ?_
        refine ro_fg (lv' := [.ref 0, .int y1, .int (w2 + 1)]) hK ⟨Or.inr rfl, ⟨Or.inr rfl, ⟨Or.inr rfl, trivial⟩⟩⟩ ?_
        exact ih _ _ h
set_option maxHeartbeats 4000000 in
set_option maxRecDepth 100000 in
theorem t_C_minutes {dd n : Nat} {x1 : Int32} {s : mb_T} {out : Int32 × mb_T}  (h : f_C_minutes n x1 s = some out) : mb_MC (dd + 5) yC_minutes bC_minutes 3 (some .int) [.ref 0, .int x1] s (some (.int out.1)) out.2 := by
  unfold f_C_minutes at h
  refine mj_mc (lv := [.ref 0, .int x1, .retAddr 0]) mC_minutes rfl rfl (Nat.le_of_ble_eq_true rfl) (fun K hK hR => ?_)
  have hK : mj_C (dd + 5) 0 0 RC_c "minutes" bC_minutes 3 K := hK
  refine ro_iload_n hK dC_minutes_0 rfl ?_
  obtain ⟨r_3, s_1, q_2, h⟩ := mb_cl_e h
  refine rb_callS hK mC_isSpan vC_180 (t_C_isSpan (dd := dd + 3) q_2) rfl (Nat.le_of_ble_eq_true rfl) dC_minutes_1 rfl ⟨Nat.le_refl _, Nat.le_refl _⟩ ?_
  show K 0 0 4 [.ref 0, .int x1, .retAddr 0] [.int r_3] (mb_s s_1)
  refine ro_if_ne (tgt := 9) hK dC_minutes_4 (by decide) (fun c_4 => ?_) (fun c_4 => ?_)
  · replace h := mb_iff c_4 h
    refine ro_aload_n hK dC_minutes_9 rfl ?_
    refine rb_get hK fC_29 mb_oC rfl dC_minutes_10 ?_
    refine rb_get hK fC_128 (mb_cvo (Or.inl rfl)) rfl dC_minutes_13 ?_
    refine ro_if_ne (tgt := 22) hK dC_minutes_16 (by decide) (fun c_5 => ?_) (fun c_5 => ?_)
    · replace h := mb_iff c_5 h
      refine ro_aload_n hK dC_minutes_22 rfl ?_
      refine rb_get hK fC_29 mb_oC rfl dC_minutes_23 ?_
      refine rb_get hK fC_183 (mb_cvo (Or.inl rfl)) rfl dC_minutes_26 ?_
      refine ro_iload_n hK dC_minutes_29 rfl ?_
      refine ro_iadd hK dC_minutes_30 ?_
      refine ro_bipush (x := 120) hK (by decide) dC_minutes_31 ?_
      refine ro_icmp_le (tgt := 39) hK dC_minutes_33 (by decide) (fun c_6 => ?_) (fun c_6 => ?_)
      · replace h := mb_ift c_6 h
        refine ro_aload_n hK dC_minutes_39 rfl ?_
        refine rb_get hK fC_50 mb_oC rfl dC_minutes_40 ?_
        refine ro_aload_n hK dC_minutes_43 rfl ?_
        refine rb_get hK fC_29 mb_oC rfl dC_minutes_44 ?_
        obtain ⟨s_7, q_8, h⟩ := mb_cw_e h
        refine rb_callV hK mA_begin vC_144 (t_A_begin (dd := dd + 1) (Or.inl rfl) q_8) rfl mb_oA rfl (Nat.le_of_ble_eq_true rfl) dC_minutes_47 rfl ⟨Nat.le_refl _, Nat.le_refl _⟩ ?_
        show K 0 0 50 [.ref 0, .int x1, .retAddr 0] [] (mb_s s_7)
        refine ro_iconst (x := 0) hK (by decide) dC_minutes_50 ?_
        refine ro_istore_n hK dC_minutes_51 (by decide) ?_
        show K 0 0 52 [.ref 0, .int x1, .int 0] [] (mb_s s_7)
        refine ro_fg (lv' := [.ref 0, .int x1, .int 0]) hK ⟨Or.inr rfl, ⟨Or.inr rfl, ⟨Or.inr rfl, trivial⟩⟩⟩ ?_
        refine tl_C_minutes_52 (dd := dd) hK hR (fun x_19 s_20 h => ?_) n _ _ h
        refine ro_iload_n hK dC_minutes_91 rfl ?_
        cases h
        exact hR.1 0 0 92 _ _ _ _ rfl rfl dC_minutes_92 ⟨rfl, rfl⟩
      · replace h := mb_iff c_6 h
        refine ro_bipush (x := (-2)) hK (by decide) dC_minutes_36 ?_
        cases h
        exact hR.1 0 0 38 _ _ _ _ rfl rfl dC_minutes_38 ⟨rfl, rfl⟩
    · replace h := mb_ift c_5 h
      refine ro_bipush (x := (-4)) hK (by decide) dC_minutes_19 ?_
      cases h
      exact hR.1 0 0 21 _ _ _ _ rfl rfl dC_minutes_21 ⟨rfl, rfl⟩
  · replace h := mb_ift c_4 h
    refine ro_iconst (x := (-1)) hK (by decide) dC_minutes_7 ?_
    cases h
    exact hR.1 0 0 8 _ _ _ _ rfl rfl dC_minutes_8 ⟨rfl, rfl⟩
theorem dC_next_0 : decode bC_next 0 = .ok (.aload_n 0, 1) := by decide +kernel
theorem dC_next_1 : decode bC_next 1 = .ok (.getfield 50, 3) := by decide +kernel
theorem dC_next_4 : decode bC_next 4 = .ok (.aload_n 0, 1) := by decide +kernel
theorem dC_next_5 : decode bC_next 5 = .ok (.getfield 29, 3) := by decide +kernel
theorem dC_next_8 : decode bC_next 8 = .ok (.invokevirtual 144, 3) := by decide +kernel
theorem dC_next_11 : decode bC_next 11 = .ok (.aload_n 0, 1) := by decide +kernel
theorem dC_next_12 : decode bC_next 12 = .ok (.getfield 29, 3) := by decide +kernel
theorem dC_next_15 : decode bC_next 15 = .ok (.getfield 128, 3) := by decide +kernel
theorem dC_next_18 : decode bC_next 18 = .ok (.ifCond .eq 13, 3) := by decide +kernel
theorem dC_next_21 : decode bC_next 21 = .ok (.aload_n 0, 1) := by decide +kernel
theorem dC_next_22 : decode bC_next 22 = .ok (.getfield 50, 3) := by decide +kernel
theorem dC_next_25 : decode bC_next 25 = .ok (.invokevirtual 186, 3) := by decide +kernel
theorem dC_next_28 : decode bC_next 28 = .ok (.ifCond .eq 6, 3) := by decide +kernel
theorem dC_next_31 : decode bC_next 31 = .ok (.bipush (-4), 2) := by decide +kernel
theorem dC_next_33 : decode bC_next 33 = .ok (.ireturn, 1) := by decide +kernel
theorem dC_next_34 : decode bC_next 34 = .ok (.aload_n 0, 1) := by decide +kernel
theorem dC_next_35 : decode bC_next 35 = .ok (.getfield 50, 3) := by decide +kernel
theorem dC_next_38 : decode bC_next 38 = .ok (.aload_n 0, 1) := by decide +kernel
theorem dC_next_39 : decode bC_next 39 = .ok (.getfield 29, 3) := by decide +kernel
theorem dC_next_42 : decode bC_next 42 = .ok (.getfield 171, 3) := by decide +kernel
theorem dC_next_45 : decode bC_next 45 = .ok (.invokevirtual 190, 3) := by decide +kernel
theorem dC_next_48 : decode bC_next 48 = .ok (.ireturn, 1) := by decide +kernel
def f_C_next (n : Nat)  (s : mb_T) : Option (Int32 × mb_T) := mb_cw (f_A_begin n 100 s) fun s_1 => if (s_1.1 100 0) = 0 then some ((-4), s_1) else mb_cl (f_A_isOver n s_1) fun r_6 s_4 => if r_6 = 0 then (mb_cl (f_A_byLaw n (s_4.1 100 2) s_4) fun r_10 s_8 => some (r_10, s_8)) else some ((-4), s_4)
set_option maxHeartbeats 4000000 in
set_option maxRecDepth 100000 in
theorem t_C_next {dd n : Nat}  {s : mb_T} {out : Int32 × mb_T}  (h : f_C_next n  s = some out) : mb_MC (dd + 5) yC_next bC_next 1 (some .int) [.ref 0] s (some (.int out.1)) out.2 := by
  unfold f_C_next at h
  refine mj_mc (lv := [.ref 0]) mC_next rfl rfl (Nat.le_of_ble_eq_true rfl) (fun K hK hR => ?_)
  have hK : mj_C (dd + 5) 0 0 RC_c "next" bC_next 1 K := hK
  refine ro_aload_n hK dC_next_0 rfl ?_
  refine rb_get hK fC_50 mb_oC rfl dC_next_1 ?_
  refine ro_aload_n hK dC_next_4 rfl ?_
  refine rb_get hK fC_29 mb_oC rfl dC_next_5 ?_
  obtain ⟨s_1, q_2, h⟩ := mb_cw_e h
  refine rb_callV hK mA_begin vC_144 (t_A_begin (dd := dd + 1) (Or.inl rfl) q_2) rfl mb_oA rfl (Nat.le_of_ble_eq_true rfl) dC_next_8 rfl ⟨Nat.le_refl _, Nat.le_refl _⟩ ?_
  show K 0 0 11 [.ref 0] [] (mb_s s_1)
  refine ro_aload_n hK dC_next_11 rfl ?_
  refine rb_get hK fC_29 mb_oC rfl dC_next_12 ?_
  refine rb_get hK fC_128 (mb_cvo (Or.inl rfl)) rfl dC_next_15 ?_
  refine ro_if_eq (tgt := 31) hK dC_next_18 (by decide) (fun c_3 => ?_) (fun c_3 => ?_)
  · replace h := mb_ift c_3 h
    refine ro_bipush (x := (-4)) hK (by decide) dC_next_31 ?_
    cases h
    exact hR.1 0 0 33 _ _ _ _ rfl rfl dC_next_33 ⟨rfl, rfl⟩
  · replace h := mb_iff c_3 h
    refine ro_aload_n hK dC_next_21 rfl ?_
    refine rb_get hK fC_50 mb_oC rfl dC_next_22 ?_
    obtain ⟨r_6, s_4, q_5, h⟩ := mb_cl_e h
    refine rb_callV hK mA_isOver vC_186 (t_A_isOver (dd := dd + 2) q_5) rfl mb_oA rfl (Nat.le_of_ble_eq_true rfl) dC_next_25 rfl ⟨Nat.le_refl _, Nat.le_refl _⟩ ?_
    show K 0 0 28 [.ref 0] [.int r_6] (mb_s s_4)
    refine ro_if_eq (tgt := 34) hK dC_next_28 (by decide) (fun c_7 => ?_) (fun c_7 => ?_)
    · replace h := mb_ift c_7 h
      refine ro_aload_n hK dC_next_34 rfl ?_
      refine rb_get hK fC_50 mb_oC rfl dC_next_35 ?_
      refine ro_aload_n hK dC_next_38 rfl ?_
      refine rb_get hK fC_29 mb_oC rfl dC_next_39 ?_
      refine rb_get hK fC_171 (mb_cvo (Or.inl rfl)) rfl dC_next_42 ?_
      obtain ⟨r_10, s_8, q_9, h⟩ := mb_cl_e h
      refine rb_callV hK mA_byLaw vC_190 (t_A_byLaw (dd := dd + 0) q_9) rfl mb_oA rfl (Nat.le_of_ble_eq_true rfl) dC_next_45 rfl ⟨Nat.le_refl _, Nat.le_refl _⟩ ?_
      show K 0 0 48 [.ref 0] [.int r_10] (mb_s s_8)
      cases h
      exact hR.1 0 0 48 _ _ _ _ rfl rfl dC_next_48 ⟨rfl, rfl⟩
    · replace h := mb_iff c_7 h
      refine ro_bipush (x := (-4)) hK (by decide) dC_next_31 ?_
      cases h
      exact hR.1 0 0 33 _ _ _ _ rfl rfl dC_next_33 ⟨rfl, rfl⟩
theorem dC_person_0 : decode bC_person 0 = .ok (.aload_n 0, 1) := by decide +kernel
theorem dC_person_1 : decode bC_person 1 = .ok (.iload_n 1, 1) := by decide +kernel
theorem dC_person_2 : decode bC_person 2 = .ok (.invokevirtual 131, 3) := by decide +kernel
theorem dC_person_5 : decode bC_person 5 = .ok (.ifCond .eq 12, 3) := by decide +kernel
theorem dC_person_8 : decode bC_person 8 = .ok (.iload_n 2, 1) := by decide +kernel
theorem dC_person_9 : decode bC_person 9 = .ok (.ifCond .lt 8, 3) := by decide +kernel
theorem dC_person_12 : decode bC_person 12 = .ok (.iload_n 2, 1) := by decide +kernel
theorem dC_person_13 : decode bC_person 13 = .ok (.iconst 5, 1) := by decide +kernel
theorem dC_person_14 : decode bC_person 14 = .ok (.if_icmp .le 5, 3) := by decide +kernel
theorem dC_person_17 : decode bC_person 17 = .ok (.iconst (-1), 1) := by decide +kernel
theorem dC_person_18 : decode bC_person 18 = .ok (.ireturn, 1) := by decide +kernel
theorem dC_person_19 : decode bC_person 19 = .ok (.aload_n 0, 1) := by decide +kernel
theorem dC_person_20 : decode bC_person 20 = .ok (.aload_n 0, 1) := by decide +kernel
theorem dC_person_21 : decode bC_person 21 = .ok (.iload_n 1, 1) := by decide +kernel
theorem dC_person_22 : decode bC_person 22 = .ok (.iload_n 2, 1) := by decide +kernel
theorem dC_person_23 : decode bC_person 23 = .ok (.invokevirtual 134, 3) := by decide +kernel
theorem dC_person_26 : decode bC_person 26 = .ok (.putfield 74, 3) := by decide +kernel
theorem dC_person_29 : decode bC_person 29 = .ok (.iconst 1, 1) := by decide +kernel
theorem dC_person_30 : decode bC_person 30 = .ok (.ireturn, 1) := by decide +kernel
def f_C_person (n : Nat) (x1 : Int32) (x2 : Int32) (s : mb_T) : Option (Int32 × mb_T) := mb_cl (f_C_isOne n x1 s) fun r_3 s_1 => if r_3 = 0 then some ((-1), s_1) else if x2 < 0 then some ((-1), s_1) else if x2 ≤ 5 then (mb_cl (f_C_ofPerson n x1 x2 s_1) fun r_9 s_7 => mb_bd (sF s_7 0 14 r_9) fun s_10 => some (1, s_10)) else some ((-1), s_1)
set_option maxHeartbeats 4000000 in
set_option maxRecDepth 100000 in
theorem t_C_person {dd n : Nat} {x1 : Int32} {x2 : Int32} {s : mb_T} {out : Int32 × mb_T}  (h : f_C_person n x1 x2 s = some out) : mb_MC (dd + 5) yC_person bC_person 3 (some .int) [.ref 0, .int x1, .int x2] s (some (.int out.1)) out.2 := by
  unfold f_C_person at h
  refine mj_mc (lv := [.ref 0, .int x1, .int x2]) mC_person rfl rfl (Nat.le_of_ble_eq_true rfl) (fun K hK hR => ?_)
  have hK : mj_C (dd + 5) 0 0 RC_c "person" bC_person 3 K := hK
  refine ro_aload_n hK dC_person_0 rfl ?_
  refine ro_iload_n hK dC_person_1 rfl ?_
  obtain ⟨r_3, s_1, q_2, h⟩ := mb_cl_e h
  refine rb_callV hK mC_isOne vC_131 (t_C_isOne (dd := dd + 3) q_2) rfl mb_oC rfl (Nat.le_of_ble_eq_true rfl) dC_person_2 rfl ⟨Nat.le_refl _, Nat.le_refl _⟩ ?_
  show K 0 0 5 [.ref 0, .int x1, .int x2] [.int r_3] (mb_s s_1)
  refine ro_if_eq (tgt := 17) hK dC_person_5 (by decide) (fun c_4 => ?_) (fun c_4 => ?_)
  · replace h := mb_ift c_4 h
    refine ro_iconst (x := (-1)) hK (by decide) dC_person_17 ?_
    cases h
    exact hR.1 0 0 18 _ _ _ _ rfl rfl dC_person_18 ⟨rfl, rfl⟩
  · replace h := mb_iff c_4 h
    refine ro_iload_n hK dC_person_8 rfl ?_
    refine ro_if_lt (tgt := 17) hK dC_person_9 (by decide) (fun c_5 => ?_) (fun c_5 => ?_)
    · replace h := mb_ift c_5 h
      refine ro_iconst (x := (-1)) hK (by decide) dC_person_17 ?_
      cases h
      exact hR.1 0 0 18 _ _ _ _ rfl rfl dC_person_18 ⟨rfl, rfl⟩
    · replace h := mb_iff c_5 h
      refine ro_iload_n hK dC_person_12 rfl ?_
      refine ro_iconst (x := 5) hK (by decide) dC_person_13 ?_
      refine ro_icmp_le (tgt := 19) hK dC_person_14 (by decide) (fun c_6 => ?_) (fun c_6 => ?_)
      · replace h := mb_ift c_6 h
        refine ro_aload_n hK dC_person_19 rfl ?_
        refine ro_aload_n hK dC_person_20 rfl ?_
        refine ro_iload_n hK dC_person_21 rfl ?_
        refine ro_iload_n hK dC_person_22 rfl ?_
        obtain ⟨r_9, s_7, q_8, h⟩ := mb_cl_e h
        refine rb_callV hK mC_ofPerson vC_134 (t_C_ofPerson (dd := dd + 0) q_8) rfl mb_oC rfl (Nat.le_of_ble_eq_true rfl) dC_person_23 rfl ⟨Nat.le_refl _, Nat.le_refl _⟩ ?_
        show K 0 0 26 [.ref 0, .int x1, .int x2] [.int r_9, .ref 0] (mb_s s_7)
        obtain ⟨s_10, e_11, h⟩ := mb_bd_e h
        refine rb_put hK gC_74 mb_oC rfl (by show 14 < 15; decide) rfl rfl e_11 dC_person_26 ?_
        refine ro_iconst (x := 1) hK (by decide) dC_person_29 ?_
        cases h
        exact hR.1 0 0 30 _ _ _ _ rfl rfl dC_person_30 ⟨rfl, rfl⟩
      · replace h := mb_iff c_6 h
        refine ro_iconst (x := (-1)) hK (by decide) dC_person_17 ?_
        cases h
        exact hR.1 0 0 18 _ _ _ _ rfl rfl dC_person_18 ⟨rfl, rfl⟩
theorem dC_rest_0 : decode bC_rest 0 = .ok (.aload_n 0, 1) := by decide +kernel
theorem dC_rest_1 : decode bC_rest 1 = .ok (.getfield 29, 3) := by decide +kernel
theorem dC_rest_4 : decode bC_rest 4 = .ok (.getfield 128, 3) := by decide +kernel
theorem dC_rest_7 : decode bC_rest 7 = .ok (.ifCond .ne 6, 3) := by decide +kernel
theorem dC_rest_10 : decode bC_rest 10 = .ok (.bipush (-4), 2) := by decide +kernel
theorem dC_rest_12 : decode bC_rest 12 = .ok (.ireturn, 1) := by decide +kernel
theorem dC_rest_13 : decode bC_rest 13 = .ok (.aload_n 0, 1) := by decide +kernel
theorem dC_rest_14 : decode bC_rest 14 = .ok (.getfield 50, 3) := by decide +kernel
theorem dC_rest_17 : decode bC_rest 17 = .ok (.aload_n 0, 1) := by decide +kernel
theorem dC_rest_18 : decode bC_rest 18 = .ok (.getfield 29, 3) := by decide +kernel
theorem dC_rest_21 : decode bC_rest 21 = .ok (.invokevirtual 144, 3) := by decide +kernel
theorem dC_rest_24 : decode bC_rest 24 = .ok (.aload_n 0, 1) := by decide +kernel
theorem dC_rest_25 : decode bC_rest 25 = .ok (.getfield 50, 3) := by decide +kernel
theorem dC_rest_28 : decode bC_rest 28 = .ok (.iconst 1, 1) := by decide +kernel
theorem dC_rest_29 : decode bC_rest 29 = .ok (.putfield 231, 3) := by decide +kernel
theorem dC_rest_32 : decode bC_rest 32 = .ok (.iconst 0, 1) := by decide +kernel
theorem dC_rest_33 : decode bC_rest 33 = .ok (.istore_n 1, 1) := by decide +kernel
theorem dC_rest_34 : decode bC_rest 34 = .ok (.iload_n 1, 1) := by decide +kernel
theorem dC_rest_35 : decode bC_rest 35 = .ok (.bipush 100, 2) := by decide +kernel
theorem dC_rest_37 : decode bC_rest 37 = .ok (.if_icmp .gt 70, 3) := by decide +kernel
theorem dC_rest_40 : decode bC_rest 40 = .ok (.aload_n 0, 1) := by decide +kernel
theorem dC_rest_41 : decode bC_rest 41 = .ok (.getfield 50, 3) := by decide +kernel
theorem dC_rest_44 : decode bC_rest 44 = .ok (.invokevirtual 186, 3) := by decide +kernel
theorem dC_rest_47 : decode bC_rest 47 = .ok (.ifCond .ne 60, 3) := by decide +kernel
theorem dC_rest_50 : decode bC_rest 50 = .ok (.iload_n 1, 1) := by decide +kernel
theorem dC_rest_51 : decode bC_rest 51 = .ok (.iconst 2, 1) := by decide +kernel
theorem dC_rest_52 : decode bC_rest 52 = .ok (.if_icmp .lt 18, 3) := by decide +kernel
theorem dC_rest_55 : decode bC_rest 55 = .ok (.aload_n 0, 1) := by decide +kernel
theorem dC_rest_56 : decode bC_rest 56 = .ok (.getfield 50, 3) := by decide +kernel
theorem dC_rest_59 : decode bC_rest 59 = .ok (.iload_n 1, 1) := by decide +kernel
theorem dC_rest_60 : decode bC_rest 60 = .ok (.iconst 2, 1) := by decide +kernel
theorem dC_rest_61 : decode bC_rest 61 = .ok (.irem, 1) := by decide +kernel
theorem dC_rest_62 : decode bC_rest 62 = .ok (.invokevirtual 235, 3) := by decide +kernel
theorem dC_rest_65 : decode bC_rest 65 = .ok (.ifCond .eq 5, 3) := by decide +kernel
theorem dC_rest_68 : decode bC_rest 68 = .ok (.iload_n 1, 1) := by decide +kernel
theorem dC_rest_69 : decode bC_rest 69 = .ok (.ireturn, 1) := by decide +kernel
theorem dC_rest_70 : decode bC_rest 70 = .ok (.aload_n 0, 1) := by decide +kernel
theorem dC_rest_71 : decode bC_rest 71 = .ok (.getfield 50, 3) := by decide +kernel
theorem dC_rest_74 : decode bC_rest 74 = .ok (.iload_n 1, 1) := by decide +kernel
theorem dC_rest_75 : decode bC_rest 75 = .ok (.iconst 2, 1) := by decide +kernel
theorem dC_rest_76 : decode bC_rest 76 = .ok (.irem, 1) := by decide +kernel
theorem dC_rest_77 : decode bC_rest 77 = .ok (.invokevirtual 238, 3) := by decide +kernel
theorem dC_rest_80 : decode bC_rest 80 = .ok (.aload_n 0, 1) := by decide +kernel
theorem dC_rest_81 : decode bC_rest 81 = .ok (.getfield 50, 3) := by decide +kernel
theorem dC_rest_84 : decode bC_rest 84 = .ok (.aload_n 0, 1) := by decide +kernel
theorem dC_rest_85 : decode bC_rest 85 = .ok (.getfield 50, 3) := by decide +kernel
theorem dC_rest_88 : decode bC_rest 88 = .ok (.aload_n 0, 1) := by decide +kernel
theorem dC_rest_89 : decode bC_rest 89 = .ok (.getfield 29, 3) := by decide +kernel
theorem dC_rest_92 : decode bC_rest 92 = .ok (.getfield 171, 3) := by decide +kernel
theorem dC_rest_95 : decode bC_rest 95 = .ok (.invokevirtual 190, 3) := by decide +kernel
theorem dC_rest_98 : decode bC_rest 98 = .ok (.invokevirtual 241, 3) := by decide +kernel
theorem dC_rest_101 : decode bC_rest 101 = .ok (.iinc 1 1, 3) := by decide +kernel
theorem dC_rest_104 : decode bC_rest 104 = .ok (.goto (-70), 3) := by decide +kernel
theorem dC_rest_107 : decode bC_rest 107 = .ok (.bipush (-9), 2) := by decide +kernel
theorem dC_rest_109 : decode bC_rest 109 = .ok (.ireturn, 1) := by decide +kernel
def f_C_rest_34 (n : Nat) (k0 : Int32 → mb_T → Option (Int32 × mb_T)) (k1 : Int32 → mb_T → Option (Int32 × mb_T))  : Nat → Int32 → mb_T → Option (Int32 × mb_T)
  | 0, _, _ => none
  | f + 1, w1, s => if 100 < w1 then k1 w1 s else mb_cl (f_A_isOver n s) fun r_9 s_7 => if r_9 = 0 then (mb_jn (fun (s_18 : mb_T) => mb_dv 2 (mb_cw (f_A_save n (w1 - w1 / 2 * 2) s_18) fun s_20 => mb_cl (f_A_byLaw n (s_20.1 100 2) s_20) fun r_24 s_22 => mb_cw (f_A_pass n r_24 s_22) fun s_25 => f_C_rest_34 n k0 k1 f (w1 + 1) s_25)) fun j_11 => if w1 < 2 then j_11 s_7 else mb_dv 2 (mb_cl (f_A_isAsSaved n (w1 - w1 / 2 * 2) s_7) fun r_16 s_14 => if r_16 = 0 then j_11 s_14 else k0 w1 s_14)) else k1 w1 s_7
def f_C_rest (n : Nat)  (s : mb_T) : Option (Int32 × mb_T) := if (s.1 100 0) = 0 then some ((-4), s) else mb_cw (f_A_begin n 100 s) fun s_2 => mb_bd (sF s_2 40 3 1) fun s_4 => f_C_rest_34 n (fun x_28 s_29 => some (x_28, s_29)) (fun x_30 s_31 => some ((-9), s_31)) n 0 s_4
set_option maxHeartbeats 4000000 in
set_option maxRecDepth 100000 in
theorem tl_C_rest_34 {dd n : Nat} {K : mj_KT} {out : Int32 × mb_T} (hK : mj_C (dd + 5) 0 0 RC_c "rest" bC_rest 2 K) (hR : mj_R bC_rest (some .int) (fun r2 S2 => r2 = some (.int out.1) ∧ S2 = mb_s out.2) K) {k0 : Int32 → mb_T → Option (Int32 × mb_T)} {k1 : Int32 → mb_T → Option (Int32 × mb_T)}  (hk0 : ∀ (w1 : Int32) (s : mb_T), k0 w1 s = some out → K 0 0 68 [.ref 0, .int w1] [] (mb_s s)) (hk1 : ∀ (w1 : Int32) (s : mb_T), k1 w1 s = some out → K 0 0 107 [.ref 0, .int w1] [] (mb_s s)) : ∀ (f : Nat) (w1 : Int32) (s : mb_T), f_C_rest_34 n k0 k1 f w1 s = some out → K 0 0 34 [.ref 0, .int w1] [] (mb_s s) := by
  intro f
  induction f with
  | zero =>
    intro w1 s h
    cases h
  | succ f ih =>
    intro w1 s h
    rw [f_C_rest_34] at h
    refine ro_iload_n hK dC_rest_34 rfl ?_
    refine ro_bipush (x := 100) hK (by decide) dC_rest_35 ?_
    refine ro_icmp_gt (tgt := 107) hK dC_rest_37 (by decide) (fun c_6 => ?_) (fun c_6 => ?_)
    · replace h := mb_ift c_6 h
      refine ro_fg (lv' := [.ref 0, .int w1]) hK ⟨Or.inr rfl, ⟨Or.inr rfl, trivial⟩⟩ ?_
      exact hk1 _ _ h
    · replace h := mb_iff c_6 h
      refine ro_aload_n hK dC_rest_40 rfl ?_
      refine rb_get hK fC_50 mb_oC rfl dC_rest_41 ?_
      obtain ⟨r_9, s_7, q_8, h⟩ := mb_cl_e h
      refine rb_callV hK mA_isOver vC_186 (t_A_isOver (dd := dd + 2) q_8) rfl mb_oA rfl (Nat.le_of_ble_eq_true rfl) dC_rest_44 rfl ⟨Nat.le_refl _, Nat.le_refl _⟩ ?_
      show K 0 0 47 [.ref 0, .int w1] [.int r_9] (mb_s s_7)
      refine ro_if_ne (tgt := 107) hK dC_rest_47 (by decide) (fun c_10 => ?_) (fun c_10 => ?_)
      · replace h := mb_iff c_10 h
        refine ro_fg (lv' := [.ref 0, .int w1]) hK ⟨Or.inr rfl, ⟨Or.inr rfl, trivial⟩⟩ ?_
        exact hk1 _ _ h
      · replace h := mb_ift c_10 h
        refine ro_iload_n hK dC_rest_50 rfl ?_
        refine ro_iconst (x := 2) hK (by decide) dC_rest_51 ?_
        obtain ⟨j_11, e_27, h⟩ := mb_jn_e h
        have hj_11 : ∀ (s_18 : mb_T), j_11 s_18 = some out → K 0 0 70 [.ref 0, .int w1] [] (mb_s s_18) := by
          intro s_18 h
          rw [e_27] at h
          refine ro_aload_n hK dC_rest_70 rfl ?_
          refine rb_get hK fC_50 mb_oC rfl dC_rest_71 ?_
          refine ro_iload_n hK dC_rest_74 rfl ?_
          refine ro_iconst (x := 2) hK (by decide) dC_rest_75 ?_
          obtain ⟨z_19, h⟩ := mb_dv_e h
          refine ro_irem hK dC_rest_76 z_19 ?_
          obtain ⟨s_20, q_21, h⟩ := mb_cw_e h
          refine rb_callV hK mA_save vC_238 (t_A_save (dd := dd + 3) q_21) rfl mb_oA rfl (Nat.le_of_ble_eq_true rfl) dC_rest_77 rfl ⟨Nat.le_refl _, Nat.le_refl _⟩ ?_
          show K 0 0 80 [.ref 0, .int w1] [] (mb_s s_20)
          refine ro_aload_n hK dC_rest_80 rfl ?_
          refine rb_get hK fC_50 mb_oC rfl dC_rest_81 ?_
          refine ro_aload_n hK dC_rest_84 rfl ?_
          refine rb_get hK fC_50 mb_oC rfl dC_rest_85 ?_
          refine ro_aload_n hK dC_rest_88 rfl ?_
          refine rb_get hK fC_29 mb_oC rfl dC_rest_89 ?_
          refine rb_get hK fC_171 (mb_cvo (Or.inl rfl)) rfl dC_rest_92 ?_
          obtain ⟨r_24, s_22, q_23, h⟩ := mb_cl_e h
          refine rb_callV hK mA_byLaw vC_190 (t_A_byLaw (dd := dd + 0) q_23) rfl mb_oA rfl (Nat.le_of_ble_eq_true rfl) dC_rest_95 rfl ⟨Nat.le_refl _, Nat.le_refl _⟩ ?_
          show K 0 0 98 [.ref 0, .int w1] [.int r_24, .ref 40] (mb_s s_22)
          obtain ⟨s_25, q_26, h⟩ := mb_cw_e h
          refine rb_callV hK mA_pass vC_241 (t_A_pass (dd := dd + 2) q_26) rfl mb_oA rfl (Nat.le_of_ble_eq_true rfl) dC_rest_98 rfl ⟨Nat.le_refl _, Nat.le_refl _⟩ ?_
          show K 0 0 101 [.ref 0, .int w1] [] (mb_s s_25)
          refine ro_iincv (c := 1) hK (by decide) dC_rest_101 rfl (by decide) ?_
          show K 0 0 104 [.ref 0, .int (w1 + 1)] [] (mb_s s_25)
          refine ro_goto (tgt := 34) hK dC_rest_104 (by decide) ?_
          refine ro_fg (lv' := [.ref 0, .int (w1 + 1)]) hK ⟨Or.inr rfl, ⟨Or.inr rfl, trivial⟩⟩ ?_
          exact ih _ _ h
        refine ro_icmp_lt (tgt := 70) hK dC_rest_52 (by decide) (fun c_12 => ?_) (fun c_12 => ?_)
        · replace h := mb_ift c_12 h
          refine ro_fg (lv' := [.ref 0, .int w1]) hK ⟨Or.inr rfl, ⟨Or.inr rfl, trivial⟩⟩ ?_
          exact hj_11 _ h
        · replace h := mb_iff c_12 h
          refine ro_aload_n hK dC_rest_55 rfl ?_
          refine rb_get hK fC_50 mb_oC rfl dC_rest_56 ?_
          refine ro_iload_n hK dC_rest_59 rfl ?_
          refine ro_iconst (x := 2) hK (by decide) dC_rest_60 ?_
          obtain ⟨z_13, h⟩ := mb_dv_e h
          refine ro_irem hK dC_rest_61 z_13 ?_
          obtain ⟨r_16, s_14, q_15, h⟩ := mb_cl_e h
          refine rb_callV hK mA_isAsSaved vC_235 (t_A_isAsSaved (dd := dd + 3) q_15) rfl mb_oA rfl (Nat.le_of_ble_eq_true rfl) dC_rest_62 rfl ⟨Nat.le_refl _, Nat.le_refl _⟩ ?_
          show K 0 0 65 [.ref 0, .int w1] [.int r_16] (mb_s s_14)
          refine ro_if_eq (tgt := 70) hK dC_rest_65 (by decide) (fun c_17 => ?_) (fun c_17 => ?_)
          · replace h := mb_ift c_17 h
            refine ro_fg (lv' := [.ref 0, .int w1]) hK ⟨Or.inr rfl, ⟨Or.inr rfl, trivial⟩⟩ ?_
            exact hj_11 _ h
          · replace h := mb_iff c_17 h
            refine ro_fg (lv' := [.ref 0, .int w1]) hK ⟨Or.inr rfl, ⟨Or.inr rfl, trivial⟩⟩ ?_
            exact hk0 _ _ h
set_option maxHeartbeats 4000000 in
set_option maxRecDepth 100000 in
theorem t_C_rest {dd n : Nat}  {s : mb_T} {out : Int32 × mb_T}  (h : f_C_rest n  s = some out) : mb_MC (dd + 5) yC_rest bC_rest 2 (some .int) [.ref 0] s (some (.int out.1)) out.2 := by
  unfold f_C_rest at h
  refine mj_mc (lv := [.ref 0, .retAddr 0]) mC_rest rfl rfl (Nat.le_of_ble_eq_true rfl) (fun K hK hR => ?_)
  have hK : mj_C (dd + 5) 0 0 RC_c "rest" bC_rest 2 K := hK
  refine ro_aload_n hK dC_rest_0 rfl ?_
  refine rb_get hK fC_29 mb_oC rfl dC_rest_1 ?_
  refine rb_get hK fC_128 (mb_cvo (Or.inl rfl)) rfl dC_rest_4 ?_
  refine ro_if_ne (tgt := 13) hK dC_rest_7 (by decide) (fun c_1 => ?_) (fun c_1 => ?_)
  · replace h := mb_iff c_1 h
    refine ro_aload_n hK dC_rest_13 rfl ?_
    refine rb_get hK fC_50 mb_oC rfl dC_rest_14 ?_
    refine ro_aload_n hK dC_rest_17 rfl ?_
    refine rb_get hK fC_29 mb_oC rfl dC_rest_18 ?_
    obtain ⟨s_2, q_3, h⟩ := mb_cw_e h
    refine rb_callV hK mA_begin vC_144 (t_A_begin (dd := dd + 1) (Or.inl rfl) q_3) rfl mb_oA rfl (Nat.le_of_ble_eq_true rfl) dC_rest_21 rfl ⟨Nat.le_refl _, Nat.le_refl _⟩ ?_
    show K 0 0 24 [.ref 0, .retAddr 0] [] (mb_s s_2)
    refine ro_aload_n hK dC_rest_24 rfl ?_
    refine rb_get hK fC_50 mb_oC rfl dC_rest_25 ?_
    refine ro_iconst (x := 1) hK (by decide) dC_rest_28 ?_
    obtain ⟨s_4, e_5, h⟩ := mb_bd_e h
    refine rb_put hK gC_231 mb_oA rfl (by show 3 < 17; decide) (by decide) rfl e_5 dC_rest_29 ?_
    refine ro_iconst (x := 0) hK (by decide) dC_rest_32 ?_
    refine ro_istore_n hK dC_rest_33 (by decide) ?_
    show K 0 0 34 [.ref 0, .int 0] [] (mb_s s_4)
    refine ro_fg (lv' := [.ref 0, .int 0]) hK ⟨Or.inr rfl, ⟨Or.inr rfl, trivial⟩⟩ ?_
    refine tl_C_rest_34 (dd := dd) hK hR (fun x_28 s_29 h => ?_) (fun x_30 s_31 h => ?_) n _ _ h
    · skip
      refine ro_iload_n hK dC_rest_68 rfl ?_
      cases h
      exact hR.1 0 0 69 _ _ _ _ rfl rfl dC_rest_69 ⟨rfl, rfl⟩
    · skip
      refine ro_bipush (x := (-9)) hK (by decide) dC_rest_107 ?_
      cases h
      exact hR.1 0 0 109 _ _ _ _ rfl rfl dC_rest_109 ⟨rfl, rfl⟩
  · replace h := mb_ift c_1 h
    refine ro_bipush (x := (-4)) hK (by decide) dC_rest_10 ?_
    cases h
    exact hR.1 0 0 12 _ _ _ _ rfl rfl dC_rest_12 ⟨rfl, rfl⟩
theorem dA_goOn_0 : decode bA_goOn 0 = .ok (.iconst 0, 1) := by decide +kernel
theorem dA_goOn_1 : decode bA_goOn 1 = .ok (.istore_n 3, 1) := by decide +kernel
theorem dA_goOn_2 : decode bA_goOn 2 = .ok (.iload_n 3, 1) := by decide +kernel
theorem dA_goOn_3 : decode bA_goOn 3 = .ok (.iload_n 2, 1) := by decide +kernel
theorem dA_goOn_4 : decode bA_goOn 4 = .ok (.if_icmp .ge 43, 3) := by decide +kernel
theorem dA_goOn_7 : decode bA_goOn 7 = .ok (.iload_n 3, 1) := by decide +kernel
theorem dA_goOn_8 : decode bA_goOn 8 = .ok (.bipush 100, 2) := by decide +kernel
theorem dA_goOn_10 : decode bA_goOn 10 = .ok (.if_icmp .ge 37, 3) := by decide +kernel
theorem dA_goOn_13 : decode bA_goOn 13 = .ok (.aload_n 0, 1) := by decide +kernel
theorem dA_goOn_14 : decode bA_goOn 14 = .ok (.invokevirtual 143, 3) := by decide +kernel
theorem dA_goOn_17 : decode bA_goOn 17 = .ok (.ifCond .ne 30, 3) := by decide +kernel
theorem dA_goOn_20 : decode bA_goOn 20 = .ok (.aload_n 0, 1) := by decide +kernel
theorem dA_goOn_21 : decode bA_goOn 21 = .ok (.getfield 36, 3) := by decide +kernel
theorem dA_goOn_24 : decode bA_goOn 24 = .ok (.iload_n 3, 1) := by decide +kernel
theorem dA_goOn_25 : decode bA_goOn 25 = .ok (.aload_n 0, 1) := by decide +kernel
theorem dA_goOn_26 : decode bA_goOn 26 = .ok (.iload_n 1, 1) := by decide +kernel
theorem dA_goOn_27 : decode bA_goOn 27 = .ok (.invokevirtual 147, 3) := by decide +kernel
theorem dA_goOn_30 : decode bA_goOn 30 = .ok (.iastore, 1) := by decide +kernel
theorem dA_goOn_31 : decode bA_goOn 31 = .ok (.aload_n 0, 1) := by decide +kernel
theorem dA_goOn_32 : decode bA_goOn 32 = .ok (.aload_n 0, 1) := by decide +kernel
theorem dA_goOn_33 : decode bA_goOn 33 = .ok (.getfield 36, 3) := by decide +kernel
theorem dA_goOn_36 : decode bA_goOn 36 = .ok (.iload_n 3, 1) := by decide +kernel
theorem dA_goOn_37 : decode bA_goOn 37 = .ok (.iaload, 1) := by decide +kernel
theorem dA_goOn_38 : decode bA_goOn 38 = .ok (.invokevirtual 150, 3) := by decide +kernel
theorem dA_goOn_41 : decode bA_goOn 41 = .ok (.iinc 3 1, 3) := by decide +kernel
theorem dA_goOn_44 : decode bA_goOn 44 = .ok (.goto (-42), 3) := by decide +kernel
theorem dA_goOn_47 : decode bA_goOn 47 = .ok (.iload_n 3, 1) := by decide +kernel
theorem dA_goOn_48 : decode bA_goOn 48 = .ok (.ireturn, 1) := by decide +kernel
def f_A_goOn_2 (n : Nat) (k0 : Int32 → mb_T → Option (Int32 × mb_T)) (y1 : Int32) (y2 : Int32) : Nat → Int32 → mb_T → Option (Int32 × mb_T)
  | 0, _, _ => none
  | f + 1, w3, s => if y2 ≤ w3 then k0 w3 s else if 100 ≤ w3 then k0 w3 s else mb_cl (f_A_isOver n s) fun r_5 s_3 => if r_5 = 0 then (mb_cl (f_A_byLaw n y1 s_3) fun r_9 s_7 => mb_wr s_7 55 100 w3 r_9 fun s_10 => mb_rd s_10 55 100 w3 fun x_13 => mb_cw (f_A_pass n x_13 s_10) fun s_16 => f_A_goOn_2 n k0 y1 y2 f (w3 + 1) s_16) else k0 w3 s_3
def f_A_goOn (n : Nat) (x1 : Int32) (x2 : Int32) (s : mb_T) : Option (Int32 × mb_T) := f_A_goOn_2 n (fun x_18 s_19 => some (x_18, s_19)) x1 x2 n 0 s
set_option maxHeartbeats 4000000 in
set_option maxRecDepth 100000 in
theorem tl_A_goOn_2 {dd n : Nat} {K : mj_KT} {out : Int32 × mb_T} (hK : mj_C (dd + 5) 0 0 RA_c "goOn" bA_goOn 4 K) (hR : mj_R bA_goOn (some .int) (fun r2 S2 => r2 = some (.int out.1) ∧ S2 = mb_s out.2) K) {k0 : Int32 → mb_T → Option (Int32 × mb_T)} {y1 : Int32} {y2 : Int32} (hk0 : ∀ (w3 : Int32) (s : mb_T), k0 w3 s = some out → K 0 0 47 [.ref 40, .int y1, .int y2, .int w3] [] (mb_s s)) : ∀ (f : Nat) (w3 : Int32) (s : mb_T), f_A_goOn_2 n k0 y1 y2 f w3 s = some out → K 0 0 2 [.ref 40, .int y1, .int y2, .int w3] [] (mb_s s) := by
  intro f
  induction f with
  | zero =>
    intro w3 s h
    cases h
  | succ f ih =>
    intro w3 s h
    rw [f_A_goOn_2] at h
    refine ro_iload_n hK dA_goOn_2 rfl ?_
    refine ro_iload_n hK dA_goOn_3 rfl ?_
    refine ro_icmp_ge (tgt := 47) hK dA_goOn_4 (by decide) (fun c_1 => ?_) (fun c_1 => ?_)
    · replace h := mb_ift c_1 h
      refine ro_fg (lv' := [.ref 40, .int y1, .int y2, .int w3]) hK ⟨Or.inr rfl, ⟨Or.inr rfl, ⟨Or.inr rfl, ⟨Or.inr rfl, trivial⟩⟩⟩⟩ ?_
      exact hk0 _ _ h
    · replace h := mb_iff c_1 h
      refine ro_iload_n hK dA_goOn_7 rfl ?_
      refine ro_bipush (x := 100) hK (by decide) dA_goOn_8 ?_
      refine ro_icmp_ge (tgt := 47) hK dA_goOn_10 (by decide) (fun c_2 => ?_) (fun c_2 => ?_)
      · replace h := mb_ift c_2 h
        refine ro_fg (lv' := [.ref 40, .int y1, .int y2, .int w3]) hK ⟨Or.inr rfl, ⟨Or.inr rfl, ⟨Or.inr rfl, ⟨Or.inr rfl, trivial⟩⟩⟩⟩ ?_
        exact hk0 _ _ h
      · replace h := mb_iff c_2 h
        refine ro_aload_n hK dA_goOn_13 rfl ?_
        obtain ⟨r_5, s_3, q_4, h⟩ := mb_cl_e h
        refine rb_callV hK mA_isOver vA_143 (t_A_isOver (dd := dd + 2) q_4) rfl mb_oA rfl (Nat.le_of_ble_eq_true rfl) dA_goOn_14 rfl ⟨Nat.le_refl _, Nat.le_refl _⟩ ?_
        show K 0 0 17 [.ref 40, .int y1, .int y2, .int w3] [.int r_5] (mb_s s_3)
        refine ro_if_ne (tgt := 47) hK dA_goOn_17 (by decide) (fun c_6 => ?_) (fun c_6 => ?_)
        · replace h := mb_iff c_6 h
          refine ro_fg (lv' := [.ref 40, .int y1, .int y2, .int w3]) hK ⟨Or.inr rfl, ⟨Or.inr rfl, ⟨Or.inr rfl, ⟨Or.inr rfl, trivial⟩⟩⟩⟩ ?_
          exact hk0 _ _ h
        · replace h := mb_ift c_6 h
          refine ro_aload_n hK dA_goOn_20 rfl ?_
          refine rb_get hK fA_36 mb_oA rfl dA_goOn_21 ?_
          refine ro_iload_n hK dA_goOn_24 rfl ?_
          refine ro_aload_n hK dA_goOn_25 rfl ?_
          refine ro_iload_n hK dA_goOn_26 rfl ?_
          obtain ⟨r_9, s_7, q_8, h⟩ := mb_cl_e h
          refine rb_callV hK mA_byLaw vA_147 (t_A_byLaw (dd := dd + 0) q_8) rfl mb_oA rfl (Nat.le_of_ble_eq_true rfl) dA_goOn_27 rfl ⟨Nat.le_refl _, Nat.le_refl _⟩ ?_
          show K 0 0 30 [.ref 40, .int y1, .int y2, .int w3] [.int r_9, .int w3, .ref 55] (mb_s s_7)
          obtain ⟨s_10, e_11, i_12, h⟩ := mb_wr_e h
          refine rb_iast hK ai_55 i_12 e_11 dA_goOn_30 ?_
          refine ro_aload_n hK dA_goOn_31 rfl ?_
          refine ro_aload_n hK dA_goOn_32 rfl ?_
          refine rb_get hK fA_36 mb_oA rfl dA_goOn_33 ?_
          refine ro_iload_n hK dA_goOn_36 rfl ?_
          obtain ⟨x_13, e_14, i_15, h⟩ := mb_rd_e h
          refine rb_iald hK ai_55 i_15 e_14 dA_goOn_37 ?_
          obtain ⟨s_16, q_17, h⟩ := mb_cw_e h
          refine rb_callV hK mA_pass vA_150 (t_A_pass (dd := dd + 2) q_17) rfl mb_oA rfl (Nat.le_of_ble_eq_true rfl) dA_goOn_38 rfl ⟨Nat.le_refl _, Nat.le_refl _⟩ ?_
          show K 0 0 41 [.ref 40, .int y1, .int y2, .int w3] [] (mb_s s_16)
          refine ro_iincv (c := 1) hK (by decide) dA_goOn_41 rfl (by decide) ?_
          show K 0 0 44 [.ref 40, .int y1, .int y2, .int (w3 + 1)] [] (mb_s s_16)
          refine ro_goto (tgt := 2) hK dA_goOn_44 (by decide) ?_
          refine ro_fg (lv' := [.ref 40, .int y1, .int y2, .int (w3 + 1)]) hK ⟨Or.inr rfl, ⟨Or.inr rfl, ⟨Or.inr rfl, ⟨Or.inr rfl, trivial⟩⟩⟩⟩ ?_
          exact ih _ _ h
set_option maxHeartbeats 4000000 in
set_option maxRecDepth 100000 in
theorem t_A_goOn {dd n : Nat} {x1 : Int32} {x2 : Int32} {s : mb_T} {out : Int32 × mb_T}  (h : f_A_goOn n x1 x2 s = some out) : mb_MC (dd + 5) yA_goOn bA_goOn 4 (some .int) [.ref 40, .int x1, .int x2] s (some (.int out.1)) out.2 := by
  unfold f_A_goOn at h
  refine mj_mc (lv := [.ref 40, .int x1, .int x2, .retAddr 0]) mA_goOn rfl rfl (Nat.le_of_ble_eq_true rfl) (fun K hK hR => ?_)
  have hK : mj_C (dd + 5) 0 0 RA_c "goOn" bA_goOn 4 K := hK
  refine ro_iconst (x := 0) hK (by decide) dA_goOn_0 ?_
  refine ro_istore_n hK dA_goOn_1 (by decide) ?_
  show K 0 0 2 [.ref 40, .int x1, .int x2, .int 0] [] (mb_s s)
  refine ro_fg (lv' := [.ref 40, .int x1, .int x2, .int 0]) hK ⟨Or.inr rfl, ⟨Or.inr rfl, ⟨Or.inr rfl, ⟨Or.inr rfl, trivial⟩⟩⟩⟩ ?_
  refine tl_A_goOn_2 (dd := dd) hK hR (fun x_18 s_19 h => ?_) n _ _ h
  refine ro_iload_n hK dA_goOn_47 rfl ?_
  cases h
  exact hR.1 0 0 48 _ _ _ _ rfl rfl dA_goOn_48 ⟨rfl, rfl⟩
