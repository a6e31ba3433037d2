theorem dA_sing_0 : decode bA_sing 0 = .ok (.iconst 1, 1) := by decide +kernel
theorem dA_sing_1 : decode bA_sing 1 = .ok (.aload_n 0, 1) := by decide +kernel
theorem dA_sing_2 : decode bA_sing 2 = .ok (.invokevirtual 160, 3) := by decide +kernel
theorem dA_sing_5 : decode bA_sing 5 = .ok (.iadd, 1) := by decide +kernel
theorem dA_sing_6 : decode bA_sing 6 = .ok (.istore_n 1, 1) := by decide +kernel
theorem dA_sing_7 : decode bA_sing 7 = .ok (.iconst 0, 1) := by decide +kernel
theorem dA_sing_8 : decode bA_sing 8 = .ok (.istore_n 2, 1) := by decide +kernel
theorem dA_sing_9 : decode bA_sing 9 = .ok (.iload_n 2, 1) := by decide +kernel
theorem dA_sing_10 : decode bA_sing 10 = .ok (.aload_n 0, 1) := by decide +kernel
theorem dA_sing_11 : decode bA_sing 11 = .ok (.getfield 48, 3) := by decide +kernel
theorem dA_sing_14 : decode bA_sing 14 = .ok (.if_icmp .ge 27, 3) := by decide +kernel
theorem dA_sing_17 : decode bA_sing 17 = .ok (.aload_n 0, 1) := by decide +kernel
theorem dA_sing_18 : decode bA_sing 18 = .ok (.getfield 15, 3) := by decide +kernel
theorem dA_sing_21 : decode bA_sing 21 = .ok (.iload_n 2, 1) := by decide +kernel
theorem dA_sing_22 : decode bA_sing 22 = .ok (.aload_n 0, 1) := by decide +kernel
theorem dA_sing_23 : decode bA_sing 23 = .ok (.getfield 15, 3) := by decide +kernel
theorem dA_sing_26 : decode bA_sing 26 = .ok (.iload_n 2, 1) := by decide +kernel
theorem dA_sing_27 : decode bA_sing 27 = .ok (.iaload, 1) := by decide +kernel
theorem dA_sing_28 : decode bA_sing 28 = .ok (.iload_n 1, 1) := by decide +kernel
theorem dA_sing_29 : decode bA_sing 29 = .ok (.isub, 1) := by decide +kernel
theorem dA_sing_30 : decode bA_sing 30 = .ok (.iconst 0, 1) := by decide +kernel
theorem dA_sing_31 : decode bA_sing 31 = .ok (.invokestatic 132, 3) := by decide +kernel
theorem dA_sing_34 : decode bA_sing 34 = .ok (.iastore, 1) := by decide +kernel
theorem dA_sing_35 : decode bA_sing 35 = .ok (.iinc 2 1, 3) := by decide +kernel
theorem dA_sing_38 : decode bA_sing 38 = .ok (.goto (-29), 3) := by decide +kernel
theorem dA_sing_41 : decode bA_sing 41 = .ok (.return_, 1) := by decide +kernel
def f_A_sing_9 (n : Nat) (k0 : Int32 → mb_T → Option (mb_T)) (y1 : Int32) : Nat → Int32 → mb_T → Option (mb_T)
  | 0, _, _ => none
  | f + 1, w2, s => if (s.1 40 0) ≤ w2 then k0 w2 s else mb_rd s 48 5 w2 fun x_5 => mb_wr s 48 5 w2 (if (x_5 - y1) < 0 then 0 else (x_5 - y1) : Int32) fun s_8 => f_A_sing_9 n k0 y1 f (w2 + 1) s_8
def f_A_sing (n : Nat)  (s : mb_T) : Option (mb_T) := mb_cl (f_A_singers n s) fun r_3 s_1 => f_A_sing_9 n (fun x_11 s_12 => some s_12) (1 + r_3) n 0 s_1
set_option maxHeartbeats 4000000 in
set_option maxRecDepth 100000 in
theorem tl_A_sing_9 {dd n : Nat} {K : mj_KT} {out : mb_T} (hK : mj_C (dd + 2) 0 0 RA_c "sing" bA_sing 3 K) (hR : mj_R bA_sing none (fun r2 S2 => r2 = none ∧ S2 = mb_s out) K) {k0 : Int32 → mb_T → Option (mb_T)} {y1 : Int32} (hk0 : ∀ (w2 : Int32) (s : mb_T), k0 w2 s = some out → K 0 0 41 [.ref 40, .int y1, .int w2] [] (mb_s s)) : ∀ (f : Nat) (w2 : Int32) (s : mb_T), f_A_sing_9 n k0 y1 f w2 s = some out → K 0 0 9 [.ref 40, .int y1, .int w2] [] (mb_s s) := by
  intro f
  induction f with
  | zero =>
    intro w2 s h
    cases h
  | succ f ih =>
    intro w2 s h
    rw [f_A_sing_9] at h
    refine ro_iload_n hK dA_sing_9 rfl ?_
    refine ro_aload_n hK dA_sing_10 rfl ?_
    refine rb_get hK fA_48 mb_oA rfl dA_sing_11 ?_
    refine ro_icmp_ge (tgt := 41) hK dA_sing_14 (by decide) (fun c_4 => ?_) (fun c_4 => ?_)
    · replace h := mb_ift c_4 h
      refine ro_fg (lv' := [.ref 40, .int y1, .int w2]) hK ⟨Or.inr rfl, ⟨Or.inr rfl, ⟨Or.inr rfl, trivial⟩⟩⟩ ?_
      exact hk0 _ _ h
    · replace h := mb_iff c_4 h
      refine ro_aload_n hK dA_sing_17 rfl ?_
      refine rb_get hK fA_15 mb_oA rfl dA_sing_18 ?_
      refine ro_iload_n hK dA_sing_21 rfl ?_
      refine ro_aload_n hK dA_sing_22 rfl ?_
      refine rb_get hK fA_15 mb_oA rfl dA_sing_23 ?_
      refine ro_iload_n hK dA_sing_26 rfl ?_
      obtain ⟨x_5, e_6, i_7, h⟩ := mb_rd_e h
      refine rb_iald hK ai_48 i_7 e_6 dA_sing_27 ?_
      refine ro_iload_n hK dA_sing_28 rfl ?_
      refine ro_isub hK dA_sing_29 ?_
      refine ro_iconst (x := 0) hK (by decide) dA_sing_30 ?_
      refine ro_mmax hK vA_132 (by omega) (Nat.le_of_ble_eq_true rfl) dA_sing_31 ?_
      obtain ⟨s_8, e_9, i_10, h⟩ := mb_wr_e h
      refine rb_iast hK ai_48 i_10 e_9 dA_sing_34 ?_
      refine ro_iincv (c := 1) hK (by decide) dA_sing_35 rfl (by decide) ?_
      show K 0 0 38 [.ref 40, .int y1, .int (w2 + 1)] [] (mb_s s_8)
      refine ro_goto (tgt := 9) hK dA_sing_38 (by decide) ?_
      refine ro_fg (lv' := [.ref 40, .int y1, .int (w2 + 1)]) hK ⟨Or.inr rfl, ⟨Or.inr rfl, ⟨Or.inr rfl, trivial⟩⟩⟩ ?_
      exact ih _ _ h
set_option maxHeartbeats 4000000 in
set_option maxRecDepth 100000 in
theorem t_A_sing {dd n : Nat}  {s : mb_T} {out : mb_T}  (h : f_A_sing n  s = some out) : mb_MC (dd + 2) yA_sing bA_sing 3 none [.ref 40] s none out := by
  unfold f_A_sing at h
  refine mj_mc (lv := [.ref 40, .retAddr 0, .retAddr 0]) mA_sing rfl rfl (Nat.le_of_ble_eq_true rfl) (fun K hK hR => ?_)
  have hK : mj_C (dd + 2) 0 0 RA_c "sing" bA_sing 3 K := hK
  refine ro_iconst (x := 1) hK (by decide) dA_sing_0 ?_
  refine ro_aload_n hK dA_sing_1 rfl ?_
  obtain ⟨r_3, s_1, q_2, h⟩ := mb_cl_e h
  refine rb_callV hK mA_singers vA_160 (t_A_singers (dd := dd + 0) q_2) rfl mb_oA rfl (Nat.le_of_ble_eq_true rfl) dA_sing_2 rfl ⟨Nat.le_refl _, Nat.le_refl _⟩ ?_
  show K 0 0 5 [.ref 40, .retAddr 0, .retAddr 0] [.int r_3, .int 1] (mb_s s_1)
  refine ro_iadd hK dA_sing_5 ?_
  refine ro_istore_n hK dA_sing_6 (by decide) ?_
  show K 0 0 7 [.ref 40, .int (1 + r_3), .retAddr 0] [] (mb_s s_1)
  refine ro_iconst (x := 0) hK (by decide) dA_sing_7 ?_
  refine ro_istore_n hK dA_sing_8 (by decide) ?_
  show K 0 0 9 [.ref 40, .int (1 + r_3), .int 0] [] (mb_s s_1)
  refine ro_fg (lv' := [.ref 40, .int (1 + r_3), .int 0]) hK ⟨Or.inr rfl, ⟨Or.inr rfl, ⟨Or.inr rfl, trivial⟩⟩⟩ ?_
  refine tl_A_sing_9 (dd := dd) hK hR (fun x_11 s_12 h => ?_) n _ _ h
  cases h
  exact hR.2.2 0 0 41 _ _ rfl dA_sing_41 ⟨rfl, rfl⟩
theorem dV_bitsOfKind_0 : decode bV_bitsOfKind 0 = .ok (.iconst 0, 1) := by decide +kernel
theorem dV_bitsOfKind_1 : decode bV_bitsOfKind 1 = .ok (.istore_n 2, 1) := by decide +kernel
theorem dV_bitsOfKind_2 : decode bV_bitsOfKind 2 = .ok (.iconst 0, 1) := by decide +kernel
theorem dV_bitsOfKind_3 : decode bV_bitsOfKind 3 = .ok (.istore_n 3, 1) := by decide +kernel
theorem dV_bitsOfKind_4 : decode bV_bitsOfKind 4 = .ok (.iload_n 3, 1) := by decide +kernel
theorem dV_bitsOfKind_5 : decode bV_bitsOfKind 5 = .ok (.aload_n 0, 1) := by decide +kernel
theorem dV_bitsOfKind_6 : decode bV_bitsOfKind 6 = .ok (.getfield 36, 3) := by decide +kernel
theorem dV_bitsOfKind_9 : decode bV_bitsOfKind 9 = .ok (.if_icmp .ge 32, 3) := by decide +kernel
theorem dV_bitsOfKind_12 : decode bV_bitsOfKind 12 = .ok (.iload_n 2, 1) := by decide +kernel
theorem dV_bitsOfKind_13 : decode bV_bitsOfKind 13 = .ok (.aload_n 0, 1) := by decide +kernel
theorem dV_bitsOfKind_14 : decode bV_bitsOfKind 14 = .ok (.getfield 9, 3) := by decide +kernel
theorem dV_bitsOfKind_17 : decode bV_bitsOfKind 17 = .ok (.iload_n 3, 1) := by decide +kernel
theorem dV_bitsOfKind_18 : decode bV_bitsOfKind 18 = .ok (.iaload, 1) := by decide +kernel
theorem dV_bitsOfKind_19 : decode bV_bitsOfKind 19 = .ok (.iload_n 1, 1) := by decide +kernel
theorem dV_bitsOfKind_20 : decode bV_bitsOfKind 20 = .ok (.invokestatic 63, 3) := by decide +kernel
theorem dV_bitsOfKind_23 : decode bV_bitsOfKind 23 = .ok (.ifCond .eq 9, 3) := by decide +kernel
theorem dV_bitsOfKind_26 : decode bV_bitsOfKind 26 = .ok (.iconst 1, 1) := by decide +kernel
theorem dV_bitsOfKind_27 : decode bV_bitsOfKind 27 = .ok (.iload_n 3, 1) := by decide +kernel
theorem dV_bitsOfKind_28 : decode bV_bitsOfKind 28 = .ok (.ishl, 1) := by decide +kernel
theorem dV_bitsOfKind_29 : decode bV_bitsOfKind 29 = .ok (.goto 4, 3) := by decide +kernel
theorem dV_bitsOfKind_32 : decode bV_bitsOfKind 32 = .ok (.iconst 0, 1) := by decide +kernel
theorem dV_bitsOfKind_33 : decode bV_bitsOfKind 33 = .ok (.ior, 1) := by decide +kernel
theorem dV_bitsOfKind_34 : decode bV_bitsOfKind 34 = .ok (.istore_n 2, 1) := by decide +kernel
theorem dV_bitsOfKind_35 : decode bV_bitsOfKind 35 = .ok (.iinc 3 1, 3) := by decide +kernel
theorem dV_bitsOfKind_38 : decode bV_bitsOfKind 38 = .ok (.goto (-34), 3) := by decide +kernel
theorem dV_bitsOfKind_41 : decode bV_bitsOfKind 41 = .ok (.iload_n 2, 1) := by decide +kernel
theorem dV_bitsOfKind_42 : decode bV_bitsOfKind 42 = .ok (.ireturn, 1) := by decide +kernel
def f_V_bitsOfKind_4 (n : Nat) (k0 : Int32 → Int32 → mb_T → Option (Int32 × mb_T)) (y0 : Nat) (y1 : Int32) : Nat → Int32 → Int32 → mb_T → Option (Int32 × mb_T)
  | 0, _, _, _ => none
  | f + 1, w2, w3, s => if (s.1 y0 0) ≤ w3 then k0 w2 w3 s else mb_rd s (y0 + 5) 5 w3 fun x_2 => mb_cl (f_C_isOfKind n x_2 y1 s) fun r_7 s_5 => f_V_bitsOfKind_4 n k0 y0 y1 f (w2 ||| (if r_7 = 0 then 0 else (1 <<< (w3 &&& 31)) : Int32)) (w3 + 1) s_5
def f_V_bitsOfKind (n : Nat) (c : Nat) (x1 : Int32) (s : mb_T) : Option (Int32 × mb_T) := f_V_bitsOfKind_4 n (fun x_10 x_11 s_12 => some (x_10, s_12)) c x1 n 0 0 s
set_option maxHeartbeats 4000000 in
set_option maxRecDepth 100000 in
theorem tl_V_bitsOfKind_4 {dd n : Nat} {K : mj_KT} {out : Int32 × mb_T} (hK : mj_C (dd + 2) 0 0 RV_c "bitsOfKind" bV_bitsOfKind 4 K) (hR : mj_R bV_bitsOfKind (some .int) (fun r2 S2 => r2 = some (.int out.1) ∧ S2 = mb_s out.2) K) {k0 : Int32 → Int32 → mb_T → Option (Int32 × mb_T)} {y0 : Nat} {y1 : Int32} (hy0 : mb_cv y0) (hk0 : ∀ (w2 : Int32) (w3 : Int32) (s : mb_T), k0 w2 w3 s = some out → K 0 0 41 [.ref y0, .int y1, .int w2, .int w3] [] (mb_s s)) : ∀ (f : Nat) (w2 : Int32) (w3 : Int32) (s : mb_T), f_V_bitsOfKind_4 n k0 y0 y1 f w2 w3 s = some out → K 0 0 4 [.ref y0, .int y1, .int w2, .int w3] [] (mb_s s) := by
  intro f
  induction f with
  | zero =>
    intro w2 w3 s h
    cases h
  | succ f ih =>
    intro w2 w3 s h
    rw [f_V_bitsOfKind_4] at h
    refine ro_iload_n hK dV_bitsOfKind_4 rfl ?_
    refine ro_aload_n hK dV_bitsOfKind_5 rfl ?_
    refine rb_get hK fV_36 (mb_cvo hy0) rfl dV_bitsOfKind_6 ?_
    refine ro_icmp_ge (tgt := 41) hK dV_bitsOfKind_9 (by decide) (fun c_1 => ?_) (fun c_1 => ?_)
    · replace h := mb_ift c_1 h
      refine ro_fg (lv' := [.ref y0, .int y1, .int w2, .int w3]) hK ⟨Or.inr rfl, ⟨Or.inr rfl, ⟨Or.inr rfl, ⟨Or.inr rfl, trivial⟩⟩⟩⟩ ?_
      exact hk0 _ _ _ h
    · replace h := mb_iff c_1 h
      refine ro_iload_n hK dV_bitsOfKind_12 rfl ?_
      refine ro_aload_n hK dV_bitsOfKind_13 rfl ?_
      refine rb_get hK fV_9 (mb_cvo hy0) rfl dV_bitsOfKind_14 ?_
      refine ro_iload_n hK dV_bitsOfKind_17 rfl ?_
      obtain ⟨x_2, e_3, i_4, h⟩ := mb_rd_e h
      refine rb_iald hK (mb_cv5 hy0) i_4 e_3 dV_bitsOfKind_18 ?_
      refine ro_iload_n hK dV_bitsOfKind_19 rfl ?_
      obtain ⟨r_7, s_5, q_6, h⟩ := mb_cl_e h
      refine rb_callSN hK (host := RC_c) mC_isOfKind (by decide +kernel) vC_isOfKind_st (t_C_isOfKind (dd := dd + 0) q_6) rfl (Nat.le_of_ble_eq_true rfl) dV_bitsOfKind_20 rfl ⟨Nat.le_refl _, Nat.le_refl _⟩ ?_
      show K 0 0 23 [.ref y0, .int y1, .int w2, .int w3] [.int r_7, .int w2] (mb_s s_5)
      have j_9 : ∀ w_ : Int32, w_ = (if r_7 = 0 then 0 else (1 <<< (w3 &&& 31)) : Int32) → K 0 0 33 [.ref y0, .int y1, .int w2, .int w3] [.int w_, .int w2] (mb_s s_5) → K 0 0 23 [.ref y0, .int y1, .int w2, .int w3] [.int r_7, .int w2] (mb_s s_5) := by
        intro w_ hw hj
        refine ro_if_eq (tgt := 32) hK dV_bitsOfKind_23 (by decide) (fun c_8 => ?_) (fun c_8 => ?_)
        · skip
          refine ro_iconst (x := 0) hK (by decide) dV_bitsOfKind_32 ?_
          have hw := (hw.trans (if_pos c_8))
          subst hw
          exact hj
        · skip
          refine ro_iconst (x := 1) hK (by decide) dV_bitsOfKind_26 ?_
          refine ro_iload_n hK dV_bitsOfKind_27 rfl ?_
          refine ro_ishl hK dV_bitsOfKind_28 ?_
          refine ro_goto (tgt := 33) hK dV_bitsOfKind_29 (by decide) ?_
          have hw := (hw.trans (if_neg c_8))
          subst hw
          exact hj
      refine j_9 _ rfl ?_
      refine ro_ior hK dV_bitsOfKind_33 ?_
      refine ro_istore_n hK dV_bitsOfKind_34 (by decide) ?_
      show K 0 0 35 [.ref y0, .int y1, .int (w2 ||| (if r_7 = 0 then 0 else (1 <<< (w3 &&& 31)) : Int32)), .int w3] [] (mb_s s_5)
      refine ro_iincv (c := 1) hK (by decide) dV_bitsOfKind_35 rfl (by decide) ?_
      show K 0 0 38 [.ref y0, .int y1, .int (w2 ||| (if r_7 = 0 then 0 else (1 <<< (w3 &&& 31)) : Int32)), .int (w3 + 1)] [] (mb_s s_5)
      refine ro_goto (tgt := 4) hK dV_bitsOfKind_38 (by decide) ?_
      refine ro_fg (lv' := [.ref y0, .int y1, .int (w2 ||| (if r_7 = 0 then 0 else (1 <<< (w3 &&& 31)) : Int32)), .int (w3 + 1)]) hK ⟨Or.inr rfl, ⟨Or.inr rfl, ⟨Or.inr rfl, ⟨Or.inr rfl, trivial⟩⟩⟩⟩ ?_
      exact ih _ _ _ h
set_option maxHeartbeats 4000000 in
set_option maxRecDepth 100000 in
theorem t_V_bitsOfKind {dd n : Nat} {c : Nat} {x1 : Int32} {s : mb_T} {out : Int32 × mb_T} (hc : mb_cv c) (h : f_V_bitsOfKind n c x1 s = some out) : mb_MC (dd + 2) yV_bitsOfKind bV_bitsOfKind 4 (some .int) [.ref c, .int x1] s (some (.int out.1)) out.2 := by
  unfold f_V_bitsOfKind at h
  refine mj_mc (lv := [.ref c, .int x1, .retAddr 0, .retAddr 0]) mV_bitsOfKind rfl rfl (Nat.le_of_ble_eq_true rfl) (fun K hK hR => ?_)
  have hK : mj_C (dd + 2) 0 0 RV_c "bitsOfKind" bV_bitsOfKind 4 K := hK
  refine ro_iconst (x := 0) hK (by decide) dV_bitsOfKind_0 ?_
  refine ro_istore_n hK dV_bitsOfKind_1 (by decide) ?_
  show K 0 0 2 [.ref c, .int x1, .int 0, .retAddr 0] [] (mb_s s)
  refine ro_iconst (x := 0) hK (by decide) dV_bitsOfKind_2 ?_
  refine ro_istore_n hK dV_bitsOfKind_3 (by decide) ?_
  show K 0 0 4 [.ref c, .int x1, .int 0, .int 0] [] (mb_s s)
  refine ro_fg (lv' := [.ref c, .int x1, .int 0, .int 0]) hK ⟨Or.inr rfl, ⟨Or.inr rfl, ⟨Or.inr rfl, ⟨Or.inr rfl, trivial⟩⟩⟩⟩ ?_
  refine tl_V_bitsOfKind_4 (dd := dd) hK hR hc (fun x_10 x_11 s_12 h => ?_) n _ _ _ h
  refine ro_iload_n hK dV_bitsOfKind_41 rfl ?_
  cases h
  exact hR.1 0 0 42 _ _ _ _ rfl rfl dV_bitsOfKind_42 ⟨rfl, rfl⟩
theorem dR_figure_0 : decode bR_figure 0 = .ok (.aload_n 0, 1) := by decide +kernel
theorem dR_figure_1 : decode bR_figure 1 = .ok (.invokevirtual 50, 3) := by decide +kernel
theorem dR_figure_4 : decode bR_figure 4 = .ok (.bipush 48, 2) := by decide +kernel
theorem dR_figure_6 : decode bR_figure 6 = .ok (.isub, 1) := by decide +kernel
theorem dR_figure_7 : decode bR_figure 7 = .ok (.istore_n 3, 1) := by decide +kernel
theorem dR_figure_8 : decode bR_figure 8 = .ok (.iload_n 3, 1) := by decide +kernel
theorem dR_figure_9 : decode bR_figure 9 = .ok (.iload_n 1, 1) := by decide +kernel
theorem dR_figure_10 : decode bR_figure 10 = .ok (.if_icmp .lt 12, 3) := by decide +kernel
theorem dR_figure_13 : decode bR_figure 13 = .ok (.iload_n 3, 1) := by decide +kernel
theorem dR_figure_14 : decode bR_figure 14 = .ok (.iload_n 2, 1) := by decide +kernel
theorem dR_figure_15 : decode bR_figure 15 = .ok (.if_icmp .gt 7, 3) := by decide +kernel
theorem dR_figure_18 : decode bR_figure 18 = .ok (.iconst 1, 1) := by decide +kernel
theorem dR_figure_19 : decode bR_figure 19 = .ok (.goto 4, 3) := by decide +kernel
theorem dR_figure_22 : decode bR_figure 22 = .ok (.iconst 0, 1) := by decide +kernel
theorem dR_figure_23 : decode bR_figure 23 = .ok (.istore 4, 2) := by decide +kernel
theorem dR_figure_25 : decode bR_figure 25 = .ok (.aload_n 0, 1) := by decide +kernel
theorem dR_figure_26 : decode bR_figure 26 = .ok (.iload 4, 2) := by decide +kernel
theorem dR_figure_28 : decode bR_figure 28 = .ok (.invokevirtual 54, 3) := by decide +kernel
theorem dR_figure_31 : decode bR_figure 31 = .ok (.iload 4, 2) := by decide +kernel
theorem dR_figure_33 : decode bR_figure 33 = .ok (.ifCond .eq 7, 3) := by decide +kernel
theorem dR_figure_36 : decode bR_figure 36 = .ok (.iload_n 3, 1) := by decide +kernel
theorem dR_figure_37 : decode bR_figure 37 = .ok (.goto 4, 3) := by decide +kernel
theorem dR_figure_40 : decode bR_figure 40 = .ok (.iconst 0, 1) := by decide +kernel
theorem dR_figure_41 : decode bR_figure 41 = .ok (.ireturn, 1) := by decide +kernel
def f_R_figure (n : Nat) (x1 : Int32) (x2 : Int32) (s : mb_T) : Option (Int32 × mb_T) := mb_cl (f_R_sign n s) fun r_3 s_1 => mb_cw (f_R_take n (if (r_3 - 48) < x1 then 0 else (if x2 < (r_3 - 48) then 0 else 1 : Int32) : Int32) s_1) fun s_7 => some ((if (if (r_3 - 48) < x1 then 0 else (if x2 < (r_3 - 48) then 0 else 1 : Int32) : Int32) = 0 then 0 else (r_3 - 48) : Int32), s_7)
set_option maxHeartbeats 4000000 in
set_option maxRecDepth 100000 in
theorem t_R_figure {dd n : Nat} {x1 : Int32} {x2 : Int32} {s : mb_T} {out : Int32 × mb_T}  (h : f_R_figure n x1 x2 s = some out) : mb_MC (dd + 2) yR_figure bR_figure 5 (some .int) [.ref 36, .int x1, .int x2] s (some (.int out.1)) out.2 := by
  unfold f_R_figure at h
  refine mj_mc (lv := [.ref 36, .int x1, .int x2, .retAddr 0, .retAddr 0]) mR_figure rfl rfl (Nat.le_of_ble_eq_true rfl) (fun K hK hR => ?_)
  have hK : mj_C (dd + 2) 0 0 RR_c "figure" bR_figure 5 K := hK
  refine ro_aload_n hK dR_figure_0 rfl ?_
  obtain ⟨r_3, s_1, q_2, h⟩ := mb_cl_e h
  refine rb_callV hK mR_sign vR_50 (t_R_sign (dd := dd + 0) q_2) rfl mb_oR rfl (Nat.le_of_ble_eq_true rfl) dR_figure_1 rfl ⟨Nat.le_refl _, Nat.le_refl _⟩ ?_
  show K 0 0 4 [.ref 36, .int x1, .int x2, .retAddr 0, .retAddr 0] [.int r_3] (mb_s s_1)
  refine ro_bipush (x := 48) hK (by decide) dR_figure_4 ?_
  refine ro_isub hK dR_figure_6 ?_
  refine ro_istore_n hK dR_figure_7 (by decide) ?_
  show K 0 0 8 [.ref 36, .int x1, .int x2, .int (r_3 - 48), .retAddr 0] [] (mb_s s_1)
  refine ro_iload_n hK dR_figure_8 rfl ?_
  refine ro_iload_n hK dR_figure_9 rfl ?_
  have j_6 : ∀ w_ : Int32, w_ = (if (r_3 - 48) < x1 then 0 else (if x2 < (r_3 - 48) then 0 else 1 : Int32) : Int32) → K 0 0 23 [.ref 36, .int x1, .int x2, .int (r_3 - 48), .retAddr 0] [.int w_] (mb_s s_1) → K 0 0 10 [.ref 36, .int x1, .int x2, .int (r_3 - 48), .retAddr 0] [.int x1, .int (r_3 - 48)] (mb_s s_1) := by
    intro w_ hw hj
    refine ro_icmp_lt (tgt := 22) hK dR_figure_10 (by decide) (fun c_4 => ?_) (fun c_4 => ?_)
    · skip
      refine ro_iconst (x := 0) hK (by decide) dR_figure_22 ?_
      have hw := (hw.trans (if_pos c_4))
      subst hw
      exact hj
    · skip
      refine ro_iload_n hK dR_figure_13 rfl ?_
      refine ro_iload_n hK dR_figure_14 rfl ?_
      refine ro_icmp_gt (tgt := 22) hK dR_figure_15 (by decide) (fun c_5 => ?_) (fun c_5 => ?_)
      · skip
        refine ro_iconst (x := 0) hK (by decide) dR_figure_22 ?_
        have hw := ((hw.trans (if_neg c_4)).trans (if_pos c_5))
        subst hw
        exact hj
      · skip
        refine ro_iconst (x := 1) hK (by decide) dR_figure_18 ?_
        refine ro_goto (tgt := 23) hK dR_figure_19 (by decide) ?_
        have hw := ((hw.trans (if_neg c_4)).trans (if_neg c_5))
        subst hw
        exact hj
  refine j_6 _ rfl ?_
  refine ro_istore hK dR_figure_23 (by decide) ?_
  show K 0 0 25 [.ref 36, .int x1, .int x2, .int (r_3 - 48), .int (if (r_3 - 48) < x1 then 0 else (if x2 < (r_3 - 48) then 0 else 1 : Int32) : Int32)] [] (mb_s s_1)
  refine ro_aload_n hK dR_figure_25 rfl ?_
  refine ro_iload hK dR_figure_26 rfl ?_
  obtain ⟨s_7, q_8, h⟩ := mb_cw_e h
  refine rb_callV hK mR_take vR_54 (t_R_take (dd := dd + 0) q_8) rfl mb_oR rfl (Nat.le_of_ble_eq_true rfl) dR_figure_28 rfl ⟨Nat.le_refl _, Nat.le_refl _⟩ ?_
  show K 0 0 31 [.ref 36, .int x1, .int x2, .int (r_3 - 48), .int (if (r_3 - 48) < x1 then 0 else (if x2 < (r_3 - 48) then 0 else 1 : Int32) : Int32)] [] (mb_s s_7)
  refine ro_iload hK dR_figure_31 rfl ?_
  have j_10 : ∀ w_ : Int32, w_ = (if (if (r_3 - 48) < x1 then 0 else (if x2 < (r_3 - 48) then 0 else 1 : Int32) : Int32) = 0 then 0 else (r_3 - 48) : Int32) → K 0 0 41 [.ref 36, .int x1, .int x2, .int (r_3 - 48), .int (if (r_3 - 48) < x1 then 0 else (if x2 < (r_3 - 48) then 0 else 1 : Int32) : Int32)] [.int w_] (mb_s s_7) → K 0 0 33 [.ref 36, .int x1, .int x2, .int (r_3 - 48), .int (if (r_3 - 48) < x1 then 0 else (if x2 < (r_3 - 48) then 0 else 1 : Int32) : Int32)] [.int (if (r_3 - 48) < x1 then 0 else (if x2 < (r_3 - 48) then 0 else 1 : Int32) : Int32)] (mb_s s_7) := by
    intro w_ hw hj
    refine ro_if_eq (tgt := 40) hK dR_figure_33 (by decide) (fun c_9 => ?_) (fun c_9 => ?_)
    · skip
      refine ro_iconst (x := 0) hK (by decide) dR_figure_40 ?_
      have hw := (hw.trans (if_pos c_9))
      subst hw
      exact hj
    · skip
      refine ro_iload_n hK dR_figure_36 rfl ?_
      refine ro_goto (tgt := 41) hK dR_figure_37 (by decide) ?_
      have hw := (hw.trans (if_neg c_9))
      subst hw
      exact hj
  refine j_10 _ rfl ?_
  cases h
  exact hR.1 0 0 41 _ _ _ _ rfl rfl dR_figure_41 ⟨rfl, rfl⟩
theorem dM_figure_0 : decode bM_figure 0 = .ok (.aload_n 0, 1) := by decide +kernel
theorem dM_figure_1 : decode bM_figure 1 = .ok (.iload_n 1, 1) := by decide +kernel
theorem dM_figure_2 : decode bM_figure 2 = .ok (.invokevirtual 130, 3) := by decide +kernel
theorem dM_figure_5 : decode bM_figure 5 = .ok (.bipush 48, 2) := by decide +kernel
theorem dM_figure_7 : decode bM_figure 7 = .ok (.isub, 1) := by decide +kernel
theorem dM_figure_8 : decode bM_figure 8 = .ok (.istore 4, 2) := by decide +kernel
theorem dM_figure_10 : decode bM_figure 10 = .ok (.iload 4, 2) := by decide +kernel
theorem dM_figure_12 : decode bM_figure 12 = .ok (.iload_n 2, 1) := by decide +kernel
theorem dM_figure_13 : decode bM_figure 13 = .ok (.iload_n 3, 1) := by decide +kernel
theorem dM_figure_14 : decode bM_figure 14 = .ok (.invokestatic 92, 3) := by decide +kernel
theorem dM_figure_17 : decode bM_figure 17 = .ok (.ifCond .ne 6, 3) := by decide +kernel
theorem dM_figure_20 : decode bM_figure 20 = .ok (.bipush (-9), 2) := by decide +kernel
theorem dM_figure_22 : decode bM_figure 22 = .ok (.ireturn, 1) := by decide +kernel
theorem dM_figure_23 : decode bM_figure 23 = .ok (.aload_n 0, 1) := by decide +kernel
theorem dM_figure_24 : decode bM_figure 24 = .ok (.dup, 1) := by decide +kernel
theorem dM_figure_25 : decode bM_figure 25 = .ok (.getfield 127, 3) := by decide +kernel
theorem dM_figure_28 : decode bM_figure 28 = .ok (.iconst 1, 1) := by decide +kernel
theorem dM_figure_29 : decode bM_figure 29 = .ok (.iadd, 1) := by decide +kernel
theorem dM_figure_30 : decode bM_figure 30 = .ok (.putfield 127, 3) := by decide +kernel
theorem dM_figure_33 : decode bM_figure 33 = .ok (.iload 4, 2) := by decide +kernel
theorem dM_figure_35 : decode bM_figure 35 = .ok (.ireturn, 1) := by decide +kernel
def f_M_figure (n : Nat) (x1 : Int32) (x2 : Int32) (x3 : Int32) (s : mb_T) : Option (Int32 × mb_T) := mb_cl (f_M_here n x1 s) fun r_3 s_1 => mb_cl (f_M_in n (r_3 - 48) x2 x3 s_1) fun r_6 s_4 => if r_6 = 0 then some ((-9), s_4) else mb_bd (sF s_4 200 17 ((s_4.1 200 17) + 1)) fun s_8 => some ((r_3 - 48), s_8)
set_option maxHeartbeats 4000000 in
set_option maxRecDepth 100000 in
theorem t_M_figure {dd n : Nat} {x1 : Int32} {x2 : Int32} {x3 : Int32} {s : mb_T} {out : Int32 × mb_T}  (h : f_M_figure n x1 x2 x3 s = some out) : mb_MC (dd + 2) yM_figure bM_figure 5 (some .int) [.ref 200, .int x1, .int x2, .int x3] s (some (.int out.1)) out.2 := by
  unfold f_M_figure at h
  refine mj_mc (lv := [.ref 200, .int x1, .int x2, .int x3, .retAddr 0]) mM_figure rfl rfl (Nat.le_of_ble_eq_true rfl) (fun K hK hR => ?_)
  have hK : mj_C (dd + 2) 0 0 RM_c "figure" bM_figure 5 K := hK
  refine ro_aload_n hK dM_figure_0 rfl ?_
  refine ro_iload_n hK dM_figure_1 rfl ?_
  obtain ⟨r_3, s_1, q_2, h⟩ := mb_cl_e h
  refine rb_callV hK mM_here vM_130 (t_M_here (dd := dd + 0) q_2) rfl mb_oM rfl (Nat.le_of_ble_eq_true rfl) dM_figure_2 rfl ⟨Nat.le_refl _, Nat.le_refl _⟩ ?_
  show K 0 0 5 [.ref 200, .int x1, .int x2, .int x3, .retAddr 0] [.int r_3] (mb_s s_1)
  refine ro_bipush (x := 48) hK (by decide) dM_figure_5 ?_
  refine ro_isub hK dM_figure_7 ?_
  refine ro_istore hK dM_figure_8 (by decide) ?_
  show K 0 0 10 [.ref 200, .int x1, .int x2, .int x3, .int (r_3 - 48)] [] (mb_s s_1)
  refine ro_iload hK dM_figure_10 rfl ?_
  refine ro_iload_n hK dM_figure_12 rfl ?_
  refine ro_iload_n hK dM_figure_13 rfl ?_
  obtain ⟨r_6, s_4, q_5, h⟩ := mb_cl_e h
  refine rb_callS hK mM_in vM_92 (t_M_in (dd := dd + 0) q_5) rfl (Nat.le_of_ble_eq_true rfl) dM_figure_14 rfl ⟨Nat.le_refl _, Nat.le_refl _⟩ ?_
  show K 0 0 17 [.ref 200, .int x1, .int x2, .int x3, .int (r_3 - 48)] [.int r_6] (mb_s s_4)
  refine ro_if_ne (tgt := 23) hK dM_figure_17 (by decide) (fun c_7 => ?_) (fun c_7 => ?_)
  · replace h := mb_iff c_7 h
    refine ro_aload_n hK dM_figure_23 rfl ?_
    refine ro_dup hK dM_figure_24 rfl ?_
    refine rb_get hK fM_127 mb_oM rfl dM_figure_25 ?_
    refine ro_iconst (x := 1) hK (by decide) dM_figure_28 ?_
    refine ro_iadd hK dM_figure_29 ?_
    obtain ⟨s_8, e_9, h⟩ := mb_bd_e h
    refine rb_put hK gM_127 mb_oM rfl (by show 17 < 45; decide) rfl rfl e_9 dM_figure_30 ?_
    refine ro_iload hK dM_figure_33 rfl ?_
    cases h
    exact hR.1 0 0 35 _ _ _ _ rfl rfl dM_figure_35 ⟨rfl, rfl⟩
  · replace h := mb_ift c_7 h
    refine ro_bipush (x := (-9)) hK (by decide) dM_figure_20 ?_
    cases h
    exact hR.1 0 0 22 _ _ _ _ rfl rfl dM_figure_22 ⟨rfl, rfl⟩
theorem dM_findings_0 : decode bM_findings 0 = .ok (.iload_n 1, 1) := by decide +kernel
theorem dM_findings_1 : decode bM_findings 1 = .ok (.iconst 1, 1) := by decide +kernel
theorem dM_findings_2 : decode bM_findings 2 = .ok (.iconst 5, 1) := by decide +kernel
theorem dM_findings_3 : decode bM_findings 3 = .ok (.invokestatic 92, 3) := by decide +kernel
theorem dM_findings_6 : decode bM_findings 6 = .ok (.ifCond .eq 12, 3) := by decide +kernel
theorem dM_findings_9 : decode bM_findings 9 = .ok (.aload_n 0, 1) := by decide +kernel
theorem dM_findings_10 : decode bM_findings 10 = .ok (.getfield 7, 3) := by decide +kernel
theorem dM_findings_13 : decode bM_findings 13 = .ok (.iload_n 1, 1) := by decide +kernel
theorem dM_findings_14 : decode bM_findings 14 = .ok (.iaload, 1) := by decide +kernel
theorem dM_findings_15 : decode bM_findings 15 = .ok (.goto 4, 3) := by decide +kernel
theorem dM_findings_18 : decode bM_findings 18 = .ok (.iconst (-1), 1) := by decide +kernel
theorem dM_findings_19 : decode bM_findings 19 = .ok (.ireturn, 1) := by decide +kernel
def f_M_findings (n : Nat) (x1 : Int32) (s : mb_T) : Option (Int32 × mb_T) := mb_cl (f_M_in n x1 1 5 s) fun r_3 s_1 => if r_3 = 0 then some ((-1), s_1) else mb_rd s_1 201 6 x1 fun x_5 => some (x_5, s_1)
set_option maxHeartbeats 4000000 in
set_option maxRecDepth 100000 in
theorem t_M_findings {dd n : Nat} {x1 : Int32} {s : mb_T} {out : Int32 × mb_T}  (h : f_M_findings n x1 s = some out) : mb_MC (dd + 2) yM_findings bM_findings 2 (some .int) [.ref 200, .int x1] s (some (.int out.1)) out.2 := by
  unfold f_M_findings at h
  refine mj_mc (lv := [.ref 200, .int x1]) mM_findings rfl rfl (Nat.le_of_ble_eq_true rfl) (fun K hK hR => ?_)
  have hK : mj_C (dd + 2) 0 0 RM_c "findings" bM_findings 2 K := hK
  refine ro_iload_n hK dM_findings_0 rfl ?_
  refine ro_iconst (x := 1) hK (by decide) dM_findings_1 ?_
  refine ro_iconst (x := 5) hK (by decide) dM_findings_2 ?_
  obtain ⟨r_3, s_1, q_2, h⟩ := mb_cl_e h
  refine rb_callS hK mM_in vM_92 (t_M_in (dd := dd + 0) q_2) rfl (Nat.le_of_ble_eq_true rfl) dM_findings_3 rfl ⟨Nat.le_refl _, Nat.le_refl _⟩ ?_
  show K 0 0 6 [.ref 200, .int x1] [.int r_3] (mb_s s_1)
  refine ro_if_eq (tgt := 18) hK dM_findings_6 (by decide) (fun c_4 => ?_) (fun c_4 => ?_)
  · replace h := mb_ift c_4 h
    refine ro_iconst (x := (-1)) hK (by decide) dM_findings_18 ?_
    cases h
    exact hR.1 0 0 19 _ _ _ _ rfl rfl dM_findings_19 ⟨rfl, rfl⟩
  · replace h := mb_iff c_4 h
    refine ro_aload_n hK dM_findings_9 rfl ?_
    refine rb_get hK fM_7 mb_oM rfl dM_findings_10 ?_
    refine ro_iload_n hK dM_findings_13 rfl ?_
    obtain ⟨x_5, e_6, i_7, h⟩ := mb_rd_e h
    refine rb_iald hK ai_201 i_7 e_6 dM_findings_14 ?_
    refine ro_goto (tgt := 19) hK dM_findings_15 (by decide) ?_
    cases h
    exact hR.1 0 0 19 _ _ _ _ rfl rfl dM_findings_19 ⟨rfl, rfl⟩
theorem dM_had_0 : decode bM_had 0 = .ok (.iload_n 1, 1) := by decide +kernel
theorem dM_had_1 : decode bM_had 1 = .ok (.ifCond .ge 7, 3) := by decide +kernel
theorem dM_had_4 : decode bM_had 4 = .ok (.iconst (-1), 1) := by decide +kernel
theorem dM_had_5 : decode bM_had 5 = .ok (.goto 25, 3) := by decide +kernel
theorem dM_had_8 : decode bM_had 8 = .ok (.iload_n 1, 1) := by decide +kernel
theorem dM_had_9 : decode bM_had 9 = .ok (.aload_n 0, 1) := by decide +kernel
theorem dM_had_10 : decode bM_had 10 = .ok (.getfield 173, 3) := by decide +kernel
theorem dM_had_13 : decode bM_had 13 = .ok (.if_icmp .ge 12, 3) := by decide +kernel
theorem dM_had_16 : decode bM_had 16 = .ok (.aload_n 0, 1) := by decide +kernel
theorem dM_had_17 : decode bM_had 17 = .ok (.getfield 53, 3) := by decide +kernel
theorem dM_had_20 : decode bM_had 20 = .ok (.iload_n 1, 1) := by decide +kernel
theorem dM_had_21 : decode bM_had 21 = .ok (.iaload, 1) := by decide +kernel
theorem dM_had_22 : decode bM_had 22 = .ok (.goto 8, 3) := by decide +kernel
theorem dM_had_25 : decode bM_had 25 = .ok (.aload_n 0, 1) := by decide +kernel
theorem dM_had_26 : decode bM_had 26 = .ok (.iconst 2, 1) := by decide +kernel
theorem dM_had_27 : decode bM_had 27 = .ok (.invokevirtual 100, 3) := by decide +kernel
theorem dM_had_30 : decode bM_had 30 = .ok (.ireturn, 1) := by decide +kernel
def f_M_had (n : Nat) (x1 : Int32) (s : mb_T) : Option (Int32 × mb_T) := if 0 ≤ x1 then (if (s.1 200 24) ≤ x1 then (mb_cl (f_M_meet n 2 s) fun r_5 s_3 => some (r_5, s_3)) else mb_rd s 226 120 x1 fun x_6 => some (x_6, s)) else some ((-1), s)
set_option maxHeartbeats 4000000 in
set_option maxRecDepth 100000 in
theorem t_M_had {dd n : Nat} {x1 : Int32} {s : mb_T} {out : Int32 × mb_T}  (h : f_M_had n x1 s = some out) : mb_MC (dd + 2) yM_had bM_had 2 (some .int) [.ref 200, .int x1] s (some (.int out.1)) out.2 := by
  unfold f_M_had at h
  refine mj_mc (lv := [.ref 200, .int x1]) mM_had rfl rfl (Nat.le_of_ble_eq_true rfl) (fun K hK hR => ?_)
  have hK : mj_C (dd + 2) 0 0 RM_c "had" bM_had 2 K := hK
  refine ro_iload_n hK dM_had_0 rfl ?_
  refine ro_if_ge (tgt := 8) hK dM_had_1 (by decide) (fun c_1 => ?_) (fun c_1 => ?_)
  · replace h := mb_ift c_1 h
    refine ro_iload_n hK dM_had_8 rfl ?_
    refine ro_aload_n hK dM_had_9 rfl ?_
    refine rb_get hK fM_173 mb_oM rfl dM_had_10 ?_
    refine ro_icmp_ge (tgt := 25) hK dM_had_13 (by decide) (fun c_2 => ?_) (fun c_2 => ?_)
    · replace h := mb_ift c_2 h
      refine ro_aload_n hK dM_had_25 rfl ?_
      refine ro_iconst (x := 2) hK (by decide) dM_had_26 ?_
      obtain ⟨r_5, s_3, q_4, h⟩ := mb_cl_e h
      refine rb_callV hK mM_meet vM_100 (t_M_meet (dd := dd + 0) q_4) rfl mb_oM rfl (Nat.le_of_ble_eq_true rfl) dM_had_27 rfl ⟨Nat.le_refl _, Nat.le_refl _⟩ ?_
      show K 0 0 30 [.ref 200, .int x1] [.int r_5] (mb_s s_3)
      cases h
      exact hR.1 0 0 30 _ _ _ _ rfl rfl dM_had_30 ⟨rfl, rfl⟩
    · replace h := mb_iff c_2 h
      refine ro_aload_n hK dM_had_16 rfl ?_
      refine rb_get hK fM_53 mb_oM rfl dM_had_17 ?_
      refine ro_iload_n hK dM_had_20 rfl ?_
      obtain ⟨x_6, e_7, i_8, h⟩ := mb_rd_e h
      refine rb_iald hK ai_226 i_8 e_7 dM_had_21 ?_
      refine ro_goto (tgt := 30) hK dM_had_22 (by decide) ?_
      cases h
      exact hR.1 0 0 30 _ _ _ _ rfl rfl dM_had_30 ⟨rfl, rfl⟩
  · replace h := mb_iff c_1 h
    refine ro_iconst (x := (-1)) hK (by decide) dM_had_4 ?_
    refine ro_goto (tgt := 30) hK dM_had_5 (by decide) ?_
    cases h
    exact hR.1 0 0 30 _ _ _ _ rfl rfl dM_had_30 ⟨rfl, rfl⟩
theorem dM_isOne_0 : decode bM_isOne 0 = .ok (.iload_n 1, 1) := by decide +kernel
theorem dM_isOne_1 : decode bM_isOne 1 = .ok (.iconst 0, 1) := by decide +kernel
theorem dM_isOne_2 : decode bM_isOne 2 = .ok (.aload_n 0, 1) := by decide +kernel
theorem dM_isOne_3 : decode bM_isOne 3 = .ok (.getfield 161, 3) := by decide +kernel
theorem dM_isOne_6 : decode bM_isOne 6 = .ok (.iconst 1, 1) := by decide +kernel
theorem dM_isOne_7 : decode bM_isOne 7 = .ok (.isub, 1) := by decide +kernel
theorem dM_isOne_8 : decode bM_isOne 8 = .ok (.invokestatic 92, 3) := by decide +kernel
theorem dM_isOne_11 : decode bM_isOne 11 = .ok (.ireturn, 1) := by decide +kernel
def f_M_isOne (n : Nat) (x1 : Int32) (s : mb_T) : Option (Int32 × mb_T) := mb_cl (f_M_in n x1 0 ((s.1 200 8) - 1) s) fun r_3 s_1 => mb_bz r_3 (some (r_3, s_1))
set_option maxHeartbeats 4000000 in
set_option maxRecDepth 100000 in
theorem t_M_isOne {dd n : Nat} {x1 : Int32} {s : mb_T} {out : Int32 × mb_T}  (h : f_M_isOne n x1 s = some out) : mb_MC (dd + 2) yM_isOne bM_isOne 2 (some .boolean) [.ref 200, .int x1] s (some (.int out.1)) out.2 := by
  unfold f_M_isOne at h
  refine mj_mc (lv := [.ref 200, .int x1]) mM_isOne rfl rfl (Nat.le_of_ble_eq_true rfl) (fun K hK hR => ?_)
  have hK : mj_C (dd + 2) 0 0 RM_c "isOne" bM_isOne 2 K := hK
  refine ro_iload_n hK dM_isOne_0 rfl ?_
  refine ro_iconst (x := 0) hK (by decide) dM_isOne_1 ?_
  refine ro_aload_n hK dM_isOne_2 rfl ?_
  refine rb_get hK fM_161 mb_oM rfl dM_isOne_3 ?_
  refine ro_iconst (x := 1) hK (by decide) dM_isOne_6 ?_
  refine ro_isub hK dM_isOne_7 ?_
  obtain ⟨r_3, s_1, q_2, h⟩ := mb_cl_e h
  refine rb_callS hK mM_in vM_92 (t_M_in (dd := dd + 0) q_2) rfl (Nat.le_of_ble_eq_true rfl) dM_isOne_8 rfl ⟨Nat.le_refl _, Nat.le_refl _⟩ ?_
  show K 0 0 11 [.ref 200, .int x1] [.int r_3] (mb_s s_1)
  obtain ⟨z_4, h⟩ := mb_bz_e h
  cases h
  exact hR.1 0 0 11 _ _ _ _ rfl (mb_nz z_4) dM_isOne_11 ⟨rfl, rfl⟩
theorem dM_isOver_0 : decode bM_isOver 0 = .ok (.aload_n 0, 1) := by decide +kernel
theorem dM_isOver_1 : decode bM_isOver 1 = .ok (.invokevirtual 198, 3) := by decide +kernel
theorem dM_isOver_4 : decode bM_isOver 4 = .ok (.ifCond .eq 7, 3) := by decide +kernel
theorem dM_isOver_7 : decode bM_isOver 7 = .ok (.iconst 1, 1) := by decide +kernel
theorem dM_isOver_8 : decode bM_isOver 8 = .ok (.goto 4, 3) := by decide +kernel
theorem dM_isOver_11 : decode bM_isOver 11 = .ok (.iconst 0, 1) := by decide +kernel
theorem dM_isOver_12 : decode bM_isOver 12 = .ok (.ireturn, 1) := by decide +kernel
def f_M_isOver (n : Nat)  (s : mb_T) : Option (Int32 × mb_T) := mb_cl (f_M_screaming n s) fun r_3 s_1 => mb_bz (if r_3 = 0 then 0 else 1 : Int32) (some ((if r_3 = 0 then 0 else 1 : Int32), s_1))
set_option maxHeartbeats 4000000 in
set_option maxRecDepth 100000 in
theorem t_M_isOver {dd n : Nat}  {s : mb_T} {out : Int32 × mb_T}  (h : f_M_isOver n  s = some out) : mb_MC (dd + 2) yM_isOver bM_isOver 1 (some .boolean) [.ref 200] s (some (.int out.1)) out.2 := by
  unfold f_M_isOver at h
  refine mj_mc (lv := [.ref 200]) mM_isOver rfl rfl (Nat.le_of_ble_eq_true rfl) (fun K hK hR => ?_)
  have hK : mj_C (dd + 2) 0 0 RM_c "isOver" bM_isOver 1 K := hK
  refine ro_aload_n hK dM_isOver_0 rfl ?_
  obtain ⟨r_3, s_1, q_2, h⟩ := mb_cl_e h
  refine rb_callV hK mM_screaming vM_198 (t_M_screaming (dd := dd + 0) q_2) rfl mb_oM rfl (Nat.le_of_ble_eq_true rfl) dM_isOver_1 rfl ⟨Nat.le_refl _, Nat.le_refl _⟩ ?_
  show K 0 0 4 [.ref 200] [.int r_3] (mb_s s_1)
  have j_5 : ∀ w_ : Int32, w_ = (if r_3 = 0 then 0 else 1 : Int32) → K 0 0 12 [.ref 200] [.int w_] (mb_s s_1) → K 0 0 4 [.ref 200] [.int r_3] (mb_s s_1) := by
    intro w_ hw hj
    refine ro_if_eq (tgt := 11) hK dM_isOver_4 (by decide) (fun c_4 => ?_) (fun c_4 => ?_)
    · skip
      refine ro_iconst (x := 0) hK (by decide) dM_isOver_11 ?_
      have hw := (hw.trans (if_pos c_4))
      subst hw
      exact hj
    · skip
      refine ro_iconst (x := 1) hK (by decide) dM_isOver_7 ?_
      refine ro_goto (tgt := 12) hK dM_isOver_8 (by decide) ?_
      have hw := (hw.trans (if_neg c_4))
      subst hw
      exact hj
  refine j_5 _ rfl ?_
  obtain ⟨z_6, h⟩ := mb_bz_e h
  cases h
  exact hR.1 0 0 12 _ _ _ _ rfl (mb_nz z_6) dM_isOver_12 ⟨rfl, rfl⟩
theorem dM_isRow_0 : decode bM_isRow 0 = .ok (.iload_n 0, 1) := by decide +kernel
theorem dM_isRow_1 : decode bM_isRow 1 = .ok (.iconst 0, 1) := by decide +kernel
theorem dM_isRow_2 : decode bM_isRow 2 = .ok (.iconst 5, 1) := by decide +kernel
theorem dM_isRow_3 : decode bM_isRow 3 = .ok (.invokestatic 92, 3) := by decide +kernel
theorem dM_isRow_6 : decode bM_isRow 6 = .ok (.ireturn, 1) := by decide +kernel
def f_M_isRow (n : Nat) (x1 : Int32) (s : mb_T) : Option (Int32 × mb_T) := mb_cl (f_M_in n x1 0 5 s) fun r_3 s_1 => mb_bz r_3 (some (r_3, s_1))
set_option maxHeartbeats 4000000 in
set_option maxRecDepth 100000 in
theorem t_M_isRow {dd n : Nat} {x1 : Int32} {s : mb_T} {out : Int32 × mb_T}  (h : f_M_isRow n x1 s = some out) : mb_MC (dd + 2) yM_isRow bM_isRow 1 (some .boolean) [.int x1] s (some (.int out.1)) out.2 := by
  unfold f_M_isRow at h
  refine mj_mc (lv := [.int x1]) mM_isRow rfl rfl (Nat.le_of_ble_eq_true rfl) (fun K hK hR => ?_)
  have hK : mj_C (dd + 2) 0 0 RM_c "isRow" bM_isRow 1 K := hK
  refine ro_iload_n hK dM_isRow_0 rfl ?_
  refine ro_iconst (x := 0) hK (by decide) dM_isRow_1 ?_
  refine ro_iconst (x := 5) hK (by decide) dM_isRow_2 ?_
  obtain ⟨r_3, s_1, q_2, h⟩ := mb_cl_e h
  refine rb_callS hK mM_in vM_92 (t_M_in (dd := dd + 0) q_2) rfl (Nat.le_of_ble_eq_true rfl) dM_isRow_3 rfl ⟨Nat.le_refl _, Nat.le_refl _⟩ ?_
  show K 0 0 6 [.int x1] [.int r_3] (mb_s s_1)
  obtain ⟨z_4, h⟩ := mb_bz_e h
  cases h
  exact hR.1 0 0 6 _ _ _ _ rfl (mb_nz z_4) dM_isRow_6 ⟨rfl, rfl⟩
theorem dM_isSpan_0 : decode bM_isSpan 0 = .ok (.iload_n 0, 1) := by decide +kernel
theorem dM_isSpan_1 : decode bM_isSpan 1 = .ok (.iconst 0, 1) := by decide +kernel
theorem dM_isSpan_2 : decode bM_isSpan 2 = .ok (.bipush 60, 2) := by decide +kernel
theorem dM_isSpan_4 : decode bM_isSpan 4 = .ok (.invokestatic 92, 3) := by decide +kernel
theorem dM_isSpan_7 : decode bM_isSpan 7 = .ok (.ireturn, 1) := by decide +kernel
def f_M_isSpan (n : Nat) (x1 : Int32) (s : mb_T) : Option (Int32 × mb_T) := mb_cl (f_M_in n x1 0 60 s) fun r_3 s_1 => mb_bz r_3 (some (r_3, s_1))
set_option maxHeartbeats 4000000 in
set_option maxRecDepth 100000 in
theorem t_M_isSpan {dd n : Nat} {x1 : Int32} {s : mb_T} {out : Int32 × mb_T}  (h : f_M_isSpan n x1 s = some out) : mb_MC (dd + 2) yM_isSpan bM_isSpan 1 (some .boolean) [.int x1] s (some (.int out.1)) out.2 := by
  unfold f_M_isSpan at h
  refine mj_mc (lv := [.int x1]) mM_isSpan rfl rfl (Nat.le_of_ble_eq_true rfl) (fun K hK hR => ?_)
  have hK : mj_C (dd + 2) 0 0 RM_c "isSpan" bM_isSpan 1 K := hK
  refine ro_iload_n hK dM_isSpan_0 rfl ?_
  refine ro_iconst (x := 0) hK (by decide) dM_isSpan_1 ?_
  refine ro_bipush (x := 60) hK (by decide) dM_isSpan_2 ?_
  obtain ⟨r_3, s_1, q_2, h⟩ := mb_cl_e h
  refine rb_callS hK mM_in vM_92 (t_M_in (dd := dd + 0) q_2) rfl (Nat.le_of_ble_eq_true rfl) dM_isSpan_4 rfl ⟨Nat.le_refl _, Nat.le_refl _⟩ ?_
  show K 0 0 7 [.int x1] [.int r_3] (mb_s s_1)
  obtain ⟨z_4, h⟩ := mb_bz_e h
  cases h
  exact hR.1 0 0 7 _ _ _ _ rfl (mb_nz z_4) dM_isSpan_7 ⟨rfl, rfl⟩
theorem dM_isText_0 : decode bM_isText 0 = .ok (.iload_n 0, 1) := by decide +kernel
theorem dM_isText_1 : decode bM_isText 1 = .ok (.iconst 0, 1) := by decide +kernel
theorem dM_isText_2 : decode bM_isText 2 = .ok (.iconst 3, 1) := by decide +kernel
theorem dM_isText_3 : decode bM_isText 3 = .ok (.invokestatic 92, 3) := by decide +kernel
theorem dM_isText_6 : decode bM_isText 6 = .ok (.ireturn, 1) := by decide +kernel
def f_M_isText (n : Nat) (x1 : Int32) (s : mb_T) : Option (Int32 × mb_T) := mb_cl (f_M_in n x1 0 3 s) fun r_3 s_1 => mb_bz r_3 (some (r_3, s_1))
set_option maxHeartbeats 4000000 in
set_option maxRecDepth 100000 in
theorem t_M_isText {dd n : Nat} {x1 : Int32} {s : mb_T} {out : Int32 × mb_T}  (h : f_M_isText n x1 s = some out) : mb_MC (dd + 2) yM_isText bM_isText 1 (some .boolean) [.int x1] s (some (.int out.1)) out.2 := by
  unfold f_M_isText at h
  refine mj_mc (lv := [.int x1]) mM_isText rfl rfl (Nat.le_of_ble_eq_true rfl) (fun K hK hR => ?_)
  have hK : mj_C (dd + 2) 0 0 RM_c "isText" bM_isText 1 K := hK
  refine ro_iload_n hK dM_isText_0 rfl ?_
  refine ro_iconst (x := 0) hK (by decide) dM_isText_1 ?_
  refine ro_iconst (x := 3) hK (by decide) dM_isText_2 ?_
  obtain ⟨r_3, s_1, q_2, h⟩ := mb_cl_e h
  refine rb_callS hK mM_in vM_92 (t_M_in (dd := dd + 0) q_2) rfl (Nat.le_of_ble_eq_true rfl) dM_isText_3 rfl ⟨Nat.le_refl _, Nat.le_refl _⟩ ?_
  show K 0 0 6 [.int x1] [.int r_3] (mb_s s_1)
  obtain ⟨z_4, h⟩ := mb_bz_e h
  cases h
  exact hR.1 0 0 6 _ _ _ _ rfl (mb_nz z_4) dM_isText_6 ⟨rfl, rfl⟩
theorem dM_keep_0 : decode bM_keep 0 = .ok (.iload_n 1, 1) := by decide +kernel
theorem dM_keep_1 : decode bM_keep 1 = .ok (.iconst 0, 1) := by decide +kernel
theorem dM_keep_2 : decode bM_keep 2 = .ok (.iconst 2, 1) := by decide +kernel
theorem dM_keep_3 : decode bM_keep 3 = .ok (.invokestatic 92, 3) := by decide +kernel
theorem dM_keep_6 : decode bM_keep 6 = .ok (.ifCond .ne 5, 3) := by decide +kernel
theorem dM_keep_9 : decode bM_keep 9 = .ok (.iconst (-1), 1) := by decide +kernel
theorem dM_keep_10 : decode bM_keep 10 = .ok (.ireturn, 1) := by decide +kernel
theorem dM_keep_11 : decode bM_keep 11 = .ok (.aload_n 0, 1) := by decide +kernel
theorem dM_keep_12 : decode bM_keep 12 = .ok (.getfield 161, 3) := by decide +kernel
theorem dM_keep_15 : decode bM_keep 15 = .ok (.ifCond .ne 6, 3) := by decide +kernel
theorem dM_keep_18 : decode bM_keep 18 = .ok (.bipush (-4), 2) := by decide +kernel
theorem dM_keep_20 : decode bM_keep 20 = .ok (.ireturn, 1) := by decide +kernel
theorem dM_keep_21 : decode bM_keep 21 = .ok (.sipush 850, 3) := by decide +kernel
theorem dM_keep_24 : decode bM_keep 24 = .ok (.iload_n 1, 1) := by decide +kernel
theorem dM_keep_25 : decode bM_keep 25 = .ok (.imul, 1) := by decide +kernel
theorem dM_keep_26 : decode bM_keep 26 = .ok (.istore_n 2, 1) := by decide +kernel
theorem dM_keep_27 : decode bM_keep 27 = .ok (.aload_n 0, 1) := by decide +kernel
theorem dM_keep_28 : decode bM_keep 28 = .ok (.getfield 62, 3) := by decide +kernel
theorem dM_keep_31 : decode bM_keep 31 = .ok (.iload_n 2, 1) := by decide +kernel
theorem dM_keep_32 : decode bM_keep 32 = .ok (.aload_n 0, 1) := by decide +kernel
theorem dM_keep_33 : decode bM_keep 33 = .ok (.getfield 173, 3) := by decide +kernel
theorem dM_keep_36 : decode bM_keep 36 = .ok (.iastore, 1) := by decide +kernel
theorem dM_keep_37 : decode bM_keep 37 = .ok (.aload_n 0, 1) := by decide +kernel
theorem dM_keep_38 : decode bM_keep 38 = .ok (.getfield 62, 3) := by decide +kernel
theorem dM_keep_41 : decode bM_keep 41 = .ok (.iload_n 2, 1) := by decide +kernel
theorem dM_keep_42 : decode bM_keep 42 = .ok (.iconst 1, 1) := by decide +kernel
theorem dM_keep_43 : decode bM_keep 43 = .ok (.iadd, 1) := by decide +kernel
theorem dM_keep_44 : decode bM_keep 44 = .ok (.aload_n 0, 1) := by decide +kernel
theorem dM_keep_45 : decode bM_keep 45 = .ok (.getfield 167, 3) := by decide +kernel
theorem dM_keep_48 : decode bM_keep 48 = .ok (.iastore, 1) := by decide +kernel
theorem dM_keep_49 : decode bM_keep 49 = .ok (.aload_n 0, 1) := by decide +kernel
theorem dM_keep_50 : decode bM_keep 50 = .ok (.getfield 62, 3) := by decide +kernel
theorem dM_keep_53 : decode bM_keep 53 = .ok (.iload_n 2, 1) := by decide +kernel
theorem dM_keep_54 : decode bM_keep 54 = .ok (.iconst 2, 1) := by decide +kernel
theorem dM_keep_55 : decode bM_keep 55 = .ok (.iadd, 1) := by decide +kernel
theorem dM_keep_56 : decode bM_keep 56 = .ok (.aload_n 0, 1) := by decide +kernel
theorem dM_keep_57 : decode bM_keep 57 = .ok (.getfield 170, 3) := by decide +kernel
theorem dM_keep_60 : decode bM_keep 60 = .ok (.iastore, 1) := by decide +kernel
theorem dM_keep_61 : decode bM_keep 61 = .ok (.aload_n 0, 1) := by decide +kernel
theorem dM_keep_62 : decode bM_keep 62 = .ok (.getfield 62, 3) := by decide +kernel
theorem dM_keep_65 : decode bM_keep 65 = .ok (.iload_n 2, 1) := by decide +kernel
theorem dM_keep_66 : decode bM_keep 66 = .ok (.iconst 3, 1) := by decide +kernel
theorem dM_keep_67 : decode bM_keep 67 = .ok (.iadd, 1) := by decide +kernel
theorem dM_keep_68 : decode bM_keep 68 = .ok (.aload_n 0, 1) := by decide +kernel
theorem dM_keep_69 : decode bM_keep 69 = .ok (.getfield 50, 3) := by decide +kernel
theorem dM_keep_72 : decode bM_keep 72 = .ok (.iastore, 1) := by decide +kernel
theorem dM_keep_73 : decode bM_keep 73 = .ok (.iconst 0, 1) := by decide +kernel
theorem dM_keep_74 : decode bM_keep 74 = .ok (.istore_n 3, 1) := by decide +kernel
theorem dM_keep_75 : decode bM_keep 75 = .ok (.iload_n 3, 1) := by decide +kernel
theorem dM_keep_76 : decode bM_keep 76 = .ok (.iconst 5, 1) := by decide +kernel
theorem dM_keep_77 : decode bM_keep 77 = .ok (.if_icmp .ge 25, 3) := by decide +kernel
theorem dM_keep_80 : decode bM_keep 80 = .ok (.aload_n 0, 1) := by decide +kernel
theorem dM_keep_81 : decode bM_keep 81 = .ok (.getfield 62, 3) := by decide +kernel
theorem dM_keep_84 : decode bM_keep 84 = .ok (.iload_n 2, 1) := by decide +kernel
theorem dM_keep_85 : decode bM_keep 85 = .ok (.iconst 4, 1) := by decide +kernel
theorem dM_keep_86 : decode bM_keep 86 = .ok (.iadd, 1) := by decide +kernel
theorem dM_keep_87 : decode bM_keep 87 = .ok (.iload_n 3, 1) := by decide +kernel
theorem dM_keep_88 : decode bM_keep 88 = .ok (.iadd, 1) := by decide +kernel
theorem dM_keep_89 : decode bM_keep 89 = .ok (.aload_n 0, 1) := by decide +kernel
theorem dM_keep_90 : decode bM_keep 90 = .ok (.getfield 31, 3) := by decide +kernel
theorem dM_keep_93 : decode bM_keep 93 = .ok (.iload_n 3, 1) := by decide +kernel
theorem dM_keep_94 : decode bM_keep 94 = .ok (.iaload, 1) := by decide +kernel
theorem dM_keep_95 : decode bM_keep 95 = .ok (.iastore, 1) := by decide +kernel
theorem dM_keep_96 : decode bM_keep 96 = .ok (.iinc 3 1, 3) := by decide +kernel
theorem dM_keep_99 : decode bM_keep 99 = .ok (.goto (-24), 3) := by decide +kernel
theorem dM_keep_102 : decode bM_keep 102 = .ok (.iconst 0, 1) := by decide +kernel
theorem dM_keep_103 : decode bM_keep 103 = .ok (.istore_n 3, 1) := by decide +kernel
theorem dM_keep_104 : decode bM_keep 104 = .ok (.iload_n 3, 1) := by decide +kernel
theorem dM_keep_105 : decode bM_keep 105 = .ok (.bipush 120, 2) := by decide +kernel
theorem dM_keep_107 : decode bM_keep 107 = .ok (.if_icmp .ge 26, 3) := by decide +kernel
theorem dM_keep_110 : decode bM_keep 110 = .ok (.aload_n 0, 1) := by decide +kernel
theorem dM_keep_111 : decode bM_keep 111 = .ok (.getfield 62, 3) := by decide +kernel
theorem dM_keep_114 : decode bM_keep 114 = .ok (.iload_n 2, 1) := by decide +kernel
theorem dM_keep_115 : decode bM_keep 115 = .ok (.bipush 10, 2) := by decide +kernel
theorem dM_keep_117 : decode bM_keep 117 = .ok (.iadd, 1) := by decide +kernel
theorem dM_keep_118 : decode bM_keep 118 = .ok (.iload_n 3, 1) := by decide +kernel
theorem dM_keep_119 : decode bM_keep 119 = .ok (.iadd, 1) := by decide +kernel
theorem dM_keep_120 : decode bM_keep 120 = .ok (.aload_n 0, 1) := by decide +kernel
theorem dM_keep_121 : decode bM_keep 121 = .ok (.getfield 53, 3) := by decide +kernel
theorem dM_keep_124 : decode bM_keep 124 = .ok (.iload_n 3, 1) := by decide +kernel
theorem dM_keep_125 : decode bM_keep 125 = .ok (.iaload, 1) := by decide +kernel
theorem dM_keep_126 : decode bM_keep 126 = .ok (.iastore, 1) := by decide +kernel
theorem dM_keep_127 : decode bM_keep 127 = .ok (.iinc 3 1, 3) := by decide +kernel
theorem dM_keep_130 : decode bM_keep 130 = .ok (.goto (-26), 3) := by decide +kernel
theorem dM_keep_133 : decode bM_keep 133 = .ok (.iconst 0, 1) := by decide +kernel
theorem dM_keep_134 : decode bM_keep 134 = .ok (.istore_n 3, 1) := by decide +kernel
theorem dM_keep_135 : decode bM_keep 135 = .ok (.iload_n 3, 1) := by decide +kernel
theorem dM_keep_136 : decode bM_keep 136 = .ok (.sipush 720, 3) := by decide +kernel
theorem dM_keep_139 : decode bM_keep 139 = .ok (.if_icmp .ge 27, 3) := by decide +kernel
theorem dM_keep_142 : decode bM_keep 142 = .ok (.aload_n 0, 1) := by decide +kernel
theorem dM_keep_143 : decode bM_keep 143 = .ok (.getfield 62, 3) := by decide +kernel
theorem dM_keep_146 : decode bM_keep 146 = .ok (.iload_n 2, 1) := by decide +kernel
theorem dM_keep_147 : decode bM_keep 147 = .ok (.sipush 130, 3) := by decide +kernel
theorem dM_keep_150 : decode bM_keep 150 = .ok (.iadd, 1) := by decide +kernel
theorem dM_keep_151 : decode bM_keep 151 = .ok (.iload_n 3, 1) := by decide +kernel
theorem dM_keep_152 : decode bM_keep 152 = .ok (.iadd, 1) := by decide +kernel
theorem dM_keep_153 : decode bM_keep 153 = .ok (.aload_n 0, 1) := by decide +kernel
theorem dM_keep_154 : decode bM_keep 154 = .ok (.getfield 56, 3) := by decide +kernel
theorem dM_keep_157 : decode bM_keep 157 = .ok (.iload_n 3, 1) := by decide +kernel
theorem dM_keep_158 : decode bM_keep 158 = .ok (.iaload, 1) := by decide +kernel
theorem dM_keep_159 : decode bM_keep 159 = .ok (.iastore, 1) := by decide +kernel
theorem dM_keep_160 : decode bM_keep 160 = .ok (.iinc 3 1, 3) := by decide +kernel
theorem dM_keep_163 : decode bM_keep 163 = .ok (.goto (-28), 3) := by decide +kernel
theorem dM_keep_166 : decode bM_keep 166 = .ok (.aload_n 0, 1) := by decide +kernel
theorem dM_keep_167 : decode bM_keep 167 = .ok (.getfield 173, 3) := by decide +kernel
theorem dM_keep_170 : decode bM_keep 170 = .ok (.ireturn, 1) := by decide +kernel
def f_M_keep_75 (n : Nat) (k0 : Int32 → mb_T → Option (Int32 × mb_T)) (y2 : Int32) : Nat → Int32 → mb_T → Option (Int32 × mb_T)
  | 0, _, _ => none
  | f + 1, w3, s => if 5 ≤ w3 then k0 w3 s else mb_rd s 213 10 w3 fun x_19 => mb_wr s 229 2550 ((y2 + 4) + w3) x_19 fun s_22 => f_M_keep_75 n k0 y2 f (w3 + 1) s_22
def f_M_keep_104 (n : Nat) (k0 : Int32 → mb_T → Option (Int32 × mb_T)) (y2 : Int32) : Nat → Int32 → mb_T → Option (Int32 × mb_T)
  | 0, _, _ => none
  | f + 1, w3, s => if 120 ≤ w3 then k0 w3 s else mb_rd s 226 120 w3 fun x_28 => mb_wr s 229 2550 ((y2 + 10) + w3) x_28 fun s_31 => f_M_keep_104 n k0 y2 f (w3 + 1) s_31
def f_M_keep_135 (n : Nat) (k0 : Int32 → mb_T → Option (Int32 × mb_T)) (y2 : Int32) : Nat → Int32 → mb_T → Option (Int32 × mb_T)
  | 0, _, _ => none
  | f + 1, w3, s => if 720 ≤ w3 then k0 w3 s else mb_rd s 227 720 w3 fun x_37 => mb_wr s 229 2550 ((y2 + 130) + w3) x_37 fun s_40 => f_M_keep_135 n k0 y2 f (w3 + 1) s_40
def f_M_keep (n : Nat) (x1 : Int32) (s : mb_T) : Option (Int32 × mb_T) := mb_cl (f_M_in n x1 0 2 s) fun r_3 s_1 => if r_3 = 0 then some ((-1), s_1) else if (s_1.1 200 8) = 0 then some ((-4), s_1) else mb_wr s_1 229 2550 (850 * x1) (s_1.1 200 24) fun s_6 => mb_wr s_6 229 2550 ((850 * x1) + 1) (s_6.1 200 10) fun s_9 => mb_wr s_9 229 2550 ((850 * x1) + 2) (s_9.1 200 11) fun s_12 => mb_wr s_12 229 2550 ((850 * x1) + 3) (s_12.1 200 25) fun s_15 => f_M_keep_75 n (fun x_25 s_26 => f_M_keep_104 n (fun x_34 s_35 => f_M_keep_135 n (fun x_43 s_44 => some ((s_44.1 200 24), s_44)) (850 * x1) n 0 s_35) (850 * x1) n 0 s_26) (850 * x1) n 0 s_15
set_option maxHeartbeats 4000000 in
set_option maxRecDepth 100000 in
theorem tl_M_keep_75 {dd n : Nat} {K : mj_KT} {out : Int32 × mb_T} (hK : mj_C (dd + 2) 0 0 RM_c "keep" bM_keep 4 K) (hR : mj_R bM_keep (some .int) (fun r2 S2 => r2 = some (.int out.1) ∧ S2 = mb_s out.2) K) {k0 : Int32 → mb_T → Option (Int32 × mb_T)} {y2 : Int32} (hk0 : ∀ (w3 : Int32) (s : mb_T), k0 w3 s = some out → K 0 0 102 [.ref 200, .retAddr 0, .int y2, .int w3] [] (mb_s s)) : ∀ (f : Nat) (w3 : Int32) (s : mb_T), f_M_keep_75 n k0 y2 f w3 s = some out → K 0 0 75 [.ref 200, .retAddr 0, .int y2, .int w3] [] (mb_s s) := by
  intro f
  induction f with
  | zero =>
    intro w3 s h
    cases h
  | succ f ih =>
    intro w3 s h
    rw [f_M_keep_75] at h
    refine ro_iload_n hK dM_keep_75 rfl ?_
    refine ro_iconst (x := 5) hK (by decide) dM_keep_76 ?_
    refine ro_icmp_ge (tgt := 102) hK dM_keep_77 (by decide) (fun c_18 => ?_) (fun c_18 => ?_)
    · replace h := mb_ift c_18 h
      refine ro_fg (lv' := [.ref 200, .retAddr 0, .int y2, .int w3]) hK ⟨Or.inr rfl, ⟨Or.inl rfl, ⟨Or.inr rfl, ⟨Or.inr rfl, trivial⟩⟩⟩⟩ ?_
      exact hk0 _ _ h
    · replace h := mb_iff c_18 h
      refine ro_aload_n hK dM_keep_80 rfl ?_
      refine rb_get hK fM_62 mb_oM rfl dM_keep_81 ?_
      refine ro_iload_n hK dM_keep_84 rfl ?_
      refine ro_iconst (x := 4) hK (by decide) dM_keep_85 ?_
      refine ro_iadd hK dM_keep_86 ?_
      refine ro_iload_n hK dM_keep_87 rfl ?_
      refine ro_iadd hK dM_keep_88 ?_
      refine ro_aload_n hK dM_keep_89 rfl ?_
      refine rb_get hK fM_31 mb_oM rfl dM_keep_90 ?_
      refine ro_iload_n hK dM_keep_93 rfl ?_
      obtain ⟨x_19, e_20, i_21, h⟩ := mb_rd_e h
      refine rb_iald hK ai_213 i_21 e_20 dM_keep_94 ?_
      obtain ⟨s_22, e_23, i_24, h⟩ := mb_wr_e h
      refine rb_iast hK ai_229 i_24 e_23 dM_keep_95 ?_
      refine ro_iincv (c := 1) hK (by decide) dM_keep_96 rfl (by decide) ?_
      show K 0 0 99 [.ref 200, .retAddr 0, .int y2, .int (w3 + 1)] [] (mb_s s_22)
      refine ro_goto (tgt := 75) hK dM_keep_99 (by decide) ?_
      refine ro_fg (lv' := [.ref 200, .retAddr 0, .int y2, .int (w3 + 1)]) hK ⟨Or.inr rfl, ⟨Or.inl rfl, ⟨Or.inr rfl, ⟨Or.inr rfl, trivial⟩⟩⟩⟩ ?_
      exact ih _ _ h
set_option maxHeartbeats 4000000 in
set_option maxRecDepth 100000 in
theorem tl_M_keep_104 {dd n : Nat} {K : mj_KT} {out : Int32 × mb_T} (hK : mj_C (dd + 2) 0 0 RM_c "keep" bM_keep 4 K) (hR : mj_R bM_keep (some .int) (fun r2 S2 => r2 = some (.int out.1) ∧ S2 = mb_s out.2) K) {k0 : Int32 → mb_T → Option (Int32 × mb_T)} {y2 : Int32} (hk0 : ∀ (w3 : Int32) (s : mb_T), k0 w3 s = some out → K 0 0 133 [.ref 200, .retAddr 0, .int y2, .int w3] [] (mb_s s)) : ∀ (f : Nat) (w3 : Int32) (s : mb_T), f_M_keep_104 n k0 y2 f w3 s = some out → K 0 0 104 [.ref 200, .retAddr 0, .int y2, .int w3] [] (mb_s s) := by
  intro f
  induction f with
  | zero =>
    intro w3 s h
    cases h
  | succ f ih =>
    intro w3 s h
    rw [f_M_keep_104] at h
    refine ro_iload_n hK dM_keep_104 rfl ?_
    refine ro_bipush (x := 120) hK (by decide) dM_keep_105 ?_
    refine ro_icmp_ge (tgt := 133) hK dM_keep_107 (by decide) (fun c_27 => ?_) (fun c_27 => ?_)
    · replace h := mb_ift c_27 h
      refine ro_fg (lv' := [.ref 200, .retAddr 0, .int y2, .int w3]) hK ⟨Or.inr rfl, ⟨Or.inl rfl, ⟨Or.inr rfl, ⟨Or.inr rfl, trivial⟩⟩⟩⟩ ?_
      exact hk0 _ _ h
    · replace h := mb_iff c_27 h
      refine ro_aload_n hK dM_keep_110 rfl ?_
      refine rb_get hK fM_62 mb_oM rfl dM_keep_111 ?_
      refine ro_iload_n hK dM_keep_114 rfl ?_
      refine ro_bipush (x := 10) hK (by decide) dM_keep_115 ?_
      refine ro_iadd hK dM_keep_117 ?_
      refine ro_iload_n hK dM_keep_118 rfl ?_
      refine ro_iadd hK dM_keep_119 ?_
      refine ro_aload_n hK dM_keep_120 rfl ?_
      refine rb_get hK fM_53 mb_oM rfl dM_keep_121 ?_
      refine ro_iload_n hK dM_keep_124 rfl ?_
      obtain ⟨x_28, e_29, i_30, h⟩ := mb_rd_e h
      refine rb_iald hK ai_226 i_30 e_29 dM_keep_125 ?_
      obtain ⟨s_31, e_32, i_33, h⟩ := mb_wr_e h
      refine rb_iast hK ai_229 i_33 e_32 dM_keep_126 ?_
      refine ro_iincv (c := 1) hK (by decide) dM_keep_127 rfl (by decide) ?_
      show K 0 0 130 [.ref 200, .retAddr 0, .int y2, .int (w3 + 1)] [] (mb_s s_31)
      refine ro_goto (tgt := 104) hK dM_keep_130 (by decide) ?_
      refine ro_fg (lv' := [.ref 200, .retAddr 0, .int y2, .int (w3 + 1)]) hK ⟨Or.inr rfl, ⟨Or.inl rfl, ⟨Or.inr rfl, ⟨Or.inr rfl, trivial⟩⟩⟩⟩ ?_
      exact ih _ _ h
set_option maxHeartbeats 4000000 in
set_option maxRecDepth 100000 in
theorem tl_M_keep_135 {dd n : Nat} {K : mj_KT} {out : Int32 × mb_T} (hK : mj_C (dd + 2) 0 0 RM_c "keep" bM_keep 4 K) (hR : mj_R bM_keep (some .int) (fun r2 S2 => r2 = some (.int out.1) ∧ S2 = mb_s out.2) K) {k0 : Int32 → mb_T → Option (Int32 × mb_T)} {y2 : Int32} (hk0 : ∀ (w3 : Int32) (s : mb_T), k0 w3 s = some out → K 0 0 166 [.ref 200, .retAddr 0, .int y2, .int w3] [] (mb_s s)) : ∀ (f : Nat) (w3 : Int32) (s : mb_T), f_M_keep_135 n k0 y2 f w3 s = some out → K 0 0 135 [.ref 200, .retAddr 0, .int y2, .int w3] [] (mb_s s) := by
  intro f
  induction f with
  | zero =>
    intro w3 s h
    cases h
  | succ f ih =>
    intro w3 s h
    rw [f_M_keep_135] at h
    refine ro_iload_n hK dM_keep_135 rfl ?_
    refine ro_sipush (x := 720) hK (by decide) dM_keep_136 ?_
    refine ro_icmp_ge (tgt := 166) hK dM_keep_139 (by decide) (fun c_36 => ?_) (fun c_36 => ?_)
    · replace h := mb_ift c_36 h
      refine ro_fg (lv' := [.ref 200, .retAddr 0, .int y2, .int w3]) hK ⟨Or.inr rfl, ⟨Or.inl rfl, ⟨Or.inr rfl, ⟨Or.inr rfl, trivial⟩⟩⟩⟩ ?_
      exact hk0 _ _ h
    · replace h := mb_iff c_36 h
      refine ro_aload_n hK dM_keep_142 rfl ?_
      refine rb_get hK fM_62 mb_oM rfl dM_keep_143 ?_
      refine ro_iload_n hK dM_keep_146 rfl ?_
      refine ro_sipush (x := 130) hK (by decide) dM_keep_147 ?_
      refine ro_iadd hK dM_keep_150 ?_
      refine ro_iload_n hK dM_keep_151 rfl ?_
      refine ro_iadd hK dM_keep_152 ?_
      refine ro_aload_n hK dM_keep_153 rfl ?_
      refine rb_get hK fM_56 mb_oM rfl dM_keep_154 ?_
      refine ro_iload_n hK dM_keep_157 rfl ?_
      obtain ⟨x_37, e_38, i_39, h⟩ := mb_rd_e h
      refine rb_iald hK ai_227 i_39 e_38 dM_keep_158 ?_
      obtain ⟨s_40, e_41, i_42, h⟩ := mb_wr_e h
      refine rb_iast hK ai_229 i_42 e_41 dM_keep_159 ?_
      refine ro_iincv (c := 1) hK (by decide) dM_keep_160 rfl (by decide) ?_
      show K 0 0 163 [.ref 200, .retAddr 0, .int y2, .int (w3 + 1)] [] (mb_s s_40)
      refine ro_goto (tgt := 135) hK dM_keep_163 (by decide) ?_
      refine ro_fg (lv' := [.ref 200, .retAddr 0, .int y2, .int (w3 + 1)]) hK ⟨Or.inr rfl, ⟨Or.inl rfl, ⟨Or.inr rfl, ⟨Or.inr rfl, trivial⟩⟩⟩⟩ ?_
      exact ih _ _ h
set_option maxHeartbeats 4000000 in
set_option maxRecDepth 100000 in
theorem t_M_keep {dd n : Nat} {x1 : Int32} {s : mb_T} {out : Int32 × mb_T}  (h : f_M_keep n x1 s = some out) : mb_MC (dd + 2) yM_keep bM_keep 4 (some .int) [.ref 200, .int x1] s (some (.int out.1)) out.2 := by
  unfold f_M_keep at h
  refine mj_mc (lv := [.ref 200, .int x1, .retAddr 0, .retAddr 0]) mM_keep rfl rfl (Nat.le_of_ble_eq_true rfl) (fun K hK hR => ?_)
  have hK : mj_C (dd + 2) 0 0 RM_c "keep" bM_keep 4 K := hK
  refine ro_iload_n hK dM_keep_0 rfl ?_
  refine ro_iconst (x := 0) hK (by decide) dM_keep_1 ?_
  refine ro_iconst (x := 2) hK (by decide) dM_keep_2 ?_
  obtain ⟨r_3, s_1, q_2, h⟩ := mb_cl_e h
  refine rb_callS hK mM_in vM_92 (t_M_in (dd := dd + 0) q_2) rfl (Nat.le_of_ble_eq_true rfl) dM_keep_3 rfl ⟨Nat.le_refl _, Nat.le_refl _⟩ ?_
  show K 0 0 6 [.ref 200, .int x1, .retAddr 0, .retAddr 0] [.int r_3] (mb_s s_1)
  refine ro_if_ne (tgt := 11) hK dM_keep_6 (by decide) (fun c_4 => ?_) (fun c_4 => ?_)
  · replace h := mb_iff c_4 h
    refine ro_aload_n hK dM_keep_11 rfl ?_
    refine rb_get hK fM_161 mb_oM rfl dM_keep_12 ?_
    refine ro_if_ne (tgt := 21) hK dM_keep_15 (by decide) (fun c_5 => ?_) (fun c_5 => ?_)
    · replace h := mb_iff c_5 h
      refine ro_sipush (x := 850) hK (by decide) dM_keep_21 ?_
      refine ro_iload_n hK dM_keep_24 rfl ?_
      refine ro_imul hK dM_keep_25 ?_
      refine ro_istore_n hK dM_keep_26 (by decide) ?_
      show K 0 0 27 [.ref 200, .int x1, .int (850 * x1), .retAddr 0] [] (mb_s s_1)
      refine ro_aload_n hK dM_keep_27 rfl ?_
      refine rb_get hK fM_62 mb_oM rfl dM_keep_28 ?_
      refine ro_iload_n hK dM_keep_31 rfl ?_
      refine ro_aload_n hK dM_keep_32 rfl ?_
      refine rb_get hK fM_173 mb_oM rfl dM_keep_33 ?_
      obtain ⟨s_6, e_7, i_8, h⟩ := mb_wr_e h
      refine rb_iast hK ai_229 i_8 e_7 dM_keep_36 ?_
      refine ro_aload_n hK dM_keep_37 rfl ?_
      refine rb_get hK fM_62 mb_oM rfl dM_keep_38 ?_
      refine ro_iload_n hK dM_keep_41 rfl ?_
      refine ro_iconst (x := 1) hK (by decide) dM_keep_42 ?_
      refine ro_iadd hK dM_keep_43 ?_
      refine ro_aload_n hK dM_keep_44 rfl ?_
      refine rb_get hK fM_167 mb_oM rfl dM_keep_45 ?_
      obtain ⟨s_9, e_10, i_11, h⟩ := mb_wr_e h
      refine rb_iast hK ai_229 i_11 e_10 dM_keep_48 ?_
      refine ro_aload_n hK dM_keep_49 rfl ?_
      refine rb_get hK fM_62 mb_oM rfl dM_keep_50 ?_
      refine ro_iload_n hK dM_keep_53 rfl ?_
      refine ro_iconst (x := 2) hK (by decide) dM_keep_54 ?_
      refine ro_iadd hK dM_keep_55 ?_
      refine ro_aload_n hK dM_keep_56 rfl ?_
      refine rb_get hK fM_170 mb_oM rfl dM_keep_57 ?_
      obtain ⟨s_12, e_13, i_14, h⟩ := mb_wr_e h
      refine rb_iast hK ai_229 i_14 e_13 dM_keep_60 ?_
      refine ro_aload_n hK dM_keep_61 rfl ?_
      refine rb_get hK fM_62 mb_oM rfl dM_keep_62 ?_
      refine ro_iload_n hK dM_keep_65 rfl ?_
      refine ro_iconst (x := 3) hK (by decide) dM_keep_66 ?_
      refine ro_iadd hK dM_keep_67 ?_
      refine ro_aload_n hK dM_keep_68 rfl ?_
      refine rb_get hK fM_50 mb_oM rfl dM_keep_69 ?_
      obtain ⟨s_15, e_16, i_17, h⟩ := mb_wr_e h
      refine rb_iast hK ai_229 i_17 e_16 dM_keep_72 ?_
      refine ro_iconst (x := 0) hK (by decide) dM_keep_73 ?_
      refine ro_istore_n hK dM_keep_74 (by decide) ?_
      show K 0 0 75 [.ref 200, .int x1, .int (850 * x1), .int 0] [] (mb_s s_15)
      refine ro_fg (lv' := [.ref 200, .retAddr 0, .int (850 * x1), .int 0]) hK ⟨Or.inr rfl, ⟨Or.inl rfl, ⟨Or.inr rfl, ⟨Or.inr rfl, trivial⟩⟩⟩⟩ ?_
      refine tl_M_keep_75 (dd := dd) hK hR (fun x_25 s_26 h => ?_) n _ _ h
      refine ro_iconst (x := 0) hK (by decide) dM_keep_102 ?_
      refine ro_istore_n hK dM_keep_103 (by decide) ?_
      show K 0 0 104 [.ref 200, .retAddr 0, .int (850 * x1), .int 0] [] (mb_s s_26)
      refine ro_fg (lv' := [.ref 200, .retAddr 0, .int (850 * x1), .int 0]) hK ⟨Or.inr rfl, ⟨Or.inl rfl, ⟨Or.inr rfl, ⟨Or.inr rfl, trivial⟩⟩⟩⟩ ?_
      refine tl_M_keep_104 (dd := dd) hK hR (fun x_34 s_35 h => ?_) n _ _ h
      refine ro_iconst (x := 0) hK (by decide) dM_keep_133 ?_
      refine ro_istore_n hK dM_keep_134 (by decide) ?_
      show K 0 0 135 [.ref 200, .retAddr 0, .int (850 * x1), .int 0] [] (mb_s s_35)
      refine ro_fg (lv' := [.ref 200, .retAddr 0, .int (850 * x1), .int 0]) hK ⟨Or.inr rfl, ⟨Or.inl rfl, ⟨Or.inr rfl, ⟨Or.inr rfl, trivial⟩⟩⟩⟩ ?_
      refine tl_M_keep_135 (dd := dd) hK hR (fun x_43 s_44 h => ?_) n _ _ h
      refine ro_aload_n hK dM_keep_166 rfl ?_
      refine rb_get hK fM_173 mb_oM rfl dM_keep_167 ?_
      cases h
      exact hR.1 0 0 170 _ _ _ _ rfl rfl dM_keep_170 ⟨rfl, rfl⟩
    · replace h := mb_ift c_5 h
      refine ro_bipush (x := (-4)) hK (by decide) dM_keep_18 ?_
      cases h
      exact hR.1 0 0 20 _ _ _ _ rfl rfl dM_keep_20 ⟨rfl, rfl⟩
  · replace h := mb_ift c_4 h
    refine ro_iconst (x := (-1)) hK (by decide) dM_keep_9 ?_
    cases h
    exact hR.1 0 0 10 _ _ _ _ rfl rfl dM_keep_10 ⟨rfl, rfl⟩
theorem dM_law_0 : decode bM_law 0 = .ok (.iload_n 1, 1) := by decide +kernel
theorem dM_law_1 : decode bM_law 1 = .ok (.iconst 0, 1) := by decide +kernel
theorem dM_law_2 : decode bM_law 2 = .ok (.iconst 3, 1) := by decide +kernel
theorem dM_law_3 : decode bM_law 3 = .ok (.invokestatic 92, 3) := by decide +kernel
theorem dM_law_6 : decode bM_law 6 = .ok (.ifCond .ne 5, 3) := by decide +kernel
theorem dM_law_9 : decode bM_law 9 = .ok (.iconst (-1), 1) := by decide +kernel
theorem dM_law_10 : decode bM_law 10 = .ok (.ireturn, 1) := by decide +kernel
theorem dM_law_11 : decode bM_law 11 = .ok (.aload_n 0, 1) := by decide +kernel
theorem dM_law_12 : decode bM_law 12 = .ok (.getfield 161, 3) := by decide +kernel
theorem dM_law_15 : decode bM_law 15 = .ok (.ifCond .ne 6, 3) := by decide +kernel
theorem dM_law_18 : decode bM_law 18 = .ok (.bipush (-4), 2) := by decide +kernel
theorem dM_law_20 : decode bM_law 20 = .ok (.ireturn, 1) := by decide +kernel
theorem dM_law_21 : decode bM_law 21 = .ok (.aload_n 0, 1) := by decide +kernel
theorem dM_law_22 : decode bM_law 22 = .ok (.getfield 167, 3) := by decide +kernel
theorem dM_law_25 : decode bM_law 25 = .ok (.istore_n 2, 1) := by decide +kernel
theorem dM_law_26 : decode bM_law 26 = .ok (.aload_n 0, 1) := by decide +kernel
theorem dM_law_27 : decode bM_law 27 = .ok (.iload_n 1, 1) := by decide +kernel
theorem dM_law_28 : decode bM_law 28 = .ok (.putfield 167, 3) := by decide +kernel
theorem dM_law_31 : decode bM_law 31 = .ok (.iload_n 2, 1) := by decide +kernel
theorem dM_law_32 : decode bM_law 32 = .ok (.ireturn, 1) := by decide +kernel
def f_M_law (n : Nat) (x1 : Int32) (s : mb_T) : Option (Int32 × mb_T) := mb_cl (f_M_in n x1 0 3 s) fun r_3 s_1 => if r_3 = 0 then some ((-1), s_1) else if (s_1.1 200 8) = 0 then some ((-4), s_1) else mb_bd (sF s_1 200 10 x1) fun s_6 => some ((s_1.1 200 10), s_6)
set_option maxHeartbeats 4000000 in
set_option maxRecDepth 100000 in
theorem t_M_law {dd n : Nat} {x1 : Int32} {s : mb_T} {out : Int32 × mb_T}  (h : f_M_law n x1 s = some out) : mb_MC (dd + 2) yM_law bM_law 3 (some .int) [.ref 200, .int x1] s (some (.int out.1)) out.2 := by
  unfold f_M_law at h
  refine mj_mc (lv := [.ref 200, .int x1, .retAddr 0]) mM_law rfl rfl (Nat.le_of_ble_eq_true rfl) (fun K hK hR => ?_)
  have hK : mj_C (dd + 2) 0 0 RM_c "law" bM_law 3 K := hK
  refine ro_iload_n hK dM_law_0 rfl ?_
  refine ro_iconst (x := 0) hK (by decide) dM_law_1 ?_
  refine ro_iconst (x := 3) hK (by decide) dM_law_2 ?_
  obtain ⟨r_3, s_1, q_2, h⟩ := mb_cl_e h
  refine rb_callS hK mM_in vM_92 (t_M_in (dd := dd + 0) q_2) rfl (Nat.le_of_ble_eq_true rfl) dM_law_3 rfl ⟨Nat.le_refl _, Nat.le_refl _⟩ ?_
  show K 0 0 6 [.ref 200, .int x1, .retAddr 0] [.int r_3] (mb_s s_1)
  refine ro_if_ne (tgt := 11) hK dM_law_6 (by decide) (fun c_4 => ?_) (fun c_4 => ?_)
  · replace h := mb_iff c_4 h
    refine ro_aload_n hK dM_law_11 rfl ?_
    refine rb_get hK fM_161 mb_oM rfl dM_law_12 ?_
    refine ro_if_ne (tgt := 21) hK dM_law_15 (by decide) (fun c_5 => ?_) (fun c_5 => ?_)
    · replace h := mb_iff c_5 h
      refine ro_aload_n hK dM_law_21 rfl ?_
      refine rb_get hK fM_167 mb_oM rfl dM_law_22 ?_
      refine ro_istore_n hK dM_law_25 (by decide) ?_
      show K 0 0 26 [.ref 200, .int x1, .int (s_1.1 200 10)] [] (mb_s s_1)
      refine ro_aload_n hK dM_law_26 rfl ?_
      refine ro_iload_n hK dM_law_27 rfl ?_
      obtain ⟨s_6, e_7, h⟩ := mb_bd_e h
      refine rb_put hK gM_167 mb_oM rfl (by show 10 < 45; decide) rfl rfl e_7 dM_law_28 ?_
      refine ro_iload_n hK dM_law_31 rfl ?_
      cases h
      exact hR.1 0 0 32 _ _ _ _ rfl rfl dM_law_32 ⟨rfl, rfl⟩
    · replace h := mb_ift c_5 h
      refine ro_bipush (x := (-4)) hK (by decide) dM_law_18 ?_
      cases h
      exact hR.1 0 0 20 _ _ _ _ rfl rfl dM_law_20 ⟨rfl, rfl⟩
  · replace h := mb_ift c_4 h
    refine ro_iconst (x := (-1)) hK (by decide) dM_law_9 ?_
    cases h
    exact hR.1 0 0 10 _ _ _ _ rfl rfl dM_law_10 ⟨rfl, rfl⟩
theorem dM_lower_0 : decode bM_lower 0 = .ok (.aload_n 0, 1) := by decide +kernel
theorem dM_lower_1 : decode bM_lower 1 = .ok (.getfield 161, 3) := by decide +kernel
theorem dM_lower_4 : decode bM_lower 4 = .ok (.ifCond .ne 7, 3) := by decide +kernel
theorem dM_lower_7 : decode bM_lower 7 = .ok (.lconst 1, 1) := by decide +kernel
theorem dM_lower_8 : decode bM_lower 8 = .ok (.goto 20, 3) := by decide +kernel
theorem dM_lower_11 : decode bM_lower 11 = .ok (.aload_n 0, 1) := by decide +kernel
theorem dM_lower_12 : decode bM_lower 12 = .ok (.invokevirtual 314, 3) := by decide +kernel
theorem dM_lower_15 : decode bM_lower 15 = .ok (.aload_n 0, 1) := by decide +kernel
theorem dM_lower_16 : decode bM_lower 16 = .ok (.invokevirtual 219, 3) := by decide +kernel
theorem dM_lower_19 : decode bM_lower 19 = .ok (.aload_n 0, 1) := by decide +kernel
theorem dM_lower_20 : decode bM_lower 20 = .ok (.invokevirtual 314, 3) := by decide +kernel
theorem dM_lower_23 : decode bM_lower 23 = .ok (.invokestatic 317, 3) := by decide +kernel
theorem dM_lower_26 : decode bM_lower 26 = .ok (.idiv, 1) := by decide +kernel
theorem dM_lower_27 : decode bM_lower 27 = .ok (.i2l, 1) := by decide +kernel
theorem dM_lower_28 : decode bM_lower 28 = .ok (.lreturn, 1) := by decide +kernel
def f_M_lower (n : Nat)  (s : mb_T) : Option (Int64 × mb_T) := if (s.1 200 8) = 0 then some (1, s) else mb_cl (f_M_allScreams n s) fun r_4 s_2 => mb_cl (f_M_allFears n s_2) fun r_7 s_5 => mb_cl (f_M_allScreams n s_5) fun r_10 s_8 => mb_cl (f_M_divisor n r_7 r_10 s_8) fun r_13 s_11 => mb_dv r_13 (some ((Int32.toInt64 (r_4 / r_13)), s_11))
set_option maxHeartbeats 4000000 in
set_option maxRecDepth 100000 in
theorem t_M_lower {dd n : Nat}  {s : mb_T} {out : Int64 × mb_T}  (h : f_M_lower n  s = some out) : mb_MC (dd + 2) yM_lower bM_lower 1 (some .long) [.ref 200] s (some (.long out.1)) out.2 := by
  unfold f_M_lower at h
  refine mj_mc (lv := [.ref 200]) mM_lower rfl rfl (Nat.le_of_ble_eq_true rfl) (fun K hK hR => ?_)
  have hK : mj_C (dd + 2) 0 0 RM_c "lower" bM_lower 1 K := hK
  refine ro_aload_n hK dM_lower_0 rfl ?_
  refine rb_get hK fM_161 mb_oM rfl dM_lower_1 ?_
  refine ro_if_ne (tgt := 11) hK dM_lower_4 (by decide) (fun c_1 => ?_) (fun c_1 => ?_)
  · replace h := mb_iff c_1 h
    refine ro_aload_n hK dM_lower_11 rfl ?_
    obtain ⟨r_4, s_2, q_3, h⟩ := mb_cl_e h
    refine rb_callV hK mM_allScreams vM_314 (t_M_allScreams (dd := dd + 0) q_3) rfl mb_oM rfl (Nat.le_of_ble_eq_true rfl) dM_lower_12 rfl ⟨Nat.le_refl _, Nat.le_refl _⟩ ?_
    show K 0 0 15 [.ref 200] [.int r_4] (mb_s s_2)
    refine ro_aload_n hK dM_lower_15 rfl ?_
    obtain ⟨r_7, s_5, q_6, h⟩ := mb_cl_e h
    refine rb_callV hK mM_allFears vM_219 (t_M_allFears (dd := dd + 0) q_6) rfl mb_oM rfl (Nat.le_of_ble_eq_true rfl) dM_lower_16 rfl ⟨Nat.le_refl _, Nat.le_refl _⟩ ?_
    show K 0 0 19 [.ref 200] [.int r_7, .int r_4] (mb_s s_5)
    refine ro_aload_n hK dM_lower_19 rfl ?_
    obtain ⟨r_10, s_8, q_9, h⟩ := mb_cl_e h
    refine rb_callV hK mM_allScreams vM_314 (t_M_allScreams (dd := dd + 0) q_9) rfl mb_oM rfl (Nat.le_of_ble_eq_true rfl) dM_lower_20 rfl ⟨Nat.le_refl _, Nat.le_refl _⟩ ?_
    show K 0 0 23 [.ref 200] [.int r_10, .int r_7, .int r_4] (mb_s s_8)
    obtain ⟨r_13, s_11, q_12, h⟩ := mb_cl_e h
    refine rb_callS hK mM_divisor vM_317 (t_M_divisor (dd := dd + 0) q_12) rfl (Nat.le_of_ble_eq_true rfl) dM_lower_23 rfl ⟨Nat.le_refl _, Nat.le_refl _⟩ ?_
    show K 0 0 26 [.ref 200] [.int r_13, .int r_4] (mb_s s_11)
    obtain ⟨z_14, h⟩ := mb_dv_e h
    refine ro_idiv hK dM_lower_26 z_14 ?_
    refine ro_i2l hK dM_lower_27 ?_
    cases h
    exact hR.2.1 0 0 28 _ _ _ rfl dM_lower_28 ⟨rfl, rfl⟩
  · replace h := mb_ift c_1 h
    refine ro_lconst (x := 1) hK (by decide) dM_lower_7 ?_
    refine ro_goto (tgt := 28) hK dM_lower_8 (by decide) ?_
    cases h
    exact hR.2.1 0 0 28 _ _ _ rfl dM_lower_28 ⟨rfl, rfl⟩
theorem dM_oil_0 : decode bM_oil 0 = .ok (.iload_n 1, 1) := by decide +kernel
theorem dM_oil_1 : decode bM_oil 1 = .ok (.iconst 0, 1) := by decide +kernel
theorem dM_oil_2 : decode bM_oil 2 = .ok (.bipush 99, 2) := by decide +kernel
theorem dM_oil_4 : decode bM_oil 4 = .ok (.invokestatic 92, 3) := by decide +kernel
theorem dM_oil_7 : decode bM_oil 7 = .ok (.ifCond .ne 5, 3) := by decide +kernel
theorem dM_oil_10 : decode bM_oil 10 = .ok (.iconst (-1), 1) := by decide +kernel
theorem dM_oil_11 : decode bM_oil 11 = .ok (.ireturn, 1) := by decide +kernel
theorem dM_oil_12 : decode bM_oil 12 = .ok (.aload_n 0, 1) := by decide +kernel
theorem dM_oil_13 : decode bM_oil 13 = .ok (.getfield 161, 3) := by decide +kernel
theorem dM_oil_16 : decode bM_oil 16 = .ok (.ifCond .ne 6, 3) := by decide +kernel
theorem dM_oil_19 : decode bM_oil 19 = .ok (.bipush (-4), 2) := by decide +kernel
theorem dM_oil_21 : decode bM_oil 21 = .ok (.ireturn, 1) := by decide +kernel
theorem dM_oil_22 : decode bM_oil 22 = .ok (.aload_n 0, 1) := by decide +kernel
theorem dM_oil_23 : decode bM_oil 23 = .ok (.getfield 170, 3) := by decide +kernel
theorem dM_oil_26 : decode bM_oil 26 = .ok (.istore_n 2, 1) := by decide +kernel
theorem dM_oil_27 : decode bM_oil 27 = .ok (.aload_n 0, 1) := by decide +kernel
theorem dM_oil_28 : decode bM_oil 28 = .ok (.iload_n 1, 1) := by decide +kernel
theorem dM_oil_29 : decode bM_oil 29 = .ok (.putfield 170, 3) := by decide +kernel
theorem dM_oil_32 : decode bM_oil 32 = .ok (.iload_n 2, 1) := by decide +kernel
theorem dM_oil_33 : decode bM_oil 33 = .ok (.ireturn, 1) := by decide +kernel
def f_M_oil (n : Nat) (x1 : Int32) (s : mb_T) : Option (Int32 × mb_T) := mb_cl (f_M_in n x1 0 99 s) fun r_3 s_1 => if r_3 = 0 then some ((-1), s_1) else if (s_1.1 200 8) = 0 then some ((-4), s_1) else mb_bd (sF s_1 200 11 x1) fun s_6 => some ((s_1.1 200 11), s_6)
set_option maxHeartbeats 4000000 in
set_option maxRecDepth 100000 in
theorem t_M_oil {dd n : Nat} {x1 : Int32} {s : mb_T} {out : Int32 × mb_T}  (h : f_M_oil n x1 s = some out) : mb_MC (dd + 2) yM_oil bM_oil 3 (some .int) [.ref 200, .int x1] s (some (.int out.1)) out.2 := by
  unfold f_M_oil at h
  refine mj_mc (lv := [.ref 200, .int x1, .retAddr 0]) mM_oil rfl rfl (Nat.le_of_ble_eq_true rfl) (fun K hK hR => ?_)
  have hK : mj_C (dd + 2) 0 0 RM_c "oil" bM_oil 3 K := hK
  refine ro_iload_n hK dM_oil_0 rfl ?_
  refine ro_iconst (x := 0) hK (by decide) dM_oil_1 ?_
  refine ro_bipush (x := 99) hK (by decide) dM_oil_2 ?_
  obtain ⟨r_3, s_1, q_2, h⟩ := mb_cl_e h
  refine rb_callS hK mM_in vM_92 (t_M_in (dd := dd + 0) q_2) rfl (Nat.le_of_ble_eq_true rfl) dM_oil_4 rfl ⟨Nat.le_refl _, Nat.le_refl _⟩ ?_
  show K 0 0 7 [.ref 200, .int x1, .retAddr 0] [.int r_3] (mb_s s_1)
  refine ro_if_ne (tgt := 12) hK dM_oil_7 (by decide) (fun c_4 => ?_) (fun c_4 => ?_)
  · replace h := mb_iff c_4 h
    refine ro_aload_n hK dM_oil_12 rfl ?_
    refine rb_get hK fM_161 mb_oM rfl dM_oil_13 ?_
    refine ro_if_ne (tgt := 22) hK dM_oil_16 (by decide) (fun c_5 => ?_) (fun c_5 => ?_)
    · replace h := mb_iff c_5 h
      refine ro_aload_n hK dM_oil_22 rfl ?_
      refine rb_get hK fM_170 mb_oM rfl dM_oil_23 ?_
      refine ro_istore_n hK dM_oil_26 (by decide) ?_
      show K 0 0 27 [.ref 200, .int x1, .int (s_1.1 200 11)] [] (mb_s s_1)
      refine ro_aload_n hK dM_oil_27 rfl ?_
      refine ro_iload_n hK dM_oil_28 rfl ?_
      obtain ⟨s_6, e_7, h⟩ := mb_bd_e h
      refine rb_put hK gM_170 mb_oM rfl (by show 11 < 45; decide) rfl rfl e_7 dM_oil_29 ?_
      refine ro_iload_n hK dM_oil_32 rfl ?_
      cases h
      exact hR.1 0 0 33 _ _ _ _ rfl rfl dM_oil_33 ⟨rfl, rfl⟩
    · replace h := mb_ift c_5 h
      refine ro_bipush (x := (-4)) hK (by decide) dM_oil_19 ?_
      cases h
      exact hR.1 0 0 21 _ _ _ _ rfl rfl dM_oil_21 ⟨rfl, rfl⟩
  · replace h := mb_ift c_4 h
    refine ro_iconst (x := (-1)) hK (by decide) dM_oil_10 ?_
    cases h
    exact hR.1 0 0 11 _ _ _ _ rfl rfl dM_oil_11 ⟨rfl, rfl⟩
theorem dM_on_0 : decode bM_on 0 = .ok (.iload_n 1, 1) := by decide +kernel
theorem dM_on_1 : decode bM_on 1 = .ok (.iconst 0, 1) := by decide +kernel
theorem dM_on_2 : decode bM_on 2 = .ok (.iconst 2, 1) := by decide +kernel
theorem dM_on_3 : decode bM_on 3 = .ok (.invokestatic 92, 3) := by decide +kernel
theorem dM_on_6 : decode bM_on 6 = .ok (.ifCond .ne 5, 3) := by decide +kernel
theorem dM_on_9 : decode bM_on 9 = .ok (.iconst (-1), 1) := by decide +kernel
theorem dM_on_10 : decode bM_on 10 = .ok (.ireturn, 1) := by decide +kernel
theorem dM_on_11 : decode bM_on 11 = .ok (.sipush 850, 3) := by decide +kernel
theorem dM_on_14 : decode bM_on 14 = .ok (.iload_n 1, 1) := by decide +kernel
theorem dM_on_15 : decode bM_on 15 = .ok (.imul, 1) := by decide +kernel
theorem dM_on_16 : decode bM_on 16 = .ok (.istore_n 2, 1) := by decide +kernel
theorem dM_on_17 : decode bM_on 17 = .ok (.aload_n 0, 1) := by decide +kernel
theorem dM_on_18 : decode bM_on 18 = .ok (.getfield 62, 3) := by decide +kernel
theorem dM_on_21 : decode bM_on 21 = .ok (.iload_n 2, 1) := by decide +kernel
theorem dM_on_22 : decode bM_on 22 = .ok (.iaload, 1) := by decide +kernel
theorem dM_on_23 : decode bM_on 23 = .ok (.bipush (-9), 2) := by decide +kernel
theorem dM_on_25 : decode bM_on 25 = .ok (.if_icmp .ne 9, 3) := by decide +kernel
theorem dM_on_28 : decode bM_on 28 = .ok (.aload_n 0, 1) := by decide +kernel
theorem dM_on_29 : decode bM_on 29 = .ok (.iconst 1, 1) := by decide +kernel
theorem dM_on_30 : decode bM_on 30 = .ok (.invokevirtual 100, 3) := by decide +kernel
theorem dM_on_33 : decode bM_on 33 = .ok (.ireturn, 1) := by decide +kernel
theorem dM_on_34 : decode bM_on 34 = .ok (.aload_n 0, 1) := by decide +kernel
theorem dM_on_35 : decode bM_on 35 = .ok (.aload_n 0, 1) := by decide +kernel
theorem dM_on_36 : decode bM_on 36 = .ok (.getfield 62, 3) := by decide +kernel
theorem dM_on_39 : decode bM_on 39 = .ok (.iload_n 2, 1) := by decide +kernel
theorem dM_on_40 : decode bM_on 40 = .ok (.iaload, 1) := by decide +kernel
theorem dM_on_41 : decode bM_on 41 = .ok (.putfield 173, 3) := by decide +kernel
theorem dM_on_44 : decode bM_on 44 = .ok (.aload_n 0, 1) := by decide +kernel
theorem dM_on_45 : decode bM_on 45 = .ok (.aload_n 0, 1) := by decide +kernel
theorem dM_on_46 : decode bM_on 46 = .ok (.getfield 62, 3) := by decide +kernel
theorem dM_on_49 : decode bM_on 49 = .ok (.iload_n 2, 1) := by decide +kernel
theorem dM_on_50 : decode bM_on 50 = .ok (.iconst 1, 1) := by decide +kernel
theorem dM_on_51 : decode bM_on 51 = .ok (.iadd, 1) := by decide +kernel
theorem dM_on_52 : decode bM_on 52 = .ok (.iaload, 1) := by decide +kernel
theorem dM_on_53 : decode bM_on 53 = .ok (.putfield 167, 3) := by decide +kernel
theorem dM_on_56 : decode bM_on 56 = .ok (.aload_n 0, 1) := by decide +kernel
theorem dM_on_57 : decode bM_on 57 = .ok (.aload_n 0, 1) := by decide +kernel
theorem dM_on_58 : decode bM_on 58 = .ok (.getfield 62, 3) := by decide +kernel
theorem dM_on_61 : decode bM_on 61 = .ok (.iload_n 2, 1) := by decide +kernel
theorem dM_on_62 : decode bM_on 62 = .ok (.iconst 2, 1) := by decide +kernel
theorem dM_on_63 : decode bM_on 63 = .ok (.iadd, 1) := by decide +kernel
theorem dM_on_64 : decode bM_on 64 = .ok (.iaload, 1) := by decide +kernel
theorem dM_on_65 : decode bM_on 65 = .ok (.putfield 170, 3) := by decide +kernel
theorem dM_on_68 : decode bM_on 68 = .ok (.aload_n 0, 1) := by decide +kernel
theorem dM_on_69 : decode bM_on 69 = .ok (.aload_n 0, 1) := by decide +kernel
theorem dM_on_70 : decode bM_on 70 = .ok (.getfield 62, 3) := by decide +kernel
theorem dM_on_73 : decode bM_on 73 = .ok (.iload_n 2, 1) := by decide +kernel
theorem dM_on_74 : decode bM_on 74 = .ok (.iconst 3, 1) := by decide +kernel
theorem dM_on_75 : decode bM_on 75 = .ok (.iadd, 1) := by decide +kernel
theorem dM_on_76 : decode bM_on 76 = .ok (.iaload, 1) := by decide +kernel
theorem dM_on_77 : decode bM_on 77 = .ok (.putfield 50, 3) := by decide +kernel
theorem dM_on_80 : decode bM_on 80 = .ok (.iconst 0, 1) := by decide +kernel
theorem dM_on_81 : decode bM_on 81 = .ok (.istore_n 3, 1) := by decide +kernel
theorem dM_on_82 : decode bM_on 82 = .ok (.iload_n 3, 1) := by decide +kernel
theorem dM_on_83 : decode bM_on 83 = .ok (.iconst 5, 1) := by decide +kernel
theorem dM_on_84 : decode bM_on 84 = .ok (.if_icmp .ge 25, 3) := by decide +kernel
theorem dM_on_87 : decode bM_on 87 = .ok (.aload_n 0, 1) := by decide +kernel
theorem dM_on_88 : decode bM_on 88 = .ok (.getfield 31, 3) := by decide +kernel
theorem dM_on_91 : decode bM_on 91 = .ok (.iload_n 3, 1) := by decide +kernel
theorem dM_on_92 : decode bM_on 92 = .ok (.aload_n 0, 1) := by decide +kernel
theorem dM_on_93 : decode bM_on 93 = .ok (.getfield 62, 3) := by decide +kernel
theorem dM_on_96 : decode bM_on 96 = .ok (.iload_n 2, 1) := by decide +kernel
theorem dM_on_97 : decode bM_on 97 = .ok (.iconst 4, 1) := by decide +kernel
theorem dM_on_98 : decode bM_on 98 = .ok (.iadd, 1) := by decide +kernel
theorem dM_on_99 : decode bM_on 99 = .ok (.iload_n 3, 1) := by decide +kernel
theorem dM_on_100 : decode bM_on 100 = .ok (.iadd, 1) := by decide +kernel
theorem dM_on_101 : decode bM_on 101 = .ok (.iaload, 1) := by decide +kernel
theorem dM_on_102 : decode bM_on 102 = .ok (.iastore, 1) := by decide +kernel
theorem dM_on_103 : decode bM_on 103 = .ok (.iinc 3 1, 3) := by decide +kernel
theorem dM_on_106 : decode bM_on 106 = .ok (.goto (-24), 3) := by decide +kernel
theorem dM_on_109 : decode bM_on 109 = .ok (.iconst 0, 1) := by decide +kernel
theorem dM_on_110 : decode bM_on 110 = .ok (.istore_n 3, 1) := by decide +kernel
theorem dM_on_111 : decode bM_on 111 = .ok (.iload_n 3, 1) := by decide +kernel
theorem dM_on_112 : decode bM_on 112 = .ok (.bipush 120, 2) := by decide +kernel
theorem dM_on_114 : decode bM_on 114 = .ok (.if_icmp .ge 26, 3) := by decide +kernel
theorem dM_on_117 : decode bM_on 117 = .ok (.aload_n 0, 1) := by decide +kernel
theorem dM_on_118 : decode bM_on 118 = .ok (.getfield 53, 3) := by decide +kernel
theorem dM_on_121 : decode bM_on 121 = .ok (.iload_n 3, 1) := by decide +kernel
theorem dM_on_122 : decode bM_on 122 = .ok (.aload_n 0, 1) := by decide +kernel
theorem dM_on_123 : decode bM_on 123 = .ok (.getfield 62, 3) := by decide +kernel
theorem dM_on_126 : decode bM_on 126 = .ok (.iload_n 2, 1) := by decide +kernel
theorem dM_on_127 : decode bM_on 127 = .ok (.bipush 10, 2) := by decide +kernel
theorem dM_on_129 : decode bM_on 129 = .ok (.iadd, 1) := by decide +kernel
theorem dM_on_130 : decode bM_on 130 = .ok (.iload_n 3, 1) := by decide +kernel
theorem dM_on_131 : decode bM_on 131 = .ok (.iadd, 1) := by decide +kernel
theorem dM_on_132 : decode bM_on 132 = .ok (.iaload, 1) := by decide +kernel
theorem dM_on_133 : decode bM_on 133 = .ok (.iastore, 1) := by decide +kernel
theorem dM_on_134 : decode bM_on 134 = .ok (.iinc 3 1, 3) := by decide +kernel
theorem dM_on_137 : decode bM_on 137 = .ok (.goto (-26), 3) := by decide +kernel
theorem dM_on_140 : decode bM_on 140 = .ok (.iconst 0, 1) := by decide +kernel
theorem dM_on_141 : decode bM_on 141 = .ok (.istore_n 3, 1) := by decide +kernel
theorem dM_on_142 : decode bM_on 142 = .ok (.iload_n 3, 1) := by decide +kernel
theorem dM_on_143 : decode bM_on 143 = .ok (.sipush 720, 3) := by decide +kernel
theorem dM_on_146 : decode bM_on 146 = .ok (.if_icmp .ge 27, 3) := by decide +kernel
theorem dM_on_149 : decode bM_on 149 = .ok (.aload_n 0, 1) := by decide +kernel
theorem dM_on_150 : decode bM_on 150 = .ok (.getfield 56, 3) := by decide +kernel
theorem dM_on_153 : decode bM_on 153 = .ok (.iload_n 3, 1) := by decide +kernel
theorem dM_on_154 : decode bM_on 154 = .ok (.aload_n 0, 1) := by decide +kernel
theorem dM_on_155 : decode bM_on 155 = .ok (.getfield 62, 3) := by decide +kernel
theorem dM_on_158 : decode bM_on 158 = .ok (.iload_n 2, 1) := by decide +kernel
theorem dM_on_159 : decode bM_on 159 = .ok (.sipush 130, 3) := by decide +kernel
theorem dM_on_162 : decode bM_on 162 = .ok (.iadd, 1) := by decide +kernel
theorem dM_on_163 : decode bM_on 163 = .ok (.iload_n 3, 1) := by decide +kernel
theorem dM_on_164 : decode bM_on 164 = .ok (.iadd, 1) := by decide +kernel
theorem dM_on_165 : decode bM_on 165 = .ok (.iaload, 1) := by decide +kernel
theorem dM_on_166 : decode bM_on 166 = .ok (.iastore, 1) := by decide +kernel
theorem dM_on_167 : decode bM_on 167 = .ok (.iinc 3 1, 3) := by decide +kernel
theorem dM_on_170 : decode bM_on 170 = .ok (.goto (-28), 3) := by decide +kernel
theorem dM_on_173 : decode bM_on 173 = .ok (.aload_n 0, 1) := by decide +kernel
theorem dM_on_174 : decode bM_on 174 = .ok (.getfield 173, 3) := by decide +kernel
theorem dM_on_177 : decode bM_on 177 = .ok (.ireturn, 1) := by decide +kernel
def f_M_on_82 (n : Nat) (k0 : Int32 → mb_T → Option (Int32 × mb_T)) (y2 : Int32) : Nat → Int32 → mb_T → Option (Int32 × mb_T)
  | 0, _, _ => none
  | f + 1, w3, s => if 5 ≤ w3 then k0 w3 s else mb_rd s 229 2550 ((y2 + 4) + w3) fun x_30 => mb_wr s 213 10 w3 x_30 fun s_33 => f_M_on_82 n k0 y2 f (w3 + 1) s_33
def f_M_on_111 (n : Nat) (k0 : Int32 → mb_T → Option (Int32 × mb_T)) (y2 : Int32) : Nat → Int32 → mb_T → Option (Int32 × mb_T)
  | 0, _, _ => none
  | f + 1, w3, s => if 120 ≤ w3 then k0 w3 s else mb_rd s 229 2550 ((y2 + 10) + w3) fun x_39 => mb_wr s 226 120 w3 x_39 fun s_42 => f_M_on_111 n k0 y2 f (w3 + 1) s_42
def f_M_on_142 (n : Nat) (k0 : Int32 → mb_T → Option (Int32 × mb_T)) (y2 : Int32) : Nat → Int32 → mb_T → Option (Int32 × mb_T)
  | 0, _, _ => none
  | f + 1, w3, s => if 720 ≤ w3 then k0 w3 s else mb_rd s 229 2550 ((y2 + 130) + w3) fun x_48 => mb_wr s 227 720 w3 x_48 fun s_51 => f_M_on_142 n k0 y2 f (w3 + 1) s_51
def f_M_on (n : Nat) (x1 : Int32) (s : mb_T) : Option (Int32 × mb_T) := mb_cl (f_M_in n x1 0 2 s) fun r_3 s_1 => if r_3 = 0 then some ((-1), s_1) else mb_rd s_1 229 2550 (850 * x1) fun x_5 => if x_5 = (-9) then (mb_cl (f_M_meet n 1 s_1) fun r_58 s_56 => some (r_58, s_56)) else mb_rd s_1 229 2550 (850 * x1) fun x_9 => mb_bd (sF s_1 200 24 x_9) fun s_12 => mb_rd s_12 229 2550 ((850 * x1) + 1) fun x_14 => mb_bd (sF s_12 200 10 x_14) fun s_17 => mb_rd s_17 229 2550 ((850 * x1) + 2) fun x_19 => mb_bd (sF s_17 200 11 x_19) fun s_22 => mb_rd s_22 229 2550 ((850 * x1) + 3) fun x_24 => mb_bd (sF s_22 200 25 x_24) fun s_27 => f_M_on_82 n (fun x_36 s_37 => f_M_on_111 n (fun x_45 s_46 => f_M_on_142 n (fun x_54 s_55 => some ((s_55.1 200 24), s_55)) (850 * x1) n 0 s_46) (850 * x1) n 0 s_37) (850 * x1) n 0 s_27
set_option maxHeartbeats 4000000 in
set_option maxRecDepth 100000 in
theorem tl_M_on_82 {dd n : Nat} {K : mj_KT} {out : Int32 × mb_T} (hK : mj_C (dd + 2) 0 0 RM_c "on" bM_on 4 K) (hR : mj_R bM_on (some .int) (fun r2 S2 => r2 = some (.int out.1) ∧ S2 = mb_s out.2) K) {k0 : Int32 → mb_T → Option (Int32 × mb_T)} {y2 : Int32} (hk0 : ∀ (w3 : Int32) (s : mb_T), k0 w3 s = some out → K 0 0 109 [.ref 200, .retAddr 0, .int y2, .int w3] [] (mb_s s)) : ∀ (f : Nat) (w3 : Int32) (s : mb_T), f_M_on_82 n k0 y2 f w3 s = some out → K 0 0 82 [.ref 200, .retAddr 0, .int y2, .int w3] [] (mb_s s) := by
  intro f
  induction f with
  | zero =>
    intro w3 s h
    cases h
  | succ f ih =>
    intro w3 s h
    rw [f_M_on_82] at h
    refine ro_iload_n hK dM_on_82 rfl ?_
    refine ro_iconst (x := 5) hK (by decide) dM_on_83 ?_
    refine ro_icmp_ge (tgt := 109) hK dM_on_84 (by decide) (fun c_29 => ?_) (fun c_29 => ?_)
    · replace h := mb_ift c_29 h
      refine ro_fg (lv' := [.ref 200, .retAddr 0, .int y2, .int w3]) hK ⟨Or.inr rfl, ⟨Or.inl rfl, ⟨Or.inr rfl, ⟨Or.inr rfl, trivial⟩⟩⟩⟩ ?_
      exact hk0 _ _ h
    · replace h := mb_iff c_29 h
      refine ro_aload_n hK dM_on_87 rfl ?_
      refine rb_get hK fM_31 mb_oM rfl dM_on_88 ?_
      refine ro_iload_n hK dM_on_91 rfl ?_
      refine ro_aload_n hK dM_on_92 rfl ?_
      refine rb_get hK fM_62 mb_oM rfl dM_on_93 ?_
      refine ro_iload_n hK dM_on_96 rfl ?_
      refine ro_iconst (x := 4) hK (by decide) dM_on_97 ?_
      refine ro_iadd hK dM_on_98 ?_
      refine ro_iload_n hK dM_on_99 rfl ?_
      refine ro_iadd hK dM_on_100 ?_
      obtain ⟨x_30, e_31, i_32, h⟩ := mb_rd_e h
      refine rb_iald hK ai_229 i_32 e_31 dM_on_101 ?_
      obtain ⟨s_33, e_34, i_35, h⟩ := mb_wr_e h
      refine rb_iast hK ai_213 i_35 e_34 dM_on_102 ?_
      refine ro_iincv (c := 1) hK (by decide) dM_on_103 rfl (by decide) ?_
      show K 0 0 106 [.ref 200, .retAddr 0, .int y2, .int (w3 + 1)] [] (mb_s s_33)
      refine ro_goto (tgt := 82) hK dM_on_106 (by decide) ?_
      refine ro_fg (lv' := [.ref 200, .retAddr 0, .int y2, .int (w3 + 1)]) hK ⟨Or.inr rfl, ⟨Or.inl rfl, ⟨Or.inr rfl, ⟨Or.inr rfl, trivial⟩⟩⟩⟩ ?_
      exact ih _ _ h
set_option maxHeartbeats 4000000 in
set_option maxRecDepth 100000 in
theorem tl_M_on_111 {dd n : Nat} {K : mj_KT} {out : Int32 × mb_T} (hK : mj_C (dd + 2) 0 0 RM_c "on" bM_on 4 K) (hR : mj_R bM_on (some .int) (fun r2 S2 => r2 = some (.int out.1) ∧ S2 = mb_s out.2) K) {k0 : Int32 → mb_T → Option (Int32 × mb_T)} {y2 : Int32} (hk0 : ∀ (w3 : Int32) (s : mb_T), k0 w3 s = some out → K 0 0 140 [.ref 200, .retAddr 0, .int y2, .int w3] [] (mb_s s)) : ∀ (f : Nat) (w3 : Int32) (s : mb_T), f_M_on_111 n k0 y2 f w3 s = some out → K 0 0 111 [.ref 200, .retAddr 0, .int y2, .int w3] [] (mb_s s) := by
  intro f
  induction f with
  | zero =>
    intro w3 s h
    cases h
  | succ f ih =>
    intro w3 s h
    rw [f_M_on_111] at h
    refine ro_iload_n hK dM_on_111 rfl ?_
    refine ro_bipush (x := 120) hK (by decide) dM_on_112 ?_
    refine ro_icmp_ge (tgt := 140) hK dM_on_114 (by decide) (fun c_38 => ?_) (fun c_38 => ?_)
    · replace h := mb_ift c_38 h
      refine ro_fg (lv' := [.ref 200, .retAddr 0, .int y2, .int w3]) hK ⟨Or.inr rfl, ⟨Or.inl rfl, ⟨Or.inr rfl, ⟨Or.inr rfl, trivial⟩⟩⟩⟩ ?_
      exact hk0 _ _ h
    · replace h := mb_iff c_38 h
      refine ro_aload_n hK dM_on_117 rfl ?_
      refine rb_get hK fM_53 mb_oM rfl dM_on_118 ?_
      refine ro_iload_n hK dM_on_121 rfl ?_
      refine ro_aload_n hK dM_on_122 rfl ?_
      refine rb_get hK fM_62 mb_oM rfl dM_on_123 ?_
      refine ro_iload_n hK dM_on_126 rfl ?_
      refine ro_bipush (x := 10) hK (by decide) dM_on_127 ?_
      refine ro_iadd hK dM_on_129 ?_
      refine ro_iload_n hK dM_on_130 rfl ?_
      refine ro_iadd hK dM_on_131 ?_
      obtain ⟨x_39, e_40, i_41, h⟩ := mb_rd_e h
      refine rb_iald hK ai_229 i_41 e_40 dM_on_132 ?_
      obtain ⟨s_42, e_43, i_44, h⟩ := mb_wr_e h
      refine rb_iast hK ai_226 i_44 e_43 dM_on_133 ?_
      refine ro_iincv (c := 1) hK (by decide) dM_on_134 rfl (by decide) ?_
      show K 0 0 137 [.ref 200, .retAddr 0, .int y2, .int (w3 + 1)] [] (mb_s s_42)
      refine ro_goto (tgt := 111) hK dM_on_137 (by decide) ?_
      refine ro_fg (lv' := [.ref 200, .retAddr 0, .int y2, .int (w3 + 1)]) hK ⟨Or.inr rfl, ⟨Or.inl rfl, ⟨Or.inr rfl, ⟨Or.inr rfl, trivial⟩⟩⟩⟩ ?_
      exact ih _ _ h
set_option maxHeartbeats 4000000 in
set_option maxRecDepth 100000 in
theorem tl_M_on_142 {dd n : Nat} {K : mj_KT} {out : Int32 × mb_T} (hK : mj_C (dd + 2) 0 0 RM_c "on" bM_on 4 K) (hR : mj_R bM_on (some .int) (fun r2 S2 => r2 = some (.int out.1) ∧ S2 = mb_s out.2) K) {k0 : Int32 → mb_T → Option (Int32 × mb_T)} {y2 : Int32} (hk0 : ∀ (w3 : Int32) (s : mb_T), k0 w3 s = some out → K 0 0 173 [.ref 200, .retAddr 0, .int y2, .int w3] [] (mb_s s)) : ∀ (f : Nat) (w3 : Int32) (s : mb_T), f_M_on_142 n k0 y2 f w3 s = some out → K 0 0 142 [.ref 200, .retAddr 0, .int y2, .int w3] [] (mb_s s) := by
  intro f
  induction f with
  | zero =>
    intro w3 s h
    cases h
  | succ f ih =>
    intro w3 s h
    rw [f_M_on_142] at h
    refine ro_iload_n hK dM_on_142 rfl ?_
    refine ro_sipush (x := 720) hK (by decide) dM_on_143 ?_
    refine ro_icmp_ge (tgt := 173) hK dM_on_146 (by decide) (fun c_47 => ?_) (fun c_47 => ?_)
    · replace h := mb_ift c_47 h
      refine ro_fg (lv' := [.ref 200, .retAddr 0, .int y2, .int w3]) hK ⟨Or.inr rfl, ⟨Or.inl rfl, ⟨Or.inr rfl, ⟨Or.inr rfl, trivial⟩⟩⟩⟩ ?_
      exact hk0 _ _ h
    · replace h := mb_iff c_47 h
      refine ro_aload_n hK dM_on_149 rfl ?_
      refine rb_get hK fM_56 mb_oM rfl dM_on_150 ?_
      refine ro_iload_n hK dM_on_153 rfl ?_
      refine ro_aload_n hK dM_on_154 rfl ?_
      refine rb_get hK fM_62 mb_oM rfl dM_on_155 ?_
      refine ro_iload_n hK dM_on_158 rfl ?_
      refine ro_sipush (x := 130) hK (by decide) dM_on_159 ?_
      refine ro_iadd hK dM_on_162 ?_
      refine ro_iload_n hK dM_on_163 rfl ?_
      refine ro_iadd hK dM_on_164 ?_
      obtain ⟨x_48, e_49, i_50, h⟩ := mb_rd_e h
      refine rb_iald hK ai_229 i_50 e_49 dM_on_165 ?_
      obtain ⟨s_51, e_52, i_53, h⟩ := mb_wr_e h
      refine rb_iast hK ai_227 i_53 e_52 dM_on_166 ?_
      refine ro_iincv (c := 1) hK (by decide) dM_on_167 rfl (by decide) ?_
      show K 0 0 170 [.ref 200, .retAddr 0, .int y2, .int (w3 + 1)] [] (mb_s s_51)
      refine ro_goto (tgt := 142) hK dM_on_170 (by decide) ?_
      refine ro_fg (lv' := [.ref 200, .retAddr 0, .int y2, .int (w3 + 1)]) hK ⟨Or.inr rfl, ⟨Or.inl rfl, ⟨Or.inr rfl, ⟨Or.inr rfl, trivial⟩⟩⟩⟩ ?_
      exact ih _ _ h
set_option maxHeartbeats 4000000 in
set_option maxRecDepth 100000 in
theorem t_M_on {dd n : Nat} {x1 : Int32} {s : mb_T} {out : Int32 × mb_T}  (h : f_M_on n x1 s = some out) : mb_MC (dd + 2) yM_on bM_on 4 (some .int) [.ref 200, .int x1] s (some (.int out.1)) out.2 := by
  unfold f_M_on at h
  refine mj_mc (lv := [.ref 200, .int x1, .retAddr 0, .retAddr 0]) mM_on rfl rfl (Nat.le_of_ble_eq_true rfl) (fun K hK hR => ?_)
  have hK : mj_C (dd + 2) 0 0 RM_c "on" bM_on 4 K := hK
  refine ro_iload_n hK dM_on_0 rfl ?_
  refine ro_iconst (x := 0) hK (by decide) dM_on_1 ?_
  refine ro_iconst (x := 2) hK (by decide) dM_on_2 ?_
  obtain ⟨r_3, s_1, q_2, h⟩ := mb_cl_e h
  refine rb_callS hK mM_in vM_92 (t_M_in (dd := dd + 0) q_2) rfl (Nat.le_of_ble_eq_true rfl) dM_on_3 rfl ⟨Nat.le_refl _, Nat.le_refl _⟩ ?_
  show K 0 0 6 [.ref 200, .int x1, .retAddr 0, .retAddr 0] [.int r_3] (mb_s s_1)
  refine ro_if_ne (tgt := 11) hK dM_on_6 (by decide) (fun c_4 => ?_) (fun c_4 => ?_)
  · replace h := mb_iff c_4 h
    refine ro_sipush (x := 850) hK (by decide) dM_on_11 ?_
    refine ro_iload_n hK dM_on_14 rfl ?_
    refine ro_imul hK dM_on_15 ?_
    refine ro_istore_n hK dM_on_16 (by decide) ?_
    show K 0 0 17 [.ref 200, .int x1, .int (850 * x1), .retAddr 0] [] (mb_s s_1)
    refine ro_aload_n hK dM_on_17 rfl ?_
    refine rb_get hK fM_62 mb_oM rfl dM_on_18 ?_
    refine ro_iload_n hK dM_on_21 rfl ?_
    obtain ⟨x_5, e_6, i_7, h⟩ := mb_rd_e h
    refine rb_iald hK ai_229 i_7 e_6 dM_on_22 ?_
    refine ro_bipush (x := (-9)) hK (by decide) dM_on_23 ?_
    refine ro_icmp_ne (tgt := 34) hK dM_on_25 (by decide) (fun c_8 => ?_) (fun c_8 => ?_)
    · replace h := mb_iff c_8 h
      refine ro_aload_n hK dM_on_34 rfl ?_
      refine ro_aload_n hK dM_on_35 rfl ?_
      refine rb_get hK fM_62 mb_oM rfl dM_on_36 ?_
      refine ro_iload_n hK dM_on_39 rfl ?_
      obtain ⟨x_9, e_10, i_11, h⟩ := mb_rd_e h
      refine rb_iald hK ai_229 i_11 e_10 dM_on_40 ?_
      obtain ⟨s_12, e_13, h⟩ := mb_bd_e h
      refine rb_put hK gM_173 mb_oM rfl (by show 24 < 45; decide) rfl rfl e_13 dM_on_41 ?_
      refine ro_aload_n hK dM_on_44 rfl ?_
      refine ro_aload_n hK dM_on_45 rfl ?_
      refine rb_get hK fM_62 mb_oM rfl dM_on_46 ?_
      refine ro_iload_n hK dM_on_49 rfl ?_
      refine ro_iconst (x := 1) hK (by decide) dM_on_50 ?_
      refine ro_iadd hK dM_on_51 ?_
      obtain ⟨x_14, e_15, i_16, h⟩ := mb_rd_e h
      refine rb_iald hK ai_229 i_16 e_15 dM_on_52 ?_
      obtain ⟨s_17, e_18, h⟩ := mb_bd_e h
      refine rb_put hK gM_167 mb_oM rfl (by show 10 < 45; decide) rfl rfl e_18 dM_on_53 ?_
      refine ro_aload_n hK dM_on_56 rfl ?_
      refine ro_aload_n hK dM_on_57 rfl ?_
      refine rb_get hK fM_62 mb_oM rfl dM_on_58 ?_
      refine ro_iload_n hK dM_on_61 rfl ?_
      refine ro_iconst (x := 2) hK (by decide) dM_on_62 ?_
      refine ro_iadd hK dM_on_63 ?_
      obtain ⟨x_19, e_20, i_21, h⟩ := mb_rd_e h
      refine rb_iald hK ai_229 i_21 e_20 dM_on_64 ?_
      obtain ⟨s_22, e_23, h⟩ := mb_bd_e h
      refine rb_put hK gM_170 mb_oM rfl (by show 11 < 45; decide) rfl rfl e_23 dM_on_65 ?_
      refine ro_aload_n hK dM_on_68 rfl ?_
      refine ro_aload_n hK dM_on_69 rfl ?_
      refine rb_get hK fM_62 mb_oM rfl dM_on_70 ?_
      refine ro_iload_n hK dM_on_73 rfl ?_
      refine ro_iconst (x := 3) hK (by decide) dM_on_74 ?_
      refine ro_iadd hK dM_on_75 ?_
      obtain ⟨x_24, e_25, i_26, h⟩ := mb_rd_e h
      refine rb_iald hK ai_229 i_26 e_25 dM_on_76 ?_
      obtain ⟨s_27, e_28, h⟩ := mb_bd_e h
      refine rb_put hK gM_50 mb_oM rfl (by show 25 < 45; decide) rfl rfl e_28 dM_on_77 ?_
      refine ro_iconst (x := 0) hK (by decide) dM_on_80 ?_
      refine ro_istore_n hK dM_on_81 (by decide) ?_
      show K 0 0 82 [.ref 200, .int x1, .int (850 * x1), .int 0] [] (mb_s s_27)
      refine ro_fg (lv' := [.ref 200, .retAddr 0, .int (850 * x1), .int 0]) hK ⟨Or.inr rfl, ⟨Or.inl rfl, ⟨Or.inr rfl, ⟨Or.inr rfl, trivial⟩⟩⟩⟩ ?_
      refine tl_M_on_82 (dd := dd) hK hR (fun x_36 s_37 h => ?_) n _ _ h
      refine ro_iconst (x := 0) hK (by decide) dM_on_109 ?_
      refine ro_istore_n hK dM_on_110 (by decide) ?_
      show K 0 0 111 [.ref 200, .retAddr 0, .int (850 * x1), .int 0] [] (mb_s s_37)
      refine ro_fg (lv' := [.ref 200, .retAddr 0, .int (850 * x1), .int 0]) hK ⟨Or.inr rfl, ⟨Or.inl rfl, ⟨Or.inr rfl, ⟨Or.inr rfl, trivial⟩⟩⟩⟩ ?_
      refine tl_M_on_111 (dd := dd) hK hR (fun x_45 s_46 h => ?_) n _ _ h
      refine ro_iconst (x := 0) hK (by decide) dM_on_140 ?_
      refine ro_istore_n hK dM_on_141 (by decide) ?_
      show K 0 0 142 [.ref 200, .retAddr 0, .int (850 * x1), .int 0] [] (mb_s s_46)
      refine ro_fg (lv' := [.ref 200, .retAddr 0, .int (850 * x1), .int 0]) hK ⟨Or.inr rfl, ⟨Or.inl rfl, ⟨Or.inr rfl, ⟨Or.inr rfl, trivial⟩⟩⟩⟩ ?_
      refine tl_M_on_142 (dd := dd) hK hR (fun x_54 s_55 h => ?_) n _ _ h
      refine ro_aload_n hK dM_on_173 rfl ?_
      refine rb_get hK fM_173 mb_oM rfl dM_on_174 ?_
      cases h
      exact hR.1 0 0 177 _ _ _ _ rfl rfl dM_on_177 ⟨rfl, rfl⟩
    · replace h := mb_ift c_8 h
      refine ro_aload_n hK dM_on_28 rfl ?_
      refine ro_iconst (x := 1) hK (by decide) dM_on_29 ?_
      obtain ⟨r_58, s_56, q_57, h⟩ := mb_cl_e h
      refine rb_callV hK mM_meet vM_100 (t_M_meet (dd := dd + 0) q_57) rfl mb_oM rfl (Nat.le_of_ble_eq_true rfl) dM_on_30 rfl ⟨Nat.le_refl _, Nat.le_refl _⟩ ?_
      show K 0 0 33 [.ref 200, .int x1, .int (850 * x1), .retAddr 0] [.int r_58] (mb_s s_56)
      cases h
      exact hR.1 0 0 33 _ _ _ _ rfl rfl dM_on_33 ⟨rfl, rfl⟩
  · replace h := mb_ift c_4 h
    refine ro_iconst (x := (-1)) hK (by decide) dM_on_9 ?_
    cases h
    exact hR.1 0 0 10 _ _ _ _ rfl rfl dM_on_10 ⟨rfl, rfl⟩
