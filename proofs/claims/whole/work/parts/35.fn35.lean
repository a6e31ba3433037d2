theorem dM_best_0 : decode bM_best 0 = .ok (.aload_n 0, 1) := by decide +kernel
theorem dM_best_1 : decode bM_best 1 = .ok (.getfield 161, 3) := by decide +kernel
theorem dM_best_4 : decode bM_best 4 = .ok (.ifCond .ne 6, 3) := by decide +kernel
theorem dM_best_7 : decode bM_best 7 = .ok (.bipush (-4), 2) := by decide +kernel
theorem dM_best_9 : decode bM_best 9 = .ok (.ireturn, 1) := by decide +kernel
theorem dM_best_10 : decode bM_best 10 = .ok (.iconst 0, 1) := by decide +kernel
theorem dM_best_11 : decode bM_best 11 = .ok (.istore_n 1, 1) := by decide +kernel
theorem dM_best_12 : decode bM_best 12 = .ok (.aload_n 0, 1) := by decide +kernel
theorem dM_best_13 : decode bM_best 13 = .ok (.iconst 0, 1) := by decide +kernel
theorem dM_best_14 : decode bM_best 14 = .ok (.invokevirtual 231, 3) := by decide +kernel
theorem dM_best_17 : decode bM_best 17 = .ok (.istore_n 2, 1) := by decide +kernel
theorem dM_best_18 : decode bM_best 18 = .ok (.iconst 1, 1) := by decide +kernel
theorem dM_best_19 : decode bM_best 19 = .ok (.istore_n 3, 1) := by decide +kernel
theorem dM_best_20 : decode bM_best 20 = .ok (.iload_n 3, 1) := by decide +kernel
theorem dM_best_21 : decode bM_best 21 = .ok (.iconst 4, 1) := by decide +kernel
theorem dM_best_22 : decode bM_best 22 = .ok (.if_icmp .ge 33, 3) := by decide +kernel
theorem dM_best_25 : decode bM_best 25 = .ok (.aload_n 0, 1) := by decide +kernel
theorem dM_best_26 : decode bM_best 26 = .ok (.iload_n 3, 1) := by decide +kernel
theorem dM_best_27 : decode bM_best 27 = .ok (.invokevirtual 231, 3) := by decide +kernel
theorem dM_best_30 : decode bM_best 30 = .ok (.istore 4, 2) := by decide +kernel
theorem dM_best_32 : decode bM_best 32 = .ok (.iload 4, 2) := by decide +kernel
theorem dM_best_34 : decode bM_best 34 = .ok (.invokestatic 235, 3) := by decide +kernel
theorem dM_best_37 : decode bM_best 37 = .ok (.iload_n 2, 1) := by decide +kernel
theorem dM_best_38 : decode bM_best 38 = .ok (.invokestatic 235, 3) := by decide +kernel
theorem dM_best_41 : decode bM_best 41 = .ok (.if_icmp .le 8, 3) := by decide +kernel
theorem dM_best_44 : decode bM_best 44 = .ok (.iload_n 3, 1) := by decide +kernel
theorem dM_best_45 : decode bM_best 45 = .ok (.istore_n 1, 1) := by decide +kernel
theorem dM_best_46 : decode bM_best 46 = .ok (.iload 4, 2) := by decide +kernel
theorem dM_best_48 : decode bM_best 48 = .ok (.istore_n 2, 1) := by decide +kernel
theorem dM_best_49 : decode bM_best 49 = .ok (.iinc 3 1, 3) := by decide +kernel
theorem dM_best_52 : decode bM_best 52 = .ok (.goto (-32), 3) := by decide +kernel
theorem dM_best_55 : decode bM_best 55 = .ok (.aload_n 0, 1) := by decide +kernel
theorem dM_best_56 : decode bM_best 56 = .ok (.iload_n 2, 1) := by decide +kernel
theorem dM_best_57 : decode bM_best 57 = .ok (.iload_n 1, 1) := by decide +kernel
theorem dM_best_58 : decode bM_best 58 = .ok (.invokevirtual 118, 3) := by decide +kernel
theorem dM_best_61 : decode bM_best 61 = .ok (.ireturn, 1) := by decide +kernel
def f_M_best_20 (n : Nat) (k0 : Int32 → Int32 → Int32 → mb_T → Option (Int32 × mb_T))  : Nat → Int32 → Int32 → Int32 → mb_T → Option (Int32 × mb_T)
  | 0, _, _, _, _ => none
  | f + 1, w1, w2, w3, s => if 4 ≤ w3 then k0 w1 w2 w3 s else mb_cl (f_M_holdsOf n w3 s) fun r_8 s_6 => mb_cl (f_M_longBy n r_8 s_6) fun r_11 s_9 => mb_cl (f_M_longBy n w2 s_9) fun r_14 s_12 => if r_11 ≤ r_14 then f_M_best_20 n k0 f w1 w2 (w3 + 1) s_12 else f_M_best_20 n k0 f w3 r_8 (w3 + 1) s_12
def f_M_best (n : Nat)  (s : mb_T) : Option (Int32 × mb_T) := if (s.1 200 8) = 0 then some ((-4), s) else mb_cl (f_M_holdsOf n 0 s) fun r_4 s_2 => f_M_best_20 n (fun x_16 x_17 x_18 s_19 => mb_cl (f_M_ask n x_17 x_16 s_19) fun r_22 s_20 => some (r_22, s_20)) n 0 r_4 1 s_2
set_option maxHeartbeats 4000000 in
set_option maxRecDepth 100000 in
theorem tl_M_best_20 {dd n : Nat} {K : mj_KT} {out : Int32 × mb_T} (hK : mj_C (dd + 6) 0 0 RM_c "best" bM_best 5 K) (hR : mj_R bM_best (some .int) (fun r2 S2 => r2 = some (.int out.1) ∧ S2 = mb_s out.2) K) {k0 : Int32 → Int32 → Int32 → mb_T → Option (Int32 × mb_T)}  (hk0 : ∀ (w1 : Int32) (w2 : Int32) (w3 : Int32) (s : mb_T), k0 w1 w2 w3 s = some out → K 0 0 55 [.ref 200, .int w1, .int w2, .int w3, .retAddr 0] [] (mb_s s)) : ∀ (f : Nat) (w1 : Int32) (w2 : Int32) (w3 : Int32) (s : mb_T), f_M_best_20 n k0 f w1 w2 w3 s = some out → K 0 0 20 [.ref 200, .int w1, .int w2, .int w3, .retAddr 0] [] (mb_s s) := by
  intro f
  induction f with
  | zero =>
    intro w1 w2 w3 s h
    cases h
  | succ f ih =>
    intro w1 w2 w3 s h
    rw [f_M_best_20] at h
    refine ro_iload_n hK dM_best_20 rfl ?_
    refine ro_iconst (x := 4) hK (by decide) dM_best_21 ?_
    refine ro_icmp_ge (tgt := 55) hK dM_best_22 (by decide) (fun c_5 => ?_) (fun c_5 => ?_)
    · replace h := mb_ift c_5 h
      refine ro_fg (lv' := [.ref 200, .int w1, .int w2, .int w3, .retAddr 0]) hK ⟨Or.inr rfl, ⟨Or.inr rfl, ⟨Or.inr rfl, ⟨Or.inr rfl, ⟨Or.inl rfl, trivial⟩⟩⟩⟩⟩ ?_
      exact hk0 _ _ _ _ h
    · replace h := mb_iff c_5 h
      refine ro_aload_n hK dM_best_25 rfl ?_
      refine ro_iload_n hK dM_best_26 rfl ?_
      obtain ⟨r_8, s_6, q_7, h⟩ := mb_cl_e h
      refine rb_callV hK mM_holdsOf vM_231 (t_M_holdsOf (dd := dd + 0) q_7) rfl mb_oM rfl (Nat.le_of_ble_eq_true rfl) dM_best_27 rfl ⟨Nat.le_refl _, Nat.le_refl _⟩ ?_
      show K 0 0 30 [.ref 200, .int w1, .int w2, .int w3, .retAddr 0] [.int r_8] (mb_s s_6)
      refine ro_istore hK dM_best_30 (by decide) ?_
      show K 0 0 32 [.ref 200, .int w1, .int w2, .int w3, .int r_8] [] (mb_s s_6)
      refine ro_iload hK dM_best_32 rfl ?_
      obtain ⟨r_11, s_9, q_10, h⟩ := mb_cl_e h
      refine rb_callS hK mM_longBy vM_235 (t_M_longBy (dd := dd + 4) q_10) rfl (Nat.le_of_ble_eq_true rfl) dM_best_34 rfl ⟨Nat.le_refl _, Nat.le_refl _⟩ ?_
      show K 0 0 37 [.ref 200, .int w1, .int w2, .int w3, .int r_8] [.int r_11] (mb_s s_9)
      refine ro_iload_n hK dM_best_37 rfl ?_
      obtain ⟨r_14, s_12, q_13, h⟩ := mb_cl_e h
      refine rb_callS hK mM_longBy vM_235 (t_M_longBy (dd := dd + 4) q_13) rfl (Nat.le_of_ble_eq_true rfl) dM_best_38 rfl ⟨Nat.le_refl _, Nat.le_refl _⟩ ?_
      show K 0 0 41 [.ref 200, .int w1, .int w2, .int w3, .int r_8] [.int r_14, .int r_11] (mb_s s_12)
      refine ro_icmp_le (tgt := 49) hK dM_best_41 (by decide) (fun c_15 => ?_) (fun c_15 => ?_)
      · replace h := mb_ift c_15 h
        refine ro_iincv (c := 1) hK (by decide) dM_best_49 rfl (by decide) ?_
        show K 0 0 52 [.ref 200, .int w1, .int w2, .int (w3 + 1), .int r_8] [] (mb_s s_12)
        refine ro_goto (tgt := 20) hK dM_best_52 (by decide) ?_
        refine ro_fg (lv' := [.ref 200, .int w1, .int w2, .int (w3 + 1), .retAddr 0]) hK ⟨Or.inr rfl, ⟨Or.inr rfl, ⟨Or.inr rfl, ⟨Or.inr rfl, ⟨Or.inl rfl, trivial⟩⟩⟩⟩⟩ ?_
        exact ih _ _ _ _ h
      · replace h := mb_iff c_15 h
        refine ro_iload_n hK dM_best_44 rfl ?_
        refine ro_istore_n hK dM_best_45 (by decide) ?_
        show K 0 0 46 [.ref 200, .int w3, .int w2, .int w3, .int r_8] [] (mb_s s_12)
        refine ro_iload hK dM_best_46 rfl ?_
        refine ro_istore_n hK dM_best_48 (by decide) ?_
        show K 0 0 49 [.ref 200, .int w3, .int r_8, .int w3, .int r_8] [] (mb_s s_12)
        refine ro_iincv (c := 1) hK (by decide) dM_best_49 rfl (by decide) ?_
        show K 0 0 52 [.ref 200, .int w3, .int r_8, .int (w3 + 1), .int r_8] [] (mb_s s_12)
        refine ro_goto (tgt := 20) hK dM_best_52 (by decide) ?_
        refine ro_fg (lv' := [.ref 200, .int w3, .int r_8, .int (w3 + 1), .retAddr 0]) hK ⟨Or.inr rfl, ⟨Or.inr rfl, ⟨Or.inr rfl, ⟨Or.inr rfl, ⟨Or.inl rfl, trivial⟩⟩⟩⟩⟩ ?_
        exact ih _ _ _ _ h
set_option maxHeartbeats 4000000 in
set_option maxRecDepth 100000 in
theorem t_M_best {dd n : Nat}  {s : mb_T} {out : Int32 × mb_T}  (h : f_M_best n  s = some out) : mb_MC (dd + 6) yM_best bM_best 5 (some .int) [.ref 200] s (some (.int out.1)) out.2 := by
  unfold f_M_best at h
  refine mj_mc (lv := [.ref 200, .retAddr 0, .retAddr 0, .retAddr 0, .retAddr 0]) mM_best rfl rfl (Nat.le_of_ble_eq_true rfl) (fun K hK hR => ?_)
  have hK : mj_C (dd + 6) 0 0 RM_c "best" bM_best 5 K := hK
  refine ro_aload_n hK dM_best_0 rfl ?_
  refine rb_get hK fM_161 mb_oM rfl dM_best_1 ?_
  refine ro_if_ne (tgt := 10) hK dM_best_4 (by decide) (fun c_1 => ?_) (fun c_1 => ?_)
  · replace h := mb_iff c_1 h
    refine ro_iconst (x := 0) hK (by decide) dM_best_10 ?_
    refine ro_istore_n hK dM_best_11 (by decide) ?_
    show K 0 0 12 [.ref 200, .int 0, .retAddr 0, .retAddr 0, .retAddr 0] [] (mb_s s)
    refine ro_aload_n hK dM_best_12 rfl ?_
    refine ro_iconst (x := 0) hK (by decide) dM_best_13 ?_
    obtain ⟨r_4, s_2, q_3, h⟩ := mb_cl_e h
    refine rb_callV hK mM_holdsOf vM_231 (t_M_holdsOf (dd := dd + 0) q_3) rfl mb_oM rfl (Nat.le_of_ble_eq_true rfl) dM_best_14 rfl ⟨Nat.le_refl _, Nat.le_refl _⟩ ?_
    show K 0 0 17 [.ref 200, .int 0, .retAddr 0, .retAddr 0, .retAddr 0] [.int r_4] (mb_s s_2)
    refine ro_istore_n hK dM_best_17 (by decide) ?_
    show K 0 0 18 [.ref 200, .int 0, .int r_4, .retAddr 0, .retAddr 0] [] (mb_s s_2)
    refine ro_iconst (x := 1) hK (by decide) dM_best_18 ?_
    refine ro_istore_n hK dM_best_19 (by decide) ?_
    show K 0 0 20 [.ref 200, .int 0, .int r_4, .int 1, .retAddr 0] [] (mb_s s_2)
    refine ro_fg (lv' := [.ref 200, .int 0, .int r_4, .int 1, .retAddr 0]) hK ⟨Or.inr rfl, ⟨Or.inr rfl, ⟨Or.inr rfl, ⟨Or.inr rfl, ⟨Or.inl rfl, trivial⟩⟩⟩⟩⟩ ?_
    refine tl_M_best_20 (dd := dd) hK hR (fun x_16 x_17 x_18 s_19 h => ?_) n _ _ _ _ h
    refine ro_aload_n hK dM_best_55 rfl ?_
    refine ro_iload_n hK dM_best_56 rfl ?_
    refine ro_iload_n hK dM_best_57 rfl ?_
    obtain ⟨r_22, s_20, q_21, h⟩ := mb_cl_e h
    refine rb_callV hK mM_ask vM_118 (t_M_ask (dd := dd + 4) q_21) rfl mb_oM rfl (Nat.le_of_ble_eq_true rfl) dM_best_58 rfl ⟨Nat.le_refl _, Nat.le_refl _⟩ ?_
    show K 0 0 61 [.ref 200, .int x_16, .int x_17, .int x_18, .retAddr 0] [.int r_22] (mb_s s_20)
    cases h
    exact hR.1 0 0 61 _ _ _ _ rfl rfl dM_best_61 ⟨rfl, rfl⟩
  · replace h := mb_ift c_1 h
    refine ro_bipush (x := (-4)) hK (by decide) dM_best_7 ?_
    cases h
    exact hR.1 0 0 9 _ _ _ _ rfl rfl dM_best_9 ⟨rfl, rfl⟩
theorem dM_fears_0 : decode bM_fears 0 = .ok (.aload_n 0, 1) := by decide +kernel
theorem dM_fears_1 : decode bM_fears 1 = .ok (.iload_n 1, 1) := by decide +kernel
theorem dM_fears_2 : decode bM_fears 2 = .ok (.iload_n 2, 1) := by decide +kernel
theorem dM_fears_3 : decode bM_fears 3 = .ok (.invokevirtual 306, 3) := by decide +kernel
theorem dM_fears_6 : decode bM_fears 6 = .ok (.istore_n 3, 1) := by decide +kernel
theorem dM_fears_7 : decode bM_fears 7 = .ok (.iload_n 3, 1) := by decide +kernel
theorem dM_fears_8 : decode bM_fears 8 = .ok (.ifCond .ge 5, 3) := by decide +kernel
theorem dM_fears_11 : decode bM_fears 11 = .ok (.iload_n 3, 1) := by decide +kernel
theorem dM_fears_12 : decode bM_fears 12 = .ok (.ireturn, 1) := by decide +kernel
theorem dM_fears_13 : decode bM_fears 13 = .ok (.aload_n 0, 1) := by decide +kernel
theorem dM_fears_14 : decode bM_fears 14 = .ok (.getfield 31, 3) := by decide +kernel
theorem dM_fears_17 : decode bM_fears 17 = .ok (.iload_n 1, 1) := by decide +kernel
theorem dM_fears_18 : decode bM_fears 18 = .ok (.iaload, 1) := by decide +kernel
theorem dM_fears_19 : decode bM_fears 19 = .ok (.istore 4, 2) := by decide +kernel
theorem dM_fears_21 : decode bM_fears 21 = .ok (.iconst 0, 1) := by decide +kernel
theorem dM_fears_22 : decode bM_fears 22 = .ok (.istore 5, 2) := by decide +kernel
theorem dM_fears_24 : decode bM_fears 24 = .ok (.iconst 0, 1) := by decide +kernel
theorem dM_fears_25 : decode bM_fears 25 = .ok (.istore 6, 2) := by decide +kernel
theorem dM_fears_27 : decode bM_fears 27 = .ok (.iload 6, 2) := by decide +kernel
theorem dM_fears_29 : decode bM_fears 29 = .ok (.bipush 9, 2) := by decide +kernel
theorem dM_fears_31 : decode bM_fears 31 = .ok (.if_icmp .gt 44, 3) := by decide +kernel
theorem dM_fears_34 : decode bM_fears 34 = .ok (.aload_n 0, 1) := by decide +kernel
theorem dM_fears_35 : decode bM_fears 35 = .ok (.getfield 31, 3) := by decide +kernel
theorem dM_fears_38 : decode bM_fears 38 = .ok (.iload_n 1, 1) := by decide +kernel
theorem dM_fears_39 : decode bM_fears 39 = .ok (.iload 6, 2) := by decide +kernel
theorem dM_fears_41 : decode bM_fears 41 = .ok (.iastore, 1) := by decide +kernel
theorem dM_fears_42 : decode bM_fears 42 = .ok (.iload 5, 2) := by decide +kernel
theorem dM_fears_44 : decode bM_fears 44 = .ok (.aload_n 0, 1) := by decide +kernel
theorem dM_fears_45 : decode bM_fears 45 = .ok (.iload_n 2, 1) := by decide +kernel
theorem dM_fears_46 : decode bM_fears 46 = .ok (.invokevirtual 303, 3) := by decide +kernel
theorem dM_fears_49 : decode bM_fears 49 = .ok (.aload_n 0, 1) := by decide +kernel
theorem dM_fears_50 : decode bM_fears 50 = .ok (.getfield 13, 3) := by decide +kernel
theorem dM_fears_53 : decode bM_fears 53 = .ok (.iload_n 2, 1) := by decide +kernel
theorem dM_fears_54 : decode bM_fears 54 = .ok (.iaload, 1) := by decide +kernel
theorem dM_fears_55 : decode bM_fears 55 = .ok (.if_icmp .ne 10, 3) := by decide +kernel
theorem dM_fears_58 : decode bM_fears 58 = .ok (.iconst 1, 1) := by decide +kernel
theorem dM_fears_59 : decode bM_fears 59 = .ok (.iload 6, 2) := by decide +kernel
theorem dM_fears_61 : decode bM_fears 61 = .ok (.ishl, 1) := by decide +kernel
theorem dM_fears_62 : decode bM_fears 62 = .ok (.goto 4, 3) := by decide +kernel
theorem dM_fears_65 : decode bM_fears 65 = .ok (.iconst 0, 1) := by decide +kernel
theorem dM_fears_66 : decode bM_fears 66 = .ok (.ior, 1) := by decide +kernel
theorem dM_fears_67 : decode bM_fears 67 = .ok (.istore 5, 2) := by decide +kernel
theorem dM_fears_69 : decode bM_fears 69 = .ok (.iinc 6 1, 3) := by decide +kernel
theorem dM_fears_72 : decode bM_fears 72 = .ok (.goto (-45), 3) := by decide +kernel
theorem dM_fears_75 : decode bM_fears 75 = .ok (.aload_n 0, 1) := by decide +kernel
theorem dM_fears_76 : decode bM_fears 76 = .ok (.getfield 31, 3) := by decide +kernel
theorem dM_fears_79 : decode bM_fears 79 = .ok (.iload_n 1, 1) := by decide +kernel
theorem dM_fears_80 : decode bM_fears 80 = .ok (.iload 4, 2) := by decide +kernel
theorem dM_fears_82 : decode bM_fears 82 = .ok (.iastore, 1) := by decide +kernel
theorem dM_fears_83 : decode bM_fears 83 = .ok (.iload 5, 2) := by decide +kernel
theorem dM_fears_85 : decode bM_fears 85 = .ok (.ireturn, 1) := by decide +kernel
def f_M_fears_27 (n : Nat) (k0 : Int32 → Int32 → mb_T → Option (Int32 × mb_T)) (y1 : Int32) (y2 : Int32) (y4 : Int32) : Nat → Int32 → Int32 → mb_T → Option (Int32 × mb_T)
  | 0, _, _, _ => none
  | f + 1, w5, w6, s => if 9 < w6 then k0 w5 w6 s else mb_wr s 213 10 y1 w6 fun s_9 => mb_cl (f_M_judged n y2 s_9) fun r_14 s_12 => mb_rd s_12 203 6 y2 fun x_15 => f_M_fears_27 n k0 y1 y2 y4 f (w5 ||| (if r_14 = x_15 then (1 <<< (w6 &&& 31)) else 0 : Int32)) (w6 + 1) s_12
def f_M_fears (n : Nat) (x1 : Int32) (x2 : Int32) (s : mb_T) : Option (Int32 × mb_T) := mb_cl (f_M_askedOf n x1 x2 s) fun r_3 s_1 => if 0 ≤ r_3 then (mb_rd s_1 213 10 x1 fun x_5 => f_M_fears_27 n (fun x_20 x_21 s_22 => mb_wr s_22 213 10 x1 x_5 fun s_23 => some (x_20, s_23)) x1 x2 x_5 n 0 0 s_1) else some (r_3, s_1)
set_option maxHeartbeats 4000000 in
set_option maxRecDepth 100000 in
theorem tl_M_fears_27 {dd n : Nat} {K : mj_KT} {out : Int32 × mb_T} (hK : mj_C (dd + 6) 0 0 RM_c "fears" bM_fears 7 K) (hR : mj_R bM_fears (some .int) (fun r2 S2 => r2 = some (.int out.1) ∧ S2 = mb_s out.2) K) {k0 : Int32 → Int32 → mb_T → Option (Int32 × mb_T)} {y1 : Int32} {y2 : Int32} {y4 : Int32} (hk0 : ∀ (w5 : Int32) (w6 : Int32) (s : mb_T), k0 w5 w6 s = some out → K 0 0 75 [.ref 200, .int y1, .int y2, .retAddr 0, .int y4, .int w5, .int w6] [] (mb_s s)) : ∀ (f : Nat) (w5 : Int32) (w6 : Int32) (s : mb_T), f_M_fears_27 n k0 y1 y2 y4 f w5 w6 s = some out → K 0 0 27 [.ref 200, .int y1, .int y2, .retAddr 0, .int y4, .int w5, .int w6] [] (mb_s s) := by
  intro f
  induction f with
  | zero =>
    intro w5 w6 s h
    cases h
  | succ f ih =>
    intro w5 w6 s h
    rw [f_M_fears_27] at h
    refine ro_iload hK dM_fears_27 rfl ?_
    refine ro_bipush (x := 9) hK (by decide) dM_fears_29 ?_
    refine ro_icmp_gt (tgt := 75) hK dM_fears_31 (by decide) (fun c_8 => ?_) (fun c_8 => ?_)
    · replace h := mb_ift c_8 h
      refine ro_fg (lv' := [.ref 200, .int y1, .int y2, .retAddr 0, .int y4, .int w5, .int w6]) hK ⟨Or.inr rfl, ⟨Or.inr rfl, ⟨Or.inr rfl, ⟨Or.inl rfl, ⟨Or.inr rfl, ⟨Or.inr rfl, ⟨Or.inr rfl, trivial⟩⟩⟩⟩⟩⟩⟩ ?_
      exact hk0 _ _ _ h
    · replace h := mb_iff c_8 h
      refine ro_aload_n hK dM_fears_34 rfl ?_
      refine rb_get hK fM_31 mb_oM rfl dM_fears_35 ?_
      refine ro_iload_n hK dM_fears_38 rfl ?_
      refine ro_iload hK dM_fears_39 rfl ?_
      obtain ⟨s_9, e_10, i_11, h⟩ := mb_wr_e h
      refine rb_iast hK ai_213 i_11 e_10 dM_fears_41 ?_
      refine ro_iload hK dM_fears_42 rfl ?_
      refine ro_aload_n hK dM_fears_44 rfl ?_
      refine ro_iload_n hK dM_fears_45 rfl ?_
      obtain ⟨r_14, s_12, q_13, h⟩ := mb_cl_e h
      refine rb_callV hK mM_judged vM_303 (t_M_judged (dd := dd + 0) q_13) rfl mb_oM rfl (Nat.le_of_ble_eq_true rfl) dM_fears_46 rfl ⟨Nat.le_refl _, Nat.le_refl _⟩ ?_
      show K 0 0 49 [.ref 200, .int y1, .int y2, .retAddr 0, .int y4, .int w5, .int w6] [.int r_14, .int w5] (mb_s s_12)
      refine ro_aload_n hK dM_fears_49 rfl ?_
      refine rb_get hK fM_13 mb_oM rfl dM_fears_50 ?_
      refine ro_iload_n hK dM_fears_53 rfl ?_
      obtain ⟨x_15, e_16, i_17, h⟩ := mb_rd_e h
      refine rb_iald hK ai_203 i_17 e_16 dM_fears_54 ?_
      have j_19 : ∀ w_ : Int32, w_ = (if r_14 = x_15 then (1 <<< (w6 &&& 31)) else 0 : Int32) → K 0 0 66 [.ref 200, .int y1, .int y2, .retAddr 0, .int y4, .int w5, .int w6] [.int w_, .int w5] (mb_s s_12) → K 0 0 55 [.ref 200, .int y1, .int y2, .retAddr 0, .int y4, .int w5, .int w6] [.int x_15, .int r_14, .int w5] (mb_s s_12) := by
        intro w_ hw hj
        refine ro_icmp_ne (tgt := 65) hK dM_fears_55 (by decide) (fun c_18 => ?_) (fun c_18 => ?_)
        · skip
          refine ro_iconst (x := 0) hK (by decide) dM_fears_65 ?_
          have hw := (hw.trans (if_neg c_18))
          subst hw
          exact hj
        · skip
          refine ro_iconst (x := 1) hK (by decide) dM_fears_58 ?_
          refine ro_iload hK dM_fears_59 rfl ?_
          refine ro_ishl hK dM_fears_61 ?_
          refine ro_goto (tgt := 66) hK dM_fears_62 (by decide) ?_
          have hw := (hw.trans (if_pos c_18))
          subst hw
          exact hj
      refine j_19 _ rfl ?_
      refine ro_ior hK dM_fears_66 ?_
      refine ro_istore hK dM_fears_67 (by decide) ?_
      show K 0 0 69 [.ref 200, .int y1, .int y2, .retAddr 0, .int y4, .int (w5 ||| (if r_14 = x_15 then (1 <<< (w6 &&& 31)) else 0 : Int32)), .int w6] [] (mb_s s_12)
      refine ro_iincv (c := 1) hK (by decide) dM_fears_69 rfl (by decide) ?_
      show K 0 0 72 [.ref 200, .int y1, .int y2, .retAddr 0, .int y4, .int (w5 ||| (if r_14 = x_15 then (1 <<< (w6 &&& 31)) else 0 : Int32)), .int (w6 + 1)] [] (mb_s s_12)
      refine ro_goto (tgt := 27) hK dM_fears_72 (by decide) ?_
      refine ro_fg (lv' := [.ref 200, .int y1, .int y2, .retAddr 0, .int y4, .int (w5 ||| (if r_14 = x_15 then (1 <<< (w6 &&& 31)) else 0 : Int32)), .int (w6 + 1)]) hK ⟨Or.inr rfl, ⟨Or.inr rfl, ⟨Or.inr rfl, ⟨Or.inl rfl, ⟨Or.inr rfl, ⟨Or.inr rfl, ⟨Or.inr rfl, trivial⟩⟩⟩⟩⟩⟩⟩ ?_
      exact ih _ _ _ h
set_option maxHeartbeats 4000000 in
set_option maxRecDepth 100000 in
theorem t_M_fears {dd n : Nat} {x1 : Int32} {x2 : Int32} {s : mb_T} {out : Int32 × mb_T}  (h : f_M_fears n x1 x2 s = some out) : mb_MC (dd + 6) yM_fears bM_fears 7 (some .int) [.ref 200, .int x1, .int x2] s (some (.int out.1)) out.2 := by
  unfold f_M_fears at h
  refine mj_mc (lv := [.ref 200, .int x1, .int x2, .retAddr 0, .retAddr 0, .retAddr 0, .retAddr 0]) mM_fears rfl rfl (Nat.le_of_ble_eq_true rfl) (fun K hK hR => ?_)
  have hK : mj_C (dd + 6) 0 0 RM_c "fears" bM_fears 7 K := hK
  refine ro_aload_n hK dM_fears_0 rfl ?_
  refine ro_iload_n hK dM_fears_1 rfl ?_
  refine ro_iload_n hK dM_fears_2 rfl ?_
  obtain ⟨r_3, s_1, q_2, h⟩ := mb_cl_e h
  refine rb_callV hK mM_askedOf vM_306 (t_M_askedOf (dd := dd + 0) q_2) rfl mb_oM rfl (Nat.le_of_ble_eq_true rfl) dM_fears_3 rfl ⟨Nat.le_refl _, Nat.le_refl _⟩ ?_
  show K 0 0 6 [.ref 200, .int x1, .int x2, .retAddr 0, .retAddr 0, .retAddr 0, .retAddr 0] [.int r_3] (mb_s s_1)
  refine ro_istore_n hK dM_fears_6 (by decide) ?_
  show K 0 0 7 [.ref 200, .int x1, .int x2, .int r_3, .retAddr 0, .retAddr 0, .retAddr 0] [] (mb_s s_1)
  refine ro_iload_n hK dM_fears_7 rfl ?_
  refine ro_if_ge (tgt := 13) hK dM_fears_8 (by decide) (fun c_4 => ?_) (fun c_4 => ?_)
  · replace h := mb_ift c_4 h
    refine ro_aload_n hK dM_fears_13 rfl ?_
    refine rb_get hK fM_31 mb_oM rfl dM_fears_14 ?_
    refine ro_iload_n hK dM_fears_17 rfl ?_
    obtain ⟨x_5, e_6, i_7, h⟩ := mb_rd_e h
    refine rb_iald hK ai_213 i_7 e_6 dM_fears_18 ?_
    refine ro_istore hK dM_fears_19 (by decide) ?_
    show K 0 0 21 [.ref 200, .int x1, .int x2, .int r_3, .int x_5, .retAddr 0, .retAddr 0] [] (mb_s s_1)
    refine ro_iconst (x := 0) hK (by decide) dM_fears_21 ?_
    refine ro_istore hK dM_fears_22 (by decide) ?_
    show K 0 0 24 [.ref 200, .int x1, .int x2, .int r_3, .int x_5, .int 0, .retAddr 0] [] (mb_s s_1)
    refine ro_iconst (x := 0) hK (by decide) dM_fears_24 ?_
    refine ro_istore hK dM_fears_25 (by decide) ?_
    show K 0 0 27 [.ref 200, .int x1, .int x2, .int r_3, .int x_5, .int 0, .int 0] [] (mb_s s_1)
    refine ro_fg (lv' := [.ref 200, .int x1, .int x2, .retAddr 0, .int x_5, .int 0, .int 0]) hK ⟨Or.inr rfl, ⟨Or.inr rfl, ⟨Or.inr rfl, ⟨Or.inl rfl, ⟨Or.inr rfl, ⟨Or.inr rfl, ⟨Or.inr rfl, trivial⟩⟩⟩⟩⟩⟩⟩ ?_
    refine tl_M_fears_27 (dd := dd) hK hR (fun x_20 x_21 s_22 h => ?_) n _ _ _ h
    refine ro_aload_n hK dM_fears_75 rfl ?_
    refine rb_get hK fM_31 mb_oM rfl dM_fears_76 ?_
    refine ro_iload_n hK dM_fears_79 rfl ?_
    refine ro_iload hK dM_fears_80 rfl ?_
    obtain ⟨s_23, e_24, i_25, h⟩ := mb_wr_e h
    refine rb_iast hK ai_213 i_25 e_24 dM_fears_82 ?_
    refine ro_iload hK dM_fears_83 rfl ?_
    cases h
    exact hR.1 0 0 85 _ _ _ _ rfl rfl dM_fears_85 ⟨rfl, rfl⟩
  · replace h := mb_iff c_4 h
    refine ro_iload_n hK dM_fears_11 rfl ?_
    cases h
    exact hR.1 0 0 12 _ _ _ _ rfl rfl dM_fears_12 ⟨rfl, rfl⟩
theorem dM_grows_0 : decode bM_grows 0 = .ok (.aload_n 0, 1) := by decide +kernel
theorem dM_grows_1 : decode bM_grows 1 = .ok (.iload_n 1, 1) := by decide +kernel
theorem dM_grows_2 : decode bM_grows 2 = .ok (.iload_n 2, 1) := by decide +kernel
theorem dM_grows_3 : decode bM_grows 3 = .ok (.invokevirtual 306, 3) := by decide +kernel
theorem dM_grows_6 : decode bM_grows 6 = .ok (.istore_n 3, 1) := by decide +kernel
theorem dM_grows_7 : decode bM_grows 7 = .ok (.iload_n 3, 1) := by decide +kernel
theorem dM_grows_8 : decode bM_grows 8 = .ok (.ifCond .ge 5, 3) := by decide +kernel
theorem dM_grows_11 : decode bM_grows 11 = .ok (.iload_n 3, 1) := by decide +kernel
theorem dM_grows_12 : decode bM_grows 12 = .ok (.ireturn, 1) := by decide +kernel
theorem dM_grows_13 : decode bM_grows 13 = .ok (.aload_n 0, 1) := by decide +kernel
theorem dM_grows_14 : decode bM_grows 14 = .ok (.getfield 34, 3) := by decide +kernel
theorem dM_grows_17 : decode bM_grows 17 = .ok (.iload_n 1, 1) := by decide +kernel
theorem dM_grows_18 : decode bM_grows 18 = .ok (.iaload, 1) := by decide +kernel
theorem dM_grows_19 : decode bM_grows 19 = .ok (.istore 4, 2) := by decide +kernel
theorem dM_grows_21 : decode bM_grows 21 = .ok (.iconst 0, 1) := by decide +kernel
theorem dM_grows_22 : decode bM_grows 22 = .ok (.istore 5, 2) := by decide +kernel
theorem dM_grows_24 : decode bM_grows 24 = .ok (.iconst 0, 1) := by decide +kernel
theorem dM_grows_25 : decode bM_grows 25 = .ok (.istore 6, 2) := by decide +kernel
theorem dM_grows_27 : decode bM_grows 27 = .ok (.iload 6, 2) := by decide +kernel
theorem dM_grows_29 : decode bM_grows 29 = .ok (.bipush 9, 2) := by decide +kernel
theorem dM_grows_31 : decode bM_grows 31 = .ok (.if_icmp .gt 44, 3) := by decide +kernel
theorem dM_grows_34 : decode bM_grows 34 = .ok (.aload_n 0, 1) := by decide +kernel
theorem dM_grows_35 : decode bM_grows 35 = .ok (.getfield 34, 3) := by decide +kernel
theorem dM_grows_38 : decode bM_grows 38 = .ok (.iload_n 1, 1) := by decide +kernel
theorem dM_grows_39 : decode bM_grows 39 = .ok (.iload 6, 2) := by decide +kernel
theorem dM_grows_41 : decode bM_grows 41 = .ok (.iastore, 1) := by decide +kernel
theorem dM_grows_42 : decode bM_grows 42 = .ok (.iload 5, 2) := by decide +kernel
theorem dM_grows_44 : decode bM_grows 44 = .ok (.aload_n 0, 1) := by decide +kernel
theorem dM_grows_45 : decode bM_grows 45 = .ok (.iload_n 2, 1) := by decide +kernel
theorem dM_grows_46 : decode bM_grows 46 = .ok (.invokevirtual 303, 3) := by decide +kernel
theorem dM_grows_49 : decode bM_grows 49 = .ok (.aload_n 0, 1) := by decide +kernel
theorem dM_grows_50 : decode bM_grows 50 = .ok (.getfield 13, 3) := by decide +kernel
theorem dM_grows_53 : decode bM_grows 53 = .ok (.iload_n 2, 1) := by decide +kernel
theorem dM_grows_54 : decode bM_grows 54 = .ok (.iaload, 1) := by decide +kernel
theorem dM_grows_55 : decode bM_grows 55 = .ok (.if_icmp .ne 10, 3) := by decide +kernel
theorem dM_grows_58 : decode bM_grows 58 = .ok (.iconst 1, 1) := by decide +kernel
theorem dM_grows_59 : decode bM_grows 59 = .ok (.iload 6, 2) := by decide +kernel
theorem dM_grows_61 : decode bM_grows 61 = .ok (.ishl, 1) := by decide +kernel
theorem dM_grows_62 : decode bM_grows 62 = .ok (.goto 4, 3) := by decide +kernel
theorem dM_grows_65 : decode bM_grows 65 = .ok (.iconst 0, 1) := by decide +kernel
theorem dM_grows_66 : decode bM_grows 66 = .ok (.ior, 1) := by decide +kernel
theorem dM_grows_67 : decode bM_grows 67 = .ok (.istore 5, 2) := by decide +kernel
theorem dM_grows_69 : decode bM_grows 69 = .ok (.iinc 6 1, 3) := by decide +kernel
theorem dM_grows_72 : decode bM_grows 72 = .ok (.goto (-45), 3) := by decide +kernel
theorem dM_grows_75 : decode bM_grows 75 = .ok (.aload_n 0, 1) := by decide +kernel
theorem dM_grows_76 : decode bM_grows 76 = .ok (.getfield 34, 3) := by decide +kernel
theorem dM_grows_79 : decode bM_grows 79 = .ok (.iload_n 1, 1) := by decide +kernel
theorem dM_grows_80 : decode bM_grows 80 = .ok (.iload 4, 2) := by decide +kernel
theorem dM_grows_82 : decode bM_grows 82 = .ok (.iastore, 1) := by decide +kernel
theorem dM_grows_83 : decode bM_grows 83 = .ok (.iload 5, 2) := by decide +kernel
theorem dM_grows_85 : decode bM_grows 85 = .ok (.ireturn, 1) := by decide +kernel
def f_M_grows_27 (n : Nat) (k0 : Int32 → Int32 → mb_T → Option (Int32 × mb_T)) (y1 : Int32) (y2 : Int32) (y4 : Int32) : Nat → Int32 → Int32 → mb_T → Option (Int32 × mb_T)
  | 0, _, _, _ => none
  | f + 1, w5, w6, s => if 9 < w6 then k0 w5 w6 s else mb_wr s 214 10 y1 w6 fun s_9 => mb_cl (f_M_judged n y2 s_9) fun r_14 s_12 => mb_rd s_12 203 6 y2 fun x_15 => f_M_grows_27 n k0 y1 y2 y4 f (w5 ||| (if r_14 = x_15 then (1 <<< (w6 &&& 31)) else 0 : Int32)) (w6 + 1) s_12
def f_M_grows (n : Nat) (x1 : Int32) (x2 : Int32) (s : mb_T) : Option (Int32 × mb_T) := mb_cl (f_M_askedOf n x1 x2 s) fun r_3 s_1 => if 0 ≤ r_3 then (mb_rd s_1 214 10 x1 fun x_5 => f_M_grows_27 n (fun x_20 x_21 s_22 => mb_wr s_22 214 10 x1 x_5 fun s_23 => some (x_20, s_23)) x1 x2 x_5 n 0 0 s_1) else some (r_3, s_1)
set_option maxHeartbeats 4000000 in
set_option maxRecDepth 100000 in
theorem tl_M_grows_27 {dd n : Nat} {K : mj_KT} {out : Int32 × mb_T} (hK : mj_C (dd + 6) 0 0 RM_c "grows" bM_grows 7 K) (hR : mj_R bM_grows (some .int) (fun r2 S2 => r2 = some (.int out.1) ∧ S2 = mb_s out.2) K) {k0 : Int32 → Int32 → mb_T → Option (Int32 × mb_T)} {y1 : Int32} {y2 : Int32} {y4 : Int32} (hk0 : ∀ (w5 : Int32) (w6 : Int32) (s : mb_T), k0 w5 w6 s = some out → K 0 0 75 [.ref 200, .int y1, .int y2, .retAddr 0, .int y4, .int w5, .int w6] [] (mb_s s)) : ∀ (f : Nat) (w5 : Int32) (w6 : Int32) (s : mb_T), f_M_grows_27 n k0 y1 y2 y4 f w5 w6 s = some out → K 0 0 27 [.ref 200, .int y1, .int y2, .retAddr 0, .int y4, .int w5, .int w6] [] (mb_s s) := by
  intro f
  induction f with
  | zero =>
    intro w5 w6 s h
    cases h
  | succ f ih =>
    intro w5 w6 s h
    rw [f_M_grows_27] at h
    refine ro_iload hK dM_grows_27 rfl ?_
    refine ro_bipush (x := 9) hK (by decide) dM_grows_29 ?_
    refine ro_icmp_gt (tgt := 75) hK dM_grows_31 (by decide) (fun c_8 => ?_) (fun c_8 => ?_)
    · replace h := mb_ift c_8 h
      refine ro_fg (lv' := [.ref 200, .int y1, .int y2, .retAddr 0, .int y4, .int w5, .int w6]) hK ⟨Or.inr rfl, ⟨Or.inr rfl, ⟨Or.inr rfl, ⟨Or.inl rfl, ⟨Or.inr rfl, ⟨Or.inr rfl, ⟨Or.inr rfl, trivial⟩⟩⟩⟩⟩⟩⟩ ?_
      exact hk0 _ _ _ h
    · replace h := mb_iff c_8 h
      refine ro_aload_n hK dM_grows_34 rfl ?_
      refine rb_get hK fM_34 mb_oM rfl dM_grows_35 ?_
      refine ro_iload_n hK dM_grows_38 rfl ?_
      refine ro_iload hK dM_grows_39 rfl ?_
      obtain ⟨s_9, e_10, i_11, h⟩ := mb_wr_e h
      refine rb_iast hK ai_214 i_11 e_10 dM_grows_41 ?_
      refine ro_iload hK dM_grows_42 rfl ?_
      refine ro_aload_n hK dM_grows_44 rfl ?_
      refine ro_iload_n hK dM_grows_45 rfl ?_
      obtain ⟨r_14, s_12, q_13, h⟩ := mb_cl_e h
      refine rb_callV hK mM_judged vM_303 (t_M_judged (dd := dd + 0) q_13) rfl mb_oM rfl (Nat.le_of_ble_eq_true rfl) dM_grows_46 rfl ⟨Nat.le_refl _, Nat.le_refl _⟩ ?_
      show K 0 0 49 [.ref 200, .int y1, .int y2, .retAddr 0, .int y4, .int w5, .int w6] [.int r_14, .int w5] (mb_s s_12)
      refine ro_aload_n hK dM_grows_49 rfl ?_
      refine rb_get hK fM_13 mb_oM rfl dM_grows_50 ?_
      refine ro_iload_n hK dM_grows_53 rfl ?_
      obtain ⟨x_15, e_16, i_17, h⟩ := mb_rd_e h
      refine rb_iald hK ai_203 i_17 e_16 dM_grows_54 ?_
      have j_19 : ∀ w_ : Int32, w_ = (if r_14 = x_15 then (1 <<< (w6 &&& 31)) else 0 : Int32) → K 0 0 66 [.ref 200, .int y1, .int y2, .retAddr 0, .int y4, .int w5, .int w6] [.int w_, .int w5] (mb_s s_12) → K 0 0 55 [.ref 200, .int y1, .int y2, .retAddr 0, .int y4, .int w5, .int w6] [.int x_15, .int r_14, .int w5] (mb_s s_12) := by
        intro w_ hw hj
        refine ro_icmp_ne (tgt := 65) hK dM_grows_55 (by decide) (fun c_18 => ?_) (fun c_18 => ?_)
        · skip
          refine ro_iconst (x := 0) hK (by decide) dM_grows_65 ?_
          have hw := (hw.trans (if_neg c_18))
          subst hw
          exact hj
        · skip
          refine ro_iconst (x := 1) hK (by decide) dM_grows_58 ?_
          refine ro_iload hK dM_grows_59 rfl ?_
          refine ro_ishl hK dM_grows_61 ?_
          refine ro_goto (tgt := 66) hK dM_grows_62 (by decide) ?_
          have hw := (hw.trans (if_pos c_18))
          subst hw
          exact hj
      refine j_19 _ rfl ?_
      refine ro_ior hK dM_grows_66 ?_
      refine ro_istore hK dM_grows_67 (by decide) ?_
      show K 0 0 69 [.ref 200, .int y1, .int y2, .retAddr 0, .int y4, .int (w5 ||| (if r_14 = x_15 then (1 <<< (w6 &&& 31)) else 0 : Int32)), .int w6] [] (mb_s s_12)
      refine ro_iincv (c := 1) hK (by decide) dM_grows_69 rfl (by decide) ?_
      show K 0 0 72 [.ref 200, .int y1, .int y2, .retAddr 0, .int y4, .int (w5 ||| (if r_14 = x_15 then (1 <<< (w6 &&& 31)) else 0 : Int32)), .int (w6 + 1)] [] (mb_s s_12)
      refine ro_goto (tgt := 27) hK dM_grows_72 (by decide) ?_
      refine ro_fg (lv' := [.ref 200, .int y1, .int y2, .retAddr 0, .int y4, .int (w5 ||| (if r_14 = x_15 then (1 <<< (w6 &&& 31)) else 0 : Int32)), .int (w6 + 1)]) hK ⟨Or.inr rfl, ⟨Or.inr rfl, ⟨Or.inr rfl, ⟨Or.inl rfl, ⟨Or.inr rfl, ⟨Or.inr rfl, ⟨Or.inr rfl, trivial⟩⟩⟩⟩⟩⟩⟩ ?_
      exact ih _ _ _ h
set_option maxHeartbeats 4000000 in
set_option maxRecDepth 100000 in
theorem t_M_grows {dd n : Nat} {x1 : Int32} {x2 : Int32} {s : mb_T} {out : Int32 × mb_T}  (h : f_M_grows n x1 x2 s = some out) : mb_MC (dd + 6) yM_grows bM_grows 7 (some .int) [.ref 200, .int x1, .int x2] s (some (.int out.1)) out.2 := by
  unfold f_M_grows at h
  refine mj_mc (lv := [.ref 200, .int x1, .int x2, .retAddr 0, .retAddr 0, .retAddr 0, .retAddr 0]) mM_grows rfl rfl (Nat.le_of_ble_eq_true rfl) (fun K hK hR => ?_)
  have hK : mj_C (dd + 6) 0 0 RM_c "grows" bM_grows 7 K := hK
  refine ro_aload_n hK dM_grows_0 rfl ?_
  refine ro_iload_n hK dM_grows_1 rfl ?_
  refine ro_iload_n hK dM_grows_2 rfl ?_
  obtain ⟨r_3, s_1, q_2, h⟩ := mb_cl_e h
  refine rb_callV hK mM_askedOf vM_306 (t_M_askedOf (dd := dd + 0) q_2) rfl mb_oM rfl (Nat.le_of_ble_eq_true rfl) dM_grows_3 rfl ⟨Nat.le_refl _, Nat.le_refl _⟩ ?_
  show K 0 0 6 [.ref 200, .int x1, .int x2, .retAddr 0, .retAddr 0, .retAddr 0, .retAddr 0] [.int r_3] (mb_s s_1)
  refine ro_istore_n hK dM_grows_6 (by decide) ?_
  show K 0 0 7 [.ref 200, .int x1, .int x2, .int r_3, .retAddr 0, .retAddr 0, .retAddr 0] [] (mb_s s_1)
  refine ro_iload_n hK dM_grows_7 rfl ?_
  refine ro_if_ge (tgt := 13) hK dM_grows_8 (by decide) (fun c_4 => ?_) (fun c_4 => ?_)
  · replace h := mb_ift c_4 h
    refine ro_aload_n hK dM_grows_13 rfl ?_
    refine rb_get hK fM_34 mb_oM rfl dM_grows_14 ?_
    refine ro_iload_n hK dM_grows_17 rfl ?_
    obtain ⟨x_5, e_6, i_7, h⟩ := mb_rd_e h
    refine rb_iald hK ai_214 i_7 e_6 dM_grows_18 ?_
    refine ro_istore hK dM_grows_19 (by decide) ?_
    show K 0 0 21 [.ref 200, .int x1, .int x2, .int r_3, .int x_5, .retAddr 0, .retAddr 0] [] (mb_s s_1)
    refine ro_iconst (x := 0) hK (by decide) dM_grows_21 ?_
    refine ro_istore hK dM_grows_22 (by decide) ?_
    show K 0 0 24 [.ref 200, .int x1, .int x2, .int r_3, .int x_5, .int 0, .retAddr 0] [] (mb_s s_1)
    refine ro_iconst (x := 0) hK (by decide) dM_grows_24 ?_
    refine ro_istore hK dM_grows_25 (by decide) ?_
    show K 0 0 27 [.ref 200, .int x1, .int x2, .int r_3, .int x_5, .int 0, .int 0] [] (mb_s s_1)
    refine ro_fg (lv' := [.ref 200, .int x1, .int x2, .retAddr 0, .int x_5, .int 0, .int 0]) hK ⟨Or.inr rfl, ⟨Or.inr rfl, ⟨Or.inr rfl, ⟨Or.inl rfl, ⟨Or.inr rfl, ⟨Or.inr rfl, ⟨Or.inr rfl, trivial⟩⟩⟩⟩⟩⟩⟩ ?_
    refine tl_M_grows_27 (dd := dd) hK hR (fun x_20 x_21 s_22 h => ?_) n _ _ _ h
    refine ro_aload_n hK dM_grows_75 rfl ?_
    refine rb_get hK fM_34 mb_oM rfl dM_grows_76 ?_
    refine ro_iload_n hK dM_grows_79 rfl ?_
    refine ro_iload hK dM_grows_80 rfl ?_
    obtain ⟨s_23, e_24, i_25, h⟩ := mb_wr_e h
    refine rb_iast hK ai_214 i_25 e_24 dM_grows_82 ?_
    refine ro_iload hK dM_grows_83 rfl ?_
    cases h
    exact hR.1 0 0 85 _ _ _ _ rfl rfl dM_grows_85 ⟨rfl, rfl⟩
  · replace h := mb_iff c_4 h
    refine ro_iload_n hK dM_grows_11 rfl ?_
    cases h
    exact hR.1 0 0 12 _ _ _ _ rfl rfl dM_grows_12 ⟨rfl, rfl⟩
theorem dM_holds_0 : decode bM_holds 0 = .ok (.iload_n 1, 1) := by decide +kernel
theorem dM_holds_1 : decode bM_holds 1 = .ok (.iconst 0, 1) := by decide +kernel
theorem dM_holds_2 : decode bM_holds 2 = .ok (.iconst 3, 1) := by decide +kernel
theorem dM_holds_3 : decode bM_holds 3 = .ok (.invokestatic 92, 3) := by decide +kernel
theorem dM_holds_6 : decode bM_holds 6 = .ok (.ifCond .ne 5, 3) := by decide +kernel
theorem dM_holds_9 : decode bM_holds 9 = .ok (.iconst (-1), 1) := by decide +kernel
theorem dM_holds_10 : decode bM_holds 10 = .ok (.ireturn, 1) := by decide +kernel
theorem dM_holds_11 : decode bM_holds 11 = .ok (.aload_n 0, 1) := by decide +kernel
theorem dM_holds_12 : decode bM_holds 12 = .ok (.getfield 161, 3) := by decide +kernel
theorem dM_holds_15 : decode bM_holds 15 = .ok (.ifCond .ne 6, 3) := by decide +kernel
theorem dM_holds_18 : decode bM_holds 18 = .ok (.bipush (-4), 2) := by decide +kernel
theorem dM_holds_20 : decode bM_holds 20 = .ok (.ireturn, 1) := by decide +kernel
theorem dM_holds_21 : decode bM_holds 21 = .ok (.aload_n 0, 1) := by decide +kernel
theorem dM_holds_22 : decode bM_holds 22 = .ok (.iload_n 1, 1) := by decide +kernel
theorem dM_holds_23 : decode bM_holds 23 = .ok (.invokevirtual 231, 3) := by decide +kernel
theorem dM_holds_26 : decode bM_holds 26 = .ok (.istore_n 2, 1) := by decide +kernel
theorem dM_holds_27 : decode bM_holds 27 = .ok (.iload_n 2, 1) := by decide +kernel
theorem dM_holds_28 : decode bM_holds 28 = .ok (.bipush (-9), 2) := by decide +kernel
theorem dM_holds_30 : decode bM_holds 30 = .ok (.if_icmp .ne 8, 3) := by decide +kernel
theorem dM_holds_33 : decode bM_holds 33 = .ok (.bipush (-9), 2) := by decide +kernel
theorem dM_holds_35 : decode bM_holds 35 = .ok (.goto 12, 3) := by decide +kernel
theorem dM_holds_38 : decode bM_holds 38 = .ok (.aload_n 0, 1) := by decide +kernel
theorem dM_holds_39 : decode bM_holds 39 = .ok (.aload_n 0, 1) := by decide +kernel
theorem dM_holds_40 : decode bM_holds 40 = .ok (.getfield 225, 3) := by decide +kernel
theorem dM_holds_43 : decode bM_holds 43 = .ok (.iload_n 2, 1) := by decide +kernel
theorem dM_holds_44 : decode bM_holds 44 = .ok (.invokevirtual 118, 3) := by decide +kernel
theorem dM_holds_47 : decode bM_holds 47 = .ok (.ireturn, 1) := by decide +kernel
def f_M_holds (n : Nat) (x1 : Int32) (s : mb_T) : Option (Int32 × mb_T) := mb_cl (f_M_in n x1 0 3 s) fun r_3 s_1 => if r_3 = 0 then some ((-1), s_1) else if (s_1.1 200 8) = 0 then some ((-4), s_1) else mb_cl (f_M_holdsOf n x1 s_1) fun r_8 s_6 => if r_8 = (-9) then some ((-9), s_6) else mb_cl (f_M_ask n (s_6.1 200 31) r_8 s_6) fun r_12 s_10 => some (r_12, s_10)
set_option maxHeartbeats 4000000 in
set_option maxRecDepth 100000 in
theorem t_M_holds {dd n : Nat} {x1 : Int32} {s : mb_T} {out : Int32 × mb_T}  (h : f_M_holds n x1 s = some out) : mb_MC (dd + 6) yM_holds bM_holds 3 (some .int) [.ref 200, .int x1] s (some (.int out.1)) out.2 := by
  unfold f_M_holds at h
  refine mj_mc (lv := [.ref 200, .int x1, .retAddr 0]) mM_holds rfl rfl (Nat.le_of_ble_eq_true rfl) (fun K hK hR => ?_)
  have hK : mj_C (dd + 6) 0 0 RM_c "holds" bM_holds 3 K := hK
  refine ro_iload_n hK dM_holds_0 rfl ?_
  refine ro_iconst (x := 0) hK (by decide) dM_holds_1 ?_
  refine ro_iconst (x := 3) hK (by decide) dM_holds_2 ?_
  obtain ⟨r_3, s_1, q_2, h⟩ := mb_cl_e h
  refine rb_callS hK mM_in vM_92 (t_M_in (dd := dd + 4) q_2) rfl (Nat.le_of_ble_eq_true rfl) dM_holds_3 rfl ⟨Nat.le_refl _, Nat.le_refl _⟩ ?_
  show K 0 0 6 [.ref 200, .int x1, .retAddr 0] [.int r_3] (mb_s s_1)
  refine ro_if_ne (tgt := 11) hK dM_holds_6 (by decide) (fun c_4 => ?_) (fun c_4 => ?_)
  · replace h := mb_iff c_4 h
    refine ro_aload_n hK dM_holds_11 rfl ?_
    refine rb_get hK fM_161 mb_oM rfl dM_holds_12 ?_
    refine ro_if_ne (tgt := 21) hK dM_holds_15 (by decide) (fun c_5 => ?_) (fun c_5 => ?_)
    · replace h := mb_iff c_5 h
      refine ro_aload_n hK dM_holds_21 rfl ?_
      refine ro_iload_n hK dM_holds_22 rfl ?_
      obtain ⟨r_8, s_6, q_7, h⟩ := mb_cl_e h
      refine rb_callV hK mM_holdsOf vM_231 (t_M_holdsOf (dd := dd + 0) q_7) rfl mb_oM rfl (Nat.le_of_ble_eq_true rfl) dM_holds_23 rfl ⟨Nat.le_refl _, Nat.le_refl _⟩ ?_
      show K 0 0 26 [.ref 200, .int x1, .retAddr 0] [.int r_8] (mb_s s_6)
      refine ro_istore_n hK dM_holds_26 (by decide) ?_
      show K 0 0 27 [.ref 200, .int x1, .int r_8] [] (mb_s s_6)
      refine ro_iload_n hK dM_holds_27 rfl ?_
      refine ro_bipush (x := (-9)) hK (by decide) dM_holds_28 ?_
      refine ro_icmp_ne (tgt := 38) hK dM_holds_30 (by decide) (fun c_9 => ?_) (fun c_9 => ?_)
      · replace h := mb_iff c_9 h
        refine ro_aload_n hK dM_holds_38 rfl ?_
        refine ro_aload_n hK dM_holds_39 rfl ?_
        refine rb_get hK fM_225 mb_oM rfl dM_holds_40 ?_
        refine ro_iload_n hK dM_holds_43 rfl ?_
        obtain ⟨r_12, s_10, q_11, h⟩ := mb_cl_e h
        refine rb_callV hK mM_ask vM_118 (t_M_ask (dd := dd + 4) q_11) rfl mb_oM rfl (Nat.le_of_ble_eq_true rfl) dM_holds_44 rfl ⟨Nat.le_refl _, Nat.le_refl _⟩ ?_
        show K 0 0 47 [.ref 200, .int x1, .int r_8] [.int r_12] (mb_s s_10)
        cases h
        exact hR.1 0 0 47 _ _ _ _ rfl rfl dM_holds_47 ⟨rfl, rfl⟩
      · replace h := mb_ift c_9 h
        refine ro_bipush (x := (-9)) hK (by decide) dM_holds_33 ?_
        refine ro_goto (tgt := 47) hK dM_holds_35 (by decide) ?_
        cases h
        exact hR.1 0 0 47 _ _ _ _ rfl rfl dM_holds_47 ⟨rfl, rfl⟩
    · replace h := mb_ift c_5 h
      refine ro_bipush (x := (-4)) hK (by decide) dM_holds_18 ?_
      cases h
      exact hR.1 0 0 20 _ _ _ _ rfl rfl dM_holds_20 ⟨rfl, rfl⟩
  · replace h := mb_ift c_4 h
    refine ro_iconst (x := (-1)) hK (by decide) dM_holds_9 ?_
    cases h
    exact hR.1 0 0 10 _ _ _ _ rfl rfl dM_holds_10 ⟨rfl, rfl⟩
theorem dM_holdsSo_0 : decode bM_holdsSo 0 = .ok (.iconst 0, 1) := by decide +kernel
theorem dM_holdsSo_1 : decode bM_holdsSo 1 = .ok (.istore_n 1, 1) := by decide +kernel
theorem dM_holdsSo_2 : decode bM_holdsSo 2 = .ok (.iload_n 1, 1) := by decide +kernel
theorem dM_holdsSo_3 : decode bM_holdsSo 3 = .ok (.aload_n 0, 1) := by decide +kernel
theorem dM_holdsSo_4 : decode bM_holdsSo 4 = .ok (.getfield 161, 3) := by decide +kernel
theorem dM_holdsSo_7 : decode bM_holdsSo 7 = .ok (.if_icmp .ge 21, 3) := by decide +kernel
theorem dM_holdsSo_10 : decode bM_holdsSo 10 = .ok (.aload_n 0, 1) := by decide +kernel
theorem dM_holdsSo_11 : decode bM_holdsSo 11 = .ok (.getfield 47, 3) := by decide +kernel
theorem dM_holdsSo_14 : decode bM_holdsSo 14 = .ok (.aload_n 0, 1) := by decide +kernel
theorem dM_holdsSo_15 : decode bM_holdsSo 15 = .ok (.getfield 80, 3) := by decide +kernel
theorem dM_holdsSo_18 : decode bM_holdsSo 18 = .ok (.iload_n 1, 1) := by decide +kernel
theorem dM_holdsSo_19 : decode bM_holdsSo 19 = .ok (.iaload, 1) := by decide +kernel
theorem dM_holdsSo_20 : decode bM_holdsSo 20 = .ok (.iload_n 1, 1) := by decide +kernel
theorem dM_holdsSo_21 : decode bM_holdsSo 21 = .ok (.iastore, 1) := by decide +kernel
theorem dM_holdsSo_22 : decode bM_holdsSo 22 = .ok (.iinc 1 1, 3) := by decide +kernel
theorem dM_holdsSo_25 : decode bM_holdsSo 25 = .ok (.goto (-23), 3) := by decide +kernel
theorem dM_holdsSo_28 : decode bM_holdsSo 28 = .ok (.aload_n 0, 1) := by decide +kernel
theorem dM_holdsSo_29 : decode bM_holdsSo 29 = .ok (.aload_n 0, 1) := by decide +kernel
theorem dM_holdsSo_30 : decode bM_holdsSo 30 = .ok (.getfield 167, 3) := by decide +kernel
theorem dM_holdsSo_33 : decode bM_holdsSo 33 = .ok (.invokevirtual 231, 3) := by decide +kernel
theorem dM_holdsSo_36 : decode bM_holdsSo 36 = .ok (.istore_n 1, 1) := by decide +kernel
theorem dM_holdsSo_37 : decode bM_holdsSo 37 = .ok (.iconst 0, 1) := by decide +kernel
theorem dM_holdsSo_38 : decode bM_holdsSo 38 = .ok (.istore_n 2, 1) := by decide +kernel
theorem dM_holdsSo_39 : decode bM_holdsSo 39 = .ok (.iload_n 2, 1) := by decide +kernel
theorem dM_holdsSo_40 : decode bM_holdsSo 40 = .ok (.iconst 5, 1) := by decide +kernel
theorem dM_holdsSo_41 : decode bM_holdsSo 41 = .ok (.if_icmp .ge 16, 3) := by decide +kernel
theorem dM_holdsSo_44 : decode bM_holdsSo 44 = .ok (.aload_n 0, 1) := by decide +kernel
theorem dM_holdsSo_45 : decode bM_holdsSo 45 = .ok (.getfield 47, 3) := by decide +kernel
theorem dM_holdsSo_48 : decode bM_holdsSo 48 = .ok (.iload_n 2, 1) := by decide +kernel
theorem dM_holdsSo_49 : decode bM_holdsSo 49 = .ok (.iload_n 2, 1) := by decide +kernel
theorem dM_holdsSo_50 : decode bM_holdsSo 50 = .ok (.iastore, 1) := by decide +kernel
theorem dM_holdsSo_51 : decode bM_holdsSo 51 = .ok (.iinc 2 1, 3) := by decide +kernel
theorem dM_holdsSo_54 : decode bM_holdsSo 54 = .ok (.goto (-15), 3) := by decide +kernel
theorem dM_holdsSo_57 : decode bM_holdsSo 57 = .ok (.iload_n 1, 1) := by decide +kernel
theorem dM_holdsSo_58 : decode bM_holdsSo 58 = .ok (.ireturn, 1) := by decide +kernel
def f_M_holdsSo_2 (n : Nat) (k0 : Int32 → mb_T → Option (Int32 × mb_T))  : Nat → Int32 → mb_T → Option (Int32 × mb_T)
  | 0, _, _ => none
  | f + 1, w1, s => if (s.1 200 8) ≤ w1 then k0 w1 s else mb_rd s 239 5 w1 fun x_2 => mb_wr s 223 5 x_2 w1 fun s_5 => f_M_holdsSo_2 n k0 f (w1 + 1) s_5
def f_M_holdsSo_39 (n : Nat) (k0 : Int32 → mb_T → Option (Int32 × mb_T)) (y1 : Int32) : Nat → Int32 → mb_T → Option (Int32 × mb_T)
  | 0, _, _ => none
  | f + 1, w2, s => if 5 ≤ w2 then k0 w2 s else mb_wr s 223 5 w2 w2 fun s_14 => f_M_holdsSo_39 n k0 y1 f (w2 + 1) s_14
def f_M_holdsSo (n : Nat)  (s : mb_T) : Option (Int32 × mb_T) := f_M_holdsSo_2 n (fun x_8 s_9 => mb_cl (f_M_holdsOf n (s_9.1 200 10) s_9) fun r_12 s_10 => f_M_holdsSo_39 n (fun x_17 s_18 => some (r_12, s_18)) r_12 n 0 s_10) n 0 s
set_option maxHeartbeats 4000000 in
set_option maxRecDepth 100000 in
theorem tl_M_holdsSo_2 {dd n : Nat} {K : mj_KT} {out : Int32 × mb_T} (hK : mj_C (dd + 6) 0 0 RM_c "holdsSo" bM_holdsSo 3 K) (hR : mj_R bM_holdsSo (some .int) (fun r2 S2 => r2 = some (.int out.1) ∧ S2 = mb_s out.2) K) {k0 : Int32 → mb_T → Option (Int32 × mb_T)}  (hk0 : ∀ (w1 : Int32) (s : mb_T), k0 w1 s = some out → K 0 0 28 [.ref 200, .int w1, .retAddr 0] [] (mb_s s)) : ∀ (f : Nat) (w1 : Int32) (s : mb_T), f_M_holdsSo_2 n k0 f w1 s = some out → K 0 0 2 [.ref 200, .int w1, .retAddr 0] [] (mb_s s) := by
  intro f
  induction f with
  | zero =>
    intro w1 s h
    cases h
  | succ f ih =>
    intro w1 s h
    rw [f_M_holdsSo_2] at h
    refine ro_iload_n hK dM_holdsSo_2 rfl ?_
    refine ro_aload_n hK dM_holdsSo_3 rfl ?_
    refine rb_get hK fM_161 mb_oM rfl dM_holdsSo_4 ?_
    refine ro_icmp_ge (tgt := 28) hK dM_holdsSo_7 (by decide) (fun c_1 => ?_) (fun c_1 => ?_)
    · replace h := mb_ift c_1 h
      refine ro_fg (lv' := [.ref 200, .int w1, .retAddr 0]) hK ⟨Or.inr rfl, ⟨Or.inr rfl, ⟨Or.inl rfl, trivial⟩⟩⟩ ?_
      exact hk0 _ _ h
    · replace h := mb_iff c_1 h
      refine ro_aload_n hK dM_holdsSo_10 rfl ?_
      refine rb_get hK fM_47 mb_oM rfl dM_holdsSo_11 ?_
      refine ro_aload_n hK dM_holdsSo_14 rfl ?_
      refine rb_get hK fM_80 mb_oM rfl dM_holdsSo_15 ?_
      refine ro_iload_n hK dM_holdsSo_18 rfl ?_
      obtain ⟨x_2, e_3, i_4, h⟩ := mb_rd_e h
      refine rb_iald hK ai_239 i_4 e_3 dM_holdsSo_19 ?_
      refine ro_iload_n hK dM_holdsSo_20 rfl ?_
      obtain ⟨s_5, e_6, i_7, h⟩ := mb_wr_e h
      refine rb_iast hK ai_223 i_7 e_6 dM_holdsSo_21 ?_
      refine ro_iincv (c := 1) hK (by decide) dM_holdsSo_22 rfl (by decide) ?_
      show K 0 0 25 [.ref 200, .int (w1 + 1), .retAddr 0] [] (mb_s s_5)
      refine ro_goto (tgt := 2) hK dM_holdsSo_25 (by decide) ?_
      refine ro_fg (lv' := [.ref 200, .int (w1 + 1), .retAddr 0]) hK ⟨Or.inr rfl, ⟨Or.inr rfl, ⟨Or.inl rfl, trivial⟩⟩⟩ ?_
      exact ih _ _ h
set_option maxHeartbeats 4000000 in
set_option maxRecDepth 100000 in
theorem tl_M_holdsSo_39 {dd n : Nat} {K : mj_KT} {out : Int32 × mb_T} (hK : mj_C (dd + 6) 0 0 RM_c "holdsSo" bM_holdsSo 3 K) (hR : mj_R bM_holdsSo (some .int) (fun r2 S2 => r2 = some (.int out.1) ∧ S2 = mb_s out.2) K) {k0 : Int32 → mb_T → Option (Int32 × mb_T)} {y1 : Int32} (hk0 : ∀ (w2 : Int32) (s : mb_T), k0 w2 s = some out → K 0 0 57 [.ref 200, .int y1, .int w2] [] (mb_s s)) : ∀ (f : Nat) (w2 : Int32) (s : mb_T), f_M_holdsSo_39 n k0 y1 f w2 s = some out → K 0 0 39 [.ref 200, .int y1, .int w2] [] (mb_s s) := by
  intro f
  induction f with
  | zero =>
    intro w2 s h
    cases h
  | succ f ih =>
    intro w2 s h
    rw [f_M_holdsSo_39] at h
    refine ro_iload_n hK dM_holdsSo_39 rfl ?_
    refine ro_iconst (x := 5) hK (by decide) dM_holdsSo_40 ?_
    refine ro_icmp_ge (tgt := 57) hK dM_holdsSo_41 (by decide) (fun c_13 => ?_) (fun c_13 => ?_)
    · replace h := mb_ift c_13 h
      refine ro_fg (lv' := [.ref 200, .int y1, .int w2]) hK ⟨Or.inr rfl, ⟨Or.inr rfl, ⟨Or.inr rfl, trivial⟩⟩⟩ ?_
      exact hk0 _ _ h
    · replace h := mb_iff c_13 h
      refine ro_aload_n hK dM_holdsSo_44 rfl ?_
      refine rb_get hK fM_47 mb_oM rfl dM_holdsSo_45 ?_
      refine ro_iload_n hK dM_holdsSo_48 rfl ?_
      refine ro_iload_n hK dM_holdsSo_49 rfl ?_
      obtain ⟨s_14, e_15, i_16, h⟩ := mb_wr_e h
      refine rb_iast hK ai_223 i_16 e_15 dM_holdsSo_50 ?_
      refine ro_iincv (c := 1) hK (by decide) dM_holdsSo_51 rfl (by decide) ?_
      show K 0 0 54 [.ref 200, .int y1, .int (w2 + 1)] [] (mb_s s_14)
      refine ro_goto (tgt := 39) hK dM_holdsSo_54 (by decide) ?_
      refine ro_fg (lv' := [.ref 200, .int y1, .int (w2 + 1)]) hK ⟨Or.inr rfl, ⟨Or.inr rfl, ⟨Or.inr rfl, trivial⟩⟩⟩ ?_
      exact ih _ _ h
set_option maxHeartbeats 4000000 in
set_option maxRecDepth 100000 in
theorem t_M_holdsSo {dd n : Nat}  {s : mb_T} {out : Int32 × mb_T}  (h : f_M_holdsSo n  s = some out) : mb_MC (dd + 6) yM_holdsSo bM_holdsSo 3 (some .int) [.ref 200] s (some (.int out.1)) out.2 := by
  unfold f_M_holdsSo at h
  refine mj_mc (lv := [.ref 200, .retAddr 0, .retAddr 0]) mM_holdsSo rfl rfl (Nat.le_of_ble_eq_true rfl) (fun K hK hR => ?_)
  have hK : mj_C (dd + 6) 0 0 RM_c "holdsSo" bM_holdsSo 3 K := hK
  refine ro_iconst (x := 0) hK (by decide) dM_holdsSo_0 ?_
  refine ro_istore_n hK dM_holdsSo_1 (by decide) ?_
  show K 0 0 2 [.ref 200, .int 0, .retAddr 0] [] (mb_s s)
  refine ro_fg (lv' := [.ref 200, .int 0, .retAddr 0]) hK ⟨Or.inr rfl, ⟨Or.inr rfl, ⟨Or.inl rfl, trivial⟩⟩⟩ ?_
  refine tl_M_holdsSo_2 (dd := dd) hK hR (fun x_8 s_9 h => ?_) n _ _ h
  refine ro_aload_n hK dM_holdsSo_28 rfl ?_
  refine ro_aload_n hK dM_holdsSo_29 rfl ?_
  refine rb_get hK fM_167 mb_oM rfl dM_holdsSo_30 ?_
  obtain ⟨r_12, s_10, q_11, h⟩ := mb_cl_e h
  refine rb_callV hK mM_holdsOf vM_231 (t_M_holdsOf (dd := dd + 0) q_11) rfl mb_oM rfl (Nat.le_of_ble_eq_true rfl) dM_holdsSo_33 rfl ⟨Nat.le_refl _, Nat.le_refl _⟩ ?_
  show K 0 0 36 [.ref 200, .int x_8, .retAddr 0] [.int r_12] (mb_s s_10)
  refine ro_istore_n hK dM_holdsSo_36 (by decide) ?_
  show K 0 0 37 [.ref 200, .int r_12, .retAddr 0] [] (mb_s s_10)
  refine ro_iconst (x := 0) hK (by decide) dM_holdsSo_37 ?_
  refine ro_istore_n hK dM_holdsSo_38 (by decide) ?_
  show K 0 0 39 [.ref 200, .int r_12, .int 0] [] (mb_s s_10)
  refine ro_fg (lv' := [.ref 200, .int r_12, .int 0]) hK ⟨Or.inr rfl, ⟨Or.inr rfl, ⟨Or.inr rfl, trivial⟩⟩⟩ ?_
  refine tl_M_holdsSo_39 (dd := dd) hK hR (fun x_17 s_18 h => ?_) n _ _ h
  refine ro_iload_n hK dM_holdsSo_57 rfl ?_
  cases h
  exact hR.1 0 0 58 _ _ _ _ rfl rfl dM_holdsSo_58 ⟨rfl, rfl⟩
theorem dM_judge_0 : decode bM_judge 0 = .ok (.iload_n 1, 1) := by decide +kernel
theorem dM_judge_1 : decode bM_judge 1 = .ok (.invokestatic 96, 3) := by decide +kernel
theorem dM_judge_4 : decode bM_judge 4 = .ok (.ifCond .ne 5, 3) := by decide +kernel
theorem dM_judge_7 : decode bM_judge 7 = .ok (.iconst (-1), 1) := by decide +kernel
theorem dM_judge_8 : decode bM_judge 8 = .ok (.ireturn, 1) := by decide +kernel
theorem dM_judge_9 : decode bM_judge 9 = .ok (.aload_n 0, 1) := by decide +kernel
theorem dM_judge_10 : decode bM_judge 10 = .ok (.getfield 161, 3) := by decide +kernel
theorem dM_judge_13 : decode bM_judge 13 = .ok (.ifCond .ne 6, 3) := by decide +kernel
theorem dM_judge_16 : decode bM_judge 16 = .ok (.bipush (-4), 2) := by decide +kernel
theorem dM_judge_18 : decode bM_judge 18 = .ok (.ireturn, 1) := by decide +kernel
theorem dM_judge_19 : decode bM_judge 19 = .ok (.aload_n 0, 1) := by decide +kernel
theorem dM_judge_20 : decode bM_judge 20 = .ok (.iload_n 1, 1) := by decide +kernel
theorem dM_judge_21 : decode bM_judge 21 = .ok (.invokevirtual 300, 3) := by decide +kernel
theorem dM_judge_24 : decode bM_judge 24 = .ok (.istore_n 2, 1) := by decide +kernel
theorem dM_judge_25 : decode bM_judge 25 = .ok (.iload_n 2, 1) := by decide +kernel
theorem dM_judge_26 : decode bM_judge 26 = .ok (.ifCond .ge 5, 3) := by decide +kernel
theorem dM_judge_29 : decode bM_judge 29 = .ok (.iload_n 2, 1) := by decide +kernel
theorem dM_judge_30 : decode bM_judge 30 = .ok (.ireturn, 1) := by decide +kernel
theorem dM_judge_31 : decode bM_judge 31 = .ok (.aload_n 0, 1) := by decide +kernel
theorem dM_judge_32 : decode bM_judge 32 = .ok (.iload_n 1, 1) := by decide +kernel
theorem dM_judge_33 : decode bM_judge 33 = .ok (.invokevirtual 303, 3) := by decide +kernel
theorem dM_judge_36 : decode bM_judge 36 = .ok (.istore_n 3, 1) := by decide +kernel
theorem dM_judge_37 : decode bM_judge 37 = .ok (.aload_n 0, 1) := by decide +kernel
theorem dM_judge_38 : decode bM_judge 38 = .ok (.aload_n 0, 1) := by decide +kernel
theorem dM_judge_39 : decode bM_judge 39 = .ok (.getfield 297, 3) := by decide +kernel
theorem dM_judge_42 : decode bM_judge 42 = .ok (.iload_n 3, 1) := by decide +kernel
theorem dM_judge_43 : decode bM_judge 43 = .ok (.invokevirtual 118, 3) := by decide +kernel
theorem dM_judge_46 : decode bM_judge 46 = .ok (.ireturn, 1) := by decide +kernel
def f_M_judge (n : Nat) (x1 : Int32) (s : mb_T) : Option (Int32 × mb_T) := mb_cl (f_M_isRow n x1 s) fun r_3 s_1 => if r_3 = 0 then some ((-1), s_1) else if (s_1.1 200 8) = 0 then some ((-4), s_1) else mb_cl (f_M_askedHandings n x1 s_1) fun r_8 s_6 => if 0 ≤ r_8 then (mb_cl (f_M_judged n x1 s_6) fun r_12 s_10 => mb_cl (f_M_ask n (s_10.1 200 43) r_12 s_10) fun r_15 s_13 => some (r_15, s_13)) else some (r_8, s_6)
set_option maxHeartbeats 4000000 in
set_option maxRecDepth 100000 in
theorem t_M_judge {dd n : Nat} {x1 : Int32} {s : mb_T} {out : Int32 × mb_T}  (h : f_M_judge n x1 s = some out) : mb_MC (dd + 6) yM_judge bM_judge 4 (some .int) [.ref 200, .int x1] s (some (.int out.1)) out.2 := by
  unfold f_M_judge at h
  refine mj_mc (lv := [.ref 200, .int x1, .retAddr 0, .retAddr 0]) mM_judge rfl rfl (Nat.le_of_ble_eq_true rfl) (fun K hK hR => ?_)
  have hK : mj_C (dd + 6) 0 0 RM_c "judge" bM_judge 4 K := hK
  refine ro_iload_n hK dM_judge_0 rfl ?_
  obtain ⟨r_3, s_1, q_2, h⟩ := mb_cl_e h
  refine rb_callS hK mM_isRow vM_96 (t_M_isRow (dd := dd + 3) q_2) rfl (Nat.le_of_ble_eq_true rfl) dM_judge_1 rfl ⟨Nat.le_refl _, Nat.le_refl _⟩ ?_
  show K 0 0 4 [.ref 200, .int x1, .retAddr 0, .retAddr 0] [.int r_3] (mb_s s_1)
  refine ro_if_ne (tgt := 9) hK dM_judge_4 (by decide) (fun c_4 => ?_) (fun c_4 => ?_)
  · replace h := mb_iff c_4 h
    refine ro_aload_n hK dM_judge_9 rfl ?_
    refine rb_get hK fM_161 mb_oM rfl dM_judge_10 ?_
    refine ro_if_ne (tgt := 19) hK dM_judge_13 (by decide) (fun c_5 => ?_) (fun c_5 => ?_)
    · replace h := mb_iff c_5 h
      refine ro_aload_n hK dM_judge_19 rfl ?_
      refine ro_iload_n hK dM_judge_20 rfl ?_
      obtain ⟨r_8, s_6, q_7, h⟩ := mb_cl_e h
      refine rb_callV hK mM_askedHandings vM_300 (t_M_askedHandings (dd := dd + 1) q_7) rfl mb_oM rfl (Nat.le_of_ble_eq_true rfl) dM_judge_21 rfl ⟨Nat.le_refl _, Nat.le_refl _⟩ ?_
      show K 0 0 24 [.ref 200, .int x1, .retAddr 0, .retAddr 0] [.int r_8] (mb_s s_6)
      refine ro_istore_n hK dM_judge_24 (by decide) ?_
      show K 0 0 25 [.ref 200, .int x1, .int r_8, .retAddr 0] [] (mb_s s_6)
      refine ro_iload_n hK dM_judge_25 rfl ?_
      refine ro_if_ge (tgt := 31) hK dM_judge_26 (by decide) (fun c_9 => ?_) (fun c_9 => ?_)
      · replace h := mb_ift c_9 h
        refine ro_aload_n hK dM_judge_31 rfl ?_
        refine ro_iload_n hK dM_judge_32 rfl ?_
        obtain ⟨r_12, s_10, q_11, h⟩ := mb_cl_e h
        refine rb_callV hK mM_judged vM_303 (t_M_judged (dd := dd + 0) q_11) rfl mb_oM rfl (Nat.le_of_ble_eq_true rfl) dM_judge_33 rfl ⟨Nat.le_refl _, Nat.le_refl _⟩ ?_
        show K 0 0 36 [.ref 200, .int x1, .int r_8, .retAddr 0] [.int r_12] (mb_s s_10)
        refine ro_istore_n hK dM_judge_36 (by decide) ?_
        show K 0 0 37 [.ref 200, .int x1, .int r_8, .int r_12] [] (mb_s s_10)
        refine ro_aload_n hK dM_judge_37 rfl ?_
        refine ro_aload_n hK dM_judge_38 rfl ?_
        refine rb_get hK fM_297 mb_oM rfl dM_judge_39 ?_
        refine ro_iload_n hK dM_judge_42 rfl ?_
        obtain ⟨r_15, s_13, q_14, h⟩ := mb_cl_e h
        refine rb_callV hK mM_ask vM_118 (t_M_ask (dd := dd + 4) q_14) rfl mb_oM rfl (Nat.le_of_ble_eq_true rfl) dM_judge_43 rfl ⟨Nat.le_refl _, Nat.le_refl _⟩ ?_
        show K 0 0 46 [.ref 200, .int x1, .int r_8, .int r_12] [.int r_15] (mb_s s_13)
        cases h
        exact hR.1 0 0 46 _ _ _ _ rfl rfl dM_judge_46 ⟨rfl, rfl⟩
      · replace h := mb_iff c_9 h
        refine ro_iload_n hK dM_judge_29 rfl ?_
        cases h
        exact hR.1 0 0 30 _ _ _ _ rfl rfl dM_judge_30 ⟨rfl, rfl⟩
    · replace h := mb_ift c_5 h
      refine ro_bipush (x := (-4)) hK (by decide) dM_judge_16 ?_
      cases h
      exact hR.1 0 0 18 _ _ _ _ rfl rfl dM_judge_18 ⟨rfl, rfl⟩
  · replace h := mb_ift c_4 h
    refine ro_iconst (x := (-1)) hK (by decide) dM_judge_7 ?_
    cases h
    exact hR.1 0 0 8 _ _ _ _ rfl rfl dM_judge_8 ⟨rfl, rfl⟩
theorem dM_liars_0 : decode bM_liars 0 = .ok (.iload_n 1, 1) := by decide +kernel
theorem dM_liars_1 : decode bM_liars 1 = .ok (.invokestatic 96, 3) := by decide +kernel
theorem dM_liars_4 : decode bM_liars 4 = .ok (.ifCond .ne 5, 3) := by decide +kernel
theorem dM_liars_7 : decode bM_liars 7 = .ok (.iconst (-1), 1) := by decide +kernel
theorem dM_liars_8 : decode bM_liars 8 = .ok (.ireturn, 1) := by decide +kernel
theorem dM_liars_9 : decode bM_liars 9 = .ok (.aload_n 0, 1) := by decide +kernel
theorem dM_liars_10 : decode bM_liars 10 = .ok (.getfield 161, 3) := by decide +kernel
theorem dM_liars_13 : decode bM_liars 13 = .ok (.ifCond .ne 6, 3) := by decide +kernel
theorem dM_liars_16 : decode bM_liars 16 = .ok (.bipush (-4), 2) := by decide +kernel
theorem dM_liars_18 : decode bM_liars 18 = .ok (.ireturn, 1) := by decide +kernel
theorem dM_liars_19 : decode bM_liars 19 = .ok (.aload_n 0, 1) := by decide +kernel
theorem dM_liars_20 : decode bM_liars 20 = .ok (.iload_n 1, 1) := by decide +kernel
theorem dM_liars_21 : decode bM_liars 21 = .ok (.invokevirtual 300, 3) := by decide +kernel
theorem dM_liars_24 : decode bM_liars 24 = .ok (.istore_n 2, 1) := by decide +kernel
theorem dM_liars_25 : decode bM_liars 25 = .ok (.iload_n 2, 1) := by decide +kernel
theorem dM_liars_26 : decode bM_liars 26 = .ok (.ifCond .ge 5, 3) := by decide +kernel
theorem dM_liars_29 : decode bM_liars 29 = .ok (.iload_n 2, 1) := by decide +kernel
theorem dM_liars_30 : decode bM_liars 30 = .ok (.ireturn, 1) := by decide +kernel
theorem dM_liars_31 : decode bM_liars 31 = .ok (.iconst 0, 1) := by decide +kernel
theorem dM_liars_32 : decode bM_liars 32 = .ok (.istore_n 3, 1) := by decide +kernel
theorem dM_liars_33 : decode bM_liars 33 = .ok (.iconst 0, 1) := by decide +kernel
theorem dM_liars_34 : decode bM_liars 34 = .ok (.istore 4, 2) := by decide +kernel
theorem dM_liars_36 : decode bM_liars 36 = .ok (.iload 4, 2) := by decide +kernel
theorem dM_liars_38 : decode bM_liars 38 = .ok (.aload_n 0, 1) := by decide +kernel
theorem dM_liars_39 : decode bM_liars 39 = .ok (.getfield 161, 3) := by decide +kernel
theorem dM_liars_42 : decode bM_liars 42 = .ok (.if_icmp .ge 31, 3) := by decide +kernel
theorem dM_liars_45 : decode bM_liars 45 = .ok (.iload_n 3, 1) := by decide +kernel
theorem dM_liars_46 : decode bM_liars 46 = .ok (.aload_n 0, 1) := by decide +kernel
theorem dM_liars_47 : decode bM_liars 47 = .ok (.getfield 28, 3) := by decide +kernel
theorem dM_liars_50 : decode bM_liars 50 = .ok (.iload 4, 2) := by decide +kernel
theorem dM_liars_52 : decode bM_liars 52 = .ok (.iaload, 1) := by decide +kernel
theorem dM_liars_53 : decode bM_liars 53 = .ok (.iconst 5, 1) := by decide +kernel
theorem dM_liars_54 : decode bM_liars 54 = .ok (.if_icmp .ne 10, 3) := by decide +kernel
theorem dM_liars_57 : decode bM_liars 57 = .ok (.iconst 1, 1) := by decide +kernel
theorem dM_liars_58 : decode bM_liars 58 = .ok (.iload 4, 2) := by decide +kernel
theorem dM_liars_60 : decode bM_liars 60 = .ok (.ishl, 1) := by decide +kernel
theorem dM_liars_61 : decode bM_liars 61 = .ok (.goto 4, 3) := by decide +kernel
theorem dM_liars_64 : decode bM_liars 64 = .ok (.iconst 0, 1) := by decide +kernel
theorem dM_liars_65 : decode bM_liars 65 = .ok (.ior, 1) := by decide +kernel
theorem dM_liars_66 : decode bM_liars 66 = .ok (.istore_n 3, 1) := by decide +kernel
theorem dM_liars_67 : decode bM_liars 67 = .ok (.iinc 4 1, 3) := by decide +kernel
theorem dM_liars_70 : decode bM_liars 70 = .ok (.goto (-34), 3) := by decide +kernel
theorem dM_liars_73 : decode bM_liars 73 = .ok (.iconst 0, 1) := by decide +kernel
theorem dM_liars_74 : decode bM_liars 74 = .ok (.istore 4, 2) := by decide +kernel
theorem dM_liars_76 : decode bM_liars 76 = .ok (.bipush (-9), 2) := by decide +kernel
theorem dM_liars_78 : decode bM_liars 78 = .ok (.istore 5, 2) := by decide +kernel
theorem dM_liars_80 : decode bM_liars 80 = .ok (.iconst 0, 1) := by decide +kernel
theorem dM_liars_81 : decode bM_liars 81 = .ok (.istore 6, 2) := by decide +kernel
theorem dM_liars_83 : decode bM_liars 83 = .ok (.iload 6, 2) := by decide +kernel
theorem dM_liars_85 : decode bM_liars 85 = .ok (.iconst 1, 1) := by decide +kernel
theorem dM_liars_86 : decode bM_liars 86 = .ok (.aload_n 0, 1) := by decide +kernel
theorem dM_liars_87 : decode bM_liars 87 = .ok (.getfield 161, 3) := by decide +kernel
theorem dM_liars_90 : decode bM_liars 90 = .ok (.ishl, 1) := by decide +kernel
theorem dM_liars_91 : decode bM_liars 91 = .ok (.if_icmp .ge 77, 3) := by decide +kernel
theorem dM_liars_94 : decode bM_liars 94 = .ok (.iload 6, 2) := by decide +kernel
theorem dM_liars_96 : decode bM_liars 96 = .ok (.iload_n 3, 1) := by decide +kernel
theorem dM_liars_97 : decode bM_liars 97 = .ok (.iand, 1) := by decide +kernel
theorem dM_liars_98 : decode bM_liars 98 = .ok (.ifCond .ne 64, 3) := by decide +kernel
theorem dM_liars_101 : decode bM_liars 101 = .ok (.aload_n 0, 1) := by decide +kernel
theorem dM_liars_102 : decode bM_liars 102 = .ok (.iload 6, 2) := by decide +kernel
theorem dM_liars_104 : decode bM_liars 104 = .ok (.putfield 43, 3) := by decide +kernel
theorem dM_liars_107 : decode bM_liars 107 = .ok (.aload_n 0, 1) := by decide +kernel
theorem dM_liars_108 : decode bM_liars 108 = .ok (.iload_n 1, 1) := by decide +kernel
theorem dM_liars_109 : decode bM_liars 109 = .ok (.invokevirtual 303, 3) := by decide +kernel
theorem dM_liars_112 : decode bM_liars 112 = .ok (.aload_n 0, 1) := by decide +kernel
theorem dM_liars_113 : decode bM_liars 113 = .ok (.getfield 13, 3) := by decide +kernel
theorem dM_liars_116 : decode bM_liars 116 = .ok (.iload_n 1, 1) := by decide +kernel
theorem dM_liars_117 : decode bM_liars 117 = .ok (.iaload, 1) := by decide +kernel
theorem dM_liars_118 : decode bM_liars 118 = .ok (.if_icmp .ne 7, 3) := by decide +kernel
theorem dM_liars_121 : decode bM_liars 121 = .ok (.iconst 1, 1) := by decide +kernel
theorem dM_liars_122 : decode bM_liars 122 = .ok (.goto 4, 3) := by decide +kernel
theorem dM_liars_125 : decode bM_liars 125 = .ok (.iconst 0, 1) := by decide +kernel
theorem dM_liars_126 : decode bM_liars 126 = .ok (.istore 7, 2) := by decide +kernel
theorem dM_liars_128 : decode bM_liars 128 = .ok (.iload 7, 2) := by decide +kernel
theorem dM_liars_130 : decode bM_liars 130 = .ok (.ifCond .eq 13, 3) := by decide +kernel
theorem dM_liars_133 : decode bM_liars 133 = .ok (.iload 4, 2) := by decide +kernel
theorem dM_liars_135 : decode bM_liars 135 = .ok (.ifCond .ne 8, 3) := by decide +kernel
theorem dM_liars_138 : decode bM_liars 138 = .ok (.iload 6, 2) := by decide +kernel
theorem dM_liars_140 : decode bM_liars 140 = .ok (.goto 5, 3) := by decide +kernel
theorem dM_liars_143 : decode bM_liars 143 = .ok (.iload 5, 2) := by decide +kernel
theorem dM_liars_145 : decode bM_liars 145 = .ok (.istore 5, 2) := by decide +kernel
theorem dM_liars_147 : decode bM_liars 147 = .ok (.iload 4, 2) := by decide +kernel
theorem dM_liars_149 : decode bM_liars 149 = .ok (.iload 7, 2) := by decide +kernel
theorem dM_liars_151 : decode bM_liars 151 = .ok (.ifCond .eq 7, 3) := by decide +kernel
theorem dM_liars_154 : decode bM_liars 154 = .ok (.iconst 1, 1) := by decide +kernel
theorem dM_liars_155 : decode bM_liars 155 = .ok (.goto 4, 3) := by decide +kernel
theorem dM_liars_158 : decode bM_liars 158 = .ok (.iconst 0, 1) := by decide +kernel
theorem dM_liars_159 : decode bM_liars 159 = .ok (.iadd, 1) := by decide +kernel
theorem dM_liars_160 : decode bM_liars 160 = .ok (.istore 4, 2) := by decide +kernel
theorem dM_liars_162 : decode bM_liars 162 = .ok (.iinc 6 1, 3) := by decide +kernel
theorem dM_liars_165 : decode bM_liars 165 = .ok (.goto (-82), 3) := by decide +kernel
theorem dM_liars_168 : decode bM_liars 168 = .ok (.aload_n 0, 1) := by decide +kernel
theorem dM_liars_169 : decode bM_liars 169 = .ok (.bipush (-9), 2) := by decide +kernel
theorem dM_liars_171 : decode bM_liars 171 = .ok (.putfield 43, 3) := by decide +kernel
theorem dM_liars_174 : decode bM_liars 174 = .ok (.aload_n 0, 1) := by decide +kernel
theorem dM_liars_175 : decode bM_liars 175 = .ok (.iload 5, 2) := by decide +kernel
theorem dM_liars_177 : decode bM_liars 177 = .ok (.iload 4, 2) := by decide +kernel
theorem dM_liars_179 : decode bM_liars 179 = .ok (.invokevirtual 118, 3) := by decide +kernel
theorem dM_liars_182 : decode bM_liars 182 = .ok (.ireturn, 1) := by decide +kernel
def f_M_liars_36 (n : Nat) (k0 : Int32 → Int32 → mb_T → Option (Int32 × mb_T)) (y1 : Int32) : Nat → Int32 → Int32 → mb_T → Option (Int32 × mb_T)
  | 0, _, _, _ => none
  | f + 1, w3, w4, s => if (s.1 200 8) ≤ w4 then k0 w3 w4 s else mb_rd s 212 10 w4 fun x_11 => f_M_liars_36 n k0 y1 f (w3 ||| (if x_11 = 5 then (1 <<< (w4 &&& 31)) else 0 : Int32)) (w4 + 1) s
def f_M_liars_83 (n : Nat) (k0 : Int32 → Int32 → Int32 → mb_T → Option (Int32 × mb_T)) (y1 : Int32) (y3 : Int32) : Nat → Int32 → Int32 → Int32 → mb_T → Option (Int32 × mb_T)
  | 0, _, _, _, _ => none
  | f + 1, w4, w5, w6, s => if (1 <<< ((s.1 200 8) &&& 31)) ≤ w6 then k0 w4 w5 w6 s else if (w6 &&& y3) = 0 then (mb_bd (sF s 200 22 w6) fun s_21 => mb_cl (f_M_judged n y1 s_21) fun r_25 s_23 => mb_rd s_23 203 6 y1 fun x_26 => f_M_liars_83 n k0 y1 y3 f (w4 + (if (if r_25 = x_26 then 1 else 0 : Int32) = 0 then 0 else 1 : Int32)) (if (if r_25 = x_26 then 1 else 0 : Int32) = 0 then w5 else (if w4 = 0 then w6 else w5 : Int32) : Int32) (w6 + 1) s_23) else f_M_liars_83 n k0 y1 y3 f w4 w5 (w6 + 1) s
def f_M_liars (n : Nat) (x1 : Int32) (s : mb_T) : Option (Int32 × mb_T) := mb_cl (f_M_isRow n x1 s) fun r_3 s_1 => if r_3 = 0 then some ((-1), s_1) else if (s_1.1 200 8) = 0 then some ((-4), s_1) else mb_cl (f_M_askedHandings n x1 s_1) fun r_8 s_6 => if 0 ≤ r_8 then (f_M_liars_36 n (fun x_16 x_17 s_18 => f_M_liars_83 n (fun x_36 x_37 x_38 s_39 => mb_bd (sF s_39 200 22 (-9)) fun s_40 => mb_cl (f_M_ask n x_37 x_36 s_40) fun r_44 s_42 => some (r_44, s_42)) x1 x_16 n 0 (-9) 0 s_18) x1 n 0 0 s_6) else some (r_8, s_6)
set_option maxHeartbeats 4000000 in
set_option maxRecDepth 100000 in
theorem tl_M_liars_36 {dd n : Nat} {K : mj_KT} {out : Int32 × mb_T} (hK : mj_C (dd + 6) 0 0 RM_c "liars" bM_liars 8 K) (hR : mj_R bM_liars (some .int) (fun r2 S2 => r2 = some (.int out.1) ∧ S2 = mb_s out.2) K) {k0 : Int32 → Int32 → mb_T → Option (Int32 × mb_T)} {y1 : Int32} (hk0 : ∀ (w3 : Int32) (w4 : Int32) (s : mb_T), k0 w3 w4 s = some out → K 0 0 73 [.ref 200, .int y1, .retAddr 0, .int w3, .int w4, .retAddr 0, .retAddr 0, .retAddr 0] [] (mb_s s)) : ∀ (f : Nat) (w3 : Int32) (w4 : Int32) (s : mb_T), f_M_liars_36 n k0 y1 f w3 w4 s = some out → K 0 0 36 [.ref 200, .int y1, .retAddr 0, .int w3, .int w4, .retAddr 0, .retAddr 0, .retAddr 0] [] (mb_s s) := by
  intro f
  induction f with
  | zero =>
    intro w3 w4 s h
    cases h
  | succ f ih =>
    intro w3 w4 s h
    rw [f_M_liars_36] at h
    refine ro_iload hK dM_liars_36 rfl ?_
    refine ro_aload_n hK dM_liars_38 rfl ?_
    refine rb_get hK fM_161 mb_oM rfl dM_liars_39 ?_
    refine ro_icmp_ge (tgt := 73) hK dM_liars_42 (by decide) (fun c_10 => ?_) (fun c_10 => ?_)
    · replace h := mb_ift c_10 h
      refine ro_fg (lv' := [.ref 200, .int y1, .retAddr 0, .int w3, .int w4, .retAddr 0, .retAddr 0, .retAddr 0]) hK ⟨Or.inr rfl, ⟨Or.inr rfl, ⟨Or.inl rfl, ⟨Or.inr rfl, ⟨Or.inr rfl, ⟨Or.inl rfl, ⟨Or.inl rfl, ⟨Or.inl rfl, trivial⟩⟩⟩⟩⟩⟩⟩⟩ ?_
      exact hk0 _ _ _ h
    · replace h := mb_iff c_10 h
      refine ro_iload_n hK dM_liars_45 rfl ?_
      refine ro_aload_n hK dM_liars_46 rfl ?_
      refine rb_get hK fM_28 mb_oM rfl dM_liars_47 ?_
      refine ro_iload hK dM_liars_50 rfl ?_
      obtain ⟨x_11, e_12, i_13, h⟩ := mb_rd_e h
      refine rb_iald hK ai_212 i_13 e_12 dM_liars_52 ?_
      refine ro_iconst (x := 5) hK (by decide) dM_liars_53 ?_
      have j_15 : ∀ w_ : Int32, w_ = (if x_11 = 5 then (1 <<< (w4 &&& 31)) else 0 : Int32) → K 0 0 65 [.ref 200, .int y1, .retAddr 0, .int w3, .int w4, .retAddr 0, .retAddr 0, .retAddr 0] [.int w_, .int w3] (mb_s s) → K 0 0 54 [.ref 200, .int y1, .retAddr 0, .int w3, .int w4, .retAddr 0, .retAddr 0, .retAddr 0] [.int 5, .int x_11, .int w3] (mb_s s) := by
        intro w_ hw hj
        refine ro_icmp_ne (tgt := 64) hK dM_liars_54 (by decide) (fun c_14 => ?_) (fun c_14 => ?_)
        · skip
          refine ro_iconst (x := 0) hK (by decide) dM_liars_64 ?_
          have hw := (hw.trans (if_neg c_14))
          subst hw
          exact hj
        · skip
          refine ro_iconst (x := 1) hK (by decide) dM_liars_57 ?_
          refine ro_iload hK dM_liars_58 rfl ?_
          refine ro_ishl hK dM_liars_60 ?_
          refine ro_goto (tgt := 65) hK dM_liars_61 (by decide) ?_
          have hw := (hw.trans (if_pos c_14))
          subst hw
          exact hj
      refine j_15 _ rfl ?_
      refine ro_ior hK dM_liars_65 ?_
      refine ro_istore_n hK dM_liars_66 (by decide) ?_
      show K 0 0 67 [.ref 200, .int y1, .retAddr 0, .int (w3 ||| (if x_11 = 5 then (1 <<< (w4 &&& 31)) else 0 : Int32)), .int w4, .retAddr 0, .retAddr 0, .retAddr 0] [] (mb_s s)
      refine ro_iincv (c := 1) hK (by decide) dM_liars_67 rfl (by decide) ?_
      show K 0 0 70 [.ref 200, .int y1, .retAddr 0, .int (w3 ||| (if x_11 = 5 then (1 <<< (w4 &&& 31)) else 0 : Int32)), .int (w4 + 1), .retAddr 0, .retAddr 0, .retAddr 0] [] (mb_s s)
      refine ro_goto (tgt := 36) hK dM_liars_70 (by decide) ?_
      refine ro_fg (lv' := [.ref 200, .int y1, .retAddr 0, .int (w3 ||| (if x_11 = 5 then (1 <<< (w4 &&& 31)) else 0 : Int32)), .int (w4 + 1), .retAddr 0, .retAddr 0, .retAddr 0]) hK ⟨Or.inr rfl, ⟨Or.inr rfl, ⟨Or.inl rfl, ⟨Or.inr rfl, ⟨Or.inr rfl, ⟨Or.inl rfl, ⟨Or.inl rfl, ⟨Or.inl rfl, trivial⟩⟩⟩⟩⟩⟩⟩⟩ ?_
      exact ih _ _ _ h
set_option maxHeartbeats 4000000 in
set_option maxRecDepth 100000 in
theorem tl_M_liars_83 {dd n : Nat} {K : mj_KT} {out : Int32 × mb_T} (hK : mj_C (dd + 6) 0 0 RM_c "liars" bM_liars 8 K) (hR : mj_R bM_liars (some .int) (fun r2 S2 => r2 = some (.int out.1) ∧ S2 = mb_s out.2) K) {k0 : Int32 → Int32 → Int32 → mb_T → Option (Int32 × mb_T)} {y1 : Int32} {y3 : Int32} (hk0 : ∀ (w4 : Int32) (w5 : Int32) (w6 : Int32) (s : mb_T), k0 w4 w5 w6 s = some out → K 0 0 168 [.ref 200, .int y1, .retAddr 0, .int y3, .int w4, .int w5, .int w6, .retAddr 0] [] (mb_s s)) : ∀ (f : Nat) (w4 : Int32) (w5 : Int32) (w6 : Int32) (s : mb_T), f_M_liars_83 n k0 y1 y3 f w4 w5 w6 s = some out → K 0 0 83 [.ref 200, .int y1, .retAddr 0, .int y3, .int w4, .int w5, .int w6, .retAddr 0] [] (mb_s s) := by
  intro f
  induction f with
  | zero =>
    intro w4 w5 w6 s h
    cases h
  | succ f ih =>
    intro w4 w5 w6 s h
    rw [f_M_liars_83] at h
    refine ro_iload hK dM_liars_83 rfl ?_
    refine ro_iconst (x := 1) hK (by decide) dM_liars_85 ?_
    refine ro_aload_n hK dM_liars_86 rfl ?_
    refine rb_get hK fM_161 mb_oM rfl dM_liars_87 ?_
    refine ro_ishl hK dM_liars_90 ?_
    refine ro_icmp_ge (tgt := 168) hK dM_liars_91 (by decide) (fun c_19 => ?_) (fun c_19 => ?_)
    · replace h := mb_ift c_19 h
      refine ro_fg (lv' := [.ref 200, .int y1, .retAddr 0, .int y3, .int w4, .int w5, .int w6, .retAddr 0]) hK ⟨Or.inr rfl, ⟨Or.inr rfl, ⟨Or.inl rfl, ⟨Or.inr rfl, ⟨Or.inr rfl, ⟨Or.inr rfl, ⟨Or.inr rfl, ⟨Or.inl rfl, trivial⟩⟩⟩⟩⟩⟩⟩⟩ ?_
      exact hk0 _ _ _ _ h
    · replace h := mb_iff c_19 h
      refine ro_iload hK dM_liars_94 rfl ?_
      refine ro_iload_n hK dM_liars_96 rfl ?_
      refine ro_iand hK dM_liars_97 ?_
      refine ro_if_ne (tgt := 162) hK dM_liars_98 (by decide) (fun c_20 => ?_) (fun c_20 => ?_)
      · replace h := mb_iff c_20 h
        refine ro_iincv (c := 1) hK (by decide) dM_liars_162 rfl (by decide) ?_
        show K 0 0 165 [.ref 200, .int y1, .retAddr 0, .int y3, .int w4, .int w5, .int (w6 + 1), .retAddr 0] [] (mb_s s)
        refine ro_goto (tgt := 83) hK dM_liars_165 (by decide) ?_
        refine ro_fg (lv' := [.ref 200, .int y1, .retAddr 0, .int y3, .int w4, .int w5, .int (w6 + 1), .retAddr 0]) hK ⟨Or.inr rfl, ⟨Or.inr rfl, ⟨Or.inl rfl, ⟨Or.inr rfl, ⟨Or.inr rfl, ⟨Or.inr rfl, ⟨Or.inr rfl, ⟨Or.inl rfl, trivial⟩⟩⟩⟩⟩⟩⟩⟩ ?_
        exact ih _ _ _ _ h
      · replace h := mb_ift c_20 h
        refine ro_aload_n hK dM_liars_101 rfl ?_
        refine ro_iload hK dM_liars_102 rfl ?_
        obtain ⟨s_21, e_22, h⟩ := mb_bd_e h
        refine rb_put hK gM_43 mb_oM rfl (by show 22 < 45; decide) rfl rfl e_22 dM_liars_104 ?_
        refine ro_aload_n hK dM_liars_107 rfl ?_
        refine ro_iload_n hK dM_liars_108 rfl ?_
        obtain ⟨r_25, s_23, q_24, h⟩ := mb_cl_e h
        refine rb_callV hK mM_judged vM_303 (t_M_judged (dd := dd + 0) q_24) rfl mb_oM rfl (Nat.le_of_ble_eq_true rfl) dM_liars_109 rfl ⟨Nat.le_refl _, Nat.le_refl _⟩ ?_
        show K 0 0 112 [.ref 200, .int y1, .retAddr 0, .int y3, .int w4, .int w5, .int w6, .retAddr 0] [.int r_25] (mb_s s_23)
        refine ro_aload_n hK dM_liars_112 rfl ?_
        refine rb_get hK fM_13 mb_oM rfl dM_liars_113 ?_
        refine ro_iload_n hK dM_liars_116 rfl ?_
        obtain ⟨x_26, e_27, i_28, h⟩ := mb_rd_e h
        refine rb_iald hK ai_203 i_28 e_27 dM_liars_117 ?_
        have j_30 : ∀ w_ : Int32, w_ = (if r_25 = x_26 then 1 else 0 : Int32) → K 0 0 126 [.ref 200, .int y1, .retAddr 0, .int y3, .int w4, .int w5, .int w6, .retAddr 0] [.int w_] (mb_s s_23) → K 0 0 118 [.ref 200, .int y1, .retAddr 0, .int y3, .int w4, .int w5, .int w6, .retAddr 0] [.int x_26, .int r_25] (mb_s s_23) := by
          intro w_ hw hj
          refine ro_icmp_ne (tgt := 125) hK dM_liars_118 (by decide) (fun c_29 => ?_) (fun c_29 => ?_)
          · skip
            refine ro_iconst (x := 0) hK (by decide) dM_liars_125 ?_
            have hw := (hw.trans (if_neg c_29))
            subst hw
            exact hj
          · skip
            refine ro_iconst (x := 1) hK (by decide) dM_liars_121 ?_
            refine ro_goto (tgt := 126) hK dM_liars_122 (by decide) ?_
            have hw := (hw.trans (if_pos c_29))
            subst hw
            exact hj
        refine j_30 _ rfl ?_
        refine ro_istore hK dM_liars_126 (by decide) ?_
        show K 0 0 128 [.ref 200, .int y1, .retAddr 0, .int y3, .int w4, .int w5, .int w6, .int (if r_25 = x_26 then 1 else 0 : Int32)] [] (mb_s s_23)
        refine ro_iload hK dM_liars_128 rfl ?_
        have j_33 : ∀ w_ : Int32, w_ = (if (if r_25 = x_26 then 1 else 0 : Int32) = 0 then w5 else (if w4 = 0 then w6 else w5 : Int32) : Int32) → K 0 0 145 [.ref 200, .int y1, .retAddr 0, .int y3, .int w4, .int w5, .int w6, .int (if r_25 = x_26 then 1 else 0 : Int32)] [.int w_] (mb_s s_23) → K 0 0 130 [.ref 200, .int y1, .retAddr 0, .int y3, .int w4, .int w5, .int w6, .int (if r_25 = x_26 then 1 else 0 : Int32)] [.int (if r_25 = x_26 then 1 else 0 : Int32)] (mb_s s_23) := by
          intro w_ hw hj
          refine ro_if_eq (tgt := 143) hK dM_liars_130 (by decide) (fun c_31 => ?_) (fun c_31 => ?_)
          · skip
            refine ro_iload hK dM_liars_143 rfl ?_
            have hw := (hw.trans (if_pos c_31))
            subst hw
            exact hj
          · skip
            refine ro_iload hK dM_liars_133 rfl ?_
            refine ro_if_ne (tgt := 143) hK dM_liars_135 (by decide) (fun c_32 => ?_) (fun c_32 => ?_)
            · skip
              refine ro_iload hK dM_liars_143 rfl ?_
              have hw := ((hw.trans (if_neg c_31)).trans (if_neg c_32))
              subst hw
              exact hj
            · skip
              refine ro_iload hK dM_liars_138 rfl ?_
              refine ro_goto (tgt := 145) hK dM_liars_140 (by decide) ?_
              have hw := ((hw.trans (if_neg c_31)).trans (if_pos c_32))
              subst hw
              exact hj
        refine j_33 _ rfl ?_
        refine ro_istore hK dM_liars_145 (by decide) ?_
        show K 0 0 147 [.ref 200, .int y1, .retAddr 0, .int y3, .int w4, .int (if (if r_25 = x_26 then 1 else 0 : Int32) = 0 then w5 else (if w4 = 0 then w6 else w5 : Int32) : Int32), .int w6, .int (if r_25 = x_26 then 1 else 0 : Int32)] [] (mb_s s_23)
        refine ro_iload hK dM_liars_147 rfl ?_
        refine ro_iload hK dM_liars_149 rfl ?_
        have j_35 : ∀ w_ : Int32, w_ = (if (if r_25 = x_26 then 1 else 0 : Int32) = 0 then 0 else 1 : Int32) → K 0 0 159 [.ref 200, .int y1, .retAddr 0, .int y3, .int w4, .int (if (if r_25 = x_26 then 1 else 0 : Int32) = 0 then w5 else (if w4 = 0 then w6 else w5 : Int32) : Int32), .int w6, .int (if r_25 = x_26 then 1 else 0 : Int32)] [.int w_, .int w4] (mb_s s_23) → K 0 0 151 [.ref 200, .int y1, .retAddr 0, .int y3, .int w4, .int (if (if r_25 = x_26 then 1 else 0 : Int32) = 0 then w5 else (if w4 = 0 then w6 else w5 : Int32) : Int32), .int w6, .int (if r_25 = x_26 then 1 else 0 : Int32)] [.int (if r_25 = x_26 then 1 else 0 : Int32), .int w4] (mb_s s_23) := by
          intro w_ hw hj
          refine ro_if_eq (tgt := 158) hK dM_liars_151 (by decide) (fun c_34 => ?_) (fun c_34 => ?_)
          · skip
            refine ro_iconst (x := 0) hK (by decide) dM_liars_158 ?_
            have hw := (hw.trans (if_pos c_34))
            subst hw
            exact hj
          · skip
            refine ro_iconst (x := 1) hK (by decide) dM_liars_154 ?_
            refine ro_goto (tgt := 159) hK dM_liars_155 (by decide) ?_
            have hw := (hw.trans (if_neg c_34))
            subst hw
            exact hj
        refine j_35 _ rfl ?_
        refine ro_iadd hK dM_liars_159 ?_
        refine ro_istore hK dM_liars_160 (by decide) ?_
        show K 0 0 162 [.ref 200, .int y1, .retAddr 0, .int y3, .int (w4 + (if (if r_25 = x_26 then 1 else 0 : Int32) = 0 then 0 else 1 : Int32)), .int (if (if r_25 = x_26 then 1 else 0 : Int32) = 0 then w5 else (if w4 = 0 then w6 else w5 : Int32) : Int32), .int w6, .int (if r_25 = x_26 then 1 else 0 : Int32)] [] (mb_s s_23)
        refine ro_iincv (c := 1) hK (by decide) dM_liars_162 rfl (by decide) ?_
        show K 0 0 165 [.ref 200, .int y1, .retAddr 0, .int y3, .int (w4 + (if (if r_25 = x_26 then 1 else 0 : Int32) = 0 then 0 else 1 : Int32)), .int (if (if r_25 = x_26 then 1 else 0 : Int32) = 0 then w5 else (if w4 = 0 then w6 else w5 : Int32) : Int32), .int (w6 + 1), .int (if r_25 = x_26 then 1 else 0 : Int32)] [] (mb_s s_23)
        refine ro_goto (tgt := 83) hK dM_liars_165 (by decide) ?_
        refine ro_fg (lv' := [.ref 200, .int y1, .retAddr 0, .int y3, .int (w4 + (if (if r_25 = x_26 then 1 else 0 : Int32) = 0 then 0 else 1 : Int32)), .int (if (if r_25 = x_26 then 1 else 0 : Int32) = 0 then w5 else (if w4 = 0 then w6 else w5 : Int32) : Int32), .int (w6 + 1), .retAddr 0]) hK ⟨Or.inr rfl, ⟨Or.inr rfl, ⟨Or.inl rfl, ⟨Or.inr rfl, ⟨Or.inr rfl, ⟨Or.inr rfl, ⟨Or.inr rfl, ⟨Or.inl rfl, trivial⟩⟩⟩⟩⟩⟩⟩⟩ ?_
        exact ih _ _ _ _ h
set_option maxHeartbeats 4000000 in
set_option maxRecDepth 100000 in
theorem t_M_liars {dd n : Nat} {x1 : Int32} {s : mb_T} {out : Int32 × mb_T}  (h : f_M_liars n x1 s = some out) : mb_MC (dd + 6) yM_liars bM_liars 8 (some .int) [.ref 200, .int x1] s (some (.int out.1)) out.2 := by
  unfold f_M_liars at h
  refine mj_mc (lv := [.ref 200, .int x1, .retAddr 0, .retAddr 0, .retAddr 0, .retAddr 0, .retAddr 0, .retAddr 0]) mM_liars rfl rfl (Nat.le_of_ble_eq_true rfl) (fun K hK hR => ?_)
  have hK : mj_C (dd + 6) 0 0 RM_c "liars" bM_liars 8 K := hK
  refine ro_iload_n hK dM_liars_0 rfl ?_
  obtain ⟨r_3, s_1, q_2, h⟩ := mb_cl_e h
  refine rb_callS hK mM_isRow vM_96 (t_M_isRow (dd := dd + 3) q_2) rfl (Nat.le_of_ble_eq_true rfl) dM_liars_1 rfl ⟨Nat.le_refl _, Nat.le_refl _⟩ ?_
  show K 0 0 4 [.ref 200, .int x1, .retAddr 0, .retAddr 0, .retAddr 0, .retAddr 0, .retAddr 0, .retAddr 0] [.int r_3] (mb_s s_1)
  refine ro_if_ne (tgt := 9) hK dM_liars_4 (by decide) (fun c_4 => ?_) (fun c_4 => ?_)
  · replace h := mb_iff c_4 h
    refine ro_aload_n hK dM_liars_9 rfl ?_
    refine rb_get hK fM_161 mb_oM rfl dM_liars_10 ?_
    refine ro_if_ne (tgt := 19) hK dM_liars_13 (by decide) (fun c_5 => ?_) (fun c_5 => ?_)
    · replace h := mb_iff c_5 h
      refine ro_aload_n hK dM_liars_19 rfl ?_
      refine ro_iload_n hK dM_liars_20 rfl ?_
      obtain ⟨r_8, s_6, q_7, h⟩ := mb_cl_e h
      refine rb_callV hK mM_askedHandings vM_300 (t_M_askedHandings (dd := dd + 1) q_7) rfl mb_oM rfl (Nat.le_of_ble_eq_true rfl) dM_liars_21 rfl ⟨Nat.le_refl _, Nat.le_refl _⟩ ?_
      show K 0 0 24 [.ref 200, .int x1, .retAddr 0, .retAddr 0, .retAddr 0, .retAddr 0, .retAddr 0, .retAddr 0] [.int r_8] (mb_s s_6)
      refine ro_istore_n hK dM_liars_24 (by decide) ?_
      show K 0 0 25 [.ref 200, .int x1, .int r_8, .retAddr 0, .retAddr 0, .retAddr 0, .retAddr 0, .retAddr 0] [] (mb_s s_6)
      refine ro_iload_n hK dM_liars_25 rfl ?_
      refine ro_if_ge (tgt := 31) hK dM_liars_26 (by decide) (fun c_9 => ?_) (fun c_9 => ?_)
      · replace h := mb_ift c_9 h
        refine ro_iconst (x := 0) hK (by decide) dM_liars_31 ?_
        refine ro_istore_n hK dM_liars_32 (by decide) ?_
        show K 0 0 33 [.ref 200, .int x1, .int r_8, .int 0, .retAddr 0, .retAddr 0, .retAddr 0, .retAddr 0] [] (mb_s s_6)
        refine ro_iconst (x := 0) hK (by decide) dM_liars_33 ?_
        refine ro_istore hK dM_liars_34 (by decide) ?_
        show K 0 0 36 [.ref 200, .int x1, .int r_8, .int 0, .int 0, .retAddr 0, .retAddr 0, .retAddr 0] [] (mb_s s_6)
        refine ro_fg (lv' := [.ref 200, .int x1, .retAddr 0, .int 0, .int 0, .retAddr 0, .retAddr 0, .retAddr 0]) hK ⟨Or.inr rfl, ⟨Or.inr rfl, ⟨Or.inl rfl, ⟨Or.inr rfl, ⟨Or.inr rfl, ⟨Or.inl rfl, ⟨Or.inl rfl, ⟨Or.inl rfl, trivial⟩⟩⟩⟩⟩⟩⟩⟩ ?_
        refine tl_M_liars_36 (dd := dd) hK hR (fun x_16 x_17 s_18 h => ?_) n _ _ _ h
        refine ro_iconst (x := 0) hK (by decide) dM_liars_73 ?_
        refine ro_istore hK dM_liars_74 (by decide) ?_
        show K 0 0 76 [.ref 200, .int x1, .retAddr 0, .int x_16, .int 0, .retAddr 0, .retAddr 0, .retAddr 0] [] (mb_s s_18)
        refine ro_bipush (x := (-9)) hK (by decide) dM_liars_76 ?_
        refine ro_istore hK dM_liars_78 (by decide) ?_
        show K 0 0 80 [.ref 200, .int x1, .retAddr 0, .int x_16, .int 0, .int (-9), .retAddr 0, .retAddr 0] [] (mb_s s_18)
        refine ro_iconst (x := 0) hK (by decide) dM_liars_80 ?_
        refine ro_istore hK dM_liars_81 (by decide) ?_
        show K 0 0 83 [.ref 200, .int x1, .retAddr 0, .int x_16, .int 0, .int (-9), .int 0, .retAddr 0] [] (mb_s s_18)
        refine ro_fg (lv' := [.ref 200, .int x1, .retAddr 0, .int x_16, .int 0, .int (-9), .int 0, .retAddr 0]) hK ⟨Or.inr rfl, ⟨Or.inr rfl, ⟨Or.inl rfl, ⟨Or.inr rfl, ⟨Or.inr rfl, ⟨Or.inr rfl, ⟨Or.inr rfl, ⟨Or.inl rfl, trivial⟩⟩⟩⟩⟩⟩⟩⟩ ?_
        refine tl_M_liars_83 (dd := dd) hK hR (fun x_36 x_37 x_38 s_39 h => ?_) n _ _ _ _ h
        refine ro_aload_n hK dM_liars_168 rfl ?_
        refine ro_bipush (x := (-9)) hK (by decide) dM_liars_169 ?_
        obtain ⟨s_40, e_41, h⟩ := mb_bd_e h
        refine rb_put hK gM_43 mb_oM rfl (by show 22 < 45; decide) rfl rfl e_41 dM_liars_171 ?_
        refine ro_aload_n hK dM_liars_174 rfl ?_
        refine ro_iload hK dM_liars_175 rfl ?_
        refine ro_iload hK dM_liars_177 rfl ?_
        obtain ⟨r_44, s_42, q_43, h⟩ := mb_cl_e h
        refine rb_callV hK mM_ask vM_118 (t_M_ask (dd := dd + 4) q_43) rfl mb_oM rfl (Nat.le_of_ble_eq_true rfl) dM_liars_179 rfl ⟨Nat.le_refl _, Nat.le_refl _⟩ ?_
        show K 0 0 182 [.ref 200, .int x1, .retAddr 0, .int x_16, .int x_36, .int x_37, .int x_38, .retAddr 0] [.int r_44] (mb_s s_42)
        cases h
        exact hR.1 0 0 182 _ _ _ _ rfl rfl dM_liars_182 ⟨rfl, rfl⟩
      · replace h := mb_iff c_9 h
        refine ro_iload_n hK dM_liars_29 rfl ?_
        cases h
        exact hR.1 0 0 30 _ _ _ _ rfl rfl dM_liars_30 ⟨rfl, rfl⟩
    · replace h := mb_ift c_5 h
      refine ro_bipush (x := (-4)) hK (by decide) dM_liars_16 ?_
      cases h
      exact hR.1 0 0 18 _ _ _ _ rfl rfl dM_liars_18 ⟨rfl, rfl⟩
  · replace h := mb_ift c_4 h
    refine ro_iconst (x := (-1)) hK (by decide) dM_liars_7 ?_
    cases h
    exact hR.1 0 0 8 _ _ _ _ rfl rfl dM_liars_8 ⟨rfl, rfl⟩
theorem dM_often_0 : decode bM_often 0 = .ok (.aload_n 0, 1) := by decide +kernel
theorem dM_often_1 : decode bM_often 1 = .ok (.iload_n 1, 1) := by decide +kernel
theorem dM_often_2 : decode bM_often 2 = .ok (.invokevirtual 183, 3) := by decide +kernel
theorem dM_often_5 : decode bM_often 5 = .ok (.ifCond .eq 10, 3) := by decide +kernel
theorem dM_often_8 : decode bM_often 8 = .ok (.iload_n 2, 1) := by decide +kernel
theorem dM_often_9 : decode bM_often 9 = .ok (.invokestatic 247, 3) := by decide +kernel
theorem dM_often_12 : decode bM_often 12 = .ok (.ifCond .ne 5, 3) := by decide +kernel
theorem dM_often_15 : decode bM_often 15 = .ok (.iconst (-1), 1) := by decide +kernel
theorem dM_often_16 : decode bM_often 16 = .ok (.ireturn, 1) := by decide +kernel
theorem dM_often_17 : decode bM_often 17 = .ok (.aload_n 0, 1) := by decide +kernel
theorem dM_often_18 : decode bM_often 18 = .ok (.invokevirtual 222, 3) := by decide +kernel
theorem dM_often_21 : decode bM_often 21 = .ok (.aload_n 0, 1) := by decide +kernel
theorem dM_often_22 : decode bM_often 22 = .ok (.iload_n 2, 1) := by decide +kernel
theorem dM_often_23 : decode bM_often 23 = .ok (.iload_n 1, 1) := by decide +kernel
theorem dM_often_24 : decode bM_often 24 = .ok (.invokevirtual 250, 3) := by decide +kernel
theorem dM_often_27 : decode bM_often 27 = .ok (.aload_n 0, 1) := by decide +kernel
theorem dM_often_28 : decode bM_often 28 = .ok (.invokevirtual 228, 3) := by decide +kernel
theorem dM_often_31 : decode bM_often 31 = .ok (.aload_n 0, 1) := by decide +kernel
theorem dM_often_32 : decode bM_often 32 = .ok (.getfield 244, 3) := by decide +kernel
theorem dM_often_35 : decode bM_often 35 = .ok (.ireturn, 1) := by decide +kernel
def f_M_often (n : Nat) (x1 : Int32) (x2 : Int32) (s : mb_T) : Option (Int32 × mb_T) := mb_cl (f_M_isOne n x1 s) fun r_3 s_1 => if r_3 = 0 then some ((-1), s_1) else mb_cl (f_M_isSpan n x2 s_1) fun r_7 s_5 => if r_7 = 0 then some ((-1), s_5) else mb_cw (f_M_putAside n s_5) fun s_9 => mb_cw (f_M_pass n x2 x1 s_9) fun s_11 => mb_cw (f_M_comeBack n s_11) fun s_13 => some ((s_13.1 200 33), s_13)
set_option maxHeartbeats 4000000 in
set_option maxRecDepth 100000 in
theorem t_M_often {dd n : Nat} {x1 : Int32} {x2 : Int32} {s : mb_T} {out : Int32 × mb_T}  (h : f_M_often n x1 x2 s = some out) : mb_MC (dd + 6) yM_often bM_often 3 (some .int) [.ref 200, .int x1, .int x2] s (some (.int out.1)) out.2 := by
  unfold f_M_often at h
  refine mj_mc (lv := [.ref 200, .int x1, .int x2]) mM_often rfl rfl (Nat.le_of_ble_eq_true rfl) (fun K hK hR => ?_)
  have hK : mj_C (dd + 6) 0 0 RM_c "often" bM_often 3 K := hK
  refine ro_aload_n hK dM_often_0 rfl ?_
  refine ro_iload_n hK dM_often_1 rfl ?_
  obtain ⟨r_3, s_1, q_2, h⟩ := mb_cl_e h
  refine rb_callV hK mM_isOne vM_183 (t_M_isOne (dd := dd + 3) q_2) rfl mb_oM rfl (Nat.le_of_ble_eq_true rfl) dM_often_2 rfl ⟨Nat.le_refl _, Nat.le_refl _⟩ ?_
  show K 0 0 5 [.ref 200, .int x1, .int x2] [.int r_3] (mb_s s_1)
  refine ro_if_eq (tgt := 15) hK dM_often_5 (by decide) (fun c_4 => ?_) (fun c_4 => ?_)
  · replace h := mb_ift c_4 h
    refine ro_iconst (x := (-1)) hK (by decide) dM_often_15 ?_
    cases h
    exact hR.1 0 0 16 _ _ _ _ rfl rfl dM_often_16 ⟨rfl, rfl⟩
  · replace h := mb_iff c_4 h
    refine ro_iload_n hK dM_often_8 rfl ?_
    obtain ⟨r_7, s_5, q_6, h⟩ := mb_cl_e h
    refine rb_callS hK mM_isSpan vM_247 (t_M_isSpan (dd := dd + 3) q_6) rfl (Nat.le_of_ble_eq_true rfl) dM_often_9 rfl ⟨Nat.le_refl _, Nat.le_refl _⟩ ?_
    show K 0 0 12 [.ref 200, .int x1, .int x2] [.int r_7] (mb_s s_5)
    refine ro_if_ne (tgt := 17) hK dM_often_12 (by decide) (fun c_8 => ?_) (fun c_8 => ?_)
    · replace h := mb_iff c_8 h
      refine ro_aload_n hK dM_often_17 rfl ?_
      obtain ⟨s_9, q_10, h⟩ := mb_cw_e h
      refine rb_callV hK mM_putAside vM_222 (t_M_putAside (dd := dd + 4) q_10) rfl mb_oM rfl (Nat.le_of_ble_eq_true rfl) dM_often_18 rfl ⟨Nat.le_refl _, Nat.le_refl _⟩ ?_
      show K 0 0 21 [.ref 200, .int x1, .int x2] [] (mb_s s_9)
      refine ro_aload_n hK dM_often_21 rfl ?_
      refine ro_iload_n hK dM_often_22 rfl ?_
      refine ro_iload_n hK dM_often_23 rfl ?_
      obtain ⟨s_11, q_12, h⟩ := mb_cw_e h
      refine rb_callV hK mM_pass vM_250 (t_M_pass (dd := dd + 0) q_12) rfl mb_oM rfl (Nat.le_of_ble_eq_true rfl) dM_often_24 rfl ⟨Nat.le_refl _, Nat.le_refl _⟩ ?_
      show K 0 0 27 [.ref 200, .int x1, .int x2] [] (mb_s s_11)
      refine ro_aload_n hK dM_often_27 rfl ?_
      obtain ⟨s_13, q_14, h⟩ := mb_cw_e h
      refine rb_callV hK mM_comeBack vM_228 (t_M_comeBack (dd := dd + 4) q_14) rfl mb_oM rfl (Nat.le_of_ble_eq_true rfl) dM_often_28 rfl ⟨Nat.le_refl _, Nat.le_refl _⟩ ?_
      show K 0 0 31 [.ref 200, .int x1, .int x2] [] (mb_s s_13)
      refine ro_aload_n hK dM_often_31 rfl ?_
      refine rb_get hK fM_244 mb_oM rfl dM_often_32 ?_
      cases h
      exact hR.1 0 0 35 _ _ _ _ rfl rfl dM_often_35 ⟨rfl, rfl⟩
    · replace h := mb_ift c_8 h
      refine ro_iconst (x := (-1)) hK (by decide) dM_often_15 ?_
      cases h
      exact hR.1 0 0 16 _ _ _ _ rfl rfl dM_often_16 ⟨rfl, rfl⟩
theorem dM_worst_0 : decode bM_worst 0 = .ok (.iload_n 1, 1) := by decide +kernel
theorem dM_worst_1 : decode bM_worst 1 = .ok (.invokestatic 247, 3) := by decide +kernel
theorem dM_worst_4 : decode bM_worst 4 = .ok (.ifCond .ne 5, 3) := by decide +kernel
theorem dM_worst_7 : decode bM_worst 7 = .ok (.iconst (-1), 1) := by decide +kernel
theorem dM_worst_8 : decode bM_worst 8 = .ok (.ireturn, 1) := by decide +kernel
theorem dM_worst_9 : decode bM_worst 9 = .ok (.aload_n 0, 1) := by decide +kernel
theorem dM_worst_10 : decode bM_worst 10 = .ok (.getfield 161, 3) := by decide +kernel
theorem dM_worst_13 : decode bM_worst 13 = .ok (.ifCond .ne 6, 3) := by decide +kernel
theorem dM_worst_16 : decode bM_worst 16 = .ok (.bipush (-4), 2) := by decide +kernel
theorem dM_worst_18 : decode bM_worst 18 = .ok (.ireturn, 1) := by decide +kernel
theorem dM_worst_19 : decode bM_worst 19 = .ok (.aload_n 0, 1) := by decide +kernel
theorem dM_worst_20 : decode bM_worst 20 = .ok (.invokevirtual 222, 3) := by decide +kernel
theorem dM_worst_23 : decode bM_worst 23 = .ok (.aload_n 0, 1) := by decide +kernel
theorem dM_worst_24 : decode bM_worst 24 = .ok (.iload_n 1, 1) := by decide +kernel
theorem dM_worst_25 : decode bM_worst 25 = .ok (.bipush (-9), 2) := by decide +kernel
theorem dM_worst_27 : decode bM_worst 27 = .ok (.invokevirtual 250, 3) := by decide +kernel
theorem dM_worst_30 : decode bM_worst 30 = .ok (.aload_n 0, 1) := by decide +kernel
theorem dM_worst_31 : decode bM_worst 31 = .ok (.invokevirtual 254, 3) := by decide +kernel
theorem dM_worst_34 : decode bM_worst 34 = .ok (.istore_n 2, 1) := by decide +kernel
theorem dM_worst_35 : decode bM_worst 35 = .ok (.aload_n 0, 1) := by decide +kernel
theorem dM_worst_36 : decode bM_worst 36 = .ok (.getfield 31, 3) := by decide +kernel
theorem dM_worst_39 : decode bM_worst 39 = .ok (.iload_n 2, 1) := by decide +kernel
theorem dM_worst_40 : decode bM_worst 40 = .ok (.iaload, 1) := by decide +kernel
theorem dM_worst_41 : decode bM_worst 41 = .ok (.istore_n 3, 1) := by decide +kernel
theorem dM_worst_42 : decode bM_worst 42 = .ok (.aload_n 0, 1) := by decide +kernel
theorem dM_worst_43 : decode bM_worst 43 = .ok (.invokevirtual 228, 3) := by decide +kernel
theorem dM_worst_46 : decode bM_worst 46 = .ok (.aload_n 0, 1) := by decide +kernel
theorem dM_worst_47 : decode bM_worst 47 = .ok (.iload_n 2, 1) := by decide +kernel
theorem dM_worst_48 : decode bM_worst 48 = .ok (.iload_n 3, 1) := by decide +kernel
theorem dM_worst_49 : decode bM_worst 49 = .ok (.invokevirtual 118, 3) := by decide +kernel
theorem dM_worst_52 : decode bM_worst 52 = .ok (.ireturn, 1) := by decide +kernel
def f_M_worst (n : Nat) (x1 : Int32) (s : mb_T) : Option (Int32 × mb_T) := mb_cl (f_M_isSpan n x1 s) fun r_3 s_1 => if r_3 = 0 then some ((-1), s_1) else if (s_1.1 200 8) = 0 then some ((-4), s_1) else mb_cw (f_M_putAside n s_1) fun s_6 => mb_cw (f_M_pass n x1 (-9) s_6) fun s_8 => mb_cl (f_M_greatest n s_8) fun r_12 s_10 => mb_rd s_10 213 10 r_12 fun x_13 => mb_cw (f_M_comeBack n s_10) fun s_16 => mb_cl (f_M_ask n r_12 x_13 s_16) fun r_20 s_18 => some (r_20, s_18)
set_option maxHeartbeats 4000000 in
set_option maxRecDepth 100000 in
theorem t_M_worst {dd n : Nat} {x1 : Int32} {s : mb_T} {out : Int32 × mb_T}  (h : f_M_worst n x1 s = some out) : mb_MC (dd + 6) yM_worst bM_worst 4 (some .int) [.ref 200, .int x1] s (some (.int out.1)) out.2 := by
  unfold f_M_worst at h
  refine mj_mc (lv := [.ref 200, .int x1, .retAddr 0, .retAddr 0]) mM_worst rfl rfl (Nat.le_of_ble_eq_true rfl) (fun K hK hR => ?_)
  have hK : mj_C (dd + 6) 0 0 RM_c "worst" bM_worst 4 K := hK
  refine ro_iload_n hK dM_worst_0 rfl ?_
  obtain ⟨r_3, s_1, q_2, h⟩ := mb_cl_e h
  refine rb_callS hK mM_isSpan vM_247 (t_M_isSpan (dd := dd + 3) q_2) rfl (Nat.le_of_ble_eq_true rfl) dM_worst_1 rfl ⟨Nat.le_refl _, Nat.le_refl _⟩ ?_
  show K 0 0 4 [.ref 200, .int x1, .retAddr 0, .retAddr 0] [.int r_3] (mb_s s_1)
  refine ro_if_ne (tgt := 9) hK dM_worst_4 (by decide) (fun c_4 => ?_) (fun c_4 => ?_)
  · replace h := mb_iff c_4 h
    refine ro_aload_n hK dM_worst_9 rfl ?_
    refine rb_get hK fM_161 mb_oM rfl dM_worst_10 ?_
    refine ro_if_ne (tgt := 19) hK dM_worst_13 (by decide) (fun c_5 => ?_) (fun c_5 => ?_)
    · replace h := mb_iff c_5 h
      refine ro_aload_n hK dM_worst_19 rfl ?_
      obtain ⟨s_6, q_7, h⟩ := mb_cw_e h
      refine rb_callV hK mM_putAside vM_222 (t_M_putAside (dd := dd + 4) q_7) rfl mb_oM rfl (Nat.le_of_ble_eq_true rfl) dM_worst_20 rfl ⟨Nat.le_refl _, Nat.le_refl _⟩ ?_
      show K 0 0 23 [.ref 200, .int x1, .retAddr 0, .retAddr 0] [] (mb_s s_6)
      refine ro_aload_n hK dM_worst_23 rfl ?_
      refine ro_iload_n hK dM_worst_24 rfl ?_
      refine ro_bipush (x := (-9)) hK (by decide) dM_worst_25 ?_
      obtain ⟨s_8, q_9, h⟩ := mb_cw_e h
      refine rb_callV hK mM_pass vM_250 (t_M_pass (dd := dd + 0) q_9) rfl mb_oM rfl (Nat.le_of_ble_eq_true rfl) dM_worst_27 rfl ⟨Nat.le_refl _, Nat.le_refl _⟩ ?_
      show K 0 0 30 [.ref 200, .int x1, .retAddr 0, .retAddr 0] [] (mb_s s_8)
      refine ro_aload_n hK dM_worst_30 rfl ?_
      obtain ⟨r_12, s_10, q_11, h⟩ := mb_cl_e h
      refine rb_callV hK mM_greatest vM_254 (t_M_greatest (dd := dd + 4) q_11) rfl mb_oM rfl (Nat.le_of_ble_eq_true rfl) dM_worst_31 rfl ⟨Nat.le_refl _, Nat.le_refl _⟩ ?_
      show K 0 0 34 [.ref 200, .int x1, .retAddr 0, .retAddr 0] [.int r_12] (mb_s s_10)
      refine ro_istore_n hK dM_worst_34 (by decide) ?_
      show K 0 0 35 [.ref 200, .int x1, .int r_12, .retAddr 0] [] (mb_s s_10)
      refine ro_aload_n hK dM_worst_35 rfl ?_
      refine rb_get hK fM_31 mb_oM rfl dM_worst_36 ?_
      refine ro_iload_n hK dM_worst_39 rfl ?_
      obtain ⟨x_13, e_14, i_15, h⟩ := mb_rd_e h
      refine rb_iald hK ai_213 i_15 e_14 dM_worst_40 ?_
      refine ro_istore_n hK dM_worst_41 (by decide) ?_
      show K 0 0 42 [.ref 200, .int x1, .int r_12, .int x_13] [] (mb_s s_10)
      refine ro_aload_n hK dM_worst_42 rfl ?_
      obtain ⟨s_16, q_17, h⟩ := mb_cw_e h
      refine rb_callV hK mM_comeBack vM_228 (t_M_comeBack (dd := dd + 4) q_17) rfl mb_oM rfl (Nat.le_of_ble_eq_true rfl) dM_worst_43 rfl ⟨Nat.le_refl _, Nat.le_refl _⟩ ?_
      show K 0 0 46 [.ref 200, .int x1, .int r_12, .int x_13] [] (mb_s s_16)
      refine ro_aload_n hK dM_worst_46 rfl ?_
      refine ro_iload_n hK dM_worst_47 rfl ?_
      refine ro_iload_n hK dM_worst_48 rfl ?_
      obtain ⟨r_20, s_18, q_19, h⟩ := mb_cl_e h
      refine rb_callV hK mM_ask vM_118 (t_M_ask (dd := dd + 4) q_19) rfl mb_oM rfl (Nat.le_of_ble_eq_true rfl) dM_worst_49 rfl ⟨Nat.le_refl _, Nat.le_refl _⟩ ?_
      show K 0 0 52 [.ref 200, .int x1, .int r_12, .int x_13] [.int r_20] (mb_s s_18)
      cases h
      exact hR.1 0 0 52 _ _ _ _ rfl rfl dM_worst_52 ⟨rfl, rfl⟩
    · replace h := mb_ift c_5 h
      refine ro_bipush (x := (-4)) hK (by decide) dM_worst_16 ?_
      cases h
      exact hR.1 0 0 18 _ _ _ _ rfl rfl dM_worst_18 ⟨rfl, rfl⟩
  · replace h := mb_ift c_4 h
    refine ro_iconst (x := (-1)) hK (by decide) dM_worst_7 ?_
    cases h
    exact hR.1 0 0 8 _ _ _ _ rfl rfl dM_worst_8 ⟨rfl, rfl⟩
theorem dC_best_0 : decode bC_best 0 = .ok (.aload_n 0, 1) := by decide +kernel
theorem dC_best_1 : decode bC_best 1 = .ok (.getfield 29, 3) := by decide +kernel
theorem dC_best_4 : decode bC_best 4 = .ok (.getfield 128, 3) := by decide +kernel
theorem dC_best_7 : decode bC_best 7 = .ok (.ifCond .ne 6, 3) := by decide +kernel
theorem dC_best_10 : decode bC_best 10 = .ok (.bipush (-4), 2) := by decide +kernel
theorem dC_best_12 : decode bC_best 12 = .ok (.ireturn, 1) := by decide +kernel
theorem dC_best_13 : decode bC_best 13 = .ok (.iconst 0, 1) := by decide +kernel
theorem dC_best_14 : decode bC_best 14 = .ok (.istore_n 1, 1) := by decide +kernel
theorem dC_best_15 : decode bC_best 15 = .ok (.iconst 0, 1) := by decide +kernel
theorem dC_best_16 : decode bC_best 16 = .ok (.istore_n 2, 1) := by decide +kernel
theorem dC_best_17 : decode bC_best 17 = .ok (.iconst 0, 1) := by decide +kernel
theorem dC_best_18 : decode bC_best 18 = .ok (.istore_n 3, 1) := by decide +kernel
theorem dC_best_19 : decode bC_best 19 = .ok (.iload_n 3, 1) := by decide +kernel
theorem dC_best_20 : decode bC_best 20 = .ok (.iconst 4, 1) := by decide +kernel
theorem dC_best_21 : decode bC_best 21 = .ok (.if_icmp .ge 50, 3) := by decide +kernel
theorem dC_best_24 : decode bC_best 24 = .ok (.aload_n 0, 1) := by decide +kernel
theorem dC_best_25 : decode bC_best 25 = .ok (.getfield 50, 3) := by decide +kernel
theorem dC_best_28 : decode bC_best 28 = .ok (.aload_n 0, 1) := by decide +kernel
theorem dC_best_29 : decode bC_best 29 = .ok (.getfield 29, 3) := by decide +kernel
theorem dC_best_32 : decode bC_best 32 = .ok (.invokevirtual 144, 3) := by decide +kernel
theorem dC_best_35 : decode bC_best 35 = .ok (.aload_n 0, 1) := by decide +kernel
theorem dC_best_36 : decode bC_best 36 = .ok (.getfield 50, 3) := by decide +kernel
theorem dC_best_39 : decode bC_best 39 = .ok (.iload_n 3, 1) := by decide +kernel
theorem dC_best_40 : decode bC_best 40 = .ok (.bipush 100, 2) := by decide +kernel
theorem dC_best_42 : decode bC_best 42 = .ok (.invokevirtual 225, 3) := by decide +kernel
theorem dC_best_45 : decode bC_best 45 = .ok (.istore 4, 2) := by decide +kernel
theorem dC_best_47 : decode bC_best 47 = .ok (.iload_n 3, 1) := by decide +kernel
theorem dC_best_48 : decode bC_best 48 = .ok (.ifCond .eq 12, 3) := by decide +kernel
theorem dC_best_51 : decode bC_best 51 = .ok (.iload 4, 2) := by decide +kernel
theorem dC_best_53 : decode bC_best 53 = .ok (.iload_n 2, 1) := by decide +kernel
theorem dC_best_54 : decode bC_best 54 = .ok (.invokestatic 228, 3) := by decide +kernel
theorem dC_best_57 : decode bC_best 57 = .ok (.ifCond .eq 8, 3) := by decide +kernel
theorem dC_best_60 : decode bC_best 60 = .ok (.iload_n 3, 1) := by decide +kernel
theorem dC_best_61 : decode bC_best 61 = .ok (.istore_n 1, 1) := by decide +kernel
theorem dC_best_62 : decode bC_best 62 = .ok (.iload 4, 2) := by decide +kernel
theorem dC_best_64 : decode bC_best 64 = .ok (.istore_n 2, 1) := by decide +kernel
theorem dC_best_65 : decode bC_best 65 = .ok (.iinc 3 1, 3) := by decide +kernel
theorem dC_best_68 : decode bC_best 68 = .ok (.goto (-49), 3) := by decide +kernel
theorem dC_best_71 : decode bC_best 71 = .ok (.aload_n 0, 1) := by decide +kernel
theorem dC_best_72 : decode bC_best 72 = .ok (.iload_n 2, 1) := by decide +kernel
theorem dC_best_73 : decode bC_best 73 = .ok (.putfield 74, 3) := by decide +kernel
theorem dC_best_76 : decode bC_best 76 = .ok (.iload_n 1, 1) := by decide +kernel
theorem dC_best_77 : decode bC_best 77 = .ok (.ireturn, 1) := by decide +kernel
def f_C_best_19 (n : Nat) (k0 : Int32 → Int32 → Int32 → mb_T → Option (Int32 × mb_T))  : Nat → Int32 → Int32 → Int32 → mb_T → Option (Int32 × mb_T)
  | 0, _, _, _, _ => none
  | f + 1, w1, w2, w3, s => if 4 ≤ w3 then k0 w1 w2 w3 s else mb_cw (f_A_begin n 100 s) fun s_3 => mb_cl (f_A_howLong n w3 100 s_3) fun r_7 s_5 => mb_jn (fun (s_14 : mb_T) => f_C_best_19 n k0 f w3 r_7 (w3 + 1) s_14) fun j_8 => if w3 = 0 then j_8 s_5 else mb_cl (f_C_isLonger n r_7 w2 s_5) fun r_12 s_10 => if r_12 = 0 then f_C_best_19 n k0 f w1 w2 (w3 + 1) s_10 else j_8 s_10
def f_C_best (n : Nat)  (s : mb_T) : Option (Int32 × mb_T) := if (s.1 100 0) = 0 then some ((-4), s) else f_C_best_19 n (fun x_16 x_17 x_18 s_19 => mb_bd (sF s_19 0 14 x_17) fun s_20 => some (x_16, s_20)) n 0 0 0 s
set_option maxHeartbeats 4000000 in
set_option maxRecDepth 100000 in
theorem tl_C_best_19 {dd n : Nat} {K : mj_KT} {out : Int32 × mb_T} (hK : mj_C (dd + 7) 0 0 RC_c "best" bC_best 5 K) (hR : mj_R bC_best (some .int) (fun r2 S2 => r2 = some (.int out.1) ∧ S2 = mb_s out.2) K) {k0 : Int32 → Int32 → Int32 → mb_T → Option (Int32 × mb_T)}  (hk0 : ∀ (w1 : Int32) (w2 : Int32) (w3 : Int32) (s : mb_T), k0 w1 w2 w3 s = some out → K 0 0 71 [.ref 0, .int w1, .int w2, .int w3, .retAddr 0] [] (mb_s s)) : ∀ (f : Nat) (w1 : Int32) (w2 : Int32) (w3 : Int32) (s : mb_T), f_C_best_19 n k0 f w1 w2 w3 s = some out → K 0 0 19 [.ref 0, .int w1, .int w2, .int w3, .retAddr 0] [] (mb_s s) := by
  intro f
  induction f with
  | zero =>
    intro w1 w2 w3 s h
    cases h
  | succ f ih =>
    intro w1 w2 w3 s h
    rw [f_C_best_19] at h
    refine ro_iload_n hK dC_best_19 rfl ?_
    refine ro_iconst (x := 4) hK (by decide) dC_best_20 ?_
    refine ro_icmp_ge (tgt := 71) hK dC_best_21 (by decide) (fun c_2 => ?_) (fun c_2 => ?_)
    · replace h := mb_ift c_2 h
      refine ro_fg (lv' := [.ref 0, .int w1, .int w2, .int w3, .retAddr 0]) hK ⟨Or.inr rfl, ⟨Or.inr rfl, ⟨Or.inr rfl, ⟨Or.inr rfl, ⟨Or.inl rfl, trivial⟩⟩⟩⟩⟩ ?_
      exact hk0 _ _ _ _ h
    · replace h := mb_iff c_2 h
      refine ro_aload_n hK dC_best_24 rfl ?_
      refine rb_get hK fC_50 mb_oC rfl dC_best_25 ?_
      refine ro_aload_n hK dC_best_28 rfl ?_
      refine rb_get hK fC_29 mb_oC rfl dC_best_29 ?_
      obtain ⟨s_3, q_4, h⟩ := mb_cw_e h
      refine rb_callV hK mA_begin vC_144 (t_A_begin (dd := dd + 3) (Or.inl rfl) q_4) rfl mb_oA rfl (Nat.le_of_ble_eq_true rfl) dC_best_32 rfl ⟨Nat.le_refl _, Nat.le_refl _⟩ ?_
      show K 0 0 35 [.ref 0, .int w1, .int w2, .int w3, .retAddr 0] [] (mb_s s_3)
      refine ro_aload_n hK dC_best_35 rfl ?_
      refine rb_get hK fC_50 mb_oC rfl dC_best_36 ?_
      refine ro_iload_n hK dC_best_39 rfl ?_
      refine ro_bipush (x := 100) hK (by decide) dC_best_40 ?_
      obtain ⟨r_7, s_5, q_6, h⟩ := mb_cl_e h
      refine rb_callV hK mA_howLong vC_225 (t_A_howLong (dd := dd + 0) q_6) rfl mb_oA rfl (Nat.le_of_ble_eq_true rfl) dC_best_42 rfl ⟨Nat.le_refl _, Nat.le_refl _⟩ ?_
      show K 0 0 45 [.ref 0, .int w1, .int w2, .int w3, .retAddr 0] [.int r_7] (mb_s s_5)
      refine ro_istore hK dC_best_45 (by decide) ?_
      show K 0 0 47 [.ref 0, .int w1, .int w2, .int w3, .int r_7] [] (mb_s s_5)
      refine ro_iload_n hK dC_best_47 rfl ?_
      obtain ⟨j_8, e_15, h⟩ := mb_jn_e h
      have hj_8 : ∀ (s_14 : mb_T), j_8 s_14 = some out → K 0 0 60 [.ref 0, .int w1, .int w2, .int w3, .int r_7] [] (mb_s s_14) := by
        intro s_14 h
        rw [e_15] at h
        refine ro_iload_n hK dC_best_60 rfl ?_
        refine ro_istore_n hK dC_best_61 (by decide) ?_
        show K 0 0 62 [.ref 0, .int w3, .int w2, .int w3, .int r_7] [] (mb_s s_14)
        refine ro_iload hK dC_best_62 rfl ?_
        refine ro_istore_n hK dC_best_64 (by decide) ?_
        show K 0 0 65 [.ref 0, .int w3, .int r_7, .int w3, .int r_7] [] (mb_s s_14)
        refine ro_iincv (c := 1) hK (by decide) dC_best_65 rfl (by decide) ?_
        show K 0 0 68 [.ref 0, .int w3, .int r_7, .int (w3 + 1), .int r_7] [] (mb_s s_14)
        refine ro_goto (tgt := 19) hK dC_best_68 (by decide) ?_
        refine ro_fg (lv' := [.ref 0, .int w3, .int r_7, .int (w3 + 1), .retAddr 0]) hK ⟨Or.inr rfl, ⟨Or.inr rfl, ⟨Or.inr rfl, ⟨Or.inr rfl, ⟨Or.inl rfl, trivial⟩⟩⟩⟩⟩ ?_
        exact ih _ _ _ _ h
      refine ro_if_eq (tgt := 60) hK dC_best_48 (by decide) (fun c_9 => ?_) (fun c_9 => ?_)
      · replace h := mb_ift c_9 h
        refine ro_fg (lv' := [.ref 0, .int w1, .int w2, .int w3, .int r_7]) hK ⟨Or.inr rfl, ⟨Or.inr rfl, ⟨Or.inr rfl, ⟨Or.inr rfl, ⟨Or.inr rfl, trivial⟩⟩⟩⟩⟩ ?_
        exact hj_8 _ h
      · replace h := mb_iff c_9 h
        refine ro_iload hK dC_best_51 rfl ?_
        refine ro_iload_n hK dC_best_53 rfl ?_
        obtain ⟨r_12, s_10, q_11, h⟩ := mb_cl_e h
        refine rb_callS hK mC_isLonger vC_228 (t_C_isLonger (dd := dd + 5) q_11) rfl (Nat.le_of_ble_eq_true rfl) dC_best_54 rfl ⟨Nat.le_refl _, Nat.le_refl _⟩ ?_
        show K 0 0 57 [.ref 0, .int w1, .int w2, .int w3, .int r_7] [.int r_12] (mb_s s_10)
        refine ro_if_eq (tgt := 65) hK dC_best_57 (by decide) (fun c_13 => ?_) (fun c_13 => ?_)
        · replace h := mb_ift c_13 h
          refine ro_iincv (c := 1) hK (by decide) dC_best_65 rfl (by decide) ?_
          show K 0 0 68 [.ref 0, .int w1, .int w2, .int (w3 + 1), .int r_7] [] (mb_s s_10)
          refine ro_goto (tgt := 19) hK dC_best_68 (by decide) ?_
          refine ro_fg (lv' := [.ref 0, .int w1, .int w2, .int (w3 + 1), .retAddr 0]) hK ⟨Or.inr rfl, ⟨Or.inr rfl, ⟨Or.inr rfl, ⟨Or.inr rfl, ⟨Or.inl rfl, trivial⟩⟩⟩⟩⟩ ?_
          exact ih _ _ _ _ h
        · replace h := mb_iff c_13 h
          refine ro_fg (lv' := [.ref 0, .int w1, .int w2, .int w3, .int r_7]) hK ⟨Or.inr rfl, ⟨Or.inr rfl, ⟨Or.inr rfl, ⟨Or.inr rfl, ⟨Or.inr rfl, trivial⟩⟩⟩⟩⟩ ?_
          exact hj_8 _ h
set_option maxHeartbeats 4000000 in
set_option maxRecDepth 100000 in
theorem t_C_best {dd n : Nat}  {s : mb_T} {out : Int32 × mb_T}  (h : f_C_best n  s = some out) : mb_MC (dd + 7) yC_best bC_best 5 (some .int) [.ref 0] s (some (.int out.1)) out.2 := by
  unfold f_C_best at h
  refine mj_mc (lv := [.ref 0, .retAddr 0, .retAddr 0, .retAddr 0, .retAddr 0]) mC_best rfl rfl (Nat.le_of_ble_eq_true rfl) (fun K hK hR => ?_)
  have hK : mj_C (dd + 7) 0 0 RC_c "best" bC_best 5 K := hK
  refine ro_aload_n hK dC_best_0 rfl ?_
  refine rb_get hK fC_29 mb_oC rfl dC_best_1 ?_
  refine rb_get hK fC_128 (mb_cvo (Or.inl rfl)) rfl dC_best_4 ?_
  refine ro_if_ne (tgt := 13) hK dC_best_7 (by decide) (fun c_1 => ?_) (fun c_1 => ?_)
  · replace h := mb_iff c_1 h
    refine ro_iconst (x := 0) hK (by decide) dC_best_13 ?_
    refine ro_istore_n hK dC_best_14 (by decide) ?_
    show K 0 0 15 [.ref 0, .int 0, .retAddr 0, .retAddr 0, .retAddr 0] [] (mb_s s)
    refine ro_iconst (x := 0) hK (by decide) dC_best_15 ?_
    refine ro_istore_n hK dC_best_16 (by decide) ?_
    show K 0 0 17 [.ref 0, .int 0, .int 0, .retAddr 0, .retAddr 0] [] (mb_s s)
    refine ro_iconst (x := 0) hK (by decide) dC_best_17 ?_
    refine ro_istore_n hK dC_best_18 (by decide) ?_
    show K 0 0 19 [.ref 0, .int 0, .int 0, .int 0, .retAddr 0] [] (mb_s s)
    refine ro_fg (lv' := [.ref 0, .int 0, .int 0, .int 0, .retAddr 0]) hK ⟨Or.inr rfl, ⟨Or.inr rfl, ⟨Or.inr rfl, ⟨Or.inr rfl, ⟨Or.inl rfl, trivial⟩⟩⟩⟩⟩ ?_
    refine tl_C_best_19 (dd := dd) hK hR (fun x_16 x_17 x_18 s_19 h => ?_) n _ _ _ _ h
    refine ro_aload_n hK dC_best_71 rfl ?_
    refine ro_iload_n hK dC_best_72 rfl ?_
    obtain ⟨s_20, e_21, h⟩ := mb_bd_e h
    refine rb_put hK gC_74 mb_oC rfl (by show 14 < 15; decide) rfl rfl e_21 dC_best_73 ?_
    refine ro_iload_n hK dC_best_76 rfl ?_
    cases h
    exact hR.1 0 0 77 _ _ _ _ rfl rfl dC_best_77 ⟨rfl, rfl⟩
  · replace h := mb_ift c_1 h
    refine ro_bipush (x := (-4)) hK (by decide) dC_best_10 ?_
    cases h
    exact hR.1 0 0 12 _ _ _ _ rfl rfl dC_best_12 ⟨rfl, rfl⟩
theorem dC_fears_0 : decode bC_fears 0 = .ok (.aload_n 0, 1) := by decide +kernel
theorem dC_fears_1 : decode bC_fears 1 = .ok (.iload_n 1, 1) := by decide +kernel
theorem dC_fears_2 : decode bC_fears 2 = .ok (.iload_n 2, 1) := by decide +kernel
theorem dC_fears_3 : decode bC_fears 3 = .ok (.aload_n 0, 1) := by decide +kernel
theorem dC_fears_4 : decode bC_fears 4 = .ok (.getfield 50, 3) := by decide +kernel
theorem dC_fears_7 : decode bC_fears 7 = .ok (.getfield 306, 3) := by decide +kernel
theorem dC_fears_10 : decode bC_fears 10 = .ok (.invokevirtual 302, 3) := by decide +kernel
theorem dC_fears_13 : decode bC_fears 13 = .ok (.ireturn, 1) := by decide +kernel
def f_C_fears (n : Nat) (x1 : Int32) (x2 : Int32) (s : mb_T) : Option (Int32 × mb_T) := mb_cl (f_C_figuresThatFit n x1 x2 48 5 s) fun r_3 s_1 => some (r_3, s_1)
set_option maxHeartbeats 4000000 in
set_option maxRecDepth 100000 in
theorem t_C_fears {dd n : Nat} {x1 : Int32} {x2 : Int32} {s : mb_T} {out : Int32 × mb_T}  (h : f_C_fears n x1 x2 s = some out) : mb_MC (dd + 7) yC_fears bC_fears 3 (some .int) [.ref 0, .int x1, .int x2] s (some (.int out.1)) out.2 := by
  unfold f_C_fears at h
  refine mj_mc (lv := [.ref 0, .int x1, .int x2]) mC_fears rfl rfl (Nat.le_of_ble_eq_true rfl) (fun K hK hR => ?_)
  have hK : mj_C (dd + 7) 0 0 RC_c "fears" bC_fears 3 K := hK
  refine ro_aload_n hK dC_fears_0 rfl ?_
  refine ro_iload_n hK dC_fears_1 rfl ?_
  refine ro_iload_n hK dC_fears_2 rfl ?_
  refine ro_aload_n hK dC_fears_3 rfl ?_
  refine rb_get hK fC_50 mb_oC rfl dC_fears_4 ?_
  refine rb_get hK fC_306 mb_oA rfl dC_fears_7 ?_
  obtain ⟨r_3, s_1, q_2, h⟩ := mb_cl_e h
  refine rb_callV hK mC_figuresThatFit vC_302 (t_C_figuresThatFit (dd := dd + 0) ai_48 q_2) rfl mb_oC rfl (Nat.le_of_ble_eq_true rfl) dC_fears_10 rfl ⟨Nat.le_refl _, Nat.le_refl _⟩ ?_
  show K 0 0 13 [.ref 0, .int x1, .int x2] [.int r_3] (mb_s s_1)
  cases h
  exact hR.1 0 0 13 _ _ _ _ rfl rfl dC_fears_13 ⟨rfl, rfl⟩
theorem dC_grows_0 : decode bC_grows 0 = .ok (.aload_n 0, 1) := by decide +kernel
theorem dC_grows_1 : decode bC_grows 1 = .ok (.iload_n 1, 1) := by decide +kernel
theorem dC_grows_2 : decode bC_grows 2 = .ok (.iload_n 2, 1) := by decide +kernel
theorem dC_grows_3 : decode bC_grows 3 = .ok (.aload_n 0, 1) := by decide +kernel
theorem dC_grows_4 : decode bC_grows 4 = .ok (.getfield 50, 3) := by decide +kernel
theorem dC_grows_7 : decode bC_grows 7 = .ok (.getfield 299, 3) := by decide +kernel
theorem dC_grows_10 : decode bC_grows 10 = .ok (.invokevirtual 302, 3) := by decide +kernel
theorem dC_grows_13 : decode bC_grows 13 = .ok (.ireturn, 1) := by decide +kernel
def f_C_grows (n : Nat) (x1 : Int32) (x2 : Int32) (s : mb_T) : Option (Int32 × mb_T) := mb_cl (f_C_figuresThatFit n x1 x2 50 5 s) fun r_3 s_1 => some (r_3, s_1)
set_option maxHeartbeats 4000000 in
set_option maxRecDepth 100000 in
theorem t_C_grows {dd n : Nat} {x1 : Int32} {x2 : Int32} {s : mb_T} {out : Int32 × mb_T}  (h : f_C_grows n x1 x2 s = some out) : mb_MC (dd + 7) yC_grows bC_grows 3 (some .int) [.ref 0, .int x1, .int x2] s (some (.int out.1)) out.2 := by
  unfold f_C_grows at h
  refine mj_mc (lv := [.ref 0, .int x1, .int x2]) mC_grows rfl rfl (Nat.le_of_ble_eq_true rfl) (fun K hK hR => ?_)
  have hK : mj_C (dd + 7) 0 0 RC_c "grows" bC_grows 3 K := hK
  refine ro_aload_n hK dC_grows_0 rfl ?_
  refine ro_iload_n hK dC_grows_1 rfl ?_
  refine ro_iload_n hK dC_grows_2 rfl ?_
  refine ro_aload_n hK dC_grows_3 rfl ?_
  refine rb_get hK fC_50 mb_oC rfl dC_grows_4 ?_
  refine rb_get hK fC_299 mb_oA rfl dC_grows_7 ?_
  obtain ⟨r_3, s_1, q_2, h⟩ := mb_cl_e h
  refine rb_callV hK mC_figuresThatFit vC_302 (t_C_figuresThatFit (dd := dd + 0) ai_50 q_2) rfl mb_oC rfl (Nat.le_of_ble_eq_true rfl) dC_grows_10 rfl ⟨Nat.le_refl _, Nat.le_refl _⟩ ?_
  show K 0 0 13 [.ref 0, .int x1, .int x2] [.int r_3] (mb_s s_1)
  cases h
  exact hR.1 0 0 13 _ _ _ _ rfl rfl dC_grows_13 ⟨rfl, rfl⟩
theorem dC_holdingAsSeated_0 : decode bC_holdingAsSeated 0 = .ok (.aload_n 0, 1) := by decide +kernel
theorem dC_holdingAsSeated_1 : decode bC_holdingAsSeated 1 = .ok (.getfield 50, 3) := by decide +kernel
theorem dC_holdingAsSeated_4 : decode bC_holdingAsSeated 4 = .ok (.aload_n 0, 1) := by decide +kernel
theorem dC_holdingAsSeated_5 : decode bC_holdingAsSeated 5 = .ok (.getfield 29, 3) := by decide +kernel
theorem dC_holdingAsSeated_8 : decode bC_holdingAsSeated 8 = .ok (.invokevirtual 144, 3) := by decide +kernel
theorem dC_holdingAsSeated_11 : decode bC_holdingAsSeated 11 = .ok (.aload_n 0, 1) := by decide +kernel
theorem dC_holdingAsSeated_12 : decode bC_holdingAsSeated 12 = .ok (.getfield 50, 3) := by decide +kernel
theorem dC_holdingAsSeated_15 : decode bC_holdingAsSeated 15 = .ok (.aload_n 0, 1) := by decide +kernel
theorem dC_holdingAsSeated_16 : decode bC_holdingAsSeated 16 = .ok (.getfield 61, 3) := by decide +kernel
theorem dC_holdingAsSeated_19 : decode bC_holdingAsSeated 19 = .ok (.invokevirtual 368, 3) := by decide +kernel
theorem dC_holdingAsSeated_22 : decode bC_holdingAsSeated 22 = .ok (.aload_n 0, 1) := by decide +kernel
theorem dC_holdingAsSeated_23 : decode bC_holdingAsSeated 23 = .ok (.getfield 50, 3) := by decide +kernel
theorem dC_holdingAsSeated_26 : decode bC_holdingAsSeated 26 = .ok (.aload_n 0, 1) := by decide +kernel
theorem dC_holdingAsSeated_27 : decode bC_holdingAsSeated 27 = .ok (.getfield 29, 3) := by decide +kernel
theorem dC_holdingAsSeated_30 : decode bC_holdingAsSeated 30 = .ok (.getfield 171, 3) := by decide +kernel
theorem dC_holdingAsSeated_33 : decode bC_holdingAsSeated 33 = .ok (.bipush 100, 2) := by decide +kernel
theorem dC_holdingAsSeated_35 : decode bC_holdingAsSeated 35 = .ok (.invokevirtual 225, 3) := by decide +kernel
theorem dC_holdingAsSeated_38 : decode bC_holdingAsSeated 38 = .ok (.ireturn, 1) := by decide +kernel
def f_C_holdingAsSeated (n : Nat)  (s : mb_T) : Option (Int32 × mb_T) := mb_cw (f_A_begin n 100 s) fun s_1 => mb_cw (f_A_sit n 10 5 s_1) fun s_3 => mb_cl (f_A_howLong n (s_3.1 100 2) 100 s_3) fun r_7 s_5 => some (r_7, s_5)
set_option maxHeartbeats 4000000 in
set_option maxRecDepth 100000 in
theorem t_C_holdingAsSeated {dd n : Nat}  {s : mb_T} {out : Int32 × mb_T}  (h : f_C_holdingAsSeated n  s = some out) : mb_MC (dd + 7) yC_holdingAsSeated bC_holdingAsSeated 1 (some .int) [.ref 0] s (some (.int out.1)) out.2 := by
  unfold f_C_holdingAsSeated at h
  refine mj_mc (lv := [.ref 0]) mC_holdingAsSeated rfl rfl (Nat.le_of_ble_eq_true rfl) (fun K hK hR => ?_)
  have hK : mj_C (dd + 7) 0 0 RC_c "holdingAsSeated" bC_holdingAsSeated 1 K := hK
  refine ro_aload_n hK dC_holdingAsSeated_0 rfl ?_
  refine rb_get hK fC_50 mb_oC rfl dC_holdingAsSeated_1 ?_
  refine ro_aload_n hK dC_holdingAsSeated_4 rfl ?_
  refine rb_get hK fC_29 mb_oC rfl dC_holdingAsSeated_5 ?_
  obtain ⟨s_1, q_2, h⟩ := mb_cw_e h
  refine rb_callV hK mA_begin vC_144 (t_A_begin (dd := dd + 3) (Or.inl rfl) q_2) rfl mb_oA rfl (Nat.le_of_ble_eq_true rfl) dC_holdingAsSeated_8 rfl ⟨Nat.le_refl _, Nat.le_refl _⟩ ?_
  show K 0 0 11 [.ref 0] [] (mb_s s_1)
  refine ro_aload_n hK dC_holdingAsSeated_11 rfl ?_
  refine rb_get hK fC_50 mb_oC rfl dC_holdingAsSeated_12 ?_
  refine ro_aload_n hK dC_holdingAsSeated_15 rfl ?_
  refine rb_get hK fC_61 mb_oC rfl dC_holdingAsSeated_16 ?_
  obtain ⟨s_3, q_4, h⟩ := mb_cw_e h
  refine rb_callV hK mA_sit vC_368 (t_A_sit (dd := dd + 3) ai_10 q_4) rfl mb_oA rfl (Nat.le_of_ble_eq_true rfl) dC_holdingAsSeated_19 rfl ⟨Nat.le_refl _, Nat.le_refl _⟩ ?_
  show K 0 0 22 [.ref 0] [] (mb_s s_3)
  refine ro_aload_n hK dC_holdingAsSeated_22 rfl ?_
  refine rb_get hK fC_50 mb_oC rfl dC_holdingAsSeated_23 ?_
  refine ro_aload_n hK dC_holdingAsSeated_26 rfl ?_
  refine rb_get hK fC_29 mb_oC rfl dC_holdingAsSeated_27 ?_
  refine rb_get hK fC_171 (mb_cvo (Or.inl rfl)) rfl dC_holdingAsSeated_30 ?_
  refine ro_bipush (x := 100) hK (by decide) dC_holdingAsSeated_33 ?_
  obtain ⟨r_7, s_5, q_6, h⟩ := mb_cl_e h
  refine rb_callV hK mA_howLong vC_225 (t_A_howLong (dd := dd + 0) q_6) rfl mb_oA rfl (Nat.le_of_ble_eq_true rfl) dC_holdingAsSeated_35 rfl ⟨Nat.le_refl _, Nat.le_refl _⟩ ?_
  show K 0 0 38 [.ref 0] [.int r_7] (mb_s s_5)
  cases h
  exact hR.1 0 0 38 _ _ _ _ rfl rfl dC_holdingAsSeated_38 ⟨rfl, rfl⟩
