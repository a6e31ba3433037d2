theorem dM_putDepth_0 : decode bM_putDepth 0 = .ok (.iconst 0, 1) := by decide +kernel
theorem dM_putDepth_1 : decode bM_putDepth 1 = .ok (.istore_n 2, 1) := by decide +kernel
theorem dM_putDepth_2 : decode bM_putDepth 2 = .ok (.iload_n 2, 1) := by decide +kernel
theorem dM_putDepth_3 : decode bM_putDepth 3 = .ok (.iconst 5, 1) := by decide +kernel
theorem dM_putDepth_4 : decode bM_putDepth 4 = .ok (.if_icmp .ge 26, 3) := by decide +kernel
theorem dM_putDepth_7 : decode bM_putDepth 7 = .ok (.aload_n 0, 1) := by decide +kernel
theorem dM_putDepth_8 : decode bM_putDepth 8 = .ok (.getfield 71, 3) := by decide +kernel
theorem dM_putDepth_11 : decode bM_putDepth 11 = .ok (.bipush 8, 2) := by decide +kernel
theorem dM_putDepth_13 : decode bM_putDepth 13 = .ok (.iload_n 1, 1) := by decide +kernel
theorem dM_putDepth_14 : decode bM_putDepth 14 = .ok (.imul, 1) := by decide +kernel
theorem dM_putDepth_15 : decode bM_putDepth 15 = .ok (.iload_n 2, 1) := by decide +kernel
theorem dM_putDepth_16 : decode bM_putDepth 16 = .ok (.iadd, 1) := by decide +kernel
theorem dM_putDepth_17 : decode bM_putDepth 17 = .ok (.aload_n 0, 1) := by decide +kernel
theorem dM_putDepth_18 : decode bM_putDepth 18 = .ok (.getfield 31, 3) := by decide +kernel
theorem dM_putDepth_21 : decode bM_putDepth 21 = .ok (.iload_n 2, 1) := by decide +kernel
theorem dM_putDepth_22 : decode bM_putDepth 22 = .ok (.iaload, 1) := by decide +kernel
theorem dM_putDepth_23 : decode bM_putDepth 23 = .ok (.iastore, 1) := by decide +kernel
theorem dM_putDepth_24 : decode bM_putDepth 24 = .ok (.iinc 2 1, 3) := by decide +kernel
theorem dM_putDepth_27 : decode bM_putDepth 27 = .ok (.goto (-25), 3) := by decide +kernel
theorem dM_putDepth_30 : decode bM_putDepth 30 = .ok (.aload_n 0, 1) := by decide +kernel
theorem dM_putDepth_31 : decode bM_putDepth 31 = .ok (.getfield 71, 3) := by decide +kernel
theorem dM_putDepth_34 : decode bM_putDepth 34 = .ok (.bipush 8, 2) := by decide +kernel
theorem dM_putDepth_36 : decode bM_putDepth 36 = .ok (.iload_n 1, 1) := by decide +kernel
theorem dM_putDepth_37 : decode bM_putDepth 37 = .ok (.imul, 1) := by decide +kernel
theorem dM_putDepth_38 : decode bM_putDepth 38 = .ok (.iconst 5, 1) := by decide +kernel
theorem dM_putDepth_39 : decode bM_putDepth 39 = .ok (.iadd, 1) := by decide +kernel
theorem dM_putDepth_40 : decode bM_putDepth 40 = .ok (.aload_n 0, 1) := by decide +kernel
theorem dM_putDepth_41 : decode bM_putDepth 41 = .ok (.getfield 170, 3) := by decide +kernel
theorem dM_putDepth_44 : decode bM_putDepth 44 = .ok (.iastore, 1) := by decide +kernel
theorem dM_putDepth_45 : decode bM_putDepth 45 = .ok (.aload_n 0, 1) := by decide +kernel
theorem dM_putDepth_46 : decode bM_putDepth 46 = .ok (.getfield 71, 3) := by decide +kernel
theorem dM_putDepth_49 : decode bM_putDepth 49 = .ok (.bipush 8, 2) := by decide +kernel
theorem dM_putDepth_51 : decode bM_putDepth 51 = .ok (.iload_n 1, 1) := by decide +kernel
theorem dM_putDepth_52 : decode bM_putDepth 52 = .ok (.imul, 1) := by decide +kernel
theorem dM_putDepth_53 : decode bM_putDepth 53 = .ok (.bipush 6, 2) := by decide +kernel
theorem dM_putDepth_55 : decode bM_putDepth 55 = .ok (.iadd, 1) := by decide +kernel
theorem dM_putDepth_56 : decode bM_putDepth 56 = .ok (.aload_n 0, 1) := by decide +kernel
theorem dM_putDepth_57 : decode bM_putDepth 57 = .ok (.getfield 50, 3) := by decide +kernel
theorem dM_putDepth_60 : decode bM_putDepth 60 = .ok (.iastore, 1) := by decide +kernel
theorem dM_putDepth_61 : decode bM_putDepth 61 = .ok (.aload_n 0, 1) := by decide +kernel
theorem dM_putDepth_62 : decode bM_putDepth 62 = .ok (.getfield 71, 3) := by decide +kernel
theorem dM_putDepth_65 : decode bM_putDepth 65 = .ok (.bipush 8, 2) := by decide +kernel
theorem dM_putDepth_67 : decode bM_putDepth 67 = .ok (.iload_n 1, 1) := by decide +kernel
theorem dM_putDepth_68 : decode bM_putDepth 68 = .ok (.imul, 1) := by decide +kernel
theorem dM_putDepth_69 : decode bM_putDepth 69 = .ok (.bipush 7, 2) := by decide +kernel
theorem dM_putDepth_71 : decode bM_putDepth 71 = .ok (.iadd, 1) := by decide +kernel
theorem dM_putDepth_72 : decode bM_putDepth 72 = .ok (.aload_n 0, 1) := by decide +kernel
theorem dM_putDepth_73 : decode bM_putDepth 73 = .ok (.getfield 173, 3) := by decide +kernel
theorem dM_putDepth_76 : decode bM_putDepth 76 = .ok (.iastore, 1) := by decide +kernel
theorem dM_putDepth_77 : decode bM_putDepth 77 = .ok (.return_, 1) := by decide +kernel
def f_M_putDepth_2 (n : Nat) (k0 : Int32 → mb_T → Option (mb_T)) (y1 : Int32) : Nat → Int32 → mb_T → Option (mb_T)
  | 0, _, _ => none
  | f + 1, w2, s => if 5 ≤ w2 then k0 w2 s else mb_rd s 213 10 w2 fun x_2 => mb_wr s 234 56 ((8 * y1) + w2) x_2 fun s_5 => f_M_putDepth_2 n k0 y1 f (w2 + 1) s_5
def f_M_putDepth (n : Nat) (x1 : Int32) (s : mb_T) : Option (mb_T) := f_M_putDepth_2 n (fun x_8 s_9 => mb_wr s_9 234 56 ((8 * x1) + 5) (s_9.1 200 11) fun s_10 => mb_wr s_10 234 56 ((8 * x1) + 6) (s_10.1 200 25) fun s_13 => mb_wr s_13 234 56 ((8 * x1) + 7) (s_13.1 200 24) fun s_16 => some s_16) x1 n 0 s
set_option maxHeartbeats 4000000 in
set_option maxRecDepth 100000 in
theorem tl_M_putDepth_2 {dd n : Nat} {K : mj_KT} {out : mb_T} (hK : mj_C (dd + 1) 0 0 RM_c "putDepth" bM_putDepth 3 K) (hR : mj_R bM_putDepth none (fun r2 S2 => r2 = none ∧ S2 = mb_s out) K) {k0 : Int32 → mb_T → Option (mb_T)} {y1 : Int32} (hk0 : ∀ (w2 : Int32) (s : mb_T), k0 w2 s = some out → K 0 0 30 [.ref 200, .int y1, .int w2] [] (mb_s s)) : ∀ (f : Nat) (w2 : Int32) (s : mb_T), f_M_putDepth_2 n k0 y1 f w2 s = some out → K 0 0 2 [.ref 200, .int y1, .int w2] [] (mb_s s) := by
  intro f
  induction f with
  | zero =>
    intro w2 s h
    cases h
  | succ f ih =>
    intro w2 s h
    rw [f_M_putDepth_2] at h
    refine ro_iload_n hK dM_putDepth_2 rfl ?_
    refine ro_iconst (x := 5) hK (by decide) dM_putDepth_3 ?_
    refine ro_icmp_ge (tgt := 30) hK dM_putDepth_4 (by decide) (fun c_1 => ?_) (fun c_1 => ?_)
    · replace h := mb_ift c_1 h
      refine ro_fg (lv' := [.ref 200, .int y1, .int w2]) hK ⟨Or.inr rfl, ⟨Or.inr rfl, ⟨Or.inr rfl, trivial⟩⟩⟩ ?_
      exact hk0 _ _ h
    · replace h := mb_iff c_1 h
      refine ro_aload_n hK dM_putDepth_7 rfl ?_
      refine rb_get hK fM_71 mb_oM rfl dM_putDepth_8 ?_
      refine ro_bipush (x := 8) hK (by decide) dM_putDepth_11 ?_
      refine ro_iload_n hK dM_putDepth_13 rfl ?_
      refine ro_imul hK dM_putDepth_14 ?_
      refine ro_iload_n hK dM_putDepth_15 rfl ?_
      refine ro_iadd hK dM_putDepth_16 ?_
      refine ro_aload_n hK dM_putDepth_17 rfl ?_
      refine rb_get hK fM_31 mb_oM rfl dM_putDepth_18 ?_
      refine ro_iload_n hK dM_putDepth_21 rfl ?_
      obtain ⟨x_2, e_3, i_4, h⟩ := mb_rd_e h
      refine rb_iald hK ai_213 i_4 e_3 dM_putDepth_22 ?_
      obtain ⟨s_5, e_6, i_7, h⟩ := mb_wr_e h
      refine rb_iast hK ai_234 i_7 e_6 dM_putDepth_23 ?_
      refine ro_iincv (c := 1) hK (by decide) dM_putDepth_24 rfl (by decide) ?_
      show K 0 0 27 [.ref 200, .int y1, .int (w2 + 1)] [] (mb_s s_5)
      refine ro_goto (tgt := 2) hK dM_putDepth_27 (by decide) ?_
      refine ro_fg (lv' := [.ref 200, .int y1, .int (w2 + 1)]) hK ⟨Or.inr rfl, ⟨Or.inr rfl, ⟨Or.inr rfl, trivial⟩⟩⟩ ?_
      exact ih _ _ h
set_option maxHeartbeats 4000000 in
set_option maxRecDepth 100000 in
theorem t_M_putDepth {dd n : Nat} {x1 : Int32} {s : mb_T} {out : mb_T}  (h : f_M_putDepth n x1 s = some out) : mb_MC (dd + 1) yM_putDepth bM_putDepth 3 none [.ref 200, .int x1] s none out := by
  unfold f_M_putDepth at h
  refine mj_mc (lv := [.ref 200, .int x1, .retAddr 0]) mM_putDepth rfl rfl (Nat.le_of_ble_eq_true rfl) (fun K hK hR => ?_)
  have hK : mj_C (dd + 1) 0 0 RM_c "putDepth" bM_putDepth 3 K := hK
  refine ro_iconst (x := 0) hK (by decide) dM_putDepth_0 ?_
  refine ro_istore_n hK dM_putDepth_1 (by decide) ?_
  show K 0 0 2 [.ref 200, .int x1, .int 0] [] (mb_s s)
  refine ro_fg (lv' := [.ref 200, .int x1, .int 0]) hK ⟨Or.inr rfl, ⟨Or.inr rfl, ⟨Or.inr rfl, trivial⟩⟩⟩ ?_
  refine tl_M_putDepth_2 (dd := dd) hK hR (fun x_8 s_9 h => ?_) n _ _ h
  refine ro_aload_n hK dM_putDepth_30 rfl ?_
  refine rb_get hK fM_71 mb_oM rfl dM_putDepth_31 ?_
  refine ro_bipush (x := 8) hK (by decide) dM_putDepth_34 ?_
  refine ro_iload_n hK dM_putDepth_36 rfl ?_
  refine ro_imul hK dM_putDepth_37 ?_
  refine ro_iconst (x := 5) hK (by decide) dM_putDepth_38 ?_
  refine ro_iadd hK dM_putDepth_39 ?_
  refine ro_aload_n hK dM_putDepth_40 rfl ?_
  refine rb_get hK fM_170 mb_oM rfl dM_putDepth_41 ?_
  obtain ⟨s_10, e_11, i_12, h⟩ := mb_wr_e h
  refine rb_iast hK ai_234 i_12 e_11 dM_putDepth_44 ?_
  refine ro_aload_n hK dM_putDepth_45 rfl ?_
  refine rb_get hK fM_71 mb_oM rfl dM_putDepth_46 ?_
  refine ro_bipush (x := 8) hK (by decide) dM_putDepth_49 ?_
  refine ro_iload_n hK dM_putDepth_51 rfl ?_
  refine ro_imul hK dM_putDepth_52 ?_
  refine ro_bipush (x := 6) hK (by decide) dM_putDepth_53 ?_
  refine ro_iadd hK dM_putDepth_55 ?_
  refine ro_aload_n hK dM_putDepth_56 rfl ?_
  refine rb_get hK fM_50 mb_oM rfl dM_putDepth_57 ?_
  obtain ⟨s_13, e_14, i_15, h⟩ := mb_wr_e h
  refine rb_iast hK ai_234 i_15 e_14 dM_putDepth_60 ?_
  refine ro_aload_n hK dM_putDepth_61 rfl ?_
  refine rb_get hK fM_71 mb_oM rfl dM_putDepth_62 ?_
  refine ro_bipush (x := 8) hK (by decide) dM_putDepth_65 ?_
  refine ro_iload_n hK dM_putDepth_67 rfl ?_
  refine ro_imul hK dM_putDepth_68 ?_
  refine ro_bipush (x := 7) hK (by decide) dM_putDepth_69 ?_
  refine ro_iadd hK dM_putDepth_71 ?_
  refine ro_aload_n hK dM_putDepth_72 rfl ?_
  refine rb_get hK fM_173 mb_oM rfl dM_putDepth_73 ?_
  obtain ⟨s_16, e_17, i_18, h⟩ := mb_wr_e h
  refine rb_iast hK ai_234 i_18 e_17 dM_putDepth_76 ?_
  cases h
  exact hR.2.2 0 0 77 _ _ rfl dM_putDepth_77 ⟨rfl, rfl⟩
theorem dM_rowAt_0 : decode bM_rowAt 0 = .ok (.aload_n 0, 1) := by decide +kernel
theorem dM_rowAt_1 : decode bM_rowAt 1 = .ok (.getfield 16, 3) := by decide +kernel
theorem dM_rowAt_4 : decode bM_rowAt 4 = .ok (.bipush 60, 2) := by decide +kernel
theorem dM_rowAt_6 : decode bM_rowAt 6 = .ok (.iload_n 1, 1) := by decide +kernel
theorem dM_rowAt_7 : decode bM_rowAt 7 = .ok (.imul, 1) := by decide +kernel
theorem dM_rowAt_8 : decode bM_rowAt 8 = .ok (.iload_n 2, 1) := by decide +kernel
theorem dM_rowAt_9 : decode bM_rowAt 9 = .ok (.iadd, 1) := by decide +kernel
theorem dM_rowAt_10 : decode bM_rowAt 10 = .ok (.iaload, 1) := by decide +kernel
theorem dM_rowAt_11 : decode bM_rowAt 11 = .ok (.ireturn, 1) := by decide +kernel
def f_M_rowAt (n : Nat) (x1 : Int32) (x2 : Int32) (s : mb_T) : Option (Int32 × mb_T) := mb_rd s 204 360 ((60 * x1) + x2) fun x_1 => some (x_1, s)
set_option maxHeartbeats 4000000 in
set_option maxRecDepth 100000 in
theorem t_M_rowAt {dd n : Nat} {x1 : Int32} {x2 : Int32} {s : mb_T} {out : Int32 × mb_T}  (h : f_M_rowAt n x1 x2 s = some out) : mb_MC (dd + 1) yM_rowAt bM_rowAt 3 (some .int) [.ref 200, .int x1, .int x2] s (some (.int out.1)) out.2 := by
  unfold f_M_rowAt at h
  refine mj_mc (lv := [.ref 200, .int x1, .int x2]) mM_rowAt rfl rfl (Nat.le_of_ble_eq_true rfl) (fun K hK hR => ?_)
  have hK : mj_C (dd + 1) 0 0 RM_c "rowAt" bM_rowAt 3 K := hK
  refine ro_aload_n hK dM_rowAt_0 rfl ?_
  refine rb_get hK fM_16 mb_oM rfl dM_rowAt_1 ?_
  refine ro_bipush (x := 60) hK (by decide) dM_rowAt_4 ?_
  refine ro_iload_n hK dM_rowAt_6 rfl ?_
  refine ro_imul hK dM_rowAt_7 ?_
  refine ro_iload_n hK dM_rowAt_8 rfl ?_
  refine ro_iadd hK dM_rowAt_9 ?_
  obtain ⟨x_1, e_2, i_3, h⟩ := mb_rd_e h
  refine rb_iald hK ai_204 i_3 e_2 dM_rowAt_10 ?_
  cases h
  exact hR.1 0 0 11 _ _ _ _ rfl rfl dM_rowAt_11 ⟨rfl, rfl⟩
theorem dM_screaming_0 : decode bM_screaming 0 = .ok (.iconst 0, 1) := by decide +kernel
theorem dM_screaming_1 : decode bM_screaming 1 = .ok (.istore_n 1, 1) := by decide +kernel
theorem dM_screaming_2 : decode bM_screaming 2 = .ok (.iconst 0, 1) := by decide +kernel
theorem dM_screaming_3 : decode bM_screaming 3 = .ok (.istore_n 2, 1) := by decide +kernel
theorem dM_screaming_4 : decode bM_screaming 4 = .ok (.iload_n 2, 1) := by decide +kernel
theorem dM_screaming_5 : decode bM_screaming 5 = .ok (.aload_n 0, 1) := by decide +kernel
theorem dM_screaming_6 : decode bM_screaming 6 = .ok (.getfield 161, 3) := by decide +kernel
theorem dM_screaming_9 : decode bM_screaming 9 = .ok (.if_icmp .ge 34, 3) := by decide +kernel
theorem dM_screaming_12 : decode bM_screaming 12 = .ok (.iload_n 1, 1) := by decide +kernel
theorem dM_screaming_13 : decode bM_screaming 13 = .ok (.aload_n 0, 1) := by decide +kernel
theorem dM_screaming_14 : decode bM_screaming 14 = .ok (.getfield 31, 3) := by decide +kernel
theorem dM_screaming_17 : decode bM_screaming 17 = .ok (.iload_n 2, 1) := by decide +kernel
theorem dM_screaming_18 : decode bM_screaming 18 = .ok (.iaload, 1) := by decide +kernel
theorem dM_screaming_19 : decode bM_screaming 19 = .ok (.aload_n 0, 1) := by decide +kernel
theorem dM_screaming_20 : decode bM_screaming 20 = .ok (.getfield 40, 3) := by decide +kernel
theorem dM_screaming_23 : decode bM_screaming 23 = .ok (.iload_n 2, 1) := by decide +kernel
theorem dM_screaming_24 : decode bM_screaming 24 = .ok (.iaload, 1) := by decide +kernel
theorem dM_screaming_25 : decode bM_screaming 25 = .ok (.if_icmp .lt 9, 3) := by decide +kernel
theorem dM_screaming_28 : decode bM_screaming 28 = .ok (.iconst 1, 1) := by decide +kernel
theorem dM_screaming_29 : decode bM_screaming 29 = .ok (.iload_n 2, 1) := by decide +kernel
theorem dM_screaming_30 : decode bM_screaming 30 = .ok (.ishl, 1) := by decide +kernel
theorem dM_screaming_31 : decode bM_screaming 31 = .ok (.goto 4, 3) := by decide +kernel
theorem dM_screaming_34 : decode bM_screaming 34 = .ok (.iconst 0, 1) := by decide +kernel
theorem dM_screaming_35 : decode bM_screaming 35 = .ok (.ior, 1) := by decide +kernel
theorem dM_screaming_36 : decode bM_screaming 36 = .ok (.istore_n 1, 1) := by decide +kernel
theorem dM_screaming_37 : decode bM_screaming 37 = .ok (.iinc 2 1, 3) := by decide +kernel
theorem dM_screaming_40 : decode bM_screaming 40 = .ok (.goto (-36), 3) := by decide +kernel
theorem dM_screaming_43 : decode bM_screaming 43 = .ok (.iload_n 1, 1) := by decide +kernel
theorem dM_screaming_44 : decode bM_screaming 44 = .ok (.ireturn, 1) := by decide +kernel
def f_M_screaming_4 (n : Nat) (k0 : Int32 → Int32 → mb_T → Option (Int32 × mb_T))  : Nat → Int32 → Int32 → mb_T → Option (Int32 × mb_T)
  | 0, _, _, _ => none
  | f + 1, w1, w2, s => if (s.1 200 8) ≤ w2 then k0 w1 w2 s else mb_rd s 213 10 w2 fun x_2 => mb_rd s 216 10 w2 fun x_5 => f_M_screaming_4 n k0 f (w1 ||| (if x_2 < x_5 then 0 else (1 <<< (w2 &&& 31)) : Int32)) (w2 + 1) s
def f_M_screaming (n : Nat)  (s : mb_T) : Option (Int32 × mb_T) := f_M_screaming_4 n (fun x_10 x_11 s_12 => some (x_10, s_12)) n 0 0 s
set_option maxHeartbeats 4000000 in
set_option maxRecDepth 100000 in
theorem tl_M_screaming_4 {dd n : Nat} {K : mj_KT} {out : Int32 × mb_T} (hK : mj_C (dd + 1) 0 0 RM_c "screaming" bM_screaming 3 K) (hR : mj_R bM_screaming (some .int) (fun r2 S2 => r2 = some (.int out.1) ∧ S2 = mb_s out.2) K) {k0 : Int32 → Int32 → mb_T → Option (Int32 × mb_T)}  (hk0 : ∀ (w1 : Int32) (w2 : Int32) (s : mb_T), k0 w1 w2 s = some out → K 0 0 43 [.ref 200, .int w1, .int w2] [] (mb_s s)) : ∀ (f : Nat) (w1 : Int32) (w2 : Int32) (s : mb_T), f_M_screaming_4 n k0 f w1 w2 s = some out → K 0 0 4 [.ref 200, .int w1, .int w2] [] (mb_s s) := by
  intro f
  induction f with
  | zero =>
    intro w1 w2 s h
    cases h
  | succ f ih =>
    intro w1 w2 s h
    rw [f_M_screaming_4] at h
    refine ro_iload_n hK dM_screaming_4 rfl ?_
    refine ro_aload_n hK dM_screaming_5 rfl ?_
    refine rb_get hK fM_161 mb_oM rfl dM_screaming_6 ?_
    refine ro_icmp_ge (tgt := 43) hK dM_screaming_9 (by decide) (fun c_1 => ?_) (fun c_1 => ?_)
    · replace h := mb_ift c_1 h
      refine ro_fg (lv' := [.ref 200, .int w1, .int w2]) hK ⟨Or.inr rfl, ⟨Or.inr rfl, ⟨Or.inr rfl, trivial⟩⟩⟩ ?_
      exact hk0 _ _ _ h
    · replace h := mb_iff c_1 h
      refine ro_iload_n hK dM_screaming_12 rfl ?_
      refine ro_aload_n hK dM_screaming_13 rfl ?_
      refine rb_get hK fM_31 mb_oM rfl dM_screaming_14 ?_
      refine ro_iload_n hK dM_screaming_17 rfl ?_
      obtain ⟨x_2, e_3, i_4, h⟩ := mb_rd_e h
      refine rb_iald hK ai_213 i_4 e_3 dM_screaming_18 ?_
      refine ro_aload_n hK dM_screaming_19 rfl ?_
      refine rb_get hK fM_40 mb_oM rfl dM_screaming_20 ?_
      refine ro_iload_n hK dM_screaming_23 rfl ?_
      obtain ⟨x_5, e_6, i_7, h⟩ := mb_rd_e h
      refine rb_iald hK ai_216 i_7 e_6 dM_screaming_24 ?_
      have j_9 : ∀ w_ : Int32, w_ = (if x_2 < x_5 then 0 else (1 <<< (w2 &&& 31)) : Int32) → K 0 0 35 [.ref 200, .int w1, .int w2] [.int w_, .int w1] (mb_s s) → K 0 0 25 [.ref 200, .int w1, .int w2] [.int x_5, .int x_2, .int w1] (mb_s s) := by
        intro w_ hw hj
        refine ro_icmp_lt (tgt := 34) hK dM_screaming_25 (by decide) (fun c_8 => ?_) (fun c_8 => ?_)
        · skip
          refine ro_iconst (x := 0) hK (by decide) dM_screaming_34 ?_
          have hw := (hw.trans (if_pos c_8))
          subst hw
          exact hj
        · skip
          refine ro_iconst (x := 1) hK (by decide) dM_screaming_28 ?_
          refine ro_iload_n hK dM_screaming_29 rfl ?_
          refine ro_ishl hK dM_screaming_30 ?_
          refine ro_goto (tgt := 35) hK dM_screaming_31 (by decide) ?_
          have hw := (hw.trans (if_neg c_8))
          subst hw
          exact hj
      refine j_9 _ rfl ?_
      refine ro_ior hK dM_screaming_35 ?_
      refine ro_istore_n hK dM_screaming_36 (by decide) ?_
      show K 0 0 37 [.ref 200, .int (w1 ||| (if x_2 < x_5 then 0 else (1 <<< (w2 &&& 31)) : Int32)), .int w2] [] (mb_s s)
      refine ro_iincv (c := 1) hK (by decide) dM_screaming_37 rfl (by decide) ?_
      show K 0 0 40 [.ref 200, .int (w1 ||| (if x_2 < x_5 then 0 else (1 <<< (w2 &&& 31)) : Int32)), .int (w2 + 1)] [] (mb_s s)
      refine ro_goto (tgt := 4) hK dM_screaming_40 (by decide) ?_
      refine ro_fg (lv' := [.ref 200, .int (w1 ||| (if x_2 < x_5 then 0 else (1 <<< (w2 &&& 31)) : Int32)), .int (w2 + 1)]) hK ⟨Or.inr rfl, ⟨Or.inr rfl, ⟨Or.inr rfl, trivial⟩⟩⟩ ?_
      exact ih _ _ _ h
set_option maxHeartbeats 4000000 in
set_option maxRecDepth 100000 in
theorem t_M_screaming {dd n : Nat}  {s : mb_T} {out : Int32 × mb_T}  (h : f_M_screaming n  s = some out) : mb_MC (dd + 1) yM_screaming bM_screaming 3 (some .int) [.ref 200] s (some (.int out.1)) out.2 := by
  unfold f_M_screaming at h
  refine mj_mc (lv := [.ref 200, .retAddr 0, .retAddr 0]) mM_screaming rfl rfl (Nat.le_of_ble_eq_true rfl) (fun K hK hR => ?_)
  have hK : mj_C (dd + 1) 0 0 RM_c "screaming" bM_screaming 3 K := hK
  refine ro_iconst (x := 0) hK (by decide) dM_screaming_0 ?_
  refine ro_istore_n hK dM_screaming_1 (by decide) ?_
  show K 0 0 2 [.ref 200, .int 0, .retAddr 0] [] (mb_s s)
  refine ro_iconst (x := 0) hK (by decide) dM_screaming_2 ?_
  refine ro_istore_n hK dM_screaming_3 (by decide) ?_
  show K 0 0 4 [.ref 200, .int 0, .int 0] [] (mb_s s)
  refine ro_fg (lv' := [.ref 200, .int 0, .int 0]) hK ⟨Or.inr rfl, ⟨Or.inr rfl, ⟨Or.inr rfl, trivial⟩⟩⟩ ?_
  refine tl_M_screaming_4 (dd := dd) hK hR (fun x_10 x_11 s_12 h => ?_) n _ _ _ h
  refine ro_iload_n hK dM_screaming_43 rfl ?_
  cases h
  exact hR.1 0 0 44 _ _ _ _ rfl rfl dM_screaming_44 ⟨rfl, rfl⟩
theorem dM_setPast_0 : decode bM_setPast 0 = .ok (.bipush 6, 2) := by decide +kernel
theorem dM_setPast_2 : decode bM_setPast 2 = .ok (.iload_n 1, 1) := by decide +kernel
theorem dM_setPast_3 : decode bM_setPast 3 = .ok (.iconst 3, 1) := by decide +kernel
theorem dM_setPast_4 : decode bM_setPast 4 = .ok (.irem, 1) := by decide +kernel
theorem dM_setPast_5 : decode bM_setPast 5 = .ok (.imul, 1) := by decide +kernel
theorem dM_setPast_6 : decode bM_setPast 6 = .ok (.istore_n 2, 1) := by decide +kernel
theorem dM_setPast_7 : decode bM_setPast 7 = .ok (.iconst 0, 1) := by decide +kernel
theorem dM_setPast_8 : decode bM_setPast 8 = .ok (.istore_n 3, 1) := by decide +kernel
theorem dM_setPast_9 : decode bM_setPast 9 = .ok (.iload_n 3, 1) := by decide +kernel
theorem dM_setPast_10 : decode bM_setPast 10 = .ok (.iconst 5, 1) := by decide +kernel
theorem dM_setPast_11 : decode bM_setPast 11 = .ok (.if_icmp .ge 23, 3) := by decide +kernel
theorem dM_setPast_14 : decode bM_setPast 14 = .ok (.aload_n 0, 1) := by decide +kernel
theorem dM_setPast_15 : decode bM_setPast 15 = .ok (.getfield 68, 3) := by decide +kernel
theorem dM_setPast_18 : decode bM_setPast 18 = .ok (.iload_n 2, 1) := by decide +kernel
theorem dM_setPast_19 : decode bM_setPast 19 = .ok (.iload_n 3, 1) := by decide +kernel
theorem dM_setPast_20 : decode bM_setPast 20 = .ok (.iadd, 1) := by decide +kernel
theorem dM_setPast_21 : decode bM_setPast 21 = .ok (.aload_n 0, 1) := by decide +kernel
theorem dM_setPast_22 : decode bM_setPast 22 = .ok (.getfield 31, 3) := by decide +kernel
theorem dM_setPast_25 : decode bM_setPast 25 = .ok (.iload_n 3, 1) := by decide +kernel
theorem dM_setPast_26 : decode bM_setPast 26 = .ok (.iaload, 1) := by decide +kernel
theorem dM_setPast_27 : decode bM_setPast 27 = .ok (.iastore, 1) := by decide +kernel
theorem dM_setPast_28 : decode bM_setPast 28 = .ok (.iinc 3 1, 3) := by decide +kernel
theorem dM_setPast_31 : decode bM_setPast 31 = .ok (.goto (-22), 3) := by decide +kernel
theorem dM_setPast_34 : decode bM_setPast 34 = .ok (.aload_n 0, 1) := by decide +kernel
theorem dM_setPast_35 : decode bM_setPast 35 = .ok (.getfield 68, 3) := by decide +kernel
theorem dM_setPast_38 : decode bM_setPast 38 = .ok (.iload_n 2, 1) := by decide +kernel
theorem dM_setPast_39 : decode bM_setPast 39 = .ok (.iconst 5, 1) := by decide +kernel
theorem dM_setPast_40 : decode bM_setPast 40 = .ok (.iadd, 1) := by decide +kernel
theorem dM_setPast_41 : decode bM_setPast 41 = .ok (.aload_n 0, 1) := by decide +kernel
theorem dM_setPast_42 : decode bM_setPast 42 = .ok (.getfield 50, 3) := by decide +kernel
theorem dM_setPast_45 : decode bM_setPast 45 = .ok (.iastore, 1) := by decide +kernel
theorem dM_setPast_46 : decode bM_setPast 46 = .ok (.return_, 1) := by decide +kernel
def f_M_setPast_9 (n : Nat) (k0 : Int32 → mb_T → Option (mb_T)) (y2 : Int32) : Nat → Int32 → mb_T → Option (mb_T)
  | 0, _, _ => none
  | f + 1, w3, s => if 5 ≤ w3 then k0 w3 s else mb_rd s 213 10 w3 fun x_3 => mb_wr s 232 18 (y2 + w3) x_3 fun s_6 => f_M_setPast_9 n k0 y2 f (w3 + 1) s_6
def f_M_setPast (n : Nat) (x1 : Int32) (s : mb_T) : Option (mb_T) := mb_dv 3 (f_M_setPast_9 n (fun x_9 s_10 => mb_wr s_10 232 18 ((6 * (x1 - x1 / 3 * 3)) + 5) (s_10.1 200 25) fun s_11 => some s_11) (6 * (x1 - x1 / 3 * 3)) n 0 s)
set_option maxHeartbeats 4000000 in
set_option maxRecDepth 100000 in
theorem tl_M_setPast_9 {dd n : Nat} {K : mj_KT} {out : mb_T} (hK : mj_C (dd + 1) 0 0 RM_c "setPast" bM_setPast 4 K) (hR : mj_R bM_setPast none (fun r2 S2 => r2 = none ∧ S2 = mb_s out) K) {k0 : Int32 → mb_T → Option (mb_T)} {y2 : Int32} (hk0 : ∀ (w3 : Int32) (s : mb_T), k0 w3 s = some out → K 0 0 34 [.ref 200, .retAddr 0, .int y2, .int w3] [] (mb_s s)) : ∀ (f : Nat) (w3 : Int32) (s : mb_T), f_M_setPast_9 n k0 y2 f w3 s = some out → K 0 0 9 [.ref 200, .retAddr 0, .int y2, .int w3] [] (mb_s s) := by
  intro f
  induction f with
  | zero =>
    intro w3 s h
    cases h
  | succ f ih =>
    intro w3 s h
    rw [f_M_setPast_9] at h
    refine ro_iload_n hK dM_setPast_9 rfl ?_
    refine ro_iconst (x := 5) hK (by decide) dM_setPast_10 ?_
    refine ro_icmp_ge (tgt := 34) hK dM_setPast_11 (by decide) (fun c_2 => ?_) (fun c_2 => ?_)
    · replace h := mb_ift c_2 h
      refine ro_fg (lv' := [.ref 200, .retAddr 0, .int y2, .int w3]) hK ⟨Or.inr rfl, ⟨Or.inl rfl, ⟨Or.inr rfl, ⟨Or.inr rfl, trivial⟩⟩⟩⟩ ?_
      exact hk0 _ _ h
    · replace h := mb_iff c_2 h
      refine ro_aload_n hK dM_setPast_14 rfl ?_
      refine rb_get hK fM_68 mb_oM rfl dM_setPast_15 ?_
      refine ro_iload_n hK dM_setPast_18 rfl ?_
      refine ro_iload_n hK dM_setPast_19 rfl ?_
      refine ro_iadd hK dM_setPast_20 ?_
      refine ro_aload_n hK dM_setPast_21 rfl ?_
      refine rb_get hK fM_31 mb_oM rfl dM_setPast_22 ?_
      refine ro_iload_n hK dM_setPast_25 rfl ?_
      obtain ⟨x_3, e_4, i_5, h⟩ := mb_rd_e h
      refine rb_iald hK ai_213 i_5 e_4 dM_setPast_26 ?_
      obtain ⟨s_6, e_7, i_8, h⟩ := mb_wr_e h
      refine rb_iast hK ai_232 i_8 e_7 dM_setPast_27 ?_
      refine ro_iincv (c := 1) hK (by decide) dM_setPast_28 rfl (by decide) ?_
      show K 0 0 31 [.ref 200, .retAddr 0, .int y2, .int (w3 + 1)] [] (mb_s s_6)
      refine ro_goto (tgt := 9) hK dM_setPast_31 (by decide) ?_
      refine ro_fg (lv' := [.ref 200, .retAddr 0, .int y2, .int (w3 + 1)]) hK ⟨Or.inr rfl, ⟨Or.inl rfl, ⟨Or.inr rfl, ⟨Or.inr rfl, trivial⟩⟩⟩⟩ ?_
      exact ih _ _ h
set_option maxHeartbeats 4000000 in
set_option maxRecDepth 100000 in
theorem t_M_setPast {dd n : Nat} {x1 : Int32} {s : mb_T} {out : mb_T}  (h : f_M_setPast n x1 s = some out) : mb_MC (dd + 1) yM_setPast bM_setPast 4 none [.ref 200, .int x1] s none out := by
  unfold f_M_setPast at h
  refine mj_mc (lv := [.ref 200, .int x1, .retAddr 0, .retAddr 0]) mM_setPast rfl rfl (Nat.le_of_ble_eq_true rfl) (fun K hK hR => ?_)
  have hK : mj_C (dd + 1) 0 0 RM_c "setPast" bM_setPast 4 K := hK
  refine ro_bipush (x := 6) hK (by decide) dM_setPast_0 ?_
  refine ro_iload_n hK dM_setPast_2 rfl ?_
  refine ro_iconst (x := 3) hK (by decide) dM_setPast_3 ?_
  obtain ⟨z_1, h⟩ := mb_dv_e h
  refine ro_irem hK dM_setPast_4 z_1 ?_
  refine ro_imul hK dM_setPast_5 ?_
  refine ro_istore_n hK dM_setPast_6 (by decide) ?_
  show K 0 0 7 [.ref 200, .int x1, .int (6 * (x1 - x1 / 3 * 3)), .retAddr 0] [] (mb_s s)
  refine ro_iconst (x := 0) hK (by decide) dM_setPast_7 ?_
  refine ro_istore_n hK dM_setPast_8 (by decide) ?_
  show K 0 0 9 [.ref 200, .int x1, .int (6 * (x1 - x1 / 3 * 3)), .int 0] [] (mb_s s)
  refine ro_fg (lv' := [.ref 200, .retAddr 0, .int (6 * (x1 - x1 / 3 * 3)), .int 0]) hK ⟨Or.inr rfl, ⟨Or.inl rfl, ⟨Or.inr rfl, ⟨Or.inr rfl, trivial⟩⟩⟩⟩ ?_
  refine tl_M_setPast_9 (dd := dd) hK hR (fun x_9 s_10 h => ?_) n _ _ h
  refine ro_aload_n hK dM_setPast_34 rfl ?_
  refine rb_get hK fM_68 mb_oM rfl dM_setPast_35 ?_
  refine ro_iload_n hK dM_setPast_38 rfl ?_
  refine ro_iconst (x := 5) hK (by decide) dM_setPast_39 ?_
  refine ro_iadd hK dM_setPast_40 ?_
  refine ro_aload_n hK dM_setPast_41 rfl ?_
  refine rb_get hK fM_50 mb_oM rfl dM_setPast_42 ?_
  obtain ⟨s_11, e_12, i_13, h⟩ := mb_wr_e h
  refine rb_iast hK ai_232 i_13 e_12 dM_setPast_45 ?_
  cases h
  exact hR.2.2 0 0 46 _ _ rfl dM_setPast_46 ⟨rfl, rfl⟩
theorem dM_setRow_0 : decode bM_setRow 0 = .ok (.aload_n 0, 1) := by decide +kernel
theorem dM_setRow_1 : decode bM_setRow 1 = .ok (.getfield 16, 3) := by decide +kernel
theorem dM_setRow_4 : decode bM_setRow 4 = .ok (.bipush 60, 2) := by decide +kernel
theorem dM_setRow_6 : decode bM_setRow 6 = .ok (.iload_n 1, 1) := by decide +kernel
theorem dM_setRow_7 : decode bM_setRow 7 = .ok (.imul, 1) := by decide +kernel
theorem dM_setRow_8 : decode bM_setRow 8 = .ok (.iload_n 2, 1) := by decide +kernel
theorem dM_setRow_9 : decode bM_setRow 9 = .ok (.iadd, 1) := by decide +kernel
theorem dM_setRow_10 : decode bM_setRow 10 = .ok (.iload_n 3, 1) := by decide +kernel
theorem dM_setRow_11 : decode bM_setRow 11 = .ok (.iastore, 1) := by decide +kernel
theorem dM_setRow_12 : decode bM_setRow 12 = .ok (.return_, 1) := by decide +kernel
def f_M_setRow (n : Nat) (x1 : Int32) (x2 : Int32) (x3 : Int32) (s : mb_T) : Option (mb_T) := mb_wr s 204 360 ((60 * x1) + x2) x3 fun s_1 => some s_1
set_option maxHeartbeats 4000000 in
set_option maxRecDepth 100000 in
theorem t_M_setRow {dd n : Nat} {x1 : Int32} {x2 : Int32} {x3 : Int32} {s : mb_T} {out : mb_T}  (h : f_M_setRow n x1 x2 x3 s = some out) : mb_MC (dd + 1) yM_setRow bM_setRow 4 none [.ref 200, .int x1, .int x2, .int x3] s none out := by
  unfold f_M_setRow at h
  refine mj_mc (lv := [.ref 200, .int x1, .int x2, .int x3]) mM_setRow rfl rfl (Nat.le_of_ble_eq_true rfl) (fun K hK hR => ?_)
  have hK : mj_C (dd + 1) 0 0 RM_c "setRow" bM_setRow 4 K := hK
  refine ro_aload_n hK dM_setRow_0 rfl ?_
  refine rb_get hK fM_16 mb_oM rfl dM_setRow_1 ?_
  refine ro_bipush (x := 60) hK (by decide) dM_setRow_4 ?_
  refine ro_iload_n hK dM_setRow_6 rfl ?_
  refine ro_imul hK dM_setRow_7 ?_
  refine ro_iload_n hK dM_setRow_8 rfl ?_
  refine ro_iadd hK dM_setRow_9 ?_
  refine ro_iload_n hK dM_setRow_10 rfl ?_
  obtain ⟨s_1, e_2, i_3, h⟩ := mb_wr_e h
  refine rb_iast hK ai_204 i_3 e_2 dM_setRow_11 ?_
  cases h
  exact hR.2.2 0 0 12 _ _ rfl dM_setRow_12 ⟨rfl, rfl⟩
theorem dI_bitCount_0 : decode bI_bitCount 0 = .ok (.iload_n 0, 1) := by decide +kernel
theorem dI_bitCount_1 : decode bI_bitCount 1 = .ok (.iload_n 0, 1) := by decide +kernel
theorem dI_bitCount_2 : decode bI_bitCount 2 = .ok (.iconst 1, 1) := by decide +kernel
theorem dI_bitCount_3 : decode bI_bitCount 3 = .ok (.iushr, 1) := by decide +kernel
theorem dI_bitCount_4 : decode bI_bitCount 4 = .ok (.ldc_w 265, 3) := by decide +kernel
theorem dI_bitCount_7 : decode bI_bitCount 7 = .ok (.iand, 1) := by decide +kernel
theorem dI_bitCount_8 : decode bI_bitCount 8 = .ok (.isub, 1) := by decide +kernel
theorem dI_bitCount_9 : decode bI_bitCount 9 = .ok (.istore_n 0, 1) := by decide +kernel
theorem dI_bitCount_10 : decode bI_bitCount 10 = .ok (.iload_n 0, 1) := by decide +kernel
theorem dI_bitCount_11 : decode bI_bitCount 11 = .ok (.ldc_w 266, 3) := by decide +kernel
theorem dI_bitCount_14 : decode bI_bitCount 14 = .ok (.iand, 1) := by decide +kernel
theorem dI_bitCount_15 : decode bI_bitCount 15 = .ok (.iload_n 0, 1) := by decide +kernel
theorem dI_bitCount_16 : decode bI_bitCount 16 = .ok (.iconst 2, 1) := by decide +kernel
theorem dI_bitCount_17 : decode bI_bitCount 17 = .ok (.iushr, 1) := by decide +kernel
theorem dI_bitCount_18 : decode bI_bitCount 18 = .ok (.ldc_w 266, 3) := by decide +kernel
theorem dI_bitCount_21 : decode bI_bitCount 21 = .ok (.iand, 1) := by decide +kernel
theorem dI_bitCount_22 : decode bI_bitCount 22 = .ok (.iadd, 1) := by decide +kernel
theorem dI_bitCount_23 : decode bI_bitCount 23 = .ok (.istore_n 0, 1) := by decide +kernel
theorem dI_bitCount_24 : decode bI_bitCount 24 = .ok (.iload_n 0, 1) := by decide +kernel
theorem dI_bitCount_25 : decode bI_bitCount 25 = .ok (.iload_n 0, 1) := by decide +kernel
theorem dI_bitCount_26 : decode bI_bitCount 26 = .ok (.iconst 4, 1) := by decide +kernel
theorem dI_bitCount_27 : decode bI_bitCount 27 = .ok (.iushr, 1) := by decide +kernel
theorem dI_bitCount_28 : decode bI_bitCount 28 = .ok (.iadd, 1) := by decide +kernel
theorem dI_bitCount_29 : decode bI_bitCount 29 = .ok (.ldc_w 267, 3) := by decide +kernel
theorem dI_bitCount_32 : decode bI_bitCount 32 = .ok (.iand, 1) := by decide +kernel
theorem dI_bitCount_33 : decode bI_bitCount 33 = .ok (.istore_n 0, 1) := by decide +kernel
theorem dI_bitCount_34 : decode bI_bitCount 34 = .ok (.iload_n 0, 1) := by decide +kernel
theorem dI_bitCount_35 : decode bI_bitCount 35 = .ok (.iload_n 0, 1) := by decide +kernel
theorem dI_bitCount_36 : decode bI_bitCount 36 = .ok (.bipush 8, 2) := by decide +kernel
theorem dI_bitCount_38 : decode bI_bitCount 38 = .ok (.iushr, 1) := by decide +kernel
theorem dI_bitCount_39 : decode bI_bitCount 39 = .ok (.iadd, 1) := by decide +kernel
theorem dI_bitCount_40 : decode bI_bitCount 40 = .ok (.istore_n 0, 1) := by decide +kernel
theorem dI_bitCount_41 : decode bI_bitCount 41 = .ok (.iload_n 0, 1) := by decide +kernel
theorem dI_bitCount_42 : decode bI_bitCount 42 = .ok (.iload_n 0, 1) := by decide +kernel
theorem dI_bitCount_43 : decode bI_bitCount 43 = .ok (.bipush 16, 2) := by decide +kernel
theorem dI_bitCount_45 : decode bI_bitCount 45 = .ok (.iushr, 1) := by decide +kernel
theorem dI_bitCount_46 : decode bI_bitCount 46 = .ok (.iadd, 1) := by decide +kernel
theorem dI_bitCount_47 : decode bI_bitCount 47 = .ok (.istore_n 0, 1) := by decide +kernel
theorem dI_bitCount_48 : decode bI_bitCount 48 = .ok (.iload_n 0, 1) := by decide +kernel
theorem dI_bitCount_49 : decode bI_bitCount 49 = .ok (.bipush 63, 2) := by decide +kernel
theorem dI_bitCount_51 : decode bI_bitCount 51 = .ok (.iand, 1) := by decide +kernel
theorem dI_bitCount_52 : decode bI_bitCount 52 = .ok (.ireturn, 1) := by decide +kernel
def f_I_bitCount (n : Nat) (x1 : Int32) (s : mb_T) : Option (Int32 × mb_T) := some (((((((((x1 - ((Int32.toUInt32 x1 >>> (Int32.toUInt32 1 &&& Int32.toUInt32 31)).toInt32 &&& 1431655765)) &&& 858993459) + ((Int32.toUInt32 (x1 - ((Int32.toUInt32 x1 >>> (Int32.toUInt32 1 &&& Int32.toUInt32 31)).toInt32 &&& 1431655765)) >>> (Int32.toUInt32 2 &&& Int32.toUInt32 31)).toInt32 &&& 858993459)) + (Int32.toUInt32 (((x1 - ((Int32.toUInt32 x1 >>> (Int32.toUInt32 1 &&& Int32.toUInt32 31)).toInt32 &&& 1431655765)) &&& 858993459) + ((Int32.toUInt32 (x1 - ((Int32.toUInt32 x1 >>> (Int32.toUInt32 1 &&& Int32.toUInt32 31)).toInt32 &&& 1431655765)) >>> (Int32.toUInt32 2 &&& Int32.toUInt32 31)).toInt32 &&& 858993459)) >>> (Int32.toUInt32 4 &&& Int32.toUInt32 31)).toInt32) &&& 252645135) + (Int32.toUInt32 (((((x1 - ((Int32.toUInt32 x1 >>> (Int32.toUInt32 1 &&& Int32.toUInt32 31)).toInt32 &&& 1431655765)) &&& 858993459) + ((Int32.toUInt32 (x1 - ((Int32.toUInt32 x1 >>> (Int32.toUInt32 1 &&& Int32.toUInt32 31)).toInt32 &&& 1431655765)) >>> (Int32.toUInt32 2 &&& Int32.toUInt32 31)).toInt32 &&& 858993459)) + (Int32.toUInt32 (((x1 - ((Int32.toUInt32 x1 >>> (Int32.toUInt32 1 &&& Int32.toUInt32 31)).toInt32 &&& 1431655765)) &&& 858993459) + ((Int32.toUInt32 (x1 - ((Int32.toUInt32 x1 >>> (Int32.toUInt32 1 &&& Int32.toUInt32 31)).toInt32 &&& 1431655765)) >>> (Int32.toUInt32 2 &&& Int32.toUInt32 31)).toInt32 &&& 858993459)) >>> (Int32.toUInt32 4 &&& Int32.toUInt32 31)).toInt32) &&& 252645135) >>> (Int32.toUInt32 8 &&& Int32.toUInt32 31)).toInt32) + (Int32.toUInt32 ((((((x1 - ((Int32.toUInt32 x1 >>> (Int32.toUInt32 1 &&& Int32.toUInt32 31)).toInt32 &&& 1431655765)) &&& 858993459) + ((Int32.toUInt32 (x1 - ((Int32.toUInt32 x1 >>> (Int32.toUInt32 1 &&& Int32.toUInt32 31)).toInt32 &&& 1431655765)) >>> (Int32.toUInt32 2 &&& Int32.toUInt32 31)).toInt32 &&& 858993459)) + (Int32.toUInt32 (((x1 - ((Int32.toUInt32 x1 >>> (Int32.toUInt32 1 &&& Int32.toUInt32 31)).toInt32 &&& 1431655765)) &&& 858993459) + ((Int32.toUInt32 (x1 - ((Int32.toUInt32 x1 >>> (Int32.toUInt32 1 &&& Int32.toUInt32 31)).toInt32 &&& 1431655765)) >>> (Int32.toUInt32 2 &&& Int32.toUInt32 31)).toInt32 &&& 858993459)) >>> (Int32.toUInt32 4 &&& Int32.toUInt32 31)).toInt32) &&& 252645135) + (Int32.toUInt32 (((((x1 - ((Int32.toUInt32 x1 >>> (Int32.toUInt32 1 &&& Int32.toUInt32 31)).toInt32 &&& 1431655765)) &&& 858993459) + ((Int32.toUInt32 (x1 - ((Int32.toUInt32 x1 >>> (Int32.toUInt32 1 &&& Int32.toUInt32 31)).toInt32 &&& 1431655765)) >>> (Int32.toUInt32 2 &&& Int32.toUInt32 31)).toInt32 &&& 858993459)) + (Int32.toUInt32 (((x1 - ((Int32.toUInt32 x1 >>> (Int32.toUInt32 1 &&& Int32.toUInt32 31)).toInt32 &&& 1431655765)) &&& 858993459) + ((Int32.toUInt32 (x1 - ((Int32.toUInt32 x1 >>> (Int32.toUInt32 1 &&& Int32.toUInt32 31)).toInt32 &&& 1431655765)) >>> (Int32.toUInt32 2 &&& Int32.toUInt32 31)).toInt32 &&& 858993459)) >>> (Int32.toUInt32 4 &&& Int32.toUInt32 31)).toInt32) &&& 252645135) >>> (Int32.toUInt32 8 &&& Int32.toUInt32 31)).toInt32) >>> (Int32.toUInt32 16 &&& Int32.toUInt32 31)).toInt32) &&& 63), s)
set_option maxHeartbeats 4000000 in
set_option maxRecDepth 100000 in
theorem t_I_bitCount {dd n : Nat} {x1 : Int32} {s : mb_T} {out : Int32 × mb_T}  (h : f_I_bitCount n x1 s = some out) : mb_MC (dd + 1) yI_bitCount bI_bitCount 1 (some .int) [.int x1] s (some (.int out.1)) out.2 := by
  unfold f_I_bitCount at h
  refine mj_mc (lv := [.int x1]) mI_bitCount rfl rfl (Nat.le_of_ble_eq_true rfl) (fun K hK hR => ?_)
  have hK : mj_C (dd + 1) 0 0 RI_c "bitCount" bI_bitCount 1 K := hK
  refine ro_iload_n hK dI_bitCount_0 rfl ?_
  refine ro_iload_n hK dI_bitCount_1 rfl ?_
  refine ro_iconst (x := 1) hK (by decide) dI_bitCount_2 ?_
  refine ro_iushr hK dI_bitCount_3 ?_
  refine ro_ldcw hK cI_265 dI_bitCount_4 ?_
  refine ro_iand hK dI_bitCount_7 ?_
  refine ro_isub hK dI_bitCount_8 ?_
  refine ro_istore_n hK dI_bitCount_9 (by decide) ?_
  show K 0 0 10 [.int (x1 - ((Int32.toUInt32 x1 >>> (Int32.toUInt32 1 &&& Int32.toUInt32 31)).toInt32 &&& 1431655765))] [] (mb_s s)
  refine ro_iload_n hK dI_bitCount_10 rfl ?_
  refine ro_ldcw hK cI_266 dI_bitCount_11 ?_
  refine ro_iand hK dI_bitCount_14 ?_
  refine ro_iload_n hK dI_bitCount_15 rfl ?_
  refine ro_iconst (x := 2) hK (by decide) dI_bitCount_16 ?_
  refine ro_iushr hK dI_bitCount_17 ?_
  refine ro_ldcw hK cI_266 dI_bitCount_18 ?_
  refine ro_iand hK dI_bitCount_21 ?_
  refine ro_iadd hK dI_bitCount_22 ?_
  refine ro_istore_n hK dI_bitCount_23 (by decide) ?_
  show K 0 0 24 [.int (((x1 - ((Int32.toUInt32 x1 >>> (Int32.toUInt32 1 &&& Int32.toUInt32 31)).toInt32 &&& 1431655765)) &&& 858993459) + ((Int32.toUInt32 (x1 - ((Int32.toUInt32 x1 >>> (Int32.toUInt32 1 &&& Int32.toUInt32 31)).toInt32 &&& 1431655765)) >>> (Int32.toUInt32 2 &&& Int32.toUInt32 31)).toInt32 &&& 858993459))] [] (mb_s s)
  refine ro_iload_n hK dI_bitCount_24 rfl ?_
  refine ro_iload_n hK dI_bitCount_25 rfl ?_
  refine ro_iconst (x := 4) hK (by decide) dI_bitCount_26 ?_
  refine ro_iushr hK dI_bitCount_27 ?_
  refine ro_iadd hK dI_bitCount_28 ?_
  refine ro_ldcw hK cI_267 dI_bitCount_29 ?_
  refine ro_iand hK dI_bitCount_32 ?_
  refine ro_istore_n hK dI_bitCount_33 (by decide) ?_
  show K 0 0 34 [.int (((((x1 - ((Int32.toUInt32 x1 >>> (Int32.toUInt32 1 &&& Int32.toUInt32 31)).toInt32 &&& 1431655765)) &&& 858993459) + ((Int32.toUInt32 (x1 - ((Int32.toUInt32 x1 >>> (Int32.toUInt32 1 &&& Int32.toUInt32 31)).toInt32 &&& 1431655765)) >>> (Int32.toUInt32 2 &&& Int32.toUInt32 31)).toInt32 &&& 858993459)) + (Int32.toUInt32 (((x1 - ((Int32.toUInt32 x1 >>> (Int32.toUInt32 1 &&& Int32.toUInt32 31)).toInt32 &&& 1431655765)) &&& 858993459) + ((Int32.toUInt32 (x1 - ((Int32.toUInt32 x1 >>> (Int32.toUInt32 1 &&& Int32.toUInt32 31)).toInt32 &&& 1431655765)) >>> (Int32.toUInt32 2 &&& Int32.toUInt32 31)).toInt32 &&& 858993459)) >>> (Int32.toUInt32 4 &&& Int32.toUInt32 31)).toInt32) &&& 252645135)] [] (mb_s s)
  refine ro_iload_n hK dI_bitCount_34 rfl ?_
  refine ro_iload_n hK dI_bitCount_35 rfl ?_
  refine ro_bipush (x := 8) hK (by decide) dI_bitCount_36 ?_
  refine ro_iushr hK dI_bitCount_38 ?_
  refine ro_iadd hK dI_bitCount_39 ?_
  refine ro_istore_n hK dI_bitCount_40 (by decide) ?_
  show K 0 0 41 [.int ((((((x1 - ((Int32.toUInt32 x1 >>> (Int32.toUInt32 1 &&& Int32.toUInt32 31)).toInt32 &&& 1431655765)) &&& 858993459) + ((Int32.toUInt32 (x1 - ((Int32.toUInt32 x1 >>> (Int32.toUInt32 1 &&& Int32.toUInt32 31)).toInt32 &&& 1431655765)) >>> (Int32.toUInt32 2 &&& Int32.toUInt32 31)).toInt32 &&& 858993459)) + (Int32.toUInt32 (((x1 - ((Int32.toUInt32 x1 >>> (Int32.toUInt32 1 &&& Int32.toUInt32 31)).toInt32 &&& 1431655765)) &&& 858993459) + ((Int32.toUInt32 (x1 - ((Int32.toUInt32 x1 >>> (Int32.toUInt32 1 &&& Int32.toUInt32 31)).toInt32 &&& 1431655765)) >>> (Int32.toUInt32 2 &&& Int32.toUInt32 31)).toInt32 &&& 858993459)) >>> (Int32.toUInt32 4 &&& Int32.toUInt32 31)).toInt32) &&& 252645135) + (Int32.toUInt32 (((((x1 - ((Int32.toUInt32 x1 >>> (Int32.toUInt32 1 &&& Int32.toUInt32 31)).toInt32 &&& 1431655765)) &&& 858993459) + ((Int32.toUInt32 (x1 - ((Int32.toUInt32 x1 >>> (Int32.toUInt32 1 &&& Int32.toUInt32 31)).toInt32 &&& 1431655765)) >>> (Int32.toUInt32 2 &&& Int32.toUInt32 31)).toInt32 &&& 858993459)) + (Int32.toUInt32 (((x1 - ((Int32.toUInt32 x1 >>> (Int32.toUInt32 1 &&& Int32.toUInt32 31)).toInt32 &&& 1431655765)) &&& 858993459) + ((Int32.toUInt32 (x1 - ((Int32.toUInt32 x1 >>> (Int32.toUInt32 1 &&& Int32.toUInt32 31)).toInt32 &&& 1431655765)) >>> (Int32.toUInt32 2 &&& Int32.toUInt32 31)).toInt32 &&& 858993459)) >>> (Int32.toUInt32 4 &&& Int32.toUInt32 31)).toInt32) &&& 252645135) >>> (Int32.toUInt32 8 &&& Int32.toUInt32 31)).toInt32)] [] (mb_s s)
  refine ro_iload_n hK dI_bitCount_41 rfl ?_
  refine ro_iload_n hK dI_bitCount_42 rfl ?_
  refine ro_bipush (x := 16) hK (by decide) dI_bitCount_43 ?_
  refine ro_iushr hK dI_bitCount_45 ?_
  refine ro_iadd hK dI_bitCount_46 ?_
  refine ro_istore_n hK dI_bitCount_47 (by decide) ?_
  show K 0 0 48 [.int (((((((x1 - ((Int32.toUInt32 x1 >>> (Int32.toUInt32 1 &&& Int32.toUInt32 31)).toInt32 &&& 1431655765)) &&& 858993459) + ((Int32.toUInt32 (x1 - ((Int32.toUInt32 x1 >>> (Int32.toUInt32 1 &&& Int32.toUInt32 31)).toInt32 &&& 1431655765)) >>> (Int32.toUInt32 2 &&& Int32.toUInt32 31)).toInt32 &&& 858993459)) + (Int32.toUInt32 (((x1 - ((Int32.toUInt32 x1 >>> (Int32.toUInt32 1 &&& Int32.toUInt32 31)).toInt32 &&& 1431655765)) &&& 858993459) + ((Int32.toUInt32 (x1 - ((Int32.toUInt32 x1 >>> (Int32.toUInt32 1 &&& Int32.toUInt32 31)).toInt32 &&& 1431655765)) >>> (Int32.toUInt32 2 &&& Int32.toUInt32 31)).toInt32 &&& 858993459)) >>> (Int32.toUInt32 4 &&& Int32.toUInt32 31)).toInt32) &&& 252645135) + (Int32.toUInt32 (((((x1 - ((Int32.toUInt32 x1 >>> (Int32.toUInt32 1 &&& Int32.toUInt32 31)).toInt32 &&& 1431655765)) &&& 858993459) + ((Int32.toUInt32 (x1 - ((Int32.toUInt32 x1 >>> (Int32.toUInt32 1 &&& Int32.toUInt32 31)).toInt32 &&& 1431655765)) >>> (Int32.toUInt32 2 &&& Int32.toUInt32 31)).toInt32 &&& 858993459)) + (Int32.toUInt32 (((x1 - ((Int32.toUInt32 x1 >>> (Int32.toUInt32 1 &&& Int32.toUInt32 31)).toInt32 &&& 1431655765)) &&& 858993459) + ((Int32.toUInt32 (x1 - ((Int32.toUInt32 x1 >>> (Int32.toUInt32 1 &&& Int32.toUInt32 31)).toInt32 &&& 1431655765)) >>> (Int32.toUInt32 2 &&& Int32.toUInt32 31)).toInt32 &&& 858993459)) >>> (Int32.toUInt32 4 &&& Int32.toUInt32 31)).toInt32) &&& 252645135) >>> (Int32.toUInt32 8 &&& Int32.toUInt32 31)).toInt32) + (Int32.toUInt32 ((((((x1 - ((Int32.toUInt32 x1 >>> (Int32.toUInt32 1 &&& Int32.toUInt32 31)).toInt32 &&& 1431655765)) &&& 858993459) + ((Int32.toUInt32 (x1 - ((Int32.toUInt32 x1 >>> (Int32.toUInt32 1 &&& Int32.toUInt32 31)).toInt32 &&& 1431655765)) >>> (Int32.toUInt32 2 &&& Int32.toUInt32 31)).toInt32 &&& 858993459)) + (Int32.toUInt32 (((x1 - ((Int32.toUInt32 x1 >>> (Int32.toUInt32 1 &&& Int32.toUInt32 31)).toInt32 &&& 1431655765)) &&& 858993459) + ((Int32.toUInt32 (x1 - ((Int32.toUInt32 x1 >>> (Int32.toUInt32 1 &&& Int32.toUInt32 31)).toInt32 &&& 1431655765)) >>> (Int32.toUInt32 2 &&& Int32.toUInt32 31)).toInt32 &&& 858993459)) >>> (Int32.toUInt32 4 &&& Int32.toUInt32 31)).toInt32) &&& 252645135) + (Int32.toUInt32 (((((x1 - ((Int32.toUInt32 x1 >>> (Int32.toUInt32 1 &&& Int32.toUInt32 31)).toInt32 &&& 1431655765)) &&& 858993459) + ((Int32.toUInt32 (x1 - ((Int32.toUInt32 x1 >>> (Int32.toUInt32 1 &&& Int32.toUInt32 31)).toInt32 &&& 1431655765)) >>> (Int32.toUInt32 2 &&& Int32.toUInt32 31)).toInt32 &&& 858993459)) + (Int32.toUInt32 (((x1 - ((Int32.toUInt32 x1 >>> (Int32.toUInt32 1 &&& Int32.toUInt32 31)).toInt32 &&& 1431655765)) &&& 858993459) + ((Int32.toUInt32 (x1 - ((Int32.toUInt32 x1 >>> (Int32.toUInt32 1 &&& Int32.toUInt32 31)).toInt32 &&& 1431655765)) >>> (Int32.toUInt32 2 &&& Int32.toUInt32 31)).toInt32 &&& 858993459)) >>> (Int32.toUInt32 4 &&& Int32.toUInt32 31)).toInt32) &&& 252645135) >>> (Int32.toUInt32 8 &&& Int32.toUInt32 31)).toInt32) >>> (Int32.toUInt32 16 &&& Int32.toUInt32 31)).toInt32)] [] (mb_s s)
  refine ro_iload_n hK dI_bitCount_48 rfl ?_
  refine ro_bipush (x := 63) hK (by decide) dI_bitCount_49 ?_
  refine ro_iand hK dI_bitCount_51 ?_
  cases h
  exact hR.1 0 0 52 _ _ _ _ rfl rfl dI_bitCount_52 ⟨rfl, rfl⟩
theorem dY_fillB_0 : decode bY_fillB 0 = .ok (.iconst 0, 1) := by decide +kernel
theorem dY_fillB_1 : decode bY_fillB 1 = .ok (.istore_n 2, 1) := by decide +kernel
theorem dY_fillB_2 : decode bY_fillB 2 = .ok (.aload_n 0, 1) := by decide +kernel
theorem dY_fillB_3 : decode bY_fillB 3 = .ok (.arraylength, 1) := by decide +kernel
theorem dY_fillB_4 : decode bY_fillB 4 = .ok (.istore_n 3, 1) := by decide +kernel
theorem dY_fillB_5 : decode bY_fillB 5 = .ok (.iload_n 2, 1) := by decide +kernel
theorem dY_fillB_6 : decode bY_fillB 6 = .ok (.iload_n 3, 1) := by decide +kernel
theorem dY_fillB_7 : decode bY_fillB 7 = .ok (.if_icmp .ge 13, 3) := by decide +kernel
theorem dY_fillB_10 : decode bY_fillB 10 = .ok (.aload_n 0, 1) := by decide +kernel
theorem dY_fillB_11 : decode bY_fillB 11 = .ok (.iload_n 2, 1) := by decide +kernel
theorem dY_fillB_12 : decode bY_fillB 12 = .ok (.iload_n 1, 1) := by decide +kernel
theorem dY_fillB_13 : decode bY_fillB 13 = .ok (.bastore, 1) := by decide +kernel
theorem dY_fillB_14 : decode bY_fillB 14 = .ok (.iinc 2 1, 3) := by decide +kernel
theorem dY_fillB_17 : decode bY_fillB 17 = .ok (.goto (-12), 3) := by decide +kernel
theorem dY_fillB_20 : decode bY_fillB 20 = .ok (.return_, 1) := by decide +kernel
def f_Y_fillB_5 (n : Nat) (k0 : Int32 → mb_T → Option (mb_T)) (y0 z0 : Nat) (y1 : Int32) (y3 : Int32) : Nat → Int32 → mb_T → Option (mb_T)
  | 0, _, _ => none
  | f + 1, w2, s => if y3 ≤ w2 then k0 w2 s else mb_wr s y0 z0 w2 (Int8.toInt32 (Int32.toInt8 y1)) fun s_2 => f_Y_fillB_5 n k0 y0 z0 y1 y3 f (w2 + 1) s_2
def f_Y_fillB (n : Nat) (a1 n1 : Nat) (x2 : Int32) (s : mb_T) : Option (mb_T) := f_Y_fillB_5 n (fun x_5 s_6 => some s_6) a1 n1 x2 (Int32.ofNat n1) n 0 s
set_option maxHeartbeats 4000000 in
set_option maxRecDepth 100000 in
theorem tl_Y_fillB_5 {dd n : Nat} {K : mj_KT} {out : mb_T} (hK : mj_C (dd + 1) 0 0 RY_c "fill" bY_fillB 4 K) (hR : mj_R bY_fillB none (fun r2 S2 => r2 = none ∧ S2 = mb_s out) K) {k0 : Int32 → mb_T → Option (mb_T)} {y0 z0 : Nat} {y1 : Int32} {y3 : Int32} (hy0 : mb_ab y0 z0) (hk0 : ∀ (w2 : Int32) (s : mb_T), k0 w2 s = some out → K 0 0 20 [.ref y0, .int y1, .int w2, .int y3] [] (mb_s s)) : ∀ (f : Nat) (w2 : Int32) (s : mb_T), f_Y_fillB_5 n k0 y0 z0 y1 y3 f w2 s = some out → K 0 0 5 [.ref y0, .int y1, .int w2, .int y3] [] (mb_s s) := by
  intro f
  induction f with
  | zero =>
    intro w2 s h
    cases h
  | succ f ih =>
    intro w2 s h
    rw [f_Y_fillB_5] at h
    refine ro_iload_n hK dY_fillB_5 rfl ?_
    refine ro_iload_n hK dY_fillB_6 rfl ?_
    refine ro_icmp_ge (tgt := 20) hK dY_fillB_7 (by decide) (fun c_1 => ?_) (fun c_1 => ?_)
    · replace h := mb_ift c_1 h
      refine ro_fg (lv' := [.ref y0, .int y1, .int w2, .int y3]) hK ⟨Or.inr rfl, ⟨Or.inr rfl, ⟨Or.inr rfl, ⟨Or.inr rfl, trivial⟩⟩⟩⟩ ?_
      exact hk0 _ _ h
    · replace h := mb_iff c_1 h
      refine ro_aload_n hK dY_fillB_10 rfl ?_
      refine ro_iload_n hK dY_fillB_11 rfl ?_
      refine ro_iload_n hK dY_fillB_12 rfl ?_
      obtain ⟨s_2, e_3, i_4, h⟩ := mb_wr_e h
      refine rb_bast hK hy0 i_4 e_3 dY_fillB_13 ?_
      refine ro_iincv (c := 1) hK (by decide) dY_fillB_14 rfl (by decide) ?_
      show K 0 0 17 [.ref y0, .int y1, .int (w2 + 1), .int y3] [] (mb_s s_2)
      refine ro_goto (tgt := 5) hK dY_fillB_17 (by decide) ?_
      refine ro_fg (lv' := [.ref y0, .int y1, .int (w2 + 1), .int y3]) hK ⟨Or.inr rfl, ⟨Or.inr rfl, ⟨Or.inr rfl, ⟨Or.inr rfl, trivial⟩⟩⟩⟩ ?_
      exact ih _ _ h
set_option maxHeartbeats 4000000 in
set_option maxRecDepth 100000 in
theorem t_Y_fillB {dd n : Nat} {a1 n1 : Nat} {x2 : Int32} {s : mb_T} {out : mb_T} (ha1 : mb_ab a1 n1) (h : f_Y_fillB n a1 n1 x2 s = some out) : mb_MC (dd + 1) yY_fillB bY_fillB 4 none [.ref a1, .int x2] s none out := by
  unfold f_Y_fillB at h
  refine mj_mc (lv := [.ref a1, .int x2, .retAddr 0, .retAddr 0]) mY_fillB rfl rfl (Nat.le_of_ble_eq_true rfl) (fun K hK hR => ?_)
  have hK : mj_C (dd + 1) 0 0 RY_c "fill" bY_fillB 4 K := hK
  refine ro_iconst (x := 0) hK (by decide) dY_fillB_0 ?_
  refine ro_istore_n hK dY_fillB_1 (by decide) ?_
  show K 0 0 2 [.ref a1, .int x2, .int 0, .retAddr 0] [] (mb_s s)
  refine ro_aload_n hK dY_fillB_2 rfl ?_
  refine rb_alenB hK ha1 dY_fillB_3 ?_
  refine ro_istore_n hK dY_fillB_4 (by decide) ?_
  show K 0 0 5 [.ref a1, .int x2, .int 0, .int (Int32.ofNat n1)] [] (mb_s s)
  refine ro_fg (lv' := [.ref a1, .int x2, .int 0, .int (Int32.ofNat n1)]) hK ⟨Or.inr rfl, ⟨Or.inr rfl, ⟨Or.inr rfl, ⟨Or.inr rfl, trivial⟩⟩⟩⟩ ?_
  refine tl_Y_fillB_5 (dd := dd) hK hR ha1 (fun x_5 s_6 h => ?_) n _ _ h
  cases h
  exact hR.2.2 0 0 20 _ _ rfl dY_fillB_20 ⟨rfl, rfl⟩
theorem dY_fillI_0 : decode bY_fillI 0 = .ok (.iconst 0, 1) := by decide +kernel
theorem dY_fillI_1 : decode bY_fillI 1 = .ok (.istore_n 2, 1) := by decide +kernel
theorem dY_fillI_2 : decode bY_fillI 2 = .ok (.aload_n 0, 1) := by decide +kernel
theorem dY_fillI_3 : decode bY_fillI 3 = .ok (.arraylength, 1) := by decide +kernel
theorem dY_fillI_4 : decode bY_fillI 4 = .ok (.istore_n 3, 1) := by decide +kernel
theorem dY_fillI_5 : decode bY_fillI 5 = .ok (.iload_n 2, 1) := by decide +kernel
theorem dY_fillI_6 : decode bY_fillI 6 = .ok (.iload_n 3, 1) := by decide +kernel
theorem dY_fillI_7 : decode bY_fillI 7 = .ok (.if_icmp .ge 13, 3) := by decide +kernel
theorem dY_fillI_10 : decode bY_fillI 10 = .ok (.aload_n 0, 1) := by decide +kernel
theorem dY_fillI_11 : decode bY_fillI 11 = .ok (.iload_n 2, 1) := by decide +kernel
theorem dY_fillI_12 : decode bY_fillI 12 = .ok (.iload_n 1, 1) := by decide +kernel
theorem dY_fillI_13 : decode bY_fillI 13 = .ok (.iastore, 1) := by decide +kernel
theorem dY_fillI_14 : decode bY_fillI 14 = .ok (.iinc 2 1, 3) := by decide +kernel
theorem dY_fillI_17 : decode bY_fillI 17 = .ok (.goto (-12), 3) := by decide +kernel
theorem dY_fillI_20 : decode bY_fillI 20 = .ok (.return_, 1) := by decide +kernel
def f_Y_fillI_5 (n : Nat) (k0 : Int32 → mb_T → Option (mb_T)) (y0 z0 : Nat) (y1 : Int32) (y3 : Int32) : Nat → Int32 → mb_T → Option (mb_T)
  | 0, _, _ => none
  | f + 1, w2, s => if y3 ≤ w2 then k0 w2 s else mb_wr s y0 z0 w2 y1 fun s_2 => f_Y_fillI_5 n k0 y0 z0 y1 y3 f (w2 + 1) s_2
def f_Y_fillI (n : Nat) (a1 n1 : Nat) (x2 : Int32) (s : mb_T) : Option (mb_T) := f_Y_fillI_5 n (fun x_5 s_6 => some s_6) a1 n1 x2 (Int32.ofNat n1) n 0 s
set_option maxHeartbeats 4000000 in
set_option maxRecDepth 100000 in
theorem tl_Y_fillI_5 {dd n : Nat} {K : mj_KT} {out : mb_T} (hK : mj_C (dd + 1) 0 0 RY_c "fill" bY_fillI 4 K) (hR : mj_R bY_fillI none (fun r2 S2 => r2 = none ∧ S2 = mb_s out) K) {k0 : Int32 → mb_T → Option (mb_T)} {y0 z0 : Nat} {y1 : Int32} {y3 : Int32} (hy0 : mb_ai y0 z0) (hk0 : ∀ (w2 : Int32) (s : mb_T), k0 w2 s = some out → K 0 0 20 [.ref y0, .int y1, .int w2, .int y3] [] (mb_s s)) : ∀ (f : Nat) (w2 : Int32) (s : mb_T), f_Y_fillI_5 n k0 y0 z0 y1 y3 f w2 s = some out → K 0 0 5 [.ref y0, .int y1, .int w2, .int y3] [] (mb_s s) := by
  intro f
  induction f with
  | zero =>
    intro w2 s h
    cases h
  | succ f ih =>
    intro w2 s h
    rw [f_Y_fillI_5] at h
    refine ro_iload_n hK dY_fillI_5 rfl ?_
    refine ro_iload_n hK dY_fillI_6 rfl ?_
    refine ro_icmp_ge (tgt := 20) hK dY_fillI_7 (by decide) (fun c_1 => ?_) (fun c_1 => ?_)
    · replace h := mb_ift c_1 h
      refine ro_fg (lv' := [.ref y0, .int y1, .int w2, .int y3]) hK ⟨Or.inr rfl, ⟨Or.inr rfl, ⟨Or.inr rfl, ⟨Or.inr rfl, trivial⟩⟩⟩⟩ ?_
      exact hk0 _ _ h
    · replace h := mb_iff c_1 h
      refine ro_aload_n hK dY_fillI_10 rfl ?_
      refine ro_iload_n hK dY_fillI_11 rfl ?_
      refine ro_iload_n hK dY_fillI_12 rfl ?_
      obtain ⟨s_2, e_3, i_4, h⟩ := mb_wr_e h
      refine rb_iast hK hy0 i_4 e_3 dY_fillI_13 ?_
      refine ro_iincv (c := 1) hK (by decide) dY_fillI_14 rfl (by decide) ?_
      show K 0 0 17 [.ref y0, .int y1, .int (w2 + 1), .int y3] [] (mb_s s_2)
      refine ro_goto (tgt := 5) hK dY_fillI_17 (by decide) ?_
      refine ro_fg (lv' := [.ref y0, .int y1, .int (w2 + 1), .int y3]) hK ⟨Or.inr rfl, ⟨Or.inr rfl, ⟨Or.inr rfl, ⟨Or.inr rfl, trivial⟩⟩⟩⟩ ?_
      exact ih _ _ h
set_option maxHeartbeats 4000000 in
set_option maxRecDepth 100000 in
theorem t_Y_fillI {dd n : Nat} {a1 n1 : Nat} {x2 : Int32} {s : mb_T} {out : mb_T} (ha1 : mb_ai a1 n1) (h : f_Y_fillI n a1 n1 x2 s = some out) : mb_MC (dd + 1) yY_fillI bY_fillI 4 none [.ref a1, .int x2] s none out := by
  unfold f_Y_fillI at h
  refine mj_mc (lv := [.ref a1, .int x2, .retAddr 0, .retAddr 0]) mY_fillI rfl rfl (Nat.le_of_ble_eq_true rfl) (fun K hK hR => ?_)
  have hK : mj_C (dd + 1) 0 0 RY_c "fill" bY_fillI 4 K := hK
  refine ro_iconst (x := 0) hK (by decide) dY_fillI_0 ?_
  refine ro_istore_n hK dY_fillI_1 (by decide) ?_
  show K 0 0 2 [.ref a1, .int x2, .int 0, .retAddr 0] [] (mb_s s)
  refine ro_aload_n hK dY_fillI_2 rfl ?_
  refine rb_alenI hK ha1 dY_fillI_3 ?_
  refine ro_istore_n hK dY_fillI_4 (by decide) ?_
  show K 0 0 5 [.ref a1, .int x2, .int 0, .int (Int32.ofNat n1)] [] (mb_s s)
  refine ro_fg (lv' := [.ref a1, .int x2, .int 0, .int (Int32.ofNat n1)]) hK ⟨Or.inr rfl, ⟨Or.inr rfl, ⟨Or.inr rfl, ⟨Or.inr rfl, trivial⟩⟩⟩⟩ ?_
  refine tl_Y_fillI_5 (dd := dd) hK hR ha1 (fun x_5 s_6 h => ?_) n _ _ h
  cases h
  exact hR.2.2 0 0 20 _ _ rfl dY_fillI_20 ⟨rfl, rfl⟩
theorem dC_copy_0 : decode bC_copy 0 = .ok (.iload_n 1, 1) := by decide +kernel
theorem dC_copy_1 : decode bC_copy 1 = .ok (.invokestatic 83, 3) := by decide +kernel
theorem dC_copy_4 : decode bC_copy 4 = .ok (.ifCond .eq 10, 3) := by decide +kernel
theorem dC_copy_7 : decode bC_copy 7 = .ok (.iload_n 3, 1) := by decide +kernel
theorem dC_copy_8 : decode bC_copy 8 = .ok (.invokestatic 83, 3) := by decide +kernel
theorem dC_copy_11 : decode bC_copy 11 = .ok (.ifCond .ne 5, 3) := by decide +kernel
theorem dC_copy_14 : decode bC_copy 14 = .ok (.iconst (-1), 1) := by decide +kernel
theorem dC_copy_15 : decode bC_copy 15 = .ok (.ireturn, 1) := by decide +kernel
theorem dC_copy_16 : decode bC_copy 16 = .ok (.iload 5, 2) := by decide +kernel
theorem dC_copy_18 : decode bC_copy 18 = .ok (.ifCond .ge 9, 3) := by decide +kernel
theorem dC_copy_21 : decode bC_copy 21 = .ok (.aload_n 0, 1) := by decide +kernel
theorem dC_copy_22 : decode bC_copy 22 = .ok (.iconst 5, 1) := by decide +kernel
theorem dC_copy_23 : decode bC_copy 23 = .ok (.invokevirtual 87, 3) := by decide +kernel
theorem dC_copy_26 : decode bC_copy 26 = .ok (.ireturn, 1) := by decide +kernel
theorem dC_copy_27 : decode bC_copy 27 = .ok (.aload_n 0, 1) := by decide +kernel
theorem dC_copy_28 : decode bC_copy 28 = .ok (.getfield 14, 3) := by decide +kernel
theorem dC_copy_31 : decode bC_copy 31 = .ok (.iload_n 1, 1) := by decide +kernel
theorem dC_copy_32 : decode bC_copy 32 = .ok (.iaload, 1) := by decide +kernel
theorem dC_copy_33 : decode bC_copy 33 = .ok (.ifCond .lt 12, 3) := by decide +kernel
theorem dC_copy_36 : decode bC_copy 36 = .ok (.aload_n 0, 1) := by decide +kernel
theorem dC_copy_37 : decode bC_copy 37 = .ok (.getfield 14, 3) := by decide +kernel
theorem dC_copy_40 : decode bC_copy 40 = .ok (.iload_n 3, 1) := by decide +kernel
theorem dC_copy_41 : decode bC_copy 41 = .ok (.iaload, 1) := by decide +kernel
theorem dC_copy_42 : decode bC_copy 42 = .ok (.ifCond .ge 9, 3) := by decide +kernel
theorem dC_copy_45 : decode bC_copy 45 = .ok (.aload_n 0, 1) := by decide +kernel
theorem dC_copy_46 : decode bC_copy 46 = .ok (.iconst 1, 1) := by decide +kernel
theorem dC_copy_47 : decode bC_copy 47 = .ok (.invokevirtual 87, 3) := by decide +kernel
theorem dC_copy_50 : decode bC_copy 50 = .ok (.ireturn, 1) := by decide +kernel
theorem dC_copy_51 : decode bC_copy 51 = .ok (.aload_n 0, 1) := by decide +kernel
theorem dC_copy_52 : decode bC_copy 52 = .ok (.getfield 14, 3) := by decide +kernel
theorem dC_copy_55 : decode bC_copy 55 = .ok (.iload_n 1, 1) := by decide +kernel
theorem dC_copy_56 : decode bC_copy 56 = .ok (.iaload, 1) := by decide +kernel
theorem dC_copy_57 : decode bC_copy 57 = .ok (.iload_n 2, 1) := by decide +kernel
theorem dC_copy_58 : decode bC_copy 58 = .ok (.iload 5, 2) := by decide +kernel
theorem dC_copy_60 : decode bC_copy 60 = .ok (.invokestatic 98, 3) := by decide +kernel
theorem dC_copy_63 : decode bC_copy 63 = .ok (.ifCond .eq 19, 3) := by decide +kernel
theorem dC_copy_66 : decode bC_copy 66 = .ok (.aload_n 0, 1) := by decide +kernel
theorem dC_copy_67 : decode bC_copy 67 = .ok (.getfield 14, 3) := by decide +kernel
theorem dC_copy_70 : decode bC_copy 70 = .ok (.iload_n 3, 1) := by decide +kernel
theorem dC_copy_71 : decode bC_copy 71 = .ok (.iaload, 1) := by decide +kernel
theorem dC_copy_72 : decode bC_copy 72 = .ok (.iload 4, 2) := by decide +kernel
theorem dC_copy_74 : decode bC_copy 74 = .ok (.iload 5, 2) := by decide +kernel
theorem dC_copy_76 : decode bC_copy 76 = .ok (.invokestatic 98, 3) := by decide +kernel
theorem dC_copy_79 : decode bC_copy 79 = .ok (.ifCond .ne 9, 3) := by decide +kernel
theorem dC_copy_82 : decode bC_copy 82 = .ok (.aload_n 0, 1) := by decide +kernel
theorem dC_copy_83 : decode bC_copy 83 = .ok (.iconst 2, 1) := by decide +kernel
theorem dC_copy_84 : decode bC_copy 84 = .ok (.invokevirtual 87, 3) := by decide +kernel
theorem dC_copy_87 : decode bC_copy 87 = .ok (.ireturn, 1) := by decide +kernel
theorem dC_copy_88 : decode bC_copy 88 = .ok (.aload_n 0, 1) := by decide +kernel
theorem dC_copy_89 : decode bC_copy 89 = .ok (.getfield 11, 3) := by decide +kernel
theorem dC_copy_92 : decode bC_copy 92 = .ok (.iload_n 1, 1) := by decide +kernel
theorem dC_copy_93 : decode bC_copy 93 = .ok (.aaload, 1) := by decide +kernel
theorem dC_copy_94 : decode bC_copy 94 = .ok (.iload_n 2, 1) := by decide +kernel
theorem dC_copy_95 : decode bC_copy 95 = .ok (.aload_n 0, 1) := by decide +kernel
theorem dC_copy_96 : decode bC_copy 96 = .ok (.getfield 11, 3) := by decide +kernel
theorem dC_copy_99 : decode bC_copy 99 = .ok (.iload_n 3, 1) := by decide +kernel
theorem dC_copy_100 : decode bC_copy 100 = .ok (.aaload, 1) := by decide +kernel
theorem dC_copy_101 : decode bC_copy 101 = .ok (.iload 4, 2) := by decide +kernel
theorem dC_copy_103 : decode bC_copy 103 = .ok (.iload 5, 2) := by decide +kernel
theorem dC_copy_105 : decode bC_copy 105 = .ok (.invokestatic 102, 3) := by decide +kernel
theorem dC_copy_108 : decode bC_copy 108 = .ok (.iconst 1, 1) := by decide +kernel
theorem dC_copy_109 : decode bC_copy 109 = .ok (.ireturn, 1) := by decide +kernel
def f_C_copy (n : Nat) (x1 : Int32) (x2 : Int32) (x3 : Int32) (x4 : Int32) (x5 : Int32) (s : mb_T) : Option (Int32 × mb_T) := mb_cl (f_C_isRow n x1 s) fun r_3 s_1 => if r_3 = 0 then some ((-1), s_1) else mb_cl (f_C_isRow n x3 s_1) fun r_7 s_5 => if r_7 = 0 then some ((-1), s_5) else if 0 ≤ x5 then (mb_rd s_5 1 6 x1 fun x_10 => mb_jn (fun (s_44 : mb_T) => mb_cl (f_C_found n 1 s_44) fun r_47 s_45 => some (r_47, s_45)) fun j_13 => if x_10 < 0 then j_13 s_5 else mb_rd s_5 1 6 x3 fun x_15 => if 0 ≤ x_15 then (mb_rd s_5 1 6 x1 fun x_19 => mb_cl (f_C_hasPlaces n x_19 x2 x5 s_5) fun r_24 s_22 => mb_jn (fun (s_39 : mb_T) => mb_cl (f_C_found n 2 s_39) fun r_42 s_40 => some (r_42, s_40)) fun j_25 => if r_24 = 0 then j_25 s_22 else mb_rd s_22 1 6 x3 fun x_27 => mb_cl (f_C_hasPlaces n x_27 x4 x5 s_22) fun r_32 s_30 => if r_32 = 0 then j_25 s_30 else mb_ix x1 6 (mb_ix x3 6 (mb_cp s_30 (20 + x1.toNatClampNeg) 60 (20 + x3.toNatClampNeg) 60 x2 x4 x5 fun s_36 => some (1, s_36)))) else j_13 s_5) else mb_cl (f_C_found n 5 s_5) fun r_51 s_49 => some (r_51, s_49)
set_option maxHeartbeats 4000000 in
set_option maxRecDepth 100000 in
theorem t_C_copy {dd n : Nat} {x1 : Int32} {x2 : Int32} {x3 : Int32} {x4 : Int32} {x5 : Int32} {s : mb_T} {out : Int32 × mb_T}  (h : f_C_copy n x1 x2 x3 x4 x5 s = some out) : mb_MC (dd + 2) yC_copy bC_copy 6 (some .int) [.ref 0, .int x1, .int x2, .int x3, .int x4, .int x5] s (some (.int out.1)) out.2 := by
  unfold f_C_copy at h
  refine mj_mc (lv := [.ref 0, .int x1, .int x2, .int x3, .int x4, .int x5]) mC_copy rfl rfl (Nat.le_of_ble_eq_true rfl) (fun K hK hR => ?_)
  have hK : mj_C (dd + 2) 0 0 RC_c "copy" bC_copy 6 K := hK
  refine ro_iload_n hK dC_copy_0 rfl ?_
  obtain ⟨r_3, s_1, q_2, h⟩ := mb_cl_e h
  refine rb_callS hK mC_isRow vC_83 (t_C_isRow (dd := dd + 0) q_2) rfl (Nat.le_of_ble_eq_true rfl) dC_copy_1 rfl ⟨Nat.le_refl _, Nat.le_refl _⟩ ?_
  show K 0 0 4 [.ref 0, .int x1, .int x2, .int x3, .int x4, .int x5] [.int r_3] (mb_s s_1)
  refine ro_if_eq (tgt := 14) hK dC_copy_4 (by decide) (fun c_4 => ?_) (fun c_4 => ?_)
  · replace h := mb_ift c_4 h
    refine ro_iconst (x := (-1)) hK (by decide) dC_copy_14 ?_
    cases h
    exact hR.1 0 0 15 _ _ _ _ rfl rfl dC_copy_15 ⟨rfl, rfl⟩
  · replace h := mb_iff c_4 h
    refine ro_iload_n hK dC_copy_7 rfl ?_
    obtain ⟨r_7, s_5, q_6, h⟩ := mb_cl_e h
    refine rb_callS hK mC_isRow vC_83 (t_C_isRow (dd := dd + 0) q_6) rfl (Nat.le_of_ble_eq_true rfl) dC_copy_8 rfl ⟨Nat.le_refl _, Nat.le_refl _⟩ ?_
    show K 0 0 11 [.ref 0, .int x1, .int x2, .int x3, .int x4, .int x5] [.int r_7] (mb_s s_5)
    refine ro_if_ne (tgt := 16) hK dC_copy_11 (by decide) (fun c_8 => ?_) (fun c_8 => ?_)
    · replace h := mb_iff c_8 h
      refine ro_iload hK dC_copy_16 rfl ?_
      refine ro_if_ge (tgt := 27) hK dC_copy_18 (by decide) (fun c_9 => ?_) (fun c_9 => ?_)
      · replace h := mb_ift c_9 h
        refine ro_aload_n hK dC_copy_27 rfl ?_
        refine rb_get hK fC_14 mb_oC rfl dC_copy_28 ?_
        refine ro_iload_n hK dC_copy_31 rfl ?_
        obtain ⟨x_10, e_11, i_12, h⟩ := mb_rd_e h
        refine rb_iald hK ai_1 i_12 e_11 dC_copy_32 ?_
        obtain ⟨j_13, e_48, h⟩ := mb_jn_e h
        have hj_13 : ∀ (s_44 : mb_T), j_13 s_44 = some out → K 0 0 45 [.ref 0, .int x1, .int x2, .int x3, .int x4, .int x5] [] (mb_s s_44) := by
          intro s_44 h
          rw [e_48] at h
          refine ro_aload_n hK dC_copy_45 rfl ?_
          refine ro_iconst (x := 1) hK (by decide) dC_copy_46 ?_
          obtain ⟨r_47, s_45, q_46, h⟩ := mb_cl_e h
          refine rb_callV hK mC_found vC_87 (t_C_found (dd := dd + 0) q_46) rfl mb_oC rfl (Nat.le_of_ble_eq_true rfl) dC_copy_47 rfl ⟨Nat.le_refl _, Nat.le_refl _⟩ ?_
          show K 0 0 50 [.ref 0, .int x1, .int x2, .int x3, .int x4, .int x5] [.int r_47] (mb_s s_45)
          cases h
          exact hR.1 0 0 50 _ _ _ _ rfl rfl dC_copy_50 ⟨rfl, rfl⟩
        refine ro_if_lt (tgt := 45) hK dC_copy_33 (by decide) (fun c_14 => ?_) (fun c_14 => ?_)
        · replace h := mb_ift c_14 h
          refine ro_fg (lv' := [.ref 0, .int x1, .int x2, .int x3, .int x4, .int x5]) hK ⟨Or.inr rfl, ⟨Or.inr rfl, ⟨Or.inr rfl, ⟨Or.inr rfl, ⟨Or.inr rfl, ⟨Or.inr rfl, trivial⟩⟩⟩⟩⟩⟩ ?_
          exact hj_13 _ h
        · replace h := mb_iff c_14 h
          refine ro_aload_n hK dC_copy_36 rfl ?_
          refine rb_get hK fC_14 mb_oC rfl dC_copy_37 ?_
          refine ro_iload_n hK dC_copy_40 rfl ?_
          obtain ⟨x_15, e_16, i_17, h⟩ := mb_rd_e h
          refine rb_iald hK ai_1 i_17 e_16 dC_copy_41 ?_
          refine ro_if_ge (tgt := 51) hK dC_copy_42 (by decide) (fun c_18 => ?_) (fun c_18 => ?_)
          · replace h := mb_ift c_18 h
            refine ro_aload_n hK dC_copy_51 rfl ?_
            refine rb_get hK fC_14 mb_oC rfl dC_copy_52 ?_
            refine ro_iload_n hK dC_copy_55 rfl ?_
            obtain ⟨x_19, e_20, i_21, h⟩ := mb_rd_e h
            refine rb_iald hK ai_1 i_21 e_20 dC_copy_56 ?_
            refine ro_iload_n hK dC_copy_57 rfl ?_
            refine ro_iload hK dC_copy_58 rfl ?_
            obtain ⟨r_24, s_22, q_23, h⟩ := mb_cl_e h
            refine rb_callS hK mC_hasPlaces vC_98 (t_C_hasPlaces (dd := dd + 0) q_23) rfl (Nat.le_of_ble_eq_true rfl) dC_copy_60 rfl ⟨Nat.le_refl _, Nat.le_refl _⟩ ?_
            show K 0 0 63 [.ref 0, .int x1, .int x2, .int x3, .int x4, .int x5] [.int r_24] (mb_s s_22)
            obtain ⟨j_25, e_43, h⟩ := mb_jn_e h
            have hj_25 : ∀ (s_39 : mb_T), j_25 s_39 = some out → K 0 0 82 [.ref 0, .int x1, .int x2, .int x3, .int x4, .int x5] [] (mb_s s_39) := by
              intro s_39 h
              rw [e_43] at h
              refine ro_aload_n hK dC_copy_82 rfl ?_
              refine ro_iconst (x := 2) hK (by decide) dC_copy_83 ?_
              obtain ⟨r_42, s_40, q_41, h⟩ := mb_cl_e h
              refine rb_callV hK mC_found vC_87 (t_C_found (dd := dd + 0) q_41) rfl mb_oC rfl (Nat.le_of_ble_eq_true rfl) dC_copy_84 rfl ⟨Nat.le_refl _, Nat.le_refl _⟩ ?_
              show K 0 0 87 [.ref 0, .int x1, .int x2, .int x3, .int x4, .int x5] [.int r_42] (mb_s s_40)
              cases h
              exact hR.1 0 0 87 _ _ _ _ rfl rfl dC_copy_87 ⟨rfl, rfl⟩
            refine ro_if_eq (tgt := 82) hK dC_copy_63 (by decide) (fun c_26 => ?_) (fun c_26 => ?_)
            · replace h := mb_ift c_26 h
              refine ro_fg (lv' := [.ref 0, .int x1, .int x2, .int x3, .int x4, .int x5]) hK ⟨Or.inr rfl, ⟨Or.inr rfl, ⟨Or.inr rfl, ⟨Or.inr rfl, ⟨Or.inr rfl, ⟨Or.inr rfl, trivial⟩⟩⟩⟩⟩⟩ ?_
              exact hj_25 _ h
            · replace h := mb_iff c_26 h
              refine ro_aload_n hK dC_copy_66 rfl ?_
              refine rb_get hK fC_14 mb_oC rfl dC_copy_67 ?_
              refine ro_iload_n hK dC_copy_70 rfl ?_
              obtain ⟨x_27, e_28, i_29, h⟩ := mb_rd_e h
              refine rb_iald hK ai_1 i_29 e_28 dC_copy_71 ?_
              refine ro_iload hK dC_copy_72 rfl ?_
              refine ro_iload hK dC_copy_74 rfl ?_
              obtain ⟨r_32, s_30, q_31, h⟩ := mb_cl_e h
              refine rb_callS hK mC_hasPlaces vC_98 (t_C_hasPlaces (dd := dd + 0) q_31) rfl (Nat.le_of_ble_eq_true rfl) dC_copy_76 rfl ⟨Nat.le_refl _, Nat.le_refl _⟩ ?_
              show K 0 0 79 [.ref 0, .int x1, .int x2, .int x3, .int x4, .int x5] [.int r_32] (mb_s s_30)
              refine ro_if_ne (tgt := 88) hK dC_copy_79 (by decide) (fun c_33 => ?_) (fun c_33 => ?_)
              · replace h := mb_iff c_33 h
                refine ro_aload_n hK dC_copy_88 rfl ?_
                refine rb_get hK fC_11 mb_oC rfl dC_copy_89 ?_
                refine ro_iload_n hK dC_copy_92 rfl ?_
                obtain ⟨i_34, h⟩ := mb_ix_e h
                refine rb_rows hK i_34 dC_copy_93 ?_
                refine ro_iload_n hK dC_copy_94 rfl ?_
                refine ro_aload_n hK dC_copy_95 rfl ?_
                refine rb_get hK fC_11 mb_oC rfl dC_copy_96 ?_
                refine ro_iload_n hK dC_copy_99 rfl ?_
                obtain ⟨i_35, h⟩ := mb_ix_e h
                refine rb_rows hK i_35 dC_copy_100 ?_
                refine ro_iload hK dC_copy_101 rfl ?_
                refine ro_iload hK dC_copy_103 rfl ?_
                obtain ⟨s_36, e_37, i_38, h⟩ := mb_cp_e h
                refine rb_copy hK vC_102 (by omega) (Nat.le_of_ble_eq_true rfl) (mb_rw i_34) (mb_rw i_35) i_38 e_37 dC_copy_105 ?_
                refine ro_iconst (x := 1) hK (by decide) dC_copy_108 ?_
                cases h
                exact hR.1 0 0 109 _ _ _ _ rfl rfl dC_copy_109 ⟨rfl, rfl⟩
              · replace h := mb_ift c_33 h
                refine ro_fg (lv' := [.ref 0, .int x1, .int x2, .int x3, .int x4, .int x5]) hK ⟨Or.inr rfl, ⟨Or.inr rfl, ⟨Or.inr rfl, ⟨Or.inr rfl, ⟨Or.inr rfl, ⟨Or.inr rfl, trivial⟩⟩⟩⟩⟩⟩ ?_
                exact hj_25 _ h
          · replace h := mb_iff c_18 h
            refine ro_fg (lv' := [.ref 0, .int x1, .int x2, .int x3, .int x4, .int x5]) hK ⟨Or.inr rfl, ⟨Or.inr rfl, ⟨Or.inr rfl, ⟨Or.inr rfl, ⟨Or.inr rfl, ⟨Or.inr rfl, trivial⟩⟩⟩⟩⟩⟩ ?_
            exact hj_13 _ h
      · replace h := mb_iff c_9 h
        refine ro_aload_n hK dC_copy_21 rfl ?_
        refine ro_iconst (x := 5) hK (by decide) dC_copy_22 ?_
        obtain ⟨r_51, s_49, q_50, h⟩ := mb_cl_e h
        refine rb_callV hK mC_found vC_87 (t_C_found (dd := dd + 0) q_50) rfl mb_oC rfl (Nat.le_of_ble_eq_true rfl) dC_copy_23 rfl ⟨Nat.le_refl _, Nat.le_refl _⟩ ?_
        show K 0 0 26 [.ref 0, .int x1, .int x2, .int x3, .int x4, .int x5] [.int r_51] (mb_s s_49)
        cases h
        exact hR.1 0 0 26 _ _ _ _ rfl rfl dC_copy_26 ⟨rfl, rfl⟩
    · replace h := mb_ift c_8 h
      refine ro_iconst (x := (-1)) hK (by decide) dC_copy_14 ?_
      cases h
      exact hR.1 0 0 15 _ _ _ _ rfl rfl dC_copy_15 ⟨rfl, rfl⟩
theorem dC_fear_0 : decode bC_fear 0 = .ok (.aload_n 0, 1) := by decide +kernel
theorem dC_fear_1 : decode bC_fear 1 = .ok (.iload_n 1, 1) := by decide +kernel
theorem dC_fear_2 : decode bC_fear 2 = .ok (.invokevirtual 131, 3) := by decide +kernel
theorem dC_fear_5 : decode bC_fear 5 = .ok (.ifCond .eq 13, 3) := by decide +kernel
theorem dC_fear_8 : decode bC_fear 8 = .ok (.iload_n 2, 1) := by decide +kernel
theorem dC_fear_9 : decode bC_fear 9 = .ok (.ifCond .lt 9, 3) := by decide +kernel
theorem dC_fear_12 : decode bC_fear 12 = .ok (.iload_n 2, 1) := by decide +kernel
theorem dC_fear_13 : decode bC_fear 13 = .ok (.bipush 99, 2) := by decide +kernel
theorem dC_fear_15 : decode bC_fear 15 = .ok (.if_icmp .le 5, 3) := by decide +kernel
theorem dC_fear_18 : decode bC_fear 18 = .ok (.iconst (-1), 1) := by decide +kernel
theorem dC_fear_19 : decode bC_fear 19 = .ok (.ireturn, 1) := by decide +kernel
theorem dC_fear_20 : decode bC_fear 20 = .ok (.aload_n 0, 1) := by decide +kernel
theorem dC_fear_21 : decode bC_fear 21 = .ok (.getfield 29, 3) := by decide +kernel
theorem dC_fear_24 : decode bC_fear 24 = .ok (.getfield 177, 3) := by decide +kernel
theorem dC_fear_27 : decode bC_fear 27 = .ok (.iload_n 1, 1) := by decide +kernel
theorem dC_fear_28 : decode bC_fear 28 = .ok (.iaload, 1) := by decide +kernel
theorem dC_fear_29 : decode bC_fear 29 = .ok (.istore_n 3, 1) := by decide +kernel
theorem dC_fear_30 : decode bC_fear 30 = .ok (.aload_n 0, 1) := by decide +kernel
theorem dC_fear_31 : decode bC_fear 31 = .ok (.getfield 29, 3) := by decide +kernel
theorem dC_fear_34 : decode bC_fear 34 = .ok (.getfield 177, 3) := by decide +kernel
theorem dC_fear_37 : decode bC_fear 37 = .ok (.iload_n 1, 1) := by decide +kernel
theorem dC_fear_38 : decode bC_fear 38 = .ok (.iload_n 2, 1) := by decide +kernel
theorem dC_fear_39 : decode bC_fear 39 = .ok (.iastore, 1) := by decide +kernel
theorem dC_fear_40 : decode bC_fear 40 = .ok (.iload_n 3, 1) := by decide +kernel
theorem dC_fear_41 : decode bC_fear 41 = .ok (.ireturn, 1) := by decide +kernel
def f_C_fear (n : Nat) (x1 : Int32) (x2 : Int32) (s : mb_T) : Option (Int32 × mb_T) := mb_cl (f_C_isOne n x1 s) fun r_3 s_1 => if r_3 = 0 then some ((-1), s_1) else if x2 < 0 then some ((-1), s_1) else if x2 ≤ 99 then (mb_rd s_1 (100 + 6) 5 x1 fun x_7 => mb_wr s_1 (100 + 6) 5 x1 x2 fun s_10 => some (x_7, s_10)) else some ((-1), s_1)
set_option maxHeartbeats 4000000 in
set_option maxRecDepth 100000 in
theorem t_C_fear {dd n : Nat} {x1 : Int32} {x2 : Int32} {s : mb_T} {out : Int32 × mb_T}  (h : f_C_fear n x1 x2 s = some out) : mb_MC (dd + 2) yC_fear bC_fear 4 (some .int) [.ref 0, .int x1, .int x2] s (some (.int out.1)) out.2 := by
  unfold f_C_fear at h
  refine mj_mc (lv := [.ref 0, .int x1, .int x2, .retAddr 0]) mC_fear rfl rfl (Nat.le_of_ble_eq_true rfl) (fun K hK hR => ?_)
  have hK : mj_C (dd + 2) 0 0 RC_c "fear" bC_fear 4 K := hK
  refine ro_aload_n hK dC_fear_0 rfl ?_
  refine ro_iload_n hK dC_fear_1 rfl ?_
  obtain ⟨r_3, s_1, q_2, h⟩ := mb_cl_e h
  refine rb_callV hK mC_isOne vC_131 (t_C_isOne (dd := dd + 0) q_2) rfl mb_oC rfl (Nat.le_of_ble_eq_true rfl) dC_fear_2 rfl ⟨Nat.le_refl _, Nat.le_refl _⟩ ?_
  show K 0 0 5 [.ref 0, .int x1, .int x2, .retAddr 0] [.int r_3] (mb_s s_1)
  refine ro_if_eq (tgt := 18) hK dC_fear_5 (by decide) (fun c_4 => ?_) (fun c_4 => ?_)
  · replace h := mb_ift c_4 h
    refine ro_iconst (x := (-1)) hK (by decide) dC_fear_18 ?_
    cases h
    exact hR.1 0 0 19 _ _ _ _ rfl rfl dC_fear_19 ⟨rfl, rfl⟩
  · replace h := mb_iff c_4 h
    refine ro_iload_n hK dC_fear_8 rfl ?_
    refine ro_if_lt (tgt := 18) hK dC_fear_9 (by decide) (fun c_5 => ?_) (fun c_5 => ?_)
    · replace h := mb_ift c_5 h
      refine ro_iconst (x := (-1)) hK (by decide) dC_fear_18 ?_
      cases h
      exact hR.1 0 0 19 _ _ _ _ rfl rfl dC_fear_19 ⟨rfl, rfl⟩
    · replace h := mb_iff c_5 h
      refine ro_iload_n hK dC_fear_12 rfl ?_
      refine ro_bipush (x := 99) hK (by decide) dC_fear_13 ?_
      refine ro_icmp_le (tgt := 20) hK dC_fear_15 (by decide) (fun c_6 => ?_) (fun c_6 => ?_)
      · replace h := mb_ift c_6 h
        refine ro_aload_n hK dC_fear_20 rfl ?_
        refine rb_get hK fC_29 mb_oC rfl dC_fear_21 ?_
        refine rb_get hK fC_177 (mb_cvo (Or.inl rfl)) rfl dC_fear_24 ?_
        refine ro_iload_n hK dC_fear_27 rfl ?_
        obtain ⟨x_7, e_8, i_9, h⟩ := mb_rd_e h
        refine rb_iald hK (mb_cv6 (Or.inl rfl)) i_9 e_8 dC_fear_28 ?_
        refine ro_istore_n hK dC_fear_29 (by decide) ?_
        show K 0 0 30 [.ref 0, .int x1, .int x2, .int x_7] [] (mb_s s_1)
        refine ro_aload_n hK dC_fear_30 rfl ?_
        refine rb_get hK fC_29 mb_oC rfl dC_fear_31 ?_
        refine rb_get hK fC_177 (mb_cvo (Or.inl rfl)) rfl dC_fear_34 ?_
        refine ro_iload_n hK dC_fear_37 rfl ?_
        refine ro_iload_n hK dC_fear_38 rfl ?_
        obtain ⟨s_10, e_11, i_12, h⟩ := mb_wr_e h
        refine rb_iast hK (mb_cv6 (Or.inl rfl)) i_12 e_11 dC_fear_39 ?_
        refine ro_iload_n hK dC_fear_40 rfl ?_
        cases h
        exact hR.1 0 0 41 _ _ _ _ rfl rfl dC_fear_41 ⟨rfl, rfl⟩
      · replace h := mb_iff c_6 h
        refine ro_iconst (x := (-1)) hK (by decide) dC_fear_18 ?_
        cases h
        exact hR.1 0 0 19 _ _ _ _ rfl rfl dC_fear_19 ⟨rfl, rfl⟩
theorem dC_forgetKept_0 : decode bC_forgetKept 0 = .ok (.iconst 0, 1) := by decide +kernel
theorem dC_forgetKept_1 : decode bC_forgetKept 1 = .ok (.istore_n 1, 1) := by decide +kernel
theorem dC_forgetKept_2 : decode bC_forgetKept 2 = .ok (.iload_n 1, 1) := by decide +kernel
theorem dC_forgetKept_3 : decode bC_forgetKept 3 = .ok (.iconst 3, 1) := by decide +kernel
theorem dC_forgetKept_4 : decode bC_forgetKept 4 = .ok (.if_icmp .ge 24, 3) := by decide +kernel
theorem dC_forgetKept_7 : decode bC_forgetKept 7 = .ok (.aload_n 0, 1) := by decide +kernel
theorem dC_forgetKept_8 : decode bC_forgetKept 8 = .ok (.getfield 36, 3) := by decide +kernel
theorem dC_forgetKept_11 : decode bC_forgetKept 11 = .ok (.iload_n 1, 1) := by decide +kernel
theorem dC_forgetKept_12 : decode bC_forgetKept 12 = .ok (.aaload, 1) := by decide +kernel
theorem dC_forgetKept_13 : decode bC_forgetKept 13 = .ok (.astore_n 2, 1) := by decide +kernel
theorem dC_forgetKept_14 : decode bC_forgetKept 14 = .ok (.aload_n 2, 1) := by decide +kernel
theorem dC_forgetKept_15 : decode bC_forgetKept 15 = .ok (.ifnull 7, 3) := by decide +kernel
theorem dC_forgetKept_18 : decode bC_forgetKept 18 = .ok (.aload_n 2, 1) := by decide +kernel
theorem dC_forgetKept_19 : decode bC_forgetKept 19 = .ok (.invokevirtual 362, 3) := by decide +kernel
theorem dC_forgetKept_22 : decode bC_forgetKept 22 = .ok (.iinc 1 1, 3) := by decide +kernel
theorem dC_forgetKept_25 : decode bC_forgetKept 25 = .ok (.goto (-23), 3) := by decide +kernel
theorem dC_forgetKept_28 : decode bC_forgetKept 28 = .ok (.return_, 1) := by decide +kernel
def f_C_forgetKept_2 (n : Nat) (k0 : Int32 → mb_T → Option (mb_T))  : Nat → Int32 → mb_T → Option (mb_T)
  | 0, _, _ => none
  | f + 1, w1, s => if 3 ≤ w1 then k0 w1 s else mb_ix w1 3 (if s.2.2.2.2 w1.toNatClampNeg = true then mb_cw (f_V_clear n (140 + 20 * w1.toNatClampNeg) s) fun s_4 => f_C_forgetKept_2 n k0 f (w1 + 1) s_4 else f_C_forgetKept_2 n k0 f (w1 + 1) s)
def f_C_forgetKept (n : Nat)  (s : mb_T) : Option (mb_T) := f_C_forgetKept_2 n (fun x_6 s_7 => some s_7) n 0 s
set_option maxHeartbeats 4000000 in
set_option maxRecDepth 100000 in
theorem tl_C_forgetKept_2 {dd n : Nat} {K : mj_KT} {out : mb_T} (hK : mj_C (dd + 2) 0 0 RC_c "forgetKept" bC_forgetKept 3 K) (hR : mj_R bC_forgetKept none (fun r2 S2 => r2 = none ∧ S2 = mb_s out) K) {k0 : Int32 → mb_T → Option (mb_T)}  (hk0 : ∀ (w1 : Int32) (s : mb_T), k0 w1 s = some out → K 0 0 28 [.ref 0, .int w1, .retAddr 0] [] (mb_s s)) : ∀ (f : Nat) (w1 : Int32) (s : mb_T), f_C_forgetKept_2 n k0 f w1 s = some out → K 0 0 2 [.ref 0, .int w1, .retAddr 0] [] (mb_s s) := by
  intro f
  induction f with
  | zero =>
    intro w1 s h
    cases h
  | succ f ih =>
    intro w1 s h
    rw [f_C_forgetKept_2] at h
    refine ro_iload_n hK dC_forgetKept_2 rfl ?_
    refine ro_iconst (x := 3) hK (by decide) dC_forgetKept_3 ?_
    refine ro_icmp_ge (tgt := 28) hK dC_forgetKept_4 (by decide) (fun c_1 => ?_) (fun c_1 => ?_)
    · replace h := mb_ift c_1 h
      refine ro_fg (lv' := [.ref 0, .int w1, .retAddr 0]) hK ⟨Or.inr rfl, ⟨Or.inr rfl, ⟨Or.inl rfl, trivial⟩⟩⟩ ?_
      exact hk0 _ _ h
    · replace h := mb_iff c_1 h
      refine ro_aload_n hK dC_forgetKept_7 rfl ?_
      refine rb_get hK fC_36 mb_oC rfl dC_forgetKept_8 ?_
      refine ro_iload_n hK dC_forgetKept_11 rfl ?_
      obtain ⟨i_2, h⟩ := mb_ix_e h
      refine rb_kept hK i_2 dC_forgetKept_12 (fun c_3 => ?_) (fun c_3 => ?_)
      · replace h := mb_ift c_3 h
        refine ro_astore_n hK dC_forgetKept_13 (by decide) ?_
        show K 0 0 14 [.ref 0, .int w1, .ref (140 + 20 * w1.toNatClampNeg)] [] (mb_s s)
        refine ro_aload_n hK dC_forgetKept_14 rfl ?_
        refine ro_ifnull hK dC_forgetKept_15 ?_
        refine ro_aload_n hK dC_forgetKept_18 rfl ?_
        obtain ⟨s_4, q_5, h⟩ := mb_cw_e h
        refine rb_callV hK mV_clear vC_362 (t_V_clear (dd := dd + 0) (mb_kcv i_2) q_5) rfl (mb_cvo (mb_kcv i_2)) rfl (Nat.le_of_ble_eq_true rfl) dC_forgetKept_19 rfl ⟨Nat.le_refl _, Nat.le_refl _⟩ ?_
        show K 0 0 22 [.ref 0, .int w1, .ref (140 + 20 * w1.toNatClampNeg)] [] (mb_s s_4)
        refine ro_iincv (c := 1) hK (by decide) dC_forgetKept_22 rfl (by decide) ?_
        show K 0 0 25 [.ref 0, .int (w1 + 1), .ref (140 + 20 * w1.toNatClampNeg)] [] (mb_s s_4)
        refine ro_goto (tgt := 2) hK dC_forgetKept_25 (by decide) ?_
        refine ro_fg (lv' := [.ref 0, .int (w1 + 1), .retAddr 0]) hK ⟨Or.inr rfl, ⟨Or.inr rfl, ⟨Or.inl rfl, trivial⟩⟩⟩ ?_
        exact ih _ _ h
      · replace h := mb_iff c_3 h
        refine ro_astore_nN hK dC_forgetKept_13 (by decide) ?_
        show K 0 0 14 [.ref 0, .int w1, .null] [] (mb_s s)
        refine ro_aload_nN hK dC_forgetKept_14 rfl ?_
        refine ro_ifnullN (tgt := 22) hK dC_forgetKept_15 (by decide) ?_
        refine ro_iincv (c := 1) hK (by decide) dC_forgetKept_22 rfl (by decide) ?_
        show K 0 0 25 [.ref 0, .int (w1 + 1), .null] [] (mb_s s)
        refine ro_goto (tgt := 2) hK dC_forgetKept_25 (by decide) ?_
        refine ro_fg (lv' := [.ref 0, .int (w1 + 1), .retAddr 0]) hK ⟨Or.inr rfl, ⟨Or.inr rfl, ⟨Or.inl rfl, trivial⟩⟩⟩ ?_
        exact ih _ _ h
set_option maxHeartbeats 4000000 in
set_option maxRecDepth 100000 in
theorem t_C_forgetKept {dd n : Nat}  {s : mb_T} {out : mb_T}  (h : f_C_forgetKept n  s = some out) : mb_MC (dd + 2) yC_forgetKept bC_forgetKept 3 none [.ref 0] s none out := by
  unfold f_C_forgetKept at h
  refine mj_mc (lv := [.ref 0, .retAddr 0, .retAddr 0]) mC_forgetKept rfl rfl (Nat.le_of_ble_eq_true rfl) (fun K hK hR => ?_)
  have hK : mj_C (dd + 2) 0 0 RC_c "forgetKept" bC_forgetKept 3 K := hK
  refine ro_iconst (x := 0) hK (by decide) dC_forgetKept_0 ?_
  refine ro_istore_n hK dC_forgetKept_1 (by decide) ?_
  show K 0 0 2 [.ref 0, .int 0, .retAddr 0] [] (mb_s s)
  refine ro_fg (lv' := [.ref 0, .int 0, .retAddr 0]) hK ⟨Or.inr rfl, ⟨Or.inr rfl, ⟨Or.inl rfl, trivial⟩⟩⟩ ?_
  refine tl_C_forgetKept_2 (dd := dd) hK hR (fun x_6 s_7 h => ?_) n _ _ h
  cases h
  exact hR.2.2 0 0 28 _ _ rfl dC_forgetKept_28 ⟨rfl, rfl⟩
theorem dC_had_0 : decode bC_had 0 = .ok (.iload_n 1, 1) := by decide +kernel
theorem dC_had_1 : decode bC_had 1 = .ok (.ifCond .ge 5, 3) := by decide +kernel
theorem dC_had_4 : decode bC_had 4 = .ok (.iconst (-1), 1) := by decide +kernel
theorem dC_had_5 : decode bC_had 5 = .ok (.ireturn, 1) := by decide +kernel
theorem dC_had_6 : decode bC_had 6 = .ok (.iload_n 1, 1) := by decide +kernel
theorem dC_had_7 : decode bC_had 7 = .ok (.aload_n 0, 1) := by decide +kernel
theorem dC_had_8 : decode bC_had 8 = .ok (.getfield 29, 3) := by decide +kernel
theorem dC_had_11 : decode bC_had 11 = .ok (.getfield 183, 3) := by decide +kernel
theorem dC_had_14 : decode bC_had 14 = .ok (.if_icmp .lt 9, 3) := by decide +kernel
theorem dC_had_17 : decode bC_had 17 = .ok (.aload_n 0, 1) := by decide +kernel
theorem dC_had_18 : decode bC_had 18 = .ok (.iconst 2, 1) := by decide +kernel
theorem dC_had_19 : decode bC_had 19 = .ok (.invokevirtual 87, 3) := by decide +kernel
theorem dC_had_22 : decode bC_had 22 = .ok (.ireturn, 1) := by decide +kernel
theorem dC_had_23 : decode bC_had 23 = .ok (.aload_n 0, 1) := by decide +kernel
theorem dC_had_24 : decode bC_had 24 = .ok (.getfield 29, 3) := by decide +kernel
theorem dC_had_27 : decode bC_had 27 = .ok (.getfield 197, 3) := by decide +kernel
theorem dC_had_30 : decode bC_had 30 = .ok (.iload_n 1, 1) := by decide +kernel
theorem dC_had_31 : decode bC_had 31 = .ok (.iaload, 1) := by decide +kernel
theorem dC_had_32 : decode bC_had 32 = .ok (.ireturn, 1) := by decide +kernel
def f_C_had (n : Nat) (x1 : Int32) (s : mb_T) : Option (Int32 × mb_T) := if 0 ≤ x1 then (if x1 < (s.1 100 4) then (mb_rd s (100 + 10) 120 x1 fun x_3 => some (x_3, s)) else mb_cl (f_C_found n 2 s) fun r_8 s_6 => some (r_8, s_6)) else some ((-1), s)
set_option maxHeartbeats 4000000 in
set_option maxRecDepth 100000 in
theorem t_C_had {dd n : Nat} {x1 : Int32} {s : mb_T} {out : Int32 × mb_T}  (h : f_C_had n x1 s = some out) : mb_MC (dd + 2) yC_had bC_had 2 (some .int) [.ref 0, .int x1] s (some (.int out.1)) out.2 := by
  unfold f_C_had at h
  refine mj_mc (lv := [.ref 0, .int x1]) mC_had rfl rfl (Nat.le_of_ble_eq_true rfl) (fun K hK hR => ?_)
  have hK : mj_C (dd + 2) 0 0 RC_c "had" bC_had 2 K := hK
  refine ro_iload_n hK dC_had_0 rfl ?_
  refine ro_if_ge (tgt := 6) hK dC_had_1 (by decide) (fun c_1 => ?_) (fun c_1 => ?_)
  · replace h := mb_ift c_1 h
    refine ro_iload_n hK dC_had_6 rfl ?_
    refine ro_aload_n hK dC_had_7 rfl ?_
    refine rb_get hK fC_29 mb_oC rfl dC_had_8 ?_
    refine rb_get hK fC_183 (mb_cvo (Or.inl rfl)) rfl dC_had_11 ?_
    refine ro_icmp_lt (tgt := 23) hK dC_had_14 (by decide) (fun c_2 => ?_) (fun c_2 => ?_)
    · replace h := mb_ift c_2 h
      refine ro_aload_n hK dC_had_23 rfl ?_
      refine rb_get hK fC_29 mb_oC rfl dC_had_24 ?_
      refine rb_get hK fC_197 (mb_cvo (Or.inl rfl)) rfl dC_had_27 ?_
      refine ro_iload_n hK dC_had_30 rfl ?_
      obtain ⟨x_3, e_4, i_5, h⟩ := mb_rd_e h
      refine rb_iald hK (mb_cv10 (Or.inl rfl)) i_5 e_4 dC_had_31 ?_
      cases h
      exact hR.1 0 0 32 _ _ _ _ rfl rfl dC_had_32 ⟨rfl, rfl⟩
    · replace h := mb_iff c_2 h
      refine ro_aload_n hK dC_had_17 rfl ?_
      refine ro_iconst (x := 2) hK (by decide) dC_had_18 ?_
      obtain ⟨r_8, s_6, q_7, h⟩ := mb_cl_e h
      refine rb_callV hK mC_found vC_87 (t_C_found (dd := dd + 0) q_7) rfl mb_oC rfl (Nat.le_of_ble_eq_true rfl) dC_had_19 rfl ⟨Nat.le_refl _, Nat.le_refl _⟩ ?_
      show K 0 0 22 [.ref 0, .int x1] [.int r_8] (mb_s s_6)
      cases h
      exact hR.1 0 0 22 _ _ _ _ rfl rfl dC_had_22 ⟨rfl, rfl⟩
  · replace h := mb_iff c_1 h
    refine ro_iconst (x := (-1)) hK (by decide) dC_had_4 ?_
    cases h
    exact hR.1 0 0 5 _ _ _ _ rfl rfl dC_had_5 ⟨rfl, rfl⟩
theorem dC_handingsRefusal_0 : decode bC_handingsRefusal 0 = .ok (.iload_n 1, 1) := by decide +kernel
theorem dC_handingsRefusal_1 : decode bC_handingsRefusal 1 = .ok (.invokestatic 83, 3) := by decide +kernel
theorem dC_handingsRefusal_4 : decode bC_handingsRefusal 4 = .ok (.ifCond .ne 5, 3) := by decide +kernel
theorem dC_handingsRefusal_7 : decode bC_handingsRefusal 7 = .ok (.iconst (-1), 1) := by decide +kernel
theorem dC_handingsRefusal_8 : decode bC_handingsRefusal 8 = .ok (.ireturn, 1) := by decide +kernel
theorem dC_handingsRefusal_9 : decode bC_handingsRefusal 9 = .ok (.aload_n 0, 1) := by decide +kernel
theorem dC_handingsRefusal_10 : decode bC_handingsRefusal 10 = .ok (.getfield 29, 3) := by decide +kernel
theorem dC_handingsRefusal_13 : decode bC_handingsRefusal 13 = .ok (.getfield 128, 3) := by decide +kernel
theorem dC_handingsRefusal_16 : decode bC_handingsRefusal 16 = .ok (.ifCond .ne 6, 3) := by decide +kernel
theorem dC_handingsRefusal_19 : decode bC_handingsRefusal 19 = .ok (.bipush (-4), 2) := by decide +kernel
theorem dC_handingsRefusal_21 : decode bC_handingsRefusal 21 = .ok (.ireturn, 1) := by decide +kernel
theorem dC_handingsRefusal_22 : decode bC_handingsRefusal 22 = .ok (.aload_n 0, 1) := by decide +kernel
theorem dC_handingsRefusal_23 : decode bC_handingsRefusal 23 = .ok (.getfield 14, 3) := by decide +kernel
theorem dC_handingsRefusal_26 : decode bC_handingsRefusal 26 = .ok (.iload_n 1, 1) := by decide +kernel
theorem dC_handingsRefusal_27 : decode bC_handingsRefusal 27 = .ok (.iaload, 1) := by decide +kernel
theorem dC_handingsRefusal_28 : decode bC_handingsRefusal 28 = .ok (.ifCond .ge 9, 3) := by decide +kernel
theorem dC_handingsRefusal_31 : decode bC_handingsRefusal 31 = .ok (.aload_n 0, 1) := by decide +kernel
theorem dC_handingsRefusal_32 : decode bC_handingsRefusal 32 = .ok (.iconst 1, 1) := by decide +kernel
theorem dC_handingsRefusal_33 : decode bC_handingsRefusal 33 = .ok (.invokevirtual 87, 3) := by decide +kernel
theorem dC_handingsRefusal_36 : decode bC_handingsRefusal 36 = .ok (.ireturn, 1) := by decide +kernel
theorem dC_handingsRefusal_37 : decode bC_handingsRefusal 37 = .ok (.iconst 0, 1) := by decide +kernel
theorem dC_handingsRefusal_38 : decode bC_handingsRefusal 38 = .ok (.istore_n 2, 1) := by decide +kernel
theorem dC_handingsRefusal_39 : decode bC_handingsRefusal 39 = .ok (.iload_n 2, 1) := by decide +kernel
theorem dC_handingsRefusal_40 : decode bC_handingsRefusal 40 = .ok (.aload_n 0, 1) := by decide +kernel
theorem dC_handingsRefusal_41 : decode bC_handingsRefusal 41 = .ok (.getfield 14, 3) := by decide +kernel
theorem dC_handingsRefusal_44 : decode bC_handingsRefusal 44 = .ok (.iload_n 1, 1) := by decide +kernel
theorem dC_handingsRefusal_45 : decode bC_handingsRefusal 45 = .ok (.iaload, 1) := by decide +kernel
theorem dC_handingsRefusal_46 : decode bC_handingsRefusal 46 = .ok (.if_icmp .ge 30, 3) := by decide +kernel
theorem dC_handingsRefusal_49 : decode bC_handingsRefusal 49 = .ok (.aload_n 0, 1) := by decide +kernel
theorem dC_handingsRefusal_50 : decode bC_handingsRefusal 50 = .ok (.aload_n 0, 1) := by decide +kernel
theorem dC_handingsRefusal_51 : decode bC_handingsRefusal 51 = .ok (.getfield 11, 3) := by decide +kernel
theorem dC_handingsRefusal_54 : decode bC_handingsRefusal 54 = .ok (.iload_n 1, 1) := by decide +kernel
theorem dC_handingsRefusal_55 : decode bC_handingsRefusal 55 = .ok (.aaload, 1) := by decide +kernel
theorem dC_handingsRefusal_56 : decode bC_handingsRefusal 56 = .ok (.iload_n 2, 1) := by decide +kernel
theorem dC_handingsRefusal_57 : decode bC_handingsRefusal 57 = .ok (.iaload, 1) := by decide +kernel
theorem dC_handingsRefusal_58 : decode bC_handingsRefusal 58 = .ok (.invokevirtual 131, 3) := by decide +kernel
theorem dC_handingsRefusal_61 : decode bC_handingsRefusal 61 = .ok (.ifCond .ne 9, 3) := by decide +kernel
theorem dC_handingsRefusal_64 : decode bC_handingsRefusal 64 = .ok (.aload_n 0, 1) := by decide +kernel
theorem dC_handingsRefusal_65 : decode bC_handingsRefusal 65 = .ok (.iconst 3, 1) := by decide +kernel
theorem dC_handingsRefusal_66 : decode bC_handingsRefusal 66 = .ok (.invokevirtual 87, 3) := by decide +kernel
theorem dC_handingsRefusal_69 : decode bC_handingsRefusal 69 = .ok (.ireturn, 1) := by decide +kernel
theorem dC_handingsRefusal_70 : decode bC_handingsRefusal 70 = .ok (.iinc 2 1, 3) := by decide +kernel
theorem dC_handingsRefusal_73 : decode bC_handingsRefusal 73 = .ok (.goto (-34), 3) := by decide +kernel
theorem dC_handingsRefusal_76 : decode bC_handingsRefusal 76 = .ok (.iconst 0, 1) := by decide +kernel
theorem dC_handingsRefusal_77 : decode bC_handingsRefusal 77 = .ok (.ireturn, 1) := by decide +kernel
def f_C_handingsRefusal_39 (n : Nat) (k0 : Int32 → mb_T → Option (Int32 × mb_T)) (k1 : Int32 → mb_T → Option (Int32 × mb_T)) (y1 : Int32) : Nat → Int32 → mb_T → Option (Int32 × mb_T)
  | 0, _, _ => none
  | f + 1, w2, s => mb_rd s 1 6 y1 fun x_10 => if x_10 ≤ w2 then k1 w2 s else mb_ix y1 6 (mb_rd s (20 + y1.toNatClampNeg) 60 w2 fun x_15 => mb_cl (f_C_isOne n x_15 s) fun r_20 s_18 => if r_20 = 0 then k0 w2 s_18 else f_C_handingsRefusal_39 n k0 k1 y1 f (w2 + 1) s_18)
def f_C_handingsRefusal (n : Nat) (x1 : Int32) (s : mb_T) : Option (Int32 × mb_T) := mb_cl (f_C_isRow n x1 s) fun r_3 s_1 => if r_3 = 0 then some ((-1), s_1) else if (s_1.1 100 0) = 0 then some ((-4), s_1) else mb_rd s_1 1 6 x1 fun x_6 => if 0 ≤ x_6 then (f_C_handingsRefusal_39 n (fun x_22 s_23 => mb_cl (f_C_found n 3 s_23) fun r_26 s_24 => some (r_26, s_24)) (fun x_27 s_28 => some (0, s_28)) x1 n 0 s_1) else mb_cl (f_C_found n 1 s_1) fun r_31 s_29 => some (r_31, s_29)
set_option maxHeartbeats 4000000 in
set_option maxRecDepth 100000 in
theorem tl_C_handingsRefusal_39 {dd n : Nat} {K : mj_KT} {out : Int32 × mb_T} (hK : mj_C (dd + 2) 0 0 RC_c "handingsRefusal" bC_handingsRefusal 3 K) (hR : mj_R bC_handingsRefusal (some .int) (fun r2 S2 => r2 = some (.int out.1) ∧ S2 = mb_s out.2) K) {k0 : Int32 → mb_T → Option (Int32 × mb_T)} {k1 : Int32 → mb_T → Option (Int32 × mb_T)} {y1 : Int32} (hk0 : ∀ (w2 : Int32) (s : mb_T), k0 w2 s = some out → K 0 0 64 [.ref 0, .int y1, .int w2] [] (mb_s s)) (hk1 : ∀ (w2 : Int32) (s : mb_T), k1 w2 s = some out → K 0 0 76 [.ref 0, .int y1, .int w2] [] (mb_s s)) : ∀ (f : Nat) (w2 : Int32) (s : mb_T), f_C_handingsRefusal_39 n k0 k1 y1 f w2 s = some out → K 0 0 39 [.ref 0, .int y1, .int w2] [] (mb_s s) := by
  intro f
  induction f with
  | zero =>
    intro w2 s h
    cases h
  | succ f ih =>
    intro w2 s h
    rw [f_C_handingsRefusal_39] at h
    refine ro_iload_n hK dC_handingsRefusal_39 rfl ?_
    refine ro_aload_n hK dC_handingsRefusal_40 rfl ?_
    refine rb_get hK fC_14 mb_oC rfl dC_handingsRefusal_41 ?_
    refine ro_iload_n hK dC_handingsRefusal_44 rfl ?_
    obtain ⟨x_10, e_11, i_12, h⟩ := mb_rd_e h
    refine rb_iald hK ai_1 i_12 e_11 dC_handingsRefusal_45 ?_
    refine ro_icmp_ge (tgt := 76) hK dC_handingsRefusal_46 (by decide) (fun c_13 => ?_) (fun c_13 => ?_)
    · replace h := mb_ift c_13 h
      refine ro_fg (lv' := [.ref 0, .int y1, .int w2]) hK ⟨Or.inr rfl, ⟨Or.inr rfl, ⟨Or.inr rfl, trivial⟩⟩⟩ ?_
      exact hk1 _ _ h
    · replace h := mb_iff c_13 h
      refine ro_aload_n hK dC_handingsRefusal_49 rfl ?_
      refine ro_aload_n hK dC_handingsRefusal_50 rfl ?_
      refine rb_get hK fC_11 mb_oC rfl dC_handingsRefusal_51 ?_
      refine ro_iload_n hK dC_handingsRefusal_54 rfl ?_
      obtain ⟨i_14, h⟩ := mb_ix_e h
      refine rb_rows hK i_14 dC_handingsRefusal_55 ?_
      refine ro_iload_n hK dC_handingsRefusal_56 rfl ?_
      obtain ⟨x_15, e_16, i_17, h⟩ := mb_rd_e h
      refine rb_iald hK (mb_rw i_14) i_17 e_16 dC_handingsRefusal_57 ?_
      obtain ⟨r_20, s_18, q_19, h⟩ := mb_cl_e h
      refine rb_callV hK mC_isOne vC_131 (t_C_isOne (dd := dd + 0) q_19) rfl mb_oC rfl (Nat.le_of_ble_eq_true rfl) dC_handingsRefusal_58 rfl ⟨Nat.le_refl _, Nat.le_refl _⟩ ?_
      show K 0 0 61 [.ref 0, .int y1, .int w2] [.int r_20] (mb_s s_18)
      refine ro_if_ne (tgt := 70) hK dC_handingsRefusal_61 (by decide) (fun c_21 => ?_) (fun c_21 => ?_)
      · replace h := mb_iff c_21 h
        refine ro_iincv (c := 1) hK (by decide) dC_handingsRefusal_70 rfl (by decide) ?_
        show K 0 0 73 [.ref 0, .int y1, .int (w2 + 1)] [] (mb_s s_18)
        refine ro_goto (tgt := 39) hK dC_handingsRefusal_73 (by decide) ?_
        refine ro_fg (lv' := [.ref 0, .int y1, .int (w2 + 1)]) hK ⟨Or.inr rfl, ⟨Or.inr rfl, ⟨Or.inr rfl, trivial⟩⟩⟩ ?_
        exact ih _ _ h
      · replace h := mb_ift c_21 h
        refine ro_fg (lv' := [.ref 0, .int y1, .int w2]) hK ⟨Or.inr rfl, ⟨Or.inr rfl, ⟨Or.inr rfl, trivial⟩⟩⟩ ?_
        exact hk0 _ _ h
set_option maxHeartbeats 4000000 in
set_option maxRecDepth 100000 in
theorem t_C_handingsRefusal {dd n : Nat} {x1 : Int32} {s : mb_T} {out : Int32 × mb_T}  (h : f_C_handingsRefusal n x1 s = some out) : mb_MC (dd + 2) yC_handingsRefusal bC_handingsRefusal 3 (some .int) [.ref 0, .int x1] s (some (.int out.1)) out.2 := by
  unfold f_C_handingsRefusal at h
  refine mj_mc (lv := [.ref 0, .int x1, .retAddr 0]) mC_handingsRefusal rfl rfl (Nat.le_of_ble_eq_true rfl) (fun K hK hR => ?_)
  have hK : mj_C (dd + 2) 0 0 RC_c "handingsRefusal" bC_handingsRefusal 3 K := hK
  refine ro_iload_n hK dC_handingsRefusal_0 rfl ?_
  obtain ⟨r_3, s_1, q_2, h⟩ := mb_cl_e h
  refine rb_callS hK mC_isRow vC_83 (t_C_isRow (dd := dd + 0) q_2) rfl (Nat.le_of_ble_eq_true rfl) dC_handingsRefusal_1 rfl ⟨Nat.le_refl _, Nat.le_refl _⟩ ?_
  show K 0 0 4 [.ref 0, .int x1, .retAddr 0] [.int r_3] (mb_s s_1)
  refine ro_if_ne (tgt := 9) hK dC_handingsRefusal_4 (by decide) (fun c_4 => ?_) (fun c_4 => ?_)
  · replace h := mb_iff c_4 h
    refine ro_aload_n hK dC_handingsRefusal_9 rfl ?_
    refine rb_get hK fC_29 mb_oC rfl dC_handingsRefusal_10 ?_
    refine rb_get hK fC_128 (mb_cvo (Or.inl rfl)) rfl dC_handingsRefusal_13 ?_
    refine ro_if_ne (tgt := 22) hK dC_handingsRefusal_16 (by decide) (fun c_5 => ?_) (fun c_5 => ?_)
    · replace h := mb_iff c_5 h
      refine ro_aload_n hK dC_handingsRefusal_22 rfl ?_
      refine rb_get hK fC_14 mb_oC rfl dC_handingsRefusal_23 ?_
      refine ro_iload_n hK dC_handingsRefusal_26 rfl ?_
      obtain ⟨x_6, e_7, i_8, h⟩ := mb_rd_e h
      refine rb_iald hK ai_1 i_8 e_7 dC_handingsRefusal_27 ?_
      refine ro_if_ge (tgt := 37) hK dC_handingsRefusal_28 (by decide) (fun c_9 => ?_) (fun c_9 => ?_)
      · replace h := mb_ift c_9 h
        refine ro_iconst (x := 0) hK (by decide) dC_handingsRefusal_37 ?_
        refine ro_istore_n hK dC_handingsRefusal_38 (by decide) ?_
        show K 0 0 39 [.ref 0, .int x1, .int 0] [] (mb_s s_1)
        refine ro_fg (lv' := [.ref 0, .int x1, .int 0]) hK ⟨Or.inr rfl, ⟨Or.inr rfl, ⟨Or.inr rfl, trivial⟩⟩⟩ ?_
        refine tl_C_handingsRefusal_39 (dd := dd) hK hR (fun x_22 s_23 h => ?_) (fun x_27 s_28 h => ?_) n _ _ h
        · skip
          refine ro_aload_n hK dC_handingsRefusal_64 rfl ?_
          refine ro_iconst (x := 3) hK (by decide) dC_handingsRefusal_65 ?_
          obtain ⟨r_26, s_24, q_25, h⟩ := mb_cl_e h
          refine rb_callV hK mC_found vC_87 (t_C_found (dd := dd + 0) q_25) rfl mb_oC rfl (Nat.le_of_ble_eq_true rfl) dC_handingsRefusal_66 rfl ⟨Nat.le_refl _, Nat.le_refl _⟩ ?_
          show K 0 0 69 [.ref 0, .int x1, .int x_22] [.int r_26] (mb_s s_24)
          cases h
          exact hR.1 0 0 69 _ _ _ _ rfl rfl dC_handingsRefusal_69 ⟨rfl, rfl⟩
        · skip
          refine ro_iconst (x := 0) hK (by decide) dC_handingsRefusal_76 ?_
          cases h
          exact hR.1 0 0 77 _ _ _ _ rfl rfl dC_handingsRefusal_77 ⟨rfl, rfl⟩
      · replace h := mb_iff c_9 h
        refine ro_aload_n hK dC_handingsRefusal_31 rfl ?_
        refine ro_iconst (x := 1) hK (by decide) dC_handingsRefusal_32 ?_
        obtain ⟨r_31, s_29, q_30, h⟩ := mb_cl_e h
        refine rb_callV hK mC_found vC_87 (t_C_found (dd := dd + 0) q_30) rfl mb_oC rfl (Nat.le_of_ble_eq_true rfl) dC_handingsRefusal_33 rfl ⟨Nat.le_refl _, Nat.le_refl _⟩ ?_
        show K 0 0 36 [.ref 0, .int x1, .retAddr 0] [.int r_31] (mb_s s_29)
        cases h
        exact hR.1 0 0 36 _ _ _ _ rfl rfl dC_handingsRefusal_36 ⟨rfl, rfl⟩
    · replace h := mb_ift c_5 h
      refine ro_bipush (x := (-4)) hK (by decide) dC_handingsRefusal_19 ?_
      cases h
      exact hR.1 0 0 21 _ _ _ _ rfl rfl dC_handingsRefusal_21 ⟨rfl, rfl⟩
  · replace h := mb_ift c_4 h
    refine ro_iconst (x := (-1)) hK (by decide) dC_handingsRefusal_7 ?_
    cases h
    exact hR.1 0 0 8 _ _ _ _ rfl rfl dC_handingsRefusal_8 ⟨rfl, rfl⟩
theorem dC_keptCaves_0 : decode bC_keptCaves 0 = .ok (.iconst 0, 1) := by decide +kernel
theorem dC_keptCaves_1 : decode bC_keptCaves 1 = .ok (.istore_n 1, 1) := by decide +kernel
theorem dC_keptCaves_2 : decode bC_keptCaves 2 = .ok (.iconst 0, 1) := by decide +kernel
theorem dC_keptCaves_3 : decode bC_keptCaves 3 = .ok (.istore_n 2, 1) := by decide +kernel
theorem dC_keptCaves_4 : decode bC_keptCaves 4 = .ok (.iload_n 2, 1) := by decide +kernel
theorem dC_keptCaves_5 : decode bC_keptCaves 5 = .ok (.iconst 3, 1) := by decide +kernel
theorem dC_keptCaves_6 : decode bC_keptCaves 6 = .ok (.if_icmp .ge 25, 3) := by decide +kernel
theorem dC_keptCaves_9 : decode bC_keptCaves 9 = .ok (.iload_n 1, 1) := by decide +kernel
theorem dC_keptCaves_10 : decode bC_keptCaves 10 = .ok (.aload_n 0, 1) := by decide +kernel
theorem dC_keptCaves_11 : decode bC_keptCaves 11 = .ok (.iload_n 2, 1) := by decide +kernel
theorem dC_keptCaves_12 : decode bC_keptCaves 12 = .ok (.invokevirtual 331, 3) := by decide +kernel
theorem dC_keptCaves_15 : decode bC_keptCaves 15 = .ok (.ifCond .lt 7, 3) := by decide +kernel
theorem dC_keptCaves_18 : decode bC_keptCaves 18 = .ok (.iconst 1, 1) := by decide +kernel
theorem dC_keptCaves_19 : decode bC_keptCaves 19 = .ok (.goto 4, 3) := by decide +kernel
theorem dC_keptCaves_22 : decode bC_keptCaves 22 = .ok (.iconst 0, 1) := by decide +kernel
theorem dC_keptCaves_23 : decode bC_keptCaves 23 = .ok (.iadd, 1) := by decide +kernel
theorem dC_keptCaves_24 : decode bC_keptCaves 24 = .ok (.istore_n 1, 1) := by decide +kernel
theorem dC_keptCaves_25 : decode bC_keptCaves 25 = .ok (.iinc 2 1, 3) := by decide +kernel
theorem dC_keptCaves_28 : decode bC_keptCaves 28 = .ok (.goto (-24), 3) := by decide +kernel
theorem dC_keptCaves_31 : decode bC_keptCaves 31 = .ok (.iload_n 1, 1) := by decide +kernel
theorem dC_keptCaves_32 : decode bC_keptCaves 32 = .ok (.ireturn, 1) := by decide +kernel
def f_C_keptCaves_4 (n : Nat) (k0 : Int32 → Int32 → mb_T → Option (Int32 × mb_T))  : Nat → Int32 → Int32 → mb_T → Option (Int32 × mb_T)
  | 0, _, _, _ => none
  | f + 1, w1, w2, s => if 3 ≤ w2 then k0 w1 w2 s else mb_cl (f_C_keptMinute n w2 s) fun r_4 s_2 => f_C_keptCaves_4 n k0 f (w1 + (if r_4 < 0 then 0 else 1 : Int32)) (w2 + 1) s_2
def f_C_keptCaves (n : Nat)  (s : mb_T) : Option (Int32 × mb_T) := f_C_keptCaves_4 n (fun x_7 x_8 s_9 => some (x_7, s_9)) n 0 0 s
set_option maxHeartbeats 4000000 in
set_option maxRecDepth 100000 in
theorem tl_C_keptCaves_4 {dd n : Nat} {K : mj_KT} {out : Int32 × mb_T} (hK : mj_C (dd + 2) 0 0 RC_c "keptCaves" bC_keptCaves 3 K) (hR : mj_R bC_keptCaves (some .int) (fun r2 S2 => r2 = some (.int out.1) ∧ S2 = mb_s out.2) K) {k0 : Int32 → Int32 → mb_T → Option (Int32 × mb_T)}  (hk0 : ∀ (w1 : Int32) (w2 : Int32) (s : mb_T), k0 w1 w2 s = some out → K 0 0 31 [.ref 0, .int w1, .int w2] [] (mb_s s)) : ∀ (f : Nat) (w1 : Int32) (w2 : Int32) (s : mb_T), f_C_keptCaves_4 n k0 f w1 w2 s = some out → K 0 0 4 [.ref 0, .int w1, .int w2] [] (mb_s s) := by
  intro f
  induction f with
  | zero =>
    intro w1 w2 s h
    cases h
  | succ f ih =>
    intro w1 w2 s h
    rw [f_C_keptCaves_4] at h
    refine ro_iload_n hK dC_keptCaves_4 rfl ?_
    refine ro_iconst (x := 3) hK (by decide) dC_keptCaves_5 ?_
    refine ro_icmp_ge (tgt := 31) hK dC_keptCaves_6 (by decide) (fun c_1 => ?_) (fun c_1 => ?_)
    · replace h := mb_ift c_1 h
      refine ro_fg (lv' := [.ref 0, .int w1, .int w2]) hK ⟨Or.inr rfl, ⟨Or.inr rfl, ⟨Or.inr rfl, trivial⟩⟩⟩ ?_
      exact hk0 _ _ _ h
    · replace h := mb_iff c_1 h
      refine ro_iload_n hK dC_keptCaves_9 rfl ?_
      refine ro_aload_n hK dC_keptCaves_10 rfl ?_
      refine ro_iload_n hK dC_keptCaves_11 rfl ?_
      obtain ⟨r_4, s_2, q_3, h⟩ := mb_cl_e h
      refine rb_callV hK mC_keptMinute vC_331 (t_C_keptMinute (dd := dd + 0) q_3) rfl mb_oC rfl (Nat.le_of_ble_eq_true rfl) dC_keptCaves_12 rfl ⟨Nat.le_refl _, Nat.le_refl _⟩ ?_
      show K 0 0 15 [.ref 0, .int w1, .int w2] [.int r_4, .int w1] (mb_s s_2)
      have j_6 : ∀ w_ : Int32, w_ = (if r_4 < 0 then 0 else 1 : Int32) → K 0 0 23 [.ref 0, .int w1, .int w2] [.int w_, .int w1] (mb_s s_2) → K 0 0 15 [.ref 0, .int w1, .int w2] [.int r_4, .int w1] (mb_s s_2) := by
        intro w_ hw hj
        refine ro_if_lt (tgt := 22) hK dC_keptCaves_15 (by decide) (fun c_5 => ?_) (fun c_5 => ?_)
        · skip
          refine ro_iconst (x := 0) hK (by decide) dC_keptCaves_22 ?_
          have hw := (hw.trans (if_pos c_5))
          subst hw
          exact hj
        · skip
          refine ro_iconst (x := 1) hK (by decide) dC_keptCaves_18 ?_
          refine ro_goto (tgt := 23) hK dC_keptCaves_19 (by decide) ?_
          have hw := (hw.trans (if_neg c_5))
          subst hw
          exact hj
      refine j_6 _ rfl ?_
      refine ro_iadd hK dC_keptCaves_23 ?_
      refine ro_istore_n hK dC_keptCaves_24 (by decide) ?_
      show K 0 0 25 [.ref 0, .int (w1 + (if r_4 < 0 then 0 else 1 : Int32)), .int w2] [] (mb_s s_2)
      refine ro_iincv (c := 1) hK (by decide) dC_keptCaves_25 rfl (by decide) ?_
      show K 0 0 28 [.ref 0, .int (w1 + (if r_4 < 0 then 0 else 1 : Int32)), .int (w2 + 1)] [] (mb_s s_2)
      refine ro_goto (tgt := 4) hK dC_keptCaves_28 (by decide) ?_
      refine ro_fg (lv' := [.ref 0, .int (w1 + (if r_4 < 0 then 0 else 1 : Int32)), .int (w2 + 1)]) hK ⟨Or.inr rfl, ⟨Or.inr rfl, ⟨Or.inr rfl, trivial⟩⟩⟩ ?_
      exact ih _ _ _ h
set_option maxHeartbeats 4000000 in
set_option maxRecDepth 100000 in
theorem t_C_keptCaves {dd n : Nat}  {s : mb_T} {out : Int32 × mb_T}  (h : f_C_keptCaves n  s = some out) : mb_MC (dd + 2) yC_keptCaves bC_keptCaves 3 (some .int) [.ref 0] s (some (.int out.1)) out.2 := by
  unfold f_C_keptCaves at h
  refine mj_mc (lv := [.ref 0, .retAddr 0, .retAddr 0]) mC_keptCaves rfl rfl (Nat.le_of_ble_eq_true rfl) (fun K hK hR => ?_)
  have hK : mj_C (dd + 2) 0 0 RC_c "keptCaves" bC_keptCaves 3 K := hK
  refine ro_iconst (x := 0) hK (by decide) dC_keptCaves_0 ?_
  refine ro_istore_n hK dC_keptCaves_1 (by decide) ?_
  show K 0 0 2 [.ref 0, .int 0, .retAddr 0] [] (mb_s s)
  refine ro_iconst (x := 0) hK (by decide) dC_keptCaves_2 ?_
  refine ro_istore_n hK dC_keptCaves_3 (by decide) ?_
  show K 0 0 4 [.ref 0, .int 0, .int 0] [] (mb_s s)
  refine ro_fg (lv' := [.ref 0, .int 0, .int 0]) hK ⟨Or.inr rfl, ⟨Or.inr rfl, ⟨Or.inr rfl, trivial⟩⟩⟩ ?_
  refine tl_C_keptCaves_4 (dd := dd) hK hR (fun x_7 x_8 s_9 h => ?_) n _ _ _ h
  refine ro_iload_n hK dC_keptCaves_31 rfl ?_
  cases h
  exact hR.1 0 0 32 _ _ _ _ rfl rfl dC_keptCaves_32 ⟨rfl, rfl⟩
theorem dC_law_0 : decode bC_law 0 = .ok (.iload_n 1, 1) := by decide +kernel
theorem dC_law_1 : decode bC_law 1 = .ok (.invokestatic 168, 3) := by decide +kernel
theorem dC_law_4 : decode bC_law 4 = .ok (.ifCond .ne 5, 3) := by decide +kernel
theorem dC_law_7 : decode bC_law 7 = .ok (.iconst (-1), 1) := by decide +kernel
theorem dC_law_8 : decode bC_law 8 = .ok (.ireturn, 1) := by decide +kernel
theorem dC_law_9 : decode bC_law 9 = .ok (.aload_n 0, 1) := by decide +kernel
theorem dC_law_10 : decode bC_law 10 = .ok (.getfield 29, 3) := by decide +kernel
theorem dC_law_13 : decode bC_law 13 = .ok (.getfield 128, 3) := by decide +kernel
theorem dC_law_16 : decode bC_law 16 = .ok (.ifCond .ne 6, 3) := by decide +kernel
theorem dC_law_19 : decode bC_law 19 = .ok (.bipush (-4), 2) := by decide +kernel
theorem dC_law_21 : decode bC_law 21 = .ok (.ireturn, 1) := by decide +kernel
theorem dC_law_22 : decode bC_law 22 = .ok (.aload_n 0, 1) := by decide +kernel
theorem dC_law_23 : decode bC_law 23 = .ok (.getfield 29, 3) := by decide +kernel
theorem dC_law_26 : decode bC_law 26 = .ok (.getfield 171, 3) := by decide +kernel
theorem dC_law_29 : decode bC_law 29 = .ok (.istore_n 2, 1) := by decide +kernel
theorem dC_law_30 : decode bC_law 30 = .ok (.aload_n 0, 1) := by decide +kernel
theorem dC_law_31 : decode bC_law 31 = .ok (.getfield 29, 3) := by decide +kernel
theorem dC_law_34 : decode bC_law 34 = .ok (.iload_n 1, 1) := by decide +kernel
theorem dC_law_35 : decode bC_law 35 = .ok (.putfield 171, 3) := by decide +kernel
theorem dC_law_38 : decode bC_law 38 = .ok (.iload_n 2, 1) := by decide +kernel
theorem dC_law_39 : decode bC_law 39 = .ok (.ireturn, 1) := by decide +kernel
def f_C_law (n : Nat) (x1 : Int32) (s : mb_T) : Option (Int32 × mb_T) := mb_cl (f_C_isLaw n x1 s) fun r_3 s_1 => if r_3 = 0 then some ((-1), s_1) else if (s_1.1 100 0) = 0 then some ((-4), s_1) else mb_bd (sF s_1 100 2 x1) fun s_6 => some ((s_1.1 100 2), s_6)
set_option maxHeartbeats 4000000 in
set_option maxRecDepth 100000 in
theorem t_C_law {dd n : Nat} {x1 : Int32} {s : mb_T} {out : Int32 × mb_T}  (h : f_C_law n x1 s = some out) : mb_MC (dd + 2) yC_law bC_law 3 (some .int) [.ref 0, .int x1] s (some (.int out.1)) out.2 := by
  unfold f_C_law at h
  refine mj_mc (lv := [.ref 0, .int x1, .retAddr 0]) mC_law rfl rfl (Nat.le_of_ble_eq_true rfl) (fun K hK hR => ?_)
  have hK : mj_C (dd + 2) 0 0 RC_c "law" bC_law 3 K := hK
  refine ro_iload_n hK dC_law_0 rfl ?_
  obtain ⟨r_3, s_1, q_2, h⟩ := mb_cl_e h
  refine rb_callS hK mC_isLaw vC_168 (t_C_isLaw (dd := dd + 0) q_2) rfl (Nat.le_of_ble_eq_true rfl) dC_law_1 rfl ⟨Nat.le_refl _, Nat.le_refl _⟩ ?_
  show K 0 0 4 [.ref 0, .int x1, .retAddr 0] [.int r_3] (mb_s s_1)
  refine ro_if_ne (tgt := 9) hK dC_law_4 (by decide) (fun c_4 => ?_) (fun c_4 => ?_)
  · replace h := mb_iff c_4 h
    refine ro_aload_n hK dC_law_9 rfl ?_
    refine rb_get hK fC_29 mb_oC rfl dC_law_10 ?_
    refine rb_get hK fC_128 (mb_cvo (Or.inl rfl)) rfl dC_law_13 ?_
    refine ro_if_ne (tgt := 22) hK dC_law_16 (by decide) (fun c_5 => ?_) (fun c_5 => ?_)
    · replace h := mb_iff c_5 h
      refine ro_aload_n hK dC_law_22 rfl ?_
      refine rb_get hK fC_29 mb_oC rfl dC_law_23 ?_
      refine rb_get hK fC_171 (mb_cvo (Or.inl rfl)) rfl dC_law_26 ?_
      refine ro_istore_n hK dC_law_29 (by decide) ?_
      show K 0 0 30 [.ref 0, .int x1, .int (s_1.1 100 2)] [] (mb_s s_1)
      refine ro_aload_n hK dC_law_30 rfl ?_
      refine rb_get hK fC_29 mb_oC rfl dC_law_31 ?_
      refine ro_iload_n hK dC_law_34 rfl ?_
      obtain ⟨s_6, e_7, h⟩ := mb_bd_e h
      refine rb_put hK gC_171 (mb_cvo (Or.inl rfl)) (mb_cvs (by decide)) (by show 2 < 13; decide) rfl rfl e_7 dC_law_35 ?_
      refine ro_iload_n hK dC_law_38 rfl ?_
      cases h
      exact hR.1 0 0 39 _ _ _ _ rfl rfl dC_law_39 ⟨rfl, rfl⟩
    · replace h := mb_ift c_5 h
      refine ro_bipush (x := (-4)) hK (by decide) dC_law_19 ?_
      cases h
      exact hR.1 0 0 21 _ _ _ _ rfl rfl dC_law_21 ⟨rfl, rfl⟩
  · replace h := mb_ift c_4 h
    refine ro_iconst (x := (-1)) hK (by decide) dC_law_7 ?_
    cases h
    exact hR.1 0 0 8 _ _ _ _ rfl rfl dC_law_8 ⟨rfl, rfl⟩
theorem dC_lower_0 : decode bC_lower 0 = .ok (.aload_n 0, 1) := by decide +kernel
theorem dC_lower_1 : decode bC_lower 1 = .ok (.getfield 29, 3) := by decide +kernel
theorem dC_lower_4 : decode bC_lower 4 = .ok (.aload_n 0, 1) := by decide +kernel
theorem dC_lower_5 : decode bC_lower 5 = .ok (.getfield 29, 3) := by decide +kernel
theorem dC_lower_8 : decode bC_lower 8 = .ok (.getfield 315, 3) := by decide +kernel
theorem dC_lower_11 : decode bC_lower 11 = .ok (.invokevirtual 311, 3) := by decide +kernel
theorem dC_lower_14 : decode bC_lower 14 = .ok (.istore_n 1, 1) := by decide +kernel
theorem dC_lower_15 : decode bC_lower 15 = .ok (.aload_n 0, 1) := by decide +kernel
theorem dC_lower_16 : decode bC_lower 16 = .ok (.getfield 29, 3) := by decide +kernel
theorem dC_lower_19 : decode bC_lower 19 = .ok (.aload_n 0, 1) := by decide +kernel
theorem dC_lower_20 : decode bC_lower 20 = .ok (.getfield 29, 3) := by decide +kernel
theorem dC_lower_23 : decode bC_lower 23 = .ok (.getfield 177, 3) := by decide +kernel
theorem dC_lower_26 : decode bC_lower 26 = .ok (.invokevirtual 311, 3) := by decide +kernel
theorem dC_lower_29 : decode bC_lower 29 = .ok (.iload_n 1, 1) := by decide +kernel
theorem dC_lower_30 : decode bC_lower 30 = .ok (.invokestatic 318, 3) := by decide +kernel
theorem dC_lower_33 : decode bC_lower 33 = .ok (.istore_n 2, 1) := by decide +kernel
theorem dC_lower_34 : decode bC_lower 34 = .ok (.iload_n 2, 1) := by decide +kernel
theorem dC_lower_35 : decode bC_lower 35 = .ok (.ifCond .le 10, 3) := by decide +kernel
theorem dC_lower_38 : decode bC_lower 38 = .ok (.iload_n 1, 1) := by decide +kernel
theorem dC_lower_39 : decode bC_lower 39 = .ok (.iload_n 2, 1) := by decide +kernel
theorem dC_lower_40 : decode bC_lower 40 = .ok (.idiv, 1) := by decide +kernel
theorem dC_lower_41 : decode bC_lower 41 = .ok (.i2l, 1) := by decide +kernel
theorem dC_lower_42 : decode bC_lower 42 = .ok (.goto 4, 3) := by decide +kernel
theorem dC_lower_45 : decode bC_lower 45 = .ok (.lconst 1, 1) := by decide +kernel
theorem dC_lower_46 : decode bC_lower 46 = .ok (.lreturn, 1) := by decide +kernel
def f_C_lower (n : Nat)  (s : mb_T) : Option (Int64 × mb_T) := mb_cl (f_V_sumOf n 100 (100 + 9) 5 s) fun r_3 s_1 => mb_cl (f_V_sumOf n 100 (100 + 6) 5 s_1) fun r_6 s_4 => mb_cl (f_C_greatestDivisor n r_6 r_3 s_4) fun r_9 s_7 => if r_9 ≤ 0 then some (1, s_7) else mb_dv r_9 (some ((Int32.toInt64 (r_3 / r_9)), s_7))
set_option maxHeartbeats 4000000 in
set_option maxRecDepth 100000 in
theorem t_C_lower {dd n : Nat}  {s : mb_T} {out : Int64 × mb_T}  (h : f_C_lower n  s = some out) : mb_MC (dd + 2) yC_lower bC_lower 3 (some .long) [.ref 0] s (some (.long out.1)) out.2 := by
  unfold f_C_lower at h
  refine mj_mc (lv := [.ref 0, .retAddr 0, .retAddr 0]) mC_lower rfl rfl (Nat.le_of_ble_eq_true rfl) (fun K hK hR => ?_)
  have hK : mj_C (dd + 2) 0 0 RC_c "lower" bC_lower 3 K := hK
  refine ro_aload_n hK dC_lower_0 rfl ?_
  refine rb_get hK fC_29 mb_oC rfl dC_lower_1 ?_
  refine ro_aload_n hK dC_lower_4 rfl ?_
  refine rb_get hK fC_29 mb_oC rfl dC_lower_5 ?_
  refine rb_get hK fC_315 (mb_cvo (Or.inl rfl)) rfl dC_lower_8 ?_
  obtain ⟨r_3, s_1, q_2, h⟩ := mb_cl_e h
  refine rb_callV hK mV_sumOf vC_311 (t_V_sumOf (dd := dd + 0) (Or.inl rfl) (mb_cv9 (Or.inl rfl)) q_2) rfl (mb_cvo (Or.inl rfl)) rfl (Nat.le_of_ble_eq_true rfl) dC_lower_11 rfl ⟨Nat.le_refl _, Nat.le_refl _⟩ ?_
  show K 0 0 14 [.ref 0, .retAddr 0, .retAddr 0] [.int r_3] (mb_s s_1)
  refine ro_istore_n hK dC_lower_14 (by decide) ?_
  show K 0 0 15 [.ref 0, .int r_3, .retAddr 0] [] (mb_s s_1)
  refine ro_aload_n hK dC_lower_15 rfl ?_
  refine rb_get hK fC_29 mb_oC rfl dC_lower_16 ?_
  refine ro_aload_n hK dC_lower_19 rfl ?_
  refine rb_get hK fC_29 mb_oC rfl dC_lower_20 ?_
  refine rb_get hK fC_177 (mb_cvo (Or.inl rfl)) rfl dC_lower_23 ?_
  obtain ⟨r_6, s_4, q_5, h⟩ := mb_cl_e h
  refine rb_callV hK mV_sumOf vC_311 (t_V_sumOf (dd := dd + 0) (Or.inl rfl) (mb_cv6 (Or.inl rfl)) q_5) rfl (mb_cvo (Or.inl rfl)) rfl (Nat.le_of_ble_eq_true rfl) dC_lower_26 rfl ⟨Nat.le_refl _, Nat.le_refl _⟩ ?_
  show K 0 0 29 [.ref 0, .int r_3, .retAddr 0] [.int r_6] (mb_s s_4)
  refine ro_iload_n hK dC_lower_29 rfl ?_
  obtain ⟨r_9, s_7, q_8, h⟩ := mb_cl_e h
  refine rb_callS hK mC_greatestDivisor vC_318 (t_C_greatestDivisor (dd := dd + 0) q_8) rfl (Nat.le_of_ble_eq_true rfl) dC_lower_30 rfl ⟨Nat.le_refl _, Nat.le_refl _⟩ ?_
  show K 0 0 33 [.ref 0, .int r_3, .retAddr 0] [.int r_9] (mb_s s_7)
  refine ro_istore_n hK dC_lower_33 (by decide) ?_
  show K 0 0 34 [.ref 0, .int r_3, .int r_9] [] (mb_s s_7)
  refine ro_iload_n hK dC_lower_34 rfl ?_
  refine ro_if_le (tgt := 45) hK dC_lower_35 (by decide) (fun c_10 => ?_) (fun c_10 => ?_)
  · replace h := mb_ift c_10 h
    refine ro_lconst (x := 1) hK (by decide) dC_lower_45 ?_
    cases h
    exact hR.2.1 0 0 46 _ _ _ rfl dC_lower_46 ⟨rfl, rfl⟩
  · replace h := mb_iff c_10 h
    refine ro_iload_n hK dC_lower_38 rfl ?_
    refine ro_iload_n hK dC_lower_39 rfl ?_
    obtain ⟨z_11, h⟩ := mb_dv_e h
    refine ro_idiv hK dC_lower_40 z_11 ?_
    refine ro_i2l hK dC_lower_41 ?_
    refine ro_goto (tgt := 46) hK dC_lower_42 (by decide) ?_
    cases h
    exact hR.2.1 0 0 46 _ _ _ rfl dC_lower_46 ⟨rfl, rfl⟩
