theorem dA_moreAfraid_0 : decode bA_moreAfraid 0 = .ok (.iconst 0, 1) := by decide +kernel
theorem dA_moreAfraid_1 : decode bA_moreAfraid 1 = .ok (.istore_n 3, 1) := by decide +kernel
theorem dA_moreAfraid_2 : decode bA_moreAfraid 2 = .ok (.iconst 0, 1) := by decide +kernel
theorem dA_moreAfraid_3 : decode bA_moreAfraid 3 = .ok (.istore 4, 2) := by decide +kernel
theorem dA_moreAfraid_5 : decode bA_moreAfraid 5 = .ok (.iload 4, 2) := by decide +kernel
theorem dA_moreAfraid_7 : decode bA_moreAfraid 7 = .ok (.aload_n 0, 1) := by decide +kernel
theorem dA_moreAfraid_8 : decode bA_moreAfraid 8 = .ok (.getfield 48, 3) := by decide +kernel
theorem dA_moreAfraid_11 : decode bA_moreAfraid 11 = .ok (.if_icmp .ge 42, 3) := by decide +kernel
theorem dA_moreAfraid_14 : decode bA_moreAfraid 14 = .ok (.iload_n 3, 1) := by decide +kernel
theorem dA_moreAfraid_15 : decode bA_moreAfraid 15 = .ok (.iload_n 2, 1) := by decide +kernel
theorem dA_moreAfraid_16 : decode bA_moreAfraid 16 = .ok (.iload 4, 2) := by decide +kernel
theorem dA_moreAfraid_18 : decode bA_moreAfraid 18 = .ok (.ishr, 1) := by decide +kernel
theorem dA_moreAfraid_19 : decode bA_moreAfraid 19 = .ok (.iconst 1, 1) := by decide +kernel
theorem dA_moreAfraid_20 : decode bA_moreAfraid 20 = .ok (.iand, 1) := by decide +kernel
theorem dA_moreAfraid_21 : decode bA_moreAfraid 21 = .ok (.ifCond .eq 23, 3) := by decide +kernel
theorem dA_moreAfraid_24 : decode bA_moreAfraid 24 = .ok (.aload_n 0, 1) := by decide +kernel
theorem dA_moreAfraid_25 : decode bA_moreAfraid 25 = .ok (.getfield 15, 3) := by decide +kernel
theorem dA_moreAfraid_28 : decode bA_moreAfraid 28 = .ok (.iload 4, 2) := by decide +kernel
theorem dA_moreAfraid_30 : decode bA_moreAfraid 30 = .ok (.iaload, 1) := by decide +kernel
theorem dA_moreAfraid_31 : decode bA_moreAfraid 31 = .ok (.aload_n 0, 1) := by decide +kernel
theorem dA_moreAfraid_32 : decode bA_moreAfraid 32 = .ok (.getfield 15, 3) := by decide +kernel
theorem dA_moreAfraid_35 : decode bA_moreAfraid 35 = .ok (.iload_n 1, 1) := by decide +kernel
theorem dA_moreAfraid_36 : decode bA_moreAfraid 36 = .ok (.iaload, 1) := by decide +kernel
theorem dA_moreAfraid_37 : decode bA_moreAfraid 37 = .ok (.if_icmp .le 7, 3) := by decide +kernel
theorem dA_moreAfraid_40 : decode bA_moreAfraid 40 = .ok (.iconst 1, 1) := by decide +kernel
theorem dA_moreAfraid_41 : decode bA_moreAfraid 41 = .ok (.goto 4, 3) := by decide +kernel
theorem dA_moreAfraid_44 : decode bA_moreAfraid 44 = .ok (.iconst 0, 1) := by decide +kernel
theorem dA_moreAfraid_45 : decode bA_moreAfraid 45 = .ok (.iadd, 1) := by decide +kernel
theorem dA_moreAfraid_46 : decode bA_moreAfraid 46 = .ok (.istore_n 3, 1) := by decide +kernel
theorem dA_moreAfraid_47 : decode bA_moreAfraid 47 = .ok (.iinc 4 1, 3) := by decide +kernel
theorem dA_moreAfraid_50 : decode bA_moreAfraid 50 = .ok (.goto (-45), 3) := by decide +kernel
theorem dA_moreAfraid_53 : decode bA_moreAfraid 53 = .ok (.iload_n 3, 1) := by decide +kernel
theorem dA_moreAfraid_54 : decode bA_moreAfraid 54 = .ok (.ireturn, 1) := by decide +kernel
def f_A_moreAfraid_5 (n : Nat) (k0 : Int32 → Int32 → mb_T → Option (Int32 × mb_T)) (y1 : Int32) (y2 : Int32) : Nat → Int32 → Int32 → mb_T → Option (Int32 × mb_T)
  | 0, _, _, _ => none
  | f + 1, w3, w4, s => if (s.1 40 0) ≤ w4 then k0 w3 w4 s else mb_jn (fun (x_12 : Int32) (s_13 : mb_T) => f_A_moreAfraid_5 n k0 y1 y2 f (w3 + x_12) (w4 + 1) s_13) fun j_2 => if ((y2 >>> (w4 &&& 31)) &&& 1) = 0 then j_2 0 s else mb_rd s 48 5 w4 fun x_4 => mb_rd s 48 5 y1 fun x_7 => j_2 (if x_4 ≤ x_7 then 0 else 1 : Int32) s
def f_A_moreAfraid (n : Nat) (x1 : Int32) (x2 : Int32) (s : mb_T) : Option (Int32 × mb_T) := f_A_moreAfraid_5 n (fun x_15 x_16 s_17 => some (x_15, s_17)) x1 x2 n 0 0 s
set_option maxHeartbeats 4000000 in
set_option maxRecDepth 100000 in
theorem tl_A_moreAfraid_5 {dd n : Nat} {K : mj_KT} {out : Int32 × mb_T} (hK : mj_C (dd + 1) 0 0 RA_c "moreAfraid" bA_moreAfraid 5 K) (hR : mj_R bA_moreAfraid (some .int) (fun r2 S2 => r2 = some (.int out.1) ∧ S2 = mb_s out.2) K) {k0 : Int32 → Int32 → mb_T → Option (Int32 × mb_T)} {y1 : Int32} {y2 : Int32} (hk0 : ∀ (w3 : Int32) (w4 : Int32) (s : mb_T), k0 w3 w4 s = some out → K 0 0 53 [.ref 40, .int y1, .int y2, .int w3, .int w4] [] (mb_s s)) : ∀ (f : Nat) (w3 : Int32) (w4 : Int32) (s : mb_T), f_A_moreAfraid_5 n k0 y1 y2 f w3 w4 s = some out → K 0 0 5 [.ref 40, .int y1, .int y2, .int w3, .int w4] [] (mb_s s) := by
  intro f
  induction f with
  | zero =>
    intro w3 w4 s h
    cases h
  | succ f ih =>
    intro w3 w4 s h
    rw [f_A_moreAfraid_5] at h
    refine ro_iload hK dA_moreAfraid_5 rfl ?_
    refine ro_aload_n hK dA_moreAfraid_7 rfl ?_
    refine rb_get hK fA_48 mb_oA rfl dA_moreAfraid_8 ?_
    refine ro_icmp_ge (tgt := 53) hK dA_moreAfraid_11 (by decide) (fun c_1 => ?_) (fun c_1 => ?_)
    · replace h := mb_ift c_1 h
      refine ro_fg (lv' := [.ref 40, .int y1, .int y2, .int w3, .int w4]) hK ⟨Or.inr rfl, ⟨Or.inr rfl, ⟨Or.inr rfl, ⟨Or.inr rfl, ⟨Or.inr rfl, trivial⟩⟩⟩⟩⟩ ?_
      exact hk0 _ _ _ h
    · replace h := mb_iff c_1 h
      refine ro_iload_n hK dA_moreAfraid_14 rfl ?_
      refine ro_iload_n hK dA_moreAfraid_15 rfl ?_
      refine ro_iload hK dA_moreAfraid_16 rfl ?_
      refine ro_ishr hK dA_moreAfraid_18 ?_
      refine ro_iconst (x := 1) hK (by decide) dA_moreAfraid_19 ?_
      refine ro_iand hK dA_moreAfraid_20 ?_
      obtain ⟨j_2, e_14, h⟩ := mb_jn_e h
      have hj_2 : ∀ (x_12 : Int32) (s_13 : mb_T), j_2 x_12 s_13 = some out → K 0 0 45 [.ref 40, .int y1, .int y2, .int w3, .int w4] [.int x_12, .int w3] (mb_s s_13) := by
        intro x_12 s_13 h
        rw [e_14] at h
        refine ro_iadd hK dA_moreAfraid_45 ?_
        refine ro_istore_n hK dA_moreAfraid_46 (by decide) ?_
        show K 0 0 47 [.ref 40, .int y1, .int y2, .int (w3 + x_12), .int w4] [] (mb_s s_13)
        refine ro_iincv (c := 1) hK (by decide) dA_moreAfraid_47 rfl (by decide) ?_
        show K 0 0 50 [.ref 40, .int y1, .int y2, .int (w3 + x_12), .int (w4 + 1)] [] (mb_s s_13)
        refine ro_goto (tgt := 5) hK dA_moreAfraid_50 (by decide) ?_
        refine ro_fg (lv' := [.ref 40, .int y1, .int y2, .int (w3 + x_12), .int (w4 + 1)]) hK ⟨Or.inr rfl, ⟨Or.inr rfl, ⟨Or.inr rfl, ⟨Or.inr rfl, ⟨Or.inr rfl, trivial⟩⟩⟩⟩⟩ ?_
        exact ih _ _ _ h
      refine ro_if_eq (tgt := 44) hK dA_moreAfraid_21 (by decide) (fun c_3 => ?_) (fun c_3 => ?_)
      · replace h := mb_ift c_3 h
        refine ro_iconst (x := 0) hK (by decide) dA_moreAfraid_44 ?_
        refine ro_fg (lv' := [.ref 40, .int y1, .int y2, .int w3, .int w4]) hK ⟨Or.inr rfl, ⟨Or.inr rfl, ⟨Or.inr rfl, ⟨Or.inr rfl, ⟨Or.inr rfl, trivial⟩⟩⟩⟩⟩ ?_
        exact hj_2 _ _ h
      · replace h := mb_iff c_3 h
        refine ro_aload_n hK dA_moreAfraid_24 rfl ?_
        refine rb_get hK fA_15 mb_oA rfl dA_moreAfraid_25 ?_
        refine ro_iload hK dA_moreAfraid_28 rfl ?_
        obtain ⟨x_4, e_5, i_6, h⟩ := mb_rd_e h
        refine rb_iald hK ai_48 i_6 e_5 dA_moreAfraid_30 ?_
        refine ro_aload_n hK dA_moreAfraid_31 rfl ?_
        refine rb_get hK fA_15 mb_oA rfl dA_moreAfraid_32 ?_
        refine ro_iload_n hK dA_moreAfraid_35 rfl ?_
        obtain ⟨x_7, e_8, i_9, h⟩ := mb_rd_e h
        refine rb_iald hK ai_48 i_9 e_8 dA_moreAfraid_36 ?_
        have j_11 : ∀ w_ : Int32, w_ = (if x_4 ≤ x_7 then 0 else 1 : Int32) → K 0 0 45 [.ref 40, .int y1, .int y2, .int w3, .int w4] [.int w_, .int w3] (mb_s s) → K 0 0 37 [.ref 40, .int y1, .int y2, .int w3, .int w4] [.int x_7, .int x_4, .int w3] (mb_s s) := by
          intro w_ hw hj
          refine ro_icmp_le (tgt := 44) hK dA_moreAfraid_37 (by decide) (fun c_10 => ?_) (fun c_10 => ?_)
          · skip
            refine ro_iconst (x := 0) hK (by decide) dA_moreAfraid_44 ?_
            have hw := (hw.trans (if_pos c_10))
            subst hw
            exact hj
          · skip
            refine ro_iconst (x := 1) hK (by decide) dA_moreAfraid_40 ?_
            refine ro_goto (tgt := 45) hK dA_moreAfraid_41 (by decide) ?_
            have hw := (hw.trans (if_neg c_10))
            subst hw
            exact hj
        refine j_11 _ rfl ?_
        refine ro_fg (lv' := [.ref 40, .int y1, .int y2, .int w3, .int w4]) hK ⟨Or.inr rfl, ⟨Or.inr rfl, ⟨Or.inr rfl, ⟨Or.inr rfl, ⟨Or.inr rfl, trivial⟩⟩⟩⟩⟩ ?_
        exact hj_2 _ _ h
set_option maxHeartbeats 4000000 in
set_option maxRecDepth 100000 in
theorem t_A_moreAfraid {dd n : Nat} {x1 : Int32} {x2 : Int32} {s : mb_T} {out : Int32 × mb_T}  (h : f_A_moreAfraid n x1 x2 s = some out) : mb_MC (dd + 1) yA_moreAfraid bA_moreAfraid 5 (some .int) [.ref 40, .int x1, .int x2] s (some (.int out.1)) out.2 := by
  unfold f_A_moreAfraid at h
  refine mj_mc (lv := [.ref 40, .int x1, .int x2, .retAddr 0, .retAddr 0]) mA_moreAfraid rfl rfl (Nat.le_of_ble_eq_true rfl) (fun K hK hR => ?_)
  have hK : mj_C (dd + 1) 0 0 RA_c "moreAfraid" bA_moreAfraid 5 K := hK
  refine ro_iconst (x := 0) hK (by decide) dA_moreAfraid_0 ?_
  refine ro_istore_n hK dA_moreAfraid_1 (by decide) ?_
  show K 0 0 2 [.ref 40, .int x1, .int x2, .int 0, .retAddr 0] [] (mb_s s)
  refine ro_iconst (x := 0) hK (by decide) dA_moreAfraid_2 ?_
  refine ro_istore hK dA_moreAfraid_3 (by decide) ?_
  show K 0 0 5 [.ref 40, .int x1, .int x2, .int 0, .int 0] [] (mb_s s)
  refine ro_fg (lv' := [.ref 40, .int x1, .int x2, .int 0, .int 0]) hK ⟨Or.inr rfl, ⟨Or.inr rfl, ⟨Or.inr rfl, ⟨Or.inr rfl, ⟨Or.inr rfl, trivial⟩⟩⟩⟩⟩ ?_
  refine tl_A_moreAfraid_5 (dd := dd) hK hR (fun x_15 x_16 s_17 h => ?_) n _ _ _ h
  refine ro_iload_n hK dA_moreAfraid_53 rfl ?_
  cases h
  exact hR.1 0 0 54 _ _ _ _ rfl rfl dA_moreAfraid_54 ⟨rfl, rfl⟩
theorem dA_mostAfraid_0 : decode bA_mostAfraid 0 = .ok (.iconst 0, 1) := by decide +kernel
theorem dA_mostAfraid_1 : decode bA_mostAfraid 1 = .ok (.istore_n 1, 1) := by decide +kernel
theorem dA_mostAfraid_2 : decode bA_mostAfraid 2 = .ok (.iconst 1, 1) := by decide +kernel
theorem dA_mostAfraid_3 : decode bA_mostAfraid 3 = .ok (.istore_n 2, 1) := by decide +kernel
theorem dA_mostAfraid_4 : decode bA_mostAfraid 4 = .ok (.iload_n 2, 1) := by decide +kernel
theorem dA_mostAfraid_5 : decode bA_mostAfraid 5 = .ok (.aload_n 0, 1) := by decide +kernel
theorem dA_mostAfraid_6 : decode bA_mostAfraid 6 = .ok (.getfield 48, 3) := by decide +kernel
theorem dA_mostAfraid_9 : decode bA_mostAfraid 9 = .ok (.if_icmp .ge 30, 3) := by decide +kernel
theorem dA_mostAfraid_12 : decode bA_mostAfraid 12 = .ok (.aload_n 0, 1) := by decide +kernel
theorem dA_mostAfraid_13 : decode bA_mostAfraid 13 = .ok (.getfield 15, 3) := by decide +kernel
theorem dA_mostAfraid_16 : decode bA_mostAfraid 16 = .ok (.iload_n 2, 1) := by decide +kernel
theorem dA_mostAfraid_17 : decode bA_mostAfraid 17 = .ok (.iaload, 1) := by decide +kernel
theorem dA_mostAfraid_18 : decode bA_mostAfraid 18 = .ok (.aload_n 0, 1) := by decide +kernel
theorem dA_mostAfraid_19 : decode bA_mostAfraid 19 = .ok (.getfield 15, 3) := by decide +kernel
theorem dA_mostAfraid_22 : decode bA_mostAfraid 22 = .ok (.iload_n 1, 1) := by decide +kernel
theorem dA_mostAfraid_23 : decode bA_mostAfraid 23 = .ok (.iaload, 1) := by decide +kernel
theorem dA_mostAfraid_24 : decode bA_mostAfraid 24 = .ok (.if_icmp .le 7, 3) := by decide +kernel
theorem dA_mostAfraid_27 : decode bA_mostAfraid 27 = .ok (.iload_n 2, 1) := by decide +kernel
theorem dA_mostAfraid_28 : decode bA_mostAfraid 28 = .ok (.goto 4, 3) := by decide +kernel
theorem dA_mostAfraid_31 : decode bA_mostAfraid 31 = .ok (.iload_n 1, 1) := by decide +kernel
theorem dA_mostAfraid_32 : decode bA_mostAfraid 32 = .ok (.istore_n 1, 1) := by decide +kernel
theorem dA_mostAfraid_33 : decode bA_mostAfraid 33 = .ok (.iinc 2 1, 3) := by decide +kernel
theorem dA_mostAfraid_36 : decode bA_mostAfraid 36 = .ok (.goto (-32), 3) := by decide +kernel
theorem dA_mostAfraid_39 : decode bA_mostAfraid 39 = .ok (.iload_n 1, 1) := by decide +kernel
theorem dA_mostAfraid_40 : decode bA_mostAfraid 40 = .ok (.ireturn, 1) := by decide +kernel
def f_A_mostAfraid_4 (n : Nat) (k0 : Int32 → Int32 → mb_T → Option (Int32 × mb_T))  : Nat → Int32 → Int32 → mb_T → Option (Int32 × mb_T)
  | 0, _, _, _ => none
  | f + 1, w1, w2, s => if (s.1 40 0) ≤ w2 then k0 w1 w2 s else mb_rd s 48 5 w2 fun x_2 => mb_rd s 48 5 w1 fun x_5 => f_A_mostAfraid_4 n k0 f (if x_2 ≤ x_5 then w1 else w2 : Int32) (w2 + 1) s
def f_A_mostAfraid (n : Nat)  (s : mb_T) : Option (Int32 × mb_T) := f_A_mostAfraid_4 n (fun x_10 x_11 s_12 => some (x_10, s_12)) n 0 1 s
set_option maxHeartbeats 4000000 in
set_option maxRecDepth 100000 in
theorem tl_A_mostAfraid_4 {dd n : Nat} {K : mj_KT} {out : Int32 × mb_T} (hK : mj_C (dd + 1) 0 0 RA_c "mostAfraid" bA_mostAfraid 3 K) (hR : mj_R bA_mostAfraid (some .int) (fun r2 S2 => r2 = some (.int out.1) ∧ S2 = mb_s out.2) K) {k0 : Int32 → Int32 → mb_T → Option (Int32 × mb_T)}  (hk0 : ∀ (w1 : Int32) (w2 : Int32) (s : mb_T), k0 w1 w2 s = some out → K 0 0 39 [.ref 40, .int w1, .int w2] [] (mb_s s)) : ∀ (f : Nat) (w1 : Int32) (w2 : Int32) (s : mb_T), f_A_mostAfraid_4 n k0 f w1 w2 s = some out → K 0 0 4 [.ref 40, .int w1, .int w2] [] (mb_s s) := by
  intro f
  induction f with
  | zero =>
    intro w1 w2 s h
    cases h
  | succ f ih =>
    intro w1 w2 s h
    rw [f_A_mostAfraid_4] at h
    refine ro_iload_n hK dA_mostAfraid_4 rfl ?_
    refine ro_aload_n hK dA_mostAfraid_5 rfl ?_
    refine rb_get hK fA_48 mb_oA rfl dA_mostAfraid_6 ?_
    refine ro_icmp_ge (tgt := 39) hK dA_mostAfraid_9 (by decide) (fun c_1 => ?_) (fun c_1 => ?_)
    · replace h := mb_ift c_1 h
      refine ro_fg (lv' := [.ref 40, .int w1, .int w2]) hK ⟨Or.inr rfl, ⟨Or.inr rfl, ⟨Or.inr rfl, trivial⟩⟩⟩ ?_
      exact hk0 _ _ _ h
    · replace h := mb_iff c_1 h
      refine ro_aload_n hK dA_mostAfraid_12 rfl ?_
      refine rb_get hK fA_15 mb_oA rfl dA_mostAfraid_13 ?_
      refine ro_iload_n hK dA_mostAfraid_16 rfl ?_
      obtain ⟨x_2, e_3, i_4, h⟩ := mb_rd_e h
      refine rb_iald hK ai_48 i_4 e_3 dA_mostAfraid_17 ?_
      refine ro_aload_n hK dA_mostAfraid_18 rfl ?_
      refine rb_get hK fA_15 mb_oA rfl dA_mostAfraid_19 ?_
      refine ro_iload_n hK dA_mostAfraid_22 rfl ?_
      obtain ⟨x_5, e_6, i_7, h⟩ := mb_rd_e h
      refine rb_iald hK ai_48 i_7 e_6 dA_mostAfraid_23 ?_
      have j_9 : ∀ w_ : Int32, w_ = (if x_2 ≤ x_5 then w1 else w2 : Int32) → K 0 0 32 [.ref 40, .int w1, .int w2] [.int w_] (mb_s s) → K 0 0 24 [.ref 40, .int w1, .int w2] [.int x_5, .int x_2] (mb_s s) := by
        intro w_ hw hj
        refine ro_icmp_le (tgt := 31) hK dA_mostAfraid_24 (by decide) (fun c_8 => ?_) (fun c_8 => ?_)
        · skip
          refine ro_iload_n hK dA_mostAfraid_31 rfl ?_
          have hw := (hw.trans (if_pos c_8))
          subst hw
          exact hj
        · skip
          refine ro_iload_n hK dA_mostAfraid_27 rfl ?_
          refine ro_goto (tgt := 32) hK dA_mostAfraid_28 (by decide) ?_
          have hw := (hw.trans (if_neg c_8))
          subst hw
          exact hj
      refine j_9 _ rfl ?_
      refine ro_istore_n hK dA_mostAfraid_32 (by decide) ?_
      show K 0 0 33 [.ref 40, .int (if x_2 ≤ x_5 then w1 else w2 : Int32), .int w2] [] (mb_s s)
      refine ro_iincv (c := 1) hK (by decide) dA_mostAfraid_33 rfl (by decide) ?_
      show K 0 0 36 [.ref 40, .int (if x_2 ≤ x_5 then w1 else w2 : Int32), .int (w2 + 1)] [] (mb_s s)
      refine ro_goto (tgt := 4) hK dA_mostAfraid_36 (by decide) ?_
      refine ro_fg (lv' := [.ref 40, .int (if x_2 ≤ x_5 then w1 else w2 : Int32), .int (w2 + 1)]) hK ⟨Or.inr rfl, ⟨Or.inr rfl, ⟨Or.inr rfl, trivial⟩⟩⟩ ?_
      exact ih _ _ _ h
set_option maxHeartbeats 4000000 in
set_option maxRecDepth 100000 in
theorem t_A_mostAfraid {dd n : Nat}  {s : mb_T} {out : Int32 × mb_T}  (h : f_A_mostAfraid n  s = some out) : mb_MC (dd + 1) yA_mostAfraid bA_mostAfraid 3 (some .int) [.ref 40] s (some (.int out.1)) out.2 := by
  unfold f_A_mostAfraid at h
  refine mj_mc (lv := [.ref 40, .retAddr 0, .retAddr 0]) mA_mostAfraid rfl rfl (Nat.le_of_ble_eq_true rfl) (fun K hK hR => ?_)
  have hK : mj_C (dd + 1) 0 0 RA_c "mostAfraid" bA_mostAfraid 3 K := hK
  refine ro_iconst (x := 0) hK (by decide) dA_mostAfraid_0 ?_
  refine ro_istore_n hK dA_mostAfraid_1 (by decide) ?_
  show K 0 0 2 [.ref 40, .int 0, .retAddr 0] [] (mb_s s)
  refine ro_iconst (x := 1) hK (by decide) dA_mostAfraid_2 ?_
  refine ro_istore_n hK dA_mostAfraid_3 (by decide) ?_
  show K 0 0 4 [.ref 40, .int 0, .int 1] [] (mb_s s)
  refine ro_fg (lv' := [.ref 40, .int 0, .int 1]) hK ⟨Or.inr rfl, ⟨Or.inr rfl, ⟨Or.inr rfl, trivial⟩⟩⟩ ?_
  refine tl_A_mostAfraid_4 (dd := dd) hK hR (fun x_10 x_11 s_12 h => ?_) n _ _ _ h
  refine ro_iload_n hK dA_mostAfraid_39 rfl ?_
  cases h
  exact hR.1 0 0 40 _ _ _ _ rfl rfl dA_mostAfraid_40 ⟨rfl, rfl⟩
theorem dA_restore_0 : decode bA_restore 0 = .ok (.iload_n 1, 1) := by decide +kernel
theorem dA_restore_1 : decode bA_restore 1 = .ok (.bipush 8, 2) := by decide +kernel
theorem dA_restore_3 : decode bA_restore 3 = .ok (.imul, 1) := by decide +kernel
theorem dA_restore_4 : decode bA_restore 4 = .ok (.istore_n 2, 1) := by decide +kernel
theorem dA_restore_5 : decode bA_restore 5 = .ok (.iload_n 2, 1) := by decide +kernel
theorem dA_restore_6 : decode bA_restore 6 = .ok (.ifCond .lt 67, 3) := by decide +kernel
theorem dA_restore_9 : decode bA_restore 9 = .ok (.iload_n 2, 1) := by decide +kernel
theorem dA_restore_10 : decode bA_restore 10 = .ok (.aload_n 0, 1) := by decide +kernel
theorem dA_restore_11 : decode bA_restore 11 = .ok (.getfield 39, 3) := by decide +kernel
theorem dA_restore_14 : decode bA_restore 14 = .ok (.arraylength, 1) := by decide +kernel
theorem dA_restore_15 : decode bA_restore 15 = .ok (.bipush 8, 2) := by decide +kernel
theorem dA_restore_17 : decode bA_restore 17 = .ok (.isub, 1) := by decide +kernel
theorem dA_restore_18 : decode bA_restore 18 = .ok (.if_icmp .gt 55, 3) := by decide +kernel
theorem dA_restore_21 : decode bA_restore 21 = .ok (.aload_n 0, 1) := by decide +kernel
theorem dA_restore_22 : decode bA_restore 22 = .ok (.getfield 39, 3) := by decide +kernel
theorem dA_restore_25 : decode bA_restore 25 = .ok (.iload_n 2, 1) := by decide +kernel
theorem dA_restore_26 : decode bA_restore 26 = .ok (.aload_n 0, 1) := by decide +kernel
theorem dA_restore_27 : decode bA_restore 27 = .ok (.getfield 15, 3) := by decide +kernel
theorem dA_restore_30 : decode bA_restore 30 = .ok (.iconst 0, 1) := by decide +kernel
theorem dA_restore_31 : decode bA_restore 31 = .ok (.iconst 5, 1) := by decide +kernel
theorem dA_restore_32 : decode bA_restore 32 = .ok (.invokestatic 80, 3) := by decide +kernel
theorem dA_restore_35 : decode bA_restore 35 = .ok (.aload_n 0, 1) := by decide +kernel
theorem dA_restore_36 : decode bA_restore 36 = .ok (.aload_n 0, 1) := by decide +kernel
theorem dA_restore_37 : decode bA_restore 37 = .ok (.getfield 39, 3) := by decide +kernel
theorem dA_restore_40 : decode bA_restore 40 = .ok (.iload_n 2, 1) := by decide +kernel
theorem dA_restore_41 : decode bA_restore 41 = .ok (.iconst 5, 1) := by decide +kernel
theorem dA_restore_42 : decode bA_restore 42 = .ok (.iadd, 1) := by decide +kernel
theorem dA_restore_43 : decode bA_restore 43 = .ok (.iaload, 1) := by decide +kernel
theorem dA_restore_44 : decode bA_restore 44 = .ok (.putfield 56, 3) := by decide +kernel
theorem dA_restore_47 : decode bA_restore 47 = .ok (.aload_n 0, 1) := by decide +kernel
theorem dA_restore_48 : decode bA_restore 48 = .ok (.aload_n 0, 1) := by decide +kernel
theorem dA_restore_49 : decode bA_restore 49 = .ok (.getfield 39, 3) := by decide +kernel
theorem dA_restore_52 : decode bA_restore 52 = .ok (.iload_n 2, 1) := by decide +kernel
theorem dA_restore_53 : decode bA_restore 53 = .ok (.bipush 6, 2) := by decide +kernel
theorem dA_restore_55 : decode bA_restore 55 = .ok (.iadd, 1) := by decide +kernel
theorem dA_restore_56 : decode bA_restore 56 = .ok (.iaload, 1) := by decide +kernel
theorem dA_restore_57 : decode bA_restore 57 = .ok (.putfield 64, 3) := by decide +kernel
theorem dA_restore_60 : decode bA_restore 60 = .ok (.aload_n 0, 1) := by decide +kernel
theorem dA_restore_61 : decode bA_restore 61 = .ok (.aload_n 0, 1) := by decide +kernel
theorem dA_restore_62 : decode bA_restore 62 = .ok (.getfield 39, 3) := by decide +kernel
theorem dA_restore_65 : decode bA_restore 65 = .ok (.iload_n 2, 1) := by decide +kernel
theorem dA_restore_66 : decode bA_restore 66 = .ok (.bipush 7, 2) := by decide +kernel
theorem dA_restore_68 : decode bA_restore 68 = .ok (.iadd, 1) := by decide +kernel
theorem dA_restore_69 : decode bA_restore 69 = .ok (.iaload, 1) := by decide +kernel
theorem dA_restore_70 : decode bA_restore 70 = .ok (.putfield 69, 3) := by decide +kernel
theorem dA_restore_73 : decode bA_restore 73 = .ok (.return_, 1) := by decide +kernel
def f_A_restore (n : Nat) (x1 : Int32) (s : mb_T) : Option (mb_T) := if (x1 * 8) < 0 then some s else if ((Int32.ofNat 48) - 8) < (x1 * 8) then some s else mb_cp s 56 48 48 5 (x1 * 8) 0 5 fun s_3 => mb_rd s_3 56 48 ((x1 * 8) + 5) fun x_6 => mb_bd (sF s_3 40 2 x_6) fun s_9 => mb_rd s_9 56 48 ((x1 * 8) + 6) fun x_11 => mb_bd (sF s_9 40 4 x_11) fun s_14 => mb_rd s_14 56 48 ((x1 * 8) + 7) fun x_16 => mb_bd (sF s_14 40 5 x_16) fun s_19 => some s_19
set_option maxHeartbeats 4000000 in
set_option maxRecDepth 100000 in
theorem t_A_restore {dd n : Nat} {x1 : Int32} {s : mb_T} {out : mb_T}  (h : f_A_restore n x1 s = some out) : mb_MC (dd + 1) yA_restore bA_restore 3 none [.ref 40, .int x1] s none out := by
  unfold f_A_restore at h
  refine mj_mc (lv := [.ref 40, .int x1, .retAddr 0]) mA_restore rfl rfl (Nat.le_of_ble_eq_true rfl) (fun K hK hR => ?_)
  have hK : mj_C (dd + 1) 0 0 RA_c "restore" bA_restore 3 K := hK
  refine ro_iload_n hK dA_restore_0 rfl ?_
  refine ro_bipush (x := 8) hK (by decide) dA_restore_1 ?_
  refine ro_imul hK dA_restore_3 ?_
  refine ro_istore_n hK dA_restore_4 (by decide) ?_
  show K 0 0 5 [.ref 40, .int x1, .int (x1 * 8)] [] (mb_s s)
  refine ro_iload_n hK dA_restore_5 rfl ?_
  refine ro_if_lt (tgt := 73) hK dA_restore_6 (by decide) (fun c_1 => ?_) (fun c_1 => ?_)
  · replace h := mb_ift c_1 h
    cases h
    exact hR.2.2 0 0 73 _ _ rfl dA_restore_73 ⟨rfl, rfl⟩
  · replace h := mb_iff c_1 h
    refine ro_iload_n hK dA_restore_9 rfl ?_
    refine ro_aload_n hK dA_restore_10 rfl ?_
    refine rb_get hK fA_39 mb_oA rfl dA_restore_11 ?_
    refine rb_alenI hK ai_56 dA_restore_14 ?_
    refine ro_bipush (x := 8) hK (by decide) dA_restore_15 ?_
    refine ro_isub hK dA_restore_17 ?_
    refine ro_icmp_gt (tgt := 73) hK dA_restore_18 (by decide) (fun c_2 => ?_) (fun c_2 => ?_)
    · replace h := mb_ift c_2 h
      cases h
      exact hR.2.2 0 0 73 _ _ rfl dA_restore_73 ⟨rfl, rfl⟩
    · replace h := mb_iff c_2 h
      refine ro_aload_n hK dA_restore_21 rfl ?_
      refine rb_get hK fA_39 mb_oA rfl dA_restore_22 ?_
      refine ro_iload_n hK dA_restore_25 rfl ?_
      refine ro_aload_n hK dA_restore_26 rfl ?_
      refine rb_get hK fA_15 mb_oA rfl dA_restore_27 ?_
      refine ro_iconst (x := 0) hK (by decide) dA_restore_30 ?_
      refine ro_iconst (x := 5) hK (by decide) dA_restore_31 ?_
      obtain ⟨s_3, e_4, i_5, h⟩ := mb_cp_e h
      refine rb_copy hK vA_80 (by omega) (Nat.le_of_ble_eq_true rfl) ai_56 ai_48 i_5 e_4 dA_restore_32 ?_
      refine ro_aload_n hK dA_restore_35 rfl ?_
      refine ro_aload_n hK dA_restore_36 rfl ?_
      refine rb_get hK fA_39 mb_oA rfl dA_restore_37 ?_
      refine ro_iload_n hK dA_restore_40 rfl ?_
      refine ro_iconst (x := 5) hK (by decide) dA_restore_41 ?_
      refine ro_iadd hK dA_restore_42 ?_
      obtain ⟨x_6, e_7, i_8, h⟩ := mb_rd_e h
      refine rb_iald hK ai_56 i_8 e_7 dA_restore_43 ?_
      obtain ⟨s_9, e_10, h⟩ := mb_bd_e h
      refine rb_put hK gA_56 mb_oA rfl (by show 2 < 17; decide) rfl rfl e_10 dA_restore_44 ?_
      refine ro_aload_n hK dA_restore_47 rfl ?_
      refine ro_aload_n hK dA_restore_48 rfl ?_
      refine rb_get hK fA_39 mb_oA rfl dA_restore_49 ?_
      refine ro_iload_n hK dA_restore_52 rfl ?_
      refine ro_bipush (x := 6) hK (by decide) dA_restore_53 ?_
      refine ro_iadd hK dA_restore_55 ?_
      obtain ⟨x_11, e_12, i_13, h⟩ := mb_rd_e h
      refine rb_iald hK ai_56 i_13 e_12 dA_restore_56 ?_
      obtain ⟨s_14, e_15, h⟩ := mb_bd_e h
      refine rb_put hK gA_64 mb_oA rfl (by show 4 < 17; decide) rfl rfl e_15 dA_restore_57 ?_
      refine ro_aload_n hK dA_restore_60 rfl ?_
      refine ro_aload_n hK dA_restore_61 rfl ?_
      refine rb_get hK fA_39 mb_oA rfl dA_restore_62 ?_
      refine ro_iload_n hK dA_restore_65 rfl ?_
      refine ro_bipush (x := 7) hK (by decide) dA_restore_66 ?_
      refine ro_iadd hK dA_restore_68 ?_
      obtain ⟨x_16, e_17, i_18, h⟩ := mb_rd_e h
      refine rb_iald hK ai_56 i_18 e_17 dA_restore_69 ?_
      obtain ⟨s_19, e_20, h⟩ := mb_bd_e h
      refine rb_put hK gA_69 mb_oA rfl (by show 5 < 17; decide) rfl rfl e_20 dA_restore_70 ?_
      cases h
      exact hR.2.2 0 0 73 _ _ rfl dA_restore_73 ⟨rfl, rfl⟩
theorem dA_save_0 : decode bA_save 0 = .ok (.iload_n 1, 1) := by decide +kernel
theorem dA_save_1 : decode bA_save 1 = .ok (.bipush 8, 2) := by decide +kernel
theorem dA_save_3 : decode bA_save 3 = .ok (.imul, 1) := by decide +kernel
theorem dA_save_4 : decode bA_save 4 = .ok (.istore_n 2, 1) := by decide +kernel
theorem dA_save_5 : decode bA_save 5 = .ok (.iload_n 2, 1) := by decide +kernel
theorem dA_save_6 : decode bA_save 6 = .ok (.ifCond .lt 67, 3) := by decide +kernel
theorem dA_save_9 : decode bA_save 9 = .ok (.iload_n 2, 1) := by decide +kernel
theorem dA_save_10 : decode bA_save 10 = .ok (.aload_n 0, 1) := by decide +kernel
theorem dA_save_11 : decode bA_save 11 = .ok (.getfield 39, 3) := by decide +kernel
theorem dA_save_14 : decode bA_save 14 = .ok (.arraylength, 1) := by decide +kernel
theorem dA_save_15 : decode bA_save 15 = .ok (.bipush 8, 2) := by decide +kernel
theorem dA_save_17 : decode bA_save 17 = .ok (.isub, 1) := by decide +kernel
theorem dA_save_18 : decode bA_save 18 = .ok (.if_icmp .gt 55, 3) := by decide +kernel
theorem dA_save_21 : decode bA_save 21 = .ok (.aload_n 0, 1) := by decide +kernel
theorem dA_save_22 : decode bA_save 22 = .ok (.getfield 15, 3) := by decide +kernel
theorem dA_save_25 : decode bA_save 25 = .ok (.iconst 0, 1) := by decide +kernel
theorem dA_save_26 : decode bA_save 26 = .ok (.aload_n 0, 1) := by decide +kernel
theorem dA_save_27 : decode bA_save 27 = .ok (.getfield 39, 3) := by decide +kernel
theorem dA_save_30 : decode bA_save 30 = .ok (.iload_n 2, 1) := by decide +kernel
theorem dA_save_31 : decode bA_save 31 = .ok (.iconst 5, 1) := by decide +kernel
theorem dA_save_32 : decode bA_save 32 = .ok (.invokestatic 80, 3) := by decide +kernel
theorem dA_save_35 : decode bA_save 35 = .ok (.aload_n 0, 1) := by decide +kernel
theorem dA_save_36 : decode bA_save 36 = .ok (.getfield 39, 3) := by decide +kernel
theorem dA_save_39 : decode bA_save 39 = .ok (.iload_n 2, 1) := by decide +kernel
theorem dA_save_40 : decode bA_save 40 = .ok (.iconst 5, 1) := by decide +kernel
theorem dA_save_41 : decode bA_save 41 = .ok (.iadd, 1) := by decide +kernel
theorem dA_save_42 : decode bA_save 42 = .ok (.aload_n 0, 1) := by decide +kernel
theorem dA_save_43 : decode bA_save 43 = .ok (.getfield 56, 3) := by decide +kernel
theorem dA_save_46 : decode bA_save 46 = .ok (.iastore, 1) := by decide +kernel
theorem dA_save_47 : decode bA_save 47 = .ok (.aload_n 0, 1) := by decide +kernel
theorem dA_save_48 : decode bA_save 48 = .ok (.getfield 39, 3) := by decide +kernel
theorem dA_save_51 : decode bA_save 51 = .ok (.iload_n 2, 1) := by decide +kernel
theorem dA_save_52 : decode bA_save 52 = .ok (.bipush 6, 2) := by decide +kernel
theorem dA_save_54 : decode bA_save 54 = .ok (.iadd, 1) := by decide +kernel
theorem dA_save_55 : decode bA_save 55 = .ok (.aload_n 0, 1) := by decide +kernel
theorem dA_save_56 : decode bA_save 56 = .ok (.getfield 64, 3) := by decide +kernel
theorem dA_save_59 : decode bA_save 59 = .ok (.iastore, 1) := by decide +kernel
theorem dA_save_60 : decode bA_save 60 = .ok (.aload_n 0, 1) := by decide +kernel
theorem dA_save_61 : decode bA_save 61 = .ok (.getfield 39, 3) := by decide +kernel
theorem dA_save_64 : decode bA_save 64 = .ok (.iload_n 2, 1) := by decide +kernel
theorem dA_save_65 : decode bA_save 65 = .ok (.bipush 7, 2) := by decide +kernel
theorem dA_save_67 : decode bA_save 67 = .ok (.iadd, 1) := by decide +kernel
theorem dA_save_68 : decode bA_save 68 = .ok (.aload_n 0, 1) := by decide +kernel
theorem dA_save_69 : decode bA_save 69 = .ok (.getfield 69, 3) := by decide +kernel
theorem dA_save_72 : decode bA_save 72 = .ok (.iastore, 1) := by decide +kernel
theorem dA_save_73 : decode bA_save 73 = .ok (.return_, 1) := by decide +kernel
def f_A_save (n : Nat) (x1 : Int32) (s : mb_T) : Option (mb_T) := if (x1 * 8) < 0 then some s else if ((Int32.ofNat 48) - 8) < (x1 * 8) then some s else mb_cp s 48 5 56 48 0 (x1 * 8) 5 fun s_3 => mb_wr s_3 56 48 ((x1 * 8) + 5) (s_3.1 40 2) fun s_6 => mb_wr s_6 56 48 ((x1 * 8) + 6) (s_6.1 40 4) fun s_9 => mb_wr s_9 56 48 ((x1 * 8) + 7) (s_9.1 40 5) fun s_12 => some s_12
set_option maxHeartbeats 4000000 in
set_option maxRecDepth 100000 in
theorem t_A_save {dd n : Nat} {x1 : Int32} {s : mb_T} {out : mb_T}  (h : f_A_save n x1 s = some out) : mb_MC (dd + 1) yA_save bA_save 3 none [.ref 40, .int x1] s none out := by
  unfold f_A_save at h
  refine mj_mc (lv := [.ref 40, .int x1, .retAddr 0]) mA_save rfl rfl (Nat.le_of_ble_eq_true rfl) (fun K hK hR => ?_)
  have hK : mj_C (dd + 1) 0 0 RA_c "save" bA_save 3 K := hK
  refine ro_iload_n hK dA_save_0 rfl ?_
  refine ro_bipush (x := 8) hK (by decide) dA_save_1 ?_
  refine ro_imul hK dA_save_3 ?_
  refine ro_istore_n hK dA_save_4 (by decide) ?_
  show K 0 0 5 [.ref 40, .int x1, .int (x1 * 8)] [] (mb_s s)
  refine ro_iload_n hK dA_save_5 rfl ?_
  refine ro_if_lt (tgt := 73) hK dA_save_6 (by decide) (fun c_1 => ?_) (fun c_1 => ?_)
  · replace h := mb_ift c_1 h
    cases h
    exact hR.2.2 0 0 73 _ _ rfl dA_save_73 ⟨rfl, rfl⟩
  · replace h := mb_iff c_1 h
    refine ro_iload_n hK dA_save_9 rfl ?_
    refine ro_aload_n hK dA_save_10 rfl ?_
    refine rb_get hK fA_39 mb_oA rfl dA_save_11 ?_
    refine rb_alenI hK ai_56 dA_save_14 ?_
    refine ro_bipush (x := 8) hK (by decide) dA_save_15 ?_
    refine ro_isub hK dA_save_17 ?_
    refine ro_icmp_gt (tgt := 73) hK dA_save_18 (by decide) (fun c_2 => ?_) (fun c_2 => ?_)
    · replace h := mb_ift c_2 h
      cases h
      exact hR.2.2 0 0 73 _ _ rfl dA_save_73 ⟨rfl, rfl⟩
    · replace h := mb_iff c_2 h
      refine ro_aload_n hK dA_save_21 rfl ?_
      refine rb_get hK fA_15 mb_oA rfl dA_save_22 ?_
      refine ro_iconst (x := 0) hK (by decide) dA_save_25 ?_
      refine ro_aload_n hK dA_save_26 rfl ?_
      refine rb_get hK fA_39 mb_oA rfl dA_save_27 ?_
      refine ro_iload_n hK dA_save_30 rfl ?_
      refine ro_iconst (x := 5) hK (by decide) dA_save_31 ?_
      obtain ⟨s_3, e_4, i_5, h⟩ := mb_cp_e h
      refine rb_copy hK vA_80 (by omega) (Nat.le_of_ble_eq_true rfl) ai_48 ai_56 i_5 e_4 dA_save_32 ?_
      refine ro_aload_n hK dA_save_35 rfl ?_
      refine rb_get hK fA_39 mb_oA rfl dA_save_36 ?_
      refine ro_iload_n hK dA_save_39 rfl ?_
      refine ro_iconst (x := 5) hK (by decide) dA_save_40 ?_
      refine ro_iadd hK dA_save_41 ?_
      refine ro_aload_n hK dA_save_42 rfl ?_
      refine rb_get hK fA_56 mb_oA rfl dA_save_43 ?_
      obtain ⟨s_6, e_7, i_8, h⟩ := mb_wr_e h
      refine rb_iast hK ai_56 i_8 e_7 dA_save_46 ?_
      refine ro_aload_n hK dA_save_47 rfl ?_
      refine rb_get hK fA_39 mb_oA rfl dA_save_48 ?_
      refine ro_iload_n hK dA_save_51 rfl ?_
      refine ro_bipush (x := 6) hK (by decide) dA_save_52 ?_
      refine ro_iadd hK dA_save_54 ?_
      refine ro_aload_n hK dA_save_55 rfl ?_
      refine rb_get hK fA_64 mb_oA rfl dA_save_56 ?_
      obtain ⟨s_9, e_10, i_11, h⟩ := mb_wr_e h
      refine rb_iast hK ai_56 i_11 e_10 dA_save_59 ?_
      refine ro_aload_n hK dA_save_60 rfl ?_
      refine rb_get hK fA_39 mb_oA rfl dA_save_61 ?_
      refine ro_iload_n hK dA_save_64 rfl ?_
      refine ro_bipush (x := 7) hK (by decide) dA_save_65 ?_
      refine ro_iadd hK dA_save_67 ?_
      refine ro_aload_n hK dA_save_68 rfl ?_
      refine rb_get hK fA_69 mb_oA rfl dA_save_69 ?_
      obtain ⟨s_12, e_13, i_14, h⟩ := mb_wr_e h
      refine rb_iast hK ai_56 i_14 e_13 dA_save_72 ?_
      cases h
      exact hR.2.2 0 0 73 _ _ rfl dA_save_73 ⟨rfl, rfl⟩
theorem dA_singers_0 : decode bA_singers 0 = .ok (.iconst 0, 1) := by decide +kernel
theorem dA_singers_1 : decode bA_singers 1 = .ok (.istore_n 1, 1) := by decide +kernel
theorem dA_singers_2 : decode bA_singers 2 = .ok (.iconst 0, 1) := by decide +kernel
theorem dA_singers_3 : decode bA_singers 3 = .ok (.istore_n 2, 1) := by decide +kernel
theorem dA_singers_4 : decode bA_singers 4 = .ok (.iload_n 2, 1) := by decide +kernel
theorem dA_singers_5 : decode bA_singers 5 = .ok (.aload_n 0, 1) := by decide +kernel
theorem dA_singers_6 : decode bA_singers 6 = .ok (.getfield 48, 3) := by decide +kernel
theorem dA_singers_9 : decode bA_singers 9 = .ok (.if_icmp .ge 27, 3) := by decide +kernel
theorem dA_singers_12 : decode bA_singers 12 = .ok (.iload_n 1, 1) := by decide +kernel
theorem dA_singers_13 : decode bA_singers 13 = .ok (.aload_n 0, 1) := by decide +kernel
theorem dA_singers_14 : decode bA_singers 14 = .ok (.getfield 9, 3) := by decide +kernel
theorem dA_singers_17 : decode bA_singers 17 = .ok (.iload_n 2, 1) := by decide +kernel
theorem dA_singers_18 : decode bA_singers 18 = .ok (.iaload, 1) := by decide +kernel
theorem dA_singers_19 : decode bA_singers 19 = .ok (.iconst 4, 1) := by decide +kernel
theorem dA_singers_20 : decode bA_singers 20 = .ok (.if_icmp .ne 7, 3) := by decide +kernel
theorem dA_singers_23 : decode bA_singers 23 = .ok (.iconst 1, 1) := by decide +kernel
theorem dA_singers_24 : decode bA_singers 24 = .ok (.goto 4, 3) := by decide +kernel
theorem dA_singers_27 : decode bA_singers 27 = .ok (.iconst 0, 1) := by decide +kernel
theorem dA_singers_28 : decode bA_singers 28 = .ok (.iadd, 1) := by decide +kernel
theorem dA_singers_29 : decode bA_singers 29 = .ok (.istore_n 1, 1) := by decide +kernel
theorem dA_singers_30 : decode bA_singers 30 = .ok (.iinc 2 1, 3) := by decide +kernel
theorem dA_singers_33 : decode bA_singers 33 = .ok (.goto (-29), 3) := by decide +kernel
theorem dA_singers_36 : decode bA_singers 36 = .ok (.iload_n 1, 1) := by decide +kernel
theorem dA_singers_37 : decode bA_singers 37 = .ok (.ireturn, 1) := by decide +kernel
def f_A_singers_4 (n : Nat) (k0 : Int32 → Int32 → mb_T → Option (Int32 × mb_T))  : Nat → Int32 → Int32 → mb_T → Option (Int32 × mb_T)
  | 0, _, _, _ => none
  | f + 1, w1, w2, s => if (s.1 40 0) ≤ w2 then k0 w1 w2 s else mb_rd s 47 5 w2 fun x_2 => f_A_singers_4 n k0 f (w1 + (if x_2 = 4 then 1 else 0 : Int32)) (w2 + 1) s
def f_A_singers (n : Nat)  (s : mb_T) : Option (Int32 × mb_T) := f_A_singers_4 n (fun x_7 x_8 s_9 => some (x_7, s_9)) n 0 0 s
set_option maxHeartbeats 4000000 in
set_option maxRecDepth 100000 in
theorem tl_A_singers_4 {dd n : Nat} {K : mj_KT} {out : Int32 × mb_T} (hK : mj_C (dd + 1) 0 0 RA_c "singers" bA_singers 3 K) (hR : mj_R bA_singers (some .int) (fun r2 S2 => r2 = some (.int out.1) ∧ S2 = mb_s out.2) K) {k0 : Int32 → Int32 → mb_T → Option (Int32 × mb_T)}  (hk0 : ∀ (w1 : Int32) (w2 : Int32) (s : mb_T), k0 w1 w2 s = some out → K 0 0 36 [.ref 40, .int w1, .int w2] [] (mb_s s)) : ∀ (f : Nat) (w1 : Int32) (w2 : Int32) (s : mb_T), f_A_singers_4 n k0 f w1 w2 s = some out → K 0 0 4 [.ref 40, .int w1, .int w2] [] (mb_s s) := by
  intro f
  induction f with
  | zero =>
    intro w1 w2 s h
    cases h
  | succ f ih =>
    intro w1 w2 s h
    rw [f_A_singers_4] at h
    refine ro_iload_n hK dA_singers_4 rfl ?_
    refine ro_aload_n hK dA_singers_5 rfl ?_
    refine rb_get hK fA_48 mb_oA rfl dA_singers_6 ?_
    refine ro_icmp_ge (tgt := 36) hK dA_singers_9 (by decide) (fun c_1 => ?_) (fun c_1 => ?_)
    · replace h := mb_ift c_1 h
      refine ro_fg (lv' := [.ref 40, .int w1, .int w2]) hK ⟨Or.inr rfl, ⟨Or.inr rfl, ⟨Or.inr rfl, trivial⟩⟩⟩ ?_
      exact hk0 _ _ _ h
    · replace h := mb_iff c_1 h
      refine ro_iload_n hK dA_singers_12 rfl ?_
      refine ro_aload_n hK dA_singers_13 rfl ?_
      refine rb_get hK fA_9 mb_oA rfl dA_singers_14 ?_
      refine ro_iload_n hK dA_singers_17 rfl ?_
      obtain ⟨x_2, e_3, i_4, h⟩ := mb_rd_e h
      refine rb_iald hK ai_47 i_4 e_3 dA_singers_18 ?_
      refine ro_iconst (x := 4) hK (by decide) dA_singers_19 ?_
      have j_6 : ∀ w_ : Int32, w_ = (if x_2 = 4 then 1 else 0 : Int32) → K 0 0 28 [.ref 40, .int w1, .int w2] [.int w_, .int w1] (mb_s s) → K 0 0 20 [.ref 40, .int w1, .int w2] [.int 4, .int x_2, .int w1] (mb_s s) := by
        intro w_ hw hj
        refine ro_icmp_ne (tgt := 27) hK dA_singers_20 (by decide) (fun c_5 => ?_) (fun c_5 => ?_)
        · skip
          refine ro_iconst (x := 0) hK (by decide) dA_singers_27 ?_
          have hw := (hw.trans (if_neg c_5))
          subst hw
          exact hj
        · skip
          refine ro_iconst (x := 1) hK (by decide) dA_singers_23 ?_
          refine ro_goto (tgt := 28) hK dA_singers_24 (by decide) ?_
          have hw := (hw.trans (if_pos c_5))
          subst hw
          exact hj
      refine j_6 _ rfl ?_
      refine ro_iadd hK dA_singers_28 ?_
      refine ro_istore_n hK dA_singers_29 (by decide) ?_
      show K 0 0 30 [.ref 40, .int (w1 + (if x_2 = 4 then 1 else 0 : Int32)), .int w2] [] (mb_s s)
      refine ro_iincv (c := 1) hK (by decide) dA_singers_30 rfl (by decide) ?_
      show K 0 0 33 [.ref 40, .int (w1 + (if x_2 = 4 then 1 else 0 : Int32)), .int (w2 + 1)] [] (mb_s s)
      refine ro_goto (tgt := 4) hK dA_singers_33 (by decide) ?_
      refine ro_fg (lv' := [.ref 40, .int (w1 + (if x_2 = 4 then 1 else 0 : Int32)), .int (w2 + 1)]) hK ⟨Or.inr rfl, ⟨Or.inr rfl, ⟨Or.inr rfl, trivial⟩⟩⟩ ?_
      exact ih _ _ _ h
set_option maxHeartbeats 4000000 in
set_option maxRecDepth 100000 in
theorem t_A_singers {dd n : Nat}  {s : mb_T} {out : Int32 × mb_T}  (h : f_A_singers n  s = some out) : mb_MC (dd + 1) yA_singers bA_singers 3 (some .int) [.ref 40] s (some (.int out.1)) out.2 := by
  unfold f_A_singers at h
  refine mj_mc (lv := [.ref 40, .retAddr 0, .retAddr 0]) mA_singers rfl rfl (Nat.le_of_ble_eq_true rfl) (fun K hK hR => ?_)
  have hK : mj_C (dd + 1) 0 0 RA_c "singers" bA_singers 3 K := hK
  refine ro_iconst (x := 0) hK (by decide) dA_singers_0 ?_
  refine ro_istore_n hK dA_singers_1 (by decide) ?_
  show K 0 0 2 [.ref 40, .int 0, .retAddr 0] [] (mb_s s)
  refine ro_iconst (x := 0) hK (by decide) dA_singers_2 ?_
  refine ro_istore_n hK dA_singers_3 (by decide) ?_
  show K 0 0 4 [.ref 40, .int 0, .int 0] [] (mb_s s)
  refine ro_fg (lv' := [.ref 40, .int 0, .int 0]) hK ⟨Or.inr rfl, ⟨Or.inr rfl, ⟨Or.inr rfl, trivial⟩⟩⟩ ?_
  refine tl_A_singers_4 (dd := dd) hK hR (fun x_7 x_8 s_9 h => ?_) n _ _ _ h
  refine ro_iload_n hK dA_singers_36 rfl ?_
  cases h
  exact hR.1 0 0 37 _ _ _ _ rfl rfl dA_singers_37 ⟨rfl, rfl⟩
theorem dA_whoScream_0 : decode bA_whoScream 0 = .ok (.iconst 0, 1) := by decide +kernel
theorem dA_whoScream_1 : decode bA_whoScream 1 = .ok (.istore_n 1, 1) := by decide +kernel
theorem dA_whoScream_2 : decode bA_whoScream 2 = .ok (.iconst 0, 1) := by decide +kernel
theorem dA_whoScream_3 : decode bA_whoScream 3 = .ok (.istore_n 2, 1) := by decide +kernel
theorem dA_whoScream_4 : decode bA_whoScream 4 = .ok (.iload_n 2, 1) := by decide +kernel
theorem dA_whoScream_5 : decode bA_whoScream 5 = .ok (.aload_n 0, 1) := by decide +kernel
theorem dA_whoScream_6 : decode bA_whoScream 6 = .ok (.getfield 48, 3) := by decide +kernel
theorem dA_whoScream_9 : decode bA_whoScream 9 = .ok (.if_icmp .ge 34, 3) := by decide +kernel
theorem dA_whoScream_12 : decode bA_whoScream 12 = .ok (.iload_n 1, 1) := by decide +kernel
theorem dA_whoScream_13 : decode bA_whoScream 13 = .ok (.aload_n 0, 1) := by decide +kernel
theorem dA_whoScream_14 : decode bA_whoScream 14 = .ok (.getfield 15, 3) := by decide +kernel
theorem dA_whoScream_17 : decode bA_whoScream 17 = .ok (.iload_n 2, 1) := by decide +kernel
theorem dA_whoScream_18 : decode bA_whoScream 18 = .ok (.iaload, 1) := by decide +kernel
theorem dA_whoScream_19 : decode bA_whoScream 19 = .ok (.aload_n 0, 1) := by decide +kernel
theorem dA_whoScream_20 : decode bA_whoScream 20 = .ok (.getfield 27, 3) := by decide +kernel
theorem dA_whoScream_23 : decode bA_whoScream 23 = .ok (.iload_n 2, 1) := by decide +kernel
theorem dA_whoScream_24 : decode bA_whoScream 24 = .ok (.iaload, 1) := by decide +kernel
theorem dA_whoScream_25 : decode bA_whoScream 25 = .ok (.if_icmp .lt 9, 3) := by decide +kernel
theorem dA_whoScream_28 : decode bA_whoScream 28 = .ok (.iconst 1, 1) := by decide +kernel
theorem dA_whoScream_29 : decode bA_whoScream 29 = .ok (.iload_n 2, 1) := by decide +kernel
theorem dA_whoScream_30 : decode bA_whoScream 30 = .ok (.ishl, 1) := by decide +kernel
theorem dA_whoScream_31 : decode bA_whoScream 31 = .ok (.goto 4, 3) := by decide +kernel
theorem dA_whoScream_34 : decode bA_whoScream 34 = .ok (.iconst 0, 1) := by decide +kernel
theorem dA_whoScream_35 : decode bA_whoScream 35 = .ok (.ior, 1) := by decide +kernel
theorem dA_whoScream_36 : decode bA_whoScream 36 = .ok (.istore_n 1, 1) := by decide +kernel
theorem dA_whoScream_37 : decode bA_whoScream 37 = .ok (.iinc 2 1, 3) := by decide +kernel
theorem dA_whoScream_40 : decode bA_whoScream 40 = .ok (.goto (-36), 3) := by decide +kernel
theorem dA_whoScream_43 : decode bA_whoScream 43 = .ok (.iload_n 1, 1) := by decide +kernel
theorem dA_whoScream_44 : decode bA_whoScream 44 = .ok (.ireturn, 1) := by decide +kernel
def f_A_whoScream_4 (n : Nat) (k0 : Int32 → Int32 → mb_T → Option (Int32 × mb_T))  : Nat → Int32 → Int32 → mb_T → Option (Int32 × mb_T)
  | 0, _, _, _ => none
  | f + 1, w1, w2, s => if (s.1 40 0) ≤ w2 then k0 w1 w2 s else mb_rd s 48 5 w2 fun x_2 => mb_rd s 52 5 w2 fun x_5 => f_A_whoScream_4 n k0 f (w1 ||| (if x_2 < x_5 then 0 else (1 <<< (w2 &&& 31)) : Int32)) (w2 + 1) s
def f_A_whoScream (n : Nat)  (s : mb_T) : Option (Int32 × mb_T) := f_A_whoScream_4 n (fun x_10 x_11 s_12 => some (x_10, s_12)) n 0 0 s
set_option maxHeartbeats 4000000 in
set_option maxRecDepth 100000 in
theorem tl_A_whoScream_4 {dd n : Nat} {K : mj_KT} {out : Int32 × mb_T} (hK : mj_C (dd + 1) 0 0 RA_c "whoScream" bA_whoScream 3 K) (hR : mj_R bA_whoScream (some .int) (fun r2 S2 => r2 = some (.int out.1) ∧ S2 = mb_s out.2) K) {k0 : Int32 → Int32 → mb_T → Option (Int32 × mb_T)}  (hk0 : ∀ (w1 : Int32) (w2 : Int32) (s : mb_T), k0 w1 w2 s = some out → K 0 0 43 [.ref 40, .int w1, .int w2] [] (mb_s s)) : ∀ (f : Nat) (w1 : Int32) (w2 : Int32) (s : mb_T), f_A_whoScream_4 n k0 f w1 w2 s = some out → K 0 0 4 [.ref 40, .int w1, .int w2] [] (mb_s s) := by
  intro f
  induction f with
  | zero =>
    intro w1 w2 s h
    cases h
  | succ f ih =>
    intro w1 w2 s h
    rw [f_A_whoScream_4] at h
    refine ro_iload_n hK dA_whoScream_4 rfl ?_
    refine ro_aload_n hK dA_whoScream_5 rfl ?_
    refine rb_get hK fA_48 mb_oA rfl dA_whoScream_6 ?_
    refine ro_icmp_ge (tgt := 43) hK dA_whoScream_9 (by decide) (fun c_1 => ?_) (fun c_1 => ?_)
    · replace h := mb_ift c_1 h
      refine ro_fg (lv' := [.ref 40, .int w1, .int w2]) hK ⟨Or.inr rfl, ⟨Or.inr rfl, ⟨Or.inr rfl, trivial⟩⟩⟩ ?_
      exact hk0 _ _ _ h
    · replace h := mb_iff c_1 h
      refine ro_iload_n hK dA_whoScream_12 rfl ?_
      refine ro_aload_n hK dA_whoScream_13 rfl ?_
      refine rb_get hK fA_15 mb_oA rfl dA_whoScream_14 ?_
      refine ro_iload_n hK dA_whoScream_17 rfl ?_
      obtain ⟨x_2, e_3, i_4, h⟩ := mb_rd_e h
      refine rb_iald hK ai_48 i_4 e_3 dA_whoScream_18 ?_
      refine ro_aload_n hK dA_whoScream_19 rfl ?_
      refine rb_get hK fA_27 mb_oA rfl dA_whoScream_20 ?_
      refine ro_iload_n hK dA_whoScream_23 rfl ?_
      obtain ⟨x_5, e_6, i_7, h⟩ := mb_rd_e h
      refine rb_iald hK ai_52 i_7 e_6 dA_whoScream_24 ?_
      have j_9 : ∀ w_ : Int32, w_ = (if x_2 < x_5 then 0 else (1 <<< (w2 &&& 31)) : Int32) → K 0 0 35 [.ref 40, .int w1, .int w2] [.int w_, .int w1] (mb_s s) → K 0 0 25 [.ref 40, .int w1, .int w2] [.int x_5, .int x_2, .int w1] (mb_s s) := by
        intro w_ hw hj
        refine ro_icmp_lt (tgt := 34) hK dA_whoScream_25 (by decide) (fun c_8 => ?_) (fun c_8 => ?_)
        · skip
          refine ro_iconst (x := 0) hK (by decide) dA_whoScream_34 ?_
          have hw := (hw.trans (if_pos c_8))
          subst hw
          exact hj
        · skip
          refine ro_iconst (x := 1) hK (by decide) dA_whoScream_28 ?_
          refine ro_iload_n hK dA_whoScream_29 rfl ?_
          refine ro_ishl hK dA_whoScream_30 ?_
          refine ro_goto (tgt := 35) hK dA_whoScream_31 (by decide) ?_
          have hw := (hw.trans (if_neg c_8))
          subst hw
          exact hj
      refine j_9 _ rfl ?_
      refine ro_ior hK dA_whoScream_35 ?_
      refine ro_istore_n hK dA_whoScream_36 (by decide) ?_
      show K 0 0 37 [.ref 40, .int (w1 ||| (if x_2 < x_5 then 0 else (1 <<< (w2 &&& 31)) : Int32)), .int w2] [] (mb_s s)
      refine ro_iincv (c := 1) hK (by decide) dA_whoScream_37 rfl (by decide) ?_
      show K 0 0 40 [.ref 40, .int (w1 ||| (if x_2 < x_5 then 0 else (1 <<< (w2 &&& 31)) : Int32)), .int (w2 + 1)] [] (mb_s s)
      refine ro_goto (tgt := 4) hK dA_whoScream_40 (by decide) ?_
      refine ro_fg (lv' := [.ref 40, .int (w1 ||| (if x_2 < x_5 then 0 else (1 <<< (w2 &&& 31)) : Int32)), .int (w2 + 1)]) hK ⟨Or.inr rfl, ⟨Or.inr rfl, ⟨Or.inr rfl, trivial⟩⟩⟩ ?_
      exact ih _ _ _ h
set_option maxHeartbeats 4000000 in
set_option maxRecDepth 100000 in
theorem t_A_whoScream {dd n : Nat}  {s : mb_T} {out : Int32 × mb_T}  (h : f_A_whoScream n  s = some out) : mb_MC (dd + 1) yA_whoScream bA_whoScream 3 (some .int) [.ref 40] s (some (.int out.1)) out.2 := by
  unfold f_A_whoScream at h
  refine mj_mc (lv := [.ref 40, .retAddr 0, .retAddr 0]) mA_whoScream rfl rfl (Nat.le_of_ble_eq_true rfl) (fun K hK hR => ?_)
  have hK : mj_C (dd + 1) 0 0 RA_c "whoScream" bA_whoScream 3 K := hK
  refine ro_iconst (x := 0) hK (by decide) dA_whoScream_0 ?_
  refine ro_istore_n hK dA_whoScream_1 (by decide) ?_
  show K 0 0 2 [.ref 40, .int 0, .retAddr 0] [] (mb_s s)
  refine ro_iconst (x := 0) hK (by decide) dA_whoScream_2 ?_
  refine ro_istore_n hK dA_whoScream_3 (by decide) ?_
  show K 0 0 4 [.ref 40, .int 0, .int 0] [] (mb_s s)
  refine ro_fg (lv' := [.ref 40, .int 0, .int 0]) hK ⟨Or.inr rfl, ⟨Or.inr rfl, ⟨Or.inr rfl, trivial⟩⟩⟩ ?_
  refine tl_A_whoScream_4 (dd := dd) hK hR (fun x_10 x_11 s_12 h => ?_) n _ _ _ h
  refine ro_iload_n hK dA_whoScream_43 rfl ?_
  cases h
  exact hR.1 0 0 44 _ _ _ _ rfl rfl dA_whoScream_44 ⟨rfl, rfl⟩
theorem dV_backTo_0 : decode bV_backTo 0 = .ok (.iload_n 1, 1) := by decide +kernel
theorem dV_backTo_1 : decode bV_backTo 1 = .ok (.ifCond .lt 42, 3) := by decide +kernel
theorem dV_backTo_4 : decode bV_backTo 4 = .ok (.iload_n 1, 1) := by decide +kernel
theorem dV_backTo_5 : decode bV_backTo 5 = .ok (.aload_n 0, 1) := by decide +kernel
theorem dV_backTo_6 : decode bV_backTo 6 = .ok (.getfield 49, 3) := by decide +kernel
theorem dV_backTo_9 : decode bV_backTo 9 = .ok (.if_icmp .ge 34, 3) := by decide +kernel
theorem dV_backTo_12 : decode bV_backTo 12 = .ok (.aload_n 0, 1) := by decide +kernel
theorem dV_backTo_13 : decode bV_backTo 13 = .ok (.iload_n 1, 1) := by decide +kernel
theorem dV_backTo_14 : decode bV_backTo 14 = .ok (.putfield 49, 3) := by decide +kernel
theorem dV_backTo_17 : decode bV_backTo 17 = .ok (.aload_n 0, 1) := by decide +kernel
theorem dV_backTo_18 : decode bV_backTo 18 = .ok (.aload_n 0, 1) := by decide +kernel
theorem dV_backTo_19 : decode bV_backTo 19 = .ok (.getfield 30, 3) := by decide +kernel
theorem dV_backTo_22 : decode bV_backTo 22 = .ok (.iload_n 1, 1) := by decide +kernel
theorem dV_backTo_23 : decode bV_backTo 23 = .ok (.iaload, 1) := by decide +kernel
theorem dV_backTo_24 : decode bV_backTo 24 = .ok (.putfield 46, 3) := by decide +kernel
theorem dV_backTo_27 : decode bV_backTo 27 = .ok (.aload_n 0, 1) := by decide +kernel
theorem dV_backTo_28 : decode bV_backTo 28 = .ok (.getfield 33, 3) := by decide +kernel
theorem dV_backTo_31 : decode bV_backTo 31 = .ok (.iload_n 1, 1) := by decide +kernel
theorem dV_backTo_32 : decode bV_backTo 32 = .ok (.iconst 5, 1) := by decide +kernel
theorem dV_backTo_33 : decode bV_backTo 33 = .ok (.imul, 1) := by decide +kernel
theorem dV_backTo_34 : decode bV_backTo 34 = .ok (.aload_n 0, 1) := by decide +kernel
theorem dV_backTo_35 : decode bV_backTo 35 = .ok (.getfield 15, 3) := by decide +kernel
theorem dV_backTo_38 : decode bV_backTo 38 = .ok (.iconst 0, 1) := by decide +kernel
theorem dV_backTo_39 : decode bV_backTo 39 = .ok (.iconst 5, 1) := by decide +kernel
theorem dV_backTo_40 : decode bV_backTo 40 = .ok (.invokestatic 52, 3) := by decide +kernel
theorem dV_backTo_43 : decode bV_backTo 43 = .ok (.return_, 1) := by decide +kernel
def f_V_backTo (n : Nat) (c : Nat) (x1 : Int32) (s : mb_T) : Option (mb_T) := if x1 < 0 then some s else if (s.1 c 4) ≤ x1 then some s else mb_bd (sF s c 4 x1) fun s_3 => mb_rd s_3 (c + 11) 120 x1 fun x_5 => mb_bd (sF s_3 c 3 x_5) fun s_8 => mb_cp s_8 (c + 12) 600 (c + 6) 5 (x1 * 5) 0 5 fun s_10 => some s_10
set_option maxHeartbeats 4000000 in
set_option maxRecDepth 100000 in
theorem t_V_backTo {dd n : Nat} {c : Nat} {x1 : Int32} {s : mb_T} {out : mb_T} (hc : mb_cv c) (h : f_V_backTo n c x1 s = some out) : mb_MC (dd + 1) yV_backTo bV_backTo 2 none [.ref c, .int x1] s none out := by
  unfold f_V_backTo at h
  refine mj_mc (lv := [.ref c, .int x1]) mV_backTo rfl rfl (Nat.le_of_ble_eq_true rfl) (fun K hK hR => ?_)
  have hK : mj_C (dd + 1) 0 0 RV_c "backTo" bV_backTo 2 K := hK
  refine ro_iload_n hK dV_backTo_0 rfl ?_
  refine ro_if_lt (tgt := 43) hK dV_backTo_1 (by decide) (fun c_1 => ?_) (fun c_1 => ?_)
  · replace h := mb_ift c_1 h
    cases h
    exact hR.2.2 0 0 43 _ _ rfl dV_backTo_43 ⟨rfl, rfl⟩
  · replace h := mb_iff c_1 h
    refine ro_iload_n hK dV_backTo_4 rfl ?_
    refine ro_aload_n hK dV_backTo_5 rfl ?_
    refine rb_get hK fV_49 (mb_cvo hc) rfl dV_backTo_6 ?_
    refine ro_icmp_ge (tgt := 43) hK dV_backTo_9 (by decide) (fun c_2 => ?_) (fun c_2 => ?_)
    · replace h := mb_ift c_2 h
      cases h
      exact hR.2.2 0 0 43 _ _ rfl dV_backTo_43 ⟨rfl, rfl⟩
    · replace h := mb_iff c_2 h
      refine ro_aload_n hK dV_backTo_12 rfl ?_
      refine ro_iload_n hK dV_backTo_13 rfl ?_
      obtain ⟨s_3, e_4, h⟩ := mb_bd_e h
      refine rb_put hK gV_49 (mb_cvo hc) (mb_cvs (by decide)) (by show 4 < 13; decide) rfl rfl e_4 dV_backTo_14 ?_
      refine ro_aload_n hK dV_backTo_17 rfl ?_
      refine ro_aload_n hK dV_backTo_18 rfl ?_
      refine rb_get hK fV_30 (mb_cvo hc) rfl dV_backTo_19 ?_
      refine ro_iload_n hK dV_backTo_22 rfl ?_
      obtain ⟨x_5, e_6, i_7, h⟩ := mb_rd_e h
      refine rb_iald hK (mb_cv11 hc) i_7 e_6 dV_backTo_23 ?_
      obtain ⟨s_8, e_9, h⟩ := mb_bd_e h
      refine rb_put hK gV_46 (mb_cvo hc) (mb_cvs (by decide)) (by show 3 < 13; decide) rfl rfl e_9 dV_backTo_24 ?_
      refine ro_aload_n hK dV_backTo_27 rfl ?_
      refine rb_get hK fV_33 (mb_cvo hc) rfl dV_backTo_28 ?_
      refine ro_iload_n hK dV_backTo_31 rfl ?_
      refine ro_iconst (x := 5) hK (by decide) dV_backTo_32 ?_
      refine ro_imul hK dV_backTo_33 ?_
      refine ro_aload_n hK dV_backTo_34 rfl ?_
      refine rb_get hK fV_15 (mb_cvo hc) rfl dV_backTo_35 ?_
      refine ro_iconst (x := 0) hK (by decide) dV_backTo_38 ?_
      refine ro_iconst (x := 5) hK (by decide) dV_backTo_39 ?_
      obtain ⟨s_10, e_11, i_12, h⟩ := mb_cp_e h
      refine rb_copy hK vV_52 (by omega) (Nat.le_of_ble_eq_true rfl) (mb_cv12 hc) (mb_cv6 hc) i_12 e_11 dV_backTo_40 ?_
      cases h
      exact hR.2.2 0 0 43 _ _ rfl dV_backTo_43 ⟨rfl, rfl⟩
theorem dV_become_0 : decode bV_become 0 = .ok (.aload_n 0, 1) := by decide +kernel
theorem dV_become_1 : decode bV_become 1 = .ok (.aload_n 1, 1) := by decide +kernel
theorem dV_become_2 : decode bV_become 2 = .ok (.getfield 36, 3) := by decide +kernel
theorem dV_become_5 : decode bV_become 5 = .ok (.putfield 36, 3) := by decide +kernel
theorem dV_become_8 : decode bV_become 8 = .ok (.aload_n 0, 1) := by decide +kernel
theorem dV_become_9 : decode bV_become 9 = .ok (.aload_n 1, 1) := by decide +kernel
theorem dV_become_10 : decode bV_become 10 = .ok (.getfield 40, 3) := by decide +kernel
theorem dV_become_13 : decode bV_become 13 = .ok (.putfield 40, 3) := by decide +kernel
theorem dV_become_16 : decode bV_become 16 = .ok (.aload_n 0, 1) := by decide +kernel
theorem dV_become_17 : decode bV_become 17 = .ok (.aload_n 1, 1) := by decide +kernel
theorem dV_become_18 : decode bV_become 18 = .ok (.getfield 43, 3) := by decide +kernel
theorem dV_become_21 : decode bV_become 21 = .ok (.putfield 43, 3) := by decide +kernel
theorem dV_become_24 : decode bV_become 24 = .ok (.aload_n 0, 1) := by decide +kernel
theorem dV_become_25 : decode bV_become 25 = .ok (.aload_n 1, 1) := by decide +kernel
theorem dV_become_26 : decode bV_become 26 = .ok (.getfield 46, 3) := by decide +kernel
theorem dV_become_29 : decode bV_become 29 = .ok (.putfield 46, 3) := by decide +kernel
theorem dV_become_32 : decode bV_become 32 = .ok (.aload_n 0, 1) := by decide +kernel
theorem dV_become_33 : decode bV_become 33 = .ok (.aload_n 1, 1) := by decide +kernel
theorem dV_become_34 : decode bV_become 34 = .ok (.getfield 49, 3) := by decide +kernel
theorem dV_become_37 : decode bV_become 37 = .ok (.putfield 49, 3) := by decide +kernel
theorem dV_become_40 : decode bV_become 40 = .ok (.aload_n 1, 1) := by decide +kernel
theorem dV_become_41 : decode bV_become 41 = .ok (.getfield 9, 3) := by decide +kernel
theorem dV_become_44 : decode bV_become 44 = .ok (.iconst 0, 1) := by decide +kernel
theorem dV_become_45 : decode bV_become 45 = .ok (.aload_n 0, 1) := by decide +kernel
theorem dV_become_46 : decode bV_become 46 = .ok (.getfield 9, 3) := by decide +kernel
theorem dV_become_49 : decode bV_become 49 = .ok (.iconst 0, 1) := by decide +kernel
theorem dV_become_50 : decode bV_become 50 = .ok (.iconst 5, 1) := by decide +kernel
theorem dV_become_51 : decode bV_become 51 = .ok (.invokestatic 52, 3) := by decide +kernel
theorem dV_become_54 : decode bV_become 54 = .ok (.aload_n 1, 1) := by decide +kernel
theorem dV_become_55 : decode bV_become 55 = .ok (.getfield 15, 3) := by decide +kernel
theorem dV_become_58 : decode bV_become 58 = .ok (.iconst 0, 1) := by decide +kernel
theorem dV_become_59 : decode bV_become 59 = .ok (.aload_n 0, 1) := by decide +kernel
theorem dV_become_60 : decode bV_become 60 = .ok (.getfield 15, 3) := by decide +kernel
theorem dV_become_63 : decode bV_become 63 = .ok (.iconst 0, 1) := by decide +kernel
theorem dV_become_64 : decode bV_become 64 = .ok (.iconst 5, 1) := by decide +kernel
theorem dV_become_65 : decode bV_become 65 = .ok (.invokestatic 52, 3) := by decide +kernel
theorem dV_become_68 : decode bV_become 68 = .ok (.aload_n 1, 1) := by decide +kernel
theorem dV_become_69 : decode bV_become 69 = .ok (.getfield 18, 3) := by decide +kernel
theorem dV_become_72 : decode bV_become 72 = .ok (.iconst 0, 1) := by decide +kernel
theorem dV_become_73 : decode bV_become 73 = .ok (.aload_n 0, 1) := by decide +kernel
theorem dV_become_74 : decode bV_become 74 = .ok (.getfield 18, 3) := by decide +kernel
theorem dV_become_77 : decode bV_become 77 = .ok (.iconst 0, 1) := by decide +kernel
theorem dV_become_78 : decode bV_become 78 = .ok (.iconst 5, 1) := by decide +kernel
theorem dV_become_79 : decode bV_become 79 = .ok (.invokestatic 52, 3) := by decide +kernel
theorem dV_become_82 : decode bV_become 82 = .ok (.aload_n 1, 1) := by decide +kernel
theorem dV_become_83 : decode bV_become 83 = .ok (.getfield 21, 3) := by decide +kernel
theorem dV_become_86 : decode bV_become 86 = .ok (.iconst 0, 1) := by decide +kernel
theorem dV_become_87 : decode bV_become 87 = .ok (.aload_n 0, 1) := by decide +kernel
theorem dV_become_88 : decode bV_become 88 = .ok (.getfield 21, 3) := by decide +kernel
theorem dV_become_91 : decode bV_become 91 = .ok (.iconst 0, 1) := by decide +kernel
theorem dV_become_92 : decode bV_become 92 = .ok (.iconst 5, 1) := by decide +kernel
theorem dV_become_93 : decode bV_become 93 = .ok (.invokestatic 52, 3) := by decide +kernel
theorem dV_become_96 : decode bV_become 96 = .ok (.aload_n 1, 1) := by decide +kernel
theorem dV_become_97 : decode bV_become 97 = .ok (.getfield 24, 3) := by decide +kernel
theorem dV_become_100 : decode bV_become 100 = .ok (.iconst 0, 1) := by decide +kernel
theorem dV_become_101 : decode bV_become 101 = .ok (.aload_n 0, 1) := by decide +kernel
theorem dV_become_102 : decode bV_become 102 = .ok (.getfield 24, 3) := by decide +kernel
theorem dV_become_105 : decode bV_become 105 = .ok (.iconst 0, 1) := by decide +kernel
theorem dV_become_106 : decode bV_become 106 = .ok (.iconst 5, 1) := by decide +kernel
theorem dV_become_107 : decode bV_become 107 = .ok (.invokestatic 52, 3) := by decide +kernel
theorem dV_become_110 : decode bV_become 110 = .ok (.aload_n 1, 1) := by decide +kernel
theorem dV_become_111 : decode bV_become 111 = .ok (.getfield 27, 3) := by decide +kernel
theorem dV_become_114 : decode bV_become 114 = .ok (.iconst 0, 1) := by decide +kernel
theorem dV_become_115 : decode bV_become 115 = .ok (.aload_n 0, 1) := by decide +kernel
theorem dV_become_116 : decode bV_become 116 = .ok (.getfield 27, 3) := by decide +kernel
theorem dV_become_119 : decode bV_become 119 = .ok (.iconst 0, 1) := by decide +kernel
theorem dV_become_120 : decode bV_become 120 = .ok (.bipush 120, 2) := by decide +kernel
theorem dV_become_122 : decode bV_become 122 = .ok (.invokestatic 52, 3) := by decide +kernel
theorem dV_become_125 : decode bV_become 125 = .ok (.aload_n 1, 1) := by decide +kernel
theorem dV_become_126 : decode bV_become 126 = .ok (.getfield 30, 3) := by decide +kernel
theorem dV_become_129 : decode bV_become 129 = .ok (.iconst 0, 1) := by decide +kernel
theorem dV_become_130 : decode bV_become 130 = .ok (.aload_n 0, 1) := by decide +kernel
theorem dV_become_131 : decode bV_become 131 = .ok (.getfield 30, 3) := by decide +kernel
theorem dV_become_134 : decode bV_become 134 = .ok (.iconst 0, 1) := by decide +kernel
theorem dV_become_135 : decode bV_become 135 = .ok (.bipush 120, 2) := by decide +kernel
theorem dV_become_137 : decode bV_become 137 = .ok (.invokestatic 52, 3) := by decide +kernel
theorem dV_become_140 : decode bV_become 140 = .ok (.aload_n 1, 1) := by decide +kernel
theorem dV_become_141 : decode bV_become 141 = .ok (.getfield 33, 3) := by decide +kernel
theorem dV_become_144 : decode bV_become 144 = .ok (.iconst 0, 1) := by decide +kernel
theorem dV_become_145 : decode bV_become 145 = .ok (.aload_n 0, 1) := by decide +kernel
theorem dV_become_146 : decode bV_become 146 = .ok (.getfield 33, 3) := by decide +kernel
theorem dV_become_149 : decode bV_become 149 = .ok (.iconst 0, 1) := by decide +kernel
theorem dV_become_150 : decode bV_become 150 = .ok (.sipush 600, 3) := by decide +kernel
theorem dV_become_153 : decode bV_become 153 = .ok (.invokestatic 52, 3) := by decide +kernel
theorem dV_become_156 : decode bV_become 156 = .ok (.return_, 1) := by decide +kernel
def f_V_become (n : Nat) (c : Nat) (c1 : Nat) (s : mb_T) : Option (mb_T) := mb_bd (sF s c 0 (s.1 c1 0)) fun s_1 => mb_bd (sF s_1 c 1 (s_1.1 c1 1)) fun s_3 => mb_bd (sF s_3 c 2 (s_3.1 c1 2)) fun s_5 => mb_bd (sF s_5 c 3 (s_5.1 c1 3)) fun s_7 => mb_bd (sF s_7 c 4 (s_7.1 c1 4)) fun s_9 => mb_cp s_9 (c1 + 5) 5 (c + 5) 5 0 0 5 fun s_11 => mb_cp s_11 (c1 + 6) 5 (c + 6) 5 0 0 5 fun s_14 => mb_cp s_14 (c1 + 7) 5 (c + 7) 5 0 0 5 fun s_17 => mb_cp s_17 (c1 + 8) 5 (c + 8) 5 0 0 5 fun s_20 => mb_cp s_20 (c1 + 9) 5 (c + 9) 5 0 0 5 fun s_23 => mb_cp s_23 (c1 + 10) 120 (c + 10) 120 0 0 120 fun s_26 => mb_cp s_26 (c1 + 11) 120 (c + 11) 120 0 0 120 fun s_29 => mb_cp s_29 (c1 + 12) 600 (c + 12) 600 0 0 600 fun s_32 => some s_32
set_option maxHeartbeats 4000000 in
set_option maxRecDepth 100000 in
theorem t_V_become {dd n : Nat} {c : Nat} {c1 : Nat} {s : mb_T} {out : mb_T} (hc : mb_cv c) (hc1 : mb_cv c1) (h : f_V_become n c c1 s = some out) : mb_MC (dd + 1) yV_become bV_become 2 none [.ref c, .ref c1] s none out := by
  unfold f_V_become at h
  refine mj_mc (lv := [.ref c, .ref c1]) mV_become rfl rfl (Nat.le_of_ble_eq_true rfl) (fun K hK hR => ?_)
  have hK : mj_C (dd + 1) 0 0 RV_c "become" bV_become 2 K := hK
  refine ro_aload_n hK dV_become_0 rfl ?_
  refine ro_aload_n hK dV_become_1 rfl ?_
  refine rb_get hK fV_36 (mb_cvo hc1) rfl dV_become_2 ?_
  obtain ⟨s_1, e_2, h⟩ := mb_bd_e h
  refine rb_put hK gV_36 (mb_cvo hc) (mb_cvs (by decide)) (by show 0 < 13; decide) rfl rfl e_2 dV_become_5 ?_
  refine ro_aload_n hK dV_become_8 rfl ?_
  refine ro_aload_n hK dV_become_9 rfl ?_
  refine rb_get hK fV_40 (mb_cvo hc1) rfl dV_become_10 ?_
  obtain ⟨s_3, e_4, h⟩ := mb_bd_e h
  refine rb_put hK gV_40 (mb_cvo hc) (mb_cvs (by decide)) (by show 1 < 13; decide) rfl rfl e_4 dV_become_13 ?_
  refine ro_aload_n hK dV_become_16 rfl ?_
  refine ro_aload_n hK dV_become_17 rfl ?_
  refine rb_get hK fV_43 (mb_cvo hc1) rfl dV_become_18 ?_
  obtain ⟨s_5, e_6, h⟩ := mb_bd_e h
  refine rb_put hK gV_43 (mb_cvo hc) (mb_cvs (by decide)) (by show 2 < 13; decide) rfl rfl e_6 dV_become_21 ?_
  refine ro_aload_n hK dV_become_24 rfl ?_
  refine ro_aload_n hK dV_become_25 rfl ?_
  refine rb_get hK fV_46 (mb_cvo hc1) rfl dV_become_26 ?_
  obtain ⟨s_7, e_8, h⟩ := mb_bd_e h
  refine rb_put hK gV_46 (mb_cvo hc) (mb_cvs (by decide)) (by show 3 < 13; decide) rfl rfl e_8 dV_become_29 ?_
  refine ro_aload_n hK dV_become_32 rfl ?_
  refine ro_aload_n hK dV_become_33 rfl ?_
  refine rb_get hK fV_49 (mb_cvo hc1) rfl dV_become_34 ?_
  obtain ⟨s_9, e_10, h⟩ := mb_bd_e h
  refine rb_put hK gV_49 (mb_cvo hc) (mb_cvs (by decide)) (by show 4 < 13; decide) rfl rfl e_10 dV_become_37 ?_
  refine ro_aload_n hK dV_become_40 rfl ?_
  refine rb_get hK fV_9 (mb_cvo hc1) rfl dV_become_41 ?_
  refine ro_iconst (x := 0) hK (by decide) dV_become_44 ?_
  refine ro_aload_n hK dV_become_45 rfl ?_
  refine rb_get hK fV_9 (mb_cvo hc) rfl dV_become_46 ?_
  refine ro_iconst (x := 0) hK (by decide) dV_become_49 ?_
  refine ro_iconst (x := 5) hK (by decide) dV_become_50 ?_
  obtain ⟨s_11, e_12, i_13, h⟩ := mb_cp_e h
  refine rb_copy hK vV_52 (by omega) (Nat.le_of_ble_eq_true rfl) (mb_cv5 hc1) (mb_cv5 hc) i_13 e_12 dV_become_51 ?_
  refine ro_aload_n hK dV_become_54 rfl ?_
  refine rb_get hK fV_15 (mb_cvo hc1) rfl dV_become_55 ?_
  refine ro_iconst (x := 0) hK (by decide) dV_become_58 ?_
  refine ro_aload_n hK dV_become_59 rfl ?_
  refine rb_get hK fV_15 (mb_cvo hc) rfl dV_become_60 ?_
  refine ro_iconst (x := 0) hK (by decide) dV_become_63 ?_
  refine ro_iconst (x := 5) hK (by decide) dV_become_64 ?_
  obtain ⟨s_14, e_15, i_16, h⟩ := mb_cp_e h
  refine rb_copy hK vV_52 (by omega) (Nat.le_of_ble_eq_true rfl) (mb_cv6 hc1) (mb_cv6 hc) i_16 e_15 dV_become_65 ?_
  refine ro_aload_n hK dV_become_68 rfl ?_
  refine rb_get hK fV_18 (mb_cvo hc1) rfl dV_become_69 ?_
  refine ro_iconst (x := 0) hK (by decide) dV_become_72 ?_
  refine ro_aload_n hK dV_become_73 rfl ?_
  refine rb_get hK fV_18 (mb_cvo hc) rfl dV_become_74 ?_
  refine ro_iconst (x := 0) hK (by decide) dV_become_77 ?_
  refine ro_iconst (x := 5) hK (by decide) dV_become_78 ?_
  obtain ⟨s_17, e_18, i_19, h⟩ := mb_cp_e h
  refine rb_copy hK vV_52 (by omega) (Nat.le_of_ble_eq_true rfl) (mb_cv7 hc1) (mb_cv7 hc) i_19 e_18 dV_become_79 ?_
  refine ro_aload_n hK dV_become_82 rfl ?_
  refine rb_get hK fV_21 (mb_cvo hc1) rfl dV_become_83 ?_
  refine ro_iconst (x := 0) hK (by decide) dV_become_86 ?_
  refine ro_aload_n hK dV_become_87 rfl ?_
  refine rb_get hK fV_21 (mb_cvo hc) rfl dV_become_88 ?_
  refine ro_iconst (x := 0) hK (by decide) dV_become_91 ?_
  refine ro_iconst (x := 5) hK (by decide) dV_become_92 ?_
  obtain ⟨s_20, e_21, i_22, h⟩ := mb_cp_e h
  refine rb_copy hK vV_52 (by omega) (Nat.le_of_ble_eq_true rfl) (mb_cv8 hc1) (mb_cv8 hc) i_22 e_21 dV_become_93 ?_
  refine ro_aload_n hK dV_become_96 rfl ?_
  refine rb_get hK fV_24 (mb_cvo hc1) rfl dV_become_97 ?_
  refine ro_iconst (x := 0) hK (by decide) dV_become_100 ?_
  refine ro_aload_n hK dV_become_101 rfl ?_
  refine rb_get hK fV_24 (mb_cvo hc) rfl dV_become_102 ?_
  refine ro_iconst (x := 0) hK (by decide) dV_become_105 ?_
  refine ro_iconst (x := 5) hK (by decide) dV_become_106 ?_
  obtain ⟨s_23, e_24, i_25, h⟩ := mb_cp_e h
  refine rb_copy hK vV_52 (by omega) (Nat.le_of_ble_eq_true rfl) (mb_cv9 hc1) (mb_cv9 hc) i_25 e_24 dV_become_107 ?_
  refine ro_aload_n hK dV_become_110 rfl ?_
  refine rb_get hK fV_27 (mb_cvo hc1) rfl dV_become_111 ?_
  refine ro_iconst (x := 0) hK (by decide) dV_become_114 ?_
  refine ro_aload_n hK dV_become_115 rfl ?_
  refine rb_get hK fV_27 (mb_cvo hc) rfl dV_become_116 ?_
  refine ro_iconst (x := 0) hK (by decide) dV_become_119 ?_
  refine ro_bipush (x := 120) hK (by decide) dV_become_120 ?_
  obtain ⟨s_26, e_27, i_28, h⟩ := mb_cp_e h
  refine rb_copy hK vV_52 (by omega) (Nat.le_of_ble_eq_true rfl) (mb_cv10 hc1) (mb_cv10 hc) i_28 e_27 dV_become_122 ?_
  refine ro_aload_n hK dV_become_125 rfl ?_
  refine rb_get hK fV_30 (mb_cvo hc1) rfl dV_become_126 ?_
  refine ro_iconst (x := 0) hK (by decide) dV_become_129 ?_
  refine ro_aload_n hK dV_become_130 rfl ?_
  refine rb_get hK fV_30 (mb_cvo hc) rfl dV_become_131 ?_
  refine ro_iconst (x := 0) hK (by decide) dV_become_134 ?_
  refine ro_bipush (x := 120) hK (by decide) dV_become_135 ?_
  obtain ⟨s_29, e_30, i_31, h⟩ := mb_cp_e h
  refine rb_copy hK vV_52 (by omega) (Nat.le_of_ble_eq_true rfl) (mb_cv11 hc1) (mb_cv11 hc) i_31 e_30 dV_become_137 ?_
  refine ro_aload_n hK dV_become_140 rfl ?_
  refine rb_get hK fV_33 (mb_cvo hc1) rfl dV_become_141 ?_
  refine ro_iconst (x := 0) hK (by decide) dV_become_144 ?_
  refine ro_aload_n hK dV_become_145 rfl ?_
  refine rb_get hK fV_33 (mb_cvo hc) rfl dV_become_146 ?_
  refine ro_iconst (x := 0) hK (by decide) dV_become_149 ?_
  refine ro_sipush (x := 600) hK (by decide) dV_become_150 ?_
  obtain ⟨s_32, e_33, i_34, h⟩ := mb_cp_e h
  refine rb_copy hK vV_52 (by omega) (Nat.le_of_ble_eq_true rfl) (mb_cv12 hc1) (mb_cv12 hc) i_34 e_33 dV_become_153 ?_
  cases h
  exact hR.2.2 0 0 156 _ _ rfl dV_become_156 ⟨rfl, rfl⟩
theorem dV_clear_0 : decode bV_clear 0 = .ok (.aload_n 0, 1) := by decide +kernel
theorem dV_clear_1 : decode bV_clear 1 = .ok (.iconst 0, 1) := by decide +kernel
theorem dV_clear_2 : decode bV_clear 2 = .ok (.putfield 36, 3) := by decide +kernel
theorem dV_clear_5 : decode bV_clear 5 = .ok (.aload_n 0, 1) := by decide +kernel
theorem dV_clear_6 : decode bV_clear 6 = .ok (.iconst 0, 1) := by decide +kernel
theorem dV_clear_7 : decode bV_clear 7 = .ok (.putfield 40, 3) := by decide +kernel
theorem dV_clear_10 : decode bV_clear 10 = .ok (.aload_n 0, 1) := by decide +kernel
theorem dV_clear_11 : decode bV_clear 11 = .ok (.iconst 0, 1) := by decide +kernel
theorem dV_clear_12 : decode bV_clear 12 = .ok (.putfield 43, 3) := by decide +kernel
theorem dV_clear_15 : decode bV_clear 15 = .ok (.aload_n 0, 1) := by decide +kernel
theorem dV_clear_16 : decode bV_clear 16 = .ok (.iconst 0, 1) := by decide +kernel
theorem dV_clear_17 : decode bV_clear 17 = .ok (.putfield 46, 3) := by decide +kernel
theorem dV_clear_20 : decode bV_clear 20 = .ok (.aload_n 0, 1) := by decide +kernel
theorem dV_clear_21 : decode bV_clear 21 = .ok (.iconst 0, 1) := by decide +kernel
theorem dV_clear_22 : decode bV_clear 22 = .ok (.putfield 49, 3) := by decide +kernel
theorem dV_clear_25 : decode bV_clear 25 = .ok (.return_, 1) := by decide +kernel
def f_V_clear (n : Nat) (c : Nat) (s : mb_T) : Option (mb_T) := mb_bd (sF s c 0 0) fun s_1 => mb_bd (sF s_1 c 1 0) fun s_3 => mb_bd (sF s_3 c 2 0) fun s_5 => mb_bd (sF s_5 c 3 0) fun s_7 => mb_bd (sF s_7 c 4 0) fun s_9 => some s_9
set_option maxHeartbeats 4000000 in
set_option maxRecDepth 100000 in
theorem t_V_clear {dd n : Nat} {c : Nat} {s : mb_T} {out : mb_T} (hc : mb_cv c) (h : f_V_clear n c s = some out) : mb_MC (dd + 1) yV_clear bV_clear 1 none [.ref c] s none out := by
  unfold f_V_clear at h
  refine mj_mc (lv := [.ref c]) mV_clear rfl rfl (Nat.le_of_ble_eq_true rfl) (fun K hK hR => ?_)
  have hK : mj_C (dd + 1) 0 0 RV_c "clear" bV_clear 1 K := hK
  refine ro_aload_n hK dV_clear_0 rfl ?_
  refine ro_iconst (x := 0) hK (by decide) dV_clear_1 ?_
  obtain ⟨s_1, e_2, h⟩ := mb_bd_e h
  refine rb_put hK gV_36 (mb_cvo hc) (mb_cvs (by decide)) (by show 0 < 13; decide) rfl rfl e_2 dV_clear_2 ?_
  refine ro_aload_n hK dV_clear_5 rfl ?_
  refine ro_iconst (x := 0) hK (by decide) dV_clear_6 ?_
  obtain ⟨s_3, e_4, h⟩ := mb_bd_e h
  refine rb_put hK gV_40 (mb_cvo hc) (mb_cvs (by decide)) (by show 1 < 13; decide) rfl rfl e_4 dV_clear_7 ?_
  refine ro_aload_n hK dV_clear_10 rfl ?_
  refine ro_iconst (x := 0) hK (by decide) dV_clear_11 ?_
  obtain ⟨s_5, e_6, h⟩ := mb_bd_e h
  refine rb_put hK gV_43 (mb_cvo hc) (mb_cvs (by decide)) (by show 2 < 13; decide) rfl rfl e_6 dV_clear_12 ?_
  refine ro_aload_n hK dV_clear_15 rfl ?_
  refine ro_iconst (x := 0) hK (by decide) dV_clear_16 ?_
  obtain ⟨s_7, e_8, h⟩ := mb_bd_e h
  refine rb_put hK gV_46 (mb_cvo hc) (mb_cvs (by decide)) (by show 3 < 13; decide) rfl rfl e_8 dV_clear_17 ?_
  refine ro_aload_n hK dV_clear_20 rfl ?_
  refine ro_iconst (x := 0) hK (by decide) dV_clear_21 ?_
  obtain ⟨s_9, e_10, h⟩ := mb_bd_e h
  refine rb_put hK gV_49 (mb_cvo hc) (mb_cvs (by decide)) (by show 4 < 13; decide) rfl rfl e_10 dV_clear_22 ?_
  cases h
  exact hR.2.2 0 0 25 _ _ rfl dV_clear_25 ⟨rfl, rfl⟩
theorem dV_lastHolder_0 : decode bV_lastHolder 0 = .ok (.aload_n 0, 1) := by decide +kernel
theorem dV_lastHolder_1 : decode bV_lastHolder 1 = .ok (.getfield 49, 3) := by decide +kernel
theorem dV_lastHolder_4 : decode bV_lastHolder 4 = .ok (.ifCond .le 26, 3) := by decide +kernel
theorem dV_lastHolder_7 : decode bV_lastHolder 7 = .ok (.aload_n 0, 1) := by decide +kernel
theorem dV_lastHolder_8 : decode bV_lastHolder 8 = .ok (.getfield 49, 3) := by decide +kernel
theorem dV_lastHolder_11 : decode bV_lastHolder 11 = .ok (.bipush 120, 2) := by decide +kernel
theorem dV_lastHolder_13 : decode bV_lastHolder 13 = .ok (.if_icmp .gt 17, 3) := by decide +kernel
theorem dV_lastHolder_16 : decode bV_lastHolder 16 = .ok (.aload_n 0, 1) := by decide +kernel
theorem dV_lastHolder_17 : decode bV_lastHolder 17 = .ok (.getfield 27, 3) := by decide +kernel
theorem dV_lastHolder_20 : decode bV_lastHolder 20 = .ok (.aload_n 0, 1) := by decide +kernel
theorem dV_lastHolder_21 : decode bV_lastHolder 21 = .ok (.getfield 49, 3) := by decide +kernel
theorem dV_lastHolder_24 : decode bV_lastHolder 24 = .ok (.iconst 1, 1) := by decide +kernel
theorem dV_lastHolder_25 : decode bV_lastHolder 25 = .ok (.isub, 1) := by decide +kernel
theorem dV_lastHolder_26 : decode bV_lastHolder 26 = .ok (.iaload, 1) := by decide +kernel
theorem dV_lastHolder_27 : decode bV_lastHolder 27 = .ok (.goto 4, 3) := by decide +kernel
theorem dV_lastHolder_30 : decode bV_lastHolder 30 = .ok (.iconst (-1), 1) := by decide +kernel
theorem dV_lastHolder_31 : decode bV_lastHolder 31 = .ok (.ireturn, 1) := by decide +kernel
def f_V_lastHolder (n : Nat) (c : Nat) (s : mb_T) : Option (Int32 × mb_T) := if (s.1 c 4) ≤ 0 then some ((-1), s) else if 120 < (s.1 c 4) then some ((-1), s) else mb_rd s (c + 10) 120 ((s.1 c 4) - 1) fun x_3 => some (x_3, s)
set_option maxHeartbeats 4000000 in
set_option maxRecDepth 100000 in
theorem t_V_lastHolder {dd n : Nat} {c : Nat} {s : mb_T} {out : Int32 × mb_T} (hc : mb_cv c) (h : f_V_lastHolder n c s = some out) : mb_MC (dd + 1) yV_lastHolder bV_lastHolder 1 (some .int) [.ref c] s (some (.int out.1)) out.2 := by
  unfold f_V_lastHolder at h
  refine mj_mc (lv := [.ref c]) mV_lastHolder rfl rfl (Nat.le_of_ble_eq_true rfl) (fun K hK hR => ?_)
  have hK : mj_C (dd + 1) 0 0 RV_c "lastHolder" bV_lastHolder 1 K := hK
  refine ro_aload_n hK dV_lastHolder_0 rfl ?_
  refine rb_get hK fV_49 (mb_cvo hc) rfl dV_lastHolder_1 ?_
  refine ro_if_le (tgt := 30) hK dV_lastHolder_4 (by decide) (fun c_1 => ?_) (fun c_1 => ?_)
  · replace h := mb_ift c_1 h
    refine ro_iconst (x := (-1)) hK (by decide) dV_lastHolder_30 ?_
    cases h
    exact hR.1 0 0 31 _ _ _ _ rfl rfl dV_lastHolder_31 ⟨rfl, rfl⟩
  · replace h := mb_iff c_1 h
    refine ro_aload_n hK dV_lastHolder_7 rfl ?_
    refine rb_get hK fV_49 (mb_cvo hc) rfl dV_lastHolder_8 ?_
    refine ro_bipush (x := 120) hK (by decide) dV_lastHolder_11 ?_
    refine ro_icmp_gt (tgt := 30) hK dV_lastHolder_13 (by decide) (fun c_2 => ?_) (fun c_2 => ?_)
    · replace h := mb_ift c_2 h
      refine ro_iconst (x := (-1)) hK (by decide) dV_lastHolder_30 ?_
      cases h
      exact hR.1 0 0 31 _ _ _ _ rfl rfl dV_lastHolder_31 ⟨rfl, rfl⟩
    · replace h := mb_iff c_2 h
      refine ro_aload_n hK dV_lastHolder_16 rfl ?_
      refine rb_get hK fV_27 (mb_cvo hc) rfl dV_lastHolder_17 ?_
      refine ro_aload_n hK dV_lastHolder_20 rfl ?_
      refine rb_get hK fV_49 (mb_cvo hc) rfl dV_lastHolder_21 ?_
      refine ro_iconst (x := 1) hK (by decide) dV_lastHolder_24 ?_
      refine ro_isub hK dV_lastHolder_25 ?_
      obtain ⟨x_3, e_4, i_5, h⟩ := mb_rd_e h
      refine rb_iald hK (mb_cv10 hc) i_5 e_4 dV_lastHolder_26 ?_
      refine ro_goto (tgt := 31) hK dV_lastHolder_27 (by decide) ?_
      cases h
      exact hR.1 0 0 31 _ _ _ _ rfl rfl dV_lastHolder_31 ⟨rfl, rfl⟩
theorem dV_remember_0 : decode bV_remember 0 = .ok (.aload_n 0, 1) := by decide +kernel
theorem dV_remember_1 : decode bV_remember 1 = .ok (.getfield 49, 3) := by decide +kernel
theorem dV_remember_4 : decode bV_remember 4 = .ok (.bipush 120, 2) := by decide +kernel
theorem dV_remember_6 : decode bV_remember 6 = .ok (.if_icmp .ge 45, 3) := by decide +kernel
theorem dV_remember_9 : decode bV_remember 9 = .ok (.aload_n 0, 1) := by decide +kernel
theorem dV_remember_10 : decode bV_remember 10 = .ok (.getfield 27, 3) := by decide +kernel
theorem dV_remember_13 : decode bV_remember 13 = .ok (.aload_n 0, 1) := by decide +kernel
theorem dV_remember_14 : decode bV_remember 14 = .ok (.getfield 49, 3) := by decide +kernel
theorem dV_remember_17 : decode bV_remember 17 = .ok (.iload_n 1, 1) := by decide +kernel
theorem dV_remember_18 : decode bV_remember 18 = .ok (.iastore, 1) := by decide +kernel
theorem dV_remember_19 : decode bV_remember 19 = .ok (.aload_n 0, 1) := by decide +kernel
theorem dV_remember_20 : decode bV_remember 20 = .ok (.getfield 30, 3) := by decide +kernel
theorem dV_remember_23 : decode bV_remember 23 = .ok (.aload_n 0, 1) := by decide +kernel
theorem dV_remember_24 : decode bV_remember 24 = .ok (.getfield 49, 3) := by decide +kernel
theorem dV_remember_27 : decode bV_remember 27 = .ok (.aload_n 0, 1) := by decide +kernel
theorem dV_remember_28 : decode bV_remember 28 = .ok (.getfield 46, 3) := by decide +kernel
theorem dV_remember_31 : decode bV_remember 31 = .ok (.iastore, 1) := by decide +kernel
theorem dV_remember_32 : decode bV_remember 32 = .ok (.aload_n 0, 1) := by decide +kernel
theorem dV_remember_33 : decode bV_remember 33 = .ok (.getfield 15, 3) := by decide +kernel
theorem dV_remember_36 : decode bV_remember 36 = .ok (.iconst 0, 1) := by decide +kernel
theorem dV_remember_37 : decode bV_remember 37 = .ok (.aload_n 0, 1) := by decide +kernel
theorem dV_remember_38 : decode bV_remember 38 = .ok (.getfield 33, 3) := by decide +kernel
theorem dV_remember_41 : decode bV_remember 41 = .ok (.aload_n 0, 1) := by decide +kernel
theorem dV_remember_42 : decode bV_remember 42 = .ok (.getfield 49, 3) := by decide +kernel
theorem dV_remember_45 : decode bV_remember 45 = .ok (.iconst 5, 1) := by decide +kernel
theorem dV_remember_46 : decode bV_remember 46 = .ok (.imul, 1) := by decide +kernel
theorem dV_remember_47 : decode bV_remember 47 = .ok (.iconst 5, 1) := by decide +kernel
theorem dV_remember_48 : decode bV_remember 48 = .ok (.invokestatic 52, 3) := by decide +kernel
theorem dV_remember_51 : decode bV_remember 51 = .ok (.return_, 1) := by decide +kernel
def f_V_remember (n : Nat) (c : Nat) (x1 : Int32) (s : mb_T) : Option (mb_T) := if 120 ≤ (s.1 c 4) then some s else mb_wr s (c + 10) 120 (s.1 c 4) x1 fun s_2 => mb_wr s_2 (c + 11) 120 (s_2.1 c 4) (s_2.1 c 3) fun s_5 => mb_cp s_5 (c + 6) 5 (c + 12) 600 0 ((s_5.1 c 4) * 5) 5 fun s_8 => some s_8
set_option maxHeartbeats 4000000 in
set_option maxRecDepth 100000 in
theorem t_V_remember {dd n : Nat} {c : Nat} {x1 : Int32} {s : mb_T} {out : mb_T} (hc : mb_cv c) (h : f_V_remember n c x1 s = some out) : mb_MC (dd + 1) yV_remember bV_remember 2 none [.ref c, .int x1] s none out := by
  unfold f_V_remember at h
  refine mj_mc (lv := [.ref c, .int x1]) mV_remember rfl rfl (Nat.le_of_ble_eq_true rfl) (fun K hK hR => ?_)
  have hK : mj_C (dd + 1) 0 0 RV_c "remember" bV_remember 2 K := hK
  refine ro_aload_n hK dV_remember_0 rfl ?_
  refine rb_get hK fV_49 (mb_cvo hc) rfl dV_remember_1 ?_
  refine ro_bipush (x := 120) hK (by decide) dV_remember_4 ?_
  refine ro_icmp_ge (tgt := 51) hK dV_remember_6 (by decide) (fun c_1 => ?_) (fun c_1 => ?_)
  · replace h := mb_ift c_1 h
    cases h
    exact hR.2.2 0 0 51 _ _ rfl dV_remember_51 ⟨rfl, rfl⟩
  · replace h := mb_iff c_1 h
    refine ro_aload_n hK dV_remember_9 rfl ?_
    refine rb_get hK fV_27 (mb_cvo hc) rfl dV_remember_10 ?_
    refine ro_aload_n hK dV_remember_13 rfl ?_
    refine rb_get hK fV_49 (mb_cvo hc) rfl dV_remember_14 ?_
    refine ro_iload_n hK dV_remember_17 rfl ?_
    obtain ⟨s_2, e_3, i_4, h⟩ := mb_wr_e h
    refine rb_iast hK (mb_cv10 hc) i_4 e_3 dV_remember_18 ?_
    refine ro_aload_n hK dV_remember_19 rfl ?_
    refine rb_get hK fV_30 (mb_cvo hc) rfl dV_remember_20 ?_
    refine ro_aload_n hK dV_remember_23 rfl ?_
    refine rb_get hK fV_49 (mb_cvo hc) rfl dV_remember_24 ?_
    refine ro_aload_n hK dV_remember_27 rfl ?_
    refine rb_get hK fV_46 (mb_cvo hc) rfl dV_remember_28 ?_
    obtain ⟨s_5, e_6, i_7, h⟩ := mb_wr_e h
    refine rb_iast hK (mb_cv11 hc) i_7 e_6 dV_remember_31 ?_
    refine ro_aload_n hK dV_remember_32 rfl ?_
    refine rb_get hK fV_15 (mb_cvo hc) rfl dV_remember_33 ?_
    refine ro_iconst (x := 0) hK (by decide) dV_remember_36 ?_
    refine ro_aload_n hK dV_remember_37 rfl ?_
    refine rb_get hK fV_33 (mb_cvo hc) rfl dV_remember_38 ?_
    refine ro_aload_n hK dV_remember_41 rfl ?_
    refine rb_get hK fV_49 (mb_cvo hc) rfl dV_remember_42 ?_
    refine ro_iconst (x := 5) hK (by decide) dV_remember_45 ?_
    refine ro_imul hK dV_remember_46 ?_
    refine ro_iconst (x := 5) hK (by decide) dV_remember_47 ?_
    obtain ⟨s_8, e_9, i_10, h⟩ := mb_cp_e h
    refine rb_copy hK vV_52 (by omega) (Nat.le_of_ble_eq_true rfl) (mb_cv6 hc) (mb_cv12 hc) i_10 e_9 dV_remember_48 ?_
    cases h
    exact hR.2.2 0 0 51 _ _ rfl dV_remember_51 ⟨rfl, rfl⟩
theorem dV_sumOf_0 : decode bV_sumOf 0 = .ok (.iconst 0, 1) := by decide +kernel
theorem dV_sumOf_1 : decode bV_sumOf 1 = .ok (.istore_n 2, 1) := by decide +kernel
theorem dV_sumOf_2 : decode bV_sumOf 2 = .ok (.iconst 0, 1) := by decide +kernel
theorem dV_sumOf_3 : decode bV_sumOf 3 = .ok (.istore_n 3, 1) := by decide +kernel
theorem dV_sumOf_4 : decode bV_sumOf 4 = .ok (.iload_n 3, 1) := by decide +kernel
theorem dV_sumOf_5 : decode bV_sumOf 5 = .ok (.aload_n 0, 1) := by decide +kernel
theorem dV_sumOf_6 : decode bV_sumOf 6 = .ok (.getfield 36, 3) := by decide +kernel
theorem dV_sumOf_9 : decode bV_sumOf 9 = .ok (.if_icmp .ge 21, 3) := by decide +kernel
theorem dV_sumOf_12 : decode bV_sumOf 12 = .ok (.iload_n 3, 1) := by decide +kernel
theorem dV_sumOf_13 : decode bV_sumOf 13 = .ok (.aload_n 1, 1) := by decide +kernel
theorem dV_sumOf_14 : decode bV_sumOf 14 = .ok (.arraylength, 1) := by decide +kernel
theorem dV_sumOf_15 : decode bV_sumOf 15 = .ok (.if_icmp .ge 15, 3) := by decide +kernel
theorem dV_sumOf_18 : decode bV_sumOf 18 = .ok (.iload_n 2, 1) := by decide +kernel
theorem dV_sumOf_19 : decode bV_sumOf 19 = .ok (.aload_n 1, 1) := by decide +kernel
theorem dV_sumOf_20 : decode bV_sumOf 20 = .ok (.iload_n 3, 1) := by decide +kernel
theorem dV_sumOf_21 : decode bV_sumOf 21 = .ok (.iaload, 1) := by decide +kernel
theorem dV_sumOf_22 : decode bV_sumOf 22 = .ok (.iadd, 1) := by decide +kernel
theorem dV_sumOf_23 : decode bV_sumOf 23 = .ok (.istore_n 2, 1) := by decide +kernel
theorem dV_sumOf_24 : decode bV_sumOf 24 = .ok (.iinc 3 1, 3) := by decide +kernel
theorem dV_sumOf_27 : decode bV_sumOf 27 = .ok (.goto (-23), 3) := by decide +kernel
theorem dV_sumOf_30 : decode bV_sumOf 30 = .ok (.iload_n 2, 1) := by decide +kernel
theorem dV_sumOf_31 : decode bV_sumOf 31 = .ok (.ireturn, 1) := by decide +kernel
def f_V_sumOf_4 (n : Nat) (k0 : Int32 → Int32 → mb_T → Option (Int32 × mb_T)) (y0 : Nat) (y1 z1 : Nat) : Nat → Int32 → Int32 → mb_T → Option (Int32 × mb_T)
  | 0, _, _, _ => none
  | f + 1, w2, w3, s => if (s.1 y0 0) ≤ w3 then k0 w2 w3 s else if (Int32.ofNat z1) ≤ w3 then k0 w2 w3 s else mb_rd s y1 z1 w3 fun x_3 => f_V_sumOf_4 n k0 y0 y1 z1 f (w2 + x_3) (w3 + 1) s
def f_V_sumOf (n : Nat) (c : Nat) (a1 n1 : Nat) (s : mb_T) : Option (Int32 × mb_T) := f_V_sumOf_4 n (fun x_6 x_7 s_8 => some (x_6, s_8)) c a1 n1 n 0 0 s
set_option maxHeartbeats 4000000 in
set_option maxRecDepth 100000 in
theorem tl_V_sumOf_4 {dd n : Nat} {K : mj_KT} {out : Int32 × mb_T} (hK : mj_C (dd + 1) 0 0 RV_c "sumOf" bV_sumOf 4 K) (hR : mj_R bV_sumOf (some .int) (fun r2 S2 => r2 = some (.int out.1) ∧ S2 = mb_s out.2) K) {k0 : Int32 → Int32 → mb_T → Option (Int32 × mb_T)} {y0 : Nat} {y1 z1 : Nat} (hy0 : mb_cv y0) (hy1 : mb_ai y1 z1) (hk0 : ∀ (w2 : Int32) (w3 : Int32) (s : mb_T), k0 w2 w3 s = some out → K 0 0 30 [.ref y0, .ref y1, .int w2, .int w3] [] (mb_s s)) : ∀ (f : Nat) (w2 : Int32) (w3 : Int32) (s : mb_T), f_V_sumOf_4 n k0 y0 y1 z1 f w2 w3 s = some out → K 0 0 4 [.ref y0, .ref y1, .int w2, .int w3] [] (mb_s s) := by
  intro f
  induction f with
  | zero =>
    intro w2 w3 s h
    cases h
  | succ f ih =>
    intro w2 w3 s h
    rw [f_V_sumOf_4] at h
    refine ro_iload_n hK dV_sumOf_4 rfl ?_
    refine ro_aload_n hK dV_sumOf_5 rfl ?_
    refine rb_get hK fV_36 (mb_cvo hy0) rfl dV_sumOf_6 ?_
    refine ro_icmp_ge (tgt := 30) hK dV_sumOf_9 (by decide) (fun c_1 => ?_) (fun c_1 => ?_)
    · replace h := mb_ift c_1 h
      refine ro_fg (lv' := [.ref y0, .ref y1, .int w2, .int w3]) hK ⟨Or.inr rfl, ⟨Or.inr rfl, ⟨Or.inr rfl, ⟨Or.inr rfl, trivial⟩⟩⟩⟩ ?_
      exact hk0 _ _ _ h
    · replace h := mb_iff c_1 h
      refine ro_iload_n hK dV_sumOf_12 rfl ?_
      refine ro_aload_n hK dV_sumOf_13 rfl ?_
      refine rb_alenI hK hy1 dV_sumOf_14 ?_
      refine ro_icmp_ge (tgt := 30) hK dV_sumOf_15 (by decide) (fun c_2 => ?_) (fun c_2 => ?_)
      · replace h := mb_ift c_2 h
        refine ro_fg (lv' := [.ref y0, .ref y1, .int w2, .int w3]) hK ⟨Or.inr rfl, ⟨Or.inr rfl, ⟨Or.inr rfl, ⟨Or.inr rfl, trivial⟩⟩⟩⟩ ?_
        exact hk0 _ _ _ h
      · replace h := mb_iff c_2 h
        refine ro_iload_n hK dV_sumOf_18 rfl ?_
        refine ro_aload_n hK dV_sumOf_19 rfl ?_
        refine ro_iload_n hK dV_sumOf_20 rfl ?_
        obtain ⟨x_3, e_4, i_5, h⟩ := mb_rd_e h
        refine rb_iald hK hy1 i_5 e_4 dV_sumOf_21 ?_
        refine ro_iadd hK dV_sumOf_22 ?_
        refine ro_istore_n hK dV_sumOf_23 (by decide) ?_
        show K 0 0 24 [.ref y0, .ref y1, .int (w2 + x_3), .int w3] [] (mb_s s)
        refine ro_iincv (c := 1) hK (by decide) dV_sumOf_24 rfl (by decide) ?_
        show K 0 0 27 [.ref y0, .ref y1, .int (w2 + x_3), .int (w3 + 1)] [] (mb_s s)
        refine ro_goto (tgt := 4) hK dV_sumOf_27 (by decide) ?_
        refine ro_fg (lv' := [.ref y0, .ref y1, .int (w2 + x_3), .int (w3 + 1)]) hK ⟨Or.inr rfl, ⟨Or.inr rfl, ⟨Or.inr rfl, ⟨Or.inr rfl, trivial⟩⟩⟩⟩ ?_
        exact ih _ _ _ h
set_option maxHeartbeats 4000000 in
set_option maxRecDepth 100000 in
theorem t_V_sumOf {dd n : Nat} {c : Nat} {a1 n1 : Nat} {s : mb_T} {out : Int32 × mb_T} (hc : mb_cv c) (ha1 : mb_ai a1 n1) (h : f_V_sumOf n c a1 n1 s = some out) : mb_MC (dd + 1) yV_sumOf bV_sumOf 4 (some .int) [.ref c, .ref a1] s (some (.int out.1)) out.2 := by
  unfold f_V_sumOf at h
  refine mj_mc (lv := [.ref c, .ref a1, .retAddr 0, .retAddr 0]) mV_sumOf rfl rfl (Nat.le_of_ble_eq_true rfl) (fun K hK hR => ?_)
  have hK : mj_C (dd + 1) 0 0 RV_c "sumOf" bV_sumOf 4 K := hK
  refine ro_iconst (x := 0) hK (by decide) dV_sumOf_0 ?_
  refine ro_istore_n hK dV_sumOf_1 (by decide) ?_
  show K 0 0 2 [.ref c, .ref a1, .int 0, .retAddr 0] [] (mb_s s)
  refine ro_iconst (x := 0) hK (by decide) dV_sumOf_2 ?_
  refine ro_istore_n hK dV_sumOf_3 (by decide) ?_
  show K 0 0 4 [.ref c, .ref a1, .int 0, .int 0] [] (mb_s s)
  refine ro_fg (lv' := [.ref c, .ref a1, .int 0, .int 0]) hK ⟨Or.inr rfl, ⟨Or.inr rfl, ⟨Or.inr rfl, ⟨Or.inr rfl, trivial⟩⟩⟩⟩ ?_
  refine tl_V_sumOf_4 (dd := dd) hK hR hc ha1 (fun x_6 x_7 s_8 h => ?_) n _ _ _ h
  refine ro_iload_n hK dV_sumOf_30 rfl ?_
  cases h
  exact hR.1 0 0 31 _ _ _ _ rfl rfl dV_sumOf_31 ⟨rfl, rfl⟩
theorem dV_take_0 : decode bV_take 0 = .ok (.aload_n 0, 1) := by decide +kernel
theorem dV_take_1 : decode bV_take 1 = .ok (.aload_n 1, 1) := by decide +kernel
theorem dV_take_2 : decode bV_take 2 = .ok (.getfield 58, 3) := by decide +kernel
theorem dV_take_5 : decode bV_take 5 = .ok (.putfield 46, 3) := by decide +kernel
theorem dV_take_8 : decode bV_take 8 = .ok (.aload_n 0, 1) := by decide +kernel
theorem dV_take_9 : decode bV_take 9 = .ok (.aload_n 1, 1) := by decide +kernel
theorem dV_take_10 : decode bV_take 10 = .ok (.getfield 61, 3) := by decide +kernel
theorem dV_take_13 : decode bV_take 13 = .ok (.putfield 49, 3) := by decide +kernel
theorem dV_take_16 : decode bV_take 16 = .ok (.aload_n 1, 1) := by decide +kernel
theorem dV_take_17 : decode bV_take 17 = .ok (.getfield 62, 3) := by decide +kernel
theorem dV_take_20 : decode bV_take 20 = .ok (.iconst 0, 1) := by decide +kernel
theorem dV_take_21 : decode bV_take 21 = .ok (.aload_n 0, 1) := by decide +kernel
theorem dV_take_22 : decode bV_take 22 = .ok (.getfield 15, 3) := by decide +kernel
theorem dV_take_25 : decode bV_take 25 = .ok (.iconst 0, 1) := by decide +kernel
theorem dV_take_26 : decode bV_take 26 = .ok (.iconst 5, 1) := by decide +kernel
theorem dV_take_27 : decode bV_take 27 = .ok (.invokestatic 52, 3) := by decide +kernel
theorem dV_take_30 : decode bV_take 30 = .ok (.return_, 1) := by decide +kernel
def f_V_take (n : Nat) (c : Nat) (s : mb_T) : Option (mb_T) := mb_bd (sF s c 3 (s.1 40 2)) fun s_1 => mb_bd (sF s_1 c 4 (s_1.1 40 4)) fun s_3 => mb_cp s_3 48 5 (c + 6) 5 0 0 5 fun s_5 => some s_5
set_option maxHeartbeats 4000000 in
set_option maxRecDepth 100000 in
theorem t_V_take {dd n : Nat} {c : Nat} {s : mb_T} {out : mb_T} (hc : mb_cv c) (h : f_V_take n c s = some out) : mb_MC (dd + 1) yV_take bV_take 2 none [.ref c, .ref 40] s none out := by
  unfold f_V_take at h
  refine mj_mc (lv := [.ref c, .ref 40]) mV_take rfl rfl (Nat.le_of_ble_eq_true rfl) (fun K hK hR => ?_)
  have hK : mj_C (dd + 1) 0 0 RV_c "take" bV_take 2 K := hK
  refine ro_aload_n hK dV_take_0 rfl ?_
  refine ro_aload_n hK dV_take_1 rfl ?_
  refine rb_get hK fV_58 mb_oA rfl dV_take_2 ?_
  obtain ⟨s_1, e_2, h⟩ := mb_bd_e h
  refine rb_put hK gV_46 (mb_cvo hc) (mb_cvs (by decide)) (by show 3 < 13; decide) rfl rfl e_2 dV_take_5 ?_
  refine ro_aload_n hK dV_take_8 rfl ?_
  refine ro_aload_n hK dV_take_9 rfl ?_
  refine rb_get hK fV_61 mb_oA rfl dV_take_10 ?_
  obtain ⟨s_3, e_4, h⟩ := mb_bd_e h
  refine rb_put hK gV_49 (mb_cvo hc) (mb_cvs (by decide)) (by show 4 < 13; decide) rfl rfl e_4 dV_take_13 ?_
  refine ro_aload_n hK dV_take_16 rfl ?_
  refine rb_get hK fV_62 mb_oA rfl dV_take_17 ?_
  refine ro_iconst (x := 0) hK (by decide) dV_take_20 ?_
  refine ro_aload_n hK dV_take_21 rfl ?_
  refine rb_get hK fV_15 (mb_cvo hc) rfl dV_take_22 ?_
  refine ro_iconst (x := 0) hK (by decide) dV_take_25 ?_
  refine ro_iconst (x := 5) hK (by decide) dV_take_26 ?_
  obtain ⟨s_5, e_6, i_7, h⟩ := mb_cp_e h
  refine rb_copy hK vV_52 (by omega) (Nat.le_of_ble_eq_true rfl) ai_48 (mb_cv6 hc) i_7 e_6 dV_take_27 ?_
  cases h
  exact hR.2.2 0 0 30 _ _ rfl dV_take_30 ⟨rfl, rfl⟩
theorem dV_timesHeld_0 : decode bV_timesHeld 0 = .ok (.iconst 0, 1) := by decide +kernel
theorem dV_timesHeld_1 : decode bV_timesHeld 1 = .ok (.istore_n 2, 1) := by decide +kernel
theorem dV_timesHeld_2 : decode bV_timesHeld 2 = .ok (.iconst 0, 1) := by decide +kernel
theorem dV_timesHeld_3 : decode bV_timesHeld 3 = .ok (.istore_n 3, 1) := by decide +kernel
theorem dV_timesHeld_4 : decode bV_timesHeld 4 = .ok (.iload_n 3, 1) := by decide +kernel
theorem dV_timesHeld_5 : decode bV_timesHeld 5 = .ok (.aload_n 0, 1) := by decide +kernel
theorem dV_timesHeld_6 : decode bV_timesHeld 6 = .ok (.getfield 49, 3) := by decide +kernel
theorem dV_timesHeld_9 : decode bV_timesHeld 9 = .ok (.if_icmp .ge 27, 3) := by decide +kernel
theorem dV_timesHeld_12 : decode bV_timesHeld 12 = .ok (.iload_n 2, 1) := by decide +kernel
theorem dV_timesHeld_13 : decode bV_timesHeld 13 = .ok (.aload_n 0, 1) := by decide +kernel
theorem dV_timesHeld_14 : decode bV_timesHeld 14 = .ok (.getfield 27, 3) := by decide +kernel
theorem dV_timesHeld_17 : decode bV_timesHeld 17 = .ok (.iload_n 3, 1) := by decide +kernel
theorem dV_timesHeld_18 : decode bV_timesHeld 18 = .ok (.iaload, 1) := by decide +kernel
theorem dV_timesHeld_19 : decode bV_timesHeld 19 = .ok (.iload_n 1, 1) := by decide +kernel
theorem dV_timesHeld_20 : decode bV_timesHeld 20 = .ok (.if_icmp .ne 7, 3) := by decide +kernel
theorem dV_timesHeld_23 : decode bV_timesHeld 23 = .ok (.iconst 1, 1) := by decide +kernel
theorem dV_timesHeld_24 : decode bV_timesHeld 24 = .ok (.goto 4, 3) := by decide +kernel
theorem dV_timesHeld_27 : decode bV_timesHeld 27 = .ok (.iconst 0, 1) := by decide +kernel
theorem dV_timesHeld_28 : decode bV_timesHeld 28 = .ok (.iadd, 1) := by decide +kernel
theorem dV_timesHeld_29 : decode bV_timesHeld 29 = .ok (.istore_n 2, 1) := by decide +kernel
theorem dV_timesHeld_30 : decode bV_timesHeld 30 = .ok (.iinc 3 1, 3) := by decide +kernel
theorem dV_timesHeld_33 : decode bV_timesHeld 33 = .ok (.goto (-29), 3) := by decide +kernel
theorem dV_timesHeld_36 : decode bV_timesHeld 36 = .ok (.iload_n 2, 1) := by decide +kernel
theorem dV_timesHeld_37 : decode bV_timesHeld 37 = .ok (.ireturn, 1) := by decide +kernel
def f_V_timesHeld_4 (n : Nat) (k0 : Int32 → Int32 → mb_T → Option (Int32 × mb_T)) (y0 : Nat) (y1 : Int32) : Nat → Int32 → Int32 → mb_T → Option (Int32 × mb_T)
  | 0, _, _, _ => none
  | f + 1, w2, w3, s => if (s.1 y0 4) ≤ w3 then k0 w2 w3 s else mb_rd s (y0 + 10) 120 w3 fun x_2 => f_V_timesHeld_4 n k0 y0 y1 f (w2 + (if x_2 = y1 then 1 else 0 : Int32)) (w3 + 1) s
def f_V_timesHeld (n : Nat) (c : Nat) (x1 : Int32) (s : mb_T) : Option (Int32 × mb_T) := f_V_timesHeld_4 n (fun x_7 x_8 s_9 => some (x_7, s_9)) c x1 n 0 0 s
set_option maxHeartbeats 4000000 in
set_option maxRecDepth 100000 in
theorem tl_V_timesHeld_4 {dd n : Nat} {K : mj_KT} {out : Int32 × mb_T} (hK : mj_C (dd + 1) 0 0 RV_c "timesHeld" bV_timesHeld 4 K) (hR : mj_R bV_timesHeld (some .int) (fun r2 S2 => r2 = some (.int out.1) ∧ S2 = mb_s out.2) K) {k0 : Int32 → Int32 → mb_T → Option (Int32 × mb_T)} {y0 : Nat} {y1 : Int32} (hy0 : mb_cv y0) (hk0 : ∀ (w2 : Int32) (w3 : Int32) (s : mb_T), k0 w2 w3 s = some out → K 0 0 36 [.ref y0, .int y1, .int w2, .int w3] [] (mb_s s)) : ∀ (f : Nat) (w2 : Int32) (w3 : Int32) (s : mb_T), f_V_timesHeld_4 n k0 y0 y1 f w2 w3 s = some out → K 0 0 4 [.ref y0, .int y1, .int w2, .int w3] [] (mb_s s) := by
  intro f
  induction f with
  | zero =>
    intro w2 w3 s h
    cases h
  | succ f ih =>
    intro w2 w3 s h
    rw [f_V_timesHeld_4] at h
    refine ro_iload_n hK dV_timesHeld_4 rfl ?_
    refine ro_aload_n hK dV_timesHeld_5 rfl ?_
    refine rb_get hK fV_49 (mb_cvo hy0) rfl dV_timesHeld_6 ?_
    refine ro_icmp_ge (tgt := 36) hK dV_timesHeld_9 (by decide) (fun c_1 => ?_) (fun c_1 => ?_)
    · replace h := mb_ift c_1 h
      refine ro_fg (lv' := [.ref y0, .int y1, .int w2, .int w3]) hK ⟨Or.inr rfl, ⟨Or.inr rfl, ⟨Or.inr rfl, ⟨Or.inr rfl, trivial⟩⟩⟩⟩ ?_
      exact hk0 _ _ _ h
    · replace h := mb_iff c_1 h
      refine ro_iload_n hK dV_timesHeld_12 rfl ?_
      refine ro_aload_n hK dV_timesHeld_13 rfl ?_
      refine rb_get hK fV_27 (mb_cvo hy0) rfl dV_timesHeld_14 ?_
      refine ro_iload_n hK dV_timesHeld_17 rfl ?_
      obtain ⟨x_2, e_3, i_4, h⟩ := mb_rd_e h
      refine rb_iald hK (mb_cv10 hy0) i_4 e_3 dV_timesHeld_18 ?_
      refine ro_iload_n hK dV_timesHeld_19 rfl ?_
      have j_6 : ∀ w_ : Int32, w_ = (if x_2 = y1 then 1 else 0 : Int32) → K 0 0 28 [.ref y0, .int y1, .int w2, .int w3] [.int w_, .int w2] (mb_s s) → K 0 0 20 [.ref y0, .int y1, .int w2, .int w3] [.int y1, .int x_2, .int w2] (mb_s s) := by
        intro w_ hw hj
        refine ro_icmp_ne (tgt := 27) hK dV_timesHeld_20 (by decide) (fun c_5 => ?_) (fun c_5 => ?_)
        · skip
          refine ro_iconst (x := 0) hK (by decide) dV_timesHeld_27 ?_
          have hw := (hw.trans (if_neg c_5))
          subst hw
          exact hj
        · skip
          refine ro_iconst (x := 1) hK (by decide) dV_timesHeld_23 ?_
          refine ro_goto (tgt := 28) hK dV_timesHeld_24 (by decide) ?_
          have hw := (hw.trans (if_pos c_5))
          subst hw
          exact hj
      refine j_6 _ rfl ?_
      refine ro_iadd hK dV_timesHeld_28 ?_
      refine ro_istore_n hK dV_timesHeld_29 (by decide) ?_
      show K 0 0 30 [.ref y0, .int y1, .int (w2 + (if x_2 = y1 then 1 else 0 : Int32)), .int w3] [] (mb_s s)
      refine ro_iincv (c := 1) hK (by decide) dV_timesHeld_30 rfl (by decide) ?_
      show K 0 0 33 [.ref y0, .int y1, .int (w2 + (if x_2 = y1 then 1 else 0 : Int32)), .int (w3 + 1)] [] (mb_s s)
      refine ro_goto (tgt := 4) hK dV_timesHeld_33 (by decide) ?_
      refine ro_fg (lv' := [.ref y0, .int y1, .int (w2 + (if x_2 = y1 then 1 else 0 : Int32)), .int (w3 + 1)]) hK ⟨Or.inr rfl, ⟨Or.inr rfl, ⟨Or.inr rfl, ⟨Or.inr rfl, trivial⟩⟩⟩⟩ ?_
      exact ih _ _ _ h
set_option maxHeartbeats 4000000 in
set_option maxRecDepth 100000 in
theorem t_V_timesHeld {dd n : Nat} {c : Nat} {x1 : Int32} {s : mb_T} {out : Int32 × mb_T} (hc : mb_cv c) (h : f_V_timesHeld n c x1 s = some out) : mb_MC (dd + 1) yV_timesHeld bV_timesHeld 4 (some .int) [.ref c, .int x1] s (some (.int out.1)) out.2 := by
  unfold f_V_timesHeld at h
  refine mj_mc (lv := [.ref c, .int x1, .retAddr 0, .retAddr 0]) mV_timesHeld rfl rfl (Nat.le_of_ble_eq_true rfl) (fun K hK hR => ?_)
  have hK : mj_C (dd + 1) 0 0 RV_c "timesHeld" bV_timesHeld 4 K := hK
  refine ro_iconst (x := 0) hK (by decide) dV_timesHeld_0 ?_
  refine ro_istore_n hK dV_timesHeld_1 (by decide) ?_
  show K 0 0 2 [.ref c, .int x1, .int 0, .retAddr 0] [] (mb_s s)
  refine ro_iconst (x := 0) hK (by decide) dV_timesHeld_2 ?_
  refine ro_istore_n hK dV_timesHeld_3 (by decide) ?_
  show K 0 0 4 [.ref c, .int x1, .int 0, .int 0] [] (mb_s s)
  refine ro_fg (lv' := [.ref c, .int x1, .int 0, .int 0]) hK ⟨Or.inr rfl, ⟨Or.inr rfl, ⟨Or.inr rfl, ⟨Or.inr rfl, trivial⟩⟩⟩⟩ ?_
  refine tl_V_timesHeld_4 (dd := dd) hK hR hc (fun x_7 x_8 s_9 h => ?_) n _ _ _ h
  refine ro_iload_n hK dV_timesHeld_36 rfl ?_
  cases h
  exact hR.1 0 0 37 _ _ _ _ rfl rfl dV_timesHeld_37 ⟨rfl, rfl⟩
theorem dR_kindOf_0 : decode bR_kindOf 0 = .ok (.iload_n 0, 1) := by decide +kernel
theorem dR_kindOf_1 : decode bR_kindOf 1 = .ok (.tableswitch 95 99 115 #[85, 95, 95, 95, 93, 95, 95, 95, 87, 89, 95, 95, 95, 83, 95, 95, 91], 83) := by decide +kernel
theorem dR_kindOf_84 : decode bR_kindOf 84 = .ok (.iconst 0, 1) := by decide +kernel
theorem dR_kindOf_85 : decode bR_kindOf 85 = .ok (.ireturn, 1) := by decide +kernel
theorem dR_kindOf_86 : decode bR_kindOf 86 = .ok (.iconst 1, 1) := by decide +kernel
theorem dR_kindOf_87 : decode bR_kindOf 87 = .ok (.ireturn, 1) := by decide +kernel
theorem dR_kindOf_88 : decode bR_kindOf 88 = .ok (.iconst 2, 1) := by decide +kernel
theorem dR_kindOf_89 : decode bR_kindOf 89 = .ok (.ireturn, 1) := by decide +kernel
theorem dR_kindOf_90 : decode bR_kindOf 90 = .ok (.iconst 3, 1) := by decide +kernel
theorem dR_kindOf_91 : decode bR_kindOf 91 = .ok (.ireturn, 1) := by decide +kernel
theorem dR_kindOf_92 : decode bR_kindOf 92 = .ok (.iconst 4, 1) := by decide +kernel
theorem dR_kindOf_93 : decode bR_kindOf 93 = .ok (.ireturn, 1) := by decide +kernel
theorem dR_kindOf_94 : decode bR_kindOf 94 = .ok (.iconst 5, 1) := by decide +kernel
theorem dR_kindOf_95 : decode bR_kindOf 95 = .ok (.ireturn, 1) := by decide +kernel
theorem dR_kindOf_96 : decode bR_kindOf 96 = .ok (.bipush (-9), 2) := by decide +kernel
theorem dR_kindOf_98 : decode bR_kindOf 98 = .ok (.ireturn, 1) := by decide +kernel
def f_R_kindOf (n : Nat) (x1 : Int32) (s : mb_T) : Option (Int32 × mb_T) := if x1 = 99 then some (1, s) else if x1 = 100 then some ((-9), s) else if x1 = 101 then some ((-9), s) else if x1 = 102 then some ((-9), s) else if x1 = 103 then some (5, s) else if x1 = 104 then some ((-9), s) else if x1 = 105 then some ((-9), s) else if x1 = 106 then some ((-9), s) else if x1 = 107 then some (2, s) else if x1 = 108 then some (3, s) else if x1 = 109 then some ((-9), s) else if x1 = 110 then some ((-9), s) else if x1 = 111 then some ((-9), s) else if x1 = 112 then some (0, s) else if x1 = 113 then some ((-9), s) else if x1 = 114 then some ((-9), s) else if x1 = 115 then some (4, s) else some ((-9), s)
set_option maxHeartbeats 4000000 in
set_option maxRecDepth 100000 in
theorem t_R_kindOf {dd n : Nat} {x1 : Int32} {s : mb_T} {out : Int32 × mb_T}  (h : f_R_kindOf n x1 s = some out) : mb_MC (dd + 1) yR_kindOf bR_kindOf 1 (some .int) [.int x1] s (some (.int out.1)) out.2 := by
  unfold f_R_kindOf at h
  refine mj_mc (lv := [.int x1]) mR_kindOf rfl rfl (Nat.le_of_ble_eq_true rfl) (fun K hK hR => ?_)
  have hK : mj_C (dd + 1) 0 0 RR_c "kindOf" bR_kindOf 1 K := hK
  refine ro_iload_n hK dR_kindOf_0 rfl ?_
  by_cases c_1 : x1 = 99
  · replace h := mb_ift c_1 h
    refine ro_tabIn (off := 85) (tgt := 86) hK dR_kindOf_1 (by rw [c_1]; decide) (by rw [c_1]; decide) (by rw [c_1]; decide) (by decide) ?_
    refine ro_iconst (x := 1) hK (by decide) dR_kindOf_86 ?_
    cases h
    exact hR.1 0 0 87 _ _ _ _ rfl rfl dR_kindOf_87 ⟨rfl, rfl⟩
  · replace h := mb_iff c_1 h
    by_cases c_2 : x1 = 100
    · replace h := mb_ift c_2 h
      refine ro_tabIn (off := 95) (tgt := 96) hK dR_kindOf_1 (by rw [c_2]; decide) (by rw [c_2]; decide) (by rw [c_2]; decide) (by decide) ?_
      refine ro_bipush (x := (-9)) hK (by decide) dR_kindOf_96 ?_
      cases h
      exact hR.1 0 0 98 _ _ _ _ rfl rfl dR_kindOf_98 ⟨rfl, rfl⟩
    · replace h := mb_iff c_2 h
      by_cases c_3 : x1 = 101
      · replace h := mb_ift c_3 h
        refine ro_tabIn (off := 95) (tgt := 96) hK dR_kindOf_1 (by rw [c_3]; decide) (by rw [c_3]; decide) (by rw [c_3]; decide) (by decide) ?_
        refine ro_bipush (x := (-9)) hK (by decide) dR_kindOf_96 ?_
        cases h
        exact hR.1 0 0 98 _ _ _ _ rfl rfl dR_kindOf_98 ⟨rfl, rfl⟩
      · replace h := mb_iff c_3 h
        by_cases c_4 : x1 = 102
        · replace h := mb_ift c_4 h
          refine ro_tabIn (off := 95) (tgt := 96) hK dR_kindOf_1 (by rw [c_4]; decide) (by rw [c_4]; decide) (by rw [c_4]; decide) (by decide) ?_
          refine ro_bipush (x := (-9)) hK (by decide) dR_kindOf_96 ?_
          cases h
          exact hR.1 0 0 98 _ _ _ _ rfl rfl dR_kindOf_98 ⟨rfl, rfl⟩
        · replace h := mb_iff c_4 h
          by_cases c_5 : x1 = 103
          · replace h := mb_ift c_5 h
            refine ro_tabIn (off := 93) (tgt := 94) hK dR_kindOf_1 (by rw [c_5]; decide) (by rw [c_5]; decide) (by rw [c_5]; decide) (by decide) ?_
            refine ro_iconst (x := 5) hK (by decide) dR_kindOf_94 ?_
            cases h
            exact hR.1 0 0 95 _ _ _ _ rfl rfl dR_kindOf_95 ⟨rfl, rfl⟩
          · replace h := mb_iff c_5 h
            by_cases c_6 : x1 = 104
            · replace h := mb_ift c_6 h
              refine ro_tabIn (off := 95) (tgt := 96) hK dR_kindOf_1 (by rw [c_6]; decide) (by rw [c_6]; decide) (by rw [c_6]; decide) (by decide) ?_
              refine ro_bipush (x := (-9)) hK (by decide) dR_kindOf_96 ?_
              cases h
              exact hR.1 0 0 98 _ _ _ _ rfl rfl dR_kindOf_98 ⟨rfl, rfl⟩
            · replace h := mb_iff c_6 h
              by_cases c_7 : x1 = 105
              · replace h := mb_ift c_7 h
                refine ro_tabIn (off := 95) (tgt := 96) hK dR_kindOf_1 (by rw [c_7]; decide) (by rw [c_7]; decide) (by rw [c_7]; decide) (by decide) ?_
                refine ro_bipush (x := (-9)) hK (by decide) dR_kindOf_96 ?_
                cases h
                exact hR.1 0 0 98 _ _ _ _ rfl rfl dR_kindOf_98 ⟨rfl, rfl⟩
              · replace h := mb_iff c_7 h
                by_cases c_8 : x1 = 106
                · replace h := mb_ift c_8 h
                  refine ro_tabIn (off := 95) (tgt := 96) hK dR_kindOf_1 (by rw [c_8]; decide) (by rw [c_8]; decide) (by rw [c_8]; decide) (by decide) ?_
                  refine ro_bipush (x := (-9)) hK (by decide) dR_kindOf_96 ?_
                  cases h
                  exact hR.1 0 0 98 _ _ _ _ rfl rfl dR_kindOf_98 ⟨rfl, rfl⟩
                · replace h := mb_iff c_8 h
                  by_cases c_9 : x1 = 107
                  · replace h := mb_ift c_9 h
                    refine ro_tabIn (off := 87) (tgt := 88) hK dR_kindOf_1 (by rw [c_9]; decide) (by rw [c_9]; decide) (by rw [c_9]; decide) (by decide) ?_
                    refine ro_iconst (x := 2) hK (by decide) dR_kindOf_88 ?_
                    cases h
                    exact hR.1 0 0 89 _ _ _ _ rfl rfl dR_kindOf_89 ⟨rfl, rfl⟩
                  · replace h := mb_iff c_9 h
                    by_cases c_10 : x1 = 108
                    · replace h := mb_ift c_10 h
                      refine ro_tabIn (off := 89) (tgt := 90) hK dR_kindOf_1 (by rw [c_10]; decide) (by rw [c_10]; decide) (by rw [c_10]; decide) (by decide) ?_
                      refine ro_iconst (x := 3) hK (by decide) dR_kindOf_90 ?_
                      cases h
                      exact hR.1 0 0 91 _ _ _ _ rfl rfl dR_kindOf_91 ⟨rfl, rfl⟩
                    · replace h := mb_iff c_10 h
                      by_cases c_11 : x1 = 109
                      · replace h := mb_ift c_11 h
                        refine ro_tabIn (off := 95) (tgt := 96) hK dR_kindOf_1 (by rw [c_11]; decide) (by rw [c_11]; decide) (by rw [c_11]; decide) (by decide) ?_
                        refine ro_bipush (x := (-9)) hK (by decide) dR_kindOf_96 ?_
                        cases h
                        exact hR.1 0 0 98 _ _ _ _ rfl rfl dR_kindOf_98 ⟨rfl, rfl⟩
                      · replace h := mb_iff c_11 h
                        by_cases c_12 : x1 = 110
                        · replace h := mb_ift c_12 h
                          refine ro_tabIn (off := 95) (tgt := 96) hK dR_kindOf_1 (by rw [c_12]; decide) (by rw [c_12]; decide) (by rw [c_12]; decide) (by decide) ?_
                          refine ro_bipush (x := (-9)) hK (by decide) dR_kindOf_96 ?_
                          cases h
                          exact hR.1 0 0 98 _ _ _ _ rfl rfl dR_kindOf_98 ⟨rfl, rfl⟩
                        · replace h := mb_iff c_12 h
                          by_cases c_13 : x1 = 111
                          · replace h := mb_ift c_13 h
                            refine ro_tabIn (off := 95) (tgt := 96) hK dR_kindOf_1 (by rw [c_13]; decide) (by rw [c_13]; decide) (by rw [c_13]; decide) (by decide) ?_
                            refine ro_bipush (x := (-9)) hK (by decide) dR_kindOf_96 ?_
                            cases h
                            exact hR.1 0 0 98 _ _ _ _ rfl rfl dR_kindOf_98 ⟨rfl, rfl⟩
                          · replace h := mb_iff c_13 h
                            by_cases c_14 : x1 = 112
                            · replace h := mb_ift c_14 h
                              refine ro_tabIn (off := 83) (tgt := 84) hK dR_kindOf_1 (by rw [c_14]; decide) (by rw [c_14]; decide) (by rw [c_14]; decide) (by decide) ?_
                              refine ro_iconst (x := 0) hK (by decide) dR_kindOf_84 ?_
                              cases h
                              exact hR.1 0 0 85 _ _ _ _ rfl rfl dR_kindOf_85 ⟨rfl, rfl⟩
                            · replace h := mb_iff c_14 h
                              by_cases c_15 : x1 = 113
                              · replace h := mb_ift c_15 h
                                refine ro_tabIn (off := 95) (tgt := 96) hK dR_kindOf_1 (by rw [c_15]; decide) (by rw [c_15]; decide) (by rw [c_15]; decide) (by decide) ?_
                                refine ro_bipush (x := (-9)) hK (by decide) dR_kindOf_96 ?_
                                cases h
                                exact hR.1 0 0 98 _ _ _ _ rfl rfl dR_kindOf_98 ⟨rfl, rfl⟩
                              · replace h := mb_iff c_15 h
                                by_cases c_16 : x1 = 114
                                · replace h := mb_ift c_16 h
                                  refine ro_tabIn (off := 95) (tgt := 96) hK dR_kindOf_1 (by rw [c_16]; decide) (by rw [c_16]; decide) (by rw [c_16]; decide) (by decide) ?_
                                  refine ro_bipush (x := (-9)) hK (by decide) dR_kindOf_96 ?_
                                  cases h
                                  exact hR.1 0 0 98 _ _ _ _ rfl rfl dR_kindOf_98 ⟨rfl, rfl⟩
                                · replace h := mb_iff c_16 h
                                  by_cases c_17 : x1 = 115
                                  · replace h := mb_ift c_17 h
                                    refine ro_tabIn (off := 91) (tgt := 92) hK dR_kindOf_1 (by rw [c_17]; decide) (by rw [c_17]; decide) (by rw [c_17]; decide) (by decide) ?_
                                    refine ro_iconst (x := 4) hK (by decide) dR_kindOf_92 ?_
                                    cases h
                                    exact hR.1 0 0 93 _ _ _ _ rfl rfl dR_kindOf_93 ⟨rfl, rfl⟩
                                  · replace h := mb_iff c_17 h
                                    have hz : Int32.toInt x1 < 99 ∨ 115 < Int32.toInt x1 := by
                                      rcases Int.lt_or_le (Int32.toInt x1) 99 with hz | hz
                                      · exact Or.inl hz
                                      · rcases Int.lt_or_le 115 (Int32.toInt x1) with hw | hw
                                        · exact Or.inr hw
                                        · exfalso
                                          have ho : Int32.toInt x1 = 99 ∨ Int32.toInt x1 = 100 ∨ Int32.toInt x1 = 101 ∨ Int32.toInt x1 = 102 ∨ Int32.toInt x1 = 103 ∨ Int32.toInt x1 = 104 ∨ Int32.toInt x1 = 105 ∨ Int32.toInt x1 = 106 ∨ Int32.toInt x1 = 107 ∨ Int32.toInt x1 = 108 ∨ Int32.toInt x1 = 109 ∨ Int32.toInt x1 = 110 ∨ Int32.toInt x1 = 111 ∨ Int32.toInt x1 = 112 ∨ Int32.toInt x1 = 113 ∨ Int32.toInt x1 = 114 ∨ Int32.toInt x1 = 115 := by omega
                                          rcases ho with ho | ho | ho | ho | ho | ho | ho | ho | ho | ho | ho | ho | ho | ho | ho | ho | ho
                                          · exact c_1 (Int32.toInt_inj.mp (by rw [ho]; decide))
                                          · exact c_2 (Int32.toInt_inj.mp (by rw [ho]; decide))
                                          · exact c_3 (Int32.toInt_inj.mp (by rw [ho]; decide))
                                          · exact c_4 (Int32.toInt_inj.mp (by rw [ho]; decide))
                                          · exact c_5 (Int32.toInt_inj.mp (by rw [ho]; decide))
                                          · exact c_6 (Int32.toInt_inj.mp (by rw [ho]; decide))
                                          · exact c_7 (Int32.toInt_inj.mp (by rw [ho]; decide))
                                          · exact c_8 (Int32.toInt_inj.mp (by rw [ho]; decide))
                                          · exact c_9 (Int32.toInt_inj.mp (by rw [ho]; decide))
                                          · exact c_10 (Int32.toInt_inj.mp (by rw [ho]; decide))
                                          · exact c_11 (Int32.toInt_inj.mp (by rw [ho]; decide))
                                          · exact c_12 (Int32.toInt_inj.mp (by rw [ho]; decide))
                                          · exact c_13 (Int32.toInt_inj.mp (by rw [ho]; decide))
                                          · exact c_14 (Int32.toInt_inj.mp (by rw [ho]; decide))
                                          · exact c_15 (Int32.toInt_inj.mp (by rw [ho]; decide))
                                          · exact c_16 (Int32.toInt_inj.mp (by rw [ho]; decide))
                                          · exact c_17 (Int32.toInt_inj.mp (by rw [ho]; decide))
                                    refine ro_tabOut (tgt := 96) hK dR_kindOf_1 hz (by decide) ?_
                                    refine ro_bipush (x := (-9)) hK (by decide) dR_kindOf_96 ?_
                                    cases h
                                    exact hR.1 0 0 98 _ _ _ _ rfl rfl dR_kindOf_98 ⟨rfl, rfl⟩
theorem dR_sign_0 : decode bR_sign 0 = .ok (.aload_n 0, 1) := by decide +kernel
theorem dR_sign_1 : decode bR_sign 1 = .ok (.getfield 25, 3) := by decide +kernel
theorem dR_sign_4 : decode bR_sign 4 = .ok (.aload_n 0, 1) := by decide +kernel
theorem dR_sign_5 : decode bR_sign 5 = .ok (.getfield 21, 3) := by decide +kernel
theorem dR_sign_8 : decode bR_sign 8 = .ok (.if_icmp .ge 15, 3) := by decide +kernel
theorem dR_sign_11 : decode bR_sign 11 = .ok (.aload_n 0, 1) := by decide +kernel
theorem dR_sign_12 : decode bR_sign 12 = .ok (.getfield 9, 3) := by decide +kernel
theorem dR_sign_15 : decode bR_sign 15 = .ok (.aload_n 0, 1) := by decide +kernel
theorem dR_sign_16 : decode bR_sign 16 = .ok (.getfield 25, 3) := by decide +kernel
theorem dR_sign_19 : decode bR_sign 19 = .ok (.baload, 1) := by decide +kernel
theorem dR_sign_20 : decode bR_sign 20 = .ok (.goto 6, 3) := by decide +kernel
theorem dR_sign_23 : decode bR_sign 23 = .ok (.sipush 1000, 3) := by decide +kernel
theorem dR_sign_26 : decode bR_sign 26 = .ok (.ireturn, 1) := by decide +kernel
def f_R_sign (n : Nat)  (s : mb_T) : Option (Int32 × mb_T) := if (s.1 36 1) ≤ (s.1 36 2) then some (1000, s) else mb_rd s (mb_sg (s.2.2.2.1 36)) (mb_sn (s.2.2.2.1 36)) (s.1 36 2) fun x_2 => some (x_2, s)
set_option maxHeartbeats 4000000 in
set_option maxRecDepth 100000 in
theorem t_R_sign {dd n : Nat}  {s : mb_T} {out : Int32 × mb_T}  (h : f_R_sign n  s = some out) : mb_MC (dd + 1) yR_sign bR_sign 1 (some .int) [.ref 36] s (some (.int out.1)) out.2 := by
  unfold f_R_sign at h
  refine mj_mc (lv := [.ref 36]) mR_sign rfl rfl (Nat.le_of_ble_eq_true rfl) (fun K hK hR => ?_)
  have hK : mj_C (dd + 1) 0 0 RR_c "sign" bR_sign 1 K := hK
  refine ro_aload_n hK dR_sign_0 rfl ?_
  refine rb_get hK fR_25 mb_oR rfl dR_sign_1 ?_
  refine ro_aload_n hK dR_sign_4 rfl ?_
  refine rb_get hK fR_21 mb_oR rfl dR_sign_5 ?_
  refine ro_icmp_ge (tgt := 23) hK dR_sign_8 (by decide) (fun c_1 => ?_) (fun c_1 => ?_)
  · replace h := mb_ift c_1 h
    refine ro_sipush (x := 1000) hK (by decide) dR_sign_23 ?_
    cases h
    exact hR.1 0 0 26 _ _ _ _ rfl rfl dR_sign_26 ⟨rfl, rfl⟩
  · replace h := mb_iff c_1 h
    refine ro_aload_n hK dR_sign_11 rfl ?_
    refine rb_get hK fR_9 mb_oR rfl dR_sign_12 ?_
    refine ro_aload_n hK dR_sign_15 rfl ?_
    refine rb_get hK fR_25 mb_oR rfl dR_sign_16 ?_
    obtain ⟨x_2, e_3, i_4, h⟩ := mb_rd_e h
    refine rb_bald hK (mb_sgb _) i_4 e_3 dR_sign_19 ?_
    refine ro_goto (tgt := 26) hK dR_sign_20 (by decide) ?_
    cases h
    exact hR.1 0 0 26 _ _ _ _ rfl rfl dR_sign_26 ⟨rfl, rfl⟩
theorem dR_skipBlanks_0 : decode bR_skipBlanks 0 = .ok (.aload_n 0, 1) := by decide +kernel
theorem dR_skipBlanks_1 : decode bR_skipBlanks 1 = .ok (.getfield 25, 3) := by decide +kernel
theorem dR_skipBlanks_4 : decode bR_skipBlanks 4 = .ok (.aload_n 0, 1) := by decide +kernel
theorem dR_skipBlanks_5 : decode bR_skipBlanks 5 = .ok (.getfield 21, 3) := by decide +kernel
theorem dR_skipBlanks_8 : decode bR_skipBlanks 8 = .ok (.if_icmp .ge 30, 3) := by decide +kernel
theorem dR_skipBlanks_11 : decode bR_skipBlanks 11 = .ok (.aload_n 0, 1) := by decide +kernel
theorem dR_skipBlanks_12 : decode bR_skipBlanks 12 = .ok (.getfield 9, 3) := by decide +kernel
theorem dR_skipBlanks_15 : decode bR_skipBlanks 15 = .ok (.aload_n 0, 1) := by decide +kernel
theorem dR_skipBlanks_16 : decode bR_skipBlanks 16 = .ok (.getfield 25, 3) := by decide +kernel
theorem dR_skipBlanks_19 : decode bR_skipBlanks 19 = .ok (.baload, 1) := by decide +kernel
theorem dR_skipBlanks_20 : decode bR_skipBlanks 20 = .ok (.bipush 32, 2) := by decide +kernel
theorem dR_skipBlanks_22 : decode bR_skipBlanks 22 = .ok (.if_icmp .ne 16, 3) := by decide +kernel
theorem dR_skipBlanks_25 : decode bR_skipBlanks 25 = .ok (.aload_n 0, 1) := by decide +kernel
theorem dR_skipBlanks_26 : decode bR_skipBlanks 26 = .ok (.dup, 1) := by decide +kernel
theorem dR_skipBlanks_27 : decode bR_skipBlanks 27 = .ok (.getfield 25, 3) := by decide +kernel
theorem dR_skipBlanks_30 : decode bR_skipBlanks 30 = .ok (.iconst 1, 1) := by decide +kernel
theorem dR_skipBlanks_31 : decode bR_skipBlanks 31 = .ok (.iadd, 1) := by decide +kernel
theorem dR_skipBlanks_32 : decode bR_skipBlanks 32 = .ok (.putfield 25, 3) := by decide +kernel
theorem dR_skipBlanks_35 : decode bR_skipBlanks 35 = .ok (.goto (-35), 3) := by decide +kernel
theorem dR_skipBlanks_38 : decode bR_skipBlanks 38 = .ok (.return_, 1) := by decide +kernel
def f_R_skipBlanks_0 (n : Nat) (k0 : mb_T → Option (mb_T))  : Nat → mb_T → Option (mb_T)
  | 0, _ => none
  | f + 1, s => if (s.1 36 1) ≤ (s.1 36 2) then k0 s else mb_rd s (mb_sg (s.2.2.2.1 36)) (mb_sn (s.2.2.2.1 36)) (s.1 36 2) fun x_2 => if x_2 = 32 then (mb_bd (sF s 36 2 ((s.1 36 2) + 1)) fun s_6 => f_R_skipBlanks_0 n k0 f s_6) else k0 s
def f_R_skipBlanks (n : Nat)  (s : mb_T) : Option (mb_T) := f_R_skipBlanks_0 n (fun s_8 => some s_8) n s
set_option maxHeartbeats 4000000 in
set_option maxRecDepth 100000 in
theorem tl_R_skipBlanks_0 {dd n : Nat} {K : mj_KT} {out : mb_T} (hK : mj_C (dd + 1) 0 0 RR_c "skipBlanks" bR_skipBlanks 1 K) (hR : mj_R bR_skipBlanks none (fun r2 S2 => r2 = none ∧ S2 = mb_s out) K) {k0 : mb_T → Option (mb_T)}  (hk0 : ∀ (s : mb_T), k0 s = some out → K 0 0 38 [.ref 36] [] (mb_s s)) : ∀ (f : Nat) (s : mb_T), f_R_skipBlanks_0 n k0 f s = some out → K 0 0 0 [.ref 36] [] (mb_s s) := by
  intro f
  induction f with
  | zero =>
    intro  s h
    cases h
  | succ f ih =>
    intro  s h
    rw [f_R_skipBlanks_0] at h
    refine ro_aload_n hK dR_skipBlanks_0 rfl ?_
    refine rb_get hK fR_25 mb_oR rfl dR_skipBlanks_1 ?_
    refine ro_aload_n hK dR_skipBlanks_4 rfl ?_
    refine rb_get hK fR_21 mb_oR rfl dR_skipBlanks_5 ?_
    refine ro_icmp_ge (tgt := 38) hK dR_skipBlanks_8 (by decide) (fun c_1 => ?_) (fun c_1 => ?_)
    · replace h := mb_ift c_1 h
      refine ro_fg (lv' := [.ref 36]) hK ⟨Or.inr rfl, trivial⟩ ?_
      exact hk0 _ h
    · replace h := mb_iff c_1 h
      refine ro_aload_n hK dR_skipBlanks_11 rfl ?_
      refine rb_get hK fR_9 mb_oR rfl dR_skipBlanks_12 ?_
      refine ro_aload_n hK dR_skipBlanks_15 rfl ?_
      refine rb_get hK fR_25 mb_oR rfl dR_skipBlanks_16 ?_
      obtain ⟨x_2, e_3, i_4, h⟩ := mb_rd_e h
      refine rb_bald hK (mb_sgb _) i_4 e_3 dR_skipBlanks_19 ?_
      refine ro_bipush (x := 32) hK (by decide) dR_skipBlanks_20 ?_
      refine ro_icmp_ne (tgt := 38) hK dR_skipBlanks_22 (by decide) (fun c_5 => ?_) (fun c_5 => ?_)
      · replace h := mb_iff c_5 h
        refine ro_fg (lv' := [.ref 36]) hK ⟨Or.inr rfl, trivial⟩ ?_
        exact hk0 _ h
      · replace h := mb_ift c_5 h
        refine ro_aload_n hK dR_skipBlanks_25 rfl ?_
        refine ro_dup hK dR_skipBlanks_26 rfl ?_
        refine rb_get hK fR_25 mb_oR rfl dR_skipBlanks_27 ?_
        refine ro_iconst (x := 1) hK (by decide) dR_skipBlanks_30 ?_
        refine ro_iadd hK dR_skipBlanks_31 ?_
        obtain ⟨s_6, e_7, h⟩ := mb_bd_e h
        refine rb_put hK gR_25 mb_oR rfl (by show 2 < 4; decide) rfl rfl e_7 dR_skipBlanks_32 ?_
        refine ro_goto (tgt := 0) hK dR_skipBlanks_35 (by decide) ?_
        refine ro_fg (lv' := [.ref 36]) hK ⟨Or.inr rfl, trivial⟩ ?_
        exact ih _ h
set_option maxHeartbeats 4000000 in
set_option maxRecDepth 100000 in
theorem t_R_skipBlanks {dd n : Nat}  {s : mb_T} {out : mb_T}  (h : f_R_skipBlanks n  s = some out) : mb_MC (dd + 1) yR_skipBlanks bR_skipBlanks 1 none [.ref 36] s none out := by
  unfold f_R_skipBlanks at h
  refine mj_mc (lv := [.ref 36]) mR_skipBlanks rfl rfl (Nat.le_of_ble_eq_true rfl) (fun K hK hR => ?_)
  have hK : mj_C (dd + 1) 0 0 RR_c "skipBlanks" bR_skipBlanks 1 K := hK
  refine ro_fg (lv' := [.ref 36]) hK ⟨Or.inr rfl, trivial⟩ ?_
  refine tl_R_skipBlanks_0 (dd := dd) hK hR (fun s_8 h => ?_) n _ h
  cases h
  exact hR.2.2 0 0 38 _ _ rfl dR_skipBlanks_38 ⟨rfl, rfl⟩
