theorem dC_nextSeating_0 : decode bC_nextSeating 0 = .ok (.aload_n 0, 1) := by decide +kernel
theorem dC_nextSeating_1 : decode bC_nextSeating 1 = .ok (.getfield 29, 3) := by decide +kernel
theorem dC_nextSeating_4 : decode bC_nextSeating 4 = .ok (.getfield 128, 3) := by decide +kernel
theorem dC_nextSeating_7 : decode bC_nextSeating 7 = .ok (.iconst 2, 1) := by decide +kernel
theorem dC_nextSeating_8 : decode bC_nextSeating 8 = .ok (.isub, 1) := by decide +kernel
theorem dC_nextSeating_9 : decode bC_nextSeating 9 = .ok (.istore_n 1, 1) := by decide +kernel
theorem dC_nextSeating_10 : decode bC_nextSeating 10 = .ok (.iload_n 1, 1) := by decide +kernel
theorem dC_nextSeating_11 : decode bC_nextSeating 11 = .ok (.ifCond .lt 26, 3) := by decide +kernel
theorem dC_nextSeating_14 : decode bC_nextSeating 14 = .ok (.aload_n 0, 1) := by decide +kernel
theorem dC_nextSeating_15 : decode bC_nextSeating 15 = .ok (.getfield 61, 3) := by decide +kernel
theorem dC_nextSeating_18 : decode bC_nextSeating 18 = .ok (.iload_n 1, 1) := by decide +kernel
theorem dC_nextSeating_19 : decode bC_nextSeating 19 = .ok (.iaload, 1) := by decide +kernel
theorem dC_nextSeating_20 : decode bC_nextSeating 20 = .ok (.aload_n 0, 1) := by decide +kernel
theorem dC_nextSeating_21 : decode bC_nextSeating 21 = .ok (.getfield 61, 3) := by decide +kernel
theorem dC_nextSeating_24 : decode bC_nextSeating 24 = .ok (.iload_n 1, 1) := by decide +kernel
theorem dC_nextSeating_25 : decode bC_nextSeating 25 = .ok (.iconst 1, 1) := by decide +kernel
theorem dC_nextSeating_26 : decode bC_nextSeating 26 = .ok (.iadd, 1) := by decide +kernel
theorem dC_nextSeating_27 : decode bC_nextSeating 27 = .ok (.iaload, 1) := by decide +kernel
theorem dC_nextSeating_28 : decode bC_nextSeating 28 = .ok (.if_icmp .le 9, 3) := by decide +kernel
theorem dC_nextSeating_31 : decode bC_nextSeating 31 = .ok (.iinc 1 (-1), 3) := by decide +kernel
theorem dC_nextSeating_34 : decode bC_nextSeating 34 = .ok (.goto (-24), 3) := by decide +kernel
theorem dC_nextSeating_37 : decode bC_nextSeating 37 = .ok (.iload_n 1, 1) := by decide +kernel
theorem dC_nextSeating_38 : decode bC_nextSeating 38 = .ok (.ifCond .ge 5, 3) := by decide +kernel
theorem dC_nextSeating_41 : decode bC_nextSeating 41 = .ok (.iconst 0, 1) := by decide +kernel
theorem dC_nextSeating_42 : decode bC_nextSeating 42 = .ok (.ireturn, 1) := by decide +kernel
theorem dC_nextSeating_43 : decode bC_nextSeating 43 = .ok (.aload_n 0, 1) := by decide +kernel
theorem dC_nextSeating_44 : decode bC_nextSeating 44 = .ok (.getfield 29, 3) := by decide +kernel
theorem dC_nextSeating_47 : decode bC_nextSeating 47 = .ok (.getfield 128, 3) := by decide +kernel
theorem dC_nextSeating_50 : decode bC_nextSeating 50 = .ok (.iconst 1, 1) := by decide +kernel
theorem dC_nextSeating_51 : decode bC_nextSeating 51 = .ok (.isub, 1) := by decide +kernel
theorem dC_nextSeating_52 : decode bC_nextSeating 52 = .ok (.istore_n 2, 1) := by decide +kernel
theorem dC_nextSeating_53 : decode bC_nextSeating 53 = .ok (.iload_n 2, 1) := by decide +kernel
theorem dC_nextSeating_54 : decode bC_nextSeating 54 = .ok (.iload_n 1, 1) := by decide +kernel
theorem dC_nextSeating_55 : decode bC_nextSeating 55 = .ok (.if_icmp .le 24, 3) := by decide +kernel
theorem dC_nextSeating_58 : decode bC_nextSeating 58 = .ok (.aload_n 0, 1) := by decide +kernel
theorem dC_nextSeating_59 : decode bC_nextSeating 59 = .ok (.getfield 61, 3) := by decide +kernel
theorem dC_nextSeating_62 : decode bC_nextSeating 62 = .ok (.iload_n 2, 1) := by decide +kernel
theorem dC_nextSeating_63 : decode bC_nextSeating 63 = .ok (.iaload, 1) := by decide +kernel
theorem dC_nextSeating_64 : decode bC_nextSeating 64 = .ok (.aload_n 0, 1) := by decide +kernel
theorem dC_nextSeating_65 : decode bC_nextSeating 65 = .ok (.getfield 61, 3) := by decide +kernel
theorem dC_nextSeating_68 : decode bC_nextSeating 68 = .ok (.iload_n 1, 1) := by decide +kernel
theorem dC_nextSeating_69 : decode bC_nextSeating 69 = .ok (.iaload, 1) := by decide +kernel
theorem dC_nextSeating_70 : decode bC_nextSeating 70 = .ok (.if_icmp .ge 9, 3) := by decide +kernel
theorem dC_nextSeating_73 : decode bC_nextSeating 73 = .ok (.iinc 2 (-1), 3) := by decide +kernel
theorem dC_nextSeating_76 : decode bC_nextSeating 76 = .ok (.goto (-23), 3) := by decide +kernel
theorem dC_nextSeating_79 : decode bC_nextSeating 79 = .ok (.aload_n 0, 1) := by decide +kernel
theorem dC_nextSeating_80 : decode bC_nextSeating 80 = .ok (.iload_n 1, 1) := by decide +kernel
theorem dC_nextSeating_81 : decode bC_nextSeating 81 = .ok (.iload_n 2, 1) := by decide +kernel
theorem dC_nextSeating_82 : decode bC_nextSeating 82 = .ok (.invokevirtual 282, 3) := by decide +kernel
theorem dC_nextSeating_85 : decode bC_nextSeating 85 = .ok (.aload_n 0, 1) := by decide +kernel
theorem dC_nextSeating_86 : decode bC_nextSeating 86 = .ok (.getfield 29, 3) := by decide +kernel
theorem dC_nextSeating_89 : decode bC_nextSeating 89 = .ok (.getfield 128, 3) := by decide +kernel
theorem dC_nextSeating_92 : decode bC_nextSeating 92 = .ok (.iconst 1, 1) := by decide +kernel
theorem dC_nextSeating_93 : decode bC_nextSeating 93 = .ok (.isub, 1) := by decide +kernel
theorem dC_nextSeating_94 : decode bC_nextSeating 94 = .ok (.istore_n 3, 1) := by decide +kernel
theorem dC_nextSeating_95 : decode bC_nextSeating 95 = .ok (.iload_n 1, 1) := by decide +kernel
theorem dC_nextSeating_96 : decode bC_nextSeating 96 = .ok (.iconst 1, 1) := by decide +kernel
theorem dC_nextSeating_97 : decode bC_nextSeating 97 = .ok (.iadd, 1) := by decide +kernel
theorem dC_nextSeating_98 : decode bC_nextSeating 98 = .ok (.istore 4, 2) := by decide +kernel
theorem dC_nextSeating_100 : decode bC_nextSeating 100 = .ok (.iload 4, 2) := by decide +kernel
theorem dC_nextSeating_102 : decode bC_nextSeating 102 = .ok (.iload_n 3, 1) := by decide +kernel
theorem dC_nextSeating_103 : decode bC_nextSeating 103 = .ok (.if_icmp .ge 19, 3) := by decide +kernel
theorem dC_nextSeating_106 : decode bC_nextSeating 106 = .ok (.aload_n 0, 1) := by decide +kernel
theorem dC_nextSeating_107 : decode bC_nextSeating 107 = .ok (.iload 4, 2) := by decide +kernel
theorem dC_nextSeating_109 : decode bC_nextSeating 109 = .ok (.iload_n 3, 1) := by decide +kernel
theorem dC_nextSeating_110 : decode bC_nextSeating 110 = .ok (.invokevirtual 282, 3) := by decide +kernel
theorem dC_nextSeating_113 : decode bC_nextSeating 113 = .ok (.iinc 3 (-1), 3) := by decide +kernel
theorem dC_nextSeating_116 : decode bC_nextSeating 116 = .ok (.iinc 4 1, 3) := by decide +kernel
theorem dC_nextSeating_119 : decode bC_nextSeating 119 = .ok (.goto (-19), 3) := by decide +kernel
theorem dC_nextSeating_122 : decode bC_nextSeating 122 = .ok (.iconst 1, 1) := by decide +kernel
theorem dC_nextSeating_123 : decode bC_nextSeating 123 = .ok (.ireturn, 1) := by decide +kernel
def f_C_nextSeating_10 (n : Nat) (k0 : Int32 → mb_T → Option (Int32 × mb_T))  : Nat → Int32 → mb_T → Option (Int32 × mb_T)
  | 0, _, _ => none
  | f + 1, w1, s => if w1 < 0 then k0 w1 s else mb_rd s 10 5 w1 fun x_2 => mb_rd s 10 5 (w1 + 1) fun x_5 => if x_2 ≤ x_5 then k0 w1 s else f_C_nextSeating_10 n k0 f (w1 + (-1)) s
def f_C_nextSeating_53 (n : Nat) (k0 : Int32 → mb_T → Option (Int32 × mb_T)) (y1 : Int32) : Nat → Int32 → mb_T → Option (Int32 × mb_T)
  | 0, _, _ => none
  | f + 1, w2, s => if w2 ≤ y1 then k0 w2 s else mb_rd s 10 5 w2 fun x_13 => mb_rd s 10 5 y1 fun x_16 => if x_16 ≤ x_13 then k0 w2 s else f_C_nextSeating_53 n k0 y1 f (w2 + (-1)) s
def f_C_nextSeating_100 (n : Nat) (k0 : Int32 → Int32 → mb_T → Option (Int32 × mb_T))  : Nat → Int32 → Int32 → mb_T → Option (Int32 × mb_T)
  | 0, _, _, _ => none
  | f + 1, w3, w4, s => if w3 ≤ w4 then k0 w3 w4 s else mb_cw (f_C_exchangeSeats n w4 w3 s) fun s_25 => f_C_nextSeating_100 n k0 f (w3 + (-1)) (w4 + 1) s_25
def f_C_nextSeating (n : Nat)  (s : mb_T) : Option (Int32 × mb_T) := f_C_nextSeating_10 n (fun x_9 s_10 => if 0 ≤ x_9 then (f_C_nextSeating_53 n (fun x_20 s_21 => mb_cw (f_C_exchangeSeats n x_9 x_20 s_21) fun s_22 => f_C_nextSeating_100 n (fun x_27 x_28 s_29 => some (1, s_29)) n ((s_22.1 100 0) - 1) (x_9 + 1) s_22) x_9 n ((s_10.1 100 0) - 1) s_10) else some (0, s_10)) n ((s.1 100 0) - 2) s
set_option maxHeartbeats 4000000 in
set_option maxRecDepth 100000 in
theorem tl_C_nextSeating_10 {dd n : Nat} {K : mj_KT} {out : Int32 × mb_T} (hK : mj_C (dd + 2) 0 0 RC_c "nextSeating" bC_nextSeating 5 K) (hR : mj_R bC_nextSeating (some .boolean) (fun r2 S2 => r2 = some (.int out.1) ∧ S2 = mb_s out.2) K) {k0 : Int32 → mb_T → Option (Int32 × mb_T)}  (hk0 : ∀ (w1 : Int32) (s : mb_T), k0 w1 s = some out → K 0 0 37 [.ref 0, .int w1, .retAddr 0, .retAddr 0, .retAddr 0] [] (mb_s s)) : ∀ (f : Nat) (w1 : Int32) (s : mb_T), f_C_nextSeating_10 n k0 f w1 s = some out → K 0 0 10 [.ref 0, .int w1, .retAddr 0, .retAddr 0, .retAddr 0] [] (mb_s s) := by
  intro f
  induction f with
  | zero =>
    intro w1 s h
    cases h
  | succ f ih =>
    intro w1 s h
    rw [f_C_nextSeating_10] at h
    refine ro_iload_n hK dC_nextSeating_10 rfl ?_
    refine ro_if_lt (tgt := 37) hK dC_nextSeating_11 (by decide) (fun c_1 => ?_) (fun c_1 => ?_)
    · replace h := mb_ift c_1 h
      refine ro_fg (lv' := [.ref 0, .int w1, .retAddr 0, .retAddr 0, .retAddr 0]) hK ⟨Or.inr rfl, ⟨Or.inr rfl, ⟨Or.inl rfl, ⟨Or.inl rfl, ⟨Or.inl rfl, trivial⟩⟩⟩⟩⟩ ?_
      exact hk0 _ _ h
    · replace h := mb_iff c_1 h
      refine ro_aload_n hK dC_nextSeating_14 rfl ?_
      refine rb_get hK fC_61 mb_oC rfl dC_nextSeating_15 ?_
      refine ro_iload_n hK dC_nextSeating_18 rfl ?_
      obtain ⟨x_2, e_3, i_4, h⟩ := mb_rd_e h
      refine rb_iald hK ai_10 i_4 e_3 dC_nextSeating_19 ?_
      refine ro_aload_n hK dC_nextSeating_20 rfl ?_
      refine rb_get hK fC_61 mb_oC rfl dC_nextSeating_21 ?_
      refine ro_iload_n hK dC_nextSeating_24 rfl ?_
      refine ro_iconst (x := 1) hK (by decide) dC_nextSeating_25 ?_
      refine ro_iadd hK dC_nextSeating_26 ?_
      obtain ⟨x_5, e_6, i_7, h⟩ := mb_rd_e h
      refine rb_iald hK ai_10 i_7 e_6 dC_nextSeating_27 ?_
      refine ro_icmp_le (tgt := 37) hK dC_nextSeating_28 (by decide) (fun c_8 => ?_) (fun c_8 => ?_)
      · replace h := mb_ift c_8 h
        refine ro_fg (lv' := [.ref 0, .int w1, .retAddr 0, .retAddr 0, .retAddr 0]) hK ⟨Or.inr rfl, ⟨Or.inr rfl, ⟨Or.inl rfl, ⟨Or.inl rfl, ⟨Or.inl rfl, trivial⟩⟩⟩⟩⟩ ?_
        exact hk0 _ _ h
      · replace h := mb_iff c_8 h
        refine ro_iincv (c := (-1)) hK (by decide) dC_nextSeating_31 rfl (by decide) ?_
        show K 0 0 34 [.ref 0, .int (w1 + (-1)), .retAddr 0, .retAddr 0, .retAddr 0] [] (mb_s s)
        refine ro_goto (tgt := 10) hK dC_nextSeating_34 (by decide) ?_
        refine ro_fg (lv' := [.ref 0, .int (w1 + (-1)), .retAddr 0, .retAddr 0, .retAddr 0]) hK ⟨Or.inr rfl, ⟨Or.inr rfl, ⟨Or.inl rfl, ⟨Or.inl rfl, ⟨Or.inl rfl, trivial⟩⟩⟩⟩⟩ ?_
        exact ih _ _ h
set_option maxHeartbeats 4000000 in
set_option maxRecDepth 100000 in
theorem tl_C_nextSeating_53 {dd n : Nat} {K : mj_KT} {out : Int32 × mb_T} (hK : mj_C (dd + 2) 0 0 RC_c "nextSeating" bC_nextSeating 5 K) (hR : mj_R bC_nextSeating (some .boolean) (fun r2 S2 => r2 = some (.int out.1) ∧ S2 = mb_s out.2) K) {k0 : Int32 → mb_T → Option (Int32 × mb_T)} {y1 : Int32} (hk0 : ∀ (w2 : Int32) (s : mb_T), k0 w2 s = some out → K 0 0 79 [.ref 0, .int y1, .int w2, .retAddr 0, .retAddr 0] [] (mb_s s)) : ∀ (f : Nat) (w2 : Int32) (s : mb_T), f_C_nextSeating_53 n k0 y1 f w2 s = some out → K 0 0 53 [.ref 0, .int y1, .int w2, .retAddr 0, .retAddr 0] [] (mb_s s) := by
  intro f
  induction f with
  | zero =>
    intro w2 s h
    cases h
  | succ f ih =>
    intro w2 s h
    rw [f_C_nextSeating_53] at h
    refine ro_iload_n hK dC_nextSeating_53 rfl ?_
    refine ro_iload_n hK dC_nextSeating_54 rfl ?_
    refine ro_icmp_le (tgt := 79) hK dC_nextSeating_55 (by decide) (fun c_12 => ?_) (fun c_12 => ?_)
    · replace h := mb_ift c_12 h
      refine ro_fg (lv' := [.ref 0, .int y1, .int w2, .retAddr 0, .retAddr 0]) hK ⟨Or.inr rfl, ⟨Or.inr rfl, ⟨Or.inr rfl, ⟨Or.inl rfl, ⟨Or.inl rfl, trivial⟩⟩⟩⟩⟩ ?_
      exact hk0 _ _ h
    · replace h := mb_iff c_12 h
      refine ro_aload_n hK dC_nextSeating_58 rfl ?_
      refine rb_get hK fC_61 mb_oC rfl dC_nextSeating_59 ?_
      refine ro_iload_n hK dC_nextSeating_62 rfl ?_
      obtain ⟨x_13, e_14, i_15, h⟩ := mb_rd_e h
      refine rb_iald hK ai_10 i_15 e_14 dC_nextSeating_63 ?_
      refine ro_aload_n hK dC_nextSeating_64 rfl ?_
      refine rb_get hK fC_61 mb_oC rfl dC_nextSeating_65 ?_
      refine ro_iload_n hK dC_nextSeating_68 rfl ?_
      obtain ⟨x_16, e_17, i_18, h⟩ := mb_rd_e h
      refine rb_iald hK ai_10 i_18 e_17 dC_nextSeating_69 ?_
      refine ro_icmp_ge (tgt := 79) hK dC_nextSeating_70 (by decide) (fun c_19 => ?_) (fun c_19 => ?_)
      · replace h := mb_ift c_19 h
        refine ro_fg (lv' := [.ref 0, .int y1, .int w2, .retAddr 0, .retAddr 0]) hK ⟨Or.inr rfl, ⟨Or.inr rfl, ⟨Or.inr rfl, ⟨Or.inl rfl, ⟨Or.inl rfl, trivial⟩⟩⟩⟩⟩ ?_
        exact hk0 _ _ h
      · replace h := mb_iff c_19 h
        refine ro_iincv (c := (-1)) hK (by decide) dC_nextSeating_73 rfl (by decide) ?_
        show K 0 0 76 [.ref 0, .int y1, .int (w2 + (-1)), .retAddr 0, .retAddr 0] [] (mb_s s)
        refine ro_goto (tgt := 53) hK dC_nextSeating_76 (by decide) ?_
        refine ro_fg (lv' := [.ref 0, .int y1, .int (w2 + (-1)), .retAddr 0, .retAddr 0]) hK ⟨Or.inr rfl, ⟨Or.inr rfl, ⟨Or.inr rfl, ⟨Or.inl rfl, ⟨Or.inl rfl, trivial⟩⟩⟩⟩⟩ ?_
        exact ih _ _ h
set_option maxHeartbeats 4000000 in
set_option maxRecDepth 100000 in
theorem tl_C_nextSeating_100 {dd n : Nat} {K : mj_KT} {out : Int32 × mb_T} (hK : mj_C (dd + 2) 0 0 RC_c "nextSeating" bC_nextSeating 5 K) (hR : mj_R bC_nextSeating (some .boolean) (fun r2 S2 => r2 = some (.int out.1) ∧ S2 = mb_s out.2) K) {k0 : Int32 → Int32 → mb_T → Option (Int32 × mb_T)}  (hk0 : ∀ (w3 : Int32) (w4 : Int32) (s : mb_T), k0 w3 w4 s = some out → K 0 0 122 [.ref 0, .retAddr 0, .retAddr 0, .int w3, .int w4] [] (mb_s s)) : ∀ (f : Nat) (w3 : Int32) (w4 : Int32) (s : mb_T), f_C_nextSeating_100 n k0 f w3 w4 s = some out → K 0 0 100 [.ref 0, .retAddr 0, .retAddr 0, .int w3, .int w4] [] (mb_s s) := by
  intro f
  induction f with
  | zero =>
    intro w3 w4 s h
    cases h
  | succ f ih =>
    intro w3 w4 s h
    rw [f_C_nextSeating_100] at h
    refine ro_iload hK dC_nextSeating_100 rfl ?_
    refine ro_iload_n hK dC_nextSeating_102 rfl ?_
    refine ro_icmp_ge (tgt := 122) hK dC_nextSeating_103 (by decide) (fun c_24 => ?_) (fun c_24 => ?_)
    · replace h := mb_ift c_24 h
      refine ro_fg (lv' := [.ref 0, .retAddr 0, .retAddr 0, .int w3, .int w4]) hK ⟨Or.inr rfl, ⟨Or.inl rfl, ⟨Or.inl rfl, ⟨Or.inr rfl, ⟨Or.inr rfl, trivial⟩⟩⟩⟩⟩ ?_
      exact hk0 _ _ _ h
    · replace h := mb_iff c_24 h
      refine ro_aload_n hK dC_nextSeating_106 rfl ?_
      refine ro_iload hK dC_nextSeating_107 rfl ?_
      refine ro_iload_n hK dC_nextSeating_109 rfl ?_
      obtain ⟨s_25, q_26, h⟩ := mb_cw_e h
      refine rb_callV hK mC_exchangeSeats vC_282 (t_C_exchangeSeats (dd := dd + 0) q_26) rfl mb_oC rfl (Nat.le_of_ble_eq_true rfl) dC_nextSeating_110 rfl ⟨Nat.le_refl _, Nat.le_refl _⟩ ?_
      show K 0 0 113 [.ref 0, .retAddr 0, .retAddr 0, .int w3, .int w4] [] (mb_s s_25)
      refine ro_iincv (c := (-1)) hK (by decide) dC_nextSeating_113 rfl (by decide) ?_
      show K 0 0 116 [.ref 0, .retAddr 0, .retAddr 0, .int (w3 + (-1)), .int w4] [] (mb_s s_25)
      refine ro_iincv (c := 1) hK (by decide) dC_nextSeating_116 rfl (by decide) ?_
      show K 0 0 119 [.ref 0, .retAddr 0, .retAddr 0, .int (w3 + (-1)), .int (w4 + 1)] [] (mb_s s_25)
      refine ro_goto (tgt := 100) hK dC_nextSeating_119 (by decide) ?_
      refine ro_fg (lv' := [.ref 0, .retAddr 0, .retAddr 0, .int (w3 + (-1)), .int (w4 + 1)]) hK ⟨Or.inr rfl, ⟨Or.inl rfl, ⟨Or.inl rfl, ⟨Or.inr rfl, ⟨Or.inr rfl, trivial⟩⟩⟩⟩⟩ ?_
      exact ih _ _ _ h
set_option maxHeartbeats 4000000 in
set_option maxRecDepth 100000 in
theorem t_C_nextSeating {dd n : Nat}  {s : mb_T} {out : Int32 × mb_T}  (h : f_C_nextSeating n  s = some out) : mb_MC (dd + 2) yC_nextSeating bC_nextSeating 5 (some .boolean) [.ref 0] s (some (.int out.1)) out.2 := by
  unfold f_C_nextSeating at h
  refine mj_mc (lv := [.ref 0, .retAddr 0, .retAddr 0, .retAddr 0, .retAddr 0]) mC_nextSeating rfl rfl (Nat.le_of_ble_eq_true rfl) (fun K hK hR => ?_)
  have hK : mj_C (dd + 2) 0 0 RC_c "nextSeating" bC_nextSeating 5 K := hK
  refine ro_aload_n hK dC_nextSeating_0 rfl ?_
  refine rb_get hK fC_29 mb_oC rfl dC_nextSeating_1 ?_
  refine rb_get hK fC_128 (mb_cvo (Or.inl rfl)) rfl dC_nextSeating_4 ?_
  refine ro_iconst (x := 2) hK (by decide) dC_nextSeating_7 ?_
  refine ro_isub hK dC_nextSeating_8 ?_
  refine ro_istore_n hK dC_nextSeating_9 (by decide) ?_
  show K 0 0 10 [.ref 0, .int ((s.1 100 0) - 2), .retAddr 0, .retAddr 0, .retAddr 0] [] (mb_s s)
  refine ro_fg (lv' := [.ref 0, .int ((s.1 100 0) - 2), .retAddr 0, .retAddr 0, .retAddr 0]) hK ⟨Or.inr rfl, ⟨Or.inr rfl, ⟨Or.inl rfl, ⟨Or.inl rfl, ⟨Or.inl rfl, trivial⟩⟩⟩⟩⟩ ?_
  refine tl_C_nextSeating_10 (dd := dd) hK hR (fun x_9 s_10 h => ?_) n _ _ h
  refine ro_iload_n hK dC_nextSeating_37 rfl ?_
  refine ro_if_ge (tgt := 43) hK dC_nextSeating_38 (by decide) (fun c_11 => ?_) (fun c_11 => ?_)
  · replace h := mb_ift c_11 h
    refine ro_aload_n hK dC_nextSeating_43 rfl ?_
    refine rb_get hK fC_29 mb_oC rfl dC_nextSeating_44 ?_
    refine rb_get hK fC_128 (mb_cvo (Or.inl rfl)) rfl dC_nextSeating_47 ?_
    refine ro_iconst (x := 1) hK (by decide) dC_nextSeating_50 ?_
    refine ro_isub hK dC_nextSeating_51 ?_
    refine ro_istore_n hK dC_nextSeating_52 (by decide) ?_
    show K 0 0 53 [.ref 0, .int x_9, .int ((s_10.1 100 0) - 1), .retAddr 0, .retAddr 0] [] (mb_s s_10)
    refine ro_fg (lv' := [.ref 0, .int x_9, .int ((s_10.1 100 0) - 1), .retAddr 0, .retAddr 0]) hK ⟨Or.inr rfl, ⟨Or.inr rfl, ⟨Or.inr rfl, ⟨Or.inl rfl, ⟨Or.inl rfl, trivial⟩⟩⟩⟩⟩ ?_
    refine tl_C_nextSeating_53 (dd := dd) hK hR (fun x_20 s_21 h => ?_) n _ _ h
    refine ro_aload_n hK dC_nextSeating_79 rfl ?_
    refine ro_iload_n hK dC_nextSeating_80 rfl ?_
    refine ro_iload_n hK dC_nextSeating_81 rfl ?_
    obtain ⟨s_22, q_23, h⟩ := mb_cw_e h
    refine rb_callV hK mC_exchangeSeats vC_282 (t_C_exchangeSeats (dd := dd + 0) q_23) rfl mb_oC rfl (Nat.le_of_ble_eq_true rfl) dC_nextSeating_82 rfl ⟨Nat.le_refl _, Nat.le_refl _⟩ ?_
    show K 0 0 85 [.ref 0, .int x_9, .int x_20, .retAddr 0, .retAddr 0] [] (mb_s s_22)
    refine ro_aload_n hK dC_nextSeating_85 rfl ?_
    refine rb_get hK fC_29 mb_oC rfl dC_nextSeating_86 ?_
    refine rb_get hK fC_128 (mb_cvo (Or.inl rfl)) rfl dC_nextSeating_89 ?_
    refine ro_iconst (x := 1) hK (by decide) dC_nextSeating_92 ?_
    refine ro_isub hK dC_nextSeating_93 ?_
    refine ro_istore_n hK dC_nextSeating_94 (by decide) ?_
    show K 0 0 95 [.ref 0, .int x_9, .int x_20, .int ((s_22.1 100 0) - 1), .retAddr 0] [] (mb_s s_22)
    refine ro_iload_n hK dC_nextSeating_95 rfl ?_
    refine ro_iconst (x := 1) hK (by decide) dC_nextSeating_96 ?_
    refine ro_iadd hK dC_nextSeating_97 ?_
    refine ro_istore hK dC_nextSeating_98 (by decide) ?_
    show K 0 0 100 [.ref 0, .int x_9, .int x_20, .int ((s_22.1 100 0) - 1), .int (x_9 + 1)] [] (mb_s s_22)
    refine ro_fg (lv' := [.ref 0, .retAddr 0, .retAddr 0, .int ((s_22.1 100 0) - 1), .int (x_9 + 1)]) hK ⟨Or.inr rfl, ⟨Or.inl rfl, ⟨Or.inl rfl, ⟨Or.inr rfl, ⟨Or.inr rfl, trivial⟩⟩⟩⟩⟩ ?_
    refine tl_C_nextSeating_100 (dd := dd) hK hR (fun x_27 x_28 s_29 h => ?_) n _ _ _ h
    refine ro_iconst (x := 1) hK (by decide) dC_nextSeating_122 ?_
    cases h
    exact hR.1 0 0 123 _ _ _ _ rfl rfl dC_nextSeating_123 ⟨rfl, rfl⟩
  · replace h := mb_iff c_11 h
    refine ro_iconst (x := 0) hK (by decide) dC_nextSeating_41 ?_
    cases h
    exact hR.1 0 0 42 _ _ _ _ rfl rfl dC_nextSeating_42 ⟨rfl, rfl⟩
theorem dC_on_0 : decode bC_on 0 = .ok (.iload_n 1, 1) := by decide +kernel
theorem dC_on_1 : decode bC_on 1 = .ok (.invokestatic 222, 3) := by decide +kernel
theorem dC_on_4 : decode bC_on 4 = .ok (.ifCond .ne 5, 3) := by decide +kernel
theorem dC_on_7 : decode bC_on 7 = .ok (.iconst (-1), 1) := by decide +kernel
theorem dC_on_8 : decode bC_on 8 = .ok (.ireturn, 1) := by decide +kernel
theorem dC_on_9 : decode bC_on 9 = .ok (.aload_n 0, 1) := by decide +kernel
theorem dC_on_10 : decode bC_on 10 = .ok (.getfield 36, 3) := by decide +kernel
theorem dC_on_13 : decode bC_on 13 = .ok (.iload_n 1, 1) := by decide +kernel
theorem dC_on_14 : decode bC_on 14 = .ok (.aaload, 1) := by decide +kernel
theorem dC_on_15 : decode bC_on 15 = .ok (.astore_n 2, 1) := by decide +kernel
theorem dC_on_16 : decode bC_on 16 = .ok (.aload_n 2, 1) := by decide +kernel
theorem dC_on_17 : decode bC_on 17 = .ok (.ifnull 10, 3) := by decide +kernel
theorem dC_on_20 : decode bC_on 20 = .ok (.aload_n 2, 1) := by decide +kernel
theorem dC_on_21 : decode bC_on 21 = .ok (.getfield 128, 3) := by decide +kernel
theorem dC_on_24 : decode bC_on 24 = .ok (.ifCond .ne 9, 3) := by decide +kernel
theorem dC_on_27 : decode bC_on 27 = .ok (.aload_n 0, 1) := by decide +kernel
theorem dC_on_28 : decode bC_on 28 = .ok (.iconst 1, 1) := by decide +kernel
theorem dC_on_29 : decode bC_on 29 = .ok (.invokevirtual 87, 3) := by decide +kernel
theorem dC_on_32 : decode bC_on 32 = .ok (.ireturn, 1) := by decide +kernel
theorem dC_on_33 : decode bC_on 33 = .ok (.aload_n 0, 1) := by decide +kernel
theorem dC_on_34 : decode bC_on 34 = .ok (.getfield 29, 3) := by decide +kernel
theorem dC_on_37 : decode bC_on 37 = .ok (.aload_n 2, 1) := by decide +kernel
theorem dC_on_38 : decode bC_on 38 = .ok (.invokevirtual 121, 3) := by decide +kernel
theorem dC_on_41 : decode bC_on 41 = .ok (.aload_n 0, 1) := by decide +kernel
theorem dC_on_42 : decode bC_on 42 = .ok (.getfield 29, 3) := by decide +kernel
theorem dC_on_45 : decode bC_on 45 = .ok (.getfield 183, 3) := by decide +kernel
theorem dC_on_48 : decode bC_on 48 = .ok (.ireturn, 1) := by decide +kernel
def f_C_on (n : Nat) (x1 : Int32) (s : mb_T) : Option (Int32 × mb_T) := mb_cl (f_C_isKeepingPlace n x1 s) fun r_3 s_1 => if r_3 = 0 then some ((-1), s_1) else mb_ix x1 3 (if s_1.2.2.2.2 x1.toNatClampNeg = true then if (s_1.1 (140 + 20 * x1.toNatClampNeg) 0) = 0 then (mb_cl (f_C_found n 1 s_1) fun r_12 s_10 => some (r_12, s_10)) else mb_cw (f_V_become n 100 (140 + 20 * x1.toNatClampNeg) s_1) fun s_8 => some ((s_8.1 100 4), s_8) else mb_cl (f_C_found n 1 s_1) fun r_15 s_13 => some (r_15, s_13))
set_option maxHeartbeats 4000000 in
set_option maxRecDepth 100000 in
theorem t_C_on {dd n : Nat} {x1 : Int32} {s : mb_T} {out : Int32 × mb_T}  (h : f_C_on n x1 s = some out) : mb_MC (dd + 2) yC_on bC_on 3 (some .int) [.ref 0, .int x1] s (some (.int out.1)) out.2 := by
  unfold f_C_on at h
  refine mj_mc (lv := [.ref 0, .int x1, .retAddr 0]) mC_on rfl rfl (Nat.le_of_ble_eq_true rfl) (fun K hK hR => ?_)
  have hK : mj_C (dd + 2) 0 0 RC_c "on" bC_on 3 K := hK
  refine ro_iload_n hK dC_on_0 rfl ?_
  obtain ⟨r_3, s_1, q_2, h⟩ := mb_cl_e h
  refine rb_callS hK mC_isKeepingPlace vC_222 (t_C_isKeepingPlace (dd := dd + 0) q_2) rfl (Nat.le_of_ble_eq_true rfl) dC_on_1 rfl ⟨Nat.le_refl _, Nat.le_refl _⟩ ?_
  show K 0 0 4 [.ref 0, .int x1, .retAddr 0] [.int r_3] (mb_s s_1)
  refine ro_if_ne (tgt := 9) hK dC_on_4 (by decide) (fun c_4 => ?_) (fun c_4 => ?_)
  · replace h := mb_iff c_4 h
    refine ro_aload_n hK dC_on_9 rfl ?_
    refine rb_get hK fC_36 mb_oC rfl dC_on_10 ?_
    refine ro_iload_n hK dC_on_13 rfl ?_
    obtain ⟨i_5, h⟩ := mb_ix_e h
    refine rb_kept hK i_5 dC_on_14 (fun c_6 => ?_) (fun c_6 => ?_)
    · replace h := mb_ift c_6 h
      refine ro_astore_n hK dC_on_15 (by decide) ?_
      show K 0 0 16 [.ref 0, .int x1, .ref (140 + 20 * x1.toNatClampNeg)] [] (mb_s s_1)
      refine ro_aload_n hK dC_on_16 rfl ?_
      refine ro_ifnull hK dC_on_17 ?_
      refine ro_aload_n hK dC_on_20 rfl ?_
      refine rb_get hK fC_128 (mb_cvo (mb_kcv i_5)) rfl dC_on_21 ?_
      refine ro_if_ne (tgt := 33) hK dC_on_24 (by decide) (fun c_7 => ?_) (fun c_7 => ?_)
      · replace h := mb_iff c_7 h
        refine ro_aload_n hK dC_on_33 rfl ?_
        refine rb_get hK fC_29 mb_oC rfl dC_on_34 ?_
        refine ro_aload_n hK dC_on_37 rfl ?_
        obtain ⟨s_8, q_9, h⟩ := mb_cw_e h
        refine rb_callV hK mV_become vC_121 (t_V_become (dd := dd + 0) (Or.inl rfl) (mb_kcv i_5) q_9) rfl (mb_cvo (Or.inl rfl)) rfl (Nat.le_of_ble_eq_true rfl) dC_on_38 rfl ⟨Nat.le_refl _, Nat.le_refl _⟩ ?_
        show K 0 0 41 [.ref 0, .int x1, .ref (140 + 20 * x1.toNatClampNeg)] [] (mb_s s_8)
        refine ro_aload_n hK dC_on_41 rfl ?_
        refine rb_get hK fC_29 mb_oC rfl dC_on_42 ?_
        refine rb_get hK fC_183 (mb_cvo (Or.inl rfl)) rfl dC_on_45 ?_
        cases h
        exact hR.1 0 0 48 _ _ _ _ rfl rfl dC_on_48 ⟨rfl, rfl⟩
      · replace h := mb_ift c_7 h
        refine ro_aload_n hK dC_on_27 rfl ?_
        refine ro_iconst (x := 1) hK (by decide) dC_on_28 ?_
        obtain ⟨r_12, s_10, q_11, h⟩ := mb_cl_e h
        refine rb_callV hK mC_found vC_87 (t_C_found (dd := dd + 0) q_11) rfl mb_oC rfl (Nat.le_of_ble_eq_true rfl) dC_on_29 rfl ⟨Nat.le_refl _, Nat.le_refl _⟩ ?_
        show K 0 0 32 [.ref 0, .int x1, .ref (140 + 20 * x1.toNatClampNeg)] [.int r_12] (mb_s s_10)
        cases h
        exact hR.1 0 0 32 _ _ _ _ rfl rfl dC_on_32 ⟨rfl, rfl⟩
    · replace h := mb_iff c_6 h
      refine ro_astore_nN hK dC_on_15 (by decide) ?_
      show K 0 0 16 [.ref 0, .int x1, .null] [] (mb_s s_1)
      refine ro_aload_nN hK dC_on_16 rfl ?_
      refine ro_ifnullN (tgt := 27) hK dC_on_17 (by decide) ?_
      refine ro_aload_n hK dC_on_27 rfl ?_
      refine ro_iconst (x := 1) hK (by decide) dC_on_28 ?_
      obtain ⟨r_15, s_13, q_14, h⟩ := mb_cl_e h
      refine rb_callV hK mC_found vC_87 (t_C_found (dd := dd + 0) q_14) rfl mb_oC rfl (Nat.le_of_ble_eq_true rfl) dC_on_29 rfl ⟨Nat.le_refl _, Nat.le_refl _⟩ ?_
      show K 0 0 32 [.ref 0, .int x1, .null] [.int r_15] (mb_s s_13)
      cases h
      exact hR.1 0 0 32 _ _ _ _ rfl rfl dC_on_32 ⟨rfl, rfl⟩
  · replace h := mb_ift c_4 h
    refine ro_iconst (x := (-1)) hK (by decide) dC_on_7 ?_
    cases h
    exact hR.1 0 0 8 _ _ _ _ rfl rfl dC_on_8 ⟨rfl, rfl⟩
theorem dC_row_0 : decode bC_row 0 = .ok (.iload_n 1, 1) := by decide +kernel
theorem dC_row_1 : decode bC_row 1 = .ok (.invokestatic 83, 3) := by decide +kernel
theorem dC_row_4 : decode bC_row 4 = .ok (.ifCond .eq 9, 3) := by decide +kernel
theorem dC_row_7 : decode bC_row 7 = .ok (.iload_n 2, 1) := by decide +kernel
theorem dC_row_8 : decode bC_row 8 = .ok (.bipush 60, 2) := by decide +kernel
theorem dC_row_10 : decode bC_row 10 = .ok (.if_icmp .le 5, 3) := by decide +kernel
theorem dC_row_13 : decode bC_row 13 = .ok (.iconst (-1), 1) := by decide +kernel
theorem dC_row_14 : decode bC_row 14 = .ok (.ireturn, 1) := by decide +kernel
theorem dC_row_15 : decode bC_row 15 = .ok (.iload_n 2, 1) := by decide +kernel
theorem dC_row_16 : decode bC_row 16 = .ok (.ifCond .ge 9, 3) := by decide +kernel
theorem dC_row_19 : decode bC_row 19 = .ok (.aload_n 0, 1) := by decide +kernel
theorem dC_row_20 : decode bC_row 20 = .ok (.iconst 5, 1) := by decide +kernel
theorem dC_row_21 : decode bC_row 21 = .ok (.invokevirtual 87, 3) := by decide +kernel
theorem dC_row_24 : decode bC_row 24 = .ok (.ireturn, 1) := by decide +kernel
theorem dC_row_25 : decode bC_row 25 = .ok (.aload_n 0, 1) := by decide +kernel
theorem dC_row_26 : decode bC_row 26 = .ok (.getfield 11, 3) := by decide +kernel
theorem dC_row_29 : decode bC_row 29 = .ok (.iload_n 1, 1) := by decide +kernel
theorem dC_row_30 : decode bC_row 30 = .ok (.aaload, 1) := by decide +kernel
theorem dC_row_31 : decode bC_row 31 = .ok (.iconst 0, 1) := by decide +kernel
theorem dC_row_32 : decode bC_row 32 = .ok (.invokestatic 77, 3) := by decide +kernel
theorem dC_row_35 : decode bC_row 35 = .ok (.aload_n 0, 1) := by decide +kernel
theorem dC_row_36 : decode bC_row 36 = .ok (.getfield 14, 3) := by decide +kernel
theorem dC_row_39 : decode bC_row 39 = .ok (.iload_n 1, 1) := by decide +kernel
theorem dC_row_40 : decode bC_row 40 = .ok (.iload_n 2, 1) := by decide +kernel
theorem dC_row_41 : decode bC_row 41 = .ok (.iastore, 1) := by decide +kernel
theorem dC_row_42 : decode bC_row 42 = .ok (.iload_n 2, 1) := by decide +kernel
theorem dC_row_43 : decode bC_row 43 = .ok (.ireturn, 1) := by decide +kernel
def f_C_row (n : Nat) (x1 : Int32) (x2 : Int32) (s : mb_T) : Option (Int32 × mb_T) := mb_cl (f_C_isRow n x1 s) fun r_3 s_1 => if r_3 = 0 then some ((-1), s_1) else if x2 ≤ 60 then (if 0 ≤ x2 then (mb_ix x1 6 (mb_cw (f_Y_fillI n (20 + x1.toNatClampNeg) 60 0 s_1) fun s_8 => mb_wr s_8 1 6 x1 x2 fun s_10 => some (x2, s_10))) else mb_cl (f_C_found n 5 s_1) fun r_15 s_13 => some (r_15, s_13)) else some ((-1), s_1)
set_option maxHeartbeats 4000000 in
set_option maxRecDepth 100000 in
theorem t_C_row {dd n : Nat} {x1 : Int32} {x2 : Int32} {s : mb_T} {out : Int32 × mb_T}  (h : f_C_row n x1 x2 s = some out) : mb_MC (dd + 2) yC_row bC_row 3 (some .int) [.ref 0, .int x1, .int x2] s (some (.int out.1)) out.2 := by
  unfold f_C_row at h
  refine mj_mc (lv := [.ref 0, .int x1, .int x2]) mC_row rfl rfl (Nat.le_of_ble_eq_true rfl) (fun K hK hR => ?_)
  have hK : mj_C (dd + 2) 0 0 RC_c "row" bC_row 3 K := hK
  refine ro_iload_n hK dC_row_0 rfl ?_
  obtain ⟨r_3, s_1, q_2, h⟩ := mb_cl_e h
  refine rb_callS hK mC_isRow vC_83 (t_C_isRow (dd := dd + 0) q_2) rfl (Nat.le_of_ble_eq_true rfl) dC_row_1 rfl ⟨Nat.le_refl _, Nat.le_refl _⟩ ?_
  show K 0 0 4 [.ref 0, .int x1, .int x2] [.int r_3] (mb_s s_1)
  refine ro_if_eq (tgt := 13) hK dC_row_4 (by decide) (fun c_4 => ?_) (fun c_4 => ?_)
  · replace h := mb_ift c_4 h
    refine ro_iconst (x := (-1)) hK (by decide) dC_row_13 ?_
    cases h
    exact hR.1 0 0 14 _ _ _ _ rfl rfl dC_row_14 ⟨rfl, rfl⟩
  · replace h := mb_iff c_4 h
    refine ro_iload_n hK dC_row_7 rfl ?_
    refine ro_bipush (x := 60) hK (by decide) dC_row_8 ?_
    refine ro_icmp_le (tgt := 15) hK dC_row_10 (by decide) (fun c_5 => ?_) (fun c_5 => ?_)
    · replace h := mb_ift c_5 h
      refine ro_iload_n hK dC_row_15 rfl ?_
      refine ro_if_ge (tgt := 25) hK dC_row_16 (by decide) (fun c_6 => ?_) (fun c_6 => ?_)
      · replace h := mb_ift c_6 h
        refine ro_aload_n hK dC_row_25 rfl ?_
        refine rb_get hK fC_11 mb_oC rfl dC_row_26 ?_
        refine ro_iload_n hK dC_row_29 rfl ?_
        obtain ⟨i_7, h⟩ := mb_ix_e h
        refine rb_rows hK i_7 dC_row_30 ?_
        refine ro_iconst (x := 0) hK (by decide) dC_row_31 ?_
        obtain ⟨s_8, q_9, h⟩ := mb_cw_e h
        refine rb_callS hK mY_fillI vC_77 (t_Y_fillI (dd := dd + 0) (mb_rw i_7) q_9) rfl (Nat.le_of_ble_eq_true rfl) dC_row_32 rfl ⟨Nat.le_refl _, Nat.le_refl _⟩ ?_
        show K 0 0 35 [.ref 0, .int x1, .int x2] [] (mb_s s_8)
        refine ro_aload_n hK dC_row_35 rfl ?_
        refine rb_get hK fC_14 mb_oC rfl dC_row_36 ?_
        refine ro_iload_n hK dC_row_39 rfl ?_
        refine ro_iload_n hK dC_row_40 rfl ?_
        obtain ⟨s_10, e_11, i_12, h⟩ := mb_wr_e h
        refine rb_iast hK ai_1 i_12 e_11 dC_row_41 ?_
        refine ro_iload_n hK dC_row_42 rfl ?_
        cases h
        exact hR.1 0 0 43 _ _ _ _ rfl rfl dC_row_43 ⟨rfl, rfl⟩
      · replace h := mb_iff c_6 h
        refine ro_aload_n hK dC_row_19 rfl ?_
        refine ro_iconst (x := 5) hK (by decide) dC_row_20 ?_
        obtain ⟨r_15, s_13, q_14, h⟩ := mb_cl_e h
        refine rb_callV hK mC_found vC_87 (t_C_found (dd := dd + 0) q_14) rfl mb_oC rfl (Nat.le_of_ble_eq_true rfl) dC_row_21 rfl ⟨Nat.le_refl _, Nat.le_refl _⟩ ?_
        show K 0 0 24 [.ref 0, .int x1, .int x2] [.int r_15] (mb_s s_13)
        cases h
        exact hR.1 0 0 24 _ _ _ _ rfl rfl dC_row_24 ⟨rfl, rfl⟩
    · replace h := mb_iff c_5 h
      refine ro_iconst (x := (-1)) hK (by decide) dC_row_13 ?_
      cases h
      exact hR.1 0 0 14 _ _ _ _ rfl rfl dC_row_14 ⟨rfl, rfl⟩
theorem dC_rowRefusal_0 : decode bC_rowRefusal 0 = .ok (.iload_n 1, 1) := by decide +kernel
theorem dC_rowRefusal_1 : decode bC_rowRefusal 1 = .ok (.invokestatic 83, 3) := by decide +kernel
theorem dC_rowRefusal_4 : decode bC_rowRefusal 4 = .ok (.ifCond .ne 5, 3) := by decide +kernel
theorem dC_rowRefusal_7 : decode bC_rowRefusal 7 = .ok (.iconst (-1), 1) := by decide +kernel
theorem dC_rowRefusal_8 : decode bC_rowRefusal 8 = .ok (.ireturn, 1) := by decide +kernel
theorem dC_rowRefusal_9 : decode bC_rowRefusal 9 = .ok (.aload_n 0, 1) := by decide +kernel
theorem dC_rowRefusal_10 : decode bC_rowRefusal 10 = .ok (.getfield 14, 3) := by decide +kernel
theorem dC_rowRefusal_13 : decode bC_rowRefusal 13 = .ok (.iload_n 1, 1) := by decide +kernel
theorem dC_rowRefusal_14 : decode bC_rowRefusal 14 = .ok (.iaload, 1) := by decide +kernel
theorem dC_rowRefusal_15 : decode bC_rowRefusal 15 = .ok (.ifCond .ge 11, 3) := by decide +kernel
theorem dC_rowRefusal_18 : decode bC_rowRefusal 18 = .ok (.aload_n 0, 1) := by decide +kernel
theorem dC_rowRefusal_19 : decode bC_rowRefusal 19 = .ok (.iconst 1, 1) := by decide +kernel
theorem dC_rowRefusal_20 : decode bC_rowRefusal 20 = .ok (.invokevirtual 87, 3) := by decide +kernel
theorem dC_rowRefusal_23 : decode bC_rowRefusal 23 = .ok (.goto 4, 3) := by decide +kernel
theorem dC_rowRefusal_26 : decode bC_rowRefusal 26 = .ok (.iconst 0, 1) := by decide +kernel
theorem dC_rowRefusal_27 : decode bC_rowRefusal 27 = .ok (.ireturn, 1) := by decide +kernel
def f_C_rowRefusal (n : Nat) (x1 : Int32) (s : mb_T) : Option (Int32 × mb_T) := mb_cl (f_C_isRow n x1 s) fun r_3 s_1 => if r_3 = 0 then some ((-1), s_1) else mb_rd s_1 1 6 x1 fun x_5 => if 0 ≤ x_5 then some (0, s_1) else mb_cl (f_C_found n 1 s_1) fun r_11 s_9 => some (r_11, s_9)
set_option maxHeartbeats 4000000 in
set_option maxRecDepth 100000 in
theorem t_C_rowRefusal {dd n : Nat} {x1 : Int32} {s : mb_T} {out : Int32 × mb_T}  (h : f_C_rowRefusal n x1 s = some out) : mb_MC (dd + 2) yC_rowRefusal bC_rowRefusal 2 (some .int) [.ref 0, .int x1] s (some (.int out.1)) out.2 := by
  unfold f_C_rowRefusal at h
  refine mj_mc (lv := [.ref 0, .int x1]) mC_rowRefusal rfl rfl (Nat.le_of_ble_eq_true rfl) (fun K hK hR => ?_)
  have hK : mj_C (dd + 2) 0 0 RC_c "rowRefusal" bC_rowRefusal 2 K := hK
  refine ro_iload_n hK dC_rowRefusal_0 rfl ?_
  obtain ⟨r_3, s_1, q_2, h⟩ := mb_cl_e h
  refine rb_callS hK mC_isRow vC_83 (t_C_isRow (dd := dd + 0) q_2) rfl (Nat.le_of_ble_eq_true rfl) dC_rowRefusal_1 rfl ⟨Nat.le_refl _, Nat.le_refl _⟩ ?_
  show K 0 0 4 [.ref 0, .int x1] [.int r_3] (mb_s s_1)
  refine ro_if_ne (tgt := 9) hK dC_rowRefusal_4 (by decide) (fun c_4 => ?_) (fun c_4 => ?_)
  · replace h := mb_iff c_4 h
    refine ro_aload_n hK dC_rowRefusal_9 rfl ?_
    refine rb_get hK fC_14 mb_oC rfl dC_rowRefusal_10 ?_
    refine ro_iload_n hK dC_rowRefusal_13 rfl ?_
    obtain ⟨x_5, e_6, i_7, h⟩ := mb_rd_e h
    refine rb_iald hK ai_1 i_7 e_6 dC_rowRefusal_14 ?_
    refine ro_if_ge (tgt := 26) hK dC_rowRefusal_15 (by decide) (fun c_8 => ?_) (fun c_8 => ?_)
    · replace h := mb_ift c_8 h
      refine ro_iconst (x := 0) hK (by decide) dC_rowRefusal_26 ?_
      cases h
      exact hR.1 0 0 27 _ _ _ _ rfl rfl dC_rowRefusal_27 ⟨rfl, rfl⟩
    · replace h := mb_iff c_8 h
      refine ro_aload_n hK dC_rowRefusal_18 rfl ?_
      refine ro_iconst (x := 1) hK (by decide) dC_rowRefusal_19 ?_
      obtain ⟨r_11, s_9, q_10, h⟩ := mb_cl_e h
      refine rb_callV hK mC_found vC_87 (t_C_found (dd := dd + 0) q_10) rfl mb_oC rfl (Nat.le_of_ble_eq_true rfl) dC_rowRefusal_20 rfl ⟨Nat.le_refl _, Nat.le_refl _⟩ ?_
      show K 0 0 23 [.ref 0, .int x1] [.int r_11] (mb_s s_9)
      refine ro_goto (tgt := 27) hK dC_rowRefusal_23 (by decide) ?_
      cases h
      exact hR.1 0 0 27 _ _ _ _ rfl rfl dC_rowRefusal_27 ⟨rfl, rfl⟩
  · replace h := mb_ift c_4 h
    refine ro_iconst (x := (-1)) hK (by decide) dC_rowRefusal_7 ?_
    cases h
    exact hR.1 0 0 8 _ _ _ _ rfl rfl dC_rowRefusal_8 ⟨rfl, rfl⟩
theorem dC_text_0 : decode bC_text 0 = .ok (.iload_n 1, 1) := by decide +kernel
theorem dC_text_1 : decode bC_text 1 = .ok (.invokestatic 108, 3) := by decide +kernel
theorem dC_text_4 : decode bC_text 4 = .ok (.ifCond .eq 9, 3) := by decide +kernel
theorem dC_text_7 : decode bC_text 7 = .ok (.iload_n 2, 1) := by decide +kernel
theorem dC_text_8 : decode bC_text 8 = .ok (.bipush 80, 2) := by decide +kernel
theorem dC_text_10 : decode bC_text 10 = .ok (.if_icmp .le 5, 3) := by decide +kernel
theorem dC_text_13 : decode bC_text 13 = .ok (.iconst (-1), 1) := by decide +kernel
theorem dC_text_14 : decode bC_text 14 = .ok (.ireturn, 1) := by decide +kernel
theorem dC_text_15 : decode bC_text 15 = .ok (.iload_n 2, 1) := by decide +kernel
theorem dC_text_16 : decode bC_text 16 = .ok (.ifCond .ge 9, 3) := by decide +kernel
theorem dC_text_19 : decode bC_text 19 = .ok (.aload_n 0, 1) := by decide +kernel
theorem dC_text_20 : decode bC_text 20 = .ok (.iconst 5, 1) := by decide +kernel
theorem dC_text_21 : decode bC_text 21 = .ok (.invokevirtual 87, 3) := by decide +kernel
theorem dC_text_24 : decode bC_text 24 = .ok (.ireturn, 1) := by decide +kernel
theorem dC_text_25 : decode bC_text 25 = .ok (.aload_n 0, 1) := by decide +kernel
theorem dC_text_26 : decode bC_text 26 = .ok (.getfield 20, 3) := by decide +kernel
theorem dC_text_29 : decode bC_text 29 = .ok (.iload_n 1, 1) := by decide +kernel
theorem dC_text_30 : decode bC_text 30 = .ok (.aaload, 1) := by decide +kernel
theorem dC_text_31 : decode bC_text 31 = .ok (.bipush 32, 2) := by decide +kernel
theorem dC_text_33 : decode bC_text 33 = .ok (.invokestatic 111, 3) := by decide +kernel
theorem dC_text_36 : decode bC_text 36 = .ok (.aload_n 0, 1) := by decide +kernel
theorem dC_text_37 : decode bC_text 37 = .ok (.getfield 23, 3) := by decide +kernel
theorem dC_text_40 : decode bC_text 40 = .ok (.iload_n 1, 1) := by decide +kernel
theorem dC_text_41 : decode bC_text 41 = .ok (.iload_n 2, 1) := by decide +kernel
theorem dC_text_42 : decode bC_text 42 = .ok (.iastore, 1) := by decide +kernel
theorem dC_text_43 : decode bC_text 43 = .ok (.iload_n 2, 1) := by decide +kernel
theorem dC_text_44 : decode bC_text 44 = .ok (.ireturn, 1) := by decide +kernel
def f_C_text (n : Nat) (x1 : Int32) (x2 : Int32) (s : mb_T) : Option (Int32 × mb_T) := mb_cl (f_C_isText n x1 s) fun r_3 s_1 => if r_3 = 0 then some ((-1), s_1) else if x2 ≤ 80 then (if 0 ≤ x2 then (mb_ix x1 4 (mb_cw (f_Y_fillB n (30 + x1.toNatClampNeg) 80 32 s_1) fun s_8 => mb_wr s_8 3 4 x1 x2 fun s_10 => some (x2, s_10))) else mb_cl (f_C_found n 5 s_1) fun r_15 s_13 => some (r_15, s_13)) else some ((-1), s_1)
set_option maxHeartbeats 4000000 in
set_option maxRecDepth 100000 in
theorem t_C_text {dd n : Nat} {x1 : Int32} {x2 : Int32} {s : mb_T} {out : Int32 × mb_T}  (h : f_C_text n x1 x2 s = some out) : mb_MC (dd + 2) yC_text bC_text 3 (some .int) [.ref 0, .int x1, .int x2] s (some (.int out.1)) out.2 := by
  unfold f_C_text at h
  refine mj_mc (lv := [.ref 0, .int x1, .int x2]) mC_text rfl rfl (Nat.le_of_ble_eq_true rfl) (fun K hK hR => ?_)
  have hK : mj_C (dd + 2) 0 0 RC_c "text" bC_text 3 K := hK
  refine ro_iload_n hK dC_text_0 rfl ?_
  obtain ⟨r_3, s_1, q_2, h⟩ := mb_cl_e h
  refine rb_callS hK mC_isText vC_108 (t_C_isText (dd := dd + 0) q_2) rfl (Nat.le_of_ble_eq_true rfl) dC_text_1 rfl ⟨Nat.le_refl _, Nat.le_refl _⟩ ?_
  show K 0 0 4 [.ref 0, .int x1, .int x2] [.int r_3] (mb_s s_1)
  refine ro_if_eq (tgt := 13) hK dC_text_4 (by decide) (fun c_4 => ?_) (fun c_4 => ?_)
  · replace h := mb_ift c_4 h
    refine ro_iconst (x := (-1)) hK (by decide) dC_text_13 ?_
    cases h
    exact hR.1 0 0 14 _ _ _ _ rfl rfl dC_text_14 ⟨rfl, rfl⟩
  · replace h := mb_iff c_4 h
    refine ro_iload_n hK dC_text_7 rfl ?_
    refine ro_bipush (x := 80) hK (by decide) dC_text_8 ?_
    refine ro_icmp_le (tgt := 15) hK dC_text_10 (by decide) (fun c_5 => ?_) (fun c_5 => ?_)
    · replace h := mb_ift c_5 h
      refine ro_iload_n hK dC_text_15 rfl ?_
      refine ro_if_ge (tgt := 25) hK dC_text_16 (by decide) (fun c_6 => ?_) (fun c_6 => ?_)
      · replace h := mb_ift c_6 h
        refine ro_aload_n hK dC_text_25 rfl ?_
        refine rb_get hK fC_20 mb_oC rfl dC_text_26 ?_
        refine ro_iload_n hK dC_text_29 rfl ?_
        obtain ⟨i_7, h⟩ := mb_ix_e h
        refine rb_texts hK i_7 dC_text_30 ?_
        refine ro_bipush (x := 32) hK (by decide) dC_text_31 ?_
        obtain ⟨s_8, q_9, h⟩ := mb_cw_e h
        refine rb_callS hK mY_fillB vC_111 (t_Y_fillB (dd := dd + 0) (mb_tb (mb_tx i_7)) q_9) rfl (Nat.le_of_ble_eq_true rfl) dC_text_33 rfl ⟨Nat.le_refl _, Nat.le_refl _⟩ ?_
        show K 0 0 36 [.ref 0, .int x1, .int x2] [] (mb_s s_8)
        refine ro_aload_n hK dC_text_36 rfl ?_
        refine rb_get hK fC_23 mb_oC rfl dC_text_37 ?_
        refine ro_iload_n hK dC_text_40 rfl ?_
        refine ro_iload_n hK dC_text_41 rfl ?_
        obtain ⟨s_10, e_11, i_12, h⟩ := mb_wr_e h
        refine rb_iast hK ai_3 i_12 e_11 dC_text_42 ?_
        refine ro_iload_n hK dC_text_43 rfl ?_
        cases h
        exact hR.1 0 0 44 _ _ _ _ rfl rfl dC_text_44 ⟨rfl, rfl⟩
      · replace h := mb_iff c_6 h
        refine ro_aload_n hK dC_text_19 rfl ?_
        refine ro_iconst (x := 5) hK (by decide) dC_text_20 ?_
        obtain ⟨r_15, s_13, q_14, h⟩ := mb_cl_e h
        refine rb_callV hK mC_found vC_87 (t_C_found (dd := dd + 0) q_14) rfl mb_oC rfl (Nat.le_of_ble_eq_true rfl) dC_text_21 rfl ⟨Nat.le_refl _, Nat.le_refl _⟩ ?_
        show K 0 0 24 [.ref 0, .int x1, .int x2] [.int r_15] (mb_s s_13)
        cases h
        exact hR.1 0 0 24 _ _ _ _ rfl rfl dC_text_24 ⟨rfl, rfl⟩
    · replace h := mb_iff c_5 h
      refine ro_iconst (x := (-1)) hK (by decide) dC_text_13 ?_
      cases h
      exact hR.1 0 0 14 _ _ _ _ rfl rfl dC_text_14 ⟨rfl, rfl⟩
theorem dC_textRefusal_0 : decode bC_textRefusal 0 = .ok (.iload_n 1, 1) := by decide +kernel
theorem dC_textRefusal_1 : decode bC_textRefusal 1 = .ok (.invokestatic 108, 3) := by decide +kernel
theorem dC_textRefusal_4 : decode bC_textRefusal 4 = .ok (.ifCond .ne 5, 3) := by decide +kernel
theorem dC_textRefusal_7 : decode bC_textRefusal 7 = .ok (.iconst (-1), 1) := by decide +kernel
theorem dC_textRefusal_8 : decode bC_textRefusal 8 = .ok (.ireturn, 1) := by decide +kernel
theorem dC_textRefusal_9 : decode bC_textRefusal 9 = .ok (.aload_n 0, 1) := by decide +kernel
theorem dC_textRefusal_10 : decode bC_textRefusal 10 = .ok (.getfield 23, 3) := by decide +kernel
theorem dC_textRefusal_13 : decode bC_textRefusal 13 = .ok (.iload_n 1, 1) := by decide +kernel
theorem dC_textRefusal_14 : decode bC_textRefusal 14 = .ok (.iaload, 1) := by decide +kernel
theorem dC_textRefusal_15 : decode bC_textRefusal 15 = .ok (.ifCond .ge 11, 3) := by decide +kernel
theorem dC_textRefusal_18 : decode bC_textRefusal 18 = .ok (.aload_n 0, 1) := by decide +kernel
theorem dC_textRefusal_19 : decode bC_textRefusal 19 = .ok (.iconst 1, 1) := by decide +kernel
theorem dC_textRefusal_20 : decode bC_textRefusal 20 = .ok (.invokevirtual 87, 3) := by decide +kernel
theorem dC_textRefusal_23 : decode bC_textRefusal 23 = .ok (.goto 4, 3) := by decide +kernel
theorem dC_textRefusal_26 : decode bC_textRefusal 26 = .ok (.iconst 0, 1) := by decide +kernel
theorem dC_textRefusal_27 : decode bC_textRefusal 27 = .ok (.ireturn, 1) := by decide +kernel
def f_C_textRefusal (n : Nat) (x1 : Int32) (s : mb_T) : Option (Int32 × mb_T) := mb_cl (f_C_isText n x1 s) fun r_3 s_1 => if r_3 = 0 then some ((-1), s_1) else mb_rd s_1 3 4 x1 fun x_5 => if 0 ≤ x_5 then some (0, s_1) else mb_cl (f_C_found n 1 s_1) fun r_11 s_9 => some (r_11, s_9)
set_option maxHeartbeats 4000000 in
set_option maxRecDepth 100000 in
theorem t_C_textRefusal {dd n : Nat} {x1 : Int32} {s : mb_T} {out : Int32 × mb_T}  (h : f_C_textRefusal n x1 s = some out) : mb_MC (dd + 2) yC_textRefusal bC_textRefusal 2 (some .int) [.ref 0, .int x1] s (some (.int out.1)) out.2 := by
  unfold f_C_textRefusal at h
  refine mj_mc (lv := [.ref 0, .int x1]) mC_textRefusal rfl rfl (Nat.le_of_ble_eq_true rfl) (fun K hK hR => ?_)
  have hK : mj_C (dd + 2) 0 0 RC_c "textRefusal" bC_textRefusal 2 K := hK
  refine ro_iload_n hK dC_textRefusal_0 rfl ?_
  obtain ⟨r_3, s_1, q_2, h⟩ := mb_cl_e h
  refine rb_callS hK mC_isText vC_108 (t_C_isText (dd := dd + 0) q_2) rfl (Nat.le_of_ble_eq_true rfl) dC_textRefusal_1 rfl ⟨Nat.le_refl _, Nat.le_refl _⟩ ?_
  show K 0 0 4 [.ref 0, .int x1] [.int r_3] (mb_s s_1)
  refine ro_if_ne (tgt := 9) hK dC_textRefusal_4 (by decide) (fun c_4 => ?_) (fun c_4 => ?_)
  · replace h := mb_iff c_4 h
    refine ro_aload_n hK dC_textRefusal_9 rfl ?_
    refine rb_get hK fC_23 mb_oC rfl dC_textRefusal_10 ?_
    refine ro_iload_n hK dC_textRefusal_13 rfl ?_
    obtain ⟨x_5, e_6, i_7, h⟩ := mb_rd_e h
    refine rb_iald hK ai_3 i_7 e_6 dC_textRefusal_14 ?_
    refine ro_if_ge (tgt := 26) hK dC_textRefusal_15 (by decide) (fun c_8 => ?_) (fun c_8 => ?_)
    · replace h := mb_ift c_8 h
      refine ro_iconst (x := 0) hK (by decide) dC_textRefusal_26 ?_
      cases h
      exact hR.1 0 0 27 _ _ _ _ rfl rfl dC_textRefusal_27 ⟨rfl, rfl⟩
    · replace h := mb_iff c_8 h
      refine ro_aload_n hK dC_textRefusal_18 rfl ?_
      refine ro_iconst (x := 1) hK (by decide) dC_textRefusal_19 ?_
      obtain ⟨r_11, s_9, q_10, h⟩ := mb_cl_e h
      refine rb_callV hK mC_found vC_87 (t_C_found (dd := dd + 0) q_10) rfl mb_oC rfl (Nat.le_of_ble_eq_true rfl) dC_textRefusal_20 rfl ⟨Nat.le_refl _, Nat.le_refl _⟩ ?_
      show K 0 0 23 [.ref 0, .int x1] [.int r_11] (mb_s s_9)
      refine ro_goto (tgt := 27) hK dC_textRefusal_23 (by decide) ?_
      cases h
      exact hR.1 0 0 27 _ _ _ _ rfl rfl dC_textRefusal_27 ⟨rfl, rfl⟩
  · replace h := mb_ift c_4 h
    refine ro_iconst (x := (-1)) hK (by decide) dC_textRefusal_7 ?_
    cases h
    exact hR.1 0 0 8 _ _ _ _ rfl rfl dC_textRefusal_8 ⟨rfl, rfl⟩
theorem dC_undo_0 : decode bC_undo 0 = .ok (.iload_n 1, 1) := by decide +kernel
theorem dC_undo_1 : decode bC_undo 1 = .ok (.ifCond .lt 14, 3) := by decide +kernel
theorem dC_undo_4 : decode bC_undo 4 = .ok (.iload_n 1, 1) := by decide +kernel
theorem dC_undo_5 : decode bC_undo 5 = .ok (.aload_n 0, 1) := by decide +kernel
theorem dC_undo_6 : decode bC_undo 6 = .ok (.getfield 29, 3) := by decide +kernel
theorem dC_undo_9 : decode bC_undo 9 = .ok (.getfield 183, 3) := by decide +kernel
theorem dC_undo_12 : decode bC_undo 12 = .ok (.if_icmp .le 5, 3) := by decide +kernel
theorem dC_undo_15 : decode bC_undo 15 = .ok (.iconst (-1), 1) := by decide +kernel
theorem dC_undo_16 : decode bC_undo 16 = .ok (.ireturn, 1) := by decide +kernel
theorem dC_undo_17 : decode bC_undo 17 = .ok (.aload_n 0, 1) := by decide +kernel
theorem dC_undo_18 : decode bC_undo 18 = .ok (.getfield 29, 3) := by decide +kernel
theorem dC_undo_21 : decode bC_undo 21 = .ok (.getfield 183, 3) := by decide +kernel
theorem dC_undo_24 : decode bC_undo 24 = .ok (.iload_n 1, 1) := by decide +kernel
theorem dC_undo_25 : decode bC_undo 25 = .ok (.isub, 1) := by decide +kernel
theorem dC_undo_26 : decode bC_undo 26 = .ok (.istore_n 2, 1) := by decide +kernel
theorem dC_undo_27 : decode bC_undo 27 = .ok (.aload_n 0, 1) := by decide +kernel
theorem dC_undo_28 : decode bC_undo 28 = .ok (.getfield 29, 3) := by decide +kernel
theorem dC_undo_31 : decode bC_undo 31 = .ok (.iload_n 1, 1) := by decide +kernel
theorem dC_undo_32 : decode bC_undo 32 = .ok (.invokevirtual 200, 3) := by decide +kernel
theorem dC_undo_35 : decode bC_undo 35 = .ok (.iload_n 2, 1) := by decide +kernel
theorem dC_undo_36 : decode bC_undo 36 = .ok (.ireturn, 1) := by decide +kernel
def f_C_undo (n : Nat) (x1 : Int32) (s : mb_T) : Option (Int32 × mb_T) := if x1 < 0 then some ((-1), s) else if x1 ≤ (s.1 100 4) then (mb_cw (f_V_backTo n 100 x1 s) fun s_3 => some (((s.1 100 4) - x1), s_3)) else some ((-1), s)
set_option maxHeartbeats 4000000 in
set_option maxRecDepth 100000 in
theorem t_C_undo {dd n : Nat} {x1 : Int32} {s : mb_T} {out : Int32 × mb_T}  (h : f_C_undo n x1 s = some out) : mb_MC (dd + 2) yC_undo bC_undo 3 (some .int) [.ref 0, .int x1] s (some (.int out.1)) out.2 := by
  unfold f_C_undo at h
  refine mj_mc (lv := [.ref 0, .int x1, .retAddr 0]) mC_undo rfl rfl (Nat.le_of_ble_eq_true rfl) (fun K hK hR => ?_)
  have hK : mj_C (dd + 2) 0 0 RC_c "undo" bC_undo 3 K := hK
  refine ro_iload_n hK dC_undo_0 rfl ?_
  refine ro_if_lt (tgt := 15) hK dC_undo_1 (by decide) (fun c_1 => ?_) (fun c_1 => ?_)
  · replace h := mb_ift c_1 h
    refine ro_iconst (x := (-1)) hK (by decide) dC_undo_15 ?_
    cases h
    exact hR.1 0 0 16 _ _ _ _ rfl rfl dC_undo_16 ⟨rfl, rfl⟩
  · replace h := mb_iff c_1 h
    refine ro_iload_n hK dC_undo_4 rfl ?_
    refine ro_aload_n hK dC_undo_5 rfl ?_
    refine rb_get hK fC_29 mb_oC rfl dC_undo_6 ?_
    refine rb_get hK fC_183 (mb_cvo (Or.inl rfl)) rfl dC_undo_9 ?_
    refine ro_icmp_le (tgt := 17) hK dC_undo_12 (by decide) (fun c_2 => ?_) (fun c_2 => ?_)
    · replace h := mb_ift c_2 h
      refine ro_aload_n hK dC_undo_17 rfl ?_
      refine rb_get hK fC_29 mb_oC rfl dC_undo_18 ?_
      refine rb_get hK fC_183 (mb_cvo (Or.inl rfl)) rfl dC_undo_21 ?_
      refine ro_iload_n hK dC_undo_24 rfl ?_
      refine ro_isub hK dC_undo_25 ?_
      refine ro_istore_n hK dC_undo_26 (by decide) ?_
      show K 0 0 27 [.ref 0, .int x1, .int ((s.1 100 4) - x1)] [] (mb_s s)
      refine ro_aload_n hK dC_undo_27 rfl ?_
      refine rb_get hK fC_29 mb_oC rfl dC_undo_28 ?_
      refine ro_iload_n hK dC_undo_31 rfl ?_
      obtain ⟨s_3, q_4, h⟩ := mb_cw_e h
      refine rb_callV hK mV_backTo vC_200 (t_V_backTo (dd := dd + 0) (Or.inl rfl) q_4) rfl (mb_cvo (Or.inl rfl)) rfl (Nat.le_of_ble_eq_true rfl) dC_undo_32 rfl ⟨Nat.le_refl _, Nat.le_refl _⟩ ?_
      show K 0 0 35 [.ref 0, .int x1, .int ((s.1 100 4) - x1)] [] (mb_s s_3)
      refine ro_iload_n hK dC_undo_35 rfl ?_
      cases h
      exact hR.1 0 0 36 _ _ _ _ rfl rfl dC_undo_36 ⟨rfl, rfl⟩
    · replace h := mb_iff c_2 h
      refine ro_iconst (x := (-1)) hK (by decide) dC_undo_15 ?_
      cases h
      exact hR.1 0 0 16 _ _ _ _ rfl rfl dC_undo_16 ⟨rfl, rfl⟩
theorem dC_upper_0 : decode bC_upper 0 = .ok (.aload_n 0, 1) := by decide +kernel
theorem dC_upper_1 : decode bC_upper 1 = .ok (.getfield 29, 3) := by decide +kernel
theorem dC_upper_4 : decode bC_upper 4 = .ok (.aload_n 0, 1) := by decide +kernel
theorem dC_upper_5 : decode bC_upper 5 = .ok (.getfield 29, 3) := by decide +kernel
theorem dC_upper_8 : decode bC_upper 8 = .ok (.getfield 177, 3) := by decide +kernel
theorem dC_upper_11 : decode bC_upper 11 = .ok (.invokevirtual 311, 3) := by decide +kernel
theorem dC_upper_14 : decode bC_upper 14 = .ok (.istore_n 1, 1) := by decide +kernel
theorem dC_upper_15 : decode bC_upper 15 = .ok (.iload_n 1, 1) := by decide +kernel
theorem dC_upper_16 : decode bC_upper 16 = .ok (.aload_n 0, 1) := by decide +kernel
theorem dC_upper_17 : decode bC_upper 17 = .ok (.getfield 29, 3) := by decide +kernel
theorem dC_upper_20 : decode bC_upper 20 = .ok (.aload_n 0, 1) := by decide +kernel
theorem dC_upper_21 : decode bC_upper 21 = .ok (.getfield 29, 3) := by decide +kernel
theorem dC_upper_24 : decode bC_upper 24 = .ok (.getfield 315, 3) := by decide +kernel
theorem dC_upper_27 : decode bC_upper 27 = .ok (.invokevirtual 311, 3) := by decide +kernel
theorem dC_upper_30 : decode bC_upper 30 = .ok (.invokestatic 318, 3) := by decide +kernel
theorem dC_upper_33 : decode bC_upper 33 = .ok (.istore_n 2, 1) := by decide +kernel
theorem dC_upper_34 : decode bC_upper 34 = .ok (.iload_n 2, 1) := by decide +kernel
theorem dC_upper_35 : decode bC_upper 35 = .ok (.ifCond .le 10, 3) := by decide +kernel
theorem dC_upper_38 : decode bC_upper 38 = .ok (.iload_n 1, 1) := by decide +kernel
theorem dC_upper_39 : decode bC_upper 39 = .ok (.iload_n 2, 1) := by decide +kernel
theorem dC_upper_40 : decode bC_upper 40 = .ok (.idiv, 1) := by decide +kernel
theorem dC_upper_41 : decode bC_upper 41 = .ok (.i2l, 1) := by decide +kernel
theorem dC_upper_42 : decode bC_upper 42 = .ok (.goto 4, 3) := by decide +kernel
theorem dC_upper_45 : decode bC_upper 45 = .ok (.lconst 0, 1) := by decide +kernel
theorem dC_upper_46 : decode bC_upper 46 = .ok (.lreturn, 1) := by decide +kernel
def f_C_upper (n : Nat)  (s : mb_T) : Option (Int64 × mb_T) := mb_cl (f_V_sumOf n 100 (100 + 6) 5 s) fun r_3 s_1 => mb_cl (f_V_sumOf n 100 (100 + 9) 5 s_1) fun r_6 s_4 => mb_cl (f_C_greatestDivisor n r_3 r_6 s_4) fun r_9 s_7 => if r_9 ≤ 0 then some (0, s_7) else mb_dv r_9 (some ((Int32.toInt64 (r_3 / r_9)), s_7))
set_option maxHeartbeats 4000000 in
set_option maxRecDepth 100000 in
theorem t_C_upper {dd n : Nat}  {s : mb_T} {out : Int64 × mb_T}  (h : f_C_upper n  s = some out) : mb_MC (dd + 2) yC_upper bC_upper 3 (some .long) [.ref 0] s (some (.long out.1)) out.2 := by
  unfold f_C_upper at h
  refine mj_mc (lv := [.ref 0, .retAddr 0, .retAddr 0]) mC_upper rfl rfl (Nat.le_of_ble_eq_true rfl) (fun K hK hR => ?_)
  have hK : mj_C (dd + 2) 0 0 RC_c "upper" bC_upper 3 K := hK
  refine ro_aload_n hK dC_upper_0 rfl ?_
  refine rb_get hK fC_29 mb_oC rfl dC_upper_1 ?_
  refine ro_aload_n hK dC_upper_4 rfl ?_
  refine rb_get hK fC_29 mb_oC rfl dC_upper_5 ?_
  refine rb_get hK fC_177 (mb_cvo (Or.inl rfl)) rfl dC_upper_8 ?_
  obtain ⟨r_3, s_1, q_2, h⟩ := mb_cl_e h
  refine rb_callV hK mV_sumOf vC_311 (t_V_sumOf (dd := dd + 0) (Or.inl rfl) (mb_cv6 (Or.inl rfl)) q_2) rfl (mb_cvo (Or.inl rfl)) rfl (Nat.le_of_ble_eq_true rfl) dC_upper_11 rfl ⟨Nat.le_refl _, Nat.le_refl _⟩ ?_
  show K 0 0 14 [.ref 0, .retAddr 0, .retAddr 0] [.int r_3] (mb_s s_1)
  refine ro_istore_n hK dC_upper_14 (by decide) ?_
  show K 0 0 15 [.ref 0, .int r_3, .retAddr 0] [] (mb_s s_1)
  refine ro_iload_n hK dC_upper_15 rfl ?_
  refine ro_aload_n hK dC_upper_16 rfl ?_
  refine rb_get hK fC_29 mb_oC rfl dC_upper_17 ?_
  refine ro_aload_n hK dC_upper_20 rfl ?_
  refine rb_get hK fC_29 mb_oC rfl dC_upper_21 ?_
  refine rb_get hK fC_315 (mb_cvo (Or.inl rfl)) rfl dC_upper_24 ?_
  obtain ⟨r_6, s_4, q_5, h⟩ := mb_cl_e h
  refine rb_callV hK mV_sumOf vC_311 (t_V_sumOf (dd := dd + 0) (Or.inl rfl) (mb_cv9 (Or.inl rfl)) q_5) rfl (mb_cvo (Or.inl rfl)) rfl (Nat.le_of_ble_eq_true rfl) dC_upper_27 rfl ⟨Nat.le_refl _, Nat.le_refl _⟩ ?_
  show K 0 0 30 [.ref 0, .int r_3, .retAddr 0] [.int r_6, .int r_3] (mb_s s_4)
  obtain ⟨r_9, s_7, q_8, h⟩ := mb_cl_e h
  refine rb_callS hK mC_greatestDivisor vC_318 (t_C_greatestDivisor (dd := dd + 0) q_8) rfl (Nat.le_of_ble_eq_true rfl) dC_upper_30 rfl ⟨Nat.le_refl _, Nat.le_refl _⟩ ?_
  show K 0 0 33 [.ref 0, .int r_3, .retAddr 0] [.int r_9] (mb_s s_7)
  refine ro_istore_n hK dC_upper_33 (by decide) ?_
  show K 0 0 34 [.ref 0, .int r_3, .int r_9] [] (mb_s s_7)
  refine ro_iload_n hK dC_upper_34 rfl ?_
  refine ro_if_le (tgt := 45) hK dC_upper_35 (by decide) (fun c_10 => ?_) (fun c_10 => ?_)
  · replace h := mb_ift c_10 h
    refine ro_lconst (x := 0) hK (by decide) dC_upper_45 ?_
    cases h
    exact hR.2.1 0 0 46 _ _ _ rfl dC_upper_46 ⟨rfl, rfl⟩
  · replace h := mb_iff c_10 h
    refine ro_iload_n hK dC_upper_38 rfl ?_
    refine ro_iload_n hK dC_upper_39 rfl ?_
    obtain ⟨z_11, h⟩ := mb_dv_e h
    refine ro_idiv hK dC_upper_40 z_11 ?_
    refine ro_i2l hK dC_upper_41 ?_
    refine ro_goto (tgt := 46) hK dC_upper_42 (by decide) ?_
    cases h
    exact hR.2.1 0 0 46 _ _ _ rfl dC_upper_46 ⟨rfl, rfl⟩
theorem dA_bitsBeside_0 : decode bA_bitsBeside 0 = .ok (.aload_n 0, 1) := by decide +kernel
theorem dA_bitsBeside_1 : decode bA_bitsBeside 1 = .ok (.iload_n 1, 1) := by decide +kernel
theorem dA_bitsBeside_2 : decode bA_bitsBeside 2 = .ok (.invokevirtual 103, 3) := by decide +kernel
theorem dA_bitsBeside_5 : decode bA_bitsBeside 5 = .ok (.ifCond .eq 12, 3) := by decide +kernel
theorem dA_bitsBeside_8 : decode bA_bitsBeside 8 = .ok (.aload_n 0, 1) := by decide +kernel
theorem dA_bitsBeside_9 : decode bA_bitsBeside 9 = .ok (.getfield 30, 3) := by decide +kernel
theorem dA_bitsBeside_12 : decode bA_bitsBeside 12 = .ok (.iload_n 1, 1) := by decide +kernel
theorem dA_bitsBeside_13 : decode bA_bitsBeside 13 = .ok (.iaload, 1) := by decide +kernel
theorem dA_bitsBeside_14 : decode bA_bitsBeside 14 = .ok (.goto 4, 3) := by decide +kernel
theorem dA_bitsBeside_17 : decode bA_bitsBeside 17 = .ok (.iconst 0, 1) := by decide +kernel
theorem dA_bitsBeside_18 : decode bA_bitsBeside 18 = .ok (.ireturn, 1) := by decide +kernel
def f_A_bitsBeside (n : Nat) (x1 : Int32) (s : mb_T) : Option (Int32 × mb_T) := mb_cl (f_A_isHere n x1 s) fun r_3 s_1 => if r_3 = 0 then some (0, s_1) else mb_rd s_1 53 5 x1 fun x_5 => some (x_5, s_1)
set_option maxHeartbeats 4000000 in
set_option maxRecDepth 100000 in
theorem t_A_bitsBeside {dd n : Nat} {x1 : Int32} {s : mb_T} {out : Int32 × mb_T}  (h : f_A_bitsBeside n x1 s = some out) : mb_MC (dd + 2) yA_bitsBeside bA_bitsBeside 2 (some .int) [.ref 40, .int x1] s (some (.int out.1)) out.2 := by
  unfold f_A_bitsBeside at h
  refine mj_mc (lv := [.ref 40, .int x1]) mA_bitsBeside rfl rfl (Nat.le_of_ble_eq_true rfl) (fun K hK hR => ?_)
  have hK : mj_C (dd + 2) 0 0 RA_c "bitsBeside" bA_bitsBeside 2 K := hK
  refine ro_aload_n hK dA_bitsBeside_0 rfl ?_
  refine ro_iload_n hK dA_bitsBeside_1 rfl ?_
  obtain ⟨r_3, s_1, q_2, h⟩ := mb_cl_e h
  refine rb_callV hK mA_isHere vA_103 (t_A_isHere (dd := dd + 0) q_2) rfl mb_oA rfl (Nat.le_of_ble_eq_true rfl) dA_bitsBeside_2 rfl ⟨Nat.le_refl _, Nat.le_refl _⟩ ?_
  show K 0 0 5 [.ref 40, .int x1] [.int r_3] (mb_s s_1)
  refine ro_if_eq (tgt := 17) hK dA_bitsBeside_5 (by decide) (fun c_4 => ?_) (fun c_4 => ?_)
  · replace h := mb_ift c_4 h
    refine ro_iconst (x := 0) hK (by decide) dA_bitsBeside_17 ?_
    cases h
    exact hR.1 0 0 18 _ _ _ _ rfl rfl dA_bitsBeside_18 ⟨rfl, rfl⟩
  · replace h := mb_iff c_4 h
    refine ro_aload_n hK dA_bitsBeside_8 rfl ?_
    refine rb_get hK fA_30 mb_oA rfl dA_bitsBeside_9 ?_
    refine ro_iload_n hK dA_bitsBeside_12 rfl ?_
    obtain ⟨x_5, e_6, i_7, h⟩ := mb_rd_e h
    refine rb_iald hK ai_53 i_7 e_6 dA_bitsBeside_13 ?_
    refine ro_goto (tgt := 18) hK dA_bitsBeside_14 (by decide) ?_
    cases h
    exact hR.1 0 0 18 _ _ _ _ rfl rfl dA_bitsBeside_18 ⟨rfl, rfl⟩
theorem dA_countCalmBeside_0 : decode bA_countCalmBeside 0 = .ok (.iconst 0, 1) := by decide +kernel
theorem dA_countCalmBeside_1 : decode bA_countCalmBeside 1 = .ok (.istore_n 1, 1) := by decide +kernel
theorem dA_countCalmBeside_2 : decode bA_countCalmBeside 2 = .ok (.iconst 0, 1) := by decide +kernel
theorem dA_countCalmBeside_3 : decode bA_countCalmBeside 3 = .ok (.istore_n 2, 1) := by decide +kernel
theorem dA_countCalmBeside_4 : decode bA_countCalmBeside 4 = .ok (.iload_n 2, 1) := by decide +kernel
theorem dA_countCalmBeside_5 : decode bA_countCalmBeside 5 = .ok (.aload_n 0, 1) := by decide +kernel
theorem dA_countCalmBeside_6 : decode bA_countCalmBeside 6 = .ok (.getfield 48, 3) := by decide +kernel
theorem dA_countCalmBeside_9 : decode bA_countCalmBeside 9 = .ok (.if_icmp .ge 32, 3) := by decide +kernel
theorem dA_countCalmBeside_12 : decode bA_countCalmBeside 12 = .ok (.iload_n 1, 1) := by decide +kernel
theorem dA_countCalmBeside_13 : decode bA_countCalmBeside 13 = .ok (.aload_n 0, 1) := by decide +kernel
theorem dA_countCalmBeside_14 : decode bA_countCalmBeside 14 = .ok (.getfield 9, 3) := by decide +kernel
theorem dA_countCalmBeside_17 : decode bA_countCalmBeside 17 = .ok (.iload_n 2, 1) := by decide +kernel
theorem dA_countCalmBeside_18 : decode bA_countCalmBeside 18 = .ok (.iaload, 1) := by decide +kernel
theorem dA_countCalmBeside_19 : decode bA_countCalmBeside 19 = .ok (.iconst 1, 1) := by decide +kernel
theorem dA_countCalmBeside_20 : decode bA_countCalmBeside 20 = .ok (.invokestatic 107, 3) := by decide +kernel
theorem dA_countCalmBeside_23 : decode bA_countCalmBeside 23 = .ok (.ifCond .eq 9, 3) := by decide +kernel
theorem dA_countCalmBeside_26 : decode bA_countCalmBeside 26 = .ok (.iconst 1, 1) := by decide +kernel
theorem dA_countCalmBeside_27 : decode bA_countCalmBeside 27 = .ok (.iload_n 2, 1) := by decide +kernel
theorem dA_countCalmBeside_28 : decode bA_countCalmBeside 28 = .ok (.ishl, 1) := by decide +kernel
theorem dA_countCalmBeside_29 : decode bA_countCalmBeside 29 = .ok (.goto 4, 3) := by decide +kernel
theorem dA_countCalmBeside_32 : decode bA_countCalmBeside 32 = .ok (.iconst 0, 1) := by decide +kernel
theorem dA_countCalmBeside_33 : decode bA_countCalmBeside 33 = .ok (.ior, 1) := by decide +kernel
theorem dA_countCalmBeside_34 : decode bA_countCalmBeside 34 = .ok (.istore_n 1, 1) := by decide +kernel
theorem dA_countCalmBeside_35 : decode bA_countCalmBeside 35 = .ok (.iinc 2 1, 3) := by decide +kernel
theorem dA_countCalmBeside_38 : decode bA_countCalmBeside 38 = .ok (.goto (-34), 3) := by decide +kernel
theorem dA_countCalmBeside_41 : decode bA_countCalmBeside 41 = .ok (.iconst 0, 1) := by decide +kernel
theorem dA_countCalmBeside_42 : decode bA_countCalmBeside 42 = .ok (.istore_n 2, 1) := by decide +kernel
theorem dA_countCalmBeside_43 : decode bA_countCalmBeside 43 = .ok (.iload_n 2, 1) := by decide +kernel
theorem dA_countCalmBeside_44 : decode bA_countCalmBeside 44 = .ok (.aload_n 0, 1) := by decide +kernel
theorem dA_countCalmBeside_45 : decode bA_countCalmBeside 45 = .ok (.getfield 48, 3) := by decide +kernel
theorem dA_countCalmBeside_48 : decode bA_countCalmBeside 48 = .ok (.if_icmp .ge 26, 3) := by decide +kernel
theorem dA_countCalmBeside_51 : decode bA_countCalmBeside 51 = .ok (.aload_n 0, 1) := by decide +kernel
theorem dA_countCalmBeside_52 : decode bA_countCalmBeside 52 = .ok (.getfield 33, 3) := by decide +kernel
theorem dA_countCalmBeside_55 : decode bA_countCalmBeside 55 = .ok (.iload_n 2, 1) := by decide +kernel
theorem dA_countCalmBeside_56 : decode bA_countCalmBeside 56 = .ok (.aload_n 0, 1) := by decide +kernel
theorem dA_countCalmBeside_57 : decode bA_countCalmBeside 57 = .ok (.getfield 30, 3) := by decide +kernel
theorem dA_countCalmBeside_60 : decode bA_countCalmBeside 60 = .ok (.iload_n 2, 1) := by decide +kernel
theorem dA_countCalmBeside_61 : decode bA_countCalmBeside 61 = .ok (.iaload, 1) := by decide +kernel
theorem dA_countCalmBeside_62 : decode bA_countCalmBeside 62 = .ok (.iload_n 1, 1) := by decide +kernel
theorem dA_countCalmBeside_63 : decode bA_countCalmBeside 63 = .ok (.iand, 1) := by decide +kernel
theorem dA_countCalmBeside_64 : decode bA_countCalmBeside 64 = .ok (.invokestatic 111, 3) := by decide +kernel
theorem dA_countCalmBeside_67 : decode bA_countCalmBeside 67 = .ok (.iastore, 1) := by decide +kernel
theorem dA_countCalmBeside_68 : decode bA_countCalmBeside 68 = .ok (.iinc 2 1, 3) := by decide +kernel
theorem dA_countCalmBeside_71 : decode bA_countCalmBeside 71 = .ok (.goto (-28), 3) := by decide +kernel
theorem dA_countCalmBeside_74 : decode bA_countCalmBeside 74 = .ok (.return_, 1) := by decide +kernel
def f_A_countCalmBeside_4 (n : Nat) (k0 : Int32 → Int32 → mb_T → Option (mb_T))  : Nat → Int32 → Int32 → mb_T → Option (mb_T)
  | 0, _, _, _ => none
  | f + 1, w1, w2, s => if (s.1 40 0) ≤ w2 then k0 w1 w2 s else mb_rd s 47 5 w2 fun x_2 => mb_cl (f_C_isOfKind n x_2 1 s) fun r_7 s_5 => f_A_countCalmBeside_4 n k0 f (w1 ||| (if r_7 = 0 then 0 else (1 <<< (w2 &&& 31)) : Int32)) (w2 + 1) s_5
def f_A_countCalmBeside_43 (n : Nat) (k0 : Int32 → mb_T → Option (mb_T)) (y1 : Int32) : Nat → Int32 → mb_T → Option (mb_T)
  | 0, _, _ => none
  | f + 1, w2, s => if (s.1 40 0) ≤ w2 then k0 w2 s else mb_rd s 53 5 w2 fun x_14 => mb_cl (f_I_bitCount n (x_14 &&& y1) s) fun r_19 s_17 => mb_wr s_17 54 5 w2 r_19 fun s_20 => f_A_countCalmBeside_43 n k0 y1 f (w2 + 1) s_20
def f_A_countCalmBeside (n : Nat)  (s : mb_T) : Option (mb_T) := f_A_countCalmBeside_4 n (fun x_10 x_11 s_12 => f_A_countCalmBeside_43 n (fun x_23 s_24 => some s_24) x_10 n 0 s_12) n 0 0 s
set_option maxHeartbeats 4000000 in
set_option maxRecDepth 100000 in
theorem tl_A_countCalmBeside_4 {dd n : Nat} {K : mj_KT} {out : mb_T} (hK : mj_C (dd + 2) 0 0 RA_c "countCalmBeside" bA_countCalmBeside 3 K) (hR : mj_R bA_countCalmBeside none (fun r2 S2 => r2 = none ∧ S2 = mb_s out) K) {k0 : Int32 → Int32 → mb_T → Option (mb_T)}  (hk0 : ∀ (w1 : Int32) (w2 : Int32) (s : mb_T), k0 w1 w2 s = some out → K 0 0 41 [.ref 40, .int w1, .int w2] [] (mb_s s)) : ∀ (f : Nat) (w1 : Int32) (w2 : Int32) (s : mb_T), f_A_countCalmBeside_4 n k0 f w1 w2 s = some out → K 0 0 4 [.ref 40, .int w1, .int w2] [] (mb_s s) := by
  intro f
  induction f with
  | zero =>
    intro w1 w2 s h
    cases h
  | succ f ih =>
    intro w1 w2 s h
    rw [f_A_countCalmBeside_4] at h
    refine ro_iload_n hK dA_countCalmBeside_4 rfl ?_
    refine ro_aload_n hK dA_countCalmBeside_5 rfl ?_
    refine rb_get hK fA_48 mb_oA rfl dA_countCalmBeside_6 ?_
    refine ro_icmp_ge (tgt := 41) hK dA_countCalmBeside_9 (by decide) (fun c_1 => ?_) (fun c_1 => ?_)
    · replace h := mb_ift c_1 h
      refine ro_fg (lv' := [.ref 40, .int w1, .int w2]) hK ⟨Or.inr rfl, ⟨Or.inr rfl, ⟨Or.inr rfl, trivial⟩⟩⟩ ?_
      exact hk0 _ _ _ h
    · replace h := mb_iff c_1 h
      refine ro_iload_n hK dA_countCalmBeside_12 rfl ?_
      refine ro_aload_n hK dA_countCalmBeside_13 rfl ?_
      refine rb_get hK fA_9 mb_oA rfl dA_countCalmBeside_14 ?_
      refine ro_iload_n hK dA_countCalmBeside_17 rfl ?_
      obtain ⟨x_2, e_3, i_4, h⟩ := mb_rd_e h
      refine rb_iald hK ai_47 i_4 e_3 dA_countCalmBeside_18 ?_
      refine ro_iconst (x := 1) hK (by decide) dA_countCalmBeside_19 ?_
      obtain ⟨r_7, s_5, q_6, h⟩ := mb_cl_e h
      refine rb_callSN hK (host := RC_c) mC_isOfKind (by decide +kernel) vC_isOfKind_st (t_C_isOfKind (dd := dd + 0) q_6) rfl (Nat.le_of_ble_eq_true rfl) dA_countCalmBeside_20 rfl ⟨Nat.le_refl _, Nat.le_refl _⟩ ?_
      show K 0 0 23 [.ref 40, .int w1, .int w2] [.int r_7, .int w1] (mb_s s_5)
      have j_9 : ∀ w_ : Int32, w_ = (if r_7 = 0 then 0 else (1 <<< (w2 &&& 31)) : Int32) → K 0 0 33 [.ref 40, .int w1, .int w2] [.int w_, .int w1] (mb_s s_5) → K 0 0 23 [.ref 40, .int w1, .int w2] [.int r_7, .int w1] (mb_s s_5) := by
        intro w_ hw hj
        refine ro_if_eq (tgt := 32) hK dA_countCalmBeside_23 (by decide) (fun c_8 => ?_) (fun c_8 => ?_)
        · skip
          refine ro_iconst (x := 0) hK (by decide) dA_countCalmBeside_32 ?_
          have hw := (hw.trans (if_pos c_8))
          subst hw
          exact hj
        · skip
          refine ro_iconst (x := 1) hK (by decide) dA_countCalmBeside_26 ?_
          refine ro_iload_n hK dA_countCalmBeside_27 rfl ?_
          refine ro_ishl hK dA_countCalmBeside_28 ?_
          refine ro_goto (tgt := 33) hK dA_countCalmBeside_29 (by decide) ?_
          have hw := (hw.trans (if_neg c_8))
          subst hw
          exact hj
      refine j_9 _ rfl ?_
      refine ro_ior hK dA_countCalmBeside_33 ?_
      refine ro_istore_n hK dA_countCalmBeside_34 (by decide) ?_
      show K 0 0 35 [.ref 40, .int (w1 ||| (if r_7 = 0 then 0 else (1 <<< (w2 &&& 31)) : Int32)), .int w2] [] (mb_s s_5)
      refine ro_iincv (c := 1) hK (by decide) dA_countCalmBeside_35 rfl (by decide) ?_
      show K 0 0 38 [.ref 40, .int (w1 ||| (if r_7 = 0 then 0 else (1 <<< (w2 &&& 31)) : Int32)), .int (w2 + 1)] [] (mb_s s_5)
      refine ro_goto (tgt := 4) hK dA_countCalmBeside_38 (by decide) ?_
      refine ro_fg (lv' := [.ref 40, .int (w1 ||| (if r_7 = 0 then 0 else (1 <<< (w2 &&& 31)) : Int32)), .int (w2 + 1)]) hK ⟨Or.inr rfl, ⟨Or.inr rfl, ⟨Or.inr rfl, trivial⟩⟩⟩ ?_
      exact ih _ _ _ h
set_option maxHeartbeats 4000000 in
set_option maxRecDepth 100000 in
theorem tl_A_countCalmBeside_43 {dd n : Nat} {K : mj_KT} {out : mb_T} (hK : mj_C (dd + 2) 0 0 RA_c "countCalmBeside" bA_countCalmBeside 3 K) (hR : mj_R bA_countCalmBeside none (fun r2 S2 => r2 = none ∧ S2 = mb_s out) K) {k0 : Int32 → mb_T → Option (mb_T)} {y1 : Int32} (hk0 : ∀ (w2 : Int32) (s : mb_T), k0 w2 s = some out → K 0 0 74 [.ref 40, .int y1, .int w2] [] (mb_s s)) : ∀ (f : Nat) (w2 : Int32) (s : mb_T), f_A_countCalmBeside_43 n k0 y1 f w2 s = some out → K 0 0 43 [.ref 40, .int y1, .int w2] [] (mb_s s) := by
  intro f
  induction f with
  | zero =>
    intro w2 s h
    cases h
  | succ f ih =>
    intro w2 s h
    rw [f_A_countCalmBeside_43] at h
    refine ro_iload_n hK dA_countCalmBeside_43 rfl ?_
    refine ro_aload_n hK dA_countCalmBeside_44 rfl ?_
    refine rb_get hK fA_48 mb_oA rfl dA_countCalmBeside_45 ?_
    refine ro_icmp_ge (tgt := 74) hK dA_countCalmBeside_48 (by decide) (fun c_13 => ?_) (fun c_13 => ?_)
    · replace h := mb_ift c_13 h
      refine ro_fg (lv' := [.ref 40, .int y1, .int w2]) hK ⟨Or.inr rfl, ⟨Or.inr rfl, ⟨Or.inr rfl, trivial⟩⟩⟩ ?_
      exact hk0 _ _ h
    · replace h := mb_iff c_13 h
      refine ro_aload_n hK dA_countCalmBeside_51 rfl ?_
      refine rb_get hK fA_33 mb_oA rfl dA_countCalmBeside_52 ?_
      refine ro_iload_n hK dA_countCalmBeside_55 rfl ?_
      refine ro_aload_n hK dA_countCalmBeside_56 rfl ?_
      refine rb_get hK fA_30 mb_oA rfl dA_countCalmBeside_57 ?_
      refine ro_iload_n hK dA_countCalmBeside_60 rfl ?_
      obtain ⟨x_14, e_15, i_16, h⟩ := mb_rd_e h
      refine rb_iald hK ai_53 i_16 e_15 dA_countCalmBeside_61 ?_
      refine ro_iload_n hK dA_countCalmBeside_62 rfl ?_
      refine ro_iand hK dA_countCalmBeside_63 ?_
      obtain ⟨r_19, s_17, q_18, h⟩ := mb_cl_e h
      refine rb_callS hK mI_bitCount vA_111 (t_I_bitCount (dd := dd + 0) q_18) rfl (Nat.le_of_ble_eq_true rfl) dA_countCalmBeside_64 rfl ⟨Nat.le_refl _, Nat.le_refl _⟩ ?_
      show K 0 0 67 [.ref 40, .int y1, .int w2] [.int r_19, .int w2, .ref 54] (mb_s s_17)
      obtain ⟨s_20, e_21, i_22, h⟩ := mb_wr_e h
      refine rb_iast hK ai_54 i_22 e_21 dA_countCalmBeside_67 ?_
      refine ro_iincv (c := 1) hK (by decide) dA_countCalmBeside_68 rfl (by decide) ?_
      show K 0 0 71 [.ref 40, .int y1, .int (w2 + 1)] [] (mb_s s_20)
      refine ro_goto (tgt := 43) hK dA_countCalmBeside_71 (by decide) ?_
      refine ro_fg (lv' := [.ref 40, .int y1, .int (w2 + 1)]) hK ⟨Or.inr rfl, ⟨Or.inr rfl, ⟨Or.inr rfl, trivial⟩⟩⟩ ?_
      exact ih _ _ h
set_option maxHeartbeats 4000000 in
set_option maxRecDepth 100000 in
theorem t_A_countCalmBeside {dd n : Nat}  {s : mb_T} {out : mb_T}  (h : f_A_countCalmBeside n  s = some out) : mb_MC (dd + 2) yA_countCalmBeside bA_countCalmBeside 3 none [.ref 40] s none out := by
  unfold f_A_countCalmBeside at h
  refine mj_mc (lv := [.ref 40, .retAddr 0, .retAddr 0]) mA_countCalmBeside rfl rfl (Nat.le_of_ble_eq_true rfl) (fun K hK hR => ?_)
  have hK : mj_C (dd + 2) 0 0 RA_c "countCalmBeside" bA_countCalmBeside 3 K := hK
  refine ro_iconst (x := 0) hK (by decide) dA_countCalmBeside_0 ?_
  refine ro_istore_n hK dA_countCalmBeside_1 (by decide) ?_
  show K 0 0 2 [.ref 40, .int 0, .retAddr 0] [] (mb_s s)
  refine ro_iconst (x := 0) hK (by decide) dA_countCalmBeside_2 ?_
  refine ro_istore_n hK dA_countCalmBeside_3 (by decide) ?_
  show K 0 0 4 [.ref 40, .int 0, .int 0] [] (mb_s s)
  refine ro_fg (lv' := [.ref 40, .int 0, .int 0]) hK ⟨Or.inr rfl, ⟨Or.inr rfl, ⟨Or.inr rfl, trivial⟩⟩⟩ ?_
  refine tl_A_countCalmBeside_4 (dd := dd) hK hR (fun x_10 x_11 s_12 h => ?_) n _ _ _ h
  refine ro_iconst (x := 0) hK (by decide) dA_countCalmBeside_41 ?_
  refine ro_istore_n hK dA_countCalmBeside_42 (by decide) ?_
  show K 0 0 43 [.ref 40, .int x_10, .int 0] [] (mb_s s_12)
  refine ro_fg (lv' := [.ref 40, .int x_10, .int 0]) hK ⟨Or.inr rfl, ⟨Or.inr rfl, ⟨Or.inr rfl, trivial⟩⟩⟩ ?_
  refine tl_A_countCalmBeside_43 (dd := dd) hK hR (fun x_23 s_24 h => ?_) n _ _ h
  cases h
  exact hR.2.2 0 0 74 _ _ rfl dA_countCalmBeside_74 ⟨rfl, rfl⟩
theorem dA_greatestFear_0 : decode bA_greatestFear 0 = .ok (.aload_n 0, 1) := by decide +kernel
theorem dA_greatestFear_1 : decode bA_greatestFear 1 = .ok (.invokevirtual 157, 3) := by decide +kernel
theorem dA_greatestFear_4 : decode bA_greatestFear 4 = .ok (.istore_n 1, 1) := by decide +kernel
theorem dA_greatestFear_5 : decode bA_greatestFear 5 = .ok (.aload_n 0, 1) := by decide +kernel
theorem dA_greatestFear_6 : decode bA_greatestFear 6 = .ok (.iload_n 1, 1) := by decide +kernel
theorem dA_greatestFear_7 : decode bA_greatestFear 7 = .ok (.invokevirtual 103, 3) := by decide +kernel
theorem dA_greatestFear_10 : decode bA_greatestFear 10 = .ok (.ifCond .eq 12, 3) := by decide +kernel
theorem dA_greatestFear_13 : decode bA_greatestFear 13 = .ok (.aload_n 0, 1) := by decide +kernel
theorem dA_greatestFear_14 : decode bA_greatestFear 14 = .ok (.getfield 15, 3) := by decide +kernel
theorem dA_greatestFear_17 : decode bA_greatestFear 17 = .ok (.iload_n 1, 1) := by decide +kernel
theorem dA_greatestFear_18 : decode bA_greatestFear 18 = .ok (.iaload, 1) := by decide +kernel
theorem dA_greatestFear_19 : decode bA_greatestFear 19 = .ok (.goto 4, 3) := by decide +kernel
theorem dA_greatestFear_22 : decode bA_greatestFear 22 = .ok (.iconst 0, 1) := by decide +kernel
theorem dA_greatestFear_23 : decode bA_greatestFear 23 = .ok (.ireturn, 1) := by decide +kernel
def f_A_greatestFear (n : Nat)  (s : mb_T) : Option (Int32 × mb_T) := mb_cl (f_A_mostAfraid n s) fun r_3 s_1 => mb_cl (f_A_isHere n r_3 s_1) fun r_6 s_4 => if r_6 = 0 then some (0, s_4) else mb_rd s_4 48 5 r_3 fun x_8 => some (x_8, s_4)
set_option maxHeartbeats 4000000 in
set_option maxRecDepth 100000 in
theorem t_A_greatestFear {dd n : Nat}  {s : mb_T} {out : Int32 × mb_T}  (h : f_A_greatestFear n  s = some out) : mb_MC (dd + 2) yA_greatestFear bA_greatestFear 2 (some .int) [.ref 40] s (some (.int out.1)) out.2 := by
  unfold f_A_greatestFear at h
  refine mj_mc (lv := [.ref 40, .retAddr 0]) mA_greatestFear rfl rfl (Nat.le_of_ble_eq_true rfl) (fun K hK hR => ?_)
  have hK : mj_C (dd + 2) 0 0 RA_c "greatestFear" bA_greatestFear 2 K := hK
  refine ro_aload_n hK dA_greatestFear_0 rfl ?_
  obtain ⟨r_3, s_1, q_2, h⟩ := mb_cl_e h
  refine rb_callV hK mA_mostAfraid vA_157 (t_A_mostAfraid (dd := dd + 0) q_2) rfl mb_oA rfl (Nat.le_of_ble_eq_true rfl) dA_greatestFear_1 rfl ⟨Nat.le_refl _, Nat.le_refl _⟩ ?_
  show K 0 0 4 [.ref 40, .retAddr 0] [.int r_3] (mb_s s_1)
  refine ro_istore_n hK dA_greatestFear_4 (by decide) ?_
  show K 0 0 5 [.ref 40, .int r_3] [] (mb_s s_1)
  refine ro_aload_n hK dA_greatestFear_5 rfl ?_
  refine ro_iload_n hK dA_greatestFear_6 rfl ?_
  obtain ⟨r_6, s_4, q_5, h⟩ := mb_cl_e h
  refine rb_callV hK mA_isHere vA_103 (t_A_isHere (dd := dd + 0) q_5) rfl mb_oA rfl (Nat.le_of_ble_eq_true rfl) dA_greatestFear_7 rfl ⟨Nat.le_refl _, Nat.le_refl _⟩ ?_
  show K 0 0 10 [.ref 40, .int r_3] [.int r_6] (mb_s s_4)
  refine ro_if_eq (tgt := 22) hK dA_greatestFear_10 (by decide) (fun c_7 => ?_) (fun c_7 => ?_)
  · replace h := mb_ift c_7 h
    refine ro_iconst (x := 0) hK (by decide) dA_greatestFear_22 ?_
    cases h
    exact hR.1 0 0 23 _ _ _ _ rfl rfl dA_greatestFear_23 ⟨rfl, rfl⟩
  · replace h := mb_iff c_7 h
    refine ro_aload_n hK dA_greatestFear_13 rfl ?_
    refine rb_get hK fA_15 mb_oA rfl dA_greatestFear_14 ?_
    refine ro_iload_n hK dA_greatestFear_17 rfl ?_
    obtain ⟨x_8, e_9, i_10, h⟩ := mb_rd_e h
    refine rb_iald hK ai_48 i_10 e_9 dA_greatestFear_18 ?_
    refine ro_goto (tgt := 23) hK dA_greatestFear_19 (by decide) ?_
    cases h
    exact hR.1 0 0 23 _ _ _ _ rfl rfl dA_greatestFear_23 ⟨rfl, rfl⟩
theorem dA_isOver_0 : decode bA_isOver 0 = .ok (.aload_n 0, 1) := by decide +kernel
theorem dA_isOver_1 : decode bA_isOver 1 = .ok (.invokevirtual 140, 3) := by decide +kernel
theorem dA_isOver_4 : decode bA_isOver 4 = .ok (.ifCond .eq 7, 3) := by decide +kernel
theorem dA_isOver_7 : decode bA_isOver 7 = .ok (.iconst 1, 1) := by decide +kernel
theorem dA_isOver_8 : decode bA_isOver 8 = .ok (.goto 4, 3) := by decide +kernel
theorem dA_isOver_11 : decode bA_isOver 11 = .ok (.iconst 0, 1) := by decide +kernel
theorem dA_isOver_12 : decode bA_isOver 12 = .ok (.ireturn, 1) := by decide +kernel
def f_A_isOver (n : Nat)  (s : mb_T) : Option (Int32 × mb_T) := mb_cl (f_A_whoScream n s) fun r_3 s_1 => mb_bz (if r_3 = 0 then 0 else 1 : Int32) (some ((if r_3 = 0 then 0 else 1 : Int32), s_1))
set_option maxHeartbeats 4000000 in
set_option maxRecDepth 100000 in
theorem t_A_isOver {dd n : Nat}  {s : mb_T} {out : Int32 × mb_T}  (h : f_A_isOver n  s = some out) : mb_MC (dd + 2) yA_isOver bA_isOver 1 (some .boolean) [.ref 40] s (some (.int out.1)) out.2 := by
  unfold f_A_isOver at h
  refine mj_mc (lv := [.ref 40]) mA_isOver rfl rfl (Nat.le_of_ble_eq_true rfl) (fun K hK hR => ?_)
  have hK : mj_C (dd + 2) 0 0 RA_c "isOver" bA_isOver 1 K := hK
  refine ro_aload_n hK dA_isOver_0 rfl ?_
  obtain ⟨r_3, s_1, q_2, h⟩ := mb_cl_e h
  refine rb_callV hK mA_whoScream vA_140 (t_A_whoScream (dd := dd + 0) q_2) rfl mb_oA rfl (Nat.le_of_ble_eq_true rfl) dA_isOver_1 rfl ⟨Nat.le_refl _, Nat.le_refl _⟩ ?_
  show K 0 0 4 [.ref 40] [.int r_3] (mb_s s_1)
  have j_5 : ∀ w_ : Int32, w_ = (if r_3 = 0 then 0 else 1 : Int32) → K 0 0 12 [.ref 40] [.int w_] (mb_s s_1) → K 0 0 4 [.ref 40] [.int r_3] (mb_s s_1) := by
    intro w_ hw hj
    refine ro_if_eq (tgt := 11) hK dA_isOver_4 (by decide) (fun c_4 => ?_) (fun c_4 => ?_)
    · skip
      refine ro_iconst (x := 0) hK (by decide) dA_isOver_11 ?_
      have hw := (hw.trans (if_pos c_4))
      subst hw
      exact hj
    · skip
      refine ro_iconst (x := 1) hK (by decide) dA_isOver_7 ?_
      refine ro_goto (tgt := 12) hK dA_isOver_8 (by decide) ?_
      have hw := (hw.trans (if_neg c_4))
      subst hw
      exact hj
  refine j_5 _ rfl ?_
  obtain ⟨z_6, h⟩ := mb_bz_e h
  cases h
  exact hR.1 0 0 12 _ _ _ _ rfl (mb_nz z_6) dA_isOver_12 ⟨rfl, rfl⟩
theorem dA_pass_0 : decode bA_pass 0 = .ok (.aload_n 0, 1) := by decide +kernel
theorem dA_pass_1 : decode bA_pass 1 = .ok (.getfield 57, 3) := by decide +kernel
theorem dA_pass_4 : decode bA_pass 4 = .ok (.ifCond .ne 10, 3) := by decide +kernel
theorem dA_pass_7 : decode bA_pass 7 = .ok (.aload_n 0, 1) := by decide +kernel
theorem dA_pass_8 : decode bA_pass 8 = .ok (.getfield 56, 3) := by decide +kernel
theorem dA_pass_11 : decode bA_pass 11 = .ok (.ifCond .le 7, 3) := by decide +kernel
theorem dA_pass_14 : decode bA_pass 14 = .ok (.iconst 1, 1) := by decide +kernel
theorem dA_pass_15 : decode bA_pass 15 = .ok (.goto 4, 3) := by decide +kernel
theorem dA_pass_18 : decode bA_pass 18 = .ok (.iconst 0, 1) := by decide +kernel
theorem dA_pass_19 : decode bA_pass 19 = .ok (.istore_n 2, 1) := by decide +kernel
theorem dA_pass_20 : decode bA_pass 20 = .ok (.aload_n 0, 1) := by decide +kernel
theorem dA_pass_21 : decode bA_pass 21 = .ok (.getfield 56, 3) := by decide +kernel
theorem dA_pass_24 : decode bA_pass 24 = .ok (.ifCond .le 20, 3) := by decide +kernel
theorem dA_pass_27 : decode bA_pass 27 = .ok (.aload_n 0, 1) := by decide +kernel
theorem dA_pass_28 : decode bA_pass 28 = .ok (.getfield 57, 3) := by decide +kernel
theorem dA_pass_31 : decode bA_pass 31 = .ok (.ifCond .ne 13, 3) := by decide +kernel
theorem dA_pass_34 : decode bA_pass 34 = .ok (.aload_n 0, 1) := by decide +kernel
theorem dA_pass_35 : decode bA_pass 35 = .ok (.dup, 1) := by decide +kernel
theorem dA_pass_36 : decode bA_pass 36 = .ok (.getfield 56, 3) := by decide +kernel
theorem dA_pass_39 : decode bA_pass 39 = .ok (.iconst 1, 1) := by decide +kernel
theorem dA_pass_40 : decode bA_pass 40 = .ok (.isub, 1) := by decide +kernel
theorem dA_pass_41 : decode bA_pass 41 = .ok (.putfield 56, 3) := by decide +kernel
theorem dA_pass_44 : decode bA_pass 44 = .ok (.iconst 0, 1) := by decide +kernel
theorem dA_pass_45 : decode bA_pass 45 = .ok (.istore_n 3, 1) := by decide +kernel
theorem dA_pass_46 : decode bA_pass 46 = .ok (.iload_n 3, 1) := by decide +kernel
theorem dA_pass_47 : decode bA_pass 47 = .ok (.aload_n 0, 1) := by decide +kernel
theorem dA_pass_48 : decode bA_pass 48 = .ok (.getfield 48, 3) := by decide +kernel
theorem dA_pass_51 : decode bA_pass 51 = .ok (.if_icmp .ge 118, 3) := by decide +kernel
theorem dA_pass_54 : decode bA_pass 54 = .ok (.aload_n 0, 1) := by decide +kernel
theorem dA_pass_55 : decode bA_pass 55 = .ok (.getfield 15, 3) := by decide +kernel
theorem dA_pass_58 : decode bA_pass 58 = .ok (.iload_n 3, 1) := by decide +kernel
theorem dA_pass_59 : decode bA_pass 59 = .ok (.iaload, 1) := by decide +kernel
theorem dA_pass_60 : decode bA_pass 60 = .ok (.aload_n 0, 1) := by decide +kernel
theorem dA_pass_61 : decode bA_pass 61 = .ok (.getfield 33, 3) := by decide +kernel
theorem dA_pass_64 : decode bA_pass 64 = .ok (.iload_n 3, 1) := by decide +kernel
theorem dA_pass_65 : decode bA_pass 65 = .ok (.iaload, 1) := by decide +kernel
theorem dA_pass_66 : decode bA_pass 66 = .ok (.isub, 1) := by decide +kernel
theorem dA_pass_67 : decode bA_pass 67 = .ok (.istore 4, 2) := by decide +kernel
theorem dA_pass_69 : decode bA_pass 69 = .ok (.iload_n 2, 1) := by decide +kernel
theorem dA_pass_70 : decode bA_pass 70 = .ok (.ifCond .eq 22, 3) := by decide +kernel
theorem dA_pass_73 : decode bA_pass 73 = .ok (.iload_n 3, 1) := by decide +kernel
theorem dA_pass_74 : decode bA_pass 74 = .ok (.iload_n 1, 1) := by decide +kernel
theorem dA_pass_75 : decode bA_pass 75 = .ok (.if_icmp .ne 17, 3) := by decide +kernel
theorem dA_pass_78 : decode bA_pass 78 = .ok (.iload 4, 2) := by decide +kernel
theorem dA_pass_80 : decode bA_pass 80 = .ok (.aload_n 0, 1) := by decide +kernel
theorem dA_pass_81 : decode bA_pass 81 = .ok (.getfield 24, 3) := by decide +kernel
theorem dA_pass_84 : decode bA_pass 84 = .ok (.iload_n 3, 1) := by decide +kernel
theorem dA_pass_85 : decode bA_pass 85 = .ok (.iaload, 1) := by decide +kernel
theorem dA_pass_86 : decode bA_pass 86 = .ok (.isub, 1) := by decide +kernel
theorem dA_pass_87 : decode bA_pass 87 = .ok (.istore 4, 2) := by decide +kernel
theorem dA_pass_89 : decode bA_pass 89 = .ok (.goto 57, 3) := by decide +kernel
theorem dA_pass_92 : decode bA_pass 92 = .ok (.iload_n 2, 1) := by decide +kernel
theorem dA_pass_93 : decode bA_pass 93 = .ok (.ifCond .eq 16, 3) := by decide +kernel
theorem dA_pass_96 : decode bA_pass 96 = .ok (.aload_n 0, 1) := by decide +kernel
theorem dA_pass_97 : decode bA_pass 97 = .ok (.getfield 30, 3) := by decide +kernel
theorem dA_pass_100 : decode bA_pass 100 = .ok (.iload_n 3, 1) := by decide +kernel
theorem dA_pass_101 : decode bA_pass 101 = .ok (.iaload, 1) := by decide +kernel
theorem dA_pass_102 : decode bA_pass 102 = .ok (.iload_n 1, 1) := by decide +kernel
theorem dA_pass_103 : decode bA_pass 103 = .ok (.ishr, 1) := by decide +kernel
theorem dA_pass_104 : decode bA_pass 104 = .ok (.iconst 1, 1) := by decide +kernel
theorem dA_pass_105 : decode bA_pass 105 = .ok (.iand, 1) := by decide +kernel
theorem dA_pass_106 : decode bA_pass 106 = .ok (.ifCond .ne 40, 3) := by decide +kernel
theorem dA_pass_109 : decode bA_pass 109 = .ok (.iload 4, 2) := by decide +kernel
theorem dA_pass_111 : decode bA_pass 111 = .ok (.aload_n 0, 1) := by decide +kernel
theorem dA_pass_112 : decode bA_pass 112 = .ok (.getfield 21, 3) := by decide +kernel
theorem dA_pass_115 : decode bA_pass 115 = .ok (.iload_n 3, 1) := by decide +kernel
theorem dA_pass_116 : decode bA_pass 116 = .ok (.iaload, 1) := by decide +kernel
theorem dA_pass_117 : decode bA_pass 117 = .ok (.aload_n 0, 1) := by decide +kernel
theorem dA_pass_118 : decode bA_pass 118 = .ok (.getfield 9, 3) := by decide +kernel
theorem dA_pass_121 : decode bA_pass 121 = .ok (.iload_n 3, 1) := by decide +kernel
theorem dA_pass_122 : decode bA_pass 122 = .ok (.iaload, 1) := by decide +kernel
theorem dA_pass_123 : decode bA_pass 123 = .ok (.iconst 2, 1) := by decide +kernel
theorem dA_pass_124 : decode bA_pass 124 = .ok (.if_icmp .ne 17, 3) := by decide +kernel
theorem dA_pass_127 : decode bA_pass 127 = .ok (.aload_n 0, 1) := by decide +kernel
theorem dA_pass_128 : decode bA_pass 128 = .ok (.iload_n 3, 1) := by decide +kernel
theorem dA_pass_129 : decode bA_pass 129 = .ok (.aload_n 0, 1) := by decide +kernel
theorem dA_pass_130 : decode bA_pass 130 = .ok (.getfield 30, 3) := by decide +kernel
theorem dA_pass_133 : decode bA_pass 133 = .ok (.iload_n 3, 1) := by decide +kernel
theorem dA_pass_134 : decode bA_pass 134 = .ok (.iaload, 1) := by decide +kernel
theorem dA_pass_135 : decode bA_pass 135 = .ok (.invokevirtual 128, 3) := by decide +kernel
theorem dA_pass_138 : decode bA_pass 138 = .ok (.goto 4, 3) := by decide +kernel
theorem dA_pass_141 : decode bA_pass 141 = .ok (.iconst 0, 1) := by decide +kernel
theorem dA_pass_142 : decode bA_pass 142 = .ok (.iadd, 1) := by decide +kernel
theorem dA_pass_143 : decode bA_pass 143 = .ok (.iadd, 1) := by decide +kernel
theorem dA_pass_144 : decode bA_pass 144 = .ok (.istore 4, 2) := by decide +kernel
theorem dA_pass_146 : decode bA_pass 146 = .ok (.aload_n 0, 1) := by decide +kernel
theorem dA_pass_147 : decode bA_pass 147 = .ok (.getfield 18, 3) := by decide +kernel
theorem dA_pass_150 : decode bA_pass 150 = .ok (.iload_n 3, 1) := by decide +kernel
theorem dA_pass_151 : decode bA_pass 151 = .ok (.iload 4, 2) := by decide +kernel
theorem dA_pass_153 : decode bA_pass 153 = .ok (.iconst 0, 1) := by decide +kernel
theorem dA_pass_154 : decode bA_pass 154 = .ok (.invokestatic 132, 3) := by decide +kernel
theorem dA_pass_157 : decode bA_pass 157 = .ok (.bipush 99, 2) := by decide +kernel
theorem dA_pass_159 : decode bA_pass 159 = .ok (.invokestatic 137, 3) := by decide +kernel
theorem dA_pass_162 : decode bA_pass 162 = .ok (.iastore, 1) := by decide +kernel
theorem dA_pass_163 : decode bA_pass 163 = .ok (.iinc 3 1, 3) := by decide +kernel
theorem dA_pass_166 : decode bA_pass 166 = .ok (.goto (-120), 3) := by decide +kernel
theorem dA_pass_169 : decode bA_pass 169 = .ok (.aload_n 0, 1) := by decide +kernel
theorem dA_pass_170 : decode bA_pass 170 = .ok (.getfield 18, 3) := by decide +kernel
theorem dA_pass_173 : decode bA_pass 173 = .ok (.iconst 0, 1) := by decide +kernel
theorem dA_pass_174 : decode bA_pass 174 = .ok (.aload_n 0, 1) := by decide +kernel
theorem dA_pass_175 : decode bA_pass 175 = .ok (.getfield 15, 3) := by decide +kernel
theorem dA_pass_178 : decode bA_pass 178 = .ok (.iconst 0, 1) := by decide +kernel
theorem dA_pass_179 : decode bA_pass 179 = .ok (.aload_n 0, 1) := by decide +kernel
theorem dA_pass_180 : decode bA_pass 180 = .ok (.getfield 48, 3) := by decide +kernel
theorem dA_pass_183 : decode bA_pass 183 = .ok (.invokestatic 80, 3) := by decide +kernel
theorem dA_pass_186 : decode bA_pass 186 = .ok (.aload_n 0, 1) := by decide +kernel
theorem dA_pass_187 : decode bA_pass 187 = .ok (.dup, 1) := by decide +kernel
theorem dA_pass_188 : decode bA_pass 188 = .ok (.getfield 64, 3) := by decide +kernel
theorem dA_pass_191 : decode bA_pass 191 = .ok (.iconst 1, 1) := by decide +kernel
theorem dA_pass_192 : decode bA_pass 192 = .ok (.iadd, 1) := by decide +kernel
theorem dA_pass_193 : decode bA_pass 193 = .ok (.putfield 64, 3) := by decide +kernel
theorem dA_pass_196 : decode bA_pass 196 = .ok (.aload_n 0, 1) := by decide +kernel
theorem dA_pass_197 : decode bA_pass 197 = .ok (.iload_n 1, 1) := by decide +kernel
theorem dA_pass_198 : decode bA_pass 198 = .ok (.putfield 69, 3) := by decide +kernel
theorem dA_pass_201 : decode bA_pass 201 = .ok (.return_, 1) := by decide +kernel
def f_A_pass_46 (n : Nat) (k0 : Int32 → mb_T → Option (mb_T)) (y1 : Int32) (y2 : Int32) : Nat → Int32 → mb_T → Option (mb_T)
  | 0, _, _ => none
  | f + 1, w3, s => if (s.1 40 0) ≤ w3 then k0 w3 s else mb_rd s 48 5 w3 fun x_6 => mb_rd s 54 5 w3 fun x_9 => mb_jn (fun (x_41 : Int32) (s_42 : mb_T) => mb_wr s_42 49 5 w3 (if 99 < (if x_41 < 0 then 0 else x_41 : Int32) then 99 else (if x_41 < 0 then 0 else x_41 : Int32) : Int32) fun s_43 => f_A_pass_46 n k0 y1 y2 f (w3 + 1) s_43) fun j_13 => mb_jn (fun (s_19 : mb_T) => mb_jn (fun (s_26 : mb_T) => mb_rd s_26 50 5 w3 fun x_27 => mb_rd s_26 47 5 w3 fun x_30 => if x_30 = 2 then (mb_rd s_26 53 5 w3 fun x_34 => mb_cl (f_A_moreAfraid n w3 x_34 s_26) fun r_39 s_37 => j_13 ((x_6 - x_9) + (x_27 + r_39)) s_37) else j_13 ((x_6 - x_9) + (x_27 + 0)) s_26) fun j_20 => if y2 = 0 then j_20 s_19 else mb_rd s_19 53 5 w3 fun x_22 => if ((x_22 >>> (y1 &&& 31)) &&& 1) = 0 then j_20 s_19 else j_13 (x_6 - x_9) s_19) fun j_12 => if y2 = 0 then j_12 s else if w3 = y1 then (mb_rd s 51 5 w3 fun x_16 => j_13 ((x_6 - x_9) - x_16) s) else j_12 s
def f_A_pass (n : Nat) (x1 : Int32) (s : mb_T) : Option (mb_T) := if (s.1 40 2) ≤ 0 then (f_A_pass_46 n (fun x_48 s_49 => mb_cp s_49 49 5 48 5 0 0 (s_49.1 40 0) fun s_50 => mb_bd (sF s_50 40 4 ((s_50.1 40 4) + 1)) fun s_53 => mb_bd (sF s_53 40 5 x1) fun s_55 => some s_55) x1 (if (s.1 40 3) = 0 then (if (s.1 40 2) ≤ 0 then 0 else 1 : Int32) else 1 : Int32) n 0 s) else if (s.1 40 3) = 0 then (mb_bd (sF s 40 2 ((s.1 40 2) - 1)) fun s_67 => f_A_pass_46 n (fun x_69 s_70 => mb_cp s_70 49 5 48 5 0 0 (s_70.1 40 0) fun s_71 => mb_bd (sF s_71 40 4 ((s_71.1 40 4) + 1)) fun s_74 => mb_bd (sF s_74 40 5 x1) fun s_76 => some s_76) x1 (if (s.1 40 3) = 0 then (if (s.1 40 2) ≤ 0 then 0 else 1 : Int32) else 1 : Int32) n 0 s_67) else f_A_pass_46 n (fun x_58 s_59 => mb_cp s_59 49 5 48 5 0 0 (s_59.1 40 0) fun s_60 => mb_bd (sF s_60 40 4 ((s_60.1 40 4) + 1)) fun s_63 => mb_bd (sF s_63 40 5 x1) fun s_65 => some s_65) x1 (if (s.1 40 3) = 0 then (if (s.1 40 2) ≤ 0 then 0 else 1 : Int32) else 1 : Int32) n 0 s
set_option maxHeartbeats 4000000 in
set_option maxRecDepth 100000 in
theorem tl_A_pass_46 {dd n : Nat} {K : mj_KT} {out : mb_T} (hK : mj_C (dd + 2) 0 0 RA_c "pass" bA_pass 5 K) (hR : mj_R bA_pass none (fun r2 S2 => r2 = none ∧ S2 = mb_s out) K) {k0 : Int32 → mb_T → Option (mb_T)} {y1 : Int32} {y2 : Int32} (hk0 : ∀ (w3 : Int32) (s : mb_T), k0 w3 s = some out → K 0 0 169 [.ref 40, .int y1, .int y2, .int w3, .retAddr 0] [] (mb_s s)) : ∀ (f : Nat) (w3 : Int32) (s : mb_T), f_A_pass_46 n k0 y1 y2 f w3 s = some out → K 0 0 46 [.ref 40, .int y1, .int y2, .int w3, .retAddr 0] [] (mb_s s) := by
  intro f
  induction f with
  | zero =>
    intro w3 s h
    cases h
  | succ f ih =>
    intro w3 s h
    rw [f_A_pass_46] at h
    refine ro_iload_n hK dA_pass_46 rfl ?_
    refine ro_aload_n hK dA_pass_47 rfl ?_
    refine rb_get hK fA_48 mb_oA rfl dA_pass_48 ?_
    refine ro_icmp_ge (tgt := 169) hK dA_pass_51 (by decide) (fun c_5 => ?_) (fun c_5 => ?_)
    · replace h := mb_ift c_5 h
      refine ro_fg (lv' := [.ref 40, .int y1, .int y2, .int w3, .retAddr 0]) hK ⟨Or.inr rfl, ⟨Or.inr rfl, ⟨Or.inr rfl, ⟨Or.inr rfl, ⟨Or.inl rfl, trivial⟩⟩⟩⟩⟩ ?_
      exact hk0 _ _ h
    · replace h := mb_iff c_5 h
      refine ro_aload_n hK dA_pass_54 rfl ?_
      refine rb_get hK fA_15 mb_oA rfl dA_pass_55 ?_
      refine ro_iload_n hK dA_pass_58 rfl ?_
      obtain ⟨x_6, e_7, i_8, h⟩ := mb_rd_e h
      refine rb_iald hK ai_48 i_8 e_7 dA_pass_59 ?_
      refine ro_aload_n hK dA_pass_60 rfl ?_
      refine rb_get hK fA_33 mb_oA rfl dA_pass_61 ?_
      refine ro_iload_n hK dA_pass_64 rfl ?_
      obtain ⟨x_9, e_10, i_11, h⟩ := mb_rd_e h
      refine rb_iald hK ai_54 i_11 e_10 dA_pass_65 ?_
      refine ro_isub hK dA_pass_66 ?_
      refine ro_istore hK dA_pass_67 (by decide) ?_
      show K 0 0 69 [.ref 40, .int y1, .int y2, .int w3, .int (x_6 - x_9)] [] (mb_s s)
      refine ro_iload_n hK dA_pass_69 rfl ?_
      obtain ⟨j_13, e_47, h⟩ := mb_jn_e h
      have hj_13 : ∀ (x_41 : Int32) (s_42 : mb_T), j_13 x_41 s_42 = some out → K 0 0 146 [.ref 40, .int y1, .int y2, .int w3, .int x_41] [] (mb_s s_42) := by
        intro x_41 s_42 h
        rw [e_47] at h
        refine ro_aload_n hK dA_pass_146 rfl ?_
        refine rb_get hK fA_18 mb_oA rfl dA_pass_147 ?_
        refine ro_iload_n hK dA_pass_150 rfl ?_
        refine ro_iload hK dA_pass_151 rfl ?_
        refine ro_iconst (x := 0) hK (by decide) dA_pass_153 ?_
        refine ro_mmax hK vA_132 (by omega) (Nat.le_of_ble_eq_true rfl) dA_pass_154 ?_
        refine ro_bipush (x := 99) hK (by decide) dA_pass_157 ?_
        refine ro_mmin hK vA_137 (by omega) (Nat.le_of_ble_eq_true rfl) dA_pass_159 ?_
        obtain ⟨s_43, e_44, i_45, h⟩ := mb_wr_e h
        refine rb_iast hK ai_49 i_45 e_44 dA_pass_162 ?_
        refine ro_iincv (c := 1) hK (by decide) dA_pass_163 rfl (by decide) ?_
        show K 0 0 166 [.ref 40, .int y1, .int y2, .int (w3 + 1), .int x_41] [] (mb_s s_43)
        refine ro_goto (tgt := 46) hK dA_pass_166 (by decide) ?_
        refine ro_fg (lv' := [.ref 40, .int y1, .int y2, .int (w3 + 1), .retAddr 0]) hK ⟨Or.inr rfl, ⟨Or.inr rfl, ⟨Or.inr rfl, ⟨Or.inr rfl, ⟨Or.inl rfl, trivial⟩⟩⟩⟩⟩ ?_
        exact ih _ _ h
      obtain ⟨j_12, e_46, h⟩ := mb_jn_e h
      have hj_12 : ∀ (s_19 : mb_T), j_12 s_19 = some out → K 0 0 92 [.ref 40, .int y1, .int y2, .int w3, .int (x_6 - x_9)] [] (mb_s s_19) := by
        intro s_19 h
        rw [e_46] at h
        refine ro_iload_n hK dA_pass_92 rfl ?_
        obtain ⟨j_20, e_40, h⟩ := mb_jn_e h
        have hj_20 : ∀ (s_26 : mb_T), j_20 s_26 = some out → K 0 0 109 [.ref 40, .int y1, .int y2, .int w3, .int (x_6 - x_9)] [] (mb_s s_26) := by
          intro s_26 h
          rw [e_40] at h
          refine ro_iload hK dA_pass_109 rfl ?_
          refine ro_aload_n hK dA_pass_111 rfl ?_
          refine rb_get hK fA_21 mb_oA rfl dA_pass_112 ?_
          refine ro_iload_n hK dA_pass_115 rfl ?_
          obtain ⟨x_27, e_28, i_29, h⟩ := mb_rd_e h
          refine rb_iald hK ai_50 i_29 e_28 dA_pass_116 ?_
          refine ro_aload_n hK dA_pass_117 rfl ?_
          refine rb_get hK fA_9 mb_oA rfl dA_pass_118 ?_
          refine ro_iload_n hK dA_pass_121 rfl ?_
          obtain ⟨x_30, e_31, i_32, h⟩ := mb_rd_e h
          refine rb_iald hK ai_47 i_32 e_31 dA_pass_122 ?_
          refine ro_iconst (x := 2) hK (by decide) dA_pass_123 ?_
          refine ro_icmp_ne (tgt := 141) hK dA_pass_124 (by decide) (fun c_33 => ?_) (fun c_33 => ?_)
          · replace h := mb_iff c_33 h
            refine ro_iconst (x := 0) hK (by decide) dA_pass_141 ?_
            refine ro_iadd hK dA_pass_142 ?_
            refine ro_iadd hK dA_pass_143 ?_
            refine ro_istore hK dA_pass_144 (by decide) ?_
            show K 0 0 146 [.ref 40, .int y1, .int y2, .int w3, .int ((x_6 - x_9) + (x_27 + 0))] [] (mb_s s_26)
            refine ro_fg (lv' := [.ref 40, .int y1, .int y2, .int w3, .int ((x_6 - x_9) + (x_27 + 0))]) hK ⟨Or.inr rfl, ⟨Or.inr rfl, ⟨Or.inr rfl, ⟨Or.inr rfl, ⟨Or.inr rfl, trivial⟩⟩⟩⟩⟩ ?_
            exact hj_13 _ _ h
          · replace h := mb_ift c_33 h
            refine ro_aload_n hK dA_pass_127 rfl ?_
            refine ro_iload_n hK dA_pass_128 rfl ?_
            refine ro_aload_n hK dA_pass_129 rfl ?_
            refine rb_get hK fA_30 mb_oA rfl dA_pass_130 ?_
            refine ro_iload_n hK dA_pass_133 rfl ?_
            obtain ⟨x_34, e_35, i_36, h⟩ := mb_rd_e h
            refine rb_iald hK ai_53 i_36 e_35 dA_pass_134 ?_
            obtain ⟨r_39, s_37, q_38, h⟩ := mb_cl_e h
            refine rb_callV hK mA_moreAfraid vA_128 (t_A_moreAfraid (dd := dd + 0) q_38) rfl mb_oA rfl (Nat.le_of_ble_eq_true rfl) dA_pass_135 rfl ⟨Nat.le_refl _, Nat.le_refl _⟩ ?_
            show K 0 0 138 [.ref 40, .int y1, .int y2, .int w3, .int (x_6 - x_9)] [.int r_39, .int x_27, .int (x_6 - x_9)] (mb_s s_37)
            refine ro_goto (tgt := 142) hK dA_pass_138 (by decide) ?_
            refine ro_iadd hK dA_pass_142 ?_
            refine ro_iadd hK dA_pass_143 ?_
            refine ro_istore hK dA_pass_144 (by decide) ?_
            show K 0 0 146 [.ref 40, .int y1, .int y2, .int w3, .int ((x_6 - x_9) + (x_27 + r_39))] [] (mb_s s_37)
            refine ro_fg (lv' := [.ref 40, .int y1, .int y2, .int w3, .int ((x_6 - x_9) + (x_27 + r_39))]) hK ⟨Or.inr rfl, ⟨Or.inr rfl, ⟨Or.inr rfl, ⟨Or.inr rfl, ⟨Or.inr rfl, trivial⟩⟩⟩⟩⟩ ?_
            exact hj_13 _ _ h
        refine ro_if_eq (tgt := 109) hK dA_pass_93 (by decide) (fun c_21 => ?_) (fun c_21 => ?_)
        · replace h := mb_ift c_21 h
          refine ro_fg (lv' := [.ref 40, .int y1, .int y2, .int w3, .int (x_6 - x_9)]) hK ⟨Or.inr rfl, ⟨Or.inr rfl, ⟨Or.inr rfl, ⟨Or.inr rfl, ⟨Or.inr rfl, trivial⟩⟩⟩⟩⟩ ?_
          exact hj_20 _ h
        · replace h := mb_iff c_21 h
          refine ro_aload_n hK dA_pass_96 rfl ?_
          refine rb_get hK fA_30 mb_oA rfl dA_pass_97 ?_
          refine ro_iload_n hK dA_pass_100 rfl ?_
          obtain ⟨x_22, e_23, i_24, h⟩ := mb_rd_e h
          refine rb_iald hK ai_53 i_24 e_23 dA_pass_101 ?_
          refine ro_iload_n hK dA_pass_102 rfl ?_
          refine ro_ishr hK dA_pass_103 ?_
          refine ro_iconst (x := 1) hK (by decide) dA_pass_104 ?_
          refine ro_iand hK dA_pass_105 ?_
          refine ro_if_ne (tgt := 146) hK dA_pass_106 (by decide) (fun c_25 => ?_) (fun c_25 => ?_)
          · replace h := mb_iff c_25 h
            refine ro_fg (lv' := [.ref 40, .int y1, .int y2, .int w3, .int (x_6 - x_9)]) hK ⟨Or.inr rfl, ⟨Or.inr rfl, ⟨Or.inr rfl, ⟨Or.inr rfl, ⟨Or.inr rfl, trivial⟩⟩⟩⟩⟩ ?_
            exact hj_13 _ _ h
          · replace h := mb_ift c_25 h
            refine ro_fg (lv' := [.ref 40, .int y1, .int y2, .int w3, .int (x_6 - x_9)]) hK ⟨Or.inr rfl, ⟨Or.inr rfl, ⟨Or.inr rfl, ⟨Or.inr rfl, ⟨Or.inr rfl, trivial⟩⟩⟩⟩⟩ ?_
            exact hj_20 _ h
      refine ro_if_eq (tgt := 92) hK dA_pass_70 (by decide) (fun c_14 => ?_) (fun c_14 => ?_)
      · replace h := mb_ift c_14 h
        refine ro_fg (lv' := [.ref 40, .int y1, .int y2, .int w3, .int (x_6 - x_9)]) hK ⟨Or.inr rfl, ⟨Or.inr rfl, ⟨Or.inr rfl, ⟨Or.inr rfl, ⟨Or.inr rfl, trivial⟩⟩⟩⟩⟩ ?_
        exact hj_12 _ h
      · replace h := mb_iff c_14 h
        refine ro_iload_n hK dA_pass_73 rfl ?_
        refine ro_iload_n hK dA_pass_74 rfl ?_
        refine ro_icmp_ne (tgt := 92) hK dA_pass_75 (by decide) (fun c_15 => ?_) (fun c_15 => ?_)
        · replace h := mb_iff c_15 h
          refine ro_fg (lv' := [.ref 40, .int y1, .int y2, .int w3, .int (x_6 - x_9)]) hK ⟨Or.inr rfl, ⟨Or.inr rfl, ⟨Or.inr rfl, ⟨Or.inr rfl, ⟨Or.inr rfl, trivial⟩⟩⟩⟩⟩ ?_
          exact hj_12 _ h
        · replace h := mb_ift c_15 h
          refine ro_iload hK dA_pass_78 rfl ?_
          refine ro_aload_n hK dA_pass_80 rfl ?_
          refine rb_get hK fA_24 mb_oA rfl dA_pass_81 ?_
          refine ro_iload_n hK dA_pass_84 rfl ?_
          obtain ⟨x_16, e_17, i_18, h⟩ := mb_rd_e h
          refine rb_iald hK ai_51 i_18 e_17 dA_pass_85 ?_
          refine ro_isub hK dA_pass_86 ?_
          refine ro_istore hK dA_pass_87 (by decide) ?_
          show K 0 0 89 [.ref 40, .int y1, .int y2, .int w3, .int ((x_6 - x_9) - x_16)] [] (mb_s s)
          refine ro_goto (tgt := 146) hK dA_pass_89 (by decide) ?_
          refine ro_fg (lv' := [.ref 40, .int y1, .int y2, .int w3, .int ((x_6 - x_9) - x_16)]) hK ⟨Or.inr rfl, ⟨Or.inr rfl, ⟨Or.inr rfl, ⟨Or.inr rfl, ⟨Or.inr rfl, trivial⟩⟩⟩⟩⟩ ?_
          exact hj_13 _ _ h
set_option maxHeartbeats 4000000 in
set_option maxRecDepth 100000 in
theorem t_A_pass {dd n : Nat} {x1 : Int32} {s : mb_T} {out : mb_T}  (h : f_A_pass n x1 s = some out) : mb_MC (dd + 2) yA_pass bA_pass 5 none [.ref 40, .int x1] s none out := by
  unfold f_A_pass at h
  refine mj_mc (lv := [.ref 40, .int x1, .retAddr 0, .retAddr 0, .retAddr 0]) mA_pass rfl rfl (Nat.le_of_ble_eq_true rfl) (fun K hK hR => ?_)
  have hK : mj_C (dd + 2) 0 0 RA_c "pass" bA_pass 5 K := hK
  refine ro_aload_n hK dA_pass_0 rfl ?_
  refine rb_get hK fA_57 mb_oA rfl dA_pass_1 ?_
  have j_3 : ∀ w_ : Int32, w_ = (if (s.1 40 3) = 0 then (if (s.1 40 2) ≤ 0 then 0 else 1 : Int32) else 1 : Int32) → K 0 0 19 [.ref 40, .int x1, .retAddr 0, .retAddr 0, .retAddr 0] [.int w_] (mb_s s) → K 0 0 4 [.ref 40, .int x1, .retAddr 0, .retAddr 0, .retAddr 0] [.int (s.1 40 3)] (mb_s s) := by
    intro w_ hw hj
    refine ro_if_ne (tgt := 14) hK dA_pass_4 (by decide) (fun c_1 => ?_) (fun c_1 => ?_)
    · skip
      refine ro_iconst (x := 1) hK (by decide) dA_pass_14 ?_
      refine ro_goto (tgt := 19) hK dA_pass_15 (by decide) ?_
      have hw := (hw.trans (if_neg c_1))
      subst hw
      exact hj
    · skip
      refine ro_aload_n hK dA_pass_7 rfl ?_
      refine rb_get hK fA_56 mb_oA rfl dA_pass_8 ?_
      refine ro_if_le (tgt := 18) hK dA_pass_11 (by decide) (fun c_2 => ?_) (fun c_2 => ?_)
      · skip
        refine ro_iconst (x := 0) hK (by decide) dA_pass_18 ?_
        have hw := ((hw.trans (if_pos c_1)).trans (if_pos c_2))
        subst hw
        exact hj
      · skip
        refine ro_iconst (x := 1) hK (by decide) dA_pass_14 ?_
        refine ro_goto (tgt := 19) hK dA_pass_15 (by decide) ?_
        have hw := ((hw.trans (if_pos c_1)).trans (if_neg c_2))
        subst hw
        exact hj
  refine j_3 _ rfl ?_
  refine ro_istore_n hK dA_pass_19 (by decide) ?_
  show K 0 0 20 [.ref 40, .int x1, .int (if (s.1 40 3) = 0 then (if (s.1 40 2) ≤ 0 then 0 else 1 : Int32) else 1 : Int32), .retAddr 0, .retAddr 0] [] (mb_s s)
  refine ro_aload_n hK dA_pass_20 rfl ?_
  refine rb_get hK fA_56 mb_oA rfl dA_pass_21 ?_
  refine ro_if_le (tgt := 44) hK dA_pass_24 (by decide) (fun c_4 => ?_) (fun c_4 => ?_)
  · replace h := mb_ift c_4 h
    refine ro_iconst (x := 0) hK (by decide) dA_pass_44 ?_
    refine ro_istore_n hK dA_pass_45 (by decide) ?_
    show K 0 0 46 [.ref 40, .int x1, .int (if (s.1 40 3) = 0 then (if (s.1 40 2) ≤ 0 then 0 else 1 : Int32) else 1 : Int32), .int 0, .retAddr 0] [] (mb_s s)
    refine ro_fg (lv' := [.ref 40, .int x1, .int (if (s.1 40 3) = 0 then (if (s.1 40 2) ≤ 0 then 0 else 1 : Int32) else 1 : Int32), .int 0, .retAddr 0]) hK ⟨Or.inr rfl, ⟨Or.inr rfl, ⟨Or.inr rfl, ⟨Or.inr rfl, ⟨Or.inl rfl, trivial⟩⟩⟩⟩⟩ ?_
    refine tl_A_pass_46 (dd := dd) hK hR (fun x_48 s_49 h => ?_) n _ _ h
    refine ro_aload_n hK dA_pass_169 rfl ?_
    refine rb_get hK fA_18 mb_oA rfl dA_pass_170 ?_
    refine ro_iconst (x := 0) hK (by decide) dA_pass_173 ?_
    refine ro_aload_n hK dA_pass_174 rfl ?_
    refine rb_get hK fA_15 mb_oA rfl dA_pass_175 ?_
    refine ro_iconst (x := 0) hK (by decide) dA_pass_178 ?_
    refine ro_aload_n hK dA_pass_179 rfl ?_
    refine rb_get hK fA_48 mb_oA rfl dA_pass_180 ?_
    obtain ⟨s_50, e_51, i_52, h⟩ := mb_cp_e h
    refine rb_copy hK vA_80 (by omega) (Nat.le_of_ble_eq_true rfl) ai_49 ai_48 i_52 e_51 dA_pass_183 ?_
    refine ro_aload_n hK dA_pass_186 rfl ?_
    refine ro_dup hK dA_pass_187 rfl ?_
    refine rb_get hK fA_64 mb_oA rfl dA_pass_188 ?_
    refine ro_iconst (x := 1) hK (by decide) dA_pass_191 ?_
    refine ro_iadd hK dA_pass_192 ?_
    obtain ⟨s_53, e_54, h⟩ := mb_bd_e h
    refine rb_put hK gA_64 mb_oA rfl (by show 4 < 17; decide) rfl rfl e_54 dA_pass_193 ?_
    refine ro_aload_n hK dA_pass_196 rfl ?_
    refine ro_iload_n hK dA_pass_197 rfl ?_
    obtain ⟨s_55, e_56, h⟩ := mb_bd_e h
    refine rb_put hK gA_69 mb_oA rfl (by show 5 < 17; decide) rfl rfl e_56 dA_pass_198 ?_
    cases h
    exact hR.2.2 0 0 201 _ _ rfl dA_pass_201 ⟨rfl, rfl⟩
  · replace h := mb_iff c_4 h
    refine ro_aload_n hK dA_pass_27 rfl ?_
    refine rb_get hK fA_57 mb_oA rfl dA_pass_28 ?_
    refine ro_if_ne (tgt := 44) hK dA_pass_31 (by decide) (fun c_57 => ?_) (fun c_57 => ?_)
    · replace h := mb_iff c_57 h
      refine ro_iconst (x := 0) hK (by decide) dA_pass_44 ?_
      refine ro_istore_n hK dA_pass_45 (by decide) ?_
      show K 0 0 46 [.ref 40, .int x1, .int (if (s.1 40 3) = 0 then (if (s.1 40 2) ≤ 0 then 0 else 1 : Int32) else 1 : Int32), .int 0, .retAddr 0] [] (mb_s s)
      refine ro_fg (lv' := [.ref 40, .int x1, .int (if (s.1 40 3) = 0 then (if (s.1 40 2) ≤ 0 then 0 else 1 : Int32) else 1 : Int32), .int 0, .retAddr 0]) hK ⟨Or.inr rfl, ⟨Or.inr rfl, ⟨Or.inr rfl, ⟨Or.inr rfl, ⟨Or.inl rfl, trivial⟩⟩⟩⟩⟩ ?_
      refine tl_A_pass_46 (dd := dd) hK hR (fun x_58 s_59 h => ?_) n _ _ h
      refine ro_aload_n hK dA_pass_169 rfl ?_
      refine rb_get hK fA_18 mb_oA rfl dA_pass_170 ?_
      refine ro_iconst (x := 0) hK (by decide) dA_pass_173 ?_
      refine ro_aload_n hK dA_pass_174 rfl ?_
      refine rb_get hK fA_15 mb_oA rfl dA_pass_175 ?_
      refine ro_iconst (x := 0) hK (by decide) dA_pass_178 ?_
      refine ro_aload_n hK dA_pass_179 rfl ?_
      refine rb_get hK fA_48 mb_oA rfl dA_pass_180 ?_
      obtain ⟨s_60, e_61, i_62, h⟩ := mb_cp_e h
      refine rb_copy hK vA_80 (by omega) (Nat.le_of_ble_eq_true rfl) ai_49 ai_48 i_62 e_61 dA_pass_183 ?_
      refine ro_aload_n hK dA_pass_186 rfl ?_
      refine ro_dup hK dA_pass_187 rfl ?_
      refine rb_get hK fA_64 mb_oA rfl dA_pass_188 ?_
      refine ro_iconst (x := 1) hK (by decide) dA_pass_191 ?_
      refine ro_iadd hK dA_pass_192 ?_
      obtain ⟨s_63, e_64, h⟩ := mb_bd_e h
      refine rb_put hK gA_64 mb_oA rfl (by show 4 < 17; decide) rfl rfl e_64 dA_pass_193 ?_
      refine ro_aload_n hK dA_pass_196 rfl ?_
      refine ro_iload_n hK dA_pass_197 rfl ?_
      obtain ⟨s_65, e_66, h⟩ := mb_bd_e h
      refine rb_put hK gA_69 mb_oA rfl (by show 5 < 17; decide) rfl rfl e_66 dA_pass_198 ?_
      cases h
      exact hR.2.2 0 0 201 _ _ rfl dA_pass_201 ⟨rfl, rfl⟩
    · replace h := mb_ift c_57 h
      refine ro_aload_n hK dA_pass_34 rfl ?_
      refine ro_dup hK dA_pass_35 rfl ?_
      refine rb_get hK fA_56 mb_oA rfl dA_pass_36 ?_
      refine ro_iconst (x := 1) hK (by decide) dA_pass_39 ?_
      refine ro_isub hK dA_pass_40 ?_
      obtain ⟨s_67, e_68, h⟩ := mb_bd_e h
      refine rb_put hK gA_56 mb_oA rfl (by show 2 < 17; decide) rfl rfl e_68 dA_pass_41 ?_
      refine ro_iconst (x := 0) hK (by decide) dA_pass_44 ?_
      refine ro_istore_n hK dA_pass_45 (by decide) ?_
      show K 0 0 46 [.ref 40, .int x1, .int (if (s.1 40 3) = 0 then (if (s.1 40 2) ≤ 0 then 0 else 1 : Int32) else 1 : Int32), .int 0, .retAddr 0] [] (mb_s s_67)
      refine ro_fg (lv' := [.ref 40, .int x1, .int (if (s.1 40 3) = 0 then (if (s.1 40 2) ≤ 0 then 0 else 1 : Int32) else 1 : Int32), .int 0, .retAddr 0]) hK ⟨Or.inr rfl, ⟨Or.inr rfl, ⟨Or.inr rfl, ⟨Or.inr rfl, ⟨Or.inl rfl, trivial⟩⟩⟩⟩⟩ ?_
      refine tl_A_pass_46 (dd := dd) hK hR (fun x_69 s_70 h => ?_) n _ _ h
      refine ro_aload_n hK dA_pass_169 rfl ?_
      refine rb_get hK fA_18 mb_oA rfl dA_pass_170 ?_
      refine ro_iconst (x := 0) hK (by decide) dA_pass_173 ?_
      refine ro_aload_n hK dA_pass_174 rfl ?_
      refine rb_get hK fA_15 mb_oA rfl dA_pass_175 ?_
      refine ro_iconst (x := 0) hK (by decide) dA_pass_178 ?_
      refine ro_aload_n hK dA_pass_179 rfl ?_
      refine rb_get hK fA_48 mb_oA rfl dA_pass_180 ?_
      obtain ⟨s_71, e_72, i_73, h⟩ := mb_cp_e h
      refine rb_copy hK vA_80 (by omega) (Nat.le_of_ble_eq_true rfl) ai_49 ai_48 i_73 e_72 dA_pass_183 ?_
      refine ro_aload_n hK dA_pass_186 rfl ?_
      refine ro_dup hK dA_pass_187 rfl ?_
      refine rb_get hK fA_64 mb_oA rfl dA_pass_188 ?_
      refine ro_iconst (x := 1) hK (by decide) dA_pass_191 ?_
      refine ro_iadd hK dA_pass_192 ?_
      obtain ⟨s_74, e_75, h⟩ := mb_bd_e h
      refine rb_put hK gA_64 mb_oA rfl (by show 4 < 17; decide) rfl rfl e_75 dA_pass_193 ?_
      refine ro_aload_n hK dA_pass_196 rfl ?_
      refine ro_iload_n hK dA_pass_197 rfl ?_
      obtain ⟨s_76, e_77, h⟩ := mb_bd_e h
      refine rb_put hK gA_69 mb_oA rfl (by show 5 < 17; decide) rfl rfl e_77 dA_pass_198 ?_
      cases h
      exact hR.2.2 0 0 201 _ _ rfl dA_pass_201 ⟨rfl, rfl⟩
theorem dA_seatTogether_0 : decode bA_seatTogether 0 = .ok (.aload_n 0, 1) := by decide +kernel
theorem dA_seatTogether_1 : decode bA_seatTogether 1 = .ok (.iload_n 1, 1) := by decide +kernel
theorem dA_seatTogether_2 : decode bA_seatTogether 2 = .ok (.invokevirtual 103, 3) := by decide +kernel
theorem dA_seatTogether_5 : decode bA_seatTogether 5 = .ok (.ifCond .eq 35, 3) := by decide +kernel
theorem dA_seatTogether_8 : decode bA_seatTogether 8 = .ok (.aload_n 0, 1) := by decide +kernel
theorem dA_seatTogether_9 : decode bA_seatTogether 9 = .ok (.iload_n 2, 1) := by decide +kernel
theorem dA_seatTogether_10 : decode bA_seatTogether 10 = .ok (.invokevirtual 103, 3) := by decide +kernel
theorem dA_seatTogether_13 : decode bA_seatTogether 13 = .ok (.ifCond .eq 27, 3) := by decide +kernel
theorem dA_seatTogether_16 : decode bA_seatTogether 16 = .ok (.aload_n 0, 1) := by decide +kernel
theorem dA_seatTogether_17 : decode bA_seatTogether 17 = .ok (.getfield 30, 3) := by decide +kernel
theorem dA_seatTogether_20 : decode bA_seatTogether 20 = .ok (.iload_n 1, 1) := by decide +kernel
theorem dA_seatTogether_21 : decode bA_seatTogether 21 = .ok (.dup2, 1) := by decide +kernel
theorem dA_seatTogether_22 : decode bA_seatTogether 22 = .ok (.iaload, 1) := by decide +kernel
theorem dA_seatTogether_23 : decode bA_seatTogether 23 = .ok (.iconst 1, 1) := by decide +kernel
theorem dA_seatTogether_24 : decode bA_seatTogether 24 = .ok (.iload_n 2, 1) := by decide +kernel
theorem dA_seatTogether_25 : decode bA_seatTogether 25 = .ok (.ishl, 1) := by decide +kernel
theorem dA_seatTogether_26 : decode bA_seatTogether 26 = .ok (.ior, 1) := by decide +kernel
theorem dA_seatTogether_27 : decode bA_seatTogether 27 = .ok (.iastore, 1) := by decide +kernel
theorem dA_seatTogether_28 : decode bA_seatTogether 28 = .ok (.aload_n 0, 1) := by decide +kernel
theorem dA_seatTogether_29 : decode bA_seatTogether 29 = .ok (.getfield 30, 3) := by decide +kernel
theorem dA_seatTogether_32 : decode bA_seatTogether 32 = .ok (.iload_n 2, 1) := by decide +kernel
theorem dA_seatTogether_33 : decode bA_seatTogether 33 = .ok (.dup2, 1) := by decide +kernel
theorem dA_seatTogether_34 : decode bA_seatTogether 34 = .ok (.iaload, 1) := by decide +kernel
theorem dA_seatTogether_35 : decode bA_seatTogether 35 = .ok (.iconst 1, 1) := by decide +kernel
theorem dA_seatTogether_36 : decode bA_seatTogether 36 = .ok (.iload_n 1, 1) := by decide +kernel
theorem dA_seatTogether_37 : decode bA_seatTogether 37 = .ok (.ishl, 1) := by decide +kernel
theorem dA_seatTogether_38 : decode bA_seatTogether 38 = .ok (.ior, 1) := by decide +kernel
theorem dA_seatTogether_39 : decode bA_seatTogether 39 = .ok (.iastore, 1) := by decide +kernel
theorem dA_seatTogether_40 : decode bA_seatTogether 40 = .ok (.return_, 1) := by decide +kernel
def f_A_seatTogether (n : Nat) (x1 : Int32) (x2 : Int32) (s : mb_T) : Option (mb_T) := mb_cl (f_A_isHere n x1 s) fun r_3 s_1 => if r_3 = 0 then some s_1 else mb_cl (f_A_isHere n x2 s_1) fun r_7 s_5 => if r_7 = 0 then some s_5 else mb_rd s_5 53 5 x1 fun x_9 => mb_wr s_5 53 5 x1 (x_9 ||| (1 <<< (x2 &&& 31))) fun s_12 => mb_rd s_12 53 5 x2 fun x_15 => mb_wr s_12 53 5 x2 (x_15 ||| (1 <<< (x1 &&& 31))) fun s_18 => some s_18
set_option maxHeartbeats 4000000 in
set_option maxRecDepth 100000 in
theorem t_A_seatTogether {dd n : Nat} {x1 : Int32} {x2 : Int32} {s : mb_T} {out : mb_T}  (h : f_A_seatTogether n x1 x2 s = some out) : mb_MC (dd + 2) yA_seatTogether bA_seatTogether 3 none [.ref 40, .int x1, .int x2] s none out := by
  unfold f_A_seatTogether at h
  refine mj_mc (lv := [.ref 40, .int x1, .int x2]) mA_seatTogether rfl rfl (Nat.le_of_ble_eq_true rfl) (fun K hK hR => ?_)
  have hK : mj_C (dd + 2) 0 0 RA_c "seatTogether" bA_seatTogether 3 K := hK
  refine ro_aload_n hK dA_seatTogether_0 rfl ?_
  refine ro_iload_n hK dA_seatTogether_1 rfl ?_
  obtain ⟨r_3, s_1, q_2, h⟩ := mb_cl_e h
  refine rb_callV hK mA_isHere vA_103 (t_A_isHere (dd := dd + 0) q_2) rfl mb_oA rfl (Nat.le_of_ble_eq_true rfl) dA_seatTogether_2 rfl ⟨Nat.le_refl _, Nat.le_refl _⟩ ?_
  show K 0 0 5 [.ref 40, .int x1, .int x2] [.int r_3] (mb_s s_1)
  refine ro_if_eq (tgt := 40) hK dA_seatTogether_5 (by decide) (fun c_4 => ?_) (fun c_4 => ?_)
  · replace h := mb_ift c_4 h
    cases h
    exact hR.2.2 0 0 40 _ _ rfl dA_seatTogether_40 ⟨rfl, rfl⟩
  · replace h := mb_iff c_4 h
    refine ro_aload_n hK dA_seatTogether_8 rfl ?_
    refine ro_iload_n hK dA_seatTogether_9 rfl ?_
    obtain ⟨r_7, s_5, q_6, h⟩ := mb_cl_e h
    refine rb_callV hK mA_isHere vA_103 (t_A_isHere (dd := dd + 0) q_6) rfl mb_oA rfl (Nat.le_of_ble_eq_true rfl) dA_seatTogether_10 rfl ⟨Nat.le_refl _, Nat.le_refl _⟩ ?_
    show K 0 0 13 [.ref 40, .int x1, .int x2] [.int r_7] (mb_s s_5)
    refine ro_if_eq (tgt := 40) hK dA_seatTogether_13 (by decide) (fun c_8 => ?_) (fun c_8 => ?_)
    · replace h := mb_ift c_8 h
      cases h
      exact hR.2.2 0 0 40 _ _ rfl dA_seatTogether_40 ⟨rfl, rfl⟩
    · replace h := mb_iff c_8 h
      refine ro_aload_n hK dA_seatTogether_16 rfl ?_
      refine rb_get hK fA_30 mb_oA rfl dA_seatTogether_17 ?_
      refine ro_iload_n hK dA_seatTogether_20 rfl ?_
      refine ro_dup2 hK dA_seatTogether_21 rfl rfl ?_
      obtain ⟨x_9, e_10, i_11, h⟩ := mb_rd_e h
      refine rb_iald hK ai_53 i_11 e_10 dA_seatTogether_22 ?_
      refine ro_iconst (x := 1) hK (by decide) dA_seatTogether_23 ?_
      refine ro_iload_n hK dA_seatTogether_24 rfl ?_
      refine ro_ishl hK dA_seatTogether_25 ?_
      refine ro_ior hK dA_seatTogether_26 ?_
      obtain ⟨s_12, e_13, i_14, h⟩ := mb_wr_e h
      refine rb_iast hK ai_53 i_14 e_13 dA_seatTogether_27 ?_
      refine ro_aload_n hK dA_seatTogether_28 rfl ?_
      refine rb_get hK fA_30 mb_oA rfl dA_seatTogether_29 ?_
      refine ro_iload_n hK dA_seatTogether_32 rfl ?_
      refine ro_dup2 hK dA_seatTogether_33 rfl rfl ?_
      obtain ⟨x_15, e_16, i_17, h⟩ := mb_rd_e h
      refine rb_iald hK ai_53 i_17 e_16 dA_seatTogether_34 ?_
      refine ro_iconst (x := 1) hK (by decide) dA_seatTogether_35 ?_
      refine ro_iload_n hK dA_seatTogether_36 rfl ?_
      refine ro_ishl hK dA_seatTogether_37 ?_
      refine ro_ior hK dA_seatTogether_38 ?_
      obtain ⟨s_18, e_19, i_20, h⟩ := mb_wr_e h
      refine rb_iast hK ai_53 i_20 e_19 dA_seatTogether_39 ?_
      cases h
      exact hR.2.2 0 0 40 _ _ rfl dA_seatTogether_40 ⟨rfl, rfl⟩
theorem dA_shows_0 : decode bA_shows 0 = .ok (.aload_n 0, 1) := by decide +kernel
theorem dA_shows_1 : decode bA_shows 1 = .ok (.iload_n 1, 1) := by decide +kernel
theorem dA_shows_2 : decode bA_shows 2 = .ok (.invokevirtual 103, 3) := by decide +kernel
theorem dA_shows_5 : decode bA_shows 5 = .ok (.ifCond .eq 13, 3) := by decide +kernel
theorem dA_shows_8 : decode bA_shows 8 = .ok (.aload_n 0, 1) := by decide +kernel
theorem dA_shows_9 : decode bA_shows 9 = .ok (.getfield 9, 3) := by decide +kernel
theorem dA_shows_12 : decode bA_shows 12 = .ok (.iload_n 1, 1) := by decide +kernel
theorem dA_shows_13 : decode bA_shows 13 = .ok (.iaload, 1) := by decide +kernel
theorem dA_shows_14 : decode bA_shows 14 = .ok (.iconst 5, 1) := by decide +kernel
theorem dA_shows_15 : decode bA_shows 15 = .ok (.if_icmp .ne 5, 3) := by decide +kernel
theorem dA_shows_18 : decode bA_shows 18 = .ok (.iconst (-1), 1) := by decide +kernel
theorem dA_shows_19 : decode bA_shows 19 = .ok (.ireturn, 1) := by decide +kernel
theorem dA_shows_20 : decode bA_shows 20 = .ok (.aload_n 0, 1) := by decide +kernel
theorem dA_shows_21 : decode bA_shows 21 = .ok (.getfield 15, 3) := by decide +kernel
theorem dA_shows_24 : decode bA_shows 24 = .ok (.iload_n 1, 1) := by decide +kernel
theorem dA_shows_25 : decode bA_shows 25 = .ok (.iaload, 1) := by decide +kernel
theorem dA_shows_26 : decode bA_shows 26 = .ok (.aload_n 0, 1) := by decide +kernel
theorem dA_shows_27 : decode bA_shows 27 = .ok (.getfield 76, 3) := by decide +kernel
theorem dA_shows_30 : decode bA_shows 30 = .ok (.iload_n 1, 1) := by decide +kernel
theorem dA_shows_31 : decode bA_shows 31 = .ok (.ishr, 1) := by decide +kernel
theorem dA_shows_32 : decode bA_shows 32 = .ok (.iconst 1, 1) := by decide +kernel
theorem dA_shows_33 : decode bA_shows 33 = .ok (.iand, 1) := by decide +kernel
theorem dA_shows_34 : decode bA_shows 34 = .ok (.ifCond .eq 8, 3) := by decide +kernel
theorem dA_shows_37 : decode bA_shows 37 = .ok (.bipush 9, 2) := by decide +kernel
theorem dA_shows_39 : decode bA_shows 39 = .ok (.goto 4, 3) := by decide +kernel
theorem dA_shows_42 : decode bA_shows 42 = .ok (.iconst 0, 1) := by decide +kernel
theorem dA_shows_43 : decode bA_shows 43 = .ok (.iadd, 1) := by decide +kernel
theorem dA_shows_44 : decode bA_shows 44 = .ok (.ireturn, 1) := by decide +kernel
def f_A_shows (n : Nat) (x1 : Int32) (s : mb_T) : Option (Int32 × mb_T) := mb_cl (f_A_isHere n x1 s) fun r_3 s_1 => if r_3 = 0 then some ((-1), s_1) else mb_rd s_1 47 5 x1 fun x_5 => if x_5 = 5 then some ((-1), s_1) else mb_rd s_1 48 5 x1 fun x_9 => some ((x_9 + (if (((s_1.1 40 6) >>> (x1 &&& 31)) &&& 1) = 0 then 0 else 9 : Int32)), s_1)
set_option maxHeartbeats 4000000 in
set_option maxRecDepth 100000 in
theorem t_A_shows {dd n : Nat} {x1 : Int32} {s : mb_T} {out : Int32 × mb_T}  (h : f_A_shows n x1 s = some out) : mb_MC (dd + 2) yA_shows bA_shows 2 (some .int) [.ref 40, .int x1] s (some (.int out.1)) out.2 := by
  unfold f_A_shows at h
  refine mj_mc (lv := [.ref 40, .int x1]) mA_shows rfl rfl (Nat.le_of_ble_eq_true rfl) (fun K hK hR => ?_)
  have hK : mj_C (dd + 2) 0 0 RA_c "shows" bA_shows 2 K := hK
  refine ro_aload_n hK dA_shows_0 rfl ?_
  refine ro_iload_n hK dA_shows_1 rfl ?_
  obtain ⟨r_3, s_1, q_2, h⟩ := mb_cl_e h
  refine rb_callV hK mA_isHere vA_103 (t_A_isHere (dd := dd + 0) q_2) rfl mb_oA rfl (Nat.le_of_ble_eq_true rfl) dA_shows_2 rfl ⟨Nat.le_refl _, Nat.le_refl _⟩ ?_
  show K 0 0 5 [.ref 40, .int x1] [.int r_3] (mb_s s_1)
  refine ro_if_eq (tgt := 18) hK dA_shows_5 (by decide) (fun c_4 => ?_) (fun c_4 => ?_)
  · replace h := mb_ift c_4 h
    refine ro_iconst (x := (-1)) hK (by decide) dA_shows_18 ?_
    cases h
    exact hR.1 0 0 19 _ _ _ _ rfl rfl dA_shows_19 ⟨rfl, rfl⟩
  · replace h := mb_iff c_4 h
    refine ro_aload_n hK dA_shows_8 rfl ?_
    refine rb_get hK fA_9 mb_oA rfl dA_shows_9 ?_
    refine ro_iload_n hK dA_shows_12 rfl ?_
    obtain ⟨x_5, e_6, i_7, h⟩ := mb_rd_e h
    refine rb_iald hK ai_47 i_7 e_6 dA_shows_13 ?_
    refine ro_iconst (x := 5) hK (by decide) dA_shows_14 ?_
    refine ro_icmp_ne (tgt := 20) hK dA_shows_15 (by decide) (fun c_8 => ?_) (fun c_8 => ?_)
    · replace h := mb_iff c_8 h
      refine ro_aload_n hK dA_shows_20 rfl ?_
      refine rb_get hK fA_15 mb_oA rfl dA_shows_21 ?_
      refine ro_iload_n hK dA_shows_24 rfl ?_
      obtain ⟨x_9, e_10, i_11, h⟩ := mb_rd_e h
      refine rb_iald hK ai_48 i_11 e_10 dA_shows_25 ?_
      refine ro_aload_n hK dA_shows_26 rfl ?_
      refine rb_get hK fA_76 mb_oA rfl dA_shows_27 ?_
      refine ro_iload_n hK dA_shows_30 rfl ?_
      refine ro_ishr hK dA_shows_31 ?_
      refine ro_iconst (x := 1) hK (by decide) dA_shows_32 ?_
      refine ro_iand hK dA_shows_33 ?_
      have j_13 : ∀ w_ : Int32, w_ = (if (((s_1.1 40 6) >>> (x1 &&& 31)) &&& 1) = 0 then 0 else 9 : Int32) → K 0 0 43 [.ref 40, .int x1] [.int w_, .int x_9] (mb_s s_1) → K 0 0 34 [.ref 40, .int x1] [.int (((s_1.1 40 6) >>> (x1 &&& 31)) &&& 1), .int x_9] (mb_s s_1) := by
        intro w_ hw hj
        refine ro_if_eq (tgt := 42) hK dA_shows_34 (by decide) (fun c_12 => ?_) (fun c_12 => ?_)
        · skip
          refine ro_iconst (x := 0) hK (by decide) dA_shows_42 ?_
          have hw := (hw.trans (if_pos c_12))
          subst hw
          exact hj
        · skip
          refine ro_bipush (x := 9) hK (by decide) dA_shows_37 ?_
          refine ro_goto (tgt := 43) hK dA_shows_39 (by decide) ?_
          have hw := (hw.trans (if_neg c_12))
          subst hw
          exact hj
      refine j_13 _ rfl ?_
      refine ro_iadd hK dA_shows_43 ?_
      cases h
      exact hR.1 0 0 44 _ _ _ _ rfl rfl dA_shows_44 ⟨rfl, rfl⟩
    · replace h := mb_ift c_8 h
      refine ro_iconst (x := (-1)) hK (by decide) dA_shows_18 ?_
      cases h
      exact hR.1 0 0 19 _ _ _ _ rfl rfl dA_shows_19 ⟨rfl, rfl⟩
