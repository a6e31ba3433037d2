theorem dA_showsMost_0 : decode bA_showsMost 0 = .ok (.iconst (-1), 1) := by decide +kernel
theorem dA_showsMost_1 : decode bA_showsMost 1 = .ok (.istore_n 2, 1) := by decide +kernel
theorem dA_showsMost_2 : decode bA_showsMost 2 = .ok (.iconst 0, 1) := by decide +kernel
theorem dA_showsMost_3 : decode bA_showsMost 3 = .ok (.istore_n 3, 1) := by decide +kernel
theorem dA_showsMost_4 : decode bA_showsMost 4 = .ok (.iconst 0, 1) := by decide +kernel
theorem dA_showsMost_5 : decode bA_showsMost 5 = .ok (.istore 4, 2) := by decide +kernel
theorem dA_showsMost_7 : decode bA_showsMost 7 = .ok (.iload 4, 2) := by decide +kernel
theorem dA_showsMost_9 : decode bA_showsMost 9 = .ok (.aload_n 0, 1) := by decide +kernel
theorem dA_showsMost_10 : decode bA_showsMost 10 = .ok (.getfield 48, 3) := by decide +kernel
theorem dA_showsMost_13 : decode bA_showsMost 13 = .ok (.if_icmp .ge 43, 3) := by decide +kernel
theorem dA_showsMost_16 : decode bA_showsMost 16 = .ok (.iload_n 1, 1) := by decide +kernel
theorem dA_showsMost_17 : decode bA_showsMost 17 = .ok (.iload 4, 2) := by decide +kernel
theorem dA_showsMost_19 : decode bA_showsMost 19 = .ok (.ishr, 1) := by decide +kernel
theorem dA_showsMost_20 : decode bA_showsMost 20 = .ok (.iconst 1, 1) := by decide +kernel
theorem dA_showsMost_21 : decode bA_showsMost 21 = .ok (.iand, 1) := by decide +kernel
theorem dA_showsMost_22 : decode bA_showsMost 22 = .ok (.ifCond .eq 28, 3) := by decide +kernel
theorem dA_showsMost_25 : decode bA_showsMost 25 = .ok (.iload_n 2, 1) := by decide +kernel
theorem dA_showsMost_26 : decode bA_showsMost 26 = .ok (.iconst (-1), 1) := by decide +kernel
theorem dA_showsMost_27 : decode bA_showsMost 27 = .ok (.if_icmp .eq 13, 3) := by decide +kernel
theorem dA_showsMost_30 : decode bA_showsMost 30 = .ok (.aload_n 0, 1) := by decide +kernel
theorem dA_showsMost_31 : decode bA_showsMost 31 = .ok (.iload 4, 2) := by decide +kernel
theorem dA_showsMost_33 : decode bA_showsMost 33 = .ok (.invokevirtual 125, 3) := by decide +kernel
theorem dA_showsMost_36 : decode bA_showsMost 36 = .ok (.iload_n 3, 1) := by decide +kernel
theorem dA_showsMost_37 : decode bA_showsMost 37 = .ok (.if_icmp .le 13, 3) := by decide +kernel
theorem dA_showsMost_40 : decode bA_showsMost 40 = .ok (.iload 4, 2) := by decide +kernel
theorem dA_showsMost_42 : decode bA_showsMost 42 = .ok (.istore_n 2, 1) := by decide +kernel
theorem dA_showsMost_43 : decode bA_showsMost 43 = .ok (.aload_n 0, 1) := by decide +kernel
theorem dA_showsMost_44 : decode bA_showsMost 44 = .ok (.iload 4, 2) := by decide +kernel
theorem dA_showsMost_46 : decode bA_showsMost 46 = .ok (.invokevirtual 125, 3) := by decide +kernel
theorem dA_showsMost_49 : decode bA_showsMost 49 = .ok (.istore_n 3, 1) := by decide +kernel
theorem dA_showsMost_50 : decode bA_showsMost 50 = .ok (.iinc 4 1, 3) := by decide +kernel
theorem dA_showsMost_53 : decode bA_showsMost 53 = .ok (.goto (-46), 3) := by decide +kernel
theorem dA_showsMost_56 : decode bA_showsMost 56 = .ok (.iload_n 2, 1) := by decide +kernel
theorem dA_showsMost_57 : decode bA_showsMost 57 = .ok (.ireturn, 1) := by decide +kernel
def f_A_showsMost_7 (n : Nat) (k0 : Int32 → Int32 → Int32 → mb_T → Option (Int32 × mb_T)) (y1 : Int32) : Nat → Int32 → Int32 → Int32 → mb_T → Option (Int32 × mb_T)
  | 0, _, _, _, _ => none
  | f + 1, w2, w3, w4, s => if (s.1 40 0) ≤ w4 then k0 w2 w3 w4 s else if ((y1 >>> (w4 &&& 31)) &&& 1) = 0 then f_A_showsMost_7 n k0 y1 f w2 w3 (w4 + 1) s else mb_jn (fun (s9 : mb_T) => mb_cl (f_A_shows n w4 s9) fun r12 s10 => f_A_showsMost_7 n k0 y1 f w4 r12 (w4 + 1) s10) fun j3 => if w2 = (-1) then j3 s else mb_cl (f_A_shows n w4 s) fun r7 s5 => if r7 ≤ w3 then f_A_showsMost_7 n k0 y1 f w2 w3 (w4 + 1) s5 else j3 s5
def f_A_showsMost (n : Nat) (x1 : Int32) (s : mb_T) : Option (Int32 × mb_T) := f_A_showsMost_7 n (fun x14 x15 x16 s17 => some (x14, s17)) x1 n (-1) 0 0 s
set_option maxHeartbeats 4000000 in
set_option maxRecDepth 100000 in
theorem tl_A_showsMost_7 {dd n : Nat} {K : mj_KT} {out : Int32 × mb_T} (hK : mj_C (dd + 3) 0 0 RA_c "showsMost" bA_showsMost 5 K) (hR : mj_R bA_showsMost (some .int) (fun r2 S2 => r2 = some (.int out.1) ∧ S2 = mb_s out.2) K) {k0 : Int32 → Int32 → Int32 → mb_T → Option (Int32 × mb_T)} {y1 : Int32} (hk0 : ∀ (w2 : Int32) (w3 : Int32) (w4 : Int32) (s : mb_T), k0 w2 w3 w4 s = some out → K 0 0 56 [.ref 40, .int y1, .int w2, .int w3, .int w4] [] (mb_s s)) : ∀ (f : Nat) (w2 : Int32) (w3 : Int32) (w4 : Int32) (s : mb_T), f_A_showsMost_7 n k0 y1 f w2 w3 w4 s = some out → K 0 0 7 [.ref 40, .int y1, .int w2, .int w3, .int w4] [] (mb_s s) := by
  intro f
  induction f with
  | zero =>
    intro w2 w3 w4 s h
    cases h
  | succ f ih =>
    intro w2 w3 w4 s h
    rw [f_A_showsMost_7] at h
    refine ro_iload hK dA_showsMost_7 rfl ?_
    refine ro_aload_n hK dA_showsMost_9 rfl ?_
    refine rb_get hK fA_48 mb_oA rfl dA_showsMost_10 ?_
    refine ro_icmp_ge (tgt := 56) hK dA_showsMost_13 (by decide) (fun c1 => ?_) (fun c1 => ?_)
    · replace h := mb_ift c1 h
      refine ro_fg (lv' := [.ref 40, .int y1, .int w2, .int w3, .int w4]) hK ⟨Or.inr rfl, ⟨Or.inr rfl, ⟨Or.inr rfl, ⟨Or.inr rfl, ⟨Or.inr rfl, trivial⟩⟩⟩⟩⟩ ?_
      exact hk0 _ _ _ _ h
    · replace h := mb_iff c1 h
      refine ro_iload_n hK dA_showsMost_16 rfl ?_
      refine ro_iload hK dA_showsMost_17 rfl ?_
      refine ro_ishr hK dA_showsMost_19 ?_
      refine ro_iconst (x := 1) hK (by decide) dA_showsMost_20 ?_
      refine ro_iand hK dA_showsMost_21 ?_
      refine ro_if_eq (tgt := 50) hK dA_showsMost_22 (by decide) (fun c2 => ?_) (fun c2 => ?_)
      · replace h := mb_ift c2 h
        refine ro_iincv (c := 1) hK (by decide) dA_showsMost_50 rfl (by decide) ?_
        show K 0 0 53 [.ref 40, .int y1, .int w2, .int w3, .int (w4 + 1)] [] (mb_s s)
        refine ro_goto (tgt := 7) hK dA_showsMost_53 (by decide) ?_
        refine ro_fg (lv' := [.ref 40, .int y1, .int w2, .int w3, .int (w4 + 1)]) hK ⟨Or.inr rfl, ⟨Or.inr rfl, ⟨Or.inr rfl, ⟨Or.inr rfl, ⟨Or.inr rfl, trivial⟩⟩⟩⟩⟩ ?_
        exact ih _ _ _ _ h
      · replace h := mb_iff c2 h
        refine ro_iload_n hK dA_showsMost_25 rfl ?_
        refine ro_iconst (x := (-1)) hK (by decide) dA_showsMost_26 ?_
        obtain ⟨j3, e13, h⟩ := mb_jn_e h
        have hj3 : ∀ (s9 : mb_T), j3 s9 = some out → K 0 0 40 [.ref 40, .int y1, .int w2, .int w3, .int w4] [] (mb_s s9) := by
          intro s9 h
          rw [e13] at h
          refine ro_iload hK dA_showsMost_40 rfl ?_
          refine ro_istore_n hK dA_showsMost_42 (by decide) ?_
          show K 0 0 43 [.ref 40, .int y1, .int w4, .int w3, .int w4] [] (mb_s s9)
          refine ro_aload_n hK dA_showsMost_43 rfl ?_
          refine ro_iload hK dA_showsMost_44 rfl ?_
          obtain ⟨r12, s10, q11, h⟩ := mb_cl_e h
          refine rb_callV hK mA_shows vA_125 (t_A_shows (dd := dd + 0) q11) rfl mb_oA rfl (Nat.le_of_ble_eq_true rfl) dA_showsMost_46 rfl ⟨Nat.le_refl _, Nat.le_refl _⟩ ?_
          show K 0 0 49 [.ref 40, .int y1, .int w4, .int w3, .int w4] [.int r12] (mb_s s10)
          refine ro_istore_n hK dA_showsMost_49 (by decide) ?_
          show K 0 0 50 [.ref 40, .int y1, .int w4, .int r12, .int w4] [] (mb_s s10)
          refine ro_iincv (c := 1) hK (by decide) dA_showsMost_50 rfl (by decide) ?_
          show K 0 0 53 [.ref 40, .int y1, .int w4, .int r12, .int (w4 + 1)] [] (mb_s s10)
          refine ro_goto (tgt := 7) hK dA_showsMost_53 (by decide) ?_
          refine ro_fg (lv' := [.ref 40, .int y1, .int w4, .int r12, .int (w4 + 1)]) hK ⟨Or.inr rfl, ⟨Or.inr rfl, ⟨Or.inr rfl, ⟨Or.inr rfl, ⟨Or.inr rfl, trivial⟩⟩⟩⟩⟩ ?_
          exact ih _ _ _ _ h
        refine ro_icmp_eq (tgt := 40) hK dA_showsMost_27 (by decide) (fun c4 => ?_) (fun c4 => ?_)
        · replace h := mb_ift c4 h
          refine ro_fg (lv' := [.ref 40, .int y1, .int w2, .int w3, .int w4]) hK ⟨Or.inr rfl, ⟨Or.inr rfl, ⟨Or.inr rfl, ⟨Or.inr rfl, ⟨Or.inr rfl, trivial⟩⟩⟩⟩⟩ ?_
          exact hj3 _ h
        · replace h := mb_iff c4 h
          refine ro_aload_n hK dA_showsMost_30 rfl ?_
          refine ro_iload hK dA_showsMost_31 rfl ?_
          obtain ⟨r7, s5, q6, h⟩ := mb_cl_e h
          refine rb_callV hK mA_shows vA_125 (t_A_shows (dd := dd + 0) q6) rfl mb_oA rfl (Nat.le_of_ble_eq_true rfl) dA_showsMost_33 rfl ⟨Nat.le_refl _, Nat.le_refl _⟩ ?_
          show K 0 0 36 [.ref 40, .int y1, .int w2, .int w3, .int w4] [.int r7] (mb_s s5)
          refine ro_iload_n hK dA_showsMost_36 rfl ?_
          refine ro_icmp_le (tgt := 50) hK dA_showsMost_37 (by decide) (fun c8 => ?_) (fun c8 => ?_)
          · replace h := mb_ift c8 h
            refine ro_iincv (c := 1) hK (by decide) dA_showsMost_50 rfl (by decide) ?_
            show K 0 0 53 [.ref 40, .int y1, .int w2, .int w3, .int (w4 + 1)] [] (mb_s s5)
            refine ro_goto (tgt := 7) hK dA_showsMost_53 (by decide) ?_
            refine ro_fg (lv' := [.ref 40, .int y1, .int w2, .int w3, .int (w4 + 1)]) hK ⟨Or.inr rfl, ⟨Or.inr rfl, ⟨Or.inr rfl, ⟨Or.inr rfl, ⟨Or.inr rfl, trivial⟩⟩⟩⟩⟩ ?_
            exact ih _ _ _ _ h
          · replace h := mb_iff c8 h
            refine ro_fg (lv' := [.ref 40, .int y1, .int w2, .int w3, .int w4]) hK ⟨Or.inr rfl, ⟨Or.inr rfl, ⟨Or.inr rfl, ⟨Or.inr rfl, ⟨Or.inr rfl, trivial⟩⟩⟩⟩⟩ ?_
            exact hj3 _ h
set_option maxHeartbeats 4000000 in
set_option maxRecDepth 100000 in
theorem t_A_showsMost {dd n : Nat} {x1 : Int32} {s : mb_T} {out : Int32 × mb_T}  (h : f_A_showsMost n x1 s = some out) : mb_MC (dd + 3) yA_showsMost bA_showsMost 5 (some .int) [.ref 40, .int x1] s (some (.int out.1)) out.2 := by
  unfold f_A_showsMost at h
  refine mj_mc (lv := [.ref 40, .int x1, .retAddr 0, .retAddr 0, .retAddr 0]) mA_showsMost rfl rfl (Nat.le_of_ble_eq_true rfl) (fun K hK hR => ?_)
  have hK : mj_C (dd + 3) 0 0 RA_c "showsMost" bA_showsMost 5 K := hK
  refine ro_iconst (x := (-1)) hK (by decide) dA_showsMost_0 ?_
  refine ro_istore_n hK dA_showsMost_1 (by decide) ?_
  show K 0 0 2 [.ref 40, .int x1, .int (-1), .retAddr 0, .retAddr 0] [] (mb_s s)
  refine ro_iconst (x := 0) hK (by decide) dA_showsMost_2 ?_
  refine ro_istore_n hK dA_showsMost_3 (by decide) ?_
  show K 0 0 4 [.ref 40, .int x1, .int (-1), .int 0, .retAddr 0] [] (mb_s s)
  refine ro_iconst (x := 0) hK (by decide) dA_showsMost_4 ?_
  refine ro_istore hK dA_showsMost_5 (by decide) ?_
  show K 0 0 7 [.ref 40, .int x1, .int (-1), .int 0, .int 0] [] (mb_s s)
  refine ro_fg (lv' := [.ref 40, .int x1, .int (-1), .int 0, .int 0]) hK ⟨Or.inr rfl, ⟨Or.inr rfl, ⟨Or.inr rfl, ⟨Or.inr rfl, ⟨Or.inr rfl, trivial⟩⟩⟩⟩⟩ ?_
  refine tl_A_showsMost_7 (dd := dd) hK hR (fun x14 x15 x16 s17 h => ?_) n _ _ _ _ h
  refine ro_iload_n hK dA_showsMost_56 rfl ?_
  cases h
  exact hR.1 0 0 57 _ _ _ _ rfl rfl dA_showsMost_57 ⟨rfl, rfl⟩
theorem dA_byLaw_0 : decode bA_byLaw 0 = .ok (.iload_n 1, 1) := by decide +kernel
theorem dA_byLaw_1 : decode bA_byLaw 1 = .ok (.ifCond .eq 13, 3) := by decide +kernel
theorem dA_byLaw_4 : decode bA_byLaw 4 = .ok (.aload_n 0, 1) := by decide +kernel
theorem dA_byLaw_5 : decode bA_byLaw 5 = .ok (.getfield 69, 3) := by decide +kernel
theorem dA_byLaw_8 : decode bA_byLaw 8 = .ok (.iconst (-1), 1) := by decide +kernel
theorem dA_byLaw_9 : decode bA_byLaw 9 = .ok (.if_icmp .ne 5, 3) := by decide +kernel
theorem dA_byLaw_12 : decode bA_byLaw 12 = .ok (.iconst 0, 1) := by decide +kernel
theorem dA_byLaw_13 : decode bA_byLaw 13 = .ok (.ireturn, 1) := by decide +kernel
theorem dA_byLaw_14 : decode bA_byLaw 14 = .ok (.iload_n 1, 1) := by decide +kernel
theorem dA_byLaw_15 : decode bA_byLaw 15 = .ok (.tableswitch 95 1 3 #[25, 49, 69], 25) := by decide +kernel
theorem dA_byLaw_40 : decode bA_byLaw 40 = .ok (.aload_n 0, 1) := by decide +kernel
theorem dA_byLaw_41 : decode bA_byLaw 41 = .ok (.getfield 69, 3) := by decide +kernel
theorem dA_byLaw_44 : decode bA_byLaw 44 = .ok (.iconst 1, 1) := by decide +kernel
theorem dA_byLaw_45 : decode bA_byLaw 45 = .ok (.iadd, 1) := by decide +kernel
theorem dA_byLaw_46 : decode bA_byLaw 46 = .ok (.aload_n 0, 1) := by decide +kernel
theorem dA_byLaw_47 : decode bA_byLaw 47 = .ok (.getfield 48, 3) := by decide +kernel
theorem dA_byLaw_50 : decode bA_byLaw 50 = .ok (.if_icmp .ge 12, 3) := by decide +kernel
theorem dA_byLaw_53 : decode bA_byLaw 53 = .ok (.aload_n 0, 1) := by decide +kernel
theorem dA_byLaw_54 : decode bA_byLaw 54 = .ok (.getfield 69, 3) := by decide +kernel
theorem dA_byLaw_57 : decode bA_byLaw 57 = .ok (.iconst 1, 1) := by decide +kernel
theorem dA_byLaw_58 : decode bA_byLaw 58 = .ok (.iadd, 1) := by decide +kernel
theorem dA_byLaw_59 : decode bA_byLaw 59 = .ok (.goto 4, 3) := by decide +kernel
theorem dA_byLaw_62 : decode bA_byLaw 62 = .ok (.iconst 0, 1) := by decide +kernel
theorem dA_byLaw_63 : decode bA_byLaw 63 = .ok (.ireturn, 1) := by decide +kernel
theorem dA_byLaw_64 : decode bA_byLaw 64 = .ok (.aload_n 0, 1) := by decide +kernel
theorem dA_byLaw_65 : decode bA_byLaw 65 = .ok (.aload_n 0, 1) := by decide +kernel
theorem dA_byLaw_66 : decode bA_byLaw 66 = .ok (.aload_n 0, 1) := by decide +kernel
theorem dA_byLaw_67 : decode bA_byLaw 67 = .ok (.getfield 69, 3) := by decide +kernel
theorem dA_byLaw_70 : decode bA_byLaw 70 = .ok (.invokevirtual 116, 3) := by decide +kernel
theorem dA_byLaw_73 : decode bA_byLaw 73 = .ok (.iconst 1, 1) := by decide +kernel
theorem dA_byLaw_74 : decode bA_byLaw 74 = .ok (.aload_n 0, 1) := by decide +kernel
theorem dA_byLaw_75 : decode bA_byLaw 75 = .ok (.getfield 69, 3) := by decide +kernel
theorem dA_byLaw_78 : decode bA_byLaw 78 = .ok (.ishl, 1) := by decide +kernel
theorem dA_byLaw_79 : decode bA_byLaw 79 = .ok (.ior, 1) := by decide +kernel
theorem dA_byLaw_80 : decode bA_byLaw 80 = .ok (.invokevirtual 119, 3) := by decide +kernel
theorem dA_byLaw_83 : decode bA_byLaw 83 = .ok (.ireturn, 1) := by decide +kernel
theorem dA_byLaw_84 : decode bA_byLaw 84 = .ok (.aload_n 0, 1) := by decide +kernel
theorem dA_byLaw_85 : decode bA_byLaw 85 = .ok (.getfield 64, 3) := by decide +kernel
theorem dA_byLaw_88 : decode bA_byLaw 88 = .ok (.iconst 1, 1) := by decide +kernel
theorem dA_byLaw_89 : decode bA_byLaw 89 = .ok (.iand, 1) := by decide +kernel
theorem dA_byLaw_90 : decode bA_byLaw 90 = .ok (.iconst 1, 1) := by decide +kernel
theorem dA_byLaw_91 : decode bA_byLaw 91 = .ok (.if_icmp .ne 10, 3) := by decide +kernel
theorem dA_byLaw_94 : decode bA_byLaw 94 = .ok (.aload_n 0, 1) := by decide +kernel
theorem dA_byLaw_95 : decode bA_byLaw 95 = .ok (.getfield 69, 3) := by decide +kernel
theorem dA_byLaw_98 : decode bA_byLaw 98 = .ok (.goto 11, 3) := by decide +kernel
theorem dA_byLaw_101 : decode bA_byLaw 101 = .ok (.aload_n 0, 1) := by decide +kernel
theorem dA_byLaw_102 : decode bA_byLaw 102 = .ok (.aload_n 0, 1) := by decide +kernel
theorem dA_byLaw_103 : decode bA_byLaw 103 = .ok (.invokevirtual 122, 3) := by decide +kernel
theorem dA_byLaw_106 : decode bA_byLaw 106 = .ok (.invokevirtual 119, 3) := by decide +kernel
theorem dA_byLaw_109 : decode bA_byLaw 109 = .ok (.ireturn, 1) := by decide +kernel
theorem dA_byLaw_110 : decode bA_byLaw 110 = .ok (.aload_n 0, 1) := by decide +kernel
theorem dA_byLaw_111 : decode bA_byLaw 111 = .ok (.aload_n 0, 1) := by decide +kernel
theorem dA_byLaw_112 : decode bA_byLaw 112 = .ok (.invokevirtual 122, 3) := by decide +kernel
theorem dA_byLaw_115 : decode bA_byLaw 115 = .ok (.invokevirtual 119, 3) := by decide +kernel
theorem dA_byLaw_118 : decode bA_byLaw 118 = .ok (.ireturn, 1) := by decide +kernel
def f_A_byLaw (n : Nat) (x1 : Int32) (s : mb_T) : Option (Int32 × mb_T) := mb_jn (fun (s4 : mb_T) => if x1 = 1 then some ((if (s4.1 40 0) ≤ ((s4.1 40 5) + 1) then 0 else ((s4.1 40 5) + 1) : Int32), s4) else if x1 = 2 then (mb_cl (f_A_bitsBeside n (s4.1 40 5) s4) fun r23 s21 => mb_cl (f_A_showsMost n (r23 ||| (1 <<< ((s21.1 40 5) &&& 31))) s21) fun r26 s24 => some (r26, s24)) else if x1 = 3 then (if ((s4.1 40 4) &&& 1) = 1 then some ((s4.1 40 5), s4) else mb_cl (f_A_bitsOfAll n s4) fun r17 s15 => mb_cl (f_A_showsMost n r17 s15) fun r20 s18 => some (r20, s18)) else mb_cl (f_A_bitsOfAll n s4) fun r10 s8 => mb_cl (f_A_showsMost n r10 s8) fun r13 s11 => some (r13, s11)) fun j1 => if x1 = 0 then j1 s else if (s.1 40 5) = (-1) then some (0, s) else j1 s
set_option maxHeartbeats 4000000 in
set_option maxRecDepth 100000 in
theorem t_A_byLaw {dd n : Nat} {x1 : Int32} {s : mb_T} {out : Int32 × mb_T}  (h : f_A_byLaw n x1 s = some out) : mb_MC (dd + 4) yA_byLaw bA_byLaw 2 (some .int) [.ref 40, .int x1] s (some (.int out.1)) out.2 := by
  unfold f_A_byLaw at h
  refine mj_mc (lv := [.ref 40, .int x1]) mA_byLaw rfl rfl (Nat.le_of_ble_eq_true rfl) (fun K hK hR => ?_)
  have hK : mj_C (dd + 4) 0 0 RA_c "byLaw" bA_byLaw 2 K := hK
  refine ro_iload_n hK dA_byLaw_0 rfl ?_
  obtain ⟨j1, e29, h⟩ := mb_jn_e h
  have hj1 : ∀ (s4 : mb_T), j1 s4 = some out → K 0 0 14 [.ref 40, .int x1] [] (mb_s s4) := by
    intro s4 h
    rw [e29] at h
    refine ro_iload_n hK dA_byLaw_14 rfl ?_
    by_cases c5 : x1 = 1
    · replace h := mb_ift c5 h
      refine ro_tabIn (off := 25) (tgt := 40) hK dA_byLaw_15 (by rw [c5]; decide) (by rw [c5]; decide) (by rw [c5]; decide) (by decide) ?_
      refine ro_aload_n hK dA_byLaw_40 rfl ?_
      refine rb_get hK fA_69 mb_oA rfl dA_byLaw_41 ?_
      refine ro_iconst (x := 1) hK (by decide) dA_byLaw_44 ?_
      refine ro_iadd hK dA_byLaw_45 ?_
      refine ro_aload_n hK dA_byLaw_46 rfl ?_
      refine rb_get hK fA_48 mb_oA rfl dA_byLaw_47 ?_
      have j28 : K 0 0 63 [.ref 40, .int x1] [.int (if (s4.1 40 0) ≤ ((s4.1 40 5) + 1) then 0 else ((s4.1 40 5) + 1) : Int32)] (mb_s s4) → K 0 0 50 [.ref 40, .int x1] [.int (s4.1 40 0), .int ((s4.1 40 5) + 1)] (mb_s s4) := by
        intro hj
        refine ro_icmp_ge (tgt := 62) hK dA_byLaw_50 (by decide) (fun c27 => ?_) (fun c27 => ?_)
        · skip
          refine ro_iconst (x := 0) hK (by decide) dA_byLaw_62 ?_
          rw [if_pos c27] at hj
          exact hj
        · skip
          refine ro_aload_n hK dA_byLaw_53 rfl ?_
          refine rb_get hK fA_69 mb_oA rfl dA_byLaw_54 ?_
          refine ro_iconst (x := 1) hK (by decide) dA_byLaw_57 ?_
          refine ro_iadd hK dA_byLaw_58 ?_
          refine ro_goto (tgt := 63) hK dA_byLaw_59 (by decide) ?_
          rw [if_neg c27] at hj
          exact hj
      refine j28 ?_
      cases h
      exact hR.1 0 0 63 _ _ _ _ rfl rfl dA_byLaw_63 ⟨rfl, rfl⟩
    · replace h := mb_iff c5 h
      by_cases c6 : x1 = 2
      · replace h := mb_ift c6 h
        refine ro_tabIn (off := 49) (tgt := 64) hK dA_byLaw_15 (by rw [c6]; decide) (by rw [c6]; decide) (by rw [c6]; decide) (by decide) ?_
        refine ro_aload_n hK dA_byLaw_64 rfl ?_
        refine ro_aload_n hK dA_byLaw_65 rfl ?_
        refine ro_aload_n hK dA_byLaw_66 rfl ?_
        refine rb_get hK fA_69 mb_oA rfl dA_byLaw_67 ?_
        obtain ⟨r23, s21, q22, h⟩ := mb_cl_e h
        refine rb_callV hK mA_bitsBeside vA_116 (t_A_bitsBeside (dd := dd + 1) q22) rfl mb_oA rfl (Nat.le_of_ble_eq_true rfl) dA_byLaw_70 rfl ⟨Nat.le_refl _, Nat.le_refl _⟩ ?_
        show K 0 0 73 [.ref 40, .int x1] [.int r23, .ref 40] (mb_s s21)
        refine ro_iconst (x := 1) hK (by decide) dA_byLaw_73 ?_
        refine ro_aload_n hK dA_byLaw_74 rfl ?_
        refine rb_get hK fA_69 mb_oA rfl dA_byLaw_75 ?_
        refine ro_ishl hK dA_byLaw_78 ?_
        refine ro_ior hK dA_byLaw_79 ?_
        obtain ⟨r26, s24, q25, h⟩ := mb_cl_e h
        refine rb_callV hK mA_showsMost vA_119 (t_A_showsMost (dd := dd + 0) q25) rfl mb_oA rfl (Nat.le_of_ble_eq_true rfl) dA_byLaw_80 rfl ⟨Nat.le_refl _, Nat.le_refl _⟩ ?_
        show K 0 0 83 [.ref 40, .int x1] [.int r26] (mb_s s24)
        cases h
        exact hR.1 0 0 83 _ _ _ _ rfl rfl dA_byLaw_83 ⟨rfl, rfl⟩
      · replace h := mb_iff c6 h
        by_cases c7 : x1 = 3
        · replace h := mb_ift c7 h
          refine ro_tabIn (off := 69) (tgt := 84) hK dA_byLaw_15 (by rw [c7]; decide) (by rw [c7]; decide) (by rw [c7]; decide) (by decide) ?_
          refine ro_aload_n hK dA_byLaw_84 rfl ?_
          refine rb_get hK fA_64 mb_oA rfl dA_byLaw_85 ?_
          refine ro_iconst (x := 1) hK (by decide) dA_byLaw_88 ?_
          refine ro_iand hK dA_byLaw_89 ?_
          refine ro_iconst (x := 1) hK (by decide) dA_byLaw_90 ?_
          refine ro_icmp_ne (tgt := 101) hK dA_byLaw_91 (by decide) (fun c14 => ?_) (fun c14 => ?_)
          · replace h := mb_iff c14 h
            refine ro_aload_n hK dA_byLaw_101 rfl ?_
            refine ro_aload_n hK dA_byLaw_102 rfl ?_
            obtain ⟨r17, s15, q16, h⟩ := mb_cl_e h
            refine rb_callV hK mA_bitsOfAll vA_122 (t_A_bitsOfAll (dd := dd + 2) q16) rfl mb_oA rfl (Nat.le_of_ble_eq_true rfl) dA_byLaw_103 rfl ⟨Nat.le_refl _, Nat.le_refl _⟩ ?_
            show K 0 0 106 [.ref 40, .int x1] [.int r17, .ref 40] (mb_s s15)
            obtain ⟨r20, s18, q19, h⟩ := mb_cl_e h
            refine rb_callV hK mA_showsMost vA_119 (t_A_showsMost (dd := dd + 0) q19) rfl mb_oA rfl (Nat.le_of_ble_eq_true rfl) dA_byLaw_106 rfl ⟨Nat.le_refl _, Nat.le_refl _⟩ ?_
            show K 0 0 109 [.ref 40, .int x1] [.int r20] (mb_s s18)
            cases h
            exact hR.1 0 0 109 _ _ _ _ rfl rfl dA_byLaw_109 ⟨rfl, rfl⟩
          · replace h := mb_ift c14 h
            refine ro_aload_n hK dA_byLaw_94 rfl ?_
            refine rb_get hK fA_69 mb_oA rfl dA_byLaw_95 ?_
            refine ro_goto (tgt := 109) hK dA_byLaw_98 (by decide) ?_
            cases h
            exact hR.1 0 0 109 _ _ _ _ rfl rfl dA_byLaw_109 ⟨rfl, rfl⟩
        · replace h := mb_iff c7 h
          have hz : Int32.toInt x1 < 1 ∨ 3 < Int32.toInt x1 := by
            rcases Int.lt_or_le (Int32.toInt x1) 1 with hz | hz
            · exact Or.inl hz
            · rcases Int.lt_or_le 3 (Int32.toInt x1) with hw | hw
              · exact Or.inr hw
              · exfalso
                have ho : Int32.toInt x1 = 1 ∨ Int32.toInt x1 = 2 ∨ Int32.toInt x1 = 3 := by omega
                rcases ho with ho | ho | ho
                · exact c5 (Int32.toInt_inj.mp (by rw [ho]; decide))
                · exact c6 (Int32.toInt_inj.mp (by rw [ho]; decide))
                · exact c7 (Int32.toInt_inj.mp (by rw [ho]; decide))
          refine ro_tabOut (tgt := 110) hK dA_byLaw_15 hz (by decide) ?_
          refine ro_aload_n hK dA_byLaw_110 rfl ?_
          refine ro_aload_n hK dA_byLaw_111 rfl ?_
          obtain ⟨r10, s8, q9, h⟩ := mb_cl_e h
          refine rb_callV hK mA_bitsOfAll vA_122 (t_A_bitsOfAll (dd := dd + 2) q9) rfl mb_oA rfl (Nat.le_of_ble_eq_true rfl) dA_byLaw_112 rfl ⟨Nat.le_refl _, Nat.le_refl _⟩ ?_
          show K 0 0 115 [.ref 40, .int x1] [.int r10, .ref 40] (mb_s s8)
          obtain ⟨r13, s11, q12, h⟩ := mb_cl_e h
          refine rb_callV hK mA_showsMost vA_119 (t_A_showsMost (dd := dd + 0) q12) rfl mb_oA rfl (Nat.le_of_ble_eq_true rfl) dA_byLaw_115 rfl ⟨Nat.le_refl _, Nat.le_refl _⟩ ?_
          show K 0 0 118 [.ref 40, .int x1] [.int r13] (mb_s s11)
          cases h
          exact hR.1 0 0 118 _ _ _ _ rfl rfl dA_byLaw_118 ⟨rfl, rfl⟩
  refine ro_if_eq (tgt := 14) hK dA_byLaw_1 (by decide) (fun c2 => ?_) (fun c2 => ?_)
  · replace h := mb_ift c2 h
    refine ro_fg (lv' := [.ref 40, .int x1]) hK ⟨Or.inr rfl, ⟨Or.inr rfl, trivial⟩⟩ ?_
    exact hj1 _ h
  · replace h := mb_iff c2 h
    refine ro_aload_n hK dA_byLaw_4 rfl ?_
    refine rb_get hK fA_69 mb_oA rfl dA_byLaw_5 ?_
    refine ro_iconst (x := (-1)) hK (by decide) dA_byLaw_8 ?_
    refine ro_icmp_ne (tgt := 14) hK dA_byLaw_9 (by decide) (fun c3 => ?_) (fun c3 => ?_)
    · replace h := mb_iff c3 h
      refine ro_fg (lv' := [.ref 40, .int x1]) hK ⟨Or.inr rfl, ⟨Or.inr rfl, trivial⟩⟩ ?_
      exact hj1 _ h
    · replace h := mb_ift c3 h
      refine ro_iconst (x := 0) hK (by decide) dA_byLaw_12 ?_
      cases h
      exact hR.1 0 0 13 _ _ _ _ rfl rfl dA_byLaw_13 ⟨rfl, rfl⟩
