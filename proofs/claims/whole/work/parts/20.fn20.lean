theorem dC_asked_0 : decode bC_asked 0 = .ok (.aload_n 0, 1) := by decide +kernel
theorem dC_asked_1 : decode bC_asked 1 = .ok (.getfield 74, 3) := by decide +kernel
theorem dC_asked_4 : decode bC_asked 4 = .ok (.ireturn, 1) := by decide +kernel
def f_C_asked (n : Nat)  (s : mb_T) : Option (Int32 × mb_T) := some ((s.1 0 14), s)
set_option maxHeartbeats 4000000 in
set_option maxRecDepth 100000 in
theorem t_C_asked {dd n : Nat}  {s : mb_T} {out : Int32 × mb_T}  (h : f_C_asked n  s = some out) : mb_MC (dd + 1) yC_asked bC_asked 1 (some .int) [.ref 0] s (some (.int out.1)) out.2 := by
  unfold f_C_asked at h
  refine mj_mc (lv := [.ref 0]) mC_asked rfl rfl (Nat.le_of_ble_eq_true rfl) (fun K hK hR => ?_)
  have hK : mj_C (dd + 1) 0 0 RC_c "asked" bC_asked 1 K := hK
  refine ro_aload_n hK dC_asked_0 rfl ?_
  refine rb_get hK fC_74 mb_oC rfl dC_asked_1 ?_
  cases h
  exact hR.1 0 0 4 _ _ _ _ rfl rfl dC_asked_4 ⟨rfl, rfl⟩
theorem dC_exchangeSeats_0 : decode bC_exchangeSeats 0 = .ok (.aload_n 0, 1) := by decide +kernel
theorem dC_exchangeSeats_1 : decode bC_exchangeSeats 1 = .ok (.getfield 61, 3) := by decide +kernel
theorem dC_exchangeSeats_4 : decode bC_exchangeSeats 4 = .ok (.iload_n 1, 1) := by decide +kernel
theorem dC_exchangeSeats_5 : decode bC_exchangeSeats 5 = .ok (.iaload, 1) := by decide +kernel
theorem dC_exchangeSeats_6 : decode bC_exchangeSeats 6 = .ok (.istore_n 3, 1) := by decide +kernel
theorem dC_exchangeSeats_7 : decode bC_exchangeSeats 7 = .ok (.aload_n 0, 1) := by decide +kernel
theorem dC_exchangeSeats_8 : decode bC_exchangeSeats 8 = .ok (.getfield 61, 3) := by decide +kernel
theorem dC_exchangeSeats_11 : decode bC_exchangeSeats 11 = .ok (.iload_n 1, 1) := by decide +kernel
theorem dC_exchangeSeats_12 : decode bC_exchangeSeats 12 = .ok (.aload_n 0, 1) := by decide +kernel
theorem dC_exchangeSeats_13 : decode bC_exchangeSeats 13 = .ok (.getfield 61, 3) := by decide +kernel
theorem dC_exchangeSeats_16 : decode bC_exchangeSeats 16 = .ok (.iload_n 2, 1) := by decide +kernel
theorem dC_exchangeSeats_17 : decode bC_exchangeSeats 17 = .ok (.iaload, 1) := by decide +kernel
theorem dC_exchangeSeats_18 : decode bC_exchangeSeats 18 = .ok (.iastore, 1) := by decide +kernel
theorem dC_exchangeSeats_19 : decode bC_exchangeSeats 19 = .ok (.aload_n 0, 1) := by decide +kernel
theorem dC_exchangeSeats_20 : decode bC_exchangeSeats 20 = .ok (.getfield 61, 3) := by decide +kernel
theorem dC_exchangeSeats_23 : decode bC_exchangeSeats 23 = .ok (.iload_n 2, 1) := by decide +kernel
theorem dC_exchangeSeats_24 : decode bC_exchangeSeats 24 = .ok (.iload_n 3, 1) := by decide +kernel
theorem dC_exchangeSeats_25 : decode bC_exchangeSeats 25 = .ok (.iastore, 1) := by decide +kernel
theorem dC_exchangeSeats_26 : decode bC_exchangeSeats 26 = .ok (.return_, 1) := by decide +kernel
def f_C_exchangeSeats (n : Nat) (x1 : Int32) (x2 : Int32) (s : mb_T) : Option (mb_T) := mb_rd s 10 5 x1 fun x_1 => mb_rd s 10 5 x2 fun x_4 => mb_wr s 10 5 x1 x_4 fun s_7 => mb_wr s_7 10 5 x2 x_1 fun s_10 => some s_10
set_option maxHeartbeats 4000000 in
set_option maxRecDepth 100000 in
theorem t_C_exchangeSeats {dd n : Nat} {x1 : Int32} {x2 : Int32} {s : mb_T} {out : mb_T}  (h : f_C_exchangeSeats n x1 x2 s = some out) : mb_MC (dd + 1) yC_exchangeSeats bC_exchangeSeats 4 none [.ref 0, .int x1, .int x2] s none out := by
  unfold f_C_exchangeSeats at h
  refine mj_mc (lv := [.ref 0, .int x1, .int x2, .retAddr 0]) mC_exchangeSeats rfl rfl (Nat.le_of_ble_eq_true rfl) (fun K hK hR => ?_)
  have hK : mj_C (dd + 1) 0 0 RC_c "exchangeSeats" bC_exchangeSeats 4 K := hK
  refine ro_aload_n hK dC_exchangeSeats_0 rfl ?_
  refine rb_get hK fC_61 mb_oC rfl dC_exchangeSeats_1 ?_
  refine ro_iload_n hK dC_exchangeSeats_4 rfl ?_
  obtain ⟨x_1, e_2, i_3, h⟩ := mb_rd_e h
  refine rb_iald hK ai_10 i_3 e_2 dC_exchangeSeats_5 ?_
  refine ro_istore_n hK dC_exchangeSeats_6 (by decide) ?_
  show K 0 0 7 [.ref 0, .int x1, .int x2, .int x_1] [] (mb_s s)
  refine ro_aload_n hK dC_exchangeSeats_7 rfl ?_
  refine rb_get hK fC_61 mb_oC rfl dC_exchangeSeats_8 ?_
  refine ro_iload_n hK dC_exchangeSeats_11 rfl ?_
  refine ro_aload_n hK dC_exchangeSeats_12 rfl ?_
  refine rb_get hK fC_61 mb_oC rfl dC_exchangeSeats_13 ?_
  refine ro_iload_n hK dC_exchangeSeats_16 rfl ?_
  obtain ⟨x_4, e_5, i_6, h⟩ := mb_rd_e h
  refine rb_iald hK ai_10 i_6 e_5 dC_exchangeSeats_17 ?_
  obtain ⟨s_7, e_8, i_9, h⟩ := mb_wr_e h
  refine rb_iast hK ai_10 i_9 e_8 dC_exchangeSeats_18 ?_
  refine ro_aload_n hK dC_exchangeSeats_19 rfl ?_
  refine rb_get hK fC_61 mb_oC rfl dC_exchangeSeats_20 ?_
  refine ro_iload_n hK dC_exchangeSeats_23 rfl ?_
  refine ro_iload_n hK dC_exchangeSeats_24 rfl ?_
  obtain ⟨s_10, e_11, i_12, h⟩ := mb_wr_e h
  refine rb_iast hK ai_10 i_12 e_11 dC_exchangeSeats_25 ?_
  cases h
  exact hR.2.2 0 0 26 _ _ rfl dC_exchangeSeats_26 ⟨rfl, rfl⟩
theorem dC_fillRow_0 : decode bC_fillRow 0 = .ok (.iload_n 3, 1) := by decide +kernel
theorem dC_fillRow_1 : decode bC_fillRow 1 = .ok (.iconst 0, 1) := by decide +kernel
theorem dC_fillRow_2 : decode bC_fillRow 2 = .ok (.invokestatic 341, 3) := by decide +kernel
theorem dC_fillRow_5 : decode bC_fillRow 5 = .ok (.aload_n 2, 1) := by decide +kernel
theorem dC_fillRow_6 : decode bC_fillRow 6 = .ok (.arraylength, 1) := by decide +kernel
theorem dC_fillRow_7 : decode bC_fillRow 7 = .ok (.bipush 60, 2) := by decide +kernel
theorem dC_fillRow_9 : decode bC_fillRow 9 = .ok (.invokestatic 346, 3) := by decide +kernel
theorem dC_fillRow_12 : decode bC_fillRow 12 = .ok (.invokestatic 346, 3) := by decide +kernel
theorem dC_fillRow_15 : decode bC_fillRow 15 = .ok (.istore 4, 2) := by decide +kernel
theorem dC_fillRow_17 : decode bC_fillRow 17 = .ok (.aload_n 2, 1) := by decide +kernel
theorem dC_fillRow_18 : decode bC_fillRow 18 = .ok (.iconst 0, 1) := by decide +kernel
theorem dC_fillRow_19 : decode bC_fillRow 19 = .ok (.aload_n 0, 1) := by decide +kernel
theorem dC_fillRow_20 : decode bC_fillRow 20 = .ok (.getfield 11, 3) := by decide +kernel
theorem dC_fillRow_23 : decode bC_fillRow 23 = .ok (.iload_n 1, 1) := by decide +kernel
theorem dC_fillRow_24 : decode bC_fillRow 24 = .ok (.aaload, 1) := by decide +kernel
theorem dC_fillRow_25 : decode bC_fillRow 25 = .ok (.iconst 0, 1) := by decide +kernel
theorem dC_fillRow_26 : decode bC_fillRow 26 = .ok (.iload 4, 2) := by decide +kernel
theorem dC_fillRow_28 : decode bC_fillRow 28 = .ok (.invokestatic 102, 3) := by decide +kernel
theorem dC_fillRow_31 : decode bC_fillRow 31 = .ok (.aload_n 0, 1) := by decide +kernel
theorem dC_fillRow_32 : decode bC_fillRow 32 = .ok (.getfield 14, 3) := by decide +kernel
theorem dC_fillRow_35 : decode bC_fillRow 35 = .ok (.iload_n 1, 1) := by decide +kernel
theorem dC_fillRow_36 : decode bC_fillRow 36 = .ok (.iload 4, 2) := by decide +kernel
theorem dC_fillRow_38 : decode bC_fillRow 38 = .ok (.iastore, 1) := by decide +kernel
theorem dC_fillRow_39 : decode bC_fillRow 39 = .ok (.return_, 1) := by decide +kernel
def f_C_fillRow (n : Nat) (x1 : Int32) (a2 n2 : Nat) (x3 : Int32) (s : mb_T) : Option (mb_T) := mb_ix x1 6 (mb_cp s a2 n2 (20 + x1.toNatClampNeg) 60 0 0 (if (if 60 < (Int32.ofNat n2) then 60 else (Int32.ofNat n2) : Int32) < (if x3 < 0 then 0 else x3 : Int32) then (if 60 < (Int32.ofNat n2) then 60 else (Int32.ofNat n2) : Int32) else (if x3 < 0 then 0 else x3 : Int32) : Int32) fun s_2 => mb_wr s_2 1 6 x1 (if (if 60 < (Int32.ofNat n2) then 60 else (Int32.ofNat n2) : Int32) < (if x3 < 0 then 0 else x3 : Int32) then (if 60 < (Int32.ofNat n2) then 60 else (Int32.ofNat n2) : Int32) else (if x3 < 0 then 0 else x3 : Int32) : Int32) fun s_5 => some s_5)
set_option maxHeartbeats 4000000 in
set_option maxRecDepth 100000 in
theorem t_C_fillRow {dd n : Nat} {x1 : Int32} {a2 n2 : Nat} {x3 : Int32} {s : mb_T} {out : mb_T} (ha2 : mb_ai a2 n2) (h : f_C_fillRow n x1 a2 n2 x3 s = some out) : mb_MC (dd + 1) yC_fillRow bC_fillRow 5 none [.ref 0, .int x1, .ref a2, .int x3] s none out := by
  unfold f_C_fillRow at h
  refine mj_mc (lv := [.ref 0, .int x1, .ref a2, .int x3, .retAddr 0]) mC_fillRow rfl rfl (Nat.le_of_ble_eq_true rfl) (fun K hK hR => ?_)
  have hK : mj_C (dd + 1) 0 0 RC_c "fillRow" bC_fillRow 5 K := hK
  refine ro_iload_n hK dC_fillRow_0 rfl ?_
  refine ro_iconst (x := 0) hK (by decide) dC_fillRow_1 ?_
  refine ro_mmax hK vC_341 (by omega) (Nat.le_of_ble_eq_true rfl) dC_fillRow_2 ?_
  refine ro_aload_n hK dC_fillRow_5 rfl ?_
  refine rb_alenI hK ha2 dC_fillRow_6 ?_
  refine ro_bipush (x := 60) hK (by decide) dC_fillRow_7 ?_
  refine ro_mmin hK vC_346 (by omega) (Nat.le_of_ble_eq_true rfl) dC_fillRow_9 ?_
  refine ro_mmin hK vC_346 (by omega) (Nat.le_of_ble_eq_true rfl) dC_fillRow_12 ?_
  refine ro_istore hK dC_fillRow_15 (by decide) ?_
  show K 0 0 17 [.ref 0, .int x1, .ref a2, .int x3, .int (if (if 60 < (Int32.ofNat n2) then 60 else (Int32.ofNat n2) : Int32) < (if x3 < 0 then 0 else x3 : Int32) then (if 60 < (Int32.ofNat n2) then 60 else (Int32.ofNat n2) : Int32) else (if x3 < 0 then 0 else x3 : Int32) : Int32)] [] (mb_s s)
  refine ro_aload_n hK dC_fillRow_17 rfl ?_
  refine ro_iconst (x := 0) hK (by decide) dC_fillRow_18 ?_
  refine ro_aload_n hK dC_fillRow_19 rfl ?_
  refine rb_get hK fC_11 mb_oC rfl dC_fillRow_20 ?_
  refine ro_iload_n hK dC_fillRow_23 rfl ?_
  obtain ⟨i_1, h⟩ := mb_ix_e h
  refine rb_rows hK i_1 dC_fillRow_24 ?_
  refine ro_iconst (x := 0) hK (by decide) dC_fillRow_25 ?_
  refine ro_iload hK dC_fillRow_26 rfl ?_
  obtain ⟨s_2, e_3, i_4, h⟩ := mb_cp_e h
  refine rb_copy hK vC_102 (by omega) (Nat.le_of_ble_eq_true rfl) ha2 (mb_rw i_1) i_4 e_3 dC_fillRow_28 ?_
  refine ro_aload_n hK dC_fillRow_31 rfl ?_
  refine rb_get hK fC_14 mb_oC rfl dC_fillRow_32 ?_
  refine ro_iload_n hK dC_fillRow_35 rfl ?_
  refine ro_iload hK dC_fillRow_36 rfl ?_
  obtain ⟨s_5, e_6, i_7, h⟩ := mb_wr_e h
  refine rb_iast hK ai_1 i_7 e_6 dC_fillRow_38 ?_
  cases h
  exact hR.2.2 0 0 39 _ _ rfl dC_fillRow_39 ⟨rfl, rfl⟩
theorem dC_finding_0 : decode bC_finding 0 = .ok (.aload_n 0, 1) := by decide +kernel
theorem dC_finding_1 : decode bC_finding 1 = .ok (.getfield 70, 3) := by decide +kernel
theorem dC_finding_4 : decode bC_finding 4 = .ok (.ireturn, 1) := by decide +kernel
def f_C_finding (n : Nat)  (s : mb_T) : Option (Int32 × mb_T) := some ((s.1 0 13), s)
set_option maxHeartbeats 4000000 in
set_option maxRecDepth 100000 in
theorem t_C_finding {dd n : Nat}  {s : mb_T} {out : Int32 × mb_T}  (h : f_C_finding n  s = some out) : mb_MC (dd + 1) yC_finding bC_finding 1 (some .int) [.ref 0] s (some (.int out.1)) out.2 := by
  unfold f_C_finding at h
  refine mj_mc (lv := [.ref 0]) mC_finding rfl rfl (Nat.le_of_ble_eq_true rfl) (fun K hK hR => ?_)
  have hK : mj_C (dd + 1) 0 0 RC_c "finding" bC_finding 1 K := hK
  refine ro_aload_n hK dC_finding_0 rfl ?_
  refine rb_get hK fC_70 mb_oC rfl dC_finding_1 ?_
  cases h
  exact hR.1 0 0 4 _ _ _ _ rfl rfl dC_finding_4 ⟨rfl, rfl⟩
theorem dC_findings_0 : decode bC_findings 0 = .ok (.iload_n 1, 1) := by decide +kernel
theorem dC_findings_1 : decode bC_findings 1 = .ok (.iconst 1, 1) := by decide +kernel
theorem dC_findings_2 : decode bC_findings 2 = .ok (.if_icmp .lt 8, 3) := by decide +kernel
theorem dC_findings_5 : decode bC_findings 5 = .ok (.iload_n 1, 1) := by decide +kernel
theorem dC_findings_6 : decode bC_findings 6 = .ok (.iconst 5, 1) := by decide +kernel
theorem dC_findings_7 : decode bC_findings 7 = .ok (.if_icmp .le 7, 3) := by decide +kernel
theorem dC_findings_10 : decode bC_findings 10 = .ok (.iconst (-1), 1) := by decide +kernel
theorem dC_findings_11 : decode bC_findings 11 = .ok (.goto 9, 3) := by decide +kernel
theorem dC_findings_14 : decode bC_findings 14 = .ok (.aload_n 0, 1) := by decide +kernel
theorem dC_findings_15 : decode bC_findings 15 = .ok (.getfield 67, 3) := by decide +kernel
theorem dC_findings_18 : decode bC_findings 18 = .ok (.iload_n 1, 1) := by decide +kernel
theorem dC_findings_19 : decode bC_findings 19 = .ok (.iaload, 1) := by decide +kernel
theorem dC_findings_20 : decode bC_findings 20 = .ok (.ireturn, 1) := by decide +kernel
def f_C_findings (n : Nat) (x1 : Int32) (s : mb_T) : Option (Int32 × mb_T) := if x1 < 1 then some ((-1), s) else if x1 ≤ 5 then (mb_rd s 12 6 x1 fun x_3 => some (x_3, s)) else some ((-1), s)
set_option maxHeartbeats 4000000 in
set_option maxRecDepth 100000 in
theorem t_C_findings {dd n : Nat} {x1 : Int32} {s : mb_T} {out : Int32 × mb_T}  (h : f_C_findings n x1 s = some out) : mb_MC (dd + 1) yC_findings bC_findings 2 (some .int) [.ref 0, .int x1] s (some (.int out.1)) out.2 := by
  unfold f_C_findings at h
  refine mj_mc (lv := [.ref 0, .int x1]) mC_findings rfl rfl (Nat.le_of_ble_eq_true rfl) (fun K hK hR => ?_)
  have hK : mj_C (dd + 1) 0 0 RC_c "findings" bC_findings 2 K := hK
  refine ro_iload_n hK dC_findings_0 rfl ?_
  refine ro_iconst (x := 1) hK (by decide) dC_findings_1 ?_
  refine ro_icmp_lt (tgt := 10) hK dC_findings_2 (by decide) (fun c_1 => ?_) (fun c_1 => ?_)
  · replace h := mb_ift c_1 h
    refine ro_iconst (x := (-1)) hK (by decide) dC_findings_10 ?_
    refine ro_goto (tgt := 20) hK dC_findings_11 (by decide) ?_
    cases h
    exact hR.1 0 0 20 _ _ _ _ rfl rfl dC_findings_20 ⟨rfl, rfl⟩
  · replace h := mb_iff c_1 h
    refine ro_iload_n hK dC_findings_5 rfl ?_
    refine ro_iconst (x := 5) hK (by decide) dC_findings_6 ?_
    refine ro_icmp_le (tgt := 14) hK dC_findings_7 (by decide) (fun c_2 => ?_) (fun c_2 => ?_)
    · replace h := mb_ift c_2 h
      refine ro_aload_n hK dC_findings_14 rfl ?_
      refine rb_get hK fC_67 mb_oC rfl dC_findings_15 ?_
      refine ro_iload_n hK dC_findings_18 rfl ?_
      obtain ⟨x_3, e_4, i_5, h⟩ := mb_rd_e h
      refine rb_iald hK ai_12 i_5 e_4 dC_findings_19 ?_
      cases h
      exact hR.1 0 0 20 _ _ _ _ rfl rfl dC_findings_20 ⟨rfl, rfl⟩
    · replace h := mb_iff c_2 h
      refine ro_iconst (x := (-1)) hK (by decide) dC_findings_10 ?_
      refine ro_goto (tgt := 20) hK dC_findings_11 (by decide) ?_
      cases h
      exact hR.1 0 0 20 _ _ _ _ rfl rfl dC_findings_20 ⟨rfl, rfl⟩
theorem dC_found_0 : decode bC_found 0 = .ok (.iload_n 1, 1) := by decide +kernel
theorem dC_found_1 : decode bC_found 1 = .ok (.iconst 1, 1) := by decide +kernel
theorem dC_found_2 : decode bC_found 2 = .ok (.if_icmp .lt 23, 3) := by decide +kernel
theorem dC_found_5 : decode bC_found 5 = .ok (.iload_n 1, 1) := by decide +kernel
theorem dC_found_6 : decode bC_found 6 = .ok (.iconst 5, 1) := by decide +kernel
theorem dC_found_7 : decode bC_found 7 = .ok (.if_icmp .gt 18, 3) := by decide +kernel
theorem dC_found_10 : decode bC_found 10 = .ok (.aload_n 0, 1) := by decide +kernel
theorem dC_found_11 : decode bC_found 11 = .ok (.iload_n 1, 1) := by decide +kernel
theorem dC_found_12 : decode bC_found 12 = .ok (.putfield 70, 3) := by decide +kernel
theorem dC_found_15 : decode bC_found 15 = .ok (.aload_n 0, 1) := by decide +kernel
theorem dC_found_16 : decode bC_found 16 = .ok (.getfield 67, 3) := by decide +kernel
theorem dC_found_19 : decode bC_found 19 = .ok (.iload_n 1, 1) := by decide +kernel
theorem dC_found_20 : decode bC_found 20 = .ok (.dup2, 1) := by decide +kernel
theorem dC_found_21 : decode bC_found 21 = .ok (.iaload, 1) := by decide +kernel
theorem dC_found_22 : decode bC_found 22 = .ok (.iconst 1, 1) := by decide +kernel
theorem dC_found_23 : decode bC_found 23 = .ok (.iadd, 1) := by decide +kernel
theorem dC_found_24 : decode bC_found 24 = .ok (.iastore, 1) := by decide +kernel
theorem dC_found_25 : decode bC_found 25 = .ok (.bipush (-3), 2) := by decide +kernel
theorem dC_found_27 : decode bC_found 27 = .ok (.ireturn, 1) := by decide +kernel
def f_C_found (n : Nat) (x1 : Int32) (s : mb_T) : Option (Int32 × mb_T) := if x1 < 1 then some ((-3), s) else if 5 < x1 then some ((-3), s) else mb_bd (sF s 0 13 x1) fun s_3 => mb_rd s_3 12 6 x1 fun x_5 => mb_wr s_3 12 6 x1 (x_5 + 1) fun s_8 => some ((-3), s_8)
set_option maxHeartbeats 4000000 in
set_option maxRecDepth 100000 in
theorem t_C_found {dd n : Nat} {x1 : Int32} {s : mb_T} {out : Int32 × mb_T}  (h : f_C_found n x1 s = some out) : mb_MC (dd + 1) yC_found bC_found 2 (some .int) [.ref 0, .int x1] s (some (.int out.1)) out.2 := by
  unfold f_C_found at h
  refine mj_mc (lv := [.ref 0, .int x1]) mC_found rfl rfl (Nat.le_of_ble_eq_true rfl) (fun K hK hR => ?_)
  have hK : mj_C (dd + 1) 0 0 RC_c "found" bC_found 2 K := hK
  refine ro_iload_n hK dC_found_0 rfl ?_
  refine ro_iconst (x := 1) hK (by decide) dC_found_1 ?_
  refine ro_icmp_lt (tgt := 25) hK dC_found_2 (by decide) (fun c_1 => ?_) (fun c_1 => ?_)
  · replace h := mb_ift c_1 h
    refine ro_bipush (x := (-3)) hK (by decide) dC_found_25 ?_
    cases h
    exact hR.1 0 0 27 _ _ _ _ rfl rfl dC_found_27 ⟨rfl, rfl⟩
  · replace h := mb_iff c_1 h
    refine ro_iload_n hK dC_found_5 rfl ?_
    refine ro_iconst (x := 5) hK (by decide) dC_found_6 ?_
    refine ro_icmp_gt (tgt := 25) hK dC_found_7 (by decide) (fun c_2 => ?_) (fun c_2 => ?_)
    · replace h := mb_ift c_2 h
      refine ro_bipush (x := (-3)) hK (by decide) dC_found_25 ?_
      cases h
      exact hR.1 0 0 27 _ _ _ _ rfl rfl dC_found_27 ⟨rfl, rfl⟩
    · replace h := mb_iff c_2 h
      refine ro_aload_n hK dC_found_10 rfl ?_
      refine ro_iload_n hK dC_found_11 rfl ?_
      obtain ⟨s_3, e_4, h⟩ := mb_bd_e h
      refine rb_put hK gC_70 mb_oC rfl (by show 13 < 15; decide) rfl rfl e_4 dC_found_12 ?_
      refine ro_aload_n hK dC_found_15 rfl ?_
      refine rb_get hK fC_67 mb_oC rfl dC_found_16 ?_
      refine ro_iload_n hK dC_found_19 rfl ?_
      refine ro_dup2 hK dC_found_20 rfl rfl ?_
      obtain ⟨x_5, e_6, i_7, h⟩ := mb_rd_e h
      refine rb_iald hK ai_12 i_7 e_6 dC_found_21 ?_
      refine ro_iconst (x := 1) hK (by decide) dC_found_22 ?_
      refine ro_iadd hK dC_found_23 ?_
      obtain ⟨s_8, e_9, i_10, h⟩ := mb_wr_e h
      refine rb_iast hK ai_12 i_10 e_9 dC_found_24 ?_
      refine ro_bipush (x := (-3)) hK (by decide) dC_found_25 ?_
      cases h
      exact hR.1 0 0 27 _ _ _ _ rfl rfl dC_found_27 ⟨rfl, rfl⟩
theorem dC_greatestDivisor_0 : decode bC_greatestDivisor 0 = .ok (.iconst 0, 1) := by decide +kernel
theorem dC_greatestDivisor_1 : decode bC_greatestDivisor 1 = .ok (.istore_n 2, 1) := by decide +kernel
theorem dC_greatestDivisor_2 : decode bC_greatestDivisor 2 = .ok (.iload_n 2, 1) := by decide +kernel
theorem dC_greatestDivisor_3 : decode bC_greatestDivisor 3 = .ok (.bipush 64, 2) := by decide +kernel
theorem dC_greatestDivisor_5 : decode bC_greatestDivisor 5 = .ok (.if_icmp .ge 21, 3) := by decide +kernel
theorem dC_greatestDivisor_8 : decode bC_greatestDivisor 8 = .ok (.iload_n 1, 1) := by decide +kernel
theorem dC_greatestDivisor_9 : decode bC_greatestDivisor 9 = .ok (.ifCond .eq 17, 3) := by decide +kernel
theorem dC_greatestDivisor_12 : decode bC_greatestDivisor 12 = .ok (.iload_n 0, 1) := by decide +kernel
theorem dC_greatestDivisor_13 : decode bC_greatestDivisor 13 = .ok (.iload_n 1, 1) := by decide +kernel
theorem dC_greatestDivisor_14 : decode bC_greatestDivisor 14 = .ok (.irem, 1) := by decide +kernel
theorem dC_greatestDivisor_15 : decode bC_greatestDivisor 15 = .ok (.istore_n 3, 1) := by decide +kernel
theorem dC_greatestDivisor_16 : decode bC_greatestDivisor 16 = .ok (.iload_n 1, 1) := by decide +kernel
theorem dC_greatestDivisor_17 : decode bC_greatestDivisor 17 = .ok (.istore_n 0, 1) := by decide +kernel
theorem dC_greatestDivisor_18 : decode bC_greatestDivisor 18 = .ok (.iload_n 3, 1) := by decide +kernel
theorem dC_greatestDivisor_19 : decode bC_greatestDivisor 19 = .ok (.istore_n 1, 1) := by decide +kernel
theorem dC_greatestDivisor_20 : decode bC_greatestDivisor 20 = .ok (.iinc 2 1, 3) := by decide +kernel
theorem dC_greatestDivisor_23 : decode bC_greatestDivisor 23 = .ok (.goto (-21), 3) := by decide +kernel
theorem dC_greatestDivisor_26 : decode bC_greatestDivisor 26 = .ok (.iload_n 0, 1) := by decide +kernel
theorem dC_greatestDivisor_27 : decode bC_greatestDivisor 27 = .ok (.ireturn, 1) := by decide +kernel
def f_C_greatestDivisor_2 (n : Nat) (k0 : Int32 → Int32 → Int32 → mb_T → Option (Int32 × mb_T))  : Nat → Int32 → Int32 → Int32 → mb_T → Option (Int32 × mb_T)
  | 0, _, _, _, _ => none
  | f + 1, w0, w1, w2, s => if 64 ≤ w2 then k0 w0 w1 w2 s else if w1 = 0 then k0 w0 w1 w2 s else mb_dv w1 (f_C_greatestDivisor_2 n k0 f w1 (w0 - w0 / w1 * w1) (w2 + 1) s)
def f_C_greatestDivisor (n : Nat) (x1 : Int32) (x2 : Int32) (s : mb_T) : Option (Int32 × mb_T) := f_C_greatestDivisor_2 n (fun x_4 x_5 x_6 s_7 => some (x_4, s_7)) n x1 x2 0 s
set_option maxHeartbeats 4000000 in
set_option maxRecDepth 100000 in
theorem tl_C_greatestDivisor_2 {dd n : Nat} {K : mj_KT} {out : Int32 × mb_T} (hK : mj_C (dd + 1) 0 0 RC_c "greatestDivisor" bC_greatestDivisor 4 K) (hR : mj_R bC_greatestDivisor (some .int) (fun r2 S2 => r2 = some (.int out.1) ∧ S2 = mb_s out.2) K) {k0 : Int32 → Int32 → Int32 → mb_T → Option (Int32 × mb_T)}  (hk0 : ∀ (w0 : Int32) (w1 : Int32) (w2 : Int32) (s : mb_T), k0 w0 w1 w2 s = some out → K 0 0 26 [.int w0, .int w1, .int w2, .retAddr 0] [] (mb_s s)) : ∀ (f : Nat) (w0 : Int32) (w1 : Int32) (w2 : Int32) (s : mb_T), f_C_greatestDivisor_2 n k0 f w0 w1 w2 s = some out → K 0 0 2 [.int w0, .int w1, .int w2, .retAddr 0] [] (mb_s s) := by
  intro f
  induction f with
  | zero =>
    intro w0 w1 w2 s h
    cases h
  | succ f ih =>
    intro w0 w1 w2 s h
    rw [f_C_greatestDivisor_2] at h
    refine ro_iload_n hK dC_greatestDivisor_2 rfl ?_
    refine ro_bipush (x := 64) hK (by decide) dC_greatestDivisor_3 ?_
    refine ro_icmp_ge (tgt := 26) hK dC_greatestDivisor_5 (by decide) (fun c_1 => ?_) (fun c_1 => ?_)
    · replace h := mb_ift c_1 h
      refine ro_fg (lv' := [.int w0, .int w1, .int w2, .retAddr 0]) hK ⟨Or.inr rfl, ⟨Or.inr rfl, ⟨Or.inr rfl, ⟨Or.inl rfl, trivial⟩⟩⟩⟩ ?_
      exact hk0 _ _ _ _ h
    · replace h := mb_iff c_1 h
      refine ro_iload_n hK dC_greatestDivisor_8 rfl ?_
      refine ro_if_eq (tgt := 26) hK dC_greatestDivisor_9 (by decide) (fun c_2 => ?_) (fun c_2 => ?_)
      · replace h := mb_ift c_2 h
        refine ro_fg (lv' := [.int w0, .int w1, .int w2, .retAddr 0]) hK ⟨Or.inr rfl, ⟨Or.inr rfl, ⟨Or.inr rfl, ⟨Or.inl rfl, trivial⟩⟩⟩⟩ ?_
        exact hk0 _ _ _ _ h
      · replace h := mb_iff c_2 h
        refine ro_iload_n hK dC_greatestDivisor_12 rfl ?_
        refine ro_iload_n hK dC_greatestDivisor_13 rfl ?_
        obtain ⟨z_3, h⟩ := mb_dv_e h
        refine ro_irem hK dC_greatestDivisor_14 z_3 ?_
        refine ro_istore_n hK dC_greatestDivisor_15 (by decide) ?_
        show K 0 0 16 [.int w0, .int w1, .int w2, .int (w0 - w0 / w1 * w1)] [] (mb_s s)
        refine ro_iload_n hK dC_greatestDivisor_16 rfl ?_
        refine ro_istore_n hK dC_greatestDivisor_17 (by decide) ?_
        show K 0 0 18 [.int w1, .int w1, .int w2, .int (w0 - w0 / w1 * w1)] [] (mb_s s)
        refine ro_iload_n hK dC_greatestDivisor_18 rfl ?_
        refine ro_istore_n hK dC_greatestDivisor_19 (by decide) ?_
        show K 0 0 20 [.int w1, .int (w0 - w0 / w1 * w1), .int w2, .int (w0 - w0 / w1 * w1)] [] (mb_s s)
        refine ro_iincv (c := 1) hK (by decide) dC_greatestDivisor_20 rfl (by decide) ?_
        show K 0 0 23 [.int w1, .int (w0 - w0 / w1 * w1), .int (w2 + 1), .int (w0 - w0 / w1 * w1)] [] (mb_s s)
        refine ro_goto (tgt := 2) hK dC_greatestDivisor_23 (by decide) ?_
        refine ro_fg (lv' := [.int w1, .int (w0 - w0 / w1 * w1), .int (w2 + 1), .retAddr 0]) hK ⟨Or.inr rfl, ⟨Or.inr rfl, ⟨Or.inr rfl, ⟨Or.inl rfl, trivial⟩⟩⟩⟩ ?_
        exact ih _ _ _ _ h
set_option maxHeartbeats 4000000 in
set_option maxRecDepth 100000 in
theorem t_C_greatestDivisor {dd n : Nat} {x1 : Int32} {x2 : Int32} {s : mb_T} {out : Int32 × mb_T}  (h : f_C_greatestDivisor n x1 x2 s = some out) : mb_MC (dd + 1) yC_greatestDivisor bC_greatestDivisor 4 (some .int) [.int x1, .int x2] s (some (.int out.1)) out.2 := by
  unfold f_C_greatestDivisor at h
  refine mj_mc (lv := [.int x1, .int x2, .retAddr 0, .retAddr 0]) mC_greatestDivisor rfl rfl (Nat.le_of_ble_eq_true rfl) (fun K hK hR => ?_)
  have hK : mj_C (dd + 1) 0 0 RC_c "greatestDivisor" bC_greatestDivisor 4 K := hK
  refine ro_iconst (x := 0) hK (by decide) dC_greatestDivisor_0 ?_
  refine ro_istore_n hK dC_greatestDivisor_1 (by decide) ?_
  show K 0 0 2 [.int x1, .int x2, .int 0, .retAddr 0] [] (mb_s s)
  refine ro_fg (lv' := [.int x1, .int x2, .int 0, .retAddr 0]) hK ⟨Or.inr rfl, ⟨Or.inr rfl, ⟨Or.inr rfl, ⟨Or.inl rfl, trivial⟩⟩⟩⟩ ?_
  refine tl_C_greatestDivisor_2 (dd := dd) hK hR (fun x_4 x_5 x_6 s_7 h => ?_) n _ _ _ _ h
  refine ro_iload_n hK dC_greatestDivisor_26 rfl ?_
  cases h
  exact hR.1 0 0 27 _ _ _ _ rfl rfl dC_greatestDivisor_27 ⟨rfl, rfl⟩
theorem dC_hasPlaces_0 : decode bC_hasPlaces 0 = .ok (.iload_n 1, 1) := by decide +kernel
theorem dC_hasPlaces_1 : decode bC_hasPlaces 1 = .ok (.ifCond .lt 19, 3) := by decide +kernel
theorem dC_hasPlaces_4 : decode bC_hasPlaces 4 = .ok (.iload_n 1, 1) := by decide +kernel
theorem dC_hasPlaces_5 : decode bC_hasPlaces 5 = .ok (.iload_n 0, 1) := by decide +kernel
theorem dC_hasPlaces_6 : decode bC_hasPlaces 6 = .ok (.if_icmp .gt 14, 3) := by decide +kernel
theorem dC_hasPlaces_9 : decode bC_hasPlaces 9 = .ok (.iload_n 2, 1) := by decide +kernel
theorem dC_hasPlaces_10 : decode bC_hasPlaces 10 = .ok (.iload_n 0, 1) := by decide +kernel
theorem dC_hasPlaces_11 : decode bC_hasPlaces 11 = .ok (.iload_n 1, 1) := by decide +kernel
theorem dC_hasPlaces_12 : decode bC_hasPlaces 12 = .ok (.isub, 1) := by decide +kernel
theorem dC_hasPlaces_13 : decode bC_hasPlaces 13 = .ok (.if_icmp .gt 7, 3) := by decide +kernel
theorem dC_hasPlaces_16 : decode bC_hasPlaces 16 = .ok (.iconst 1, 1) := by decide +kernel
theorem dC_hasPlaces_17 : decode bC_hasPlaces 17 = .ok (.goto 4, 3) := by decide +kernel
theorem dC_hasPlaces_20 : decode bC_hasPlaces 20 = .ok (.iconst 0, 1) := by decide +kernel
theorem dC_hasPlaces_21 : decode bC_hasPlaces 21 = .ok (.ireturn, 1) := by decide +kernel
def f_C_hasPlaces (n : Nat) (x1 : Int32) (x2 : Int32) (x3 : Int32) (s : mb_T) : Option (Int32 × mb_T) := mb_bz (if x2 < 0 then 0 else (if x1 < x2 then 0 else (if (x1 - x2) < x3 then 0 else 1 : Int32) : Int32) : Int32) (some ((if x2 < 0 then 0 else (if x1 < x2 then 0 else (if (x1 - x2) < x3 then 0 else 1 : Int32) : Int32) : Int32), s))
set_option maxHeartbeats 4000000 in
set_option maxRecDepth 100000 in
theorem t_C_hasPlaces {dd n : Nat} {x1 : Int32} {x2 : Int32} {x3 : Int32} {s : mb_T} {out : Int32 × mb_T}  (h : f_C_hasPlaces n x1 x2 x3 s = some out) : mb_MC (dd + 1) yC_hasPlaces bC_hasPlaces 3 (some .boolean) [.int x1, .int x2, .int x3] s (some (.int out.1)) out.2 := by
  unfold f_C_hasPlaces at h
  refine mj_mc (lv := [.int x1, .int x2, .int x3]) mC_hasPlaces rfl rfl (Nat.le_of_ble_eq_true rfl) (fun K hK hR => ?_)
  have hK : mj_C (dd + 1) 0 0 RC_c "hasPlaces" bC_hasPlaces 3 K := hK
  refine ro_iload_n hK dC_hasPlaces_0 rfl ?_
  have j_4 : ∀ w_ : Int32, w_ = (if x2 < 0 then 0 else (if x1 < x2 then 0 else (if (x1 - x2) < x3 then 0 else 1 : Int32) : Int32) : Int32) → K 0 0 21 [.int x1, .int x2, .int x3] [.int w_] (mb_s s) → K 0 0 1 [.int x1, .int x2, .int x3] [.int x2] (mb_s s) := by
    intro w_ hw hj
    refine ro_if_lt (tgt := 20) hK dC_hasPlaces_1 (by decide) (fun c_1 => ?_) (fun c_1 => ?_)
    · skip
      refine ro_iconst (x := 0) hK (by decide) dC_hasPlaces_20 ?_
      have hw := (hw.trans (if_pos c_1))
      subst hw
      exact hj
    · skip
      refine ro_iload_n hK dC_hasPlaces_4 rfl ?_
      refine ro_iload_n hK dC_hasPlaces_5 rfl ?_
      refine ro_icmp_gt (tgt := 20) hK dC_hasPlaces_6 (by decide) (fun c_2 => ?_) (fun c_2 => ?_)
      · skip
        refine ro_iconst (x := 0) hK (by decide) dC_hasPlaces_20 ?_
        have hw := ((hw.trans (if_neg c_1)).trans (if_pos c_2))
        subst hw
        exact hj
      · skip
        refine ro_iload_n hK dC_hasPlaces_9 rfl ?_
        refine ro_iload_n hK dC_hasPlaces_10 rfl ?_
        refine ro_iload_n hK dC_hasPlaces_11 rfl ?_
        refine ro_isub hK dC_hasPlaces_12 ?_
        refine ro_icmp_gt (tgt := 20) hK dC_hasPlaces_13 (by decide) (fun c_3 => ?_) (fun c_3 => ?_)
        · skip
          refine ro_iconst (x := 0) hK (by decide) dC_hasPlaces_20 ?_
          have hw := (((hw.trans (if_neg c_1)).trans (if_neg c_2)).trans (if_pos c_3))
          subst hw
          exact hj
        · skip
          refine ro_iconst (x := 1) hK (by decide) dC_hasPlaces_16 ?_
          refine ro_goto (tgt := 21) hK dC_hasPlaces_17 (by decide) ?_
          have hw := (((hw.trans (if_neg c_1)).trans (if_neg c_2)).trans (if_neg c_3))
          subst hw
          exact hj
  refine j_4 _ rfl ?_
  obtain ⟨z_5, h⟩ := mb_bz_e h
  cases h
  exact hR.1 0 0 21 _ _ _ _ rfl (mb_nz z_5) dC_hasPlaces_21 ⟨rfl, rfl⟩
theorem dC_isKeepingPlace_0 : decode bC_isKeepingPlace 0 = .ok (.iload_n 0, 1) := by decide +kernel
theorem dC_isKeepingPlace_1 : decode bC_isKeepingPlace 1 = .ok (.ifCond .lt 12, 3) := by decide +kernel
theorem dC_isKeepingPlace_4 : decode bC_isKeepingPlace 4 = .ok (.iload_n 0, 1) := by decide +kernel
theorem dC_isKeepingPlace_5 : decode bC_isKeepingPlace 5 = .ok (.iconst 3, 1) := by decide +kernel
theorem dC_isKeepingPlace_6 : decode bC_isKeepingPlace 6 = .ok (.if_icmp .ge 7, 3) := by decide +kernel
theorem dC_isKeepingPlace_9 : decode bC_isKeepingPlace 9 = .ok (.iconst 1, 1) := by decide +kernel
theorem dC_isKeepingPlace_10 : decode bC_isKeepingPlace 10 = .ok (.goto 4, 3) := by decide +kernel
theorem dC_isKeepingPlace_13 : decode bC_isKeepingPlace 13 = .ok (.iconst 0, 1) := by decide +kernel
theorem dC_isKeepingPlace_14 : decode bC_isKeepingPlace 14 = .ok (.ireturn, 1) := by decide +kernel
def f_C_isKeepingPlace (n : Nat) (x1 : Int32) (s : mb_T) : Option (Int32 × mb_T) := mb_bz (if x1 < 0 then 0 else (if 3 ≤ x1 then 0 else 1 : Int32) : Int32) (some ((if x1 < 0 then 0 else (if 3 ≤ x1 then 0 else 1 : Int32) : Int32), s))
set_option maxHeartbeats 4000000 in
set_option maxRecDepth 100000 in
theorem t_C_isKeepingPlace {dd n : Nat} {x1 : Int32} {s : mb_T} {out : Int32 × mb_T}  (h : f_C_isKeepingPlace n x1 s = some out) : mb_MC (dd + 1) yC_isKeepingPlace bC_isKeepingPlace 1 (some .boolean) [.int x1] s (some (.int out.1)) out.2 := by
  unfold f_C_isKeepingPlace at h
  refine mj_mc (lv := [.int x1]) mC_isKeepingPlace rfl rfl (Nat.le_of_ble_eq_true rfl) (fun K hK hR => ?_)
  have hK : mj_C (dd + 1) 0 0 RC_c "isKeepingPlace" bC_isKeepingPlace 1 K := hK
  refine ro_iload_n hK dC_isKeepingPlace_0 rfl ?_
  have j_3 : ∀ w_ : Int32, w_ = (if x1 < 0 then 0 else (if 3 ≤ x1 then 0 else 1 : Int32) : Int32) → K 0 0 14 [.int x1] [.int w_] (mb_s s) → K 0 0 1 [.int x1] [.int x1] (mb_s s) := by
    intro w_ hw hj
    refine ro_if_lt (tgt := 13) hK dC_isKeepingPlace_1 (by decide) (fun c_1 => ?_) (fun c_1 => ?_)
    · skip
      refine ro_iconst (x := 0) hK (by decide) dC_isKeepingPlace_13 ?_
      have hw := (hw.trans (if_pos c_1))
      subst hw
      exact hj
    · skip
      refine ro_iload_n hK dC_isKeepingPlace_4 rfl ?_
      refine ro_iconst (x := 3) hK (by decide) dC_isKeepingPlace_5 ?_
      refine ro_icmp_ge (tgt := 13) hK dC_isKeepingPlace_6 (by decide) (fun c_2 => ?_) (fun c_2 => ?_)
      · skip
        refine ro_iconst (x := 0) hK (by decide) dC_isKeepingPlace_13 ?_
        have hw := ((hw.trans (if_neg c_1)).trans (if_pos c_2))
        subst hw
        exact hj
      · skip
        refine ro_iconst (x := 1) hK (by decide) dC_isKeepingPlace_9 ?_
        refine ro_goto (tgt := 14) hK dC_isKeepingPlace_10 (by decide) ?_
        have hw := ((hw.trans (if_neg c_1)).trans (if_neg c_2))
        subst hw
        exact hj
  refine j_3 _ rfl ?_
  obtain ⟨z_4, h⟩ := mb_bz_e h
  cases h
  exact hR.1 0 0 14 _ _ _ _ rfl (mb_nz z_4) dC_isKeepingPlace_14 ⟨rfl, rfl⟩
theorem dC_isLaw_0 : decode bC_isLaw 0 = .ok (.iload_n 0, 1) := by decide +kernel
theorem dC_isLaw_1 : decode bC_isLaw 1 = .ok (.ifCond .lt 12, 3) := by decide +kernel
theorem dC_isLaw_4 : decode bC_isLaw 4 = .ok (.iload_n 0, 1) := by decide +kernel
theorem dC_isLaw_5 : decode bC_isLaw 5 = .ok (.iconst 4, 1) := by decide +kernel
theorem dC_isLaw_6 : decode bC_isLaw 6 = .ok (.if_icmp .ge 7, 3) := by decide +kernel
theorem dC_isLaw_9 : decode bC_isLaw 9 = .ok (.iconst 1, 1) := by decide +kernel
theorem dC_isLaw_10 : decode bC_isLaw 10 = .ok (.goto 4, 3) := by decide +kernel
theorem dC_isLaw_13 : decode bC_isLaw 13 = .ok (.iconst 0, 1) := by decide +kernel
theorem dC_isLaw_14 : decode bC_isLaw 14 = .ok (.ireturn, 1) := by decide +kernel
def f_C_isLaw (n : Nat) (x1 : Int32) (s : mb_T) : Option (Int32 × mb_T) := mb_bz (if x1 < 0 then 0 else (if 4 ≤ x1 then 0 else 1 : Int32) : Int32) (some ((if x1 < 0 then 0 else (if 4 ≤ x1 then 0 else 1 : Int32) : Int32), s))
set_option maxHeartbeats 4000000 in
set_option maxRecDepth 100000 in
theorem t_C_isLaw {dd n : Nat} {x1 : Int32} {s : mb_T} {out : Int32 × mb_T}  (h : f_C_isLaw n x1 s = some out) : mb_MC (dd + 1) yC_isLaw bC_isLaw 1 (some .boolean) [.int x1] s (some (.int out.1)) out.2 := by
  unfold f_C_isLaw at h
  refine mj_mc (lv := [.int x1]) mC_isLaw rfl rfl (Nat.le_of_ble_eq_true rfl) (fun K hK hR => ?_)
  have hK : mj_C (dd + 1) 0 0 RC_c "isLaw" bC_isLaw 1 K := hK
  refine ro_iload_n hK dC_isLaw_0 rfl ?_
  have j_3 : ∀ w_ : Int32, w_ = (if x1 < 0 then 0 else (if 4 ≤ x1 then 0 else 1 : Int32) : Int32) → K 0 0 14 [.int x1] [.int w_] (mb_s s) → K 0 0 1 [.int x1] [.int x1] (mb_s s) := by
    intro w_ hw hj
    refine ro_if_lt (tgt := 13) hK dC_isLaw_1 (by decide) (fun c_1 => ?_) (fun c_1 => ?_)
    · skip
      refine ro_iconst (x := 0) hK (by decide) dC_isLaw_13 ?_
      have hw := (hw.trans (if_pos c_1))
      subst hw
      exact hj
    · skip
      refine ro_iload_n hK dC_isLaw_4 rfl ?_
      refine ro_iconst (x := 4) hK (by decide) dC_isLaw_5 ?_
      refine ro_icmp_ge (tgt := 13) hK dC_isLaw_6 (by decide) (fun c_2 => ?_) (fun c_2 => ?_)
      · skip
        refine ro_iconst (x := 0) hK (by decide) dC_isLaw_13 ?_
        have hw := ((hw.trans (if_neg c_1)).trans (if_pos c_2))
        subst hw
        exact hj
      · skip
        refine ro_iconst (x := 1) hK (by decide) dC_isLaw_9 ?_
        refine ro_goto (tgt := 14) hK dC_isLaw_10 (by decide) ?_
        have hw := ((hw.trans (if_neg c_1)).trans (if_neg c_2))
        subst hw
        exact hj
  refine j_3 _ rfl ?_
  obtain ⟨z_4, h⟩ := mb_bz_e h
  cases h
  exact hR.1 0 0 14 _ _ _ _ rfl (mb_nz z_4) dC_isLaw_14 ⟨rfl, rfl⟩
theorem dC_isLonger_0 : decode bC_isLonger 0 = .ok (.iload_n 1, 1) := by decide +kernel
theorem dC_isLonger_1 : decode bC_isLonger 1 = .ok (.bipush (-9), 2) := by decide +kernel
theorem dC_isLonger_3 : decode bC_isLonger 3 = .ok (.if_icmp .eq 18, 3) := by decide +kernel
theorem dC_isLonger_6 : decode bC_isLonger 6 = .ok (.iload_n 0, 1) := by decide +kernel
theorem dC_isLonger_7 : decode bC_isLonger 7 = .ok (.bipush (-9), 2) := by decide +kernel
theorem dC_isLonger_9 : decode bC_isLonger 9 = .ok (.if_icmp .eq 8, 3) := by decide +kernel
theorem dC_isLonger_12 : decode bC_isLonger 12 = .ok (.iload_n 0, 1) := by decide +kernel
theorem dC_isLonger_13 : decode bC_isLonger 13 = .ok (.iload_n 1, 1) := by decide +kernel
theorem dC_isLonger_14 : decode bC_isLonger 14 = .ok (.if_icmp .le 7, 3) := by decide +kernel
theorem dC_isLonger_17 : decode bC_isLonger 17 = .ok (.iconst 1, 1) := by decide +kernel
theorem dC_isLonger_18 : decode bC_isLonger 18 = .ok (.goto 4, 3) := by decide +kernel
theorem dC_isLonger_21 : decode bC_isLonger 21 = .ok (.iconst 0, 1) := by decide +kernel
theorem dC_isLonger_22 : decode bC_isLonger 22 = .ok (.ireturn, 1) := by decide +kernel
def f_C_isLonger (n : Nat) (x1 : Int32) (x2 : Int32) (s : mb_T) : Option (Int32 × mb_T) := mb_bz (if x2 = (-9) then 0 else (if x1 = (-9) then 1 else (if x1 ≤ x2 then 0 else 1 : Int32) : Int32) : Int32) (some ((if x2 = (-9) then 0 else (if x1 = (-9) then 1 else (if x1 ≤ x2 then 0 else 1 : Int32) : Int32) : Int32), s))
set_option maxHeartbeats 4000000 in
set_option maxRecDepth 100000 in
theorem t_C_isLonger {dd n : Nat} {x1 : Int32} {x2 : Int32} {s : mb_T} {out : Int32 × mb_T}  (h : f_C_isLonger n x1 x2 s = some out) : mb_MC (dd + 1) yC_isLonger bC_isLonger 2 (some .boolean) [.int x1, .int x2] s (some (.int out.1)) out.2 := by
  unfold f_C_isLonger at h
  refine mj_mc (lv := [.int x1, .int x2]) mC_isLonger rfl rfl (Nat.le_of_ble_eq_true rfl) (fun K hK hR => ?_)
  have hK : mj_C (dd + 1) 0 0 RC_c "isLonger" bC_isLonger 2 K := hK
  refine ro_iload_n hK dC_isLonger_0 rfl ?_
  refine ro_bipush (x := (-9)) hK (by decide) dC_isLonger_1 ?_
  have j_4 : ∀ w_ : Int32, w_ = (if x2 = (-9) then 0 else (if x1 = (-9) then 1 else (if x1 ≤ x2 then 0 else 1 : Int32) : Int32) : Int32) → K 0 0 22 [.int x1, .int x2] [.int w_] (mb_s s) → K 0 0 3 [.int x1, .int x2] [.int (-9), .int x2] (mb_s s) := by
    intro w_ hw hj
    refine ro_icmp_eq (tgt := 21) hK dC_isLonger_3 (by decide) (fun c_1 => ?_) (fun c_1 => ?_)
    · skip
      refine ro_iconst (x := 0) hK (by decide) dC_isLonger_21 ?_
      have hw := (hw.trans (if_pos c_1))
      subst hw
      exact hj
    · skip
      refine ro_iload_n hK dC_isLonger_6 rfl ?_
      refine ro_bipush (x := (-9)) hK (by decide) dC_isLonger_7 ?_
      refine ro_icmp_eq (tgt := 17) hK dC_isLonger_9 (by decide) (fun c_2 => ?_) (fun c_2 => ?_)
      · skip
        refine ro_iconst (x := 1) hK (by decide) dC_isLonger_17 ?_
        refine ro_goto (tgt := 22) hK dC_isLonger_18 (by decide) ?_
        have hw := ((hw.trans (if_neg c_1)).trans (if_pos c_2))
        subst hw
        exact hj
      · skip
        refine ro_iload_n hK dC_isLonger_12 rfl ?_
        refine ro_iload_n hK dC_isLonger_13 rfl ?_
        refine ro_icmp_le (tgt := 21) hK dC_isLonger_14 (by decide) (fun c_3 => ?_) (fun c_3 => ?_)
        · skip
          refine ro_iconst (x := 0) hK (by decide) dC_isLonger_21 ?_
          have hw := (((hw.trans (if_neg c_1)).trans (if_neg c_2)).trans (if_pos c_3))
          subst hw
          exact hj
        · skip
          refine ro_iconst (x := 1) hK (by decide) dC_isLonger_17 ?_
          refine ro_goto (tgt := 22) hK dC_isLonger_18 (by decide) ?_
          have hw := (((hw.trans (if_neg c_1)).trans (if_neg c_2)).trans (if_neg c_3))
          subst hw
          exact hj
  refine j_4 _ rfl ?_
  obtain ⟨z_5, h⟩ := mb_bz_e h
  cases h
  exact hR.1 0 0 22 _ _ _ _ rfl (mb_nz z_5) dC_isLonger_22 ⟨rfl, rfl⟩
theorem dC_isOfKind_0 : decode bC_isOfKind 0 = .ok (.iload_n 0, 1) := by decide +kernel
theorem dC_isOfKind_1 : decode bC_isOfKind 1 = .ok (.iload_n 1, 1) := by decide +kernel
theorem dC_isOfKind_2 : decode bC_isOfKind 2 = .ok (.if_icmp .eq 18, 3) := by decide +kernel
theorem dC_isOfKind_5 : decode bC_isOfKind 5 = .ok (.iload_n 1, 1) := by decide +kernel
theorem dC_isOfKind_6 : decode bC_isOfKind 6 = .ok (.iconst 1, 1) := by decide +kernel
theorem dC_isOfKind_7 : decode bC_isOfKind 7 = .ok (.if_icmp .ne 17, 3) := by decide +kernel
theorem dC_isOfKind_10 : decode bC_isOfKind 10 = .ok (.iload_n 0, 1) := by decide +kernel
theorem dC_isOfKind_11 : decode bC_isOfKind 11 = .ok (.iconst 4, 1) := by decide +kernel
theorem dC_isOfKind_12 : decode bC_isOfKind 12 = .ok (.if_icmp .eq 8, 3) := by decide +kernel
theorem dC_isOfKind_15 : decode bC_isOfKind 15 = .ok (.iload_n 0, 1) := by decide +kernel
theorem dC_isOfKind_16 : decode bC_isOfKind 16 = .ok (.iconst 5, 1) := by decide +kernel
theorem dC_isOfKind_17 : decode bC_isOfKind 17 = .ok (.if_icmp .ne 7, 3) := by decide +kernel
theorem dC_isOfKind_20 : decode bC_isOfKind 20 = .ok (.iconst 1, 1) := by decide +kernel
theorem dC_isOfKind_21 : decode bC_isOfKind 21 = .ok (.goto 4, 3) := by decide +kernel
theorem dC_isOfKind_24 : decode bC_isOfKind 24 = .ok (.iconst 0, 1) := by decide +kernel
theorem dC_isOfKind_25 : decode bC_isOfKind 25 = .ok (.ireturn, 1) := by decide +kernel
def f_C_isOfKind (n : Nat) (x1 : Int32) (x2 : Int32) (s : mb_T) : Option (Int32 × mb_T) := mb_bz (if x1 = x2 then 1 else (if x2 = 1 then (if x1 = 4 then 1 else (if x1 = 5 then 1 else 0 : Int32) : Int32) else 0 : Int32) : Int32) (some ((if x1 = x2 then 1 else (if x2 = 1 then (if x1 = 4 then 1 else (if x1 = 5 then 1 else 0 : Int32) : Int32) else 0 : Int32) : Int32), s))
set_option maxHeartbeats 4000000 in
set_option maxRecDepth 100000 in
theorem t_C_isOfKind {dd n : Nat} {x1 : Int32} {x2 : Int32} {s : mb_T} {out : Int32 × mb_T}  (h : f_C_isOfKind n x1 x2 s = some out) : mb_MC (dd + 1) yC_isOfKind bC_isOfKind 2 (some .boolean) [.int x1, .int x2] s (some (.int out.1)) out.2 := by
  unfold f_C_isOfKind at h
  refine mj_mc (lv := [.int x1, .int x2]) mC_isOfKind rfl rfl (Nat.le_of_ble_eq_true rfl) (fun K hK hR => ?_)
  have hK : mj_C (dd + 1) 0 0 RC_c "isOfKind" bC_isOfKind 2 K := hK
  refine ro_iload_n hK dC_isOfKind_0 rfl ?_
  refine ro_iload_n hK dC_isOfKind_1 rfl ?_
  have j_5 : ∀ w_ : Int32, w_ = (if x1 = x2 then 1 else (if x2 = 1 then (if x1 = 4 then 1 else (if x1 = 5 then 1 else 0 : Int32) : Int32) else 0 : Int32) : Int32) → K 0 0 25 [.int x1, .int x2] [.int w_] (mb_s s) → K 0 0 2 [.int x1, .int x2] [.int x2, .int x1] (mb_s s) := by
    intro w_ hw hj
    refine ro_icmp_eq (tgt := 20) hK dC_isOfKind_2 (by decide) (fun c_1 => ?_) (fun c_1 => ?_)
    · skip
      refine ro_iconst (x := 1) hK (by decide) dC_isOfKind_20 ?_
      refine ro_goto (tgt := 25) hK dC_isOfKind_21 (by decide) ?_
      have hw := (hw.trans (if_pos c_1))
      subst hw
      exact hj
    · skip
      refine ro_iload_n hK dC_isOfKind_5 rfl ?_
      refine ro_iconst (x := 1) hK (by decide) dC_isOfKind_6 ?_
      refine ro_icmp_ne (tgt := 24) hK dC_isOfKind_7 (by decide) (fun c_2 => ?_) (fun c_2 => ?_)
      · skip
        refine ro_iconst (x := 0) hK (by decide) dC_isOfKind_24 ?_
        have hw := ((hw.trans (if_neg c_1)).trans (if_neg c_2))
        subst hw
        exact hj
      · skip
        refine ro_iload_n hK dC_isOfKind_10 rfl ?_
        refine ro_iconst (x := 4) hK (by decide) dC_isOfKind_11 ?_
        refine ro_icmp_eq (tgt := 20) hK dC_isOfKind_12 (by decide) (fun c_3 => ?_) (fun c_3 => ?_)
        · skip
          refine ro_iconst (x := 1) hK (by decide) dC_isOfKind_20 ?_
          refine ro_goto (tgt := 25) hK dC_isOfKind_21 (by decide) ?_
          have hw := (((hw.trans (if_neg c_1)).trans (if_pos c_2)).trans (if_pos c_3))
          subst hw
          exact hj
        · skip
          refine ro_iload_n hK dC_isOfKind_15 rfl ?_
          refine ro_iconst (x := 5) hK (by decide) dC_isOfKind_16 ?_
          refine ro_icmp_ne (tgt := 24) hK dC_isOfKind_17 (by decide) (fun c_4 => ?_) (fun c_4 => ?_)
          · skip
            refine ro_iconst (x := 0) hK (by decide) dC_isOfKind_24 ?_
            have hw := ((((hw.trans (if_neg c_1)).trans (if_pos c_2)).trans (if_neg c_3)).trans (if_neg c_4))
            subst hw
            exact hj
          · skip
            refine ro_iconst (x := 1) hK (by decide) dC_isOfKind_20 ?_
            refine ro_goto (tgt := 25) hK dC_isOfKind_21 (by decide) ?_
            have hw := ((((hw.trans (if_neg c_1)).trans (if_pos c_2)).trans (if_neg c_3)).trans (if_pos c_4))
            subst hw
            exact hj
  refine j_5 _ rfl ?_
  obtain ⟨z_6, h⟩ := mb_bz_e h
  cases h
  exact hR.1 0 0 25 _ _ _ _ rfl (mb_nz z_6) dC_isOfKind_25 ⟨rfl, rfl⟩
theorem dC_isOne_0 : decode bC_isOne 0 = .ok (.iload_n 1, 1) := by decide +kernel
theorem dC_isOne_1 : decode bC_isOne 1 = .ok (.ifCond .lt 18, 3) := by decide +kernel
theorem dC_isOne_4 : decode bC_isOne 4 = .ok (.iload_n 1, 1) := by decide +kernel
theorem dC_isOne_5 : decode bC_isOne 5 = .ok (.aload_n 0, 1) := by decide +kernel
theorem dC_isOne_6 : decode bC_isOne 6 = .ok (.getfield 29, 3) := by decide +kernel
theorem dC_isOne_9 : decode bC_isOne 9 = .ok (.getfield 128, 3) := by decide +kernel
theorem dC_isOne_12 : decode bC_isOne 12 = .ok (.if_icmp .ge 7, 3) := by decide +kernel
theorem dC_isOne_15 : decode bC_isOne 15 = .ok (.iconst 1, 1) := by decide +kernel
theorem dC_isOne_16 : decode bC_isOne 16 = .ok (.goto 4, 3) := by decide +kernel
theorem dC_isOne_19 : decode bC_isOne 19 = .ok (.iconst 0, 1) := by decide +kernel
theorem dC_isOne_20 : decode bC_isOne 20 = .ok (.ireturn, 1) := by decide +kernel
def f_C_isOne (n : Nat) (x1 : Int32) (s : mb_T) : Option (Int32 × mb_T) := mb_bz (if x1 < 0 then 0 else (if (s.1 100 0) ≤ x1 then 0 else 1 : Int32) : Int32) (some ((if x1 < 0 then 0 else (if (s.1 100 0) ≤ x1 then 0 else 1 : Int32) : Int32), s))
set_option maxHeartbeats 4000000 in
set_option maxRecDepth 100000 in
theorem t_C_isOne {dd n : Nat} {x1 : Int32} {s : mb_T} {out : Int32 × mb_T}  (h : f_C_isOne n x1 s = some out) : mb_MC (dd + 1) yC_isOne bC_isOne 2 (some .boolean) [.ref 0, .int x1] s (some (.int out.1)) out.2 := by
  unfold f_C_isOne at h
  refine mj_mc (lv := [.ref 0, .int x1]) mC_isOne rfl rfl (Nat.le_of_ble_eq_true rfl) (fun K hK hR => ?_)
  have hK : mj_C (dd + 1) 0 0 RC_c "isOne" bC_isOne 2 K := hK
  refine ro_iload_n hK dC_isOne_0 rfl ?_
  have j_3 : ∀ w_ : Int32, w_ = (if x1 < 0 then 0 else (if (s.1 100 0) ≤ x1 then 0 else 1 : Int32) : Int32) → K 0 0 20 [.ref 0, .int x1] [.int w_] (mb_s s) → K 0 0 1 [.ref 0, .int x1] [.int x1] (mb_s s) := by
    intro w_ hw hj
    refine ro_if_lt (tgt := 19) hK dC_isOne_1 (by decide) (fun c_1 => ?_) (fun c_1 => ?_)
    · skip
      refine ro_iconst (x := 0) hK (by decide) dC_isOne_19 ?_
      have hw := (hw.trans (if_pos c_1))
      subst hw
      exact hj
    · skip
      refine ro_iload_n hK dC_isOne_4 rfl ?_
      refine ro_aload_n hK dC_isOne_5 rfl ?_
      refine rb_get hK fC_29 mb_oC rfl dC_isOne_6 ?_
      refine rb_get hK fC_128 (mb_cvo (Or.inl rfl)) rfl dC_isOne_9 ?_
      refine ro_icmp_ge (tgt := 19) hK dC_isOne_12 (by decide) (fun c_2 => ?_) (fun c_2 => ?_)
      · skip
        refine ro_iconst (x := 0) hK (by decide) dC_isOne_19 ?_
        have hw := ((hw.trans (if_neg c_1)).trans (if_pos c_2))
        subst hw
        exact hj
      · skip
        refine ro_iconst (x := 1) hK (by decide) dC_isOne_15 ?_
        refine ro_goto (tgt := 20) hK dC_isOne_16 (by decide) ?_
        have hw := ((hw.trans (if_neg c_1)).trans (if_neg c_2))
        subst hw
        exact hj
  refine j_3 _ rfl ?_
  obtain ⟨z_4, h⟩ := mb_bz_e h
  cases h
  exact hR.1 0 0 20 _ _ _ _ rfl (mb_nz z_4) dC_isOne_20 ⟨rfl, rfl⟩
theorem dC_isRow_0 : decode bC_isRow 0 = .ok (.iload_n 0, 1) := by decide +kernel
theorem dC_isRow_1 : decode bC_isRow 1 = .ok (.ifCond .lt 13, 3) := by decide +kernel
theorem dC_isRow_4 : decode bC_isRow 4 = .ok (.iload_n 0, 1) := by decide +kernel
theorem dC_isRow_5 : decode bC_isRow 5 = .ok (.bipush 6, 2) := by decide +kernel
theorem dC_isRow_7 : decode bC_isRow 7 = .ok (.if_icmp .ge 7, 3) := by decide +kernel
theorem dC_isRow_10 : decode bC_isRow 10 = .ok (.iconst 1, 1) := by decide +kernel
theorem dC_isRow_11 : decode bC_isRow 11 = .ok (.goto 4, 3) := by decide +kernel
theorem dC_isRow_14 : decode bC_isRow 14 = .ok (.iconst 0, 1) := by decide +kernel
theorem dC_isRow_15 : decode bC_isRow 15 = .ok (.ireturn, 1) := by decide +kernel
def f_C_isRow (n : Nat) (x1 : Int32) (s : mb_T) : Option (Int32 × mb_T) := mb_bz (if x1 < 0 then 0 else (if 6 ≤ x1 then 0 else 1 : Int32) : Int32) (some ((if x1 < 0 then 0 else (if 6 ≤ x1 then 0 else 1 : Int32) : Int32), s))
set_option maxHeartbeats 4000000 in
set_option maxRecDepth 100000 in
theorem t_C_isRow {dd n : Nat} {x1 : Int32} {s : mb_T} {out : Int32 × mb_T}  (h : f_C_isRow n x1 s = some out) : mb_MC (dd + 1) yC_isRow bC_isRow 1 (some .boolean) [.int x1] s (some (.int out.1)) out.2 := by
  unfold f_C_isRow at h
  refine mj_mc (lv := [.int x1]) mC_isRow rfl rfl (Nat.le_of_ble_eq_true rfl) (fun K hK hR => ?_)
  have hK : mj_C (dd + 1) 0 0 RC_c "isRow" bC_isRow 1 K := hK
  refine ro_iload_n hK dC_isRow_0 rfl ?_
  have j_3 : ∀ w_ : Int32, w_ = (if x1 < 0 then 0 else (if 6 ≤ x1 then 0 else 1 : Int32) : Int32) → K 0 0 15 [.int x1] [.int w_] (mb_s s) → K 0 0 1 [.int x1] [.int x1] (mb_s s) := by
    intro w_ hw hj
    refine ro_if_lt (tgt := 14) hK dC_isRow_1 (by decide) (fun c_1 => ?_) (fun c_1 => ?_)
    · skip
      refine ro_iconst (x := 0) hK (by decide) dC_isRow_14 ?_
      have hw := (hw.trans (if_pos c_1))
      subst hw
      exact hj
    · skip
      refine ro_iload_n hK dC_isRow_4 rfl ?_
      refine ro_bipush (x := 6) hK (by decide) dC_isRow_5 ?_
      refine ro_icmp_ge (tgt := 14) hK dC_isRow_7 (by decide) (fun c_2 => ?_) (fun c_2 => ?_)
      · skip
        refine ro_iconst (x := 0) hK (by decide) dC_isRow_14 ?_
        have hw := ((hw.trans (if_neg c_1)).trans (if_pos c_2))
        subst hw
        exact hj
      · skip
        refine ro_iconst (x := 1) hK (by decide) dC_isRow_10 ?_
        refine ro_goto (tgt := 15) hK dC_isRow_11 (by decide) ?_
        have hw := ((hw.trans (if_neg c_1)).trans (if_neg c_2))
        subst hw
        exact hj
  refine j_3 _ rfl ?_
  obtain ⟨z_4, h⟩ := mb_bz_e h
  cases h
  exact hR.1 0 0 15 _ _ _ _ rfl (mb_nz z_4) dC_isRow_15 ⟨rfl, rfl⟩
theorem dC_isSpan_0 : decode bC_isSpan 0 = .ok (.iload_n 0, 1) := by decide +kernel
theorem dC_isSpan_1 : decode bC_isSpan 1 = .ok (.ifCond .lt 13, 3) := by decide +kernel
theorem dC_isSpan_4 : decode bC_isSpan 4 = .ok (.iload_n 0, 1) := by decide +kernel
theorem dC_isSpan_5 : decode bC_isSpan 5 = .ok (.bipush 60, 2) := by decide +kernel
theorem dC_isSpan_7 : decode bC_isSpan 7 = .ok (.if_icmp .gt 7, 3) := by decide +kernel
theorem dC_isSpan_10 : decode bC_isSpan 10 = .ok (.iconst 1, 1) := by decide +kernel
theorem dC_isSpan_11 : decode bC_isSpan 11 = .ok (.goto 4, 3) := by decide +kernel
theorem dC_isSpan_14 : decode bC_isSpan 14 = .ok (.iconst 0, 1) := by decide +kernel
theorem dC_isSpan_15 : decode bC_isSpan 15 = .ok (.ireturn, 1) := by decide +kernel
def f_C_isSpan (n : Nat) (x1 : Int32) (s : mb_T) : Option (Int32 × mb_T) := mb_bz (if x1 < 0 then 0 else (if 60 < x1 then 0 else 1 : Int32) : Int32) (some ((if x1 < 0 then 0 else (if 60 < x1 then 0 else 1 : Int32) : Int32), s))
set_option maxHeartbeats 4000000 in
set_option maxRecDepth 100000 in
theorem t_C_isSpan {dd n : Nat} {x1 : Int32} {s : mb_T} {out : Int32 × mb_T}  (h : f_C_isSpan n x1 s = some out) : mb_MC (dd + 1) yC_isSpan bC_isSpan 1 (some .boolean) [.int x1] s (some (.int out.1)) out.2 := by
  unfold f_C_isSpan at h
  refine mj_mc (lv := [.int x1]) mC_isSpan rfl rfl (Nat.le_of_ble_eq_true rfl) (fun K hK hR => ?_)
  have hK : mj_C (dd + 1) 0 0 RC_c "isSpan" bC_isSpan 1 K := hK
  refine ro_iload_n hK dC_isSpan_0 rfl ?_
  have j_3 : ∀ w_ : Int32, w_ = (if x1 < 0 then 0 else (if 60 < x1 then 0 else 1 : Int32) : Int32) → K 0 0 15 [.int x1] [.int w_] (mb_s s) → K 0 0 1 [.int x1] [.int x1] (mb_s s) := by
    intro w_ hw hj
    refine ro_if_lt (tgt := 14) hK dC_isSpan_1 (by decide) (fun c_1 => ?_) (fun c_1 => ?_)
    · skip
      refine ro_iconst (x := 0) hK (by decide) dC_isSpan_14 ?_
      have hw := (hw.trans (if_pos c_1))
      subst hw
      exact hj
    · skip
      refine ro_iload_n hK dC_isSpan_4 rfl ?_
      refine ro_bipush (x := 60) hK (by decide) dC_isSpan_5 ?_
      refine ro_icmp_gt (tgt := 14) hK dC_isSpan_7 (by decide) (fun c_2 => ?_) (fun c_2 => ?_)
      · skip
        refine ro_iconst (x := 0) hK (by decide) dC_isSpan_14 ?_
        have hw := ((hw.trans (if_neg c_1)).trans (if_pos c_2))
        subst hw
        exact hj
      · skip
        refine ro_iconst (x := 1) hK (by decide) dC_isSpan_10 ?_
        refine ro_goto (tgt := 15) hK dC_isSpan_11 (by decide) ?_
        have hw := ((hw.trans (if_neg c_1)).trans (if_neg c_2))
        subst hw
        exact hj
  refine j_3 _ rfl ?_
  obtain ⟨z_4, h⟩ := mb_bz_e h
  cases h
  exact hR.1 0 0 15 _ _ _ _ rfl (mb_nz z_4) dC_isSpan_15 ⟨rfl, rfl⟩
theorem dC_isText_0 : decode bC_isText 0 = .ok (.iload_n 0, 1) := by decide +kernel
theorem dC_isText_1 : decode bC_isText 1 = .ok (.ifCond .lt 12, 3) := by decide +kernel
theorem dC_isText_4 : decode bC_isText 4 = .ok (.iload_n 0, 1) := by decide +kernel
theorem dC_isText_5 : decode bC_isText 5 = .ok (.iconst 4, 1) := by decide +kernel
theorem dC_isText_6 : decode bC_isText 6 = .ok (.if_icmp .ge 7, 3) := by decide +kernel
theorem dC_isText_9 : decode bC_isText 9 = .ok (.iconst 1, 1) := by decide +kernel
theorem dC_isText_10 : decode bC_isText 10 = .ok (.goto 4, 3) := by decide +kernel
theorem dC_isText_13 : decode bC_isText 13 = .ok (.iconst 0, 1) := by decide +kernel
theorem dC_isText_14 : decode bC_isText 14 = .ok (.ireturn, 1) := by decide +kernel
def f_C_isText (n : Nat) (x1 : Int32) (s : mb_T) : Option (Int32 × mb_T) := mb_bz (if x1 < 0 then 0 else (if 4 ≤ x1 then 0 else 1 : Int32) : Int32) (some ((if x1 < 0 then 0 else (if 4 ≤ x1 then 0 else 1 : Int32) : Int32), s))
set_option maxHeartbeats 4000000 in
set_option maxRecDepth 100000 in
theorem t_C_isText {dd n : Nat} {x1 : Int32} {s : mb_T} {out : Int32 × mb_T}  (h : f_C_isText n x1 s = some out) : mb_MC (dd + 1) yC_isText bC_isText 1 (some .boolean) [.int x1] s (some (.int out.1)) out.2 := by
  unfold f_C_isText at h
  refine mj_mc (lv := [.int x1]) mC_isText rfl rfl (Nat.le_of_ble_eq_true rfl) (fun K hK hR => ?_)
  have hK : mj_C (dd + 1) 0 0 RC_c "isText" bC_isText 1 K := hK
  refine ro_iload_n hK dC_isText_0 rfl ?_
  have j_3 : ∀ w_ : Int32, w_ = (if x1 < 0 then 0 else (if 4 ≤ x1 then 0 else 1 : Int32) : Int32) → K 0 0 14 [.int x1] [.int w_] (mb_s s) → K 0 0 1 [.int x1] [.int x1] (mb_s s) := by
    intro w_ hw hj
    refine ro_if_lt (tgt := 13) hK dC_isText_1 (by decide) (fun c_1 => ?_) (fun c_1 => ?_)
    · skip
      refine ro_iconst (x := 0) hK (by decide) dC_isText_13 ?_
      have hw := (hw.trans (if_pos c_1))
      subst hw
      exact hj
    · skip
      refine ro_iload_n hK dC_isText_4 rfl ?_
      refine ro_iconst (x := 4) hK (by decide) dC_isText_5 ?_
      refine ro_icmp_ge (tgt := 13) hK dC_isText_6 (by decide) (fun c_2 => ?_) (fun c_2 => ?_)
      · skip
        refine ro_iconst (x := 0) hK (by decide) dC_isText_13 ?_
        have hw := ((hw.trans (if_neg c_1)).trans (if_pos c_2))
        subst hw
        exact hj
      · skip
        refine ro_iconst (x := 1) hK (by decide) dC_isText_9 ?_
        refine ro_goto (tgt := 14) hK dC_isText_10 (by decide) ?_
        have hw := ((hw.trans (if_neg c_1)).trans (if_neg c_2))
        subst hw
        exact hj
  refine j_3 _ rfl ?_
  obtain ⟨z_4, h⟩ := mb_bz_e h
  cases h
  exact hR.1 0 0 14 _ _ _ _ rfl (mb_nz z_4) dC_isText_14 ⟨rfl, rfl⟩
theorem dC_keptMinute_0 : decode bC_keptMinute 0 = .ok (.aload_n 0, 1) := by decide +kernel
theorem dC_keptMinute_1 : decode bC_keptMinute 1 = .ok (.getfield 36, 3) := by decide +kernel
theorem dC_keptMinute_4 : decode bC_keptMinute 4 = .ok (.iload_n 1, 1) := by decide +kernel
theorem dC_keptMinute_5 : decode bC_keptMinute 5 = .ok (.aaload, 1) := by decide +kernel
theorem dC_keptMinute_6 : decode bC_keptMinute 6 = .ok (.astore_n 2, 1) := by decide +kernel
theorem dC_keptMinute_7 : decode bC_keptMinute 7 = .ok (.aload_n 2, 1) := by decide +kernel
theorem dC_keptMinute_8 : decode bC_keptMinute 8 = .ok (.ifnull 10, 3) := by decide +kernel
theorem dC_keptMinute_11 : decode bC_keptMinute 11 = .ok (.aload_n 2, 1) := by decide +kernel
theorem dC_keptMinute_12 : decode bC_keptMinute 12 = .ok (.getfield 128, 3) := by decide +kernel
theorem dC_keptMinute_15 : decode bC_keptMinute 15 = .ok (.ifCond .ne 7, 3) := by decide +kernel
theorem dC_keptMinute_18 : decode bC_keptMinute 18 = .ok (.iconst (-1), 1) := by decide +kernel
theorem dC_keptMinute_19 : decode bC_keptMinute 19 = .ok (.goto 7, 3) := by decide +kernel
theorem dC_keptMinute_22 : decode bC_keptMinute 22 = .ok (.aload_n 2, 1) := by decide +kernel
theorem dC_keptMinute_23 : decode bC_keptMinute 23 = .ok (.getfield 183, 3) := by decide +kernel
theorem dC_keptMinute_26 : decode bC_keptMinute 26 = .ok (.ireturn, 1) := by decide +kernel
def f_C_keptMinute (n : Nat) (x1 : Int32) (s : mb_T) : Option (Int32 × mb_T) := mb_ix x1 3 (if s.2.2.2.2 x1.toNatClampNeg = true then some ((if (s.1 (140 + 20 * x1.toNatClampNeg) 0) = 0 then (-1) else (s.1 (140 + 20 * x1.toNatClampNeg) 4) : Int32), s) else some ((-1), s))
set_option maxHeartbeats 4000000 in
set_option maxRecDepth 100000 in
theorem t_C_keptMinute {dd n : Nat} {x1 : Int32} {s : mb_T} {out : Int32 × mb_T}  (h : f_C_keptMinute n x1 s = some out) : mb_MC (dd + 1) yC_keptMinute bC_keptMinute 3 (some .int) [.ref 0, .int x1] s (some (.int out.1)) out.2 := by
  unfold f_C_keptMinute at h
  refine mj_mc (lv := [.ref 0, .int x1, .retAddr 0]) mC_keptMinute rfl rfl (Nat.le_of_ble_eq_true rfl) (fun K hK hR => ?_)
  have hK : mj_C (dd + 1) 0 0 RC_c "keptMinute" bC_keptMinute 3 K := hK
  refine ro_aload_n hK dC_keptMinute_0 rfl ?_
  refine rb_get hK fC_36 mb_oC rfl dC_keptMinute_1 ?_
  refine ro_iload_n hK dC_keptMinute_4 rfl ?_
  obtain ⟨i_1, h⟩ := mb_ix_e h
  refine rb_kept hK i_1 dC_keptMinute_5 (fun c_2 => ?_) (fun c_2 => ?_)
  · replace h := mb_ift c_2 h
    refine ro_astore_n hK dC_keptMinute_6 (by decide) ?_
    show K 0 0 7 [.ref 0, .int x1, .ref (140 + 20 * x1.toNatClampNeg)] [] (mb_s s)
    refine ro_aload_n hK dC_keptMinute_7 rfl ?_
    refine ro_ifnull hK dC_keptMinute_8 ?_
    refine ro_aload_n hK dC_keptMinute_11 rfl ?_
    refine rb_get hK fC_128 (mb_cvo (mb_kcv i_1)) rfl dC_keptMinute_12 ?_
    have j_4 : ∀ w_ : Int32, w_ = (if (s.1 (140 + 20 * x1.toNatClampNeg) 0) = 0 then (-1) else (s.1 (140 + 20 * x1.toNatClampNeg) 4) : Int32) → K 0 0 26 [.ref 0, .int x1, .ref (140 + 20 * x1.toNatClampNeg)] [.int w_] (mb_s s) → K 0 0 15 [.ref 0, .int x1, .ref (140 + 20 * x1.toNatClampNeg)] [.int (s.1 (140 + 20 * x1.toNatClampNeg) 0)] (mb_s s) := by
      intro w_ hw hj
      refine ro_if_ne (tgt := 22) hK dC_keptMinute_15 (by decide) (fun c_3 => ?_) (fun c_3 => ?_)
      · skip
        refine ro_aload_n hK dC_keptMinute_22 rfl ?_
        refine rb_get hK fC_183 (mb_cvo (mb_kcv i_1)) rfl dC_keptMinute_23 ?_
        have hw := (hw.trans (if_neg c_3))
        subst hw
        exact hj
      · skip
        refine ro_iconst (x := (-1)) hK (by decide) dC_keptMinute_18 ?_
        refine ro_goto (tgt := 26) hK dC_keptMinute_19 (by decide) ?_
        have hw := (hw.trans (if_pos c_3))
        subst hw
        exact hj
    refine j_4 _ rfl ?_
    cases h
    exact hR.1 0 0 26 _ _ _ _ rfl rfl dC_keptMinute_26 ⟨rfl, rfl⟩
  · replace h := mb_iff c_2 h
    refine ro_astore_nN hK dC_keptMinute_6 (by decide) ?_
    show K 0 0 7 [.ref 0, .int x1, .null] [] (mb_s s)
    refine ro_aload_nN hK dC_keptMinute_7 rfl ?_
    refine ro_ifnullN (tgt := 18) hK dC_keptMinute_8 (by decide) ?_
    refine ro_iconst (x := (-1)) hK (by decide) dC_keptMinute_18 ?_
    refine ro_goto (tgt := 26) hK dC_keptMinute_19 (by decide) ?_
    cases h
    exact hR.1 0 0 26 _ _ _ _ rfl rfl dC_keptMinute_26 ⟨rfl, rfl⟩
theorem dC_oil_0 : decode bC_oil 0 = .ok (.iload_n 1, 1) := by decide +kernel
theorem dC_oil_1 : decode bC_oil 1 = .ok (.ifCond .lt 9, 3) := by decide +kernel
theorem dC_oil_4 : decode bC_oil 4 = .ok (.iload_n 1, 1) := by decide +kernel
theorem dC_oil_5 : decode bC_oil 5 = .ok (.bipush 99, 2) := by decide +kernel
theorem dC_oil_7 : decode bC_oil 7 = .ok (.if_icmp .le 5, 3) := by decide +kernel
theorem dC_oil_10 : decode bC_oil 10 = .ok (.iconst (-1), 1) := by decide +kernel
theorem dC_oil_11 : decode bC_oil 11 = .ok (.ireturn, 1) := by decide +kernel
theorem dC_oil_12 : decode bC_oil 12 = .ok (.aload_n 0, 1) := by decide +kernel
theorem dC_oil_13 : decode bC_oil 13 = .ok (.getfield 29, 3) := by decide +kernel
theorem dC_oil_16 : decode bC_oil 16 = .ok (.getfield 128, 3) := by decide +kernel
theorem dC_oil_19 : decode bC_oil 19 = .ok (.ifCond .ne 6, 3) := by decide +kernel
theorem dC_oil_22 : decode bC_oil 22 = .ok (.bipush (-4), 2) := by decide +kernel
theorem dC_oil_24 : decode bC_oil 24 = .ok (.ireturn, 1) := by decide +kernel
theorem dC_oil_25 : decode bC_oil 25 = .ok (.aload_n 0, 1) := by decide +kernel
theorem dC_oil_26 : decode bC_oil 26 = .ok (.getfield 29, 3) := by decide +kernel
theorem dC_oil_29 : decode bC_oil 29 = .ok (.getfield 174, 3) := by decide +kernel
theorem dC_oil_32 : decode bC_oil 32 = .ok (.istore_n 2, 1) := by decide +kernel
theorem dC_oil_33 : decode bC_oil 33 = .ok (.aload_n 0, 1) := by decide +kernel
theorem dC_oil_34 : decode bC_oil 34 = .ok (.getfield 29, 3) := by decide +kernel
theorem dC_oil_37 : decode bC_oil 37 = .ok (.iload_n 1, 1) := by decide +kernel
theorem dC_oil_38 : decode bC_oil 38 = .ok (.putfield 174, 3) := by decide +kernel
theorem dC_oil_41 : decode bC_oil 41 = .ok (.iload_n 2, 1) := by decide +kernel
theorem dC_oil_42 : decode bC_oil 42 = .ok (.ireturn, 1) := by decide +kernel
def f_C_oil (n : Nat) (x1 : Int32) (s : mb_T) : Option (Int32 × mb_T) := if x1 < 0 then some ((-1), s) else if x1 ≤ 99 then (if (s.1 100 0) = 0 then some ((-4), s) else mb_bd (sF s 100 3 x1) fun s_4 => some ((s.1 100 3), s_4)) else some ((-1), s)
set_option maxHeartbeats 4000000 in
set_option maxRecDepth 100000 in
theorem t_C_oil {dd n : Nat} {x1 : Int32} {s : mb_T} {out : Int32 × mb_T}  (h : f_C_oil n x1 s = some out) : mb_MC (dd + 1) yC_oil bC_oil 3 (some .int) [.ref 0, .int x1] s (some (.int out.1)) out.2 := by
  unfold f_C_oil at h
  refine mj_mc (lv := [.ref 0, .int x1, .retAddr 0]) mC_oil rfl rfl (Nat.le_of_ble_eq_true rfl) (fun K hK hR => ?_)
  have hK : mj_C (dd + 1) 0 0 RC_c "oil" bC_oil 3 K := hK
  refine ro_iload_n hK dC_oil_0 rfl ?_
  refine ro_if_lt (tgt := 10) hK dC_oil_1 (by decide) (fun c_1 => ?_) (fun c_1 => ?_)
  · replace h := mb_ift c_1 h
    refine ro_iconst (x := (-1)) hK (by decide) dC_oil_10 ?_
    cases h
    exact hR.1 0 0 11 _ _ _ _ rfl rfl dC_oil_11 ⟨rfl, rfl⟩
  · replace h := mb_iff c_1 h
    refine ro_iload_n hK dC_oil_4 rfl ?_
    refine ro_bipush (x := 99) hK (by decide) dC_oil_5 ?_
    refine ro_icmp_le (tgt := 12) hK dC_oil_7 (by decide) (fun c_2 => ?_) (fun c_2 => ?_)
    · replace h := mb_ift c_2 h
      refine ro_aload_n hK dC_oil_12 rfl ?_
      refine rb_get hK fC_29 mb_oC rfl dC_oil_13 ?_
      refine rb_get hK fC_128 (mb_cvo (Or.inl rfl)) rfl dC_oil_16 ?_
      refine ro_if_ne (tgt := 25) hK dC_oil_19 (by decide) (fun c_3 => ?_) (fun c_3 => ?_)
      · replace h := mb_iff c_3 h
        refine ro_aload_n hK dC_oil_25 rfl ?_
        refine rb_get hK fC_29 mb_oC rfl dC_oil_26 ?_
        refine rb_get hK fC_174 (mb_cvo (Or.inl rfl)) rfl dC_oil_29 ?_
        refine ro_istore_n hK dC_oil_32 (by decide) ?_
        show K 0 0 33 [.ref 0, .int x1, .int (s.1 100 3)] [] (mb_s s)
        refine ro_aload_n hK dC_oil_33 rfl ?_
        refine rb_get hK fC_29 mb_oC rfl dC_oil_34 ?_
        refine ro_iload_n hK dC_oil_37 rfl ?_
        obtain ⟨s_4, e_5, h⟩ := mb_bd_e h
        refine rb_put hK gC_174 (mb_cvo (Or.inl rfl)) (mb_cvs (by decide)) (by show 3 < 13; decide) rfl rfl e_5 dC_oil_38 ?_
        refine ro_iload_n hK dC_oil_41 rfl ?_
        cases h
        exact hR.1 0 0 42 _ _ _ _ rfl rfl dC_oil_42 ⟨rfl, rfl⟩
      · replace h := mb_ift c_3 h
        refine ro_bipush (x := (-4)) hK (by decide) dC_oil_22 ?_
        cases h
        exact hR.1 0 0 24 _ _ _ _ rfl rfl dC_oil_24 ⟨rfl, rfl⟩
    · replace h := mb_iff c_2 h
      refine ro_iconst (x := (-1)) hK (by decide) dC_oil_10 ?_
      cases h
      exact hR.1 0 0 11 _ _ _ _ rfl rfl dC_oil_11 ⟨rfl, rfl⟩
theorem dC_sitByNumbers_0 : decode bC_sitByNumbers 0 = .ok (.iconst 0, 1) := by decide +kernel
theorem dC_sitByNumbers_1 : decode bC_sitByNumbers 1 = .ok (.istore_n 1, 1) := by decide +kernel
theorem dC_sitByNumbers_2 : decode bC_sitByNumbers 2 = .ok (.iload_n 1, 1) := by decide +kernel
theorem dC_sitByNumbers_3 : decode bC_sitByNumbers 3 = .ok (.iconst 5, 1) := by decide +kernel
theorem dC_sitByNumbers_4 : decode bC_sitByNumbers 4 = .ok (.if_icmp .ge 16, 3) := by decide +kernel
theorem dC_sitByNumbers_7 : decode bC_sitByNumbers 7 = .ok (.aload_n 0, 1) := by decide +kernel
theorem dC_sitByNumbers_8 : decode bC_sitByNumbers 8 = .ok (.getfield 61, 3) := by decide +kernel
theorem dC_sitByNumbers_11 : decode bC_sitByNumbers 11 = .ok (.iload_n 1, 1) := by decide +kernel
theorem dC_sitByNumbers_12 : decode bC_sitByNumbers 12 = .ok (.iload_n 1, 1) := by decide +kernel
theorem dC_sitByNumbers_13 : decode bC_sitByNumbers 13 = .ok (.iastore, 1) := by decide +kernel
theorem dC_sitByNumbers_14 : decode bC_sitByNumbers 14 = .ok (.iinc 1 1, 3) := by decide +kernel
theorem dC_sitByNumbers_17 : decode bC_sitByNumbers 17 = .ok (.goto (-15), 3) := by decide +kernel
theorem dC_sitByNumbers_20 : decode bC_sitByNumbers 20 = .ok (.return_, 1) := by decide +kernel
def f_C_sitByNumbers_2 (n : Nat) (k0 : Int32 → mb_T → Option (mb_T))  : Nat → Int32 → mb_T → Option (mb_T)
  | 0, _, _ => none
  | f + 1, w1, s => if 5 ≤ w1 then k0 w1 s else mb_wr s 10 5 w1 w1 fun s_2 => f_C_sitByNumbers_2 n k0 f (w1 + 1) s_2
def f_C_sitByNumbers (n : Nat)  (s : mb_T) : Option (mb_T) := f_C_sitByNumbers_2 n (fun x_5 s_6 => some s_6) n 0 s
set_option maxHeartbeats 4000000 in
set_option maxRecDepth 100000 in
theorem tl_C_sitByNumbers_2 {dd n : Nat} {K : mj_KT} {out : mb_T} (hK : mj_C (dd + 1) 0 0 RC_c "sitByNumbers" bC_sitByNumbers 2 K) (hR : mj_R bC_sitByNumbers none (fun r2 S2 => r2 = none ∧ S2 = mb_s out) K) {k0 : Int32 → mb_T → Option (mb_T)}  (hk0 : ∀ (w1 : Int32) (s : mb_T), k0 w1 s = some out → K 0 0 20 [.ref 0, .int w1] [] (mb_s s)) : ∀ (f : Nat) (w1 : Int32) (s : mb_T), f_C_sitByNumbers_2 n k0 f w1 s = some out → K 0 0 2 [.ref 0, .int w1] [] (mb_s s) := by
  intro f
  induction f with
  | zero =>
    intro w1 s h
    cases h
  | succ f ih =>
    intro w1 s h
    rw [f_C_sitByNumbers_2] at h
    refine ro_iload_n hK dC_sitByNumbers_2 rfl ?_
    refine ro_iconst (x := 5) hK (by decide) dC_sitByNumbers_3 ?_
    refine ro_icmp_ge (tgt := 20) hK dC_sitByNumbers_4 (by decide) (fun c_1 => ?_) (fun c_1 => ?_)
    · replace h := mb_ift c_1 h
      refine ro_fg (lv' := [.ref 0, .int w1]) hK ⟨Or.inr rfl, ⟨Or.inr rfl, trivial⟩⟩ ?_
      exact hk0 _ _ h
    · replace h := mb_iff c_1 h
      refine ro_aload_n hK dC_sitByNumbers_7 rfl ?_
      refine rb_get hK fC_61 mb_oC rfl dC_sitByNumbers_8 ?_
      refine ro_iload_n hK dC_sitByNumbers_11 rfl ?_
      refine ro_iload_n hK dC_sitByNumbers_12 rfl ?_
      obtain ⟨s_2, e_3, i_4, h⟩ := mb_wr_e h
      refine rb_iast hK ai_10 i_4 e_3 dC_sitByNumbers_13 ?_
      refine ro_iincv (c := 1) hK (by decide) dC_sitByNumbers_14 rfl (by decide) ?_
      show K 0 0 17 [.ref 0, .int (w1 + 1)] [] (mb_s s_2)
      refine ro_goto (tgt := 2) hK dC_sitByNumbers_17 (by decide) ?_
      refine ro_fg (lv' := [.ref 0, .int (w1 + 1)]) hK ⟨Or.inr rfl, ⟨Or.inr rfl, trivial⟩⟩ ?_
      exact ih _ _ h
set_option maxHeartbeats 4000000 in
set_option maxRecDepth 100000 in
theorem t_C_sitByNumbers {dd n : Nat}  {s : mb_T} {out : mb_T}  (h : f_C_sitByNumbers n  s = some out) : mb_MC (dd + 1) yC_sitByNumbers bC_sitByNumbers 2 none [.ref 0] s none out := by
  unfold f_C_sitByNumbers at h
  refine mj_mc (lv := [.ref 0, .retAddr 0]) mC_sitByNumbers rfl rfl (Nat.le_of_ble_eq_true rfl) (fun K hK hR => ?_)
  have hK : mj_C (dd + 1) 0 0 RC_c "sitByNumbers" bC_sitByNumbers 2 K := hK
  refine ro_iconst (x := 0) hK (by decide) dC_sitByNumbers_0 ?_
  refine ro_istore_n hK dC_sitByNumbers_1 (by decide) ?_
  show K 0 0 2 [.ref 0, .int 0] [] (mb_s s)
  refine ro_fg (lv' := [.ref 0, .int 0]) hK ⟨Or.inr rfl, ⟨Or.inr rfl, trivial⟩⟩ ?_
  refine tl_C_sitByNumbers_2 (dd := dd) hK hR (fun x_5 s_6 h => ?_) n _ _ h
  cases h
  exact hR.2.2 0 0 20 _ _ rfl dC_sitByNumbers_20 ⟨rfl, rfl⟩
theorem dC_thereOf_0 : decode bC_thereOf 0 = .ok (.iconst 0, 1) := by decide +kernel
theorem dC_thereOf_1 : decode bC_thereOf 1 = .ok (.istore_n 1, 1) := by decide +kernel
theorem dC_thereOf_2 : decode bC_thereOf 2 = .ok (.aload_n 0, 1) := by decide +kernel
theorem dC_thereOf_3 : decode bC_thereOf 3 = .ok (.astore_n 2, 1) := by decide +kernel
theorem dC_thereOf_4 : decode bC_thereOf 4 = .ok (.aload_n 2, 1) := by decide +kernel
theorem dC_thereOf_5 : decode bC_thereOf 5 = .ok (.arraylength, 1) := by decide +kernel
theorem dC_thereOf_6 : decode bC_thereOf 6 = .ok (.istore_n 3, 1) := by decide +kernel
theorem dC_thereOf_7 : decode bC_thereOf 7 = .ok (.iconst 0, 1) := by decide +kernel
theorem dC_thereOf_8 : decode bC_thereOf 8 = .ok (.istore 4, 2) := by decide +kernel
theorem dC_thereOf_10 : decode bC_thereOf 10 = .ok (.iload 4, 2) := by decide +kernel
theorem dC_thereOf_12 : decode bC_thereOf 12 = .ok (.iload_n 3, 1) := by decide +kernel
theorem dC_thereOf_13 : decode bC_thereOf 13 = .ok (.if_icmp .ge 28, 3) := by decide +kernel
theorem dC_thereOf_16 : decode bC_thereOf 16 = .ok (.aload_n 2, 1) := by decide +kernel
theorem dC_thereOf_17 : decode bC_thereOf 17 = .ok (.iload 4, 2) := by decide +kernel
theorem dC_thereOf_19 : decode bC_thereOf 19 = .ok (.iaload, 1) := by decide +kernel
theorem dC_thereOf_20 : decode bC_thereOf 20 = .ok (.istore 5, 2) := by decide +kernel
theorem dC_thereOf_22 : decode bC_thereOf 22 = .ok (.iload_n 1, 1) := by decide +kernel
theorem dC_thereOf_23 : decode bC_thereOf 23 = .ok (.iload 5, 2) := by decide +kernel
theorem dC_thereOf_25 : decode bC_thereOf 25 = .ok (.ifCond .lt 7, 3) := by decide +kernel
theorem dC_thereOf_28 : decode bC_thereOf 28 = .ok (.iconst 1, 1) := by decide +kernel
theorem dC_thereOf_29 : decode bC_thereOf 29 = .ok (.goto 4, 3) := by decide +kernel
theorem dC_thereOf_32 : decode bC_thereOf 32 = .ok (.iconst 0, 1) := by decide +kernel
theorem dC_thereOf_33 : decode bC_thereOf 33 = .ok (.iadd, 1) := by decide +kernel
theorem dC_thereOf_34 : decode bC_thereOf 34 = .ok (.istore_n 1, 1) := by decide +kernel
theorem dC_thereOf_35 : decode bC_thereOf 35 = .ok (.iinc 4 1, 3) := by decide +kernel
theorem dC_thereOf_38 : decode bC_thereOf 38 = .ok (.goto (-28), 3) := by decide +kernel
theorem dC_thereOf_41 : decode bC_thereOf 41 = .ok (.iload_n 1, 1) := by decide +kernel
theorem dC_thereOf_42 : decode bC_thereOf 42 = .ok (.ireturn, 1) := by decide +kernel
def f_C_thereOf_10 (n : Nat) (k0 : Int32 → Int32 → mb_T → Option (Int32 × mb_T)) (y2 z2 : Nat) (y3 : Int32) : Nat → Int32 → Int32 → mb_T → Option (Int32 × mb_T)
  | 0, _, _, _ => none
  | f + 1, w1, w4, s => if y3 ≤ w4 then k0 w1 w4 s else mb_rd s y2 z2 w4 fun x_2 => f_C_thereOf_10 n k0 y2 z2 y3 f (w1 + (if x_2 < 0 then 0 else 1 : Int32)) (w4 + 1) s
def f_C_thereOf (n : Nat) (a1 n1 : Nat) (s : mb_T) : Option (Int32 × mb_T) := f_C_thereOf_10 n (fun x_7 x_8 s_9 => some (x_7, s_9)) a1 n1 (Int32.ofNat n1) n 0 0 s
set_option maxHeartbeats 4000000 in
set_option maxRecDepth 100000 in
theorem tl_C_thereOf_10 {dd n : Nat} {K : mj_KT} {out : Int32 × mb_T} (hK : mj_C (dd + 1) 0 0 RC_c "thereOf" bC_thereOf 6 K) (hR : mj_R bC_thereOf (some .int) (fun r2 S2 => r2 = some (.int out.1) ∧ S2 = mb_s out.2) K) {k0 : Int32 → Int32 → mb_T → Option (Int32 × mb_T)} {y2 z2 : Nat} {y3 : Int32} (hy2 : mb_ai y2 z2) (hk0 : ∀ (w1 : Int32) (w4 : Int32) (s : mb_T), k0 w1 w4 s = some out → K 0 0 41 [.retAddr 0, .int w1, .ref y2, .int y3, .int w4, .retAddr 0] [] (mb_s s)) : ∀ (f : Nat) (w1 : Int32) (w4 : Int32) (s : mb_T), f_C_thereOf_10 n k0 y2 z2 y3 f w1 w4 s = some out → K 0 0 10 [.retAddr 0, .int w1, .ref y2, .int y3, .int w4, .retAddr 0] [] (mb_s s) := by
  intro f
  induction f with
  | zero =>
    intro w1 w4 s h
    cases h
  | succ f ih =>
    intro w1 w4 s h
    rw [f_C_thereOf_10] at h
    refine ro_iload hK dC_thereOf_10 rfl ?_
    refine ro_iload_n hK dC_thereOf_12 rfl ?_
    refine ro_icmp_ge (tgt := 41) hK dC_thereOf_13 (by decide) (fun c_1 => ?_) (fun c_1 => ?_)
    · replace h := mb_ift c_1 h
      refine ro_fg (lv' := [.retAddr 0, .int w1, .ref y2, .int y3, .int w4, .retAddr 0]) hK ⟨Or.inl rfl, ⟨Or.inr rfl, ⟨Or.inr rfl, ⟨Or.inr rfl, ⟨Or.inr rfl, ⟨Or.inl rfl, trivial⟩⟩⟩⟩⟩⟩ ?_
      exact hk0 _ _ _ h
    · replace h := mb_iff c_1 h
      refine ro_aload_n hK dC_thereOf_16 rfl ?_
      refine ro_iload hK dC_thereOf_17 rfl ?_
      obtain ⟨x_2, e_3, i_4, h⟩ := mb_rd_e h
      refine rb_iald hK hy2 i_4 e_3 dC_thereOf_19 ?_
      refine ro_istore hK dC_thereOf_20 (by decide) ?_
      show K 0 0 22 [.retAddr 0, .int w1, .ref y2, .int y3, .int w4, .int x_2] [] (mb_s s)
      refine ro_iload_n hK dC_thereOf_22 rfl ?_
      refine ro_iload hK dC_thereOf_23 rfl ?_
      have j_6 : ∀ w_ : Int32, w_ = (if x_2 < 0 then 0 else 1 : Int32) → K 0 0 33 [.retAddr 0, .int w1, .ref y2, .int y3, .int w4, .int x_2] [.int w_, .int w1] (mb_s s) → K 0 0 25 [.retAddr 0, .int w1, .ref y2, .int y3, .int w4, .int x_2] [.int x_2, .int w1] (mb_s s) := by
        intro w_ hw hj
        refine ro_if_lt (tgt := 32) hK dC_thereOf_25 (by decide) (fun c_5 => ?_) (fun c_5 => ?_)
        · skip
          refine ro_iconst (x := 0) hK (by decide) dC_thereOf_32 ?_
          have hw := (hw.trans (if_pos c_5))
          subst hw
          exact hj
        · skip
          refine ro_iconst (x := 1) hK (by decide) dC_thereOf_28 ?_
          refine ro_goto (tgt := 33) hK dC_thereOf_29 (by decide) ?_
          have hw := (hw.trans (if_neg c_5))
          subst hw
          exact hj
      refine j_6 _ rfl ?_
      refine ro_iadd hK dC_thereOf_33 ?_
      refine ro_istore_n hK dC_thereOf_34 (by decide) ?_
      show K 0 0 35 [.retAddr 0, .int (w1 + (if x_2 < 0 then 0 else 1 : Int32)), .ref y2, .int y3, .int w4, .int x_2] [] (mb_s s)
      refine ro_iincv (c := 1) hK (by decide) dC_thereOf_35 rfl (by decide) ?_
      show K 0 0 38 [.retAddr 0, .int (w1 + (if x_2 < 0 then 0 else 1 : Int32)), .ref y2, .int y3, .int (w4 + 1), .int x_2] [] (mb_s s)
      refine ro_goto (tgt := 10) hK dC_thereOf_38 (by decide) ?_
      refine ro_fg (lv' := [.retAddr 0, .int (w1 + (if x_2 < 0 then 0 else 1 : Int32)), .ref y2, .int y3, .int (w4 + 1), .retAddr 0]) hK ⟨Or.inl rfl, ⟨Or.inr rfl, ⟨Or.inr rfl, ⟨Or.inr rfl, ⟨Or.inr rfl, ⟨Or.inl rfl, trivial⟩⟩⟩⟩⟩⟩ ?_
      exact ih _ _ _ h
set_option maxHeartbeats 4000000 in
set_option maxRecDepth 100000 in
theorem t_C_thereOf {dd n : Nat} {a1 n1 : Nat} {s : mb_T} {out : Int32 × mb_T} (ha1 : mb_ai a1 n1) (h : f_C_thereOf n a1 n1 s = some out) : mb_MC (dd + 1) yC_thereOf bC_thereOf 6 (some .int) [.ref a1] s (some (.int out.1)) out.2 := by
  unfold f_C_thereOf at h
  refine mj_mc (lv := [.ref a1, .retAddr 0, .retAddr 0, .retAddr 0, .retAddr 0, .retAddr 0]) mC_thereOf rfl rfl (Nat.le_of_ble_eq_true rfl) (fun K hK hR => ?_)
  have hK : mj_C (dd + 1) 0 0 RC_c "thereOf" bC_thereOf 6 K := hK
  refine ro_iconst (x := 0) hK (by decide) dC_thereOf_0 ?_
  refine ro_istore_n hK dC_thereOf_1 (by decide) ?_
  show K 0 0 2 [.ref a1, .int 0, .retAddr 0, .retAddr 0, .retAddr 0, .retAddr 0] [] (mb_s s)
  refine ro_aload_n hK dC_thereOf_2 rfl ?_
  refine ro_astore_n hK dC_thereOf_3 (by decide) ?_
  show K 0 0 4 [.ref a1, .int 0, .ref a1, .retAddr 0, .retAddr 0, .retAddr 0] [] (mb_s s)
  refine ro_aload_n hK dC_thereOf_4 rfl ?_
  refine rb_alenI hK ha1 dC_thereOf_5 ?_
  refine ro_istore_n hK dC_thereOf_6 (by decide) ?_
  show K 0 0 7 [.ref a1, .int 0, .ref a1, .int (Int32.ofNat n1), .retAddr 0, .retAddr 0] [] (mb_s s)
  refine ro_iconst (x := 0) hK (by decide) dC_thereOf_7 ?_
  refine ro_istore hK dC_thereOf_8 (by decide) ?_
  show K 0 0 10 [.ref a1, .int 0, .ref a1, .int (Int32.ofNat n1), .int 0, .retAddr 0] [] (mb_s s)
  refine ro_fg (lv' := [.retAddr 0, .int 0, .ref a1, .int (Int32.ofNat n1), .int 0, .retAddr 0]) hK ⟨Or.inl rfl, ⟨Or.inr rfl, ⟨Or.inr rfl, ⟨Or.inr rfl, ⟨Or.inr rfl, ⟨Or.inl rfl, trivial⟩⟩⟩⟩⟩⟩ ?_
  refine tl_C_thereOf_10 (dd := dd) hK hR ha1 (fun x_7 x_8 s_9 h => ?_) n _ _ _ h
  refine ro_iload_n hK dC_thereOf_41 rfl ?_
  cases h
  exact hR.1 0 0 42 _ _ _ _ rfl rfl dC_thereOf_42 ⟨rfl, rfl⟩
theorem dC_withRows_0 : decode bC_withRows 0 = .ok (.iconst 0, 1) := by decide +kernel
theorem dC_withRows_1 : decode bC_withRows 1 = .ok (.istore_n 3, 1) := by decide +kernel
theorem dC_withRows_2 : decode bC_withRows 2 = .ok (.iload_n 3, 1) := by decide +kernel
theorem dC_withRows_3 : decode bC_withRows 3 = .ok (.bipush 6, 2) := by decide +kernel
theorem dC_withRows_5 : decode bC_withRows 5 = .ok (.if_icmp .ge 60, 3) := by decide +kernel
theorem dC_withRows_8 : decode bC_withRows 8 = .ok (.ldc2_w 326, 3) := by decide +kernel
theorem dC_withRows_11 : decode bC_withRows 11 = .ok (.lload_n 1, 1) := by decide +kernel
theorem dC_withRows_12 : decode bC_withRows 12 = .ok (.lmul, 1) := by decide +kernel
theorem dC_withRows_13 : decode bC_withRows 13 = .ok (.aload_n 0, 1) := by decide +kernel
theorem dC_withRows_14 : decode bC_withRows 14 = .ok (.getfield 14, 3) := by decide +kernel
theorem dC_withRows_17 : decode bC_withRows 17 = .ok (.iload_n 3, 1) := by decide +kernel
theorem dC_withRows_18 : decode bC_withRows 18 = .ok (.iaload, 1) := by decide +kernel
theorem dC_withRows_19 : decode bC_withRows 19 = .ok (.i2l, 1) := by decide +kernel
theorem dC_withRows_20 : decode bC_withRows 20 = .ok (.ladd, 1) := by decide +kernel
theorem dC_withRows_21 : decode bC_withRows 21 = .ok (.lstore_n 1, 1) := by decide +kernel
theorem dC_withRows_22 : decode bC_withRows 22 = .ok (.iconst 0, 1) := by decide +kernel
theorem dC_withRows_23 : decode bC_withRows 23 = .ok (.istore 4, 2) := by decide +kernel
theorem dC_withRows_25 : decode bC_withRows 25 = .ok (.iload 4, 2) := by decide +kernel
theorem dC_withRows_27 : decode bC_withRows 27 = .ok (.aload_n 0, 1) := by decide +kernel
theorem dC_withRows_28 : decode bC_withRows 28 = .ok (.getfield 14, 3) := by decide +kernel
theorem dC_withRows_31 : decode bC_withRows 31 = .ok (.iload_n 3, 1) := by decide +kernel
theorem dC_withRows_32 : decode bC_withRows 32 = .ok (.iaload, 1) := by decide +kernel
theorem dC_withRows_33 : decode bC_withRows 33 = .ok (.if_icmp .ge 26, 3) := by decide +kernel
theorem dC_withRows_36 : decode bC_withRows 36 = .ok (.ldc2_w 326, 3) := by decide +kernel
theorem dC_withRows_39 : decode bC_withRows 39 = .ok (.lload_n 1, 1) := by decide +kernel
theorem dC_withRows_40 : decode bC_withRows 40 = .ok (.lmul, 1) := by decide +kernel
theorem dC_withRows_41 : decode bC_withRows 41 = .ok (.aload_n 0, 1) := by decide +kernel
theorem dC_withRows_42 : decode bC_withRows 42 = .ok (.getfield 11, 3) := by decide +kernel
theorem dC_withRows_45 : decode bC_withRows 45 = .ok (.iload_n 3, 1) := by decide +kernel
theorem dC_withRows_46 : decode bC_withRows 46 = .ok (.aaload, 1) := by decide +kernel
theorem dC_withRows_47 : decode bC_withRows 47 = .ok (.iload 4, 2) := by decide +kernel
theorem dC_withRows_49 : decode bC_withRows 49 = .ok (.iaload, 1) := by decide +kernel
theorem dC_withRows_50 : decode bC_withRows 50 = .ok (.i2l, 1) := by decide +kernel
theorem dC_withRows_51 : decode bC_withRows 51 = .ok (.ladd, 1) := by decide +kernel
theorem dC_withRows_52 : decode bC_withRows 52 = .ok (.lstore_n 1, 1) := by decide +kernel
theorem dC_withRows_53 : decode bC_withRows 53 = .ok (.iinc 4 1, 3) := by decide +kernel
theorem dC_withRows_56 : decode bC_withRows 56 = .ok (.goto (-31), 3) := by decide +kernel
theorem dC_withRows_59 : decode bC_withRows 59 = .ok (.iinc 3 1, 3) := by decide +kernel
theorem dC_withRows_62 : decode bC_withRows 62 = .ok (.goto (-60), 3) := by decide +kernel
theorem dC_withRows_65 : decode bC_withRows 65 = .ok (.lload_n 1, 1) := by decide +kernel
theorem dC_withRows_66 : decode bC_withRows 66 = .ok (.lreturn, 1) := by decide +kernel
def f_C_withRows_25 (n : Nat) (k0 : Int64 → Int32 → mb_T → Option (Int64 × mb_T)) (y3 : Int32) : Nat → Int64 → Int32 → mb_T → Option (Int64 × mb_T)
  | 0, _, _, _ => none
  | f + 1, w1, w4, s => mb_rd s 1 6 y3 fun x_5 => if x_5 ≤ w4 then k0 w1 w4 s else mb_ix y3 6 (mb_rd s (20 + y3.toNatClampNeg) 60 w4 fun x_10 => f_C_withRows_25 n k0 y3 f ((31 * w1) + (Int32.toInt64 x_10)) (w4 + 1) s)
def f_C_withRows_2 (n : Nat) (k0 : Int64 → Int32 → mb_T → Option (Int64 × mb_T))  : Nat → Int64 → Int32 → mb_T → Option (Int64 × mb_T)
  | 0, _, _, _ => none
  | f + 1, w1, w3, s => if 6 ≤ w3 then k0 w1 w3 s else mb_rd s 1 6 w3 fun x_2 => f_C_withRows_25 n (fun x_13 x_14 s_15 => f_C_withRows_2 n k0 f x_13 (w3 + 1) s_15) w3 n ((31 * w1) + (Int32.toInt64 x_2)) 0 s
def f_C_withRows (n : Nat) (x1 : Int64) (s : mb_T) : Option (Int64 × mb_T) := f_C_withRows_2 n (fun x_16 x_17 s_18 => some (x_16, s_18)) n x1 0 s
set_option maxHeartbeats 4000000 in
set_option maxRecDepth 100000 in
theorem tl_C_withRows_25 {dd n : Nat} {K : mj_KT} {out : Int64 × mb_T} (hK : mj_C (dd + 1) 0 0 RC_c "withRows" bC_withRows 5 K) (hR : mj_R bC_withRows (some .long) (fun r2 S2 => r2 = some (.long out.1) ∧ S2 = mb_s out.2) K) {k0 : Int64 → Int32 → mb_T → Option (Int64 × mb_T)} {y3 : Int32} (hk0 : ∀ (w1 : Int64) (w4 : Int32) (s : mb_T), k0 w1 w4 s = some out → K 0 0 59 [.ref 0, .long w1, .retAddr 0, .int y3, .int w4] [] (mb_s s)) : ∀ (f : Nat) (w1 : Int64) (w4 : Int32) (s : mb_T), f_C_withRows_25 n k0 y3 f w1 w4 s = some out → K 0 0 25 [.ref 0, .long w1, .retAddr 0, .int y3, .int w4] [] (mb_s s) := by
  intro f
  induction f with
  | zero =>
    intro w1 w4 s h
    cases h
  | succ f ih =>
    intro w1 w4 s h
    rw [f_C_withRows_25] at h
    refine ro_iload hK dC_withRows_25 rfl ?_
    refine ro_aload_n hK dC_withRows_27 rfl ?_
    refine rb_get hK fC_14 mb_oC rfl dC_withRows_28 ?_
    refine ro_iload_n hK dC_withRows_31 rfl ?_
    obtain ⟨x_5, e_6, i_7, h⟩ := mb_rd_e h
    refine rb_iald hK ai_1 i_7 e_6 dC_withRows_32 ?_
    refine ro_icmp_ge (tgt := 59) hK dC_withRows_33 (by decide) (fun c_8 => ?_) (fun c_8 => ?_)
    · replace h := mb_ift c_8 h
      refine ro_fg (lv' := [.ref 0, .long w1, .retAddr 0, .int y3, .int w4]) hK ⟨Or.inr rfl, ⟨Or.inr rfl, ⟨Or.inl rfl, ⟨Or.inr rfl, ⟨Or.inr rfl, trivial⟩⟩⟩⟩⟩ ?_
      exact hk0 _ _ _ h
    · replace h := mb_iff c_8 h
      refine ro_ldc2 hK cC_326 dC_withRows_36 ?_
      refine ro_lload_n hK dC_withRows_39 rfl ?_
      refine ro_lmul hK dC_withRows_40 ?_
      refine ro_aload_n hK dC_withRows_41 rfl ?_
      refine rb_get hK fC_11 mb_oC rfl dC_withRows_42 ?_
      refine ro_iload_n hK dC_withRows_45 rfl ?_
      obtain ⟨i_9, h⟩ := mb_ix_e h
      refine rb_rows hK i_9 dC_withRows_46 ?_
      refine ro_iload hK dC_withRows_47 rfl ?_
      obtain ⟨x_10, e_11, i_12, h⟩ := mb_rd_e h
      refine rb_iald hK (mb_rw i_9) i_12 e_11 dC_withRows_49 ?_
      refine ro_i2l hK dC_withRows_50 ?_
      refine ro_ladd hK dC_withRows_51 ?_
      refine ro_lstore_n hK dC_withRows_52 (by decide) ?_
      show K 0 0 53 [.ref 0, .long ((31 * w1) + (Int32.toInt64 x_10)), .retAddr 0, .int y3, .int w4] [] (mb_s s)
      refine ro_iincv (c := 1) hK (by decide) dC_withRows_53 rfl (by decide) ?_
      show K 0 0 56 [.ref 0, .long ((31 * w1) + (Int32.toInt64 x_10)), .retAddr 0, .int y3, .int (w4 + 1)] [] (mb_s s)
      refine ro_goto (tgt := 25) hK dC_withRows_56 (by decide) ?_
      refine ro_fg (lv' := [.ref 0, .long ((31 * w1) + (Int32.toInt64 x_10)), .retAddr 0, .int y3, .int (w4 + 1)]) hK ⟨Or.inr rfl, ⟨Or.inr rfl, ⟨Or.inl rfl, ⟨Or.inr rfl, ⟨Or.inr rfl, trivial⟩⟩⟩⟩⟩ ?_
      exact ih _ _ _ h
set_option maxHeartbeats 4000000 in
set_option maxRecDepth 100000 in
theorem tl_C_withRows_2 {dd n : Nat} {K : mj_KT} {out : Int64 × mb_T} (hK : mj_C (dd + 1) 0 0 RC_c "withRows" bC_withRows 5 K) (hR : mj_R bC_withRows (some .long) (fun r2 S2 => r2 = some (.long out.1) ∧ S2 = mb_s out.2) K) {k0 : Int64 → Int32 → mb_T → Option (Int64 × mb_T)}  (hk0 : ∀ (w1 : Int64) (w3 : Int32) (s : mb_T), k0 w1 w3 s = some out → K 0 0 65 [.ref 0, .long w1, .retAddr 0, .int w3, .retAddr 0] [] (mb_s s)) : ∀ (f : Nat) (w1 : Int64) (w3 : Int32) (s : mb_T), f_C_withRows_2 n k0 f w1 w3 s = some out → K 0 0 2 [.ref 0, .long w1, .retAddr 0, .int w3, .retAddr 0] [] (mb_s s) := by
  intro f
  induction f with
  | zero =>
    intro w1 w3 s h
    cases h
  | succ f ih =>
    intro w1 w3 s h
    rw [f_C_withRows_2] at h
    refine ro_iload_n hK dC_withRows_2 rfl ?_
    refine ro_bipush (x := 6) hK (by decide) dC_withRows_3 ?_
    refine ro_icmp_ge (tgt := 65) hK dC_withRows_5 (by decide) (fun c_1 => ?_) (fun c_1 => ?_)
    · replace h := mb_ift c_1 h
      refine ro_fg (lv' := [.ref 0, .long w1, .retAddr 0, .int w3, .retAddr 0]) hK ⟨Or.inr rfl, ⟨Or.inr rfl, ⟨Or.inl rfl, ⟨Or.inr rfl, ⟨Or.inl rfl, trivial⟩⟩⟩⟩⟩ ?_
      exact hk0 _ _ _ h
    · replace h := mb_iff c_1 h
      refine ro_ldc2 hK cC_326 dC_withRows_8 ?_
      refine ro_lload_n hK dC_withRows_11 rfl ?_
      refine ro_lmul hK dC_withRows_12 ?_
      refine ro_aload_n hK dC_withRows_13 rfl ?_
      refine rb_get hK fC_14 mb_oC rfl dC_withRows_14 ?_
      refine ro_iload_n hK dC_withRows_17 rfl ?_
      obtain ⟨x_2, e_3, i_4, h⟩ := mb_rd_e h
      refine rb_iald hK ai_1 i_4 e_3 dC_withRows_18 ?_
      refine ro_i2l hK dC_withRows_19 ?_
      refine ro_ladd hK dC_withRows_20 ?_
      refine ro_lstore_n hK dC_withRows_21 (by decide) ?_
      show K 0 0 22 [.ref 0, .long ((31 * w1) + (Int32.toInt64 x_2)), .retAddr 0, .int w3, .retAddr 0] [] (mb_s s)
      refine ro_iconst (x := 0) hK (by decide) dC_withRows_22 ?_
      refine ro_istore hK dC_withRows_23 (by decide) ?_
      show K 0 0 25 [.ref 0, .long ((31 * w1) + (Int32.toInt64 x_2)), .retAddr 0, .int w3, .int 0] [] (mb_s s)
      refine ro_fg (lv' := [.ref 0, .long ((31 * w1) + (Int32.toInt64 x_2)), .retAddr 0, .int w3, .int 0]) hK ⟨Or.inr rfl, ⟨Or.inr rfl, ⟨Or.inl rfl, ⟨Or.inr rfl, ⟨Or.inr rfl, trivial⟩⟩⟩⟩⟩ ?_
      refine tl_C_withRows_25 (dd := dd) hK hR (fun x_13 x_14 s_15 h => ?_) n _ _ _ h
      refine ro_iincv (c := 1) hK (by decide) dC_withRows_59 rfl (by decide) ?_
      show K 0 0 62 [.ref 0, .long x_13, .retAddr 0, .int (w3 + 1), .int x_14] [] (mb_s s_15)
      refine ro_goto (tgt := 2) hK dC_withRows_62 (by decide) ?_
      refine ro_fg (lv' := [.ref 0, .long x_13, .retAddr 0, .int (w3 + 1), .retAddr 0]) hK ⟨Or.inr rfl, ⟨Or.inr rfl, ⟨Or.inl rfl, ⟨Or.inr rfl, ⟨Or.inl rfl, trivial⟩⟩⟩⟩⟩ ?_
      exact ih _ _ _ h
set_option maxHeartbeats 4000000 in
set_option maxRecDepth 100000 in
theorem t_C_withRows {dd n : Nat} {x1 : Int64} {s : mb_T} {out : Int64 × mb_T}  (h : f_C_withRows n x1 s = some out) : mb_MC (dd + 1) yC_withRows bC_withRows 5 (some .long) [.ref 0, .long x1] s (some (.long out.1)) out.2 := by
  unfold f_C_withRows at h
  refine mj_mc (lv := [.ref 0, .long x1, .retAddr 0, .retAddr 0, .retAddr 0]) mC_withRows rfl rfl (Nat.le_of_ble_eq_true rfl) (fun K hK hR => ?_)
  have hK : mj_C (dd + 1) 0 0 RC_c "withRows" bC_withRows 5 K := hK
  refine ro_iconst (x := 0) hK (by decide) dC_withRows_0 ?_
  refine ro_istore_n hK dC_withRows_1 (by decide) ?_
  show K 0 0 2 [.ref 0, .long x1, .retAddr 0, .int 0, .retAddr 0] [] (mb_s s)
  refine ro_fg (lv' := [.ref 0, .long x1, .retAddr 0, .int 0, .retAddr 0]) hK ⟨Or.inr rfl, ⟨Or.inr rfl, ⟨Or.inl rfl, ⟨Or.inr rfl, ⟨Or.inl rfl, trivial⟩⟩⟩⟩⟩ ?_
  refine tl_C_withRows_2 (dd := dd) hK hR (fun x_16 x_17 s_18 h => ?_) n _ _ _ h
  refine ro_lload_n hK dC_withRows_65 rfl ?_
  cases h
  exact hR.2.1 0 0 66 _ _ _ rfl dC_withRows_66 ⟨rfl, rfl⟩
theorem dC_withTexts_0 : decode bC_withTexts 0 = .ok (.iconst 0, 1) := by decide +kernel
theorem dC_withTexts_1 : decode bC_withTexts 1 = .ok (.istore_n 3, 1) := by decide +kernel
theorem dC_withTexts_2 : decode bC_withTexts 2 = .ok (.iload_n 3, 1) := by decide +kernel
theorem dC_withTexts_3 : decode bC_withTexts 3 = .ok (.iconst 4, 1) := by decide +kernel
theorem dC_withTexts_4 : decode bC_withTexts 4 = .ok (.if_icmp .ge 60, 3) := by decide +kernel
theorem dC_withTexts_7 : decode bC_withTexts 7 = .ok (.ldc2_w 326, 3) := by decide +kernel
theorem dC_withTexts_10 : decode bC_withTexts 10 = .ok (.lload_n 1, 1) := by decide +kernel
theorem dC_withTexts_11 : decode bC_withTexts 11 = .ok (.lmul, 1) := by decide +kernel
theorem dC_withTexts_12 : decode bC_withTexts 12 = .ok (.aload_n 0, 1) := by decide +kernel
theorem dC_withTexts_13 : decode bC_withTexts 13 = .ok (.getfield 23, 3) := by decide +kernel
theorem dC_withTexts_16 : decode bC_withTexts 16 = .ok (.iload_n 3, 1) := by decide +kernel
theorem dC_withTexts_17 : decode bC_withTexts 17 = .ok (.iaload, 1) := by decide +kernel
theorem dC_withTexts_18 : decode bC_withTexts 18 = .ok (.i2l, 1) := by decide +kernel
theorem dC_withTexts_19 : decode bC_withTexts 19 = .ok (.ladd, 1) := by decide +kernel
theorem dC_withTexts_20 : decode bC_withTexts 20 = .ok (.lstore_n 1, 1) := by decide +kernel
theorem dC_withTexts_21 : decode bC_withTexts 21 = .ok (.iconst 0, 1) := by decide +kernel
theorem dC_withTexts_22 : decode bC_withTexts 22 = .ok (.istore 4, 2) := by decide +kernel
theorem dC_withTexts_24 : decode bC_withTexts 24 = .ok (.iload 4, 2) := by decide +kernel
theorem dC_withTexts_26 : decode bC_withTexts 26 = .ok (.aload_n 0, 1) := by decide +kernel
theorem dC_withTexts_27 : decode bC_withTexts 27 = .ok (.getfield 23, 3) := by decide +kernel
theorem dC_withTexts_30 : decode bC_withTexts 30 = .ok (.iload_n 3, 1) := by decide +kernel
theorem dC_withTexts_31 : decode bC_withTexts 31 = .ok (.iaload, 1) := by decide +kernel
theorem dC_withTexts_32 : decode bC_withTexts 32 = .ok (.if_icmp .ge 26, 3) := by decide +kernel
theorem dC_withTexts_35 : decode bC_withTexts 35 = .ok (.ldc2_w 326, 3) := by decide +kernel
theorem dC_withTexts_38 : decode bC_withTexts 38 = .ok (.lload_n 1, 1) := by decide +kernel
theorem dC_withTexts_39 : decode bC_withTexts 39 = .ok (.lmul, 1) := by decide +kernel
theorem dC_withTexts_40 : decode bC_withTexts 40 = .ok (.aload_n 0, 1) := by decide +kernel
theorem dC_withTexts_41 : decode bC_withTexts 41 = .ok (.getfield 20, 3) := by decide +kernel
theorem dC_withTexts_44 : decode bC_withTexts 44 = .ok (.iload_n 3, 1) := by decide +kernel
theorem dC_withTexts_45 : decode bC_withTexts 45 = .ok (.aaload, 1) := by decide +kernel
theorem dC_withTexts_46 : decode bC_withTexts 46 = .ok (.iload 4, 2) := by decide +kernel
theorem dC_withTexts_48 : decode bC_withTexts 48 = .ok (.baload, 1) := by decide +kernel
theorem dC_withTexts_49 : decode bC_withTexts 49 = .ok (.i2l, 1) := by decide +kernel
theorem dC_withTexts_50 : decode bC_withTexts 50 = .ok (.ladd, 1) := by decide +kernel
theorem dC_withTexts_51 : decode bC_withTexts 51 = .ok (.lstore_n 1, 1) := by decide +kernel
theorem dC_withTexts_52 : decode bC_withTexts 52 = .ok (.iinc 4 1, 3) := by decide +kernel
theorem dC_withTexts_55 : decode bC_withTexts 55 = .ok (.goto (-31), 3) := by decide +kernel
theorem dC_withTexts_58 : decode bC_withTexts 58 = .ok (.iinc 3 1, 3) := by decide +kernel
theorem dC_withTexts_61 : decode bC_withTexts 61 = .ok (.goto (-59), 3) := by decide +kernel
theorem dC_withTexts_64 : decode bC_withTexts 64 = .ok (.lload_n 1, 1) := by decide +kernel
theorem dC_withTexts_65 : decode bC_withTexts 65 = .ok (.lreturn, 1) := by decide +kernel
def f_C_withTexts_24 (n : Nat) (k0 : Int64 → Int32 → mb_T → Option (Int64 × mb_T)) (y3 : Int32) : Nat → Int64 → Int32 → mb_T → Option (Int64 × mb_T)
  | 0, _, _, _ => none
  | f + 1, w1, w4, s => mb_rd s 3 4 y3 fun x_5 => if x_5 ≤ w4 then k0 w1 w4 s else mb_ix y3 4 (mb_rd s (30 + y3.toNatClampNeg) 80 w4 fun x_10 => f_C_withTexts_24 n k0 y3 f ((31 * w1) + (Int32.toInt64 x_10)) (w4 + 1) s)
def f_C_withTexts_2 (n : Nat) (k0 : Int64 → Int32 → mb_T → Option (Int64 × mb_T))  : Nat → Int64 → Int32 → mb_T → Option (Int64 × mb_T)
  | 0, _, _, _ => none
  | f + 1, w1, w3, s => if 4 ≤ w3 then k0 w1 w3 s else mb_rd s 3 4 w3 fun x_2 => f_C_withTexts_24 n (fun x_13 x_14 s_15 => f_C_withTexts_2 n k0 f x_13 (w3 + 1) s_15) w3 n ((31 * w1) + (Int32.toInt64 x_2)) 0 s
def f_C_withTexts (n : Nat) (x1 : Int64) (s : mb_T) : Option (Int64 × mb_T) := f_C_withTexts_2 n (fun x_16 x_17 s_18 => some (x_16, s_18)) n x1 0 s
set_option maxHeartbeats 4000000 in
set_option maxRecDepth 100000 in
theorem tl_C_withTexts_24 {dd n : Nat} {K : mj_KT} {out : Int64 × mb_T} (hK : mj_C (dd + 1) 0 0 RC_c "withTexts" bC_withTexts 5 K) (hR : mj_R bC_withTexts (some .long) (fun r2 S2 => r2 = some (.long out.1) ∧ S2 = mb_s out.2) K) {k0 : Int64 → Int32 → mb_T → Option (Int64 × mb_T)} {y3 : Int32} (hk0 : ∀ (w1 : Int64) (w4 : Int32) (s : mb_T), k0 w1 w4 s = some out → K 0 0 58 [.ref 0, .long w1, .retAddr 0, .int y3, .int w4] [] (mb_s s)) : ∀ (f : Nat) (w1 : Int64) (w4 : Int32) (s : mb_T), f_C_withTexts_24 n k0 y3 f w1 w4 s = some out → K 0 0 24 [.ref 0, .long w1, .retAddr 0, .int y3, .int w4] [] (mb_s s) := by
  intro f
  induction f with
  | zero =>
    intro w1 w4 s h
    cases h
  | succ f ih =>
    intro w1 w4 s h
    rw [f_C_withTexts_24] at h
    refine ro_iload hK dC_withTexts_24 rfl ?_
    refine ro_aload_n hK dC_withTexts_26 rfl ?_
    refine rb_get hK fC_23 mb_oC rfl dC_withTexts_27 ?_
    refine ro_iload_n hK dC_withTexts_30 rfl ?_
    obtain ⟨x_5, e_6, i_7, h⟩ := mb_rd_e h
    refine rb_iald hK ai_3 i_7 e_6 dC_withTexts_31 ?_
    refine ro_icmp_ge (tgt := 58) hK dC_withTexts_32 (by decide) (fun c_8 => ?_) (fun c_8 => ?_)
    · replace h := mb_ift c_8 h
      refine ro_fg (lv' := [.ref 0, .long w1, .retAddr 0, .int y3, .int w4]) hK ⟨Or.inr rfl, ⟨Or.inr rfl, ⟨Or.inl rfl, ⟨Or.inr rfl, ⟨Or.inr rfl, trivial⟩⟩⟩⟩⟩ ?_
      exact hk0 _ _ _ h
    · replace h := mb_iff c_8 h
      refine ro_ldc2 hK cC_326 dC_withTexts_35 ?_
      refine ro_lload_n hK dC_withTexts_38 rfl ?_
      refine ro_lmul hK dC_withTexts_39 ?_
      refine ro_aload_n hK dC_withTexts_40 rfl ?_
      refine rb_get hK fC_20 mb_oC rfl dC_withTexts_41 ?_
      refine ro_iload_n hK dC_withTexts_44 rfl ?_
      obtain ⟨i_9, h⟩ := mb_ix_e h
      refine rb_texts hK i_9 dC_withTexts_45 ?_
      refine ro_iload hK dC_withTexts_46 rfl ?_
      obtain ⟨x_10, e_11, i_12, h⟩ := mb_rd_e h
      refine rb_bald hK (mb_tb (mb_tx i_9)) i_12 e_11 dC_withTexts_48 ?_
      refine ro_i2l hK dC_withTexts_49 ?_
      refine ro_ladd hK dC_withTexts_50 ?_
      refine ro_lstore_n hK dC_withTexts_51 (by decide) ?_
      show K 0 0 52 [.ref 0, .long ((31 * w1) + (Int32.toInt64 x_10)), .retAddr 0, .int y3, .int w4] [] (mb_s s)
      refine ro_iincv (c := 1) hK (by decide) dC_withTexts_52 rfl (by decide) ?_
      show K 0 0 55 [.ref 0, .long ((31 * w1) + (Int32.toInt64 x_10)), .retAddr 0, .int y3, .int (w4 + 1)] [] (mb_s s)
      refine ro_goto (tgt := 24) hK dC_withTexts_55 (by decide) ?_
      refine ro_fg (lv' := [.ref 0, .long ((31 * w1) + (Int32.toInt64 x_10)), .retAddr 0, .int y3, .int (w4 + 1)]) hK ⟨Or.inr rfl, ⟨Or.inr rfl, ⟨Or.inl rfl, ⟨Or.inr rfl, ⟨Or.inr rfl, trivial⟩⟩⟩⟩⟩ ?_
      exact ih _ _ _ h
set_option maxHeartbeats 4000000 in
set_option maxRecDepth 100000 in
theorem tl_C_withTexts_2 {dd n : Nat} {K : mj_KT} {out : Int64 × mb_T} (hK : mj_C (dd + 1) 0 0 RC_c "withTexts" bC_withTexts 5 K) (hR : mj_R bC_withTexts (some .long) (fun r2 S2 => r2 = some (.long out.1) ∧ S2 = mb_s out.2) K) {k0 : Int64 → Int32 → mb_T → Option (Int64 × mb_T)}  (hk0 : ∀ (w1 : Int64) (w3 : Int32) (s : mb_T), k0 w1 w3 s = some out → K 0 0 64 [.ref 0, .long w1, .retAddr 0, .int w3, .retAddr 0] [] (mb_s s)) : ∀ (f : Nat) (w1 : Int64) (w3 : Int32) (s : mb_T), f_C_withTexts_2 n k0 f w1 w3 s = some out → K 0 0 2 [.ref 0, .long w1, .retAddr 0, .int w3, .retAddr 0] [] (mb_s s) := by
  intro f
  induction f with
  | zero =>
    intro w1 w3 s h
    cases h
  | succ f ih =>
    intro w1 w3 s h
    rw [f_C_withTexts_2] at h
    refine ro_iload_n hK dC_withTexts_2 rfl ?_
    refine ro_iconst (x := 4) hK (by decide) dC_withTexts_3 ?_
    refine ro_icmp_ge (tgt := 64) hK dC_withTexts_4 (by decide) (fun c_1 => ?_) (fun c_1 => ?_)
    · replace h := mb_ift c_1 h
      refine ro_fg (lv' := [.ref 0, .long w1, .retAddr 0, .int w3, .retAddr 0]) hK ⟨Or.inr rfl, ⟨Or.inr rfl, ⟨Or.inl rfl, ⟨Or.inr rfl, ⟨Or.inl rfl, trivial⟩⟩⟩⟩⟩ ?_
      exact hk0 _ _ _ h
    · replace h := mb_iff c_1 h
      refine ro_ldc2 hK cC_326 dC_withTexts_7 ?_
      refine ro_lload_n hK dC_withTexts_10 rfl ?_
      refine ro_lmul hK dC_withTexts_11 ?_
      refine ro_aload_n hK dC_withTexts_12 rfl ?_
      refine rb_get hK fC_23 mb_oC rfl dC_withTexts_13 ?_
      refine ro_iload_n hK dC_withTexts_16 rfl ?_
      obtain ⟨x_2, e_3, i_4, h⟩ := mb_rd_e h
      refine rb_iald hK ai_3 i_4 e_3 dC_withTexts_17 ?_
      refine ro_i2l hK dC_withTexts_18 ?_
      refine ro_ladd hK dC_withTexts_19 ?_
      refine ro_lstore_n hK dC_withTexts_20 (by decide) ?_
      show K 0 0 21 [.ref 0, .long ((31 * w1) + (Int32.toInt64 x_2)), .retAddr 0, .int w3, .retAddr 0] [] (mb_s s)
      refine ro_iconst (x := 0) hK (by decide) dC_withTexts_21 ?_
      refine ro_istore hK dC_withTexts_22 (by decide) ?_
      show K 0 0 24 [.ref 0, .long ((31 * w1) + (Int32.toInt64 x_2)), .retAddr 0, .int w3, .int 0] [] (mb_s s)
      refine ro_fg (lv' := [.ref 0, .long ((31 * w1) + (Int32.toInt64 x_2)), .retAddr 0, .int w3, .int 0]) hK ⟨Or.inr rfl, ⟨Or.inr rfl, ⟨Or.inl rfl, ⟨Or.inr rfl, ⟨Or.inr rfl, trivial⟩⟩⟩⟩⟩ ?_
      refine tl_C_withTexts_24 (dd := dd) hK hR (fun x_13 x_14 s_15 h => ?_) n _ _ _ h
      refine ro_iincv (c := 1) hK (by decide) dC_withTexts_58 rfl (by decide) ?_
      show K 0 0 61 [.ref 0, .long x_13, .retAddr 0, .int (w3 + 1), .int x_14] [] (mb_s s_15)
      refine ro_goto (tgt := 2) hK dC_withTexts_61 (by decide) ?_
      refine ro_fg (lv' := [.ref 0, .long x_13, .retAddr 0, .int (w3 + 1), .retAddr 0]) hK ⟨Or.inr rfl, ⟨Or.inr rfl, ⟨Or.inl rfl, ⟨Or.inr rfl, ⟨Or.inl rfl, trivial⟩⟩⟩⟩⟩ ?_
      exact ih _ _ _ h
set_option maxHeartbeats 4000000 in
set_option maxRecDepth 100000 in
theorem t_C_withTexts {dd n : Nat} {x1 : Int64} {s : mb_T} {out : Int64 × mb_T}  (h : f_C_withTexts n x1 s = some out) : mb_MC (dd + 1) yC_withTexts bC_withTexts 5 (some .long) [.ref 0, .long x1] s (some (.long out.1)) out.2 := by
  unfold f_C_withTexts at h
  refine mj_mc (lv := [.ref 0, .long x1, .retAddr 0, .retAddr 0, .retAddr 0]) mC_withTexts rfl rfl (Nat.le_of_ble_eq_true rfl) (fun K hK hR => ?_)
  have hK : mj_C (dd + 1) 0 0 RC_c "withTexts" bC_withTexts 5 K := hK
  refine ro_iconst (x := 0) hK (by decide) dC_withTexts_0 ?_
  refine ro_istore_n hK dC_withTexts_1 (by decide) ?_
  show K 0 0 2 [.ref 0, .long x1, .retAddr 0, .int 0, .retAddr 0] [] (mb_s s)
  refine ro_fg (lv' := [.ref 0, .long x1, .retAddr 0, .int 0, .retAddr 0]) hK ⟨Or.inr rfl, ⟨Or.inr rfl, ⟨Or.inl rfl, ⟨Or.inr rfl, ⟨Or.inl rfl, trivial⟩⟩⟩⟩⟩ ?_
  refine tl_C_withTexts_2 (dd := dd) hK hR (fun x_16 x_17 s_18 h => ?_) n _ _ _ h
  refine ro_lload_n hK dC_withTexts_64 rfl ?_
  cases h
  exact hR.2.1 0 0 65 _ _ _ rfl dC_withTexts_65 ⟨rfl, rfl⟩
theorem dA_bitsOfAll_0 : decode bA_bitsOfAll 0 = .ok (.iconst 1, 1) := by decide +kernel
theorem dA_bitsOfAll_1 : decode bA_bitsOfAll 1 = .ok (.aload_n 0, 1) := by decide +kernel
theorem dA_bitsOfAll_2 : decode bA_bitsOfAll 2 = .ok (.getfield 48, 3) := by decide +kernel
theorem dA_bitsOfAll_5 : decode bA_bitsOfAll 5 = .ok (.ishl, 1) := by decide +kernel
theorem dA_bitsOfAll_6 : decode bA_bitsOfAll 6 = .ok (.iconst 1, 1) := by decide +kernel
theorem dA_bitsOfAll_7 : decode bA_bitsOfAll 7 = .ok (.isub, 1) := by decide +kernel
theorem dA_bitsOfAll_8 : decode bA_bitsOfAll 8 = .ok (.ireturn, 1) := by decide +kernel
def f_A_bitsOfAll (n : Nat)  (s : mb_T) : Option (Int32 × mb_T) := some (((1 <<< ((s.1 40 0) &&& 31)) - 1), s)
set_option maxHeartbeats 4000000 in
set_option maxRecDepth 100000 in
theorem t_A_bitsOfAll {dd n : Nat}  {s : mb_T} {out : Int32 × mb_T}  (h : f_A_bitsOfAll n  s = some out) : mb_MC (dd + 1) yA_bitsOfAll bA_bitsOfAll 1 (some .int) [.ref 40] s (some (.int out.1)) out.2 := by
  unfold f_A_bitsOfAll at h
  refine mj_mc (lv := [.ref 40]) mA_bitsOfAll rfl rfl (Nat.le_of_ble_eq_true rfl) (fun K hK hR => ?_)
  have hK : mj_C (dd + 1) 0 0 RA_c "bitsOfAll" bA_bitsOfAll 1 K := hK
  refine ro_iconst (x := 1) hK (by decide) dA_bitsOfAll_0 ?_
  refine ro_aload_n hK dA_bitsOfAll_1 rfl ?_
  refine rb_get hK fA_48 mb_oA rfl dA_bitsOfAll_2 ?_
  refine ro_ishl hK dA_bitsOfAll_5 ?_
  refine ro_iconst (x := 1) hK (by decide) dA_bitsOfAll_6 ?_
  refine ro_isub hK dA_bitsOfAll_7 ?_
  cases h
  exact hR.1 0 0 8 _ _ _ _ rfl rfl dA_bitsOfAll_8 ⟨rfl, rfl⟩
theorem dA_fearTogether_0 : decode bA_fearTogether 0 = .ok (.iconst 0, 1) := by decide +kernel
theorem dA_fearTogether_1 : decode bA_fearTogether 1 = .ok (.istore_n 1, 1) := by decide +kernel
theorem dA_fearTogether_2 : decode bA_fearTogether 2 = .ok (.iconst 0, 1) := by decide +kernel
theorem dA_fearTogether_3 : decode bA_fearTogether 3 = .ok (.istore_n 2, 1) := by decide +kernel
theorem dA_fearTogether_4 : decode bA_fearTogether 4 = .ok (.iload_n 2, 1) := by decide +kernel
theorem dA_fearTogether_5 : decode bA_fearTogether 5 = .ok (.aload_n 0, 1) := by decide +kernel
theorem dA_fearTogether_6 : decode bA_fearTogether 6 = .ok (.getfield 48, 3) := by decide +kernel
theorem dA_fearTogether_9 : decode bA_fearTogether 9 = .ok (.if_icmp .ge 18, 3) := by decide +kernel
theorem dA_fearTogether_12 : decode bA_fearTogether 12 = .ok (.iload_n 1, 1) := by decide +kernel
theorem dA_fearTogether_13 : decode bA_fearTogether 13 = .ok (.aload_n 0, 1) := by decide +kernel
theorem dA_fearTogether_14 : decode bA_fearTogether 14 = .ok (.getfield 15, 3) := by decide +kernel
theorem dA_fearTogether_17 : decode bA_fearTogether 17 = .ok (.iload_n 2, 1) := by decide +kernel
theorem dA_fearTogether_18 : decode bA_fearTogether 18 = .ok (.iaload, 1) := by decide +kernel
theorem dA_fearTogether_19 : decode bA_fearTogether 19 = .ok (.iadd, 1) := by decide +kernel
theorem dA_fearTogether_20 : decode bA_fearTogether 20 = .ok (.istore_n 1, 1) := by decide +kernel
theorem dA_fearTogether_21 : decode bA_fearTogether 21 = .ok (.iinc 2 1, 3) := by decide +kernel
theorem dA_fearTogether_24 : decode bA_fearTogether 24 = .ok (.goto (-20), 3) := by decide +kernel
theorem dA_fearTogether_27 : decode bA_fearTogether 27 = .ok (.iload_n 1, 1) := by decide +kernel
theorem dA_fearTogether_28 : decode bA_fearTogether 28 = .ok (.ireturn, 1) := by decide +kernel
def f_A_fearTogether_4 (n : Nat) (k0 : Int32 → Int32 → mb_T → Option (Int32 × mb_T))  : Nat → Int32 → Int32 → mb_T → Option (Int32 × mb_T)
  | 0, _, _, _ => none
  | f + 1, w1, w2, s => if (s.1 40 0) ≤ w2 then k0 w1 w2 s else mb_rd s 48 5 w2 fun x_2 => f_A_fearTogether_4 n k0 f (w1 + x_2) (w2 + 1) s
def f_A_fearTogether (n : Nat)  (s : mb_T) : Option (Int32 × mb_T) := f_A_fearTogether_4 n (fun x_5 x_6 s_7 => some (x_5, s_7)) n 0 0 s
set_option maxHeartbeats 4000000 in
set_option maxRecDepth 100000 in
theorem tl_A_fearTogether_4 {dd n : Nat} {K : mj_KT} {out : Int32 × mb_T} (hK : mj_C (dd + 1) 0 0 RA_c "fearTogether" bA_fearTogether 3 K) (hR : mj_R bA_fearTogether (some .int) (fun r2 S2 => r2 = some (.int out.1) ∧ S2 = mb_s out.2) K) {k0 : Int32 → Int32 → mb_T → Option (Int32 × mb_T)}  (hk0 : ∀ (w1 : Int32) (w2 : Int32) (s : mb_T), k0 w1 w2 s = some out → K 0 0 27 [.ref 40, .int w1, .int w2] [] (mb_s s)) : ∀ (f : Nat) (w1 : Int32) (w2 : Int32) (s : mb_T), f_A_fearTogether_4 n k0 f w1 w2 s = some out → K 0 0 4 [.ref 40, .int w1, .int w2] [] (mb_s s) := by
  intro f
  induction f with
  | zero =>
    intro w1 w2 s h
    cases h
  | succ f ih =>
    intro w1 w2 s h
    rw [f_A_fearTogether_4] at h
    refine ro_iload_n hK dA_fearTogether_4 rfl ?_
    refine ro_aload_n hK dA_fearTogether_5 rfl ?_
    refine rb_get hK fA_48 mb_oA rfl dA_fearTogether_6 ?_
    refine ro_icmp_ge (tgt := 27) hK dA_fearTogether_9 (by decide) (fun c_1 => ?_) (fun c_1 => ?_)
    · replace h := mb_ift c_1 h
      refine ro_fg (lv' := [.ref 40, .int w1, .int w2]) hK ⟨Or.inr rfl, ⟨Or.inr rfl, ⟨Or.inr rfl, trivial⟩⟩⟩ ?_
      exact hk0 _ _ _ h
    · replace h := mb_iff c_1 h
      refine ro_iload_n hK dA_fearTogether_12 rfl ?_
      refine ro_aload_n hK dA_fearTogether_13 rfl ?_
      refine rb_get hK fA_15 mb_oA rfl dA_fearTogether_14 ?_
      refine ro_iload_n hK dA_fearTogether_17 rfl ?_
      obtain ⟨x_2, e_3, i_4, h⟩ := mb_rd_e h
      refine rb_iald hK ai_48 i_4 e_3 dA_fearTogether_18 ?_
      refine ro_iadd hK dA_fearTogether_19 ?_
      refine ro_istore_n hK dA_fearTogether_20 (by decide) ?_
      show K 0 0 21 [.ref 40, .int (w1 + x_2), .int w2] [] (mb_s s)
      refine ro_iincv (c := 1) hK (by decide) dA_fearTogether_21 rfl (by decide) ?_
      show K 0 0 24 [.ref 40, .int (w1 + x_2), .int (w2 + 1)] [] (mb_s s)
      refine ro_goto (tgt := 4) hK dA_fearTogether_24 (by decide) ?_
      refine ro_fg (lv' := [.ref 40, .int (w1 + x_2), .int (w2 + 1)]) hK ⟨Or.inr rfl, ⟨Or.inr rfl, ⟨Or.inr rfl, trivial⟩⟩⟩ ?_
      exact ih _ _ _ h
set_option maxHeartbeats 4000000 in
set_option maxRecDepth 100000 in
theorem t_A_fearTogether {dd n : Nat}  {s : mb_T} {out : Int32 × mb_T}  (h : f_A_fearTogether n  s = some out) : mb_MC (dd + 1) yA_fearTogether bA_fearTogether 3 (some .int) [.ref 40] s (some (.int out.1)) out.2 := by
  unfold f_A_fearTogether at h
  refine mj_mc (lv := [.ref 40, .retAddr 0, .retAddr 0]) mA_fearTogether rfl rfl (Nat.le_of_ble_eq_true rfl) (fun K hK hR => ?_)
  have hK : mj_C (dd + 1) 0 0 RA_c "fearTogether" bA_fearTogether 3 K := hK
  refine ro_iconst (x := 0) hK (by decide) dA_fearTogether_0 ?_
  refine ro_istore_n hK dA_fearTogether_1 (by decide) ?_
  show K 0 0 2 [.ref 40, .int 0, .retAddr 0] [] (mb_s s)
  refine ro_iconst (x := 0) hK (by decide) dA_fearTogether_2 ?_
  refine ro_istore_n hK dA_fearTogether_3 (by decide) ?_
  show K 0 0 4 [.ref 40, .int 0, .int 0] [] (mb_s s)
  refine ro_fg (lv' := [.ref 40, .int 0, .int 0]) hK ⟨Or.inr rfl, ⟨Or.inr rfl, ⟨Or.inr rfl, trivial⟩⟩⟩ ?_
  refine tl_A_fearTogether_4 (dd := dd) hK hR (fun x_5 x_6 s_7 h => ?_) n _ _ _ h
  refine ro_iload_n hK dA_fearTogether_27 rfl ?_
  cases h
  exact hR.1 0 0 28 _ _ _ _ rfl rfl dA_fearTogether_28 ⟨rfl, rfl⟩
theorem dA_isAsSaved_0 : decode bA_isAsSaved 0 = .ok (.iload_n 1, 1) := by decide +kernel
theorem dA_isAsSaved_1 : decode bA_isAsSaved 1 = .ok (.bipush 8, 2) := by decide +kernel
theorem dA_isAsSaved_3 : decode bA_isAsSaved 3 = .ok (.imul, 1) := by decide +kernel
theorem dA_isAsSaved_4 : decode bA_isAsSaved 4 = .ok (.istore_n 2, 1) := by decide +kernel
theorem dA_isAsSaved_5 : decode bA_isAsSaved 5 = .ok (.iload_n 2, 1) := by decide +kernel
theorem dA_isAsSaved_6 : decode bA_isAsSaved 6 = .ok (.ifCond .lt 31, 3) := by decide +kernel
theorem dA_isAsSaved_9 : decode bA_isAsSaved 9 = .ok (.iload_n 2, 1) := by decide +kernel
theorem dA_isAsSaved_10 : decode bA_isAsSaved 10 = .ok (.aload_n 0, 1) := by decide +kernel
theorem dA_isAsSaved_11 : decode bA_isAsSaved 11 = .ok (.getfield 39, 3) := by decide +kernel
theorem dA_isAsSaved_14 : decode bA_isAsSaved 14 = .ok (.arraylength, 1) := by decide +kernel
theorem dA_isAsSaved_15 : decode bA_isAsSaved 15 = .ok (.bipush 8, 2) := by decide +kernel
theorem dA_isAsSaved_17 : decode bA_isAsSaved 17 = .ok (.isub, 1) := by decide +kernel
theorem dA_isAsSaved_18 : decode bA_isAsSaved 18 = .ok (.if_icmp .gt 19, 3) := by decide +kernel
theorem dA_isAsSaved_21 : decode bA_isAsSaved 21 = .ok (.aload_n 0, 1) := by decide +kernel
theorem dA_isAsSaved_22 : decode bA_isAsSaved 22 = .ok (.getfield 39, 3) := by decide +kernel
theorem dA_isAsSaved_25 : decode bA_isAsSaved 25 = .ok (.iload_n 2, 1) := by decide +kernel
theorem dA_isAsSaved_26 : decode bA_isAsSaved 26 = .ok (.bipush 7, 2) := by decide +kernel
theorem dA_isAsSaved_28 : decode bA_isAsSaved 28 = .ok (.iadd, 1) := by decide +kernel
theorem dA_isAsSaved_29 : decode bA_isAsSaved 29 = .ok (.iaload, 1) := by decide +kernel
theorem dA_isAsSaved_30 : decode bA_isAsSaved 30 = .ok (.aload_n 0, 1) := by decide +kernel
theorem dA_isAsSaved_31 : decode bA_isAsSaved 31 = .ok (.getfield 69, 3) := by decide +kernel
theorem dA_isAsSaved_34 : decode bA_isAsSaved 34 = .ok (.if_icmp .eq 5, 3) := by decide +kernel
theorem dA_isAsSaved_37 : decode bA_isAsSaved 37 = .ok (.iconst 0, 1) := by decide +kernel
theorem dA_isAsSaved_38 : decode bA_isAsSaved 38 = .ok (.ireturn, 1) := by decide +kernel
theorem dA_isAsSaved_39 : decode bA_isAsSaved 39 = .ok (.iconst 0, 1) := by decide +kernel
theorem dA_isAsSaved_40 : decode bA_isAsSaved 40 = .ok (.istore_n 3, 1) := by decide +kernel
theorem dA_isAsSaved_41 : decode bA_isAsSaved 41 = .ok (.iload_n 3, 1) := by decide +kernel
theorem dA_isAsSaved_42 : decode bA_isAsSaved 42 = .ok (.aload_n 0, 1) := by decide +kernel
theorem dA_isAsSaved_43 : decode bA_isAsSaved 43 = .ok (.getfield 48, 3) := by decide +kernel
theorem dA_isAsSaved_46 : decode bA_isAsSaved 46 = .ok (.if_icmp .ge 28, 3) := by decide +kernel
theorem dA_isAsSaved_49 : decode bA_isAsSaved 49 = .ok (.aload_n 0, 1) := by decide +kernel
theorem dA_isAsSaved_50 : decode bA_isAsSaved 50 = .ok (.getfield 39, 3) := by decide +kernel
theorem dA_isAsSaved_53 : decode bA_isAsSaved 53 = .ok (.iload_n 2, 1) := by decide +kernel
theorem dA_isAsSaved_54 : decode bA_isAsSaved 54 = .ok (.iload_n 3, 1) := by decide +kernel
theorem dA_isAsSaved_55 : decode bA_isAsSaved 55 = .ok (.iadd, 1) := by decide +kernel
theorem dA_isAsSaved_56 : decode bA_isAsSaved 56 = .ok (.iaload, 1) := by decide +kernel
theorem dA_isAsSaved_57 : decode bA_isAsSaved 57 = .ok (.aload_n 0, 1) := by decide +kernel
theorem dA_isAsSaved_58 : decode bA_isAsSaved 58 = .ok (.getfield 15, 3) := by decide +kernel
theorem dA_isAsSaved_61 : decode bA_isAsSaved 61 = .ok (.iload_n 3, 1) := by decide +kernel
theorem dA_isAsSaved_62 : decode bA_isAsSaved 62 = .ok (.iaload, 1) := by decide +kernel
theorem dA_isAsSaved_63 : decode bA_isAsSaved 63 = .ok (.if_icmp .eq 5, 3) := by decide +kernel
theorem dA_isAsSaved_66 : decode bA_isAsSaved 66 = .ok (.iconst 0, 1) := by decide +kernel
theorem dA_isAsSaved_67 : decode bA_isAsSaved 67 = .ok (.ireturn, 1) := by decide +kernel
theorem dA_isAsSaved_68 : decode bA_isAsSaved 68 = .ok (.iinc 3 1, 3) := by decide +kernel
theorem dA_isAsSaved_71 : decode bA_isAsSaved 71 = .ok (.goto (-30), 3) := by decide +kernel
theorem dA_isAsSaved_74 : decode bA_isAsSaved 74 = .ok (.iconst 1, 1) := by decide +kernel
theorem dA_isAsSaved_75 : decode bA_isAsSaved 75 = .ok (.ireturn, 1) := by decide +kernel
def f_A_isAsSaved_41 (n : Nat) (k0 : Int32 → mb_T → Option (Int32 × mb_T)) (k1 : Int32 → mb_T → Option (Int32 × mb_T)) (y2 : Int32) : Nat → Int32 → mb_T → Option (Int32 × mb_T)
  | 0, _, _ => none
  | f + 1, w3, s => if (s.1 40 0) ≤ w3 then k1 w3 s else mb_rd s 56 48 (y2 + w3) fun x_8 => mb_rd s 48 5 w3 fun x_11 => if x_8 = x_11 then f_A_isAsSaved_41 n k0 k1 y2 f (w3 + 1) s else k0 w3 s
def f_A_isAsSaved (n : Nat) (x1 : Int32) (s : mb_T) : Option (Int32 × mb_T) := if (x1 * 8) < 0 then some (0, s) else if ((Int32.ofNat 48) - 8) < (x1 * 8) then some (0, s) else mb_rd s 56 48 ((x1 * 8) + 7) fun x_3 => if x_3 = (s.1 40 5) then f_A_isAsSaved_41 n (fun x_15 s_16 => some (0, s_16)) (fun x_17 s_18 => some (1, s_18)) (x1 * 8) n 0 s else some (0, s)
set_option maxHeartbeats 4000000 in
set_option maxRecDepth 100000 in
theorem tl_A_isAsSaved_41 {dd n : Nat} {K : mj_KT} {out : Int32 × mb_T} (hK : mj_C (dd + 1) 0 0 RA_c "isAsSaved" bA_isAsSaved 4 K) (hR : mj_R bA_isAsSaved (some .boolean) (fun r2 S2 => r2 = some (.int out.1) ∧ S2 = mb_s out.2) K) {k0 : Int32 → mb_T → Option (Int32 × mb_T)} {k1 : Int32 → mb_T → Option (Int32 × mb_T)} {y2 : Int32} (hk0 : ∀ (w3 : Int32) (s : mb_T), k0 w3 s = some out → K 0 0 66 [.ref 40, .retAddr 0, .int y2, .int w3] [] (mb_s s)) (hk1 : ∀ (w3 : Int32) (s : mb_T), k1 w3 s = some out → K 0 0 74 [.ref 40, .retAddr 0, .int y2, .int w3] [] (mb_s s)) : ∀ (f : Nat) (w3 : Int32) (s : mb_T), f_A_isAsSaved_41 n k0 k1 y2 f w3 s = some out → K 0 0 41 [.ref 40, .retAddr 0, .int y2, .int w3] [] (mb_s s) := by
  intro f
  induction f with
  | zero =>
    intro w3 s h
    cases h
  | succ f ih =>
    intro w3 s h
    rw [f_A_isAsSaved_41] at h
    refine ro_iload_n hK dA_isAsSaved_41 rfl ?_
    refine ro_aload_n hK dA_isAsSaved_42 rfl ?_
    refine rb_get hK fA_48 mb_oA rfl dA_isAsSaved_43 ?_
    refine ro_icmp_ge (tgt := 74) hK dA_isAsSaved_46 (by decide) (fun c_7 => ?_) (fun c_7 => ?_)
    · replace h := mb_ift c_7 h
      refine ro_fg (lv' := [.ref 40, .retAddr 0, .int y2, .int w3]) hK ⟨Or.inr rfl, ⟨Or.inl rfl, ⟨Or.inr rfl, ⟨Or.inr rfl, trivial⟩⟩⟩⟩ ?_
      exact hk1 _ _ h
    · replace h := mb_iff c_7 h
      refine ro_aload_n hK dA_isAsSaved_49 rfl ?_
      refine rb_get hK fA_39 mb_oA rfl dA_isAsSaved_50 ?_
      refine ro_iload_n hK dA_isAsSaved_53 rfl ?_
      refine ro_iload_n hK dA_isAsSaved_54 rfl ?_
      refine ro_iadd hK dA_isAsSaved_55 ?_
      obtain ⟨x_8, e_9, i_10, h⟩ := mb_rd_e h
      refine rb_iald hK ai_56 i_10 e_9 dA_isAsSaved_56 ?_
      refine ro_aload_n hK dA_isAsSaved_57 rfl ?_
      refine rb_get hK fA_15 mb_oA rfl dA_isAsSaved_58 ?_
      refine ro_iload_n hK dA_isAsSaved_61 rfl ?_
      obtain ⟨x_11, e_12, i_13, h⟩ := mb_rd_e h
      refine rb_iald hK ai_48 i_13 e_12 dA_isAsSaved_62 ?_
      refine ro_icmp_eq (tgt := 68) hK dA_isAsSaved_63 (by decide) (fun c_14 => ?_) (fun c_14 => ?_)
      · replace h := mb_ift c_14 h
        refine ro_iincv (c := 1) hK (by decide) dA_isAsSaved_68 rfl (by decide) ?_
        show K 0 0 71 [.ref 40, .retAddr 0, .int y2, .int (w3 + 1)] [] (mb_s s)
        refine ro_goto (tgt := 41) hK dA_isAsSaved_71 (by decide) ?_
        refine ro_fg (lv' := [.ref 40, .retAddr 0, .int y2, .int (w3 + 1)]) hK ⟨Or.inr rfl, ⟨Or.inl rfl, ⟨Or.inr rfl, ⟨Or.inr rfl, trivial⟩⟩⟩⟩ ?_
        exact ih _ _ h
      · replace h := mb_iff c_14 h
        refine ro_fg (lv' := [.ref 40, .retAddr 0, .int y2, .int w3]) hK ⟨Or.inr rfl, ⟨Or.inl rfl, ⟨Or.inr rfl, ⟨Or.inr rfl, trivial⟩⟩⟩⟩ ?_
        exact hk0 _ _ h
set_option maxHeartbeats 4000000 in
set_option maxRecDepth 100000 in
theorem t_A_isAsSaved {dd n : Nat} {x1 : Int32} {s : mb_T} {out : Int32 × mb_T}  (h : f_A_isAsSaved n x1 s = some out) : mb_MC (dd + 1) yA_isAsSaved bA_isAsSaved 4 (some .boolean) [.ref 40, .int x1] s (some (.int out.1)) out.2 := by
  unfold f_A_isAsSaved at h
  refine mj_mc (lv := [.ref 40, .int x1, .retAddr 0, .retAddr 0]) mA_isAsSaved rfl rfl (Nat.le_of_ble_eq_true rfl) (fun K hK hR => ?_)
  have hK : mj_C (dd + 1) 0 0 RA_c "isAsSaved" bA_isAsSaved 4 K := hK
  refine ro_iload_n hK dA_isAsSaved_0 rfl ?_
  refine ro_bipush (x := 8) hK (by decide) dA_isAsSaved_1 ?_
  refine ro_imul hK dA_isAsSaved_3 ?_
  refine ro_istore_n hK dA_isAsSaved_4 (by decide) ?_
  show K 0 0 5 [.ref 40, .int x1, .int (x1 * 8), .retAddr 0] [] (mb_s s)
  refine ro_iload_n hK dA_isAsSaved_5 rfl ?_
  refine ro_if_lt (tgt := 37) hK dA_isAsSaved_6 (by decide) (fun c_1 => ?_) (fun c_1 => ?_)
  · replace h := mb_ift c_1 h
    refine ro_iconst (x := 0) hK (by decide) dA_isAsSaved_37 ?_
    cases h
    exact hR.1 0 0 38 _ _ _ _ rfl rfl dA_isAsSaved_38 ⟨rfl, rfl⟩
  · replace h := mb_iff c_1 h
    refine ro_iload_n hK dA_isAsSaved_9 rfl ?_
    refine ro_aload_n hK dA_isAsSaved_10 rfl ?_
    refine rb_get hK fA_39 mb_oA rfl dA_isAsSaved_11 ?_
    refine rb_alenI hK ai_56 dA_isAsSaved_14 ?_
    refine ro_bipush (x := 8) hK (by decide) dA_isAsSaved_15 ?_
    refine ro_isub hK dA_isAsSaved_17 ?_
    refine ro_icmp_gt (tgt := 37) hK dA_isAsSaved_18 (by decide) (fun c_2 => ?_) (fun c_2 => ?_)
    · replace h := mb_ift c_2 h
      refine ro_iconst (x := 0) hK (by decide) dA_isAsSaved_37 ?_
      cases h
      exact hR.1 0 0 38 _ _ _ _ rfl rfl dA_isAsSaved_38 ⟨rfl, rfl⟩
    · replace h := mb_iff c_2 h
      refine ro_aload_n hK dA_isAsSaved_21 rfl ?_
      refine rb_get hK fA_39 mb_oA rfl dA_isAsSaved_22 ?_
      refine ro_iload_n hK dA_isAsSaved_25 rfl ?_
      refine ro_bipush (x := 7) hK (by decide) dA_isAsSaved_26 ?_
      refine ro_iadd hK dA_isAsSaved_28 ?_
      obtain ⟨x_3, e_4, i_5, h⟩ := mb_rd_e h
      refine rb_iald hK ai_56 i_5 e_4 dA_isAsSaved_29 ?_
      refine ro_aload_n hK dA_isAsSaved_30 rfl ?_
      refine rb_get hK fA_69 mb_oA rfl dA_isAsSaved_31 ?_
      refine ro_icmp_eq (tgt := 39) hK dA_isAsSaved_34 (by decide) (fun c_6 => ?_) (fun c_6 => ?_)
      · replace h := mb_ift c_6 h
        refine ro_iconst (x := 0) hK (by decide) dA_isAsSaved_39 ?_
        refine ro_istore_n hK dA_isAsSaved_40 (by decide) ?_
        show K 0 0 41 [.ref 40, .int x1, .int (x1 * 8), .int 0] [] (mb_s s)
        refine ro_fg (lv' := [.ref 40, .retAddr 0, .int (x1 * 8), .int 0]) hK ⟨Or.inr rfl, ⟨Or.inl rfl, ⟨Or.inr rfl, ⟨Or.inr rfl, trivial⟩⟩⟩⟩ ?_
        refine tl_A_isAsSaved_41 (dd := dd) hK hR (fun x_15 s_16 h => ?_) (fun x_17 s_18 h => ?_) n _ _ h
        · skip
          refine ro_iconst (x := 0) hK (by decide) dA_isAsSaved_66 ?_
          cases h
          exact hR.1 0 0 67 _ _ _ _ rfl rfl dA_isAsSaved_67 ⟨rfl, rfl⟩
        · skip
          refine ro_iconst (x := 1) hK (by decide) dA_isAsSaved_74 ?_
          cases h
          exact hR.1 0 0 75 _ _ _ _ rfl rfl dA_isAsSaved_75 ⟨rfl, rfl⟩
      · replace h := mb_iff c_6 h
        refine ro_iconst (x := 0) hK (by decide) dA_isAsSaved_37 ?_
        cases h
        exact hR.1 0 0 38 _ _ _ _ rfl rfl dA_isAsSaved_38 ⟨rfl, rfl⟩
theorem dA_isHere_0 : decode bA_isHere 0 = .ok (.iload_n 1, 1) := by decide +kernel
theorem dA_isHere_1 : decode bA_isHere 1 = .ok (.ifCond .lt 15, 3) := by decide +kernel
theorem dA_isHere_4 : decode bA_isHere 4 = .ok (.iload_n 1, 1) := by decide +kernel
theorem dA_isHere_5 : decode bA_isHere 5 = .ok (.aload_n 0, 1) := by decide +kernel
theorem dA_isHere_6 : decode bA_isHere 6 = .ok (.getfield 48, 3) := by decide +kernel
theorem dA_isHere_9 : decode bA_isHere 9 = .ok (.if_icmp .ge 7, 3) := by decide +kernel
theorem dA_isHere_12 : decode bA_isHere 12 = .ok (.iconst 1, 1) := by decide +kernel
theorem dA_isHere_13 : decode bA_isHere 13 = .ok (.goto 4, 3) := by decide +kernel
theorem dA_isHere_16 : decode bA_isHere 16 = .ok (.iconst 0, 1) := by decide +kernel
theorem dA_isHere_17 : decode bA_isHere 17 = .ok (.ireturn, 1) := by decide +kernel
def f_A_isHere (n : Nat) (x1 : Int32) (s : mb_T) : Option (Int32 × mb_T) := mb_bz (if x1 < 0 then 0 else (if (s.1 40 0) ≤ x1 then 0 else 1 : Int32) : Int32) (some ((if x1 < 0 then 0 else (if (s.1 40 0) ≤ x1 then 0 else 1 : Int32) : Int32), s))
set_option maxHeartbeats 4000000 in
set_option maxRecDepth 100000 in
theorem t_A_isHere {dd n : Nat} {x1 : Int32} {s : mb_T} {out : Int32 × mb_T}  (h : f_A_isHere n x1 s = some out) : mb_MC (dd + 1) yA_isHere bA_isHere 2 (some .boolean) [.ref 40, .int x1] s (some (.int out.1)) out.2 := by
  unfold f_A_isHere at h
  refine mj_mc (lv := [.ref 40, .int x1]) mA_isHere rfl rfl (Nat.le_of_ble_eq_true rfl) (fun K hK hR => ?_)
  have hK : mj_C (dd + 1) 0 0 RA_c "isHere" bA_isHere 2 K := hK
  refine ro_iload_n hK dA_isHere_0 rfl ?_
  have j_3 : ∀ w_ : Int32, w_ = (if x1 < 0 then 0 else (if (s.1 40 0) ≤ x1 then 0 else 1 : Int32) : Int32) → K 0 0 17 [.ref 40, .int x1] [.int w_] (mb_s s) → K 0 0 1 [.ref 40, .int x1] [.int x1] (mb_s s) := by
    intro w_ hw hj
    refine ro_if_lt (tgt := 16) hK dA_isHere_1 (by decide) (fun c_1 => ?_) (fun c_1 => ?_)
    · skip
      refine ro_iconst (x := 0) hK (by decide) dA_isHere_16 ?_
      have hw := (hw.trans (if_pos c_1))
      subst hw
      exact hj
    · skip
      refine ro_iload_n hK dA_isHere_4 rfl ?_
      refine ro_aload_n hK dA_isHere_5 rfl ?_
      refine rb_get hK fA_48 mb_oA rfl dA_isHere_6 ?_
      refine ro_icmp_ge (tgt := 16) hK dA_isHere_9 (by decide) (fun c_2 => ?_) (fun c_2 => ?_)
      · skip
        refine ro_iconst (x := 0) hK (by decide) dA_isHere_16 ?_
        have hw := ((hw.trans (if_neg c_1)).trans (if_pos c_2))
        subst hw
        exact hj
      · skip
        refine ro_iconst (x := 1) hK (by decide) dA_isHere_12 ?_
        refine ro_goto (tgt := 17) hK dA_isHere_13 (by decide) ?_
        have hw := ((hw.trans (if_neg c_1)).trans (if_neg c_2))
        subst hw
        exact hj
  refine j_3 _ rfl ?_
  obtain ⟨z_4, h⟩ := mb_bz_e h
  cases h
  exact hR.1 0 0 17 _ _ _ _ rfl (mb_nz z_4) dA_isHere_17 ⟨rfl, rfl⟩
