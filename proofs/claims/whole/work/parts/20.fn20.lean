theorem dC_found_0 : decode bC_found 0 = .ok (.iload_n 1, 1) := by decide +kernel
theorem dC_found_1 : decode bC_found 1 = .ok (.iconst 1, 1) := by decide +kernel
theorem dC_found_2 : decode bC_found 2 = .ok (.if_icmp .lt 23, 3) := by decide +kernel
theorem dC_found_5 : decode bC_found 5 = .ok (.iload_n 1, 1) := by decide +kernel
theorem dC_found_6 : decode bC_found 6 = .ok (.iconst 5, 1) := by decide +kernel
theorem dC_found_7 : decode bC_found 7 = .ok (.if_icmp .gt 18, 3) := by decide +kernel
theorem dC_found_10 : decode bC_found 10 = .ok (.aload_n 0, 1) := by decide +kernel
theorem dC_found_11 : decode bC_found 11 = .ok (.iload_n 1, 1) := by decide +kernel
theorem dC_found_12 : decode bC_found 12 = .ok (.putfield 70, 3) := by decide +kernel
theorem dC_found_15 : decode bC_found 15 = .ok (.aload_n 0, 1) := by decide +kernel
theorem dC_found_16 : decode bC_found 16 = .ok (.getfield 67, 3) := by decide +kernel
theorem dC_found_19 : decode bC_found 19 = .ok (.iload_n 1, 1) := by decide +kernel
theorem dC_found_20 : decode bC_found 20 = .ok (.dup2, 1) := by decide +kernel
theorem dC_found_21 : decode bC_found 21 = .ok (.iaload, 1) := by decide +kernel
theorem dC_found_22 : decode bC_found 22 = .ok (.iconst 1, 1) := by decide +kernel
theorem dC_found_23 : decode bC_found 23 = .ok (.iadd, 1) := by decide +kernel
theorem dC_found_24 : decode bC_found 24 = .ok (.iastore, 1) := by decide +kernel
theorem dC_found_25 : decode bC_found 25 = .ok (.bipush (-3), 2) := by decide +kernel
theorem dC_found_27 : decode bC_found 27 = .ok (.ireturn, 1) := by decide +kernel
def f_C_found (n : Nat) (x1 : Int32) (s : mb_T) : Option (Int32 × mb_T) := if x1 < 1 then some ((-3), s) else if 5 < x1 then some ((-3), s) else mb_bd (sF s 0 13 x1) fun s3 => mb_rd s3 12 6 x1 fun x5 => mb_wr s3 12 6 x1 (x5 + 1) fun s8 => some ((-3), s8)
set_option maxHeartbeats 4000000 in
set_option maxRecDepth 100000 in
theorem t_C_found {dd n : Nat} {x1 : Int32} {s : mb_T} {out : Int32 × mb_T}  (h : f_C_found n x1 s = some out) : mb_MC (dd + 1) yC_found bC_found 2 (some .int) [.ref 0, .int x1] s (some (.int out.1)) out.2 := by
  unfold f_C_found at h
  refine mj_mc (lv := [.ref 0, .int x1]) mC_found rfl rfl (Nat.le_of_ble_eq_true rfl) (fun K hK hR => ?_)
  have hK : mj_C (dd + 1) 0 0 RC_c "found" bC_found 2 K := hK
  refine ro_iload_n hK dC_found_0 rfl ?_
  refine ro_iconst (x := 1) hK (by decide) dC_found_1 ?_
  refine ro_icmp_lt (tgt := 25) hK dC_found_2 (by decide) (fun c1 => ?_) (fun c1 => ?_)
  · replace h := mb_ift c1 h
    refine ro_bipush (x := (-3)) hK (by decide) dC_found_25 ?_
    cases h
    exact hR.1 0 0 27 _ _ _ _ rfl rfl dC_found_27 ⟨rfl, rfl⟩
  · replace h := mb_iff c1 h
    refine ro_iload_n hK dC_found_5 rfl ?_
    refine ro_iconst (x := 5) hK (by decide) dC_found_6 ?_
    refine ro_icmp_gt (tgt := 25) hK dC_found_7 (by decide) (fun c2 => ?_) (fun c2 => ?_)
    · replace h := mb_ift c2 h
      refine ro_bipush (x := (-3)) hK (by decide) dC_found_25 ?_
      cases h
      exact hR.1 0 0 27 _ _ _ _ rfl rfl dC_found_27 ⟨rfl, rfl⟩
    · replace h := mb_iff c2 h
      refine ro_aload_n hK dC_found_10 rfl ?_
      refine ro_iload_n hK dC_found_11 rfl ?_
      obtain ⟨s3, e4, h⟩ := mb_bd_e h
      refine rb_put hK gC_70 mb_oC rfl (by show 13 < 15; decide) rfl rfl e4 dC_found_12 ?_
      refine ro_aload_n hK dC_found_15 rfl ?_
      refine rb_get hK fC_67 mb_oC rfl dC_found_16 ?_
      refine ro_iload_n hK dC_found_19 rfl ?_
      refine ro_dup2 hK dC_found_20 rfl rfl ?_
      obtain ⟨x5, e6, i7, h⟩ := mb_rd_e h
      refine rb_iald hK ai_12 i7 e6 dC_found_21 ?_
      refine ro_iconst (x := 1) hK (by decide) dC_found_22 ?_
      refine ro_iadd hK dC_found_23 ?_
      obtain ⟨s8, e9, i10, h⟩ := mb_wr_e h
      refine rb_iast hK ai_12 i10 e9 dC_found_24 ?_
      refine ro_bipush (x := (-3)) hK (by decide) dC_found_25 ?_
      cases h
      exact hR.1 0 0 27 _ _ _ _ rfl rfl dC_found_27 ⟨rfl, rfl⟩
theorem dC_isOfKind_0 : decode bC_isOfKind 0 = .ok (.iload_n 0, 1) := by decide +kernel
theorem dC_isOfKind_1 : decode bC_isOfKind 1 = .ok (.iload_n 1, 1) := by decide +kernel
theorem dC_isOfKind_2 : decode bC_isOfKind 2 = .ok (.if_icmp .eq 18, 3) := by decide +kernel
theorem dC_isOfKind_5 : decode bC_isOfKind 5 = .ok (.iload_n 1, 1) := by decide +kernel
theorem dC_isOfKind_6 : decode bC_isOfKind 6 = .ok (.iconst 1, 1) := by decide +kernel
theorem dC_isOfKind_7 : decode bC_isOfKind 7 = .ok (.if_icmp .ne 17, 3) := by decide +kernel
theorem dC_isOfKind_10 : decode bC_isOfKind 10 = .ok (.iload_n 0, 1) := by decide +kernel
theorem dC_isOfKind_11 : decode bC_isOfKind 11 = .ok (.iconst 4, 1) := by decide +kernel
theorem dC_isOfKind_12 : decode bC_isOfKind 12 = .ok (.if_icmp .eq 8, 3) := by decide +kernel
theorem dC_isOfKind_15 : decode bC_isOfKind 15 = .ok (.iload_n 0, 1) := by decide +kernel
theorem dC_isOfKind_16 : decode bC_isOfKind 16 = .ok (.iconst 5, 1) := by decide +kernel
theorem dC_isOfKind_17 : decode bC_isOfKind 17 = .ok (.if_icmp .ne 7, 3) := by decide +kernel
theorem dC_isOfKind_20 : decode bC_isOfKind 20 = .ok (.iconst 1, 1) := by decide +kernel
theorem dC_isOfKind_21 : decode bC_isOfKind 21 = .ok (.goto 4, 3) := by decide +kernel
theorem dC_isOfKind_24 : decode bC_isOfKind 24 = .ok (.iconst 0, 1) := by decide +kernel
theorem dC_isOfKind_25 : decode bC_isOfKind 25 = .ok (.ireturn, 1) := by decide +kernel
def f_C_isOfKind (n : Nat) (x1 : Int32) (x2 : Int32) (s : mb_T) : Option (Int32 × mb_T) := mb_bz (if x1 = x2 then 1 else (if x2 = 1 then (if x1 = 4 then 1 else (if x1 = 5 then 1 else 0 : Int32) : Int32) else 0 : Int32) : Int32) (some ((if x1 = x2 then 1 else (if x2 = 1 then (if x1 = 4 then 1 else (if x1 = 5 then 1 else 0 : Int32) : Int32) else 0 : Int32) : Int32), s))
set_option maxHeartbeats 4000000 in
set_option maxRecDepth 100000 in
theorem t_C_isOfKind {dd n : Nat} {x1 : Int32} {x2 : Int32} {s : mb_T} {out : Int32 × mb_T}  (h : f_C_isOfKind n x1 x2 s = some out) : mb_MC (dd + 1) yC_isOfKind bC_isOfKind 2 (some .boolean) [.int x1, .int x2] s (some (.int out.1)) out.2 := by
  unfold f_C_isOfKind at h
  refine mj_mc (lv := [.int x1, .int x2]) mC_isOfKind rfl rfl (Nat.le_of_ble_eq_true rfl) (fun K hK hR => ?_)
  have hK : mj_C (dd + 1) 0 0 RC_c "isOfKind" bC_isOfKind 2 K := hK
  refine ro_iload_n hK dC_isOfKind_0 rfl ?_
  refine ro_iload_n hK dC_isOfKind_1 rfl ?_
  have j5 : K 0 0 25 [.int x1, .int x2] [.int (if x1 = x2 then 1 else (if x2 = 1 then (if x1 = 4 then 1 else (if x1 = 5 then 1 else 0 : Int32) : Int32) else 0 : Int32) : Int32)] (mb_s s) → K 0 0 2 [.int x1, .int x2] [.int x2, .int x1] (mb_s s) := by
    intro hj
    refine ro_icmp_eq (tgt := 20) hK dC_isOfKind_2 (by decide) (fun c1 => ?_) (fun c1 => ?_)
    · skip
      refine ro_iconst (x := 1) hK (by decide) dC_isOfKind_20 ?_
      refine ro_goto (tgt := 25) hK dC_isOfKind_21 (by decide) ?_
      rw [if_pos c1] at hj
      exact hj
    · skip
      refine ro_iload_n hK dC_isOfKind_5 rfl ?_
      refine ro_iconst (x := 1) hK (by decide) dC_isOfKind_6 ?_
      refine ro_icmp_ne (tgt := 24) hK dC_isOfKind_7 (by decide) (fun c2 => ?_) (fun c2 => ?_)
      · skip
        refine ro_iconst (x := 0) hK (by decide) dC_isOfKind_24 ?_
        rw [if_neg c1, if_neg c2] at hj
        exact hj
      · skip
        refine ro_iload_n hK dC_isOfKind_10 rfl ?_
        refine ro_iconst (x := 4) hK (by decide) dC_isOfKind_11 ?_
        refine ro_icmp_eq (tgt := 20) hK dC_isOfKind_12 (by decide) (fun c3 => ?_) (fun c3 => ?_)
        · skip
          refine ro_iconst (x := 1) hK (by decide) dC_isOfKind_20 ?_
          refine ro_goto (tgt := 25) hK dC_isOfKind_21 (by decide) ?_
          rw [if_neg c1, if_pos c2, if_pos c3] at hj
          exact hj
        · skip
          refine ro_iload_n hK dC_isOfKind_15 rfl ?_
          refine ro_iconst (x := 5) hK (by decide) dC_isOfKind_16 ?_
          refine ro_icmp_ne (tgt := 24) hK dC_isOfKind_17 (by decide) (fun c4 => ?_) (fun c4 => ?_)
          · skip
            refine ro_iconst (x := 0) hK (by decide) dC_isOfKind_24 ?_
            rw [if_neg c1, if_pos c2, if_neg c3, if_neg c4] at hj
            exact hj
          · skip
            refine ro_iconst (x := 1) hK (by decide) dC_isOfKind_20 ?_
            refine ro_goto (tgt := 25) hK dC_isOfKind_21 (by decide) ?_
            rw [if_neg c1, if_pos c2, if_neg c3, if_pos c4] at hj
            exact hj
  refine j5 ?_
  obtain ⟨z6, h⟩ := mb_bz_e h
  cases h
  exact hR.1 0 0 25 _ _ _ _ rfl (mb_nz z6) dC_isOfKind_25 ⟨rfl, rfl⟩
theorem dC_isRow_0 : decode bC_isRow 0 = .ok (.iload_n 0, 1) := by decide +kernel
theorem dC_isRow_1 : decode bC_isRow 1 = .ok (.ifCond .lt 13, 3) := by decide +kernel
theorem dC_isRow_4 : decode bC_isRow 4 = .ok (.iload_n 0, 1) := by decide +kernel
theorem dC_isRow_5 : decode bC_isRow 5 = .ok (.bipush 6, 2) := by decide +kernel
theorem dC_isRow_7 : decode bC_isRow 7 = .ok (.if_icmp .ge 7, 3) := by decide +kernel
theorem dC_isRow_10 : decode bC_isRow 10 = .ok (.iconst 1, 1) := by decide +kernel
theorem dC_isRow_11 : decode bC_isRow 11 = .ok (.goto 4, 3) := by decide +kernel
theorem dC_isRow_14 : decode bC_isRow 14 = .ok (.iconst 0, 1) := by decide +kernel
theorem dC_isRow_15 : decode bC_isRow 15 = .ok (.ireturn, 1) := by decide +kernel
def f_C_isRow (n : Nat) (x1 : Int32) (s : mb_T) : Option (Int32 × mb_T) := mb_bz (if x1 < 0 then 0 else (if 6 ≤ x1 then 0 else 1 : Int32) : Int32) (some ((if x1 < 0 then 0 else (if 6 ≤ x1 then 0 else 1 : Int32) : Int32), s))
set_option maxHeartbeats 4000000 in
set_option maxRecDepth 100000 in
theorem t_C_isRow {dd n : Nat} {x1 : Int32} {s : mb_T} {out : Int32 × mb_T}  (h : f_C_isRow n x1 s = some out) : mb_MC (dd + 1) yC_isRow bC_isRow 1 (some .boolean) [.int x1] s (some (.int out.1)) out.2 := by
  unfold f_C_isRow at h
  refine mj_mc (lv := [.int x1]) mC_isRow rfl rfl (Nat.le_of_ble_eq_true rfl) (fun K hK hR => ?_)
  have hK : mj_C (dd + 1) 0 0 RC_c "isRow" bC_isRow 1 K := hK
  refine ro_iload_n hK dC_isRow_0 rfl ?_
  have j3 : K 0 0 15 [.int x1] [.int (if x1 < 0 then 0 else (if 6 ≤ x1 then 0 else 1 : Int32) : Int32)] (mb_s s) → K 0 0 1 [.int x1] [.int x1] (mb_s s) := by
    intro hj
    refine ro_if_lt (tgt := 14) hK dC_isRow_1 (by decide) (fun c1 => ?_) (fun c1 => ?_)
    · skip
      refine ro_iconst (x := 0) hK (by decide) dC_isRow_14 ?_
      rw [if_pos c1] at hj
      exact hj
    · skip
      refine ro_iload_n hK dC_isRow_4 rfl ?_
      refine ro_bipush (x := 6) hK (by decide) dC_isRow_5 ?_
      refine ro_icmp_ge (tgt := 14) hK dC_isRow_7 (by decide) (fun c2 => ?_) (fun c2 => ?_)
      · skip
        refine ro_iconst (x := 0) hK (by decide) dC_isRow_14 ?_
        rw [if_neg c1, if_pos c2] at hj
        exact hj
      · skip
        refine ro_iconst (x := 1) hK (by decide) dC_isRow_10 ?_
        refine ro_goto (tgt := 15) hK dC_isRow_11 (by decide) ?_
        rw [if_neg c1, if_neg c2] at hj
        exact hj
  refine j3 ?_
  obtain ⟨z4, h⟩ := mb_bz_e h
  cases h
  exact hR.1 0 0 15 _ _ _ _ rfl (mb_nz z4) dC_isRow_15 ⟨rfl, rfl⟩
theorem dA_bitsOfAll_0 : decode bA_bitsOfAll 0 = .ok (.iconst 1, 1) := by decide +kernel
theorem dA_bitsOfAll_1 : decode bA_bitsOfAll 1 = .ok (.aload_n 0, 1) := by decide +kernel
theorem dA_bitsOfAll_2 : decode bA_bitsOfAll 2 = .ok (.getfield 48, 3) := by decide +kernel
theorem dA_bitsOfAll_5 : decode bA_bitsOfAll 5 = .ok (.ishl, 1) := by decide +kernel
theorem dA_bitsOfAll_6 : decode bA_bitsOfAll 6 = .ok (.iconst 1, 1) := by decide +kernel
theorem dA_bitsOfAll_7 : decode bA_bitsOfAll 7 = .ok (.isub, 1) := by decide +kernel
theorem dA_bitsOfAll_8 : decode bA_bitsOfAll 8 = .ok (.ireturn, 1) := by decide +kernel
def f_A_bitsOfAll (n : Nat)  (s : mb_T) : Option (Int32 × mb_T) := some (((1 <<< ((s.1 40 0) &&& 31)) - 1), s)
set_option maxHeartbeats 4000000 in
set_option maxRecDepth 100000 in
theorem t_A_bitsOfAll {dd n : Nat}  {s : mb_T} {out : Int32 × mb_T}  (h : f_A_bitsOfAll n  s = some out) : mb_MC (dd + 1) yA_bitsOfAll bA_bitsOfAll 1 (some .int) [.ref 40] s (some (.int out.1)) out.2 := by
  unfold f_A_bitsOfAll at h
  refine mj_mc (lv := [.ref 40]) mA_bitsOfAll rfl rfl (Nat.le_of_ble_eq_true rfl) (fun K hK hR => ?_)
  have hK : mj_C (dd + 1) 0 0 RA_c "bitsOfAll" bA_bitsOfAll 1 K := hK
  refine ro_iconst (x := 1) hK (by decide) dA_bitsOfAll_0 ?_
  refine ro_aload_n hK dA_bitsOfAll_1 rfl ?_
  refine rb_get hK fA_48 mb_oA rfl dA_bitsOfAll_2 ?_
  refine ro_ishl hK dA_bitsOfAll_5 ?_
  refine ro_iconst (x := 1) hK (by decide) dA_bitsOfAll_6 ?_
  refine ro_isub hK dA_bitsOfAll_7 ?_
  cases h
  exact hR.1 0 0 8 _ _ _ _ rfl rfl dA_bitsOfAll_8 ⟨rfl, rfl⟩
theorem dA_isHere_0 : decode bA_isHere 0 = .ok (.iload_n 1, 1) := by decide +kernel
theorem dA_isHere_1 : decode bA_isHere 1 = .ok (.ifCond .lt 15, 3) := by decide +kernel
theorem dA_isHere_4 : decode bA_isHere 4 = .ok (.iload_n 1, 1) := by decide +kernel
theorem dA_isHere_5 : decode bA_isHere 5 = .ok (.aload_n 0, 1) := by decide +kernel
theorem dA_isHere_6 : decode bA_isHere 6 = .ok (.getfield 48, 3) := by decide +kernel
theorem dA_isHere_9 : decode bA_isHere 9 = .ok (.if_icmp .ge 7, 3) := by decide +kernel
theorem dA_isHere_12 : decode bA_isHere 12 = .ok (.iconst 1, 1) := by decide +kernel
theorem dA_isHere_13 : decode bA_isHere 13 = .ok (.goto 4, 3) := by decide +kernel
theorem dA_isHere_16 : decode bA_isHere 16 = .ok (.iconst 0, 1) := by decide +kernel
theorem dA_isHere_17 : decode bA_isHere 17 = .ok (.ireturn, 1) := by decide +kernel
def f_A_isHere (n : Nat) (x1 : Int32) (s : mb_T) : Option (Int32 × mb_T) := mb_bz (if x1 < 0 then 0 else (if (s.1 40 0) ≤ x1 then 0 else 1 : Int32) : Int32) (some ((if x1 < 0 then 0 else (if (s.1 40 0) ≤ x1 then 0 else 1 : Int32) : Int32), s))
set_option maxHeartbeats 4000000 in
set_option maxRecDepth 100000 in
theorem t_A_isHere {dd n : Nat} {x1 : Int32} {s : mb_T} {out : Int32 × mb_T}  (h : f_A_isHere n x1 s = some out) : mb_MC (dd + 1) yA_isHere bA_isHere 2 (some .boolean) [.ref 40, .int x1] s (some (.int out.1)) out.2 := by
  unfold f_A_isHere at h
  refine mj_mc (lv := [.ref 40, .int x1]) mA_isHere rfl rfl (Nat.le_of_ble_eq_true rfl) (fun K hK hR => ?_)
  have hK : mj_C (dd + 1) 0 0 RA_c "isHere" bA_isHere 2 K := hK
  refine ro_iload_n hK dA_isHere_0 rfl ?_
  have j3 : K 0 0 17 [.ref 40, .int x1] [.int (if x1 < 0 then 0 else (if (s.1 40 0) ≤ x1 then 0 else 1 : Int32) : Int32)] (mb_s s) → K 0 0 1 [.ref 40, .int x1] [.int x1] (mb_s s) := by
    intro hj
    refine ro_if_lt (tgt := 16) hK dA_isHere_1 (by decide) (fun c1 => ?_) (fun c1 => ?_)
    · skip
      refine ro_iconst (x := 0) hK (by decide) dA_isHere_16 ?_
      rw [if_pos c1] at hj
      exact hj
    · skip
      refine ro_iload_n hK dA_isHere_4 rfl ?_
      refine ro_aload_n hK dA_isHere_5 rfl ?_
      refine rb_get hK fA_48 mb_oA rfl dA_isHere_6 ?_
      refine ro_icmp_ge (tgt := 16) hK dA_isHere_9 (by decide) (fun c2 => ?_) (fun c2 => ?_)
      · skip
        refine ro_iconst (x := 0) hK (by decide) dA_isHere_16 ?_
        rw [if_neg c1, if_pos c2] at hj
        exact hj
      · skip
        refine ro_iconst (x := 1) hK (by decide) dA_isHere_12 ?_
        refine ro_goto (tgt := 17) hK dA_isHere_13 (by decide) ?_
        rw [if_neg c1, if_neg c2] at hj
        exact hj
  refine j3 ?_
  obtain ⟨z4, h⟩ := mb_bz_e h
  cases h
  exact hR.1 0 0 17 _ _ _ _ rfl (mb_nz z4) dA_isHere_17 ⟨rfl, rfl⟩
theorem dA_moreAfraid_0 : decode bA_moreAfraid 0 = .ok (.iconst 0, 1) := by decide +kernel
theorem dA_moreAfraid_1 : decode bA_moreAfraid 1 = .ok (.istore_n 3, 1) := by decide +kernel
theorem dA_moreAfraid_2 : decode bA_moreAfraid 2 = .ok (.iconst 0, 1) := by decide +kernel
theorem dA_moreAfraid_3 : decode bA_moreAfraid 3 = .ok (.istore 4, 2) := by decide +kernel
theorem dA_moreAfraid_5 : decode bA_moreAfraid 5 = .ok (.iload 4, 2) := by decide +kernel
theorem dA_moreAfraid_7 : decode bA_moreAfraid 7 = .ok (.aload_n 0, 1) := by decide +kernel
theorem dA_moreAfraid_8 : decode bA_moreAfraid 8 = .ok (.getfield 48, 3) := by decide +kernel
theorem dA_moreAfraid_11 : decode bA_moreAfraid 11 = .ok (.if_icmp .ge 42, 3) := by decide +kernel
theorem dA_moreAfraid_14 : decode bA_moreAfraid 14 = .ok (.iload_n 3, 1) := by decide +kernel
theorem dA_moreAfraid_15 : decode bA_moreAfraid 15 = .ok (.iload_n 2, 1) := by decide +kernel
theorem dA_moreAfraid_16 : decode bA_moreAfraid 16 = .ok (.iload 4, 2) := by decide +kernel
theorem dA_moreAfraid_18 : decode bA_moreAfraid 18 = .ok (.ishr, 1) := by decide +kernel
theorem dA_moreAfraid_19 : decode bA_moreAfraid 19 = .ok (.iconst 1, 1) := by decide +kernel
theorem dA_moreAfraid_20 : decode bA_moreAfraid 20 = .ok (.iand, 1) := by decide +kernel
theorem dA_moreAfraid_21 : decode bA_moreAfraid 21 = .ok (.ifCond .eq 23, 3) := by decide +kernel
theorem dA_moreAfraid_24 : decode bA_moreAfraid 24 = .ok (.aload_n 0, 1) := by decide +kernel
theorem dA_moreAfraid_25 : decode bA_moreAfraid 25 = .ok (.getfield 15, 3) := by decide +kernel
theorem dA_moreAfraid_28 : decode bA_moreAfraid 28 = .ok (.iload 4, 2) := by decide +kernel
theorem dA_moreAfraid_30 : decode bA_moreAfraid 30 = .ok (.iaload, 1) := by decide +kernel
theorem dA_moreAfraid_31 : decode bA_moreAfraid 31 = .ok (.aload_n 0, 1) := by decide +kernel
theorem dA_moreAfraid_32 : decode bA_moreAfraid 32 = .ok (.getfield 15, 3) := by decide +kernel
theorem dA_moreAfraid_35 : decode bA_moreAfraid 35 = .ok (.iload_n 1, 1) := by decide +kernel
theorem dA_moreAfraid_36 : decode bA_moreAfraid 36 = .ok (.iaload, 1) := by decide +kernel
theorem dA_moreAfraid_37 : decode bA_moreAfraid 37 = .ok (.if_icmp .le 7, 3) := by decide +kernel
theorem dA_moreAfraid_40 : decode bA_moreAfraid 40 = .ok (.iconst 1, 1) := by decide +kernel
theorem dA_moreAfraid_41 : decode bA_moreAfraid 41 = .ok (.goto 4, 3) := by decide +kernel
theorem dA_moreAfraid_44 : decode bA_moreAfraid 44 = .ok (.iconst 0, 1) := by decide +kernel
theorem dA_moreAfraid_45 : decode bA_moreAfraid 45 = .ok (.iadd, 1) := by decide +kernel
theorem dA_moreAfraid_46 : decode bA_moreAfraid 46 = .ok (.istore_n 3, 1) := by decide +kernel
theorem dA_moreAfraid_47 : decode bA_moreAfraid 47 = .ok (.iinc 4 1, 3) := by decide +kernel
theorem dA_moreAfraid_50 : decode bA_moreAfraid 50 = .ok (.goto (-45), 3) := by decide +kernel
theorem dA_moreAfraid_53 : decode bA_moreAfraid 53 = .ok (.iload_n 3, 1) := by decide +kernel
theorem dA_moreAfraid_54 : decode bA_moreAfraid 54 = .ok (.ireturn, 1) := by decide +kernel
def f_A_moreAfraid_5 (n : Nat) (k0 : Int32 → Int32 → mb_T → Option (Int32 × mb_T)) (y1 : Int32) (y2 : Int32) : Nat → Int32 → Int32 → mb_T → Option (Int32 × mb_T)
  | 0, _, _, _ => none
  | f + 1, w3, w4, s => if (s.1 40 0) ≤ w4 then k0 w3 w4 s else mb_jn (fun (x12 : Int32) (s13 : mb_T) => f_A_moreAfraid_5 n k0 y1 y2 f (w3 + x12) (w4 + 1) s13) fun j2 => if ((y2 >>> (w4 &&& 31)) &&& 1) = 0 then j2 0 s else mb_rd s 48 5 w4 fun x4 => mb_rd s 48 5 y1 fun x7 => j2 (if x4 ≤ x7 then 0 else 1 : Int32) s
def f_A_moreAfraid (n : Nat) (x1 : Int32) (x2 : Int32) (s : mb_T) : Option (Int32 × mb_T) := f_A_moreAfraid_5 n (fun x15 x16 s17 => some (x15, s17)) x1 x2 n 0 0 s
set_option maxHeartbeats 4000000 in
set_option maxRecDepth 100000 in
theorem tl_A_moreAfraid_5 {dd n : Nat} {K : mj_KT} {out : Int32 × mb_T} (hK : mj_C (dd + 1) 0 0 RA_c "moreAfraid" bA_moreAfraid 5 K) (hR : mj_R bA_moreAfraid (some .int) (fun r2 S2 => r2 = some (.int out.1) ∧ S2 = mb_s out.2) K) {k0 : Int32 → Int32 → mb_T → Option (Int32 × mb_T)} {y1 : Int32} {y2 : Int32} (hk0 : ∀ (w3 : Int32) (w4 : Int32) (s : mb_T), k0 w3 w4 s = some out → K 0 0 53 [.ref 40, .int y1, .int y2, .int w3, .int w4] [] (mb_s s)) : ∀ (f : Nat) (w3 : Int32) (w4 : Int32) (s : mb_T), f_A_moreAfraid_5 n k0 y1 y2 f w3 w4 s = some out → K 0 0 5 [.ref 40, .int y1, .int y2, .int w3, .int w4] [] (mb_s s) := by
  intro f
  induction f with
  | zero =>
    intro w3 w4 s h
    cases h
  | succ f ih =>
    intro w3 w4 s h
    rw [f_A_moreAfraid_5] at h
    refine ro_iload hK dA_moreAfraid_5 rfl ?_
    refine ro_aload_n hK dA_moreAfraid_7 rfl ?_
    refine rb_get hK fA_48 mb_oA rfl dA_moreAfraid_8 ?_
    refine ro_icmp_ge (tgt := 53) hK dA_moreAfraid_11 (by decide) (fun c1 => ?_) (fun c1 => ?_)
    · replace h := mb_ift c1 h
      refine ro_fg (lv' := [.ref 40, .int y1, .int y2, .int w3, .int w4]) hK ⟨Or.inr rfl, ⟨Or.inr rfl, ⟨Or.inr rfl, ⟨Or.inr rfl, ⟨Or.inr rfl, trivial⟩⟩⟩⟩⟩ ?_
      exact hk0 _ _ _ h
    · replace h := mb_iff c1 h
      refine ro_iload_n hK dA_moreAfraid_14 rfl ?_
      refine ro_iload_n hK dA_moreAfraid_15 rfl ?_
      refine ro_iload hK dA_moreAfraid_16 rfl ?_
      refine ro_ishr hK dA_moreAfraid_18 ?_
      refine ro_iconst (x := 1) hK (by decide) dA_moreAfraid_19 ?_
      refine ro_iand hK dA_moreAfraid_20 ?_
      obtain ⟨j2, e14, h⟩ := mb_jn_e h
      have hj2 : ∀ (x12 : Int32) (s13 : mb_T), j2 x12 s13 = some out → K 0 0 45 [.ref 40, .int y1, .int y2, .int w3, .int w4] [.int x12, .int w3] (mb_s s13) := by
        intro x12 s13 h
        rw [e14] at h
        refine ro_iadd hK dA_moreAfraid_45 ?_
        refine ro_istore_n hK dA_moreAfraid_46 (by decide) ?_
        show K 0 0 47 [.ref 40, .int y1, .int y2, .int (w3 + x12), .int w4] [] (mb_s s13)
        refine ro_iincv (c := 1) hK (by decide) dA_moreAfraid_47 rfl (by decide) ?_
        show K 0 0 50 [.ref 40, .int y1, .int y2, .int (w3 + x12), .int (w4 + 1)] [] (mb_s s13)
        refine ro_goto (tgt := 5) hK dA_moreAfraid_50 (by decide) ?_
        refine ro_fg (lv' := [.ref 40, .int y1, .int y2, .int (w3 + x12), .int (w4 + 1)]) hK ⟨Or.inr rfl, ⟨Or.inr rfl, ⟨Or.inr rfl, ⟨Or.inr rfl, ⟨Or.inr rfl, trivial⟩⟩⟩⟩⟩ ?_
        exact ih _ _ _ h
      refine ro_if_eq (tgt := 44) hK dA_moreAfraid_21 (by decide) (fun c3 => ?_) (fun c3 => ?_)
      · replace h := mb_ift c3 h
        refine ro_iconst (x := 0) hK (by decide) dA_moreAfraid_44 ?_
        refine ro_fg (lv' := [.ref 40, .int y1, .int y2, .int w3, .int w4]) hK ⟨Or.inr rfl, ⟨Or.inr rfl, ⟨Or.inr rfl, ⟨Or.inr rfl, ⟨Or.inr rfl, trivial⟩⟩⟩⟩⟩ ?_
        exact hj2 _ _ h
      · replace h := mb_iff c3 h
        refine ro_aload_n hK dA_moreAfraid_24 rfl ?_
        refine rb_get hK fA_15 mb_oA rfl dA_moreAfraid_25 ?_
        refine ro_iload hK dA_moreAfraid_28 rfl ?_
        obtain ⟨x4, e5, i6, h⟩ := mb_rd_e h
        refine rb_iald hK ai_48 i6 e5 dA_moreAfraid_30 ?_
        refine ro_aload_n hK dA_moreAfraid_31 rfl ?_
        refine rb_get hK fA_15 mb_oA rfl dA_moreAfraid_32 ?_
        refine ro_iload_n hK dA_moreAfraid_35 rfl ?_
        obtain ⟨x7, e8, i9, h⟩ := mb_rd_e h
        refine rb_iald hK ai_48 i9 e8 dA_moreAfraid_36 ?_
        have j11 : K 0 0 45 [.ref 40, .int y1, .int y2, .int w3, .int w4] [.int (if x4 ≤ x7 then 0 else 1 : Int32), .int w3] (mb_s s) → K 0 0 37 [.ref 40, .int y1, .int y2, .int w3, .int w4] [.int x7, .int x4, .int w3] (mb_s s) := by
          intro hj
          refine ro_icmp_le (tgt := 44) hK dA_moreAfraid_37 (by decide) (fun c10 => ?_) (fun c10 => ?_)
          · skip
            refine ro_iconst (x := 0) hK (by decide) dA_moreAfraid_44 ?_
            rw [if_pos c10] at hj
            exact hj
          · skip
            refine ro_iconst (x := 1) hK (by decide) dA_moreAfraid_40 ?_
            refine ro_goto (tgt := 45) hK dA_moreAfraid_41 (by decide) ?_
            rw [if_neg c10] at hj
            exact hj
        refine j11 ?_
        refine ro_fg (lv' := [.ref 40, .int y1, .int y2, .int w3, .int w4]) hK ⟨Or.inr rfl, ⟨Or.inr rfl, ⟨Or.inr rfl, ⟨Or.inr rfl, ⟨Or.inr rfl, trivial⟩⟩⟩⟩⟩ ?_
        exact hj2 _ _ h
set_option maxHeartbeats 4000000 in
set_option maxRecDepth 100000 in
theorem t_A_moreAfraid {dd n : Nat} {x1 : Int32} {x2 : Int32} {s : mb_T} {out : Int32 × mb_T}  (h : f_A_moreAfraid n x1 x2 s = some out) : mb_MC (dd + 1) yA_moreAfraid bA_moreAfraid 5 (some .int) [.ref 40, .int x1, .int x2] s (some (.int out.1)) out.2 := by
  unfold f_A_moreAfraid at h
  refine mj_mc (lv := [.ref 40, .int x1, .int x2, .retAddr 0, .retAddr 0]) mA_moreAfraid rfl rfl (Nat.le_of_ble_eq_true rfl) (fun K hK hR => ?_)
  have hK : mj_C (dd + 1) 0 0 RA_c "moreAfraid" bA_moreAfraid 5 K := hK
  refine ro_iconst (x := 0) hK (by decide) dA_moreAfraid_0 ?_
  refine ro_istore_n hK dA_moreAfraid_1 (by decide) ?_
  show K 0 0 2 [.ref 40, .int x1, .int x2, .int 0, .retAddr 0] [] (mb_s s)
  refine ro_iconst (x := 0) hK (by decide) dA_moreAfraid_2 ?_
  refine ro_istore hK dA_moreAfraid_3 (by decide) ?_
  show K 0 0 5 [.ref 40, .int x1, .int x2, .int 0, .int 0] [] (mb_s s)
  refine ro_fg (lv' := [.ref 40, .int x1, .int x2, .int 0, .int 0]) hK ⟨Or.inr rfl, ⟨Or.inr rfl, ⟨Or.inr rfl, ⟨Or.inr rfl, ⟨Or.inr rfl, trivial⟩⟩⟩⟩⟩ ?_
  refine tl_A_moreAfraid_5 (dd := dd) hK hR (fun x15 x16 s17 h => ?_) n _ _ _ h
  refine ro_iload_n hK dA_moreAfraid_53 rfl ?_
  cases h
  exact hR.1 0 0 54 _ _ _ _ rfl rfl dA_moreAfraid_54 ⟨rfl, rfl⟩
theorem dA_whoScream_0 : decode bA_whoScream 0 = .ok (.iconst 0, 1) := by decide +kernel
theorem dA_whoScream_1 : decode bA_whoScream 1 = .ok (.istore_n 1, 1) := by decide +kernel
theorem dA_whoScream_2 : decode bA_whoScream 2 = .ok (.iconst 0, 1) := by decide +kernel
theorem dA_whoScream_3 : decode bA_whoScream 3 = .ok (.istore_n 2, 1) := by decide +kernel
theorem dA_whoScream_4 : decode bA_whoScream 4 = .ok (.iload_n 2, 1) := by decide +kernel
theorem dA_whoScream_5 : decode bA_whoScream 5 = .ok (.aload_n 0, 1) := by decide +kernel
theorem dA_whoScream_6 : decode bA_whoScream 6 = .ok (.getfield 48, 3) := by decide +kernel
theorem dA_whoScream_9 : decode bA_whoScream 9 = .ok (.if_icmp .ge 34, 3) := by decide +kernel
theorem dA_whoScream_12 : decode bA_whoScream 12 = .ok (.iload_n 1, 1) := by decide +kernel
theorem dA_whoScream_13 : decode bA_whoScream 13 = .ok (.aload_n 0, 1) := by decide +kernel
theorem dA_whoScream_14 : decode bA_whoScream 14 = .ok (.getfield 15, 3) := by decide +kernel
theorem dA_whoScream_17 : decode bA_whoScream 17 = .ok (.iload_n 2, 1) := by decide +kernel
theorem dA_whoScream_18 : decode bA_whoScream 18 = .ok (.iaload, 1) := by decide +kernel
theorem dA_whoScream_19 : decode bA_whoScream 19 = .ok (.aload_n 0, 1) := by decide +kernel
theorem dA_whoScream_20 : decode bA_whoScream 20 = .ok (.getfield 27, 3) := by decide +kernel
theorem dA_whoScream_23 : decode bA_whoScream 23 = .ok (.iload_n 2, 1) := by decide +kernel
theorem dA_whoScream_24 : decode bA_whoScream 24 = .ok (.iaload, 1) := by decide +kernel
theorem dA_whoScream_25 : decode bA_whoScream 25 = .ok (.if_icmp .lt 9, 3) := by decide +kernel
theorem dA_whoScream_28 : decode bA_whoScream 28 = .ok (.iconst 1, 1) := by decide +kernel
theorem dA_whoScream_29 : decode bA_whoScream 29 = .ok (.iload_n 2, 1) := by decide +kernel
theorem dA_whoScream_30 : decode bA_whoScream 30 = .ok (.ishl, 1) := by decide +kernel
theorem dA_whoScream_31 : decode bA_whoScream 31 = .ok (.goto 4, 3) := by decide +kernel
theorem dA_whoScream_34 : decode bA_whoScream 34 = .ok (.iconst 0, 1) := by decide +kernel
theorem dA_whoScream_35 : decode bA_whoScream 35 = .ok (.ior, 1) := by decide +kernel
theorem dA_whoScream_36 : decode bA_whoScream 36 = .ok (.istore_n 1, 1) := by decide +kernel
theorem dA_whoScream_37 : decode bA_whoScream 37 = .ok (.iinc 2 1, 3) := by decide +kernel
theorem dA_whoScream_40 : decode bA_whoScream 40 = .ok (.goto (-36), 3) := by decide +kernel
theorem dA_whoScream_43 : decode bA_whoScream 43 = .ok (.iload_n 1, 1) := by decide +kernel
theorem dA_whoScream_44 : decode bA_whoScream 44 = .ok (.ireturn, 1) := by decide +kernel
def f_A_whoScream_4 (n : Nat) (k0 : Int32 → Int32 → mb_T → Option (Int32 × mb_T))  : Nat → Int32 → Int32 → mb_T → Option (Int32 × mb_T)
  | 0, _, _, _ => none
  | f + 1, w1, w2, s => if (s.1 40 0) ≤ w2 then k0 w1 w2 s else mb_rd s 48 5 w2 fun x2 => mb_rd s 52 5 w2 fun x5 => f_A_whoScream_4 n k0 f (w1 ||| (if x2 < x5 then 0 else (1 <<< (w2 &&& 31)) : Int32)) (w2 + 1) s
def f_A_whoScream (n : Nat)  (s : mb_T) : Option (Int32 × mb_T) := f_A_whoScream_4 n (fun x10 x11 s12 => some (x10, s12)) n 0 0 s
set_option maxHeartbeats 4000000 in
set_option maxRecDepth 100000 in
theorem tl_A_whoScream_4 {dd n : Nat} {K : mj_KT} {out : Int32 × mb_T} (hK : mj_C (dd + 1) 0 0 RA_c "whoScream" bA_whoScream 3 K) (hR : mj_R bA_whoScream (some .int) (fun r2 S2 => r2 = some (.int out.1) ∧ S2 = mb_s out.2) K) {k0 : Int32 → Int32 → mb_T → Option (Int32 × mb_T)}  (hk0 : ∀ (w1 : Int32) (w2 : Int32) (s : mb_T), k0 w1 w2 s = some out → K 0 0 43 [.ref 40, .int w1, .int w2] [] (mb_s s)) : ∀ (f : Nat) (w1 : Int32) (w2 : Int32) (s : mb_T), f_A_whoScream_4 n k0 f w1 w2 s = some out → K 0 0 4 [.ref 40, .int w1, .int w2] [] (mb_s s) := by
  intro f
  induction f with
  | zero =>
    intro w1 w2 s h
    cases h
  | succ f ih =>
    intro w1 w2 s h
    rw [f_A_whoScream_4] at h
    refine ro_iload_n hK dA_whoScream_4 rfl ?_
    refine ro_aload_n hK dA_whoScream_5 rfl ?_
    refine rb_get hK fA_48 mb_oA rfl dA_whoScream_6 ?_
    refine ro_icmp_ge (tgt := 43) hK dA_whoScream_9 (by decide) (fun c1 => ?_) (fun c1 => ?_)
    · replace h := mb_ift c1 h
      refine ro_fg (lv' := [.ref 40, .int w1, .int w2]) hK ⟨Or.inr rfl, ⟨Or.inr rfl, ⟨Or.inr rfl, trivial⟩⟩⟩ ?_
      exact hk0 _ _ _ h
    · replace h := mb_iff c1 h
      refine ro_iload_n hK dA_whoScream_12 rfl ?_
      refine ro_aload_n hK dA_whoScream_13 rfl ?_
      refine rb_get hK fA_15 mb_oA rfl dA_whoScream_14 ?_
      refine ro_iload_n hK dA_whoScream_17 rfl ?_
      obtain ⟨x2, e3, i4, h⟩ := mb_rd_e h
      refine rb_iald hK ai_48 i4 e3 dA_whoScream_18 ?_
      refine ro_aload_n hK dA_whoScream_19 rfl ?_
      refine rb_get hK fA_27 mb_oA rfl dA_whoScream_20 ?_
      refine ro_iload_n hK dA_whoScream_23 rfl ?_
      obtain ⟨x5, e6, i7, h⟩ := mb_rd_e h
      refine rb_iald hK ai_52 i7 e6 dA_whoScream_24 ?_
      have j9 : K 0 0 35 [.ref 40, .int w1, .int w2] [.int (if x2 < x5 then 0 else (1 <<< (w2 &&& 31)) : Int32), .int w1] (mb_s s) → K 0 0 25 [.ref 40, .int w1, .int w2] [.int x5, .int x2, .int w1] (mb_s s) := by
        intro hj
        refine ro_icmp_lt (tgt := 34) hK dA_whoScream_25 (by decide) (fun c8 => ?_) (fun c8 => ?_)
        · skip
          refine ro_iconst (x := 0) hK (by decide) dA_whoScream_34 ?_
          rw [if_pos c8] at hj
          exact hj
        · skip
          refine ro_iconst (x := 1) hK (by decide) dA_whoScream_28 ?_
          refine ro_iload_n hK dA_whoScream_29 rfl ?_
          refine ro_ishl hK dA_whoScream_30 ?_
          refine ro_goto (tgt := 35) hK dA_whoScream_31 (by decide) ?_
          rw [if_neg c8] at hj
          exact hj
      refine j9 ?_
      refine ro_ior hK dA_whoScream_35 ?_
      refine ro_istore_n hK dA_whoScream_36 (by decide) ?_
      show K 0 0 37 [.ref 40, .int (w1 ||| (if x2 < x5 then 0 else (1 <<< (w2 &&& 31)) : Int32)), .int w2] [] (mb_s s)
      refine ro_iincv (c := 1) hK (by decide) dA_whoScream_37 rfl (by decide) ?_
      show K 0 0 40 [.ref 40, .int (w1 ||| (if x2 < x5 then 0 else (1 <<< (w2 &&& 31)) : Int32)), .int (w2 + 1)] [] (mb_s s)
      refine ro_goto (tgt := 4) hK dA_whoScream_40 (by decide) ?_
      refine ro_fg (lv' := [.ref 40, .int (w1 ||| (if x2 < x5 then 0 else (1 <<< (w2 &&& 31)) : Int32)), .int (w2 + 1)]) hK ⟨Or.inr rfl, ⟨Or.inr rfl, ⟨Or.inr rfl, trivial⟩⟩⟩ ?_
      exact ih _ _ _ h
set_option maxHeartbeats 4000000 in
set_option maxRecDepth 100000 in
theorem t_A_whoScream {dd n : Nat}  {s : mb_T} {out : Int32 × mb_T}  (h : f_A_whoScream n  s = some out) : mb_MC (dd + 1) yA_whoScream bA_whoScream 3 (some .int) [.ref 40] s (some (.int out.1)) out.2 := by
  unfold f_A_whoScream at h
  refine mj_mc (lv := [.ref 40, .retAddr 0, .retAddr 0]) mA_whoScream rfl rfl (Nat.le_of_ble_eq_true rfl) (fun K hK hR => ?_)
  have hK : mj_C (dd + 1) 0 0 RA_c "whoScream" bA_whoScream 3 K := hK
  refine ro_iconst (x := 0) hK (by decide) dA_whoScream_0 ?_
  refine ro_istore_n hK dA_whoScream_1 (by decide) ?_
  show K 0 0 2 [.ref 40, .int 0, .retAddr 0] [] (mb_s s)
  refine ro_iconst (x := 0) hK (by decide) dA_whoScream_2 ?_
  refine ro_istore_n hK dA_whoScream_3 (by decide) ?_
  show K 0 0 4 [.ref 40, .int 0, .int 0] [] (mb_s s)
  refine ro_fg (lv' := [.ref 40, .int 0, .int 0]) hK ⟨Or.inr rfl, ⟨Or.inr rfl, ⟨Or.inr rfl, trivial⟩⟩⟩ ?_
  refine tl_A_whoScream_4 (dd := dd) hK hR (fun x10 x11 s12 h => ?_) n _ _ _ h
  refine ro_iload_n hK dA_whoScream_43 rfl ?_
  cases h
  exact hR.1 0 0 44 _ _ _ _ rfl rfl dA_whoScream_44 ⟨rfl, rfl⟩
theorem dV_become_0 : decode bV_become 0 = .ok (.aload_n 0, 1) := by decide +kernel
theorem dV_become_1 : decode bV_become 1 = .ok (.aload_n 1, 1) := by decide +kernel
theorem dV_become_2 : decode bV_become 2 = .ok (.getfield 36, 3) := by decide +kernel
theorem dV_become_5 : decode bV_become 5 = .ok (.putfield 36, 3) := by decide +kernel
theorem dV_become_8 : decode bV_become 8 = .ok (.aload_n 0, 1) := by decide +kernel
theorem dV_become_9 : decode bV_become 9 = .ok (.aload_n 1, 1) := by decide +kernel
theorem dV_become_10 : decode bV_become 10 = .ok (.getfield 40, 3) := by decide +kernel
theorem dV_become_13 : decode bV_become 13 = .ok (.putfield 40, 3) := by decide +kernel
theorem dV_become_16 : decode bV_become 16 = .ok (.aload_n 0, 1) := by decide +kernel
theorem dV_become_17 : decode bV_become 17 = .ok (.aload_n 1, 1) := by decide +kernel
theorem dV_become_18 : decode bV_become 18 = .ok (.getfield 43, 3) := by decide +kernel
theorem dV_become_21 : decode bV_become 21 = .ok (.putfield 43, 3) := by decide +kernel
theorem dV_become_24 : decode bV_become 24 = .ok (.aload_n 0, 1) := by decide +kernel
theorem dV_become_25 : decode bV_become 25 = .ok (.aload_n 1, 1) := by decide +kernel
theorem dV_become_26 : decode bV_become 26 = .ok (.getfield 46, 3) := by decide +kernel
theorem dV_become_29 : decode bV_become 29 = .ok (.putfield 46, 3) := by decide +kernel
theorem dV_become_32 : decode bV_become 32 = .ok (.aload_n 0, 1) := by decide +kernel
theorem dV_become_33 : decode bV_become 33 = .ok (.aload_n 1, 1) := by decide +kernel
theorem dV_become_34 : decode bV_become 34 = .ok (.getfield 49, 3) := by decide +kernel
theorem dV_become_37 : decode bV_become 37 = .ok (.putfield 49, 3) := by decide +kernel
theorem dV_become_40 : decode bV_become 40 = .ok (.aload_n 1, 1) := by decide +kernel
theorem dV_become_41 : decode bV_become 41 = .ok (.getfield 9, 3) := by decide +kernel
theorem dV_become_44 : decode bV_become 44 = .ok (.iconst 0, 1) := by decide +kernel
theorem dV_become_45 : decode bV_become 45 = .ok (.aload_n 0, 1) := by decide +kernel
theorem dV_become_46 : decode bV_become 46 = .ok (.getfield 9, 3) := by decide +kernel
theorem dV_become_49 : decode bV_become 49 = .ok (.iconst 0, 1) := by decide +kernel
theorem dV_become_50 : decode bV_become 50 = .ok (.iconst 5, 1) := by decide +kernel
theorem dV_become_51 : decode bV_become 51 = .ok (.invokestatic 52, 3) := by decide +kernel
theorem dV_become_54 : decode bV_become 54 = .ok (.aload_n 1, 1) := by decide +kernel
theorem dV_become_55 : decode bV_become 55 = .ok (.getfield 15, 3) := by decide +kernel
theorem dV_become_58 : decode bV_become 58 = .ok (.iconst 0, 1) := by decide +kernel
theorem dV_become_59 : decode bV_become 59 = .ok (.aload_n 0, 1) := by decide +kernel
theorem dV_become_60 : decode bV_become 60 = .ok (.getfield 15, 3) := by decide +kernel
theorem dV_become_63 : decode bV_become 63 = .ok (.iconst 0, 1) := by decide +kernel
theorem dV_become_64 : decode bV_become 64 = .ok (.iconst 5, 1) := by decide +kernel
theorem dV_become_65 : decode bV_become 65 = .ok (.invokestatic 52, 3) := by decide +kernel
theorem dV_become_68 : decode bV_become 68 = .ok (.aload_n 1, 1) := by decide +kernel
theorem dV_become_69 : decode bV_become 69 = .ok (.getfield 18, 3) := by decide +kernel
theorem dV_become_72 : decode bV_become 72 = .ok (.iconst 0, 1) := by decide +kernel
theorem dV_become_73 : decode bV_become 73 = .ok (.aload_n 0, 1) := by decide +kernel
theorem dV_become_74 : decode bV_become 74 = .ok (.getfield 18, 3) := by decide +kernel
theorem dV_become_77 : decode bV_become 77 = .ok (.iconst 0, 1) := by decide +kernel
theorem dV_become_78 : decode bV_become 78 = .ok (.iconst 5, 1) := by decide +kernel
theorem dV_become_79 : decode bV_become 79 = .ok (.invokestatic 52, 3) := by decide +kernel
theorem dV_become_82 : decode bV_become 82 = .ok (.aload_n 1, 1) := by decide +kernel
theorem dV_become_83 : decode bV_become 83 = .ok (.getfield 21, 3) := by decide +kernel
theorem dV_become_86 : decode bV_become 86 = .ok (.iconst 0, 1) := by decide +kernel
theorem dV_become_87 : decode bV_become 87 = .ok (.aload_n 0, 1) := by decide +kernel
theorem dV_become_88 : decode bV_become 88 = .ok (.getfield 21, 3) := by decide +kernel
theorem dV_become_91 : decode bV_become 91 = .ok (.iconst 0, 1) := by decide +kernel
theorem dV_become_92 : decode bV_become 92 = .ok (.iconst 5, 1) := by decide +kernel
theorem dV_become_93 : decode bV_become 93 = .ok (.invokestatic 52, 3) := by decide +kernel
theorem dV_become_96 : decode bV_become 96 = .ok (.aload_n 1, 1) := by decide +kernel
theorem dV_become_97 : decode bV_become 97 = .ok (.getfield 24, 3) := by decide +kernel
theorem dV_become_100 : decode bV_become 100 = .ok (.iconst 0, 1) := by decide +kernel
theorem dV_become_101 : decode bV_become 101 = .ok (.aload_n 0, 1) := by decide +kernel
theorem dV_become_102 : decode bV_become 102 = .ok (.getfield 24, 3) := by decide +kernel
theorem dV_become_105 : decode bV_become 105 = .ok (.iconst 0, 1) := by decide +kernel
theorem dV_become_106 : decode bV_become 106 = .ok (.iconst 5, 1) := by decide +kernel
theorem dV_become_107 : decode bV_become 107 = .ok (.invokestatic 52, 3) := by decide +kernel
theorem dV_become_110 : decode bV_become 110 = .ok (.aload_n 1, 1) := by decide +kernel
theorem dV_become_111 : decode bV_become 111 = .ok (.getfield 27, 3) := by decide +kernel
theorem dV_become_114 : decode bV_become 114 = .ok (.iconst 0, 1) := by decide +kernel
theorem dV_become_115 : decode bV_become 115 = .ok (.aload_n 0, 1) := by decide +kernel
theorem dV_become_116 : decode bV_become 116 = .ok (.getfield 27, 3) := by decide +kernel
theorem dV_become_119 : decode bV_become 119 = .ok (.iconst 0, 1) := by decide +kernel
theorem dV_become_120 : decode bV_become 120 = .ok (.bipush 120, 2) := by decide +kernel
theorem dV_become_122 : decode bV_become 122 = .ok (.invokestatic 52, 3) := by decide +kernel
theorem dV_become_125 : decode bV_become 125 = .ok (.aload_n 1, 1) := by decide +kernel
theorem dV_become_126 : decode bV_become 126 = .ok (.getfield 30, 3) := by decide +kernel
theorem dV_become_129 : decode bV_become 129 = .ok (.iconst 0, 1) := by decide +kernel
theorem dV_become_130 : decode bV_become 130 = .ok (.aload_n 0, 1) := by decide +kernel
theorem dV_become_131 : decode bV_become 131 = .ok (.getfield 30, 3) := by decide +kernel
theorem dV_become_134 : decode bV_become 134 = .ok (.iconst 0, 1) := by decide +kernel
theorem dV_become_135 : decode bV_become 135 = .ok (.bipush 120, 2) := by decide +kernel
theorem dV_become_137 : decode bV_become 137 = .ok (.invokestatic 52, 3) := by decide +kernel
theorem dV_become_140 : decode bV_become 140 = .ok (.aload_n 1, 1) := by decide +kernel
theorem dV_become_141 : decode bV_become 141 = .ok (.getfield 33, 3) := by decide +kernel
theorem dV_become_144 : decode bV_become 144 = .ok (.iconst 0, 1) := by decide +kernel
theorem dV_become_145 : decode bV_become 145 = .ok (.aload_n 0, 1) := by decide +kernel
theorem dV_become_146 : decode bV_become 146 = .ok (.getfield 33, 3) := by decide +kernel
theorem dV_become_149 : decode bV_become 149 = .ok (.iconst 0, 1) := by decide +kernel
theorem dV_become_150 : decode bV_become 150 = .ok (.sipush 600, 3) := by decide +kernel
theorem dV_become_153 : decode bV_become 153 = .ok (.invokestatic 52, 3) := by decide +kernel
theorem dV_become_156 : decode bV_become 156 = .ok (.return_, 1) := by decide +kernel
def f_V_become (n : Nat) (c : Nat) (c1 : Nat) (s : mb_T) : Option (mb_T) := mb_bd (sF s c 0 (s.1 c1 0)) fun s1 => mb_bd (sF s1 c 1 (s1.1 c1 1)) fun s3 => mb_bd (sF s3 c 2 (s3.1 c1 2)) fun s5 => mb_bd (sF s5 c 3 (s5.1 c1 3)) fun s7 => mb_bd (sF s7 c 4 (s7.1 c1 4)) fun s9 => mb_cp s9 (c1 + 5) 5 (c + 5) 5 0 0 5 fun s11 => mb_cp s11 (c1 + 6) 5 (c + 6) 5 0 0 5 fun s14 => mb_cp s14 (c1 + 7) 5 (c + 7) 5 0 0 5 fun s17 => mb_cp s17 (c1 + 8) 5 (c + 8) 5 0 0 5 fun s20 => mb_cp s20 (c1 + 9) 5 (c + 9) 5 0 0 5 fun s23 => mb_cp s23 (c1 + 10) 120 (c + 10) 120 0 0 120 fun s26 => mb_cp s26 (c1 + 11) 120 (c + 11) 120 0 0 120 fun s29 => mb_cp s29 (c1 + 12) 600 (c + 12) 600 0 0 600 fun s32 => some s32
set_option maxHeartbeats 4000000 in
set_option maxRecDepth 100000 in
theorem t_V_become {dd n : Nat} {c : Nat} {c1 : Nat} {s : mb_T} {out : mb_T} (hc : mb_cv c) (hc1 : mb_cv c1) (h : f_V_become n c c1 s = some out) : mb_MC (dd + 1) yV_become bV_become 2 none [.ref c, .ref c1] s none out := by
  unfold f_V_become at h
  refine mj_mc (lv := [.ref c, .ref c1]) mV_become rfl rfl (Nat.le_of_ble_eq_true rfl) (fun K hK hR => ?_)
  have hK : mj_C (dd + 1) 0 0 RV_c "become" bV_become 2 K := hK
  refine ro_aload_n hK dV_become_0 rfl ?_
  refine ro_aload_n hK dV_become_1 rfl ?_
  refine rb_get hK fV_36 (mb_cvo hc1) rfl dV_become_2 ?_
  obtain ⟨s1, e2, h⟩ := mb_bd_e h
  refine rb_put hK gV_36 (mb_cvo hc) (mb_cvs (by decide)) (by show 0 < 13; decide) rfl rfl e2 dV_become_5 ?_
  refine ro_aload_n hK dV_become_8 rfl ?_
  refine ro_aload_n hK dV_become_9 rfl ?_
  refine rb_get hK fV_40 (mb_cvo hc1) rfl dV_become_10 ?_
  obtain ⟨s3, e4, h⟩ := mb_bd_e h
  refine rb_put hK gV_40 (mb_cvo hc) (mb_cvs (by decide)) (by show 1 < 13; decide) rfl rfl e4 dV_become_13 ?_
  refine ro_aload_n hK dV_become_16 rfl ?_
  refine ro_aload_n hK dV_become_17 rfl ?_
  refine rb_get hK fV_43 (mb_cvo hc1) rfl dV_become_18 ?_
  obtain ⟨s5, e6, h⟩ := mb_bd_e h
  refine rb_put hK gV_43 (mb_cvo hc) (mb_cvs (by decide)) (by show 2 < 13; decide) rfl rfl e6 dV_become_21 ?_
  refine ro_aload_n hK dV_become_24 rfl ?_
  refine ro_aload_n hK dV_become_25 rfl ?_
  refine rb_get hK fV_46 (mb_cvo hc1) rfl dV_become_26 ?_
  obtain ⟨s7, e8, h⟩ := mb_bd_e h
  refine rb_put hK gV_46 (mb_cvo hc) (mb_cvs (by decide)) (by show 3 < 13; decide) rfl rfl e8 dV_become_29 ?_
  refine ro_aload_n hK dV_become_32 rfl ?_
  refine ro_aload_n hK dV_become_33 rfl ?_
  refine rb_get hK fV_49 (mb_cvo hc1) rfl dV_become_34 ?_
  obtain ⟨s9, e10, h⟩ := mb_bd_e h
  refine rb_put hK gV_49 (mb_cvo hc) (mb_cvs (by decide)) (by show 4 < 13; decide) rfl rfl e10 dV_become_37 ?_
  refine ro_aload_n hK dV_become_40 rfl ?_
  refine rb_get hK fV_9 (mb_cvo hc1) rfl dV_become_41 ?_
  refine ro_iconst (x := 0) hK (by decide) dV_become_44 ?_
  refine ro_aload_n hK dV_become_45 rfl ?_
  refine rb_get hK fV_9 (mb_cvo hc) rfl dV_become_46 ?_
  refine ro_iconst (x := 0) hK (by decide) dV_become_49 ?_
  refine ro_iconst (x := 5) hK (by decide) dV_become_50 ?_
  obtain ⟨s11, e12, i13, h⟩ := mb_cp_e h
  refine rb_copy hK vV_52 (by omega) (Nat.le_of_ble_eq_true rfl) (mb_cv5 hc1) (mb_cv5 hc) i13 e12 dV_become_51 ?_
  refine ro_aload_n hK dV_become_54 rfl ?_
  refine rb_get hK fV_15 (mb_cvo hc1) rfl dV_become_55 ?_
  refine ro_iconst (x := 0) hK (by decide) dV_become_58 ?_
  refine ro_aload_n hK dV_become_59 rfl ?_
  refine rb_get hK fV_15 (mb_cvo hc) rfl dV_become_60 ?_
  refine ro_iconst (x := 0) hK (by decide) dV_become_63 ?_
  refine ro_iconst (x := 5) hK (by decide) dV_become_64 ?_
  obtain ⟨s14, e15, i16, h⟩ := mb_cp_e h
  refine rb_copy hK vV_52 (by omega) (Nat.le_of_ble_eq_true rfl) (mb_cv6 hc1) (mb_cv6 hc) i16 e15 dV_become_65 ?_
  refine ro_aload_n hK dV_become_68 rfl ?_
  refine rb_get hK fV_18 (mb_cvo hc1) rfl dV_become_69 ?_
  refine ro_iconst (x := 0) hK (by decide) dV_become_72 ?_
  refine ro_aload_n hK dV_become_73 rfl ?_
  refine rb_get hK fV_18 (mb_cvo hc) rfl dV_become_74 ?_
  refine ro_iconst (x := 0) hK (by decide) dV_become_77 ?_
  refine ro_iconst (x := 5) hK (by decide) dV_become_78 ?_
  obtain ⟨s17, e18, i19, h⟩ := mb_cp_e h
  refine rb_copy hK vV_52 (by omega) (Nat.le_of_ble_eq_true rfl) (mb_cv7 hc1) (mb_cv7 hc) i19 e18 dV_become_79 ?_
  refine ro_aload_n hK dV_become_82 rfl ?_
  refine rb_get hK fV_21 (mb_cvo hc1) rfl dV_become_83 ?_
  refine ro_iconst (x := 0) hK (by decide) dV_become_86 ?_
  refine ro_aload_n hK dV_become_87 rfl ?_
  refine rb_get hK fV_21 (mb_cvo hc) rfl dV_become_88 ?_
  refine ro_iconst (x := 0) hK (by decide) dV_become_91 ?_
  refine ro_iconst (x := 5) hK (by decide) dV_become_92 ?_
  obtain ⟨s20, e21, i22, h⟩ := mb_cp_e h
  refine rb_copy hK vV_52 (by omega) (Nat.le_of_ble_eq_true rfl) (mb_cv8 hc1) (mb_cv8 hc) i22 e21 dV_become_93 ?_
  refine ro_aload_n hK dV_become_96 rfl ?_
  refine rb_get hK fV_24 (mb_cvo hc1) rfl dV_become_97 ?_
  refine ro_iconst (x := 0) hK (by decide) dV_become_100 ?_
  refine ro_aload_n hK dV_become_101 rfl ?_
  refine rb_get hK fV_24 (mb_cvo hc) rfl dV_become_102 ?_
  refine ro_iconst (x := 0) hK (by decide) dV_become_105 ?_
  refine ro_iconst (x := 5) hK (by decide) dV_become_106 ?_
  obtain ⟨s23, e24, i25, h⟩ := mb_cp_e h
  refine rb_copy hK vV_52 (by omega) (Nat.le_of_ble_eq_true rfl) (mb_cv9 hc1) (mb_cv9 hc) i25 e24 dV_become_107 ?_
  refine ro_aload_n hK dV_become_110 rfl ?_
  refine rb_get hK fV_27 (mb_cvo hc1) rfl dV_become_111 ?_
  refine ro_iconst (x := 0) hK (by decide) dV_become_114 ?_
  refine ro_aload_n hK dV_become_115 rfl ?_
  refine rb_get hK fV_27 (mb_cvo hc) rfl dV_become_116 ?_
  refine ro_iconst (x := 0) hK (by decide) dV_become_119 ?_
  refine ro_bipush (x := 120) hK (by decide) dV_become_120 ?_
  obtain ⟨s26, e27, i28, h⟩ := mb_cp_e h
  refine rb_copy hK vV_52 (by omega) (Nat.le_of_ble_eq_true rfl) (mb_cv10 hc1) (mb_cv10 hc) i28 e27 dV_become_122 ?_
  refine ro_aload_n hK dV_become_125 rfl ?_
  refine rb_get hK fV_30 (mb_cvo hc1) rfl dV_become_126 ?_
  refine ro_iconst (x := 0) hK (by decide) dV_become_129 ?_
  refine ro_aload_n hK dV_become_130 rfl ?_
  refine rb_get hK fV_30 (mb_cvo hc) rfl dV_become_131 ?_
  refine ro_iconst (x := 0) hK (by decide) dV_become_134 ?_
  refine ro_bipush (x := 120) hK (by decide) dV_become_135 ?_
  obtain ⟨s29, e30, i31, h⟩ := mb_cp_e h
  refine rb_copy hK vV_52 (by omega) (Nat.le_of_ble_eq_true rfl) (mb_cv11 hc1) (mb_cv11 hc) i31 e30 dV_become_137 ?_
  refine ro_aload_n hK dV_become_140 rfl ?_
  refine rb_get hK fV_33 (mb_cvo hc1) rfl dV_become_141 ?_
  refine ro_iconst (x := 0) hK (by decide) dV_become_144 ?_
  refine ro_aload_n hK dV_become_145 rfl ?_
  refine rb_get hK fV_33 (mb_cvo hc) rfl dV_become_146 ?_
  refine ro_iconst (x := 0) hK (by decide) dV_become_149 ?_
  refine ro_sipush (x := 600) hK (by decide) dV_become_150 ?_
  obtain ⟨s32, e33, i34, h⟩ := mb_cp_e h
  refine rb_copy hK vV_52 (by omega) (Nat.le_of_ble_eq_true rfl) (mb_cv12 hc1) (mb_cv12 hc) i34 e33 dV_become_153 ?_
  cases h
  exact hR.2.2 0 0 156 _ _ rfl dV_become_156 ⟨rfl, rfl⟩
theorem dR_kindOf_0 : decode bR_kindOf 0 = .ok (.iload_n 0, 1) := by decide +kernel
theorem dR_kindOf_1 : decode bR_kindOf 1 = .ok (.tableswitch 95 99 115 #[85, 95, 95, 95, 93, 95, 95, 95, 87, 89, 95, 95, 95, 83, 95, 95, 91], 83) := by decide +kernel
theorem dR_kindOf_84 : decode bR_kindOf 84 = .ok (.iconst 0, 1) := by decide +kernel
theorem dR_kindOf_85 : decode bR_kindOf 85 = .ok (.ireturn, 1) := by decide +kernel
theorem dR_kindOf_86 : decode bR_kindOf 86 = .ok (.iconst 1, 1) := by decide +kernel
theorem dR_kindOf_87 : decode bR_kindOf 87 = .ok (.ireturn, 1) := by decide +kernel
theorem dR_kindOf_88 : decode bR_kindOf 88 = .ok (.iconst 2, 1) := by decide +kernel
theorem dR_kindOf_89 : decode bR_kindOf 89 = .ok (.ireturn, 1) := by decide +kernel
theorem dR_kindOf_90 : decode bR_kindOf 90 = .ok (.iconst 3, 1) := by decide +kernel
theorem dR_kindOf_91 : decode bR_kindOf 91 = .ok (.ireturn, 1) := by decide +kernel
theorem dR_kindOf_92 : decode bR_kindOf 92 = .ok (.iconst 4, 1) := by decide +kernel
theorem dR_kindOf_93 : decode bR_kindOf 93 = .ok (.ireturn, 1) := by decide +kernel
theorem dR_kindOf_94 : decode bR_kindOf 94 = .ok (.iconst 5, 1) := by decide +kernel
theorem dR_kindOf_95 : decode bR_kindOf 95 = .ok (.ireturn, 1) := by decide +kernel
theorem dR_kindOf_96 : decode bR_kindOf 96 = .ok (.bipush (-9), 2) := by decide +kernel
theorem dR_kindOf_98 : decode bR_kindOf 98 = .ok (.ireturn, 1) := by decide +kernel
def f_R_kindOf (n : Nat) (x1 : Int32) (s : mb_T) : Option (Int32 × mb_T) := if x1 = 99 then some (1, s) else if x1 = 100 then some ((-9), s) else if x1 = 101 then some ((-9), s) else if x1 = 102 then some ((-9), s) else if x1 = 103 then some (5, s) else if x1 = 104 then some ((-9), s) else if x1 = 105 then some ((-9), s) else if x1 = 106 then some ((-9), s) else if x1 = 107 then some (2, s) else if x1 = 108 then some (3, s) else if x1 = 109 then some ((-9), s) else if x1 = 110 then some ((-9), s) else if x1 = 111 then some ((-9), s) else if x1 = 112 then some (0, s) else if x1 = 113 then some ((-9), s) else if x1 = 114 then some ((-9), s) else if x1 = 115 then some (4, s) else some ((-9), s)
set_option maxHeartbeats 4000000 in
set_option maxRecDepth 100000 in
theorem t_R_kindOf {dd n : Nat} {x1 : Int32} {s : mb_T} {out : Int32 × mb_T}  (h : f_R_kindOf n x1 s = some out) : mb_MC (dd + 1) yR_kindOf bR_kindOf 1 (some .int) [.int x1] s (some (.int out.1)) out.2 := by
  unfold f_R_kindOf at h
  refine mj_mc (lv := [.int x1]) mR_kindOf rfl rfl (Nat.le_of_ble_eq_true rfl) (fun K hK hR => ?_)
  have hK : mj_C (dd + 1) 0 0 RR_c "kindOf" bR_kindOf 1 K := hK
  refine ro_iload_n hK dR_kindOf_0 rfl ?_
  by_cases c1 : x1 = 99
  · replace h := mb_ift c1 h
    refine ro_tabIn (off := 85) (tgt := 86) hK dR_kindOf_1 (by rw [c1]; decide) (by rw [c1]; decide) (by rw [c1]; decide) (by decide) ?_
    refine ro_iconst (x := 1) hK (by decide) dR_kindOf_86 ?_
    cases h
    exact hR.1 0 0 87 _ _ _ _ rfl rfl dR_kindOf_87 ⟨rfl, rfl⟩
  · replace h := mb_iff c1 h
    by_cases c2 : x1 = 100
    · replace h := mb_ift c2 h
      refine ro_tabIn (off := 95) (tgt := 96) hK dR_kindOf_1 (by rw [c2]; decide) (by rw [c2]; decide) (by rw [c2]; decide) (by decide) ?_
      refine ro_bipush (x := (-9)) hK (by decide) dR_kindOf_96 ?_
      cases h
      exact hR.1 0 0 98 _ _ _ _ rfl rfl dR_kindOf_98 ⟨rfl, rfl⟩
    · replace h := mb_iff c2 h
      by_cases c3 : x1 = 101
      · replace h := mb_ift c3 h
        refine ro_tabIn (off := 95) (tgt := 96) hK dR_kindOf_1 (by rw [c3]; decide) (by rw [c3]; decide) (by rw [c3]; decide) (by decide) ?_
        refine ro_bipush (x := (-9)) hK (by decide) dR_kindOf_96 ?_
        cases h
        exact hR.1 0 0 98 _ _ _ _ rfl rfl dR_kindOf_98 ⟨rfl, rfl⟩
      · replace h := mb_iff c3 h
        by_cases c4 : x1 = 102
        · replace h := mb_ift c4 h
          refine ro_tabIn (off := 95) (tgt := 96) hK dR_kindOf_1 (by rw [c4]; decide) (by rw [c4]; decide) (by rw [c4]; decide) (by decide) ?_
          refine ro_bipush (x := (-9)) hK (by decide) dR_kindOf_96 ?_
          cases h
          exact hR.1 0 0 98 _ _ _ _ rfl rfl dR_kindOf_98 ⟨rfl, rfl⟩
        · replace h := mb_iff c4 h
          by_cases c5 : x1 = 103
          · replace h := mb_ift c5 h
            refine ro_tabIn (off := 93) (tgt := 94) hK dR_kindOf_1 (by rw [c5]; decide) (by rw [c5]; decide) (by rw [c5]; decide) (by decide) ?_
            refine ro_iconst (x := 5) hK (by decide) dR_kindOf_94 ?_
            cases h
            exact hR.1 0 0 95 _ _ _ _ rfl rfl dR_kindOf_95 ⟨rfl, rfl⟩
          · replace h := mb_iff c5 h
            by_cases c6 : x1 = 104
            · replace h := mb_ift c6 h
              refine ro_tabIn (off := 95) (tgt := 96) hK dR_kindOf_1 (by rw [c6]; decide) (by rw [c6]; decide) (by rw [c6]; decide) (by decide) ?_
              refine ro_bipush (x := (-9)) hK (by decide) dR_kindOf_96 ?_
              cases h
              exact hR.1 0 0 98 _ _ _ _ rfl rfl dR_kindOf_98 ⟨rfl, rfl⟩
            · replace h := mb_iff c6 h
              by_cases c7 : x1 = 105
              · replace h := mb_ift c7 h
                refine ro_tabIn (off := 95) (tgt := 96) hK dR_kindOf_1 (by rw [c7]; decide) (by rw [c7]; decide) (by rw [c7]; decide) (by decide) ?_
                refine ro_bipush (x := (-9)) hK (by decide) dR_kindOf_96 ?_
                cases h
                exact hR.1 0 0 98 _ _ _ _ rfl rfl dR_kindOf_98 ⟨rfl, rfl⟩
              · replace h := mb_iff c7 h
                by_cases c8 : x1 = 106
                · replace h := mb_ift c8 h
                  refine ro_tabIn (off := 95) (tgt := 96) hK dR_kindOf_1 (by rw [c8]; decide) (by rw [c8]; decide) (by rw [c8]; decide) (by decide) ?_
                  refine ro_bipush (x := (-9)) hK (by decide) dR_kindOf_96 ?_
                  cases h
                  exact hR.1 0 0 98 _ _ _ _ rfl rfl dR_kindOf_98 ⟨rfl, rfl⟩
                · replace h := mb_iff c8 h
                  by_cases c9 : x1 = 107
                  · replace h := mb_ift c9 h
                    refine ro_tabIn (off := 87) (tgt := 88) hK dR_kindOf_1 (by rw [c9]; decide) (by rw [c9]; decide) (by rw [c9]; decide) (by decide) ?_
                    refine ro_iconst (x := 2) hK (by decide) dR_kindOf_88 ?_
                    cases h
                    exact hR.1 0 0 89 _ _ _ _ rfl rfl dR_kindOf_89 ⟨rfl, rfl⟩
                  · replace h := mb_iff c9 h
                    by_cases c10 : x1 = 108
                    · replace h := mb_ift c10 h
                      refine ro_tabIn (off := 89) (tgt := 90) hK dR_kindOf_1 (by rw [c10]; decide) (by rw [c10]; decide) (by rw [c10]; decide) (by decide) ?_
                      refine ro_iconst (x := 3) hK (by decide) dR_kindOf_90 ?_
                      cases h
                      exact hR.1 0 0 91 _ _ _ _ rfl rfl dR_kindOf_91 ⟨rfl, rfl⟩
                    · replace h := mb_iff c10 h
                      by_cases c11 : x1 = 109
                      · replace h := mb_ift c11 h
                        refine ro_tabIn (off := 95) (tgt := 96) hK dR_kindOf_1 (by rw [c11]; decide) (by rw [c11]; decide) (by rw [c11]; decide) (by decide) ?_
                        refine ro_bipush (x := (-9)) hK (by decide) dR_kindOf_96 ?_
                        cases h
                        exact hR.1 0 0 98 _ _ _ _ rfl rfl dR_kindOf_98 ⟨rfl, rfl⟩
                      · replace h := mb_iff c11 h
                        by_cases c12 : x1 = 110
                        · replace h := mb_ift c12 h
                          refine ro_tabIn (off := 95) (tgt := 96) hK dR_kindOf_1 (by rw [c12]; decide) (by rw [c12]; decide) (by rw [c12]; decide) (by decide) ?_
                          refine ro_bipush (x := (-9)) hK (by decide) dR_kindOf_96 ?_
                          cases h
                          exact hR.1 0 0 98 _ _ _ _ rfl rfl dR_kindOf_98 ⟨rfl, rfl⟩
                        · replace h := mb_iff c12 h
                          by_cases c13 : x1 = 111
                          · replace h := mb_ift c13 h
                            refine ro_tabIn (off := 95) (tgt := 96) hK dR_kindOf_1 (by rw [c13]; decide) (by rw [c13]; decide) (by rw [c13]; decide) (by decide) ?_
                            refine ro_bipush (x := (-9)) hK (by decide) dR_kindOf_96 ?_
                            cases h
                            exact hR.1 0 0 98 _ _ _ _ rfl rfl dR_kindOf_98 ⟨rfl, rfl⟩
                          · replace h := mb_iff c13 h
                            by_cases c14 : x1 = 112
                            · replace h := mb_ift c14 h
                              refine ro_tabIn (off := 83) (tgt := 84) hK dR_kindOf_1 (by rw [c14]; decide) (by rw [c14]; decide) (by rw [c14]; decide) (by decide) ?_
                              refine ro_iconst (x := 0) hK (by decide) dR_kindOf_84 ?_
                              cases h
                              exact hR.1 0 0 85 _ _ _ _ rfl rfl dR_kindOf_85 ⟨rfl, rfl⟩
                            · replace h := mb_iff c14 h
                              by_cases c15 : x1 = 113
                              · replace h := mb_ift c15 h
                                refine ro_tabIn (off := 95) (tgt := 96) hK dR_kindOf_1 (by rw [c15]; decide) (by rw [c15]; decide) (by rw [c15]; decide) (by decide) ?_
                                refine ro_bipush (x := (-9)) hK (by decide) dR_kindOf_96 ?_
                                cases h
                                exact hR.1 0 0 98 _ _ _ _ rfl rfl dR_kindOf_98 ⟨rfl, rfl⟩
                              · replace h := mb_iff c15 h
                                by_cases c16 : x1 = 114
                                · replace h := mb_ift c16 h
                                  refine ro_tabIn (off := 95) (tgt := 96) hK dR_kindOf_1 (by rw [c16]; decide) (by rw [c16]; decide) (by rw [c16]; decide) (by decide) ?_
                                  refine ro_bipush (x := (-9)) hK (by decide) dR_kindOf_96 ?_
                                  cases h
                                  exact hR.1 0 0 98 _ _ _ _ rfl rfl dR_kindOf_98 ⟨rfl, rfl⟩
                                · replace h := mb_iff c16 h
                                  by_cases c17 : x1 = 115
                                  · replace h := mb_ift c17 h
                                    refine ro_tabIn (off := 91) (tgt := 92) hK dR_kindOf_1 (by rw [c17]; decide) (by rw [c17]; decide) (by rw [c17]; decide) (by decide) ?_
                                    refine ro_iconst (x := 4) hK (by decide) dR_kindOf_92 ?_
                                    cases h
                                    exact hR.1 0 0 93 _ _ _ _ rfl rfl dR_kindOf_93 ⟨rfl, rfl⟩
                                  · replace h := mb_iff c17 h
                                    have hz : Int32.toInt x1 < 99 ∨ 115 < Int32.toInt x1 := by
                                      rcases Int.lt_or_le (Int32.toInt x1) 99 with hz | hz
                                      · exact Or.inl hz
                                      · rcases Int.lt_or_le 115 (Int32.toInt x1) with hw | hw
                                        · exact Or.inr hw
                                        · exfalso
                                          have ho : Int32.toInt x1 = 99 ∨ Int32.toInt x1 = 100 ∨ Int32.toInt x1 = 101 ∨ Int32.toInt x1 = 102 ∨ Int32.toInt x1 = 103 ∨ Int32.toInt x1 = 104 ∨ Int32.toInt x1 = 105 ∨ Int32.toInt x1 = 106 ∨ Int32.toInt x1 = 107 ∨ Int32.toInt x1 = 108 ∨ Int32.toInt x1 = 109 ∨ Int32.toInt x1 = 110 ∨ Int32.toInt x1 = 111 ∨ Int32.toInt x1 = 112 ∨ Int32.toInt x1 = 113 ∨ Int32.toInt x1 = 114 ∨ Int32.toInt x1 = 115 := by omega
                                          rcases ho with ho | ho | ho | ho | ho | ho | ho | ho | ho | ho | ho | ho | ho | ho | ho | ho | ho
                                          · exact c1 (Int32.toInt_inj.mp (by rw [ho]; decide))
                                          · exact c2 (Int32.toInt_inj.mp (by rw [ho]; decide))
                                          · exact c3 (Int32.toInt_inj.mp (by rw [ho]; decide))
                                          · exact c4 (Int32.toInt_inj.mp (by rw [ho]; decide))
                                          · exact c5 (Int32.toInt_inj.mp (by rw [ho]; decide))
                                          · exact c6 (Int32.toInt_inj.mp (by rw [ho]; decide))
                                          · exact c7 (Int32.toInt_inj.mp (by rw [ho]; decide))
                                          · exact c8 (Int32.toInt_inj.mp (by rw [ho]; decide))
                                          · exact c9 (Int32.toInt_inj.mp (by rw [ho]; decide))
                                          · exact c10 (Int32.toInt_inj.mp (by rw [ho]; decide))
                                          · exact c11 (Int32.toInt_inj.mp (by rw [ho]; decide))
                                          · exact c12 (Int32.toInt_inj.mp (by rw [ho]; decide))
                                          · exact c13 (Int32.toInt_inj.mp (by rw [ho]; decide))
                                          · exact c14 (Int32.toInt_inj.mp (by rw [ho]; decide))
                                          · exact c15 (Int32.toInt_inj.mp (by rw [ho]; decide))
                                          · exact c16 (Int32.toInt_inj.mp (by rw [ho]; decide))
                                          · exact c17 (Int32.toInt_inj.mp (by rw [ho]; decide))
                                    refine ro_tabOut (tgt := 96) hK dR_kindOf_1 hz (by decide) ?_
                                    refine ro_bipush (x := (-9)) hK (by decide) dR_kindOf_96 ?_
                                    cases h
                                    exact hR.1 0 0 98 _ _ _ _ rfl rfl dR_kindOf_98 ⟨rfl, rfl⟩
theorem dC_rowRefusal_0 : decode bC_rowRefusal 0 = .ok (.iload_n 1, 1) := by decide +kernel
theorem dC_rowRefusal_1 : decode bC_rowRefusal 1 = .ok (.invokestatic 83, 3) := by decide +kernel
theorem dC_rowRefusal_4 : decode bC_rowRefusal 4 = .ok (.ifCond .ne 5, 3) := by decide +kernel
theorem dC_rowRefusal_7 : decode bC_rowRefusal 7 = .ok (.iconst (-1), 1) := by decide +kernel
theorem dC_rowRefusal_8 : decode bC_rowRefusal 8 = .ok (.ireturn, 1) := by decide +kernel
theorem dC_rowRefusal_9 : decode bC_rowRefusal 9 = .ok (.aload_n 0, 1) := by decide +kernel
theorem dC_rowRefusal_10 : decode bC_rowRefusal 10 = .ok (.getfield 14, 3) := by decide +kernel
theorem dC_rowRefusal_13 : decode bC_rowRefusal 13 = .ok (.iload_n 1, 1) := by decide +kernel
theorem dC_rowRefusal_14 : decode bC_rowRefusal 14 = .ok (.iaload, 1) := by decide +kernel
theorem dC_rowRefusal_15 : decode bC_rowRefusal 15 = .ok (.ifCond .ge 11, 3) := by decide +kernel
theorem dC_rowRefusal_18 : decode bC_rowRefusal 18 = .ok (.aload_n 0, 1) := by decide +kernel
theorem dC_rowRefusal_19 : decode bC_rowRefusal 19 = .ok (.iconst 1, 1) := by decide +kernel
theorem dC_rowRefusal_20 : decode bC_rowRefusal 20 = .ok (.invokevirtual 87, 3) := by decide +kernel
theorem dC_rowRefusal_23 : decode bC_rowRefusal 23 = .ok (.goto 4, 3) := by decide +kernel
theorem dC_rowRefusal_26 : decode bC_rowRefusal 26 = .ok (.iconst 0, 1) := by decide +kernel
theorem dC_rowRefusal_27 : decode bC_rowRefusal 27 = .ok (.ireturn, 1) := by decide +kernel
def f_C_rowRefusal (n : Nat) (x1 : Int32) (s : mb_T) : Option (Int32 × mb_T) := mb_cl (f_C_isRow n x1 s) fun r3 s1 => if r3 = 0 then some ((-1), s1) else mb_rd s1 1 6 x1 fun x5 => if 0 ≤ x5 then some (0, s1) else mb_cl (f_C_found n 1 s1) fun r11 s9 => some (r11, s9)
set_option maxHeartbeats 4000000 in
set_option maxRecDepth 100000 in
theorem t_C_rowRefusal {dd n : Nat} {x1 : Int32} {s : mb_T} {out : Int32 × mb_T}  (h : f_C_rowRefusal n x1 s = some out) : mb_MC (dd + 2) yC_rowRefusal bC_rowRefusal 2 (some .int) [.ref 0, .int x1] s (some (.int out.1)) out.2 := by
  unfold f_C_rowRefusal at h
  refine mj_mc (lv := [.ref 0, .int x1]) mC_rowRefusal rfl rfl (Nat.le_of_ble_eq_true rfl) (fun K hK hR => ?_)
  have hK : mj_C (dd + 2) 0 0 RC_c "rowRefusal" bC_rowRefusal 2 K := hK
  refine ro_iload_n hK dC_rowRefusal_0 rfl ?_
  obtain ⟨r3, s1, q2, h⟩ := mb_cl_e h
  refine rb_callS hK mC_isRow vC_83 (t_C_isRow (dd := dd + 0) q2) rfl (Nat.le_of_ble_eq_true rfl) dC_rowRefusal_1 rfl ⟨Nat.le_refl _, Nat.le_refl _⟩ ?_
  show K 0 0 4 [.ref 0, .int x1] [.int r3] (mb_s s1)
  refine ro_if_ne (tgt := 9) hK dC_rowRefusal_4 (by decide) (fun c4 => ?_) (fun c4 => ?_)
  · replace h := mb_iff c4 h
    refine ro_aload_n hK dC_rowRefusal_9 rfl ?_
    refine rb_get hK fC_14 mb_oC rfl dC_rowRefusal_10 ?_
    refine ro_iload_n hK dC_rowRefusal_13 rfl ?_
    obtain ⟨x5, e6, i7, h⟩ := mb_rd_e h
    refine rb_iald hK ai_1 i7 e6 dC_rowRefusal_14 ?_
    refine ro_if_ge (tgt := 26) hK dC_rowRefusal_15 (by decide) (fun c8 => ?_) (fun c8 => ?_)
    · replace h := mb_ift c8 h
      refine ro_iconst (x := 0) hK (by decide) dC_rowRefusal_26 ?_
      cases h
      exact hR.1 0 0 27 _ _ _ _ rfl rfl dC_rowRefusal_27 ⟨rfl, rfl⟩
    · replace h := mb_iff c8 h
      refine ro_aload_n hK dC_rowRefusal_18 rfl ?_
      refine ro_iconst (x := 1) hK (by decide) dC_rowRefusal_19 ?_
      obtain ⟨r11, s9, q10, h⟩ := mb_cl_e h
      refine rb_callV hK mC_found vC_87 (t_C_found (dd := dd + 0) q10) rfl mb_oC rfl (Nat.le_of_ble_eq_true rfl) dC_rowRefusal_20 rfl ⟨Nat.le_refl _, Nat.le_refl _⟩ ?_
      show K 0 0 23 [.ref 0, .int x1] [.int r11] (mb_s s9)
      refine ro_goto (tgt := 27) hK dC_rowRefusal_23 (by decide) ?_
      cases h
      exact hR.1 0 0 27 _ _ _ _ rfl rfl dC_rowRefusal_27 ⟨rfl, rfl⟩
  · replace h := mb_ift c4 h
    refine ro_iconst (x := (-1)) hK (by decide) dC_rowRefusal_7 ?_
    cases h
    exact hR.1 0 0 8 _ _ _ _ rfl rfl dC_rowRefusal_8 ⟨rfl, rfl⟩
theorem dA_bitsBeside_0 : decode bA_bitsBeside 0 = .ok (.aload_n 0, 1) := by decide +kernel
theorem dA_bitsBeside_1 : decode bA_bitsBeside 1 = .ok (.iload_n 1, 1) := by decide +kernel
theorem dA_bitsBeside_2 : decode bA_bitsBeside 2 = .ok (.invokevirtual 103, 3) := by decide +kernel
theorem dA_bitsBeside_5 : decode bA_bitsBeside 5 = .ok (.ifCond .eq 12, 3) := by decide +kernel
theorem dA_bitsBeside_8 : decode bA_bitsBeside 8 = .ok (.aload_n 0, 1) := by decide +kernel
theorem dA_bitsBeside_9 : decode bA_bitsBeside 9 = .ok (.getfield 30, 3) := by decide +kernel
theorem dA_bitsBeside_12 : decode bA_bitsBeside 12 = .ok (.iload_n 1, 1) := by decide +kernel
theorem dA_bitsBeside_13 : decode bA_bitsBeside 13 = .ok (.iaload, 1) := by decide +kernel
theorem dA_bitsBeside_14 : decode bA_bitsBeside 14 = .ok (.goto 4, 3) := by decide +kernel
theorem dA_bitsBeside_17 : decode bA_bitsBeside 17 = .ok (.iconst 0, 1) := by decide +kernel
theorem dA_bitsBeside_18 : decode bA_bitsBeside 18 = .ok (.ireturn, 1) := by decide +kernel
def f_A_bitsBeside (n : Nat) (x1 : Int32) (s : mb_T) : Option (Int32 × mb_T) := mb_cl (f_A_isHere n x1 s) fun r3 s1 => if r3 = 0 then some (0, s1) else mb_rd s1 53 5 x1 fun x5 => some (x5, s1)
set_option maxHeartbeats 4000000 in
set_option maxRecDepth 100000 in
theorem t_A_bitsBeside {dd n : Nat} {x1 : Int32} {s : mb_T} {out : Int32 × mb_T}  (h : f_A_bitsBeside n x1 s = some out) : mb_MC (dd + 2) yA_bitsBeside bA_bitsBeside 2 (some .int) [.ref 40, .int x1] s (some (.int out.1)) out.2 := by
  unfold f_A_bitsBeside at h
  refine mj_mc (lv := [.ref 40, .int x1]) mA_bitsBeside rfl rfl (Nat.le_of_ble_eq_true rfl) (fun K hK hR => ?_)
  have hK : mj_C (dd + 2) 0 0 RA_c "bitsBeside" bA_bitsBeside 2 K := hK
  refine ro_aload_n hK dA_bitsBeside_0 rfl ?_
  refine ro_iload_n hK dA_bitsBeside_1 rfl ?_
  obtain ⟨r3, s1, q2, h⟩ := mb_cl_e h
  refine rb_callV hK mA_isHere vA_103 (t_A_isHere (dd := dd + 0) q2) rfl mb_oA rfl (Nat.le_of_ble_eq_true rfl) dA_bitsBeside_2 rfl ⟨Nat.le_refl _, Nat.le_refl _⟩ ?_
  show K 0 0 5 [.ref 40, .int x1] [.int r3] (mb_s s1)
  refine ro_if_eq (tgt := 17) hK dA_bitsBeside_5 (by decide) (fun c4 => ?_) (fun c4 => ?_)
  · replace h := mb_ift c4 h
    refine ro_iconst (x := 0) hK (by decide) dA_bitsBeside_17 ?_
    cases h
    exact hR.1 0 0 18 _ _ _ _ rfl rfl dA_bitsBeside_18 ⟨rfl, rfl⟩
  · replace h := mb_iff c4 h
    refine ro_aload_n hK dA_bitsBeside_8 rfl ?_
    refine rb_get hK fA_30 mb_oA rfl dA_bitsBeside_9 ?_
    refine ro_iload_n hK dA_bitsBeside_12 rfl ?_
    obtain ⟨x5, e6, i7, h⟩ := mb_rd_e h
    refine rb_iald hK ai_53 i7 e6 dA_bitsBeside_13 ?_
    refine ro_goto (tgt := 18) hK dA_bitsBeside_14 (by decide) ?_
    cases h
    exact hR.1 0 0 18 _ _ _ _ rfl rfl dA_bitsBeside_18 ⟨rfl, rfl⟩
theorem dA_isOver_0 : decode bA_isOver 0 = .ok (.aload_n 0, 1) := by decide +kernel
theorem dA_isOver_1 : decode bA_isOver 1 = .ok (.invokevirtual 140, 3) := by decide +kernel
theorem dA_isOver_4 : decode bA_isOver 4 = .ok (.ifCond .eq 7, 3) := by decide +kernel
theorem dA_isOver_7 : decode bA_isOver 7 = .ok (.iconst 1, 1) := by decide +kernel
theorem dA_isOver_8 : decode bA_isOver 8 = .ok (.goto 4, 3) := by decide +kernel
theorem dA_isOver_11 : decode bA_isOver 11 = .ok (.iconst 0, 1) := by decide +kernel
theorem dA_isOver_12 : decode bA_isOver 12 = .ok (.ireturn, 1) := by decide +kernel
def f_A_isOver (n : Nat)  (s : mb_T) : Option (Int32 × mb_T) := mb_cl (f_A_whoScream n s) fun r3 s1 => mb_bz (if r3 = 0 then 0 else 1 : Int32) (some ((if r3 = 0 then 0 else 1 : Int32), s1))
set_option maxHeartbeats 4000000 in
set_option maxRecDepth 100000 in
theorem t_A_isOver {dd n : Nat}  {s : mb_T} {out : Int32 × mb_T}  (h : f_A_isOver n  s = some out) : mb_MC (dd + 2) yA_isOver bA_isOver 1 (some .boolean) [.ref 40] s (some (.int out.1)) out.2 := by
  unfold f_A_isOver at h
  refine mj_mc (lv := [.ref 40]) mA_isOver rfl rfl (Nat.le_of_ble_eq_true rfl) (fun K hK hR => ?_)
  have hK : mj_C (dd + 2) 0 0 RA_c "isOver" bA_isOver 1 K := hK
  refine ro_aload_n hK dA_isOver_0 rfl ?_
  obtain ⟨r3, s1, q2, h⟩ := mb_cl_e h
  refine rb_callV hK mA_whoScream vA_140 (t_A_whoScream (dd := dd + 0) q2) rfl mb_oA rfl (Nat.le_of_ble_eq_true rfl) dA_isOver_1 rfl ⟨Nat.le_refl _, Nat.le_refl _⟩ ?_
  show K 0 0 4 [.ref 40] [.int r3] (mb_s s1)
  have j5 : K 0 0 12 [.ref 40] [.int (if r3 = 0 then 0 else 1 : Int32)] (mb_s s1) → K 0 0 4 [.ref 40] [.int r3] (mb_s s1) := by
    intro hj
    refine ro_if_eq (tgt := 11) hK dA_isOver_4 (by decide) (fun c4 => ?_) (fun c4 => ?_)
    · skip
      refine ro_iconst (x := 0) hK (by decide) dA_isOver_11 ?_
      rw [if_pos c4] at hj
      exact hj
    · skip
      refine ro_iconst (x := 1) hK (by decide) dA_isOver_7 ?_
      refine ro_goto (tgt := 12) hK dA_isOver_8 (by decide) ?_
      rw [if_neg c4] at hj
      exact hj
  refine j5 ?_
  obtain ⟨z6, h⟩ := mb_bz_e h
  cases h
  exact hR.1 0 0 12 _ _ _ _ rfl (mb_nz z6) dA_isOver_12 ⟨rfl, rfl⟩
theorem dA_shows_0 : decode bA_shows 0 = .ok (.aload_n 0, 1) := by decide +kernel
theorem dA_shows_1 : decode bA_shows 1 = .ok (.iload_n 1, 1) := by decide +kernel
theorem dA_shows_2 : decode bA_shows 2 = .ok (.invokevirtual 103, 3) := by decide +kernel
theorem dA_shows_5 : decode bA_shows 5 = .ok (.ifCond .eq 13, 3) := by decide +kernel
theorem dA_shows_8 : decode bA_shows 8 = .ok (.aload_n 0, 1) := by decide +kernel
theorem dA_shows_9 : decode bA_shows 9 = .ok (.getfield 9, 3) := by decide +kernel
theorem dA_shows_12 : decode bA_shows 12 = .ok (.iload_n 1, 1) := by decide +kernel
theorem dA_shows_13 : decode bA_shows 13 = .ok (.iaload, 1) := by decide +kernel
theorem dA_shows_14 : decode bA_shows 14 = .ok (.iconst 5, 1) := by decide +kernel
theorem dA_shows_15 : decode bA_shows 15 = .ok (.if_icmp .ne 5, 3) := by decide +kernel
theorem dA_shows_18 : decode bA_shows 18 = .ok (.iconst (-1), 1) := by decide +kernel
theorem dA_shows_19 : decode bA_shows 19 = .ok (.ireturn, 1) := by decide +kernel
theorem dA_shows_20 : decode bA_shows 20 = .ok (.aload_n 0, 1) := by decide +kernel
theorem dA_shows_21 : decode bA_shows 21 = .ok (.getfield 15, 3) := by decide +kernel
theorem dA_shows_24 : decode bA_shows 24 = .ok (.iload_n 1, 1) := by decide +kernel
theorem dA_shows_25 : decode bA_shows 25 = .ok (.iaload, 1) := by decide +kernel
theorem dA_shows_26 : decode bA_shows 26 = .ok (.aload_n 0, 1) := by decide +kernel
theorem dA_shows_27 : decode bA_shows 27 = .ok (.getfield 76, 3) := by decide +kernel
theorem dA_shows_30 : decode bA_shows 30 = .ok (.iload_n 1, 1) := by decide +kernel
theorem dA_shows_31 : decode bA_shows 31 = .ok (.ishr, 1) := by decide +kernel
theorem dA_shows_32 : decode bA_shows 32 = .ok (.iconst 1, 1) := by decide +kernel
theorem dA_shows_33 : decode bA_shows 33 = .ok (.iand, 1) := by decide +kernel
theorem dA_shows_34 : decode bA_shows 34 = .ok (.ifCond .eq 8, 3) := by decide +kernel
theorem dA_shows_37 : decode bA_shows 37 = .ok (.bipush 9, 2) := by decide +kernel
theorem dA_shows_39 : decode bA_shows 39 = .ok (.goto 4, 3) := by decide +kernel
theorem dA_shows_42 : decode bA_shows 42 = .ok (.iconst 0, 1) := by decide +kernel
theorem dA_shows_43 : decode bA_shows 43 = .ok (.iadd, 1) := by decide +kernel
theorem dA_shows_44 : decode bA_shows 44 = .ok (.ireturn, 1) := by decide +kernel
def f_A_shows (n : Nat) (x1 : Int32) (s : mb_T) : Option (Int32 × mb_T) := mb_cl (f_A_isHere n x1 s) fun r3 s1 => if r3 = 0 then some ((-1), s1) else mb_rd s1 47 5 x1 fun x5 => if x5 = 5 then some ((-1), s1) else mb_rd s1 48 5 x1 fun x9 => some ((x9 + (if (((s1.1 40 6) >>> (x1 &&& 31)) &&& 1) = 0 then 0 else 9 : Int32)), s1)
set_option maxHeartbeats 4000000 in
set_option maxRecDepth 100000 in
theorem t_A_shows {dd n : Nat} {x1 : Int32} {s : mb_T} {out : Int32 × mb_T}  (h : f_A_shows n x1 s = some out) : mb_MC (dd + 2) yA_shows bA_shows 2 (some .int) [.ref 40, .int x1] s (some (.int out.1)) out.2 := by
  unfold f_A_shows at h
  refine mj_mc (lv := [.ref 40, .int x1]) mA_shows rfl rfl (Nat.le_of_ble_eq_true rfl) (fun K hK hR => ?_)
  have hK : mj_C (dd + 2) 0 0 RA_c "shows" bA_shows 2 K := hK
  refine ro_aload_n hK dA_shows_0 rfl ?_
  refine ro_iload_n hK dA_shows_1 rfl ?_
  obtain ⟨r3, s1, q2, h⟩ := mb_cl_e h
  refine rb_callV hK mA_isHere vA_103 (t_A_isHere (dd := dd + 0) q2) rfl mb_oA rfl (Nat.le_of_ble_eq_true rfl) dA_shows_2 rfl ⟨Nat.le_refl _, Nat.le_refl _⟩ ?_
  show K 0 0 5 [.ref 40, .int x1] [.int r3] (mb_s s1)
  refine ro_if_eq (tgt := 18) hK dA_shows_5 (by decide) (fun c4 => ?_) (fun c4 => ?_)
  · replace h := mb_ift c4 h
    refine ro_iconst (x := (-1)) hK (by decide) dA_shows_18 ?_
    cases h
    exact hR.1 0 0 19 _ _ _ _ rfl rfl dA_shows_19 ⟨rfl, rfl⟩
  · replace h := mb_iff c4 h
    refine ro_aload_n hK dA_shows_8 rfl ?_
    refine rb_get hK fA_9 mb_oA rfl dA_shows_9 ?_
    refine ro_iload_n hK dA_shows_12 rfl ?_
    obtain ⟨x5, e6, i7, h⟩ := mb_rd_e h
    refine rb_iald hK ai_47 i7 e6 dA_shows_13 ?_
    refine ro_iconst (x := 5) hK (by decide) dA_shows_14 ?_
    refine ro_icmp_ne (tgt := 20) hK dA_shows_15 (by decide) (fun c8 => ?_) (fun c8 => ?_)
    · replace h := mb_iff c8 h
      refine ro_aload_n hK dA_shows_20 rfl ?_
      refine rb_get hK fA_15 mb_oA rfl dA_shows_21 ?_
      refine ro_iload_n hK dA_shows_24 rfl ?_
      obtain ⟨x9, e10, i11, h⟩ := mb_rd_e h
      refine rb_iald hK ai_48 i11 e10 dA_shows_25 ?_
      refine ro_aload_n hK dA_shows_26 rfl ?_
      refine rb_get hK fA_76 mb_oA rfl dA_shows_27 ?_
      refine ro_iload_n hK dA_shows_30 rfl ?_
      refine ro_ishr hK dA_shows_31 ?_
      refine ro_iconst (x := 1) hK (by decide) dA_shows_32 ?_
      refine ro_iand hK dA_shows_33 ?_
      have j13 : K 0 0 43 [.ref 40, .int x1] [.int (if (((s1.1 40 6) >>> (x1 &&& 31)) &&& 1) = 0 then 0 else 9 : Int32), .int x9] (mb_s s1) → K 0 0 34 [.ref 40, .int x1] [.int (((s1.1 40 6) >>> (x1 &&& 31)) &&& 1), .int x9] (mb_s s1) := by
        intro hj
        refine ro_if_eq (tgt := 42) hK dA_shows_34 (by decide) (fun c12 => ?_) (fun c12 => ?_)
        · skip
          refine ro_iconst (x := 0) hK (by decide) dA_shows_42 ?_
          rw [if_pos c12] at hj
          exact hj
        · skip
          refine ro_bipush (x := 9) hK (by decide) dA_shows_37 ?_
          refine ro_goto (tgt := 43) hK dA_shows_39 (by decide) ?_
          rw [if_neg c12] at hj
          exact hj
      refine j13 ?_
      refine ro_iadd hK dA_shows_43 ?_
      cases h
      exact hR.1 0 0 44 _ _ _ _ rfl rfl dA_shows_44 ⟨rfl, rfl⟩
    · replace h := mb_ift c8 h
      refine ro_iconst (x := (-1)) hK (by decide) dA_shows_18 ?_
      cases h
      exact hR.1 0 0 19 _ _ _ _ rfl rfl dA_shows_19 ⟨rfl, rfl⟩
theorem dV_bitsOfKind_0 : decode bV_bitsOfKind 0 = .ok (.iconst 0, 1) := by decide +kernel
theorem dV_bitsOfKind_1 : decode bV_bitsOfKind 1 = .ok (.istore_n 2, 1) := by decide +kernel
theorem dV_bitsOfKind_2 : decode bV_bitsOfKind 2 = .ok (.iconst 0, 1) := by decide +kernel
theorem dV_bitsOfKind_3 : decode bV_bitsOfKind 3 = .ok (.istore_n 3, 1) := by decide +kernel
theorem dV_bitsOfKind_4 : decode bV_bitsOfKind 4 = .ok (.iload_n 3, 1) := by decide +kernel
theorem dV_bitsOfKind_5 : decode bV_bitsOfKind 5 = .ok (.aload_n 0, 1) := by decide +kernel
theorem dV_bitsOfKind_6 : decode bV_bitsOfKind 6 = .ok (.getfield 36, 3) := by decide +kernel
theorem dV_bitsOfKind_9 : decode bV_bitsOfKind 9 = .ok (.if_icmp .ge 32, 3) := by decide +kernel
theorem dV_bitsOfKind_12 : decode bV_bitsOfKind 12 = .ok (.iload_n 2, 1) := by decide +kernel
theorem dV_bitsOfKind_13 : decode bV_bitsOfKind 13 = .ok (.aload_n 0, 1) := by decide +kernel
theorem dV_bitsOfKind_14 : decode bV_bitsOfKind 14 = .ok (.getfield 9, 3) := by decide +kernel
theorem dV_bitsOfKind_17 : decode bV_bitsOfKind 17 = .ok (.iload_n 3, 1) := by decide +kernel
theorem dV_bitsOfKind_18 : decode bV_bitsOfKind 18 = .ok (.iaload, 1) := by decide +kernel
theorem dV_bitsOfKind_19 : decode bV_bitsOfKind 19 = .ok (.iload_n 1, 1) := by decide +kernel
theorem dV_bitsOfKind_20 : decode bV_bitsOfKind 20 = .ok (.invokestatic 63, 3) := by decide +kernel
theorem dV_bitsOfKind_23 : decode bV_bitsOfKind 23 = .ok (.ifCond .eq 9, 3) := by decide +kernel
theorem dV_bitsOfKind_26 : decode bV_bitsOfKind 26 = .ok (.iconst 1, 1) := by decide +kernel
theorem dV_bitsOfKind_27 : decode bV_bitsOfKind 27 = .ok (.iload_n 3, 1) := by decide +kernel
theorem dV_bitsOfKind_28 : decode bV_bitsOfKind 28 = .ok (.ishl, 1) := by decide +kernel
theorem dV_bitsOfKind_29 : decode bV_bitsOfKind 29 = .ok (.goto 4, 3) := by decide +kernel
theorem dV_bitsOfKind_32 : decode bV_bitsOfKind 32 = .ok (.iconst 0, 1) := by decide +kernel
theorem dV_bitsOfKind_33 : decode bV_bitsOfKind 33 = .ok (.ior, 1) := by decide +kernel
theorem dV_bitsOfKind_34 : decode bV_bitsOfKind 34 = .ok (.istore_n 2, 1) := by decide +kernel
theorem dV_bitsOfKind_35 : decode bV_bitsOfKind 35 = .ok (.iinc 3 1, 3) := by decide +kernel
theorem dV_bitsOfKind_38 : decode bV_bitsOfKind 38 = .ok (.goto (-34), 3) := by decide +kernel
theorem dV_bitsOfKind_41 : decode bV_bitsOfKind 41 = .ok (.iload_n 2, 1) := by decide +kernel
theorem dV_bitsOfKind_42 : decode bV_bitsOfKind 42 = .ok (.ireturn, 1) := by decide +kernel
def f_V_bitsOfKind_4 (n : Nat) (k0 : Int32 → Int32 → mb_T → Option (Int32 × mb_T)) (y0 : Nat) (y1 : Int32) : Nat → Int32 → Int32 → mb_T → Option (Int32 × mb_T)
  | 0, _, _, _ => none
  | f + 1, w2, w3, s => if (s.1 y0 0) ≤ w3 then k0 w2 w3 s else mb_rd s (y0 + 5) 5 w3 fun x2 => mb_cl (f_C_isOfKind n x2 y1 s) fun r7 s5 => f_V_bitsOfKind_4 n k0 y0 y1 f (w2 ||| (if r7 = 0 then 0 else (1 <<< (w3 &&& 31)) : Int32)) (w3 + 1) s5
def f_V_bitsOfKind (n : Nat) (c : Nat) (x1 : Int32) (s : mb_T) : Option (Int32 × mb_T) := f_V_bitsOfKind_4 n (fun x10 x11 s12 => some (x10, s12)) c x1 n 0 0 s
set_option maxHeartbeats 4000000 in
set_option maxRecDepth 100000 in
theorem tl_V_bitsOfKind_4 {dd n : Nat} {K : mj_KT} {out : Int32 × mb_T} (hK : mj_C (dd + 2) 0 0 RV_c "bitsOfKind" bV_bitsOfKind 4 K) (hR : mj_R bV_bitsOfKind (some .int) (fun r2 S2 => r2 = some (.int out.1) ∧ S2 = mb_s out.2) K) {k0 : Int32 → Int32 → mb_T → Option (Int32 × mb_T)} {y0 : Nat} {y1 : Int32} (hy0 : mb_cv y0) (hk0 : ∀ (w2 : Int32) (w3 : Int32) (s : mb_T), k0 w2 w3 s = some out → K 0 0 41 [.ref y0, .int y1, .int w2, .int w3] [] (mb_s s)) : ∀ (f : Nat) (w2 : Int32) (w3 : Int32) (s : mb_T), f_V_bitsOfKind_4 n k0 y0 y1 f w2 w3 s = some out → K 0 0 4 [.ref y0, .int y1, .int w2, .int w3] [] (mb_s s) := by
  intro f
  induction f with
  | zero =>
    intro w2 w3 s h
    cases h
  | succ f ih =>
    intro w2 w3 s h
    rw [f_V_bitsOfKind_4] at h
    refine ro_iload_n hK dV_bitsOfKind_4 rfl ?_
    refine ro_aload_n hK dV_bitsOfKind_5 rfl ?_
    refine rb_get hK fV_36 (mb_cvo hy0) rfl dV_bitsOfKind_6 ?_
    refine ro_icmp_ge (tgt := 41) hK dV_bitsOfKind_9 (by decide) (fun c1 => ?_) (fun c1 => ?_)
    · replace h := mb_ift c1 h
      refine ro_fg (lv' := [.ref y0, .int y1, .int w2, .int w3]) hK ⟨Or.inr rfl, ⟨Or.inr rfl, ⟨Or.inr rfl, ⟨Or.inr rfl, trivial⟩⟩⟩⟩ ?_
      exact hk0 _ _ _ h
    · replace h := mb_iff c1 h
      refine ro_iload_n hK dV_bitsOfKind_12 rfl ?_
      refine ro_aload_n hK dV_bitsOfKind_13 rfl ?_
      refine rb_get hK fV_9 (mb_cvo hy0) rfl dV_bitsOfKind_14 ?_
      refine ro_iload_n hK dV_bitsOfKind_17 rfl ?_
      obtain ⟨x2, e3, i4, h⟩ := mb_rd_e h
      refine rb_iald hK (mb_cv5 hy0) i4 e3 dV_bitsOfKind_18 ?_
      refine ro_iload_n hK dV_bitsOfKind_19 rfl ?_
      obtain ⟨r7, s5, q6, h⟩ := mb_cl_e h
      refine rb_callSN hK (host := RC_c) mC_isOfKind (by decide +kernel) vC_isOfKind_st (t_C_isOfKind (dd := dd + 0) q6) rfl (Nat.le_of_ble_eq_true rfl) dV_bitsOfKind_20 rfl ⟨Nat.le_refl _, Nat.le_refl _⟩ ?_
      show K 0 0 23 [.ref y0, .int y1, .int w2, .int w3] [.int r7, .int w2] (mb_s s5)
      have j9 : K 0 0 33 [.ref y0, .int y1, .int w2, .int w3] [.int (if r7 = 0 then 0 else (1 <<< (w3 &&& 31)) : Int32), .int w2] (mb_s s5) → K 0 0 23 [.ref y0, .int y1, .int w2, .int w3] [.int r7, .int w2] (mb_s s5) := by
        intro hj
        refine ro_if_eq (tgt := 32) hK dV_bitsOfKind_23 (by decide) (fun c8 => ?_) (fun c8 => ?_)
        · skip
          refine ro_iconst (x := 0) hK (by decide) dV_bitsOfKind_32 ?_
          rw [if_pos c8] at hj
          exact hj
        · skip
          refine ro_iconst (x := 1) hK (by decide) dV_bitsOfKind_26 ?_
          refine ro_iload_n hK dV_bitsOfKind_27 rfl ?_
          refine ro_ishl hK dV_bitsOfKind_28 ?_
          refine ro_goto (tgt := 33) hK dV_bitsOfKind_29 (by decide) ?_
          rw [if_neg c8] at hj
          exact hj
      refine j9 ?_
      refine ro_ior hK dV_bitsOfKind_33 ?_
      refine ro_istore_n hK dV_bitsOfKind_34 (by decide) ?_
      show K 0 0 35 [.ref y0, .int y1, .int (w2 ||| (if r7 = 0 then 0 else (1 <<< (w3 &&& 31)) : Int32)), .int w3] [] (mb_s s5)
      refine ro_iincv (c := 1) hK (by decide) dV_bitsOfKind_35 rfl (by decide) ?_
      show K 0 0 38 [.ref y0, .int y1, .int (w2 ||| (if r7 = 0 then 0 else (1 <<< (w3 &&& 31)) : Int32)), .int (w3 + 1)] [] (mb_s s5)
      refine ro_goto (tgt := 4) hK dV_bitsOfKind_38 (by decide) ?_
      refine ro_fg (lv' := [.ref y0, .int y1, .int (w2 ||| (if r7 = 0 then 0 else (1 <<< (w3 &&& 31)) : Int32)), .int (w3 + 1)]) hK ⟨Or.inr rfl, ⟨Or.inr rfl, ⟨Or.inr rfl, ⟨Or.inr rfl, trivial⟩⟩⟩⟩ ?_
      exact ih _ _ _ h
set_option maxHeartbeats 4000000 in
set_option maxRecDepth 100000 in
theorem t_V_bitsOfKind {dd n : Nat} {c : Nat} {x1 : Int32} {s : mb_T} {out : Int32 × mb_T} (hc : mb_cv c) (h : f_V_bitsOfKind n c x1 s = some out) : mb_MC (dd + 2) yV_bitsOfKind bV_bitsOfKind 4 (some .int) [.ref c, .int x1] s (some (.int out.1)) out.2 := by
  unfold f_V_bitsOfKind at h
  refine mj_mc (lv := [.ref c, .int x1, .retAddr 0, .retAddr 0]) mV_bitsOfKind rfl rfl (Nat.le_of_ble_eq_true rfl) (fun K hK hR => ?_)
  have hK : mj_C (dd + 2) 0 0 RV_c "bitsOfKind" bV_bitsOfKind 4 K := hK
  refine ro_iconst (x := 0) hK (by decide) dV_bitsOfKind_0 ?_
  refine ro_istore_n hK dV_bitsOfKind_1 (by decide) ?_
  show K 0 0 2 [.ref c, .int x1, .int 0, .retAddr 0] [] (mb_s s)
  refine ro_iconst (x := 0) hK (by decide) dV_bitsOfKind_2 ?_
  refine ro_istore_n hK dV_bitsOfKind_3 (by decide) ?_
  show K 0 0 4 [.ref c, .int x1, .int 0, .int 0] [] (mb_s s)
  refine ro_fg (lv' := [.ref c, .int x1, .int 0, .int 0]) hK ⟨Or.inr rfl, ⟨Or.inr rfl, ⟨Or.inr rfl, ⟨Or.inr rfl, trivial⟩⟩⟩⟩ ?_
  refine tl_V_bitsOfKind_4 (dd := dd) hK hR hc (fun x10 x11 s12 h => ?_) n _ _ _ h
  refine ro_iload_n hK dV_bitsOfKind_41 rfl ?_
  cases h
  exact hR.1 0 0 42 _ _ _ _ rfl rfl dV_bitsOfKind_42 ⟨rfl, rfl⟩
