theorem mj_nw_ne {S : mj_S} {i j : Nat} {x : mj_E} (h : j ≠ i) : (mj_nw S i x).2 j = S.2 j := if_neg h
theorem mj_up_eq {S : mj_S} {i : Nat} {x : mj_E} : (mj_up S i x).2 i = x := if_pos rfl
theorem mj_up_ne {S : mj_S} {i j : Nat} {x : mj_E} (h : j ≠ i) : (mj_up S i x).2 j = S.2 j := if_neg h
theorem mj_fr {i : Nat} {L M : List Nat} (h : i ∉ L) (h2 : i ∉ M) : i ∉ L ++ M := fun q => (List.mem_append.mp q).elim h h2
theorem dV_init_0 : decode bV_init 0 = .ok (.aload_n 0, 1) := by decide +kernel
theorem dV_init_1 : decode bV_init 1 = .ok (.invokespecial 3, 3) := by decide +kernel
theorem dV_init_4 : decode bV_init 4 = .ok (.aload_n 0, 1) := by decide +kernel
theorem dV_init_5 : decode bV_init 5 = .ok (.iconst 5, 1) := by decide +kernel
theorem dV_init_6 : decode bV_init 6 = .ok (.newarray .int, 2) := by decide +kernel
theorem dV_init_8 : decode bV_init 8 = .ok (.putfield 9, 3) := by decide +kernel
theorem dV_init_11 : decode bV_init 11 = .ok (.aload_n 0, 1) := by decide +kernel
theorem dV_init_12 : decode bV_init 12 = .ok (.iconst 5, 1) := by decide +kernel
theorem dV_init_13 : decode bV_init 13 = .ok (.newarray .int, 2) := by decide +kernel
theorem dV_init_15 : decode bV_init 15 = .ok (.putfield 15, 3) := by decide +kernel
theorem dV_init_18 : decode bV_init 18 = .ok (.aload_n 0, 1) := by decide +kernel
theorem dV_init_19 : decode bV_init 19 = .ok (.iconst 5, 1) := by decide +kernel
theorem dV_init_20 : decode bV_init 20 = .ok (.newarray .int, 2) := by decide +kernel
theorem dV_init_22 : decode bV_init 22 = .ok (.putfield 18, 3) := by decide +kernel
theorem dV_init_25 : decode bV_init 25 = .ok (.aload_n 0, 1) := by decide +kernel
theorem dV_init_26 : decode bV_init 26 = .ok (.iconst 5, 1) := by decide +kernel
theorem dV_init_27 : decode bV_init 27 = .ok (.newarray .int, 2) := by decide +kernel
theorem dV_init_29 : decode bV_init 29 = .ok (.putfield 21, 3) := by decide +kernel
theorem dV_init_32 : decode bV_init 32 = .ok (.aload_n 0, 1) := by decide +kernel
theorem dV_init_33 : decode bV_init 33 = .ok (.iconst 5, 1) := by decide +kernel
theorem dV_init_34 : decode bV_init 34 = .ok (.newarray .int, 2) := by decide +kernel
theorem dV_init_36 : decode bV_init 36 = .ok (.putfield 24, 3) := by decide +kernel
theorem dV_init_39 : decode bV_init 39 = .ok (.aload_n 0, 1) := by decide +kernel
theorem dV_init_40 : decode bV_init 40 = .ok (.bipush 120, 2) := by decide +kernel
theorem dV_init_42 : decode bV_init 42 = .ok (.newarray .int, 2) := by decide +kernel
theorem dV_init_44 : decode bV_init 44 = .ok (.putfield 27, 3) := by decide +kernel
theorem dV_init_47 : decode bV_init 47 = .ok (.aload_n 0, 1) := by decide +kernel
theorem dV_init_48 : decode bV_init 48 = .ok (.bipush 120, 2) := by decide +kernel
theorem dV_init_50 : decode bV_init 50 = .ok (.newarray .int, 2) := by decide +kernel
theorem dV_init_52 : decode bV_init 52 = .ok (.putfield 30, 3) := by decide +kernel
theorem dV_init_55 : decode bV_init 55 = .ok (.aload_n 0, 1) := by decide +kernel
theorem dV_init_56 : decode bV_init 56 = .ok (.sipush 600, 3) := by decide +kernel
theorem dV_init_59 : decode bV_init 59 = .ok (.newarray .int, 2) := by decide +kernel
theorem dV_init_61 : decode bV_init 61 = .ok (.putfield 33, 3) := by decide +kernel
theorem dV_init_64 : decode bV_init 64 = .ok (.return_, 1) := by decide +kernel
def mi_V (S : mj_S) (c : Nat) : mj_S := mj_up (mj_nw (mj_up (mj_nw (mj_up (mj_nw (mj_up (mj_nw (mj_up (mj_nw (mj_up (mj_nw (mj_up (mj_nw (mj_up (mj_nw (S) (c + 5) (.inl (0, 5, .inl (fun _ => 0)))) c (.inr (1, [.int 0, .int 0, .int 0, .int 0, .int 0, .ref (c + 5), .null, .null, .null, .null, .null, .null, .null]))) (c + 6) (.inl (0, 5, .inl (fun _ => 0)))) c (.inr (1, [.int 0, .int 0, .int 0, .int 0, .int 0, .ref (c + 5), .ref (c + 6), .null, .null, .null, .null, .null, .null]))) (c + 7) (.inl (0, 5, .inl (fun _ => 0)))) c (.inr (1, [.int 0, .int 0, .int 0, .int 0, .int 0, .ref (c + 5), .ref (c + 6), .ref (c + 7), .null, .null, .null, .null, .null]))) (c + 8) (.inl (0, 5, .inl (fun _ => 0)))) c (.inr (1, [.int 0, .int 0, .int 0, .int 0, .int 0, .ref (c + 5), .ref (c + 6), .ref (c + 7), .ref (c + 8), .null, .null, .null, .null]))) (c + 9) (.inl (0, 5, .inl (fun _ => 0)))) c (.inr (1, [.int 0, .int 0, .int 0, .int 0, .int 0, .ref (c + 5), .ref (c + 6), .ref (c + 7), .ref (c + 8), .ref (c + 9), .null, .null, .null]))) (c + 10) (.inl (0, 120, .inl (fun _ => 0)))) c (.inr (1, [.int 0, .int 0, .int 0, .int 0, .int 0, .ref (c + 5), .ref (c + 6), .ref (c + 7), .ref (c + 8), .ref (c + 9), .ref (c + 10), .null, .null]))) (c + 11) (.inl (0, 120, .inl (fun _ => 0)))) c (.inr (1, [.int 0, .int 0, .int 0, .int 0, .int 0, .ref (c + 5), .ref (c + 6), .ref (c + 7), .ref (c + 8), .ref (c + 9), .ref (c + 10), .ref (c + 11), .null]))) (c + 12) (.inl (0, 600, .inl (fun _ => 0)))) c (.inr (1, [.int 0, .int 0, .int 0, .int 0, .int 0, .ref (c + 5), .ref (c + 6), .ref (c + 7), .ref (c + 8), .ref (c + 9), .ref (c + 10), .ref (c + 11), .ref (c + 12)]))
theorem mi_V_L (S : mj_S) (c : Nat) : (mi_V S c).1 = S.1 ++ [(c + 5), (c + 6), (c + 7), (c + 8), (c + 9), (c + 10), (c + 11), (c + 12)] := by
  unfold mi_V mj_up mj_nw
  simp [List.append_assoc]
theorem mi_V_ne (S : mj_S) (c : Nat) {j : Nat} (h : j ≠ c) (h2 : j ∉ [(c + 5), (c + 6), (c + 7), (c + 8), (c + 9), (c + 10), (c + 11), (c + 12)]) : (mi_V S c).2 j = S.2 j := by
  simp only [List.mem_cons, List.not_mem_nil, or_false, not_or] at h2
  unfold mi_V mj_up mj_nw
  simp [h, h2]
set_option maxHeartbeats 4000000 in
set_option maxRecDepth 100000 in
theorem ti_V {dd c : Nat} {S : mj_S} (f0 : S.2 c = .inr (1, [.int 0, .int 0, .int 0, .int 0, .int 0, .null, .null, .null, .null, .null, .null, .null, .null])) (hf : ∀ i ∈ [(c + 5), (c + 6), (c + 7), (c + 8), (c + 9), (c + 10), (c + 11), (c + 12)], i ∉ S.1) (hc : c < 900) : mj_MC (dd + 1) 8 865 yV_init bV_init 1 none [.ref c] S (fun r S2 => r = none ∧ S2 = mi_V S c) := by
  refine mj_mc (lv := [.ref c]) mV_init rfl rfl (Nat.le_of_ble_eq_true rfl) (fun K hK hR => ?_)
  have hK : mj_C (dd + 1) 8 865 RV_c "<init>" bV_init 1 K := hK
  have hL0 : S.1 = S.1 ++ [] := (List.append_nil _).symm
  obtain ⟨S0, hS0⟩ : ∃ S0, S0 = S := ⟨_, rfl⟩
  have f0 : S0.2 c = .inr (1, [.int 0, .int 0, .int 0, .int 0, .int 0, .null, .null, .null, .null, .null, .null, .null, .null]) := by rw [hS0]; exact f0
  have hL0 : S0.1 = S.1 ++ [] := by rw [hS0]; exact hL0
  rw [← hS0]
  refine ro_aload_n hK dV_init_0 rfl ?_
  refine ro_oi hK oi_V (by omega) (Nat.le_of_ble_eq_true rfl) dV_init_1 ?_
  refine ro_aload_n hK dV_init_4 rfl ?_
  refine ro_iconst (x := 5) hK (by decide) dV_init_5 ?_
  refine ro_newI (i := (c + 5)) (N := 5) hK (by decide) (by decide) (by decide) (by rw [hL0]; exact mj_fr (hf _ (by simp)) (by simp)) (by omega) ⟨by decide, by decide⟩ dV_init_6 ?_
  obtain ⟨S1, hS1⟩ : ∃ T, T = mj_nw S0 (c + 5) (.inl (0, 5, .inl (fun _ => 0))) := ⟨_, rfl⟩
  rw [← hS1]
  have f1 : S1.2 c = .inr (1, [.int 0, .int 0, .int 0, .int 0, .int 0, .null, .null, .null, .null, .null, .null, .null, .null]) := by rw [hS1]; exact (mj_nw_ne (by omega)).trans f0
  have hL1 : S1.1 = S.1 ++ [(c + 5)] := by rw [hS1]; show S0.1 ++ [(c + 5)] = _; rw [hL0]; simp
  refine ro_putF hK gV_9 f1 (by show 5 < 13; decide) (fun _ => rfl) (fun _ => rfl) dV_init_8 ?_
  obtain ⟨S2, hS2⟩ : ∃ T, T = mj_up S1 c (.inr (1, [.int 0, .int 0, .int 0, .int 0, .int 0, .ref (c + 5), .null, .null, .null, .null, .null, .null, .null])) := ⟨_, rfl⟩
  show K _ _ _ _ _ (mj_up S1 c (.inr (1, [.int 0, .int 0, .int 0, .int 0, .int 0, .ref (c + 5), .null, .null, .null, .null, .null, .null, .null])))
  rw [← hS2]
  have f2 : S2.2 c = .inr (1, [.int 0, .int 0, .int 0, .int 0, .int 0, .ref (c + 5), .null, .null, .null, .null, .null, .null, .null]) := by rw [hS2]; exact mj_up_eq
  have hL2 : S2.1 = S.1 ++ [(c + 5)] := by rw [hS2]; exact hL1
  refine ro_aload_n hK dV_init_11 rfl ?_
  refine ro_iconst (x := 5) hK (by decide) dV_init_12 ?_
  refine ro_newI (i := (c + 6)) (N := 5) hK (by decide) (by decide) (by decide) (by rw [hL2]; exact mj_fr (hf _ (by simp)) (by simp)) (by omega) ⟨by decide, by decide⟩ dV_init_13 ?_
  obtain ⟨S3, hS3⟩ : ∃ T, T = mj_nw S2 (c + 6) (.inl (0, 5, .inl (fun _ => 0))) := ⟨_, rfl⟩
  rw [← hS3]
  have f3 : S3.2 c = .inr (1, [.int 0, .int 0, .int 0, .int 0, .int 0, .ref (c + 5), .null, .null, .null, .null, .null, .null, .null]) := by rw [hS3]; exact (mj_nw_ne (by omega)).trans f2
  have hL3 : S3.1 = S.1 ++ [(c + 5), (c + 6)] := by rw [hS3]; show S2.1 ++ [(c + 6)] = _; rw [hL2]; simp
  refine ro_putF hK gV_15 f3 (by show 6 < 13; decide) (fun _ => rfl) (fun _ => rfl) dV_init_15 ?_
  obtain ⟨S4, hS4⟩ : ∃ T, T = mj_up S3 c (.inr (1, [.int 0, .int 0, .int 0, .int 0, .int 0, .ref (c + 5), .ref (c + 6), .null, .null, .null, .null, .null, .null])) := ⟨_, rfl⟩
  show K _ _ _ _ _ (mj_up S3 c (.inr (1, [.int 0, .int 0, .int 0, .int 0, .int 0, .ref (c + 5), .ref (c + 6), .null, .null, .null, .null, .null, .null])))
  rw [← hS4]
  have f4 : S4.2 c = .inr (1, [.int 0, .int 0, .int 0, .int 0, .int 0, .ref (c + 5), .ref (c + 6), .null, .null, .null, .null, .null, .null]) := by rw [hS4]; exact mj_up_eq
  have hL4 : S4.1 = S.1 ++ [(c + 5), (c + 6)] := by rw [hS4]; exact hL3
  refine ro_aload_n hK dV_init_18 rfl ?_
  refine ro_iconst (x := 5) hK (by decide) dV_init_19 ?_
  refine ro_newI (i := (c + 7)) (N := 5) hK (by decide) (by decide) (by decide) (by rw [hL4]; exact mj_fr (hf _ (by simp)) (by simp)) (by omega) ⟨by decide, by decide⟩ dV_init_20 ?_
  obtain ⟨S5, hS5⟩ : ∃ T, T = mj_nw S4 (c + 7) (.inl (0, 5, .inl (fun _ => 0))) := ⟨_, rfl⟩
  rw [← hS5]
  have f5 : S5.2 c = .inr (1, [.int 0, .int 0, .int 0, .int 0, .int 0, .ref (c + 5), .ref (c + 6), .null, .null, .null, .null, .null, .null]) := by rw [hS5]; exact (mj_nw_ne (by omega)).trans f4
  have hL5 : S5.1 = S.1 ++ [(c + 5), (c + 6), (c + 7)] := by rw [hS5]; show S4.1 ++ [(c + 7)] = _; rw [hL4]; simp
  refine ro_putF hK gV_18 f5 (by show 7 < 13; decide) (fun _ => rfl) (fun _ => rfl) dV_init_22 ?_
  obtain ⟨S6, hS6⟩ : ∃ T, T = mj_up S5 c (.inr (1, [.int 0, .int 0, .int 0, .int 0, .int 0, .ref (c + 5), .ref (c + 6), .ref (c + 7), .null, .null, .null, .null, .null])) := ⟨_, rfl⟩
  show K _ _ _ _ _ (mj_up S5 c (.inr (1, [.int 0, .int 0, .int 0, .int 0, .int 0, .ref (c + 5), .ref (c + 6), .ref (c + 7), .null, .null, .null, .null, .null])))
  rw [← hS6]
  have f6 : S6.2 c = .inr (1, [.int 0, .int 0, .int 0, .int 0, .int 0, .ref (c + 5), .ref (c + 6), .ref (c + 7), .null, .null, .null, .null, .null]) := by rw [hS6]; exact mj_up_eq
  have hL6 : S6.1 = S.1 ++ [(c + 5), (c + 6), (c + 7)] := by rw [hS6]; exact hL5
  refine ro_aload_n hK dV_init_25 rfl ?_
  refine ro_iconst (x := 5) hK (by decide) dV_init_26 ?_
  refine ro_newI (i := (c + 8)) (N := 5) hK (by decide) (by decide) (by decide) (by rw [hL6]; exact mj_fr (hf _ (by simp)) (by simp)) (by omega) ⟨by decide, by decide⟩ dV_init_27 ?_
  obtain ⟨S7, hS7⟩ : ∃ T, T = mj_nw S6 (c + 8) (.inl (0, 5, .inl (fun _ => 0))) := ⟨_, rfl⟩
  rw [← hS7]
  have f7 : S7.2 c = .inr (1, [.int 0, .int 0, .int 0, .int 0, .int 0, .ref (c + 5), .ref (c + 6), .ref (c + 7), .null, .null, .null, .null, .null]) := by rw [hS7]; exact (mj_nw_ne (by omega)).trans f6
  have hL7 : S7.1 = S.1 ++ [(c + 5), (c + 6), (c + 7), (c + 8)] := by rw [hS7]; show S6.1 ++ [(c + 8)] = _; rw [hL6]; simp
  refine ro_putF hK gV_21 f7 (by show 8 < 13; decide) (fun _ => rfl) (fun _ => rfl) dV_init_29 ?_
  obtain ⟨S8, hS8⟩ : ∃ T, T = mj_up S7 c (.inr (1, [.int 0, .int 0, .int 0, .int 0, .int 0, .ref (c + 5), .ref (c + 6), .ref (c + 7), .ref (c + 8), .null, .null, .null, .null])) := ⟨_, rfl⟩
  show K _ _ _ _ _ (mj_up S7 c (.inr (1, [.int 0, .int 0, .int 0, .int 0, .int 0, .ref (c + 5), .ref (c + 6), .ref (c + 7), .ref (c + 8), .null, .null, .null, .null])))
  rw [← hS8]
  have f8 : S8.2 c = .inr (1, [.int 0, .int 0, .int 0, .int 0, .int 0, .ref (c + 5), .ref (c + 6), .ref (c + 7), .ref (c + 8), .null, .null, .null, .null]) := by rw [hS8]; exact mj_up_eq
  have hL8 : S8.1 = S.1 ++ [(c + 5), (c + 6), (c + 7), (c + 8)] := by rw [hS8]; exact hL7
  refine ro_aload_n hK dV_init_32 rfl ?_
  refine ro_iconst (x := 5) hK (by decide) dV_init_33 ?_
  refine ro_newI (i := (c + 9)) (N := 5) hK (by decide) (by decide) (by decide) (by rw [hL8]; exact mj_fr (hf _ (by simp)) (by simp)) (by omega) ⟨by decide, by decide⟩ dV_init_34 ?_
  obtain ⟨S9, hS9⟩ : ∃ T, T = mj_nw S8 (c + 9) (.inl (0, 5, .inl (fun _ => 0))) := ⟨_, rfl⟩
  rw [← hS9]
  have f9 : S9.2 c = .inr (1, [.int 0, .int 0, .int 0, .int 0, .int 0, .ref (c + 5), .ref (c + 6), .ref (c + 7), .ref (c + 8), .null, .null, .null, .null]) := by rw [hS9]; exact (mj_nw_ne (by omega)).trans f8
  have hL9 : S9.1 = S.1 ++ [(c + 5), (c + 6), (c + 7), (c + 8), (c + 9)] := by rw [hS9]; show S8.1 ++ [(c + 9)] = _; rw [hL8]; simp
  refine ro_putF hK gV_24 f9 (by show 9 < 13; decide) (fun _ => rfl) (fun _ => rfl) dV_init_36 ?_
  obtain ⟨S10, hS10⟩ : ∃ T, T = mj_up S9 c (.inr (1, [.int 0, .int 0, .int 0, .int 0, .int 0, .ref (c + 5), .ref (c + 6), .ref (c + 7), .ref (c + 8), .ref (c + 9), .null, .null, .null])) := ⟨_, rfl⟩
  show K _ _ _ _ _ (mj_up S9 c (.inr (1, [.int 0, .int 0, .int 0, .int 0, .int 0, .ref (c + 5), .ref (c + 6), .ref (c + 7), .ref (c + 8), .ref (c + 9), .null, .null, .null])))
  rw [← hS10]
  have f10 : S10.2 c = .inr (1, [.int 0, .int 0, .int 0, .int 0, .int 0, .ref (c + 5), .ref (c + 6), .ref (c + 7), .ref (c + 8), .ref (c + 9), .null, .null, .null]) := by rw [hS10]; exact mj_up_eq
  have hL10 : S10.1 = S.1 ++ [(c + 5), (c + 6), (c + 7), (c + 8), (c + 9)] := by rw [hS10]; exact hL9
  refine ro_aload_n hK dV_init_39 rfl ?_
  refine ro_bipush (x := 120) hK (by decide) dV_init_40 ?_
  refine ro_newI (i := (c + 10)) (N := 120) hK (by decide) (by decide) (by decide) (by rw [hL10]; exact mj_fr (hf _ (by simp)) (by simp)) (by omega) ⟨by decide, by decide⟩ dV_init_42 ?_
  obtain ⟨S11, hS11⟩ : ∃ T, T = mj_nw S10 (c + 10) (.inl (0, 120, .inl (fun _ => 0))) := ⟨_, rfl⟩
  rw [← hS11]
  have f11 : S11.2 c = .inr (1, [.int 0, .int 0, .int 0, .int 0, .int 0, .ref (c + 5), .ref (c + 6), .ref (c + 7), .ref (c + 8), .ref (c + 9), .null, .null, .null]) := by rw [hS11]; exact (mj_nw_ne (by omega)).trans f10
  have hL11 : S11.1 = S.1 ++ [(c + 5), (c + 6), (c + 7), (c + 8), (c + 9), (c + 10)] := by rw [hS11]; show S10.1 ++ [(c + 10)] = _; rw [hL10]; simp
  refine ro_putF hK gV_27 f11 (by show 10 < 13; decide) (fun _ => rfl) (fun _ => rfl) dV_init_44 ?_
  obtain ⟨S12, hS12⟩ : ∃ T, T = mj_up S11 c (.inr (1, [.int 0, .int 0, .int 0, .int 0, .int 0, .ref (c + 5), .ref (c + 6), .ref (c + 7), .ref (c + 8), .ref (c + 9), .ref (c + 10), .null, .null])) := ⟨_, rfl⟩
  show K _ _ _ _ _ (mj_up S11 c (.inr (1, [.int 0, .int 0, .int 0, .int 0, .int 0, .ref (c + 5), .ref (c + 6), .ref (c + 7), .ref (c + 8), .ref (c + 9), .ref (c + 10), .null, .null])))
  rw [← hS12]
  have f12 : S12.2 c = .inr (1, [.int 0, .int 0, .int 0, .int 0, .int 0, .ref (c + 5), .ref (c + 6), .ref (c + 7), .ref (c + 8), .ref (c + 9), .ref (c + 10), .null, .null]) := by rw [hS12]; exact mj_up_eq
  have hL12 : S12.1 = S.1 ++ [(c + 5), (c + 6), (c + 7), (c + 8), (c + 9), (c + 10)] := by rw [hS12]; exact hL11
  refine ro_aload_n hK dV_init_47 rfl ?_
  refine ro_bipush (x := 120) hK (by decide) dV_init_48 ?_
  refine ro_newI (i := (c + 11)) (N := 120) hK (by decide) (by decide) (by decide) (by rw [hL12]; exact mj_fr (hf _ (by simp)) (by simp)) (by omega) ⟨by decide, by decide⟩ dV_init_50 ?_
  obtain ⟨S13, hS13⟩ : ∃ T, T = mj_nw S12 (c + 11) (.inl (0, 120, .inl (fun _ => 0))) := ⟨_, rfl⟩
  rw [← hS13]
  have f13 : S13.2 c = .inr (1, [.int 0, .int 0, .int 0, .int 0, .int 0, .ref (c + 5), .ref (c + 6), .ref (c + 7), .ref (c + 8), .ref (c + 9), .ref (c + 10), .null, .null]) := by rw [hS13]; exact (mj_nw_ne (by omega)).trans f12
  have hL13 : S13.1 = S.1 ++ [(c + 5), (c + 6), (c + 7), (c + 8), (c + 9), (c + 10), (c + 11)] := by rw [hS13]; show S12.1 ++ [(c + 11)] = _; rw [hL12]; simp
  refine ro_putF hK gV_30 f13 (by show 11 < 13; decide) (fun _ => rfl) (fun _ => rfl) dV_init_52 ?_
  obtain ⟨S14, hS14⟩ : ∃ T, T = mj_up S13 c (.inr (1, [.int 0, .int 0, .int 0, .int 0, .int 0, .ref (c + 5), .ref (c + 6), .ref (c + 7), .ref (c + 8), .ref (c + 9), .ref (c + 10), .ref (c + 11), .null])) := ⟨_, rfl⟩
  show K _ _ _ _ _ (mj_up S13 c (.inr (1, [.int 0, .int 0, .int 0, .int 0, .int 0, .ref (c + 5), .ref (c + 6), .ref (c + 7), .ref (c + 8), .ref (c + 9), .ref (c + 10), .ref (c + 11), .null])))
  rw [← hS14]
  have f14 : S14.2 c = .inr (1, [.int 0, .int 0, .int 0, .int 0, .int 0, .ref (c + 5), .ref (c + 6), .ref (c + 7), .ref (c + 8), .ref (c + 9), .ref (c + 10), .ref (c + 11), .null]) := by rw [hS14]; exact mj_up_eq
  have hL14 : S14.1 = S.1 ++ [(c + 5), (c + 6), (c + 7), (c + 8), (c + 9), (c + 10), (c + 11)] := by rw [hS14]; exact hL13
  refine ro_aload_n hK dV_init_55 rfl ?_
  refine ro_sipush (x := 600) hK (by decide) dV_init_56 ?_
  refine ro_newI (i := (c + 12)) (N := 600) hK (by decide) (by decide) (by decide) (by rw [hL14]; exact mj_fr (hf _ (by simp)) (by simp)) (by omega) ⟨by decide, by decide⟩ dV_init_59 ?_
  obtain ⟨S15, hS15⟩ : ∃ T, T = mj_nw S14 (c + 12) (.inl (0, 600, .inl (fun _ => 0))) := ⟨_, rfl⟩
  rw [← hS15]
  have f15 : S15.2 c = .inr (1, [.int 0, .int 0, .int 0, .int 0, .int 0, .ref (c + 5), .ref (c + 6), .ref (c + 7), .ref (c + 8), .ref (c + 9), .ref (c + 10), .ref (c + 11), .null]) := by rw [hS15]; exact (mj_nw_ne (by omega)).trans f14
  have hL15 : S15.1 = S.1 ++ [(c + 5), (c + 6), (c + 7), (c + 8), (c + 9), (c + 10), (c + 11), (c + 12)] := by rw [hS15]; show S14.1 ++ [(c + 12)] = _; rw [hL14]; simp
  refine ro_putF hK gV_33 f15 (by show 12 < 13; decide) (fun _ => rfl) (fun _ => rfl) dV_init_61 ?_
  obtain ⟨S16, hS16⟩ : ∃ T, T = mj_up S15 c (.inr (1, [.int 0, .int 0, .int 0, .int 0, .int 0, .ref (c + 5), .ref (c + 6), .ref (c + 7), .ref (c + 8), .ref (c + 9), .ref (c + 10), .ref (c + 11), .ref (c + 12)])) := ⟨_, rfl⟩
  show K _ _ _ _ _ (mj_up S15 c (.inr (1, [.int 0, .int 0, .int 0, .int 0, .int 0, .ref (c + 5), .ref (c + 6), .ref (c + 7), .ref (c + 8), .ref (c + 9), .ref (c + 10), .ref (c + 11), .ref (c + 12)])))
  rw [← hS16]
  have f16 : S16.2 c = .inr (1, [.int 0, .int 0, .int 0, .int 0, .int 0, .ref (c + 5), .ref (c + 6), .ref (c + 7), .ref (c + 8), .ref (c + 9), .ref (c + 10), .ref (c + 11), .ref (c + 12)]) := by rw [hS16]; exact mj_up_eq
  have hL16 : S16.1 = S.1 ++ [(c + 5), (c + 6), (c + 7), (c + 8), (c + 9), (c + 10), (c + 11), (c + 12)] := by rw [hS16]; exact hL15
  refine hR.2.2 _ _ 64 _ _ rfl dV_init_64 ⟨rfl, ?_⟩
  subst hS16 hS15 hS14 hS13 hS12 hS11 hS10 hS9 hS8 hS7 hS6 hS5 hS4 hS3 hS2 hS1
  subst hS0
  rfl
theorem dA_init_0 : decode bA_init 0 = .ok (.aload_n 0, 1) := by decide +kernel
theorem dA_init_1 : decode bA_init 1 = .ok (.invokespecial 3, 3) := by decide +kernel
theorem dA_init_4 : decode bA_init 4 = .ok (.aload_n 0, 1) := by decide +kernel
theorem dA_init_5 : decode bA_init 5 = .ok (.iconst 5, 1) := by decide +kernel
theorem dA_init_6 : decode bA_init 6 = .ok (.newarray .int, 2) := by decide +kernel
theorem dA_init_8 : decode bA_init 8 = .ok (.putfield 9, 3) := by decide +kernel
theorem dA_init_11 : decode bA_init 11 = .ok (.aload_n 0, 1) := by decide +kernel
theorem dA_init_12 : decode bA_init 12 = .ok (.iconst 5, 1) := by decide +kernel
theorem dA_init_13 : decode bA_init 13 = .ok (.newarray .int, 2) := by decide +kernel
theorem dA_init_15 : decode bA_init 15 = .ok (.putfield 15, 3) := by decide +kernel
theorem dA_init_18 : decode bA_init 18 = .ok (.aload_n 0, 1) := by decide +kernel
theorem dA_init_19 : decode bA_init 19 = .ok (.iconst 5, 1) := by decide +kernel
theorem dA_init_20 : decode bA_init 20 = .ok (.newarray .int, 2) := by decide +kernel
theorem dA_init_22 : decode bA_init 22 = .ok (.putfield 18, 3) := by decide +kernel
theorem dA_init_25 : decode bA_init 25 = .ok (.aload_n 0, 1) := by decide +kernel
theorem dA_init_26 : decode bA_init 26 = .ok (.iconst 5, 1) := by decide +kernel
theorem dA_init_27 : decode bA_init 27 = .ok (.newarray .int, 2) := by decide +kernel
theorem dA_init_29 : decode bA_init 29 = .ok (.putfield 21, 3) := by decide +kernel
theorem dA_init_32 : decode bA_init 32 = .ok (.aload_n 0, 1) := by decide +kernel
theorem dA_init_33 : decode bA_init 33 = .ok (.iconst 5, 1) := by decide +kernel
theorem dA_init_34 : decode bA_init 34 = .ok (.newarray .int, 2) := by decide +kernel
theorem dA_init_36 : decode bA_init 36 = .ok (.putfield 24, 3) := by decide +kernel
theorem dA_init_39 : decode bA_init 39 = .ok (.aload_n 0, 1) := by decide +kernel
theorem dA_init_40 : decode bA_init 40 = .ok (.iconst 5, 1) := by decide +kernel
theorem dA_init_41 : decode bA_init 41 = .ok (.newarray .int, 2) := by decide +kernel
theorem dA_init_43 : decode bA_init 43 = .ok (.putfield 27, 3) := by decide +kernel
theorem dA_init_46 : decode bA_init 46 = .ok (.aload_n 0, 1) := by decide +kernel
theorem dA_init_47 : decode bA_init 47 = .ok (.iconst 5, 1) := by decide +kernel
theorem dA_init_48 : decode bA_init 48 = .ok (.newarray .int, 2) := by decide +kernel
theorem dA_init_50 : decode bA_init 50 = .ok (.putfield 30, 3) := by decide +kernel
theorem dA_init_53 : decode bA_init 53 = .ok (.aload_n 0, 1) := by decide +kernel
theorem dA_init_54 : decode bA_init 54 = .ok (.iconst 5, 1) := by decide +kernel
theorem dA_init_55 : decode bA_init 55 = .ok (.newarray .int, 2) := by decide +kernel
theorem dA_init_57 : decode bA_init 57 = .ok (.putfield 33, 3) := by decide +kernel
theorem dA_init_60 : decode bA_init 60 = .ok (.aload_n 0, 1) := by decide +kernel
theorem dA_init_61 : decode bA_init 61 = .ok (.bipush 100, 2) := by decide +kernel
theorem dA_init_63 : decode bA_init 63 = .ok (.newarray .int, 2) := by decide +kernel
theorem dA_init_65 : decode bA_init 65 = .ok (.putfield 36, 3) := by decide +kernel
theorem dA_init_68 : decode bA_init 68 = .ok (.aload_n 0, 1) := by decide +kernel
theorem dA_init_69 : decode bA_init 69 = .ok (.bipush 48, 2) := by decide +kernel
theorem dA_init_71 : decode bA_init 71 = .ok (.newarray .int, 2) := by decide +kernel
theorem dA_init_73 : decode bA_init 73 = .ok (.putfield 39, 3) := by decide +kernel
theorem dA_init_76 : decode bA_init 76 = .ok (.return_, 1) := by decide +kernel
def mi_A (S : mj_S) : mj_S := mj_up (mj_nw (mj_up (mj_nw (mj_up (mj_nw (mj_up (mj_nw (mj_up (mj_nw (mj_up (mj_nw (mj_up (mj_nw (mj_up (mj_nw (mj_up (mj_nw (mj_up (mj_nw (S) 47 (.inl (0, 5, .inl (fun _ => 0)))) 40 (.inr (0, [.int 0, .int 0, .int 0, .int 0, .int 0, .int 0, .int 0, .ref 47, .null, .null, .null, .null, .null, .null, .null, .null, .null]))) 48 (.inl (0, 5, .inl (fun _ => 0)))) 40 (.inr (0, [.int 0, .int 0, .int 0, .int 0, .int 0, .int 0, .int 0, .ref 47, .ref 48, .null, .null, .null, .null, .null, .null, .null, .null]))) 49 (.inl (0, 5, .inl (fun _ => 0)))) 40 (.inr (0, [.int 0, .int 0, .int 0, .int 0, .int 0, .int 0, .int 0, .ref 47, .ref 48, .ref 49, .null, .null, .null, .null, .null, .null, .null]))) 50 (.inl (0, 5, .inl (fun _ => 0)))) 40 (.inr (0, [.int 0, .int 0, .int 0, .int 0, .int 0, .int 0, .int 0, .ref 47, .ref 48, .ref 49, .ref 50, .null, .null, .null, .null, .null, .null]))) 51 (.inl (0, 5, .inl (fun _ => 0)))) 40 (.inr (0, [.int 0, .int 0, .int 0, .int 0, .int 0, .int 0, .int 0, .ref 47, .ref 48, .ref 49, .ref 50, .ref 51, .null, .null, .null, .null, .null]))) 52 (.inl (0, 5, .inl (fun _ => 0)))) 40 (.inr (0, [.int 0, .int 0, .int 0, .int 0, .int 0, .int 0, .int 0, .ref 47, .ref 48, .ref 49, .ref 50, .ref 51, .ref 52, .null, .null, .null, .null]))) 53 (.inl (0, 5, .inl (fun _ => 0)))) 40 (.inr (0, [.int 0, .int 0, .int 0, .int 0, .int 0, .int 0, .int 0, .ref 47, .ref 48, .ref 49, .ref 50, .ref 51, .ref 52, .ref 53, .null, .null, .null]))) 54 (.inl (0, 5, .inl (fun _ => 0)))) 40 (.inr (0, [.int 0, .int 0, .int 0, .int 0, .int 0, .int 0, .int 0, .ref 47, .ref 48, .ref 49, .ref 50, .ref 51, .ref 52, .ref 53, .ref 54, .null, .null]))) 55 (.inl (0, 100, .inl (fun _ => 0)))) 40 (.inr (0, [.int 0, .int 0, .int 0, .int 0, .int 0, .int 0, .int 0, .ref 47, .ref 48, .ref 49, .ref 50, .ref 51, .ref 52, .ref 53, .ref 54, .ref 55, .null]))) 56 (.inl (0, 48, .inl (fun _ => 0)))) 40 (.inr (0, [.int 0, .int 0, .int 0, .int 0, .int 0, .int 0, .int 0, .ref 47, .ref 48, .ref 49, .ref 50, .ref 51, .ref 52, .ref 53, .ref 54, .ref 55, .ref 56]))
theorem mi_A_L (S : mj_S) : (mi_A S).1 = S.1 ++ [47, 48, 49, 50, 51, 52, 53, 54, 55, 56] := by
  unfold mi_A mj_up mj_nw
  simp [List.append_assoc]
theorem mi_A_ne (S : mj_S) {j : Nat} (h : j ≠ 40) (h2 : j ∉ [47, 48, 49, 50, 51, 52, 53, 54, 55, 56]) : (mi_A S).2 j = S.2 j := by
  simp only [List.mem_cons, List.not_mem_nil, or_false, not_or] at h2
  unfold mi_A mj_up mj_nw
  simp [h, h2]
set_option maxHeartbeats 4000000 in
set_option maxRecDepth 100000 in
theorem ti_A {dd : Nat} {S : mj_S} (f0 : S.2 40 = .inr (0, [.int 0, .int 0, .int 0, .int 0, .int 0, .int 0, .int 0, .null, .null, .null, .null, .null, .null, .null, .null, .null, .null])) (hf : ∀ i ∈ [47, 48, 49, 50, 51, 52, 53, 54, 55, 56], i ∉ S.1) : mj_MC (dd + 1) 10 188 yA_init bA_init 1 none [.ref 40] S (fun r S2 => r = none ∧ S2 = mi_A S) := by
  refine mj_mc (lv := [.ref 40]) mA_init rfl rfl (Nat.le_of_ble_eq_true rfl) (fun K hK hR => ?_)
  have hK : mj_C (dd + 1) 10 188 RA_c "<init>" bA_init 1 K := hK
  have hL0 : S.1 = S.1 ++ [] := (List.append_nil _).symm
  obtain ⟨S0, hS0⟩ : ∃ S0, S0 = S := ⟨_, rfl⟩
  have f0 : S0.2 40 = .inr (0, [.int 0, .int 0, .int 0, .int 0, .int 0, .int 0, .int 0, .null, .null, .null, .null, .null, .null, .null, .null, .null, .null]) := by rw [hS0]; exact f0
  have hL0 : S0.1 = S.1 ++ [] := by rw [hS0]; exact hL0
  rw [← hS0]
  refine ro_aload_n hK dA_init_0 rfl ?_
  refine ro_oi hK oi_A (by omega) (Nat.le_of_ble_eq_true rfl) dA_init_1 ?_
  refine ro_aload_n hK dA_init_4 rfl ?_
  refine ro_iconst (x := 5) hK (by decide) dA_init_5 ?_
  refine ro_newI (i := 47) (N := 5) hK (by decide) (by decide) (by decide) (by rw [hL0]; exact mj_fr (hf _ (by simp)) (by simp)) (by omega) ⟨by decide, by decide⟩ dA_init_6 ?_
  obtain ⟨S1, hS1⟩ : ∃ T, T = mj_nw S0 47 (.inl (0, 5, .inl (fun _ => 0))) := ⟨_, rfl⟩
  rw [← hS1]
  have f1 : S1.2 40 = .inr (0, [.int 0, .int 0, .int 0, .int 0, .int 0, .int 0, .int 0, .null, .null, .null, .null, .null, .null, .null, .null, .null, .null]) := by rw [hS1]; exact (mj_nw_ne (by omega)).trans f0
  have hL1 : S1.1 = S.1 ++ [47] := by rw [hS1]; show S0.1 ++ [47] = _; rw [hL0]; simp
  refine ro_putF hK gA_9 f1 (by show 7 < 17; decide) (fun _ => rfl) (fun _ => rfl) dA_init_8 ?_
  obtain ⟨S2, hS2⟩ : ∃ T, T = mj_up S1 40 (.inr (0, [.int 0, .int 0, .int 0, .int 0, .int 0, .int 0, .int 0, .ref 47, .null, .null, .null, .null, .null, .null, .null, .null, .null])) := ⟨_, rfl⟩
  show K _ _ _ _ _ (mj_up S1 40 (.inr (0, [.int 0, .int 0, .int 0, .int 0, .int 0, .int 0, .int 0, .ref 47, .null, .null, .null, .null, .null, .null, .null, .null, .null])))
  rw [← hS2]
  have f2 : S2.2 40 = .inr (0, [.int 0, .int 0, .int 0, .int 0, .int 0, .int 0, .int 0, .ref 47, .null, .null, .null, .null, .null, .null, .null, .null, .null]) := by rw [hS2]; exact mj_up_eq
  have hL2 : S2.1 = S.1 ++ [47] := by rw [hS2]; exact hL1
  refine ro_aload_n hK dA_init_11 rfl ?_
  refine ro_iconst (x := 5) hK (by decide) dA_init_12 ?_
  refine ro_newI (i := 48) (N := 5) hK (by decide) (by decide) (by decide) (by rw [hL2]; exact mj_fr (hf _ (by simp)) (by simp)) (by omega) ⟨by decide, by decide⟩ dA_init_13 ?_
  obtain ⟨S3, hS3⟩ : ∃ T, T = mj_nw S2 48 (.inl (0, 5, .inl (fun _ => 0))) := ⟨_, rfl⟩
  rw [← hS3]
  have f3 : S3.2 40 = .inr (0, [.int 0, .int 0, .int 0, .int 0, .int 0, .int 0, .int 0, .ref 47, .null, .null, .null, .null, .null, .null, .null, .null, .null]) := by rw [hS3]; exact (mj_nw_ne (by omega)).trans f2
  have hL3 : S3.1 = S.1 ++ [47, 48] := by rw [hS3]; show S2.1 ++ [48] = _; rw [hL2]; simp
  refine ro_putF hK gA_15 f3 (by show 8 < 17; decide) (fun _ => rfl) (fun _ => rfl) dA_init_15 ?_
  obtain ⟨S4, hS4⟩ : ∃ T, T = mj_up S3 40 (.inr (0, [.int 0, .int 0, .int 0, .int 0, .int 0, .int 0, .int 0, .ref 47, .ref 48, .null, .null, .null, .null, .null, .null, .null, .null])) := ⟨_, rfl⟩
  show K _ _ _ _ _ (mj_up S3 40 (.inr (0, [.int 0, .int 0, .int 0, .int 0, .int 0, .int 0, .int 0, .ref 47, .ref 48, .null, .null, .null, .null, .null, .null, .null, .null])))
  rw [← hS4]
  have f4 : S4.2 40 = .inr (0, [.int 0, .int 0, .int 0, .int 0, .int 0, .int 0, .int 0, .ref 47, .ref 48, .null, .null, .null, .null, .null, .null, .null, .null]) := by rw [hS4]; exact mj_up_eq
  have hL4 : S4.1 = S.1 ++ [47, 48] := by rw [hS4]; exact hL3
  refine ro_aload_n hK dA_init_18 rfl ?_
  refine ro_iconst (x := 5) hK (by decide) dA_init_19 ?_
  refine ro_newI (i := 49) (N := 5) hK (by decide) (by decide) (by decide) (by rw [hL4]; exact mj_fr (hf _ (by simp)) (by simp)) (by omega) ⟨by decide, by decide⟩ dA_init_20 ?_
  obtain ⟨S5, hS5⟩ : ∃ T, T = mj_nw S4 49 (.inl (0, 5, .inl (fun _ => 0))) := ⟨_, rfl⟩
  rw [← hS5]
  have f5 : S5.2 40 = .inr (0, [.int 0, .int 0, .int 0, .int 0, .int 0, .int 0, .int 0, .ref 47, .ref 48, .null, .null, .null, .null, .null, .null, .null, .null]) := by rw [hS5]; exact (mj_nw_ne (by omega)).trans f4
  have hL5 : S5.1 = S.1 ++ [47, 48, 49] := by rw [hS5]; show S4.1 ++ [49] = _; rw [hL4]; simp
  refine ro_putF hK gA_18 f5 (by show 9 < 17; decide) (fun _ => rfl) (fun _ => rfl) dA_init_22 ?_
  obtain ⟨S6, hS6⟩ : ∃ T, T = mj_up S5 40 (.inr (0, [.int 0, .int 0, .int 0, .int 0, .int 0, .int 0, .int 0, .ref 47, .ref 48, .ref 49, .null, .null, .null, .null, .null, .null, .null])) := ⟨_, rfl⟩
  show K _ _ _ _ _ (mj_up S5 40 (.inr (0, [.int 0, .int 0, .int 0, .int 0, .int 0, .int 0, .int 0, .ref 47, .ref 48, .ref 49, .null, .null, .null, .null, .null, .null, .null])))
  rw [← hS6]
  have f6 : S6.2 40 = .inr (0, [.int 0, .int 0, .int 0, .int 0, .int 0, .int 0, .int 0, .ref 47, .ref 48, .ref 49, .null, .null, .null, .null, .null, .null, .null]) := by rw [hS6]; exact mj_up_eq
  have hL6 : S6.1 = S.1 ++ [47, 48, 49] := by rw [hS6]; exact hL5
  refine ro_aload_n hK dA_init_25 rfl ?_
  refine ro_iconst (x := 5) hK (by decide) dA_init_26 ?_
  refine ro_newI (i := 50) (N := 5) hK (by decide) (by decide) (by decide) (by rw [hL6]; exact mj_fr (hf _ (by simp)) (by simp)) (by omega) ⟨by decide, by decide⟩ dA_init_27 ?_
  obtain ⟨S7, hS7⟩ : ∃ T, T = mj_nw S6 50 (.inl (0, 5, .inl (fun _ => 0))) := ⟨_, rfl⟩
  rw [← hS7]
  have f7 : S7.2 40 = .inr (0, [.int 0, .int 0, .int 0, .int 0, .int 0, .int 0, .int 0, .ref 47, .ref 48, .ref 49, .null, .null, .null, .null, .null, .null, .null]) := by rw [hS7]; exact (mj_nw_ne (by omega)).trans f6
  have hL7 : S7.1 = S.1 ++ [47, 48, 49, 50] := by rw [hS7]; show S6.1 ++ [50] = _; rw [hL6]; simp
  refine ro_putF hK gA_21 f7 (by show 10 < 17; decide) (fun _ => rfl) (fun _ => rfl) dA_init_29 ?_
  obtain ⟨S8, hS8⟩ : ∃ T, T = mj_up S7 40 (.inr (0, [.int 0, .int 0, .int 0, .int 0, .int 0, .int 0, .int 0, .ref 47, .ref 48, .ref 49, .ref 50, .null, .null, .null, .null, .null, .null])) := ⟨_, rfl⟩
  show K _ _ _ _ _ (mj_up S7 40 (.inr (0, [.int 0, .int 0, .int 0, .int 0, .int 0, .int 0, .int 0, .ref 47, .ref 48, .ref 49, .ref 50, .null, .null, .null, .null, .null, .null])))
  rw [← hS8]
  have f8 : S8.2 40 = .inr (0, [.int 0, .int 0, .int 0, .int 0, .int 0, .int 0, .int 0, .ref 47, .ref 48, .ref 49, .ref 50, .null, .null, .null, .null, .null, .null]) := by rw [hS8]; exact mj_up_eq
  have hL8 : S8.1 = S.1 ++ [47, 48, 49, 50] := by rw [hS8]; exact hL7
  refine ro_aload_n hK dA_init_32 rfl ?_
  refine ro_iconst (x := 5) hK (by decide) dA_init_33 ?_
  refine ro_newI (i := 51) (N := 5) hK (by decide) (by decide) (by decide) (by rw [hL8]; exact mj_fr (hf _ (by simp)) (by simp)) (by omega) ⟨by decide, by decide⟩ dA_init_34 ?_
  obtain ⟨S9, hS9⟩ : ∃ T, T = mj_nw S8 51 (.inl (0, 5, .inl (fun _ => 0))) := ⟨_, rfl⟩
  rw [← hS9]
  have f9 : S9.2 40 = .inr (0, [.int 0, .int 0, .int 0, .int 0, .int 0, .int 0, .int 0, .ref 47, .ref 48, .ref 49, .ref 50, .null, .null, .null, .null, .null, .null]) := by rw [hS9]; exact (mj_nw_ne (by omega)).trans f8
  have hL9 : S9.1 = S.1 ++ [47, 48, 49, 50, 51] := by rw [hS9]; show S8.1 ++ [51] = _; rw [hL8]; simp
  refine ro_putF hK gA_24 f9 (by show 11 < 17; decide) (fun _ => rfl) (fun _ => rfl) dA_init_36 ?_
  obtain ⟨S10, hS10⟩ : ∃ T, T = mj_up S9 40 (.inr (0, [.int 0, .int 0, .int 0, .int 0, .int 0, .int 0, .int 0, .ref 47, .ref 48, .ref 49, .ref 50, .ref 51, .null, .null, .null, .null, .null])) := ⟨_, rfl⟩
  show K _ _ _ _ _ (mj_up S9 40 (.inr (0, [.int 0, .int 0, .int 0, .int 0, .int 0, .int 0, .int 0, .ref 47, .ref 48, .ref 49, .ref 50, .ref 51, .null, .null, .null, .null, .null])))
  rw [← hS10]
  have f10 : S10.2 40 = .inr (0, [.int 0, .int 0, .int 0, .int 0, .int 0, .int 0, .int 0, .ref 47, .ref 48, .ref 49, .ref 50, .ref 51, .null, .null, .null, .null, .null]) := by rw [hS10]; exact mj_up_eq
  have hL10 : S10.1 = S.1 ++ [47, 48, 49, 50, 51] := by rw [hS10]; exact hL9
  refine ro_aload_n hK dA_init_39 rfl ?_
  refine ro_iconst (x := 5) hK (by decide) dA_init_40 ?_
  refine ro_newI (i := 52) (N := 5) hK (by decide) (by decide) (by decide) (by rw [hL10]; exact mj_fr (hf _ (by simp)) (by simp)) (by omega) ⟨by decide, by decide⟩ dA_init_41 ?_
  obtain ⟨S11, hS11⟩ : ∃ T, T = mj_nw S10 52 (.inl (0, 5, .inl (fun _ => 0))) := ⟨_, rfl⟩
  rw [← hS11]
  have f11 : S11.2 40 = .inr (0, [.int 0, .int 0, .int 0, .int 0, .int 0, .int 0, .int 0, .ref 47, .ref 48, .ref 49, .ref 50, .ref 51, .null, .null, .null, .null, .null]) := by rw [hS11]; exact (mj_nw_ne (by omega)).trans f10
  have hL11 : S11.1 = S.1 ++ [47, 48, 49, 50, 51, 52] := by rw [hS11]; show S10.1 ++ [52] = _; rw [hL10]; simp
  refine ro_putF hK gA_27 f11 (by show 12 < 17; decide) (fun _ => rfl) (fun _ => rfl) dA_init_43 ?_
  obtain ⟨S12, hS12⟩ : ∃ T, T = mj_up S11 40 (.inr (0, [.int 0, .int 0, .int 0, .int 0, .int 0, .int 0, .int 0, .ref 47, .ref 48, .ref 49, .ref 50, .ref 51, .ref 52, .null, .null, .null, .null])) := ⟨_, rfl⟩
  show K _ _ _ _ _ (mj_up S11 40 (.inr (0, [.int 0, .int 0, .int 0, .int 0, .int 0, .int 0, .int 0, .ref 47, .ref 48, .ref 49, .ref 50, .ref 51, .ref 52, .null, .null, .null, .null])))
  rw [← hS12]
  have f12 : S12.2 40 = .inr (0, [.int 0, .int 0, .int 0, .int 0, .int 0, .int 0, .int 0, .ref 47, .ref 48, .ref 49, .ref 50, .ref 51, .ref 52, .null, .null, .null, .null]) := by rw [hS12]; exact mj_up_eq
  have hL12 : S12.1 = S.1 ++ [47, 48, 49, 50, 51, 52] := by rw [hS12]; exact hL11
  refine ro_aload_n hK dA_init_46 rfl ?_
  refine ro_iconst (x := 5) hK (by decide) dA_init_47 ?_
  refine ro_newI (i := 53) (N := 5) hK (by decide) (by decide) (by decide) (by rw [hL12]; exact mj_fr (hf _ (by simp)) (by simp)) (by omega) ⟨by decide, by decide⟩ dA_init_48 ?_
  obtain ⟨S13, hS13⟩ : ∃ T, T = mj_nw S12 53 (.inl (0, 5, .inl (fun _ => 0))) := ⟨_, rfl⟩
  rw [← hS13]
  have f13 : S13.2 40 = .inr (0, [.int 0, .int 0, .int 0, .int 0, .int 0, .int 0, .int 0, .ref 47, .ref 48, .ref 49, .ref 50, .ref 51, .ref 52, .null, .null, .null, .null]) := by rw [hS13]; exact (mj_nw_ne (by omega)).trans f12
  have hL13 : S13.1 = S.1 ++ [47, 48, 49, 50, 51, 52, 53] := by rw [hS13]; show S12.1 ++ [53] = _; rw [hL12]; simp
  refine ro_putF hK gA_30 f13 (by show 13 < 17; decide) (fun _ => rfl) (fun _ => rfl) dA_init_50 ?_
  obtain ⟨S14, hS14⟩ : ∃ T, T = mj_up S13 40 (.inr (0, [.int 0, .int 0, .int 0, .int 0, .int 0, .int 0, .int 0, .ref 47, .ref 48, .ref 49, .ref 50, .ref 51, .ref 52, .ref 53, .null, .null, .null])) := ⟨_, rfl⟩
  show K _ _ _ _ _ (mj_up S13 40 (.inr (0, [.int 0, .int 0, .int 0, .int 0, .int 0, .int 0, .int 0, .ref 47, .ref 48, .ref 49, .ref 50, .ref 51, .ref 52, .ref 53, .null, .null, .null])))
  rw [← hS14]
  have f14 : S14.2 40 = .inr (0, [.int 0, .int 0, .int 0, .int 0, .int 0, .int 0, .int 0, .ref 47, .ref 48, .ref 49, .ref 50, .ref 51, .ref 52, .ref 53, .null, .null, .null]) := by rw [hS14]; exact mj_up_eq
  have hL14 : S14.1 = S.1 ++ [47, 48, 49, 50, 51, 52, 53] := by rw [hS14]; exact hL13
  refine ro_aload_n hK dA_init_53 rfl ?_
  refine ro_iconst (x := 5) hK (by decide) dA_init_54 ?_
  refine ro_newI (i := 54) (N := 5) hK (by decide) (by decide) (by decide) (by rw [hL14]; exact mj_fr (hf _ (by simp)) (by simp)) (by omega) ⟨by decide, by decide⟩ dA_init_55 ?_
  obtain ⟨S15, hS15⟩ : ∃ T, T = mj_nw S14 54 (.inl (0, 5, .inl (fun _ => 0))) := ⟨_, rfl⟩
  rw [← hS15]
  have f15 : S15.2 40 = .inr (0, [.int 0, .int 0, .int 0, .int 0, .int 0, .int 0, .int 0, .ref 47, .ref 48, .ref 49, .ref 50, .ref 51, .ref 52, .ref 53, .null, .null, .null]) := by rw [hS15]; exact (mj_nw_ne (by omega)).trans f14
  have hL15 : S15.1 = S.1 ++ [47, 48, 49, 50, 51, 52, 53, 54] := by rw [hS15]; show S14.1 ++ [54] = _; rw [hL14]; simp
  refine ro_putF hK gA_33 f15 (by show 14 < 17; decide) (fun _ => rfl) (fun _ => rfl) dA_init_57 ?_
  obtain ⟨S16, hS16⟩ : ∃ T, T = mj_up S15 40 (.inr (0, [.int 0, .int 0, .int 0, .int 0, .int 0, .int 0, .int 0, .ref 47, .ref 48, .ref 49, .ref 50, .ref 51, .ref 52, .ref 53, .ref 54, .null, .null])) := ⟨_, rfl⟩
  show K _ _ _ _ _ (mj_up S15 40 (.inr (0, [.int 0, .int 0, .int 0, .int 0, .int 0, .int 0, .int 0, .ref 47, .ref 48, .ref 49, .ref 50, .ref 51, .ref 52, .ref 53, .ref 54, .null, .null])))
  rw [← hS16]
  have f16 : S16.2 40 = .inr (0, [.int 0, .int 0, .int 0, .int 0, .int 0, .int 0, .int 0, .ref 47, .ref 48, .ref 49, .ref 50, .ref 51, .ref 52, .ref 53, .ref 54, .null, .null]) := by rw [hS16]; exact mj_up_eq
  have hL16 : S16.1 = S.1 ++ [47, 48, 49, 50, 51, 52, 53, 54] := by rw [hS16]; exact hL15
  refine ro_aload_n hK dA_init_60 rfl ?_
  refine ro_bipush (x := 100) hK (by decide) dA_init_61 ?_
  refine ro_newI (i := 55) (N := 100) hK (by decide) (by decide) (by decide) (by rw [hL16]; exact mj_fr (hf _ (by simp)) (by simp)) (by omega) ⟨by decide, by decide⟩ dA_init_63 ?_
  obtain ⟨S17, hS17⟩ : ∃ T, T = mj_nw S16 55 (.inl (0, 100, .inl (fun _ => 0))) := ⟨_, rfl⟩
  rw [← hS17]
  have f17 : S17.2 40 = .inr (0, [.int 0, .int 0, .int 0, .int 0, .int 0, .int 0, .int 0, .ref 47, .ref 48, .ref 49, .ref 50, .ref 51, .ref 52, .ref 53, .ref 54, .null, .null]) := by rw [hS17]; exact (mj_nw_ne (by omega)).trans f16
  have hL17 : S17.1 = S.1 ++ [47, 48, 49, 50, 51, 52, 53, 54, 55] := by rw [hS17]; show S16.1 ++ [55] = _; rw [hL16]; simp
  refine ro_putF hK gA_36 f17 (by show 15 < 17; decide) (fun _ => rfl) (fun _ => rfl) dA_init_65 ?_
  obtain ⟨S18, hS18⟩ : ∃ T, T = mj_up S17 40 (.inr (0, [.int 0, .int 0, .int 0, .int 0, .int 0, .int 0, .int 0, .ref 47, .ref 48, .ref 49, .ref 50, .ref 51, .ref 52, .ref 53, .ref 54, .ref 55, .null])) := ⟨_, rfl⟩
  show K _ _ _ _ _ (mj_up S17 40 (.inr (0, [.int 0, .int 0, .int 0, .int 0, .int 0, .int 0, .int 0, .ref 47, .ref 48, .ref 49, .ref 50, .ref 51, .ref 52, .ref 53, .ref 54, .ref 55, .null])))
  rw [← hS18]
  have f18 : S18.2 40 = .inr (0, [.int 0, .int 0, .int 0, .int 0, .int 0, .int 0, .int 0, .ref 47, .ref 48, .ref 49, .ref 50, .ref 51, .ref 52, .ref 53, .ref 54, .ref 55, .null]) := by rw [hS18]; exact mj_up_eq
  have hL18 : S18.1 = S.1 ++ [47, 48, 49, 50, 51, 52, 53, 54, 55] := by rw [hS18]; exact hL17
  refine ro_aload_n hK dA_init_68 rfl ?_
  refine ro_bipush (x := 48) hK (by decide) dA_init_69 ?_
  refine ro_newI (i := 56) (N := 48) hK (by decide) (by decide) (by decide) (by rw [hL18]; exact mj_fr (hf _ (by simp)) (by simp)) (by omega) ⟨by decide, by decide⟩ dA_init_71 ?_
  obtain ⟨S19, hS19⟩ : ∃ T, T = mj_nw S18 56 (.inl (0, 48, .inl (fun _ => 0))) := ⟨_, rfl⟩
  rw [← hS19]
  have f19 : S19.2 40 = .inr (0, [.int 0, .int 0, .int 0, .int 0, .int 0, .int 0, .int 0, .ref 47, .ref 48, .ref 49, .ref 50, .ref 51, .ref 52, .ref 53, .ref 54, .ref 55, .null]) := by rw [hS19]; exact (mj_nw_ne (by omega)).trans f18
  have hL19 : S19.1 = S.1 ++ [47, 48, 49, 50, 51, 52, 53, 54, 55, 56] := by rw [hS19]; show S18.1 ++ [56] = _; rw [hL18]; simp
  refine ro_putF hK gA_39 f19 (by show 16 < 17; decide) (fun _ => rfl) (fun _ => rfl) dA_init_73 ?_
  obtain ⟨S20, hS20⟩ : ∃ T, T = mj_up S19 40 (.inr (0, [.int 0, .int 0, .int 0, .int 0, .int 0, .int 0, .int 0, .ref 47, .ref 48, .ref 49, .ref 50, .ref 51, .ref 52, .ref 53, .ref 54, .ref 55, .ref 56])) := ⟨_, rfl⟩
  show K _ _ _ _ _ (mj_up S19 40 (.inr (0, [.int 0, .int 0, .int 0, .int 0, .int 0, .int 0, .int 0, .ref 47, .ref 48, .ref 49, .ref 50, .ref 51, .ref 52, .ref 53, .ref 54, .ref 55, .ref 56])))
  rw [← hS20]
  have f20 : S20.2 40 = .inr (0, [.int 0, .int 0, .int 0, .int 0, .int 0, .int 0, .int 0, .ref 47, .ref 48, .ref 49, .ref 50, .ref 51, .ref 52, .ref 53, .ref 54, .ref 55, .ref 56]) := by rw [hS20]; exact mj_up_eq
  have hL20 : S20.1 = S.1 ++ [47, 48, 49, 50, 51, 52, 53, 54, 55, 56] := by rw [hS20]; exact hL19
  refine hR.2.2 _ _ 76 _ _ rfl dA_init_76 ⟨rfl, ?_⟩
  subst hS20 hS19 hS18 hS17 hS16 hS15 hS14 hS13 hS12 hS11 hS10 hS9 hS8 hS7 hS6 hS5 hS4 hS3 hS2 hS1
  subst hS0
  rfl
theorem dS_init_0 : decode bS_init 0 = .ok (.aload_n 0, 1) := by decide +kernel
theorem dS_init_1 : decode bS_init 1 = .ok (.invokespecial 3, 3) := by decide +kernel
theorem dS_init_4 : decode bS_init 4 = .ok (.aload_n 0, 1) := by decide +kernel
theorem dS_init_5 : decode bS_init 5 = .ok (.bipush 6, 2) := by decide +kernel
theorem dS_init_7 : decode bS_init 7 = .ok (.newarray .int, 2) := by decide +kernel
theorem dS_init_9 : decode bS_init 9 = .ok (.putfield 9, 3) := by decide +kernel
theorem dS_init_12 : decode bS_init 12 = .ok (.aload_n 0, 1) := by decide +kernel
theorem dS_init_13 : decode bS_init 13 = .ok (.bipush 6, 2) := by decide +kernel
theorem dS_init_15 : decode bS_init 15 = .ok (.newarray .int, 2) := by decide +kernel
theorem dS_init_17 : decode bS_init 17 = .ok (.putfield 15, 3) := by decide +kernel
theorem dS_init_20 : decode bS_init 20 = .ok (.return_, 1) := by decide +kernel
def mi_S (S : mj_S) : mj_S := mj_up (mj_nw (mj_up (mj_nw (S) 61 (.inl (0, 6, .inl (fun _ => 0)))) 60 (.inr (3, [.ref 61, .int 0, .int 0, .null, .int 0, .int 0]))) 64 (.inl (0, 6, .inl (fun _ => 0)))) 60 (.inr (3, [.ref 61, .int 0, .int 0, .ref 64, .int 0, .int 0]))
theorem mi_S_L (S : mj_S) : (mi_S S).1 = S.1 ++ [61, 64] := by
  unfold mi_S mj_up mj_nw
  simp [List.append_assoc]
theorem mi_S_ne (S : mj_S) {j : Nat} (h : j ≠ 60) (h2 : j ∉ [61, 64]) : (mi_S S).2 j = S.2 j := by
  simp only [List.mem_cons, List.not_mem_nil, or_false, not_or] at h2
  unfold mi_S mj_up mj_nw
  simp [h, h2]
set_option maxHeartbeats 4000000 in
set_option maxRecDepth 100000 in
theorem ti_S {dd : Nat} {S : mj_S} (f0 : S.2 60 = .inr (3, [.null, .int 0, .int 0, .null, .int 0, .int 0])) (hf : ∀ i ∈ [61, 64], i ∉ S.1) : mj_MC (dd + 1) 2 12 yS_init bS_init 1 none [.ref 60] S (fun r S2 => r = none ∧ S2 = mi_S S) := by
  refine mj_mc (lv := [.ref 60]) mS_init rfl rfl (Nat.le_of_ble_eq_true rfl) (fun K hK hR => ?_)
  have hK : mj_C (dd + 1) 2 12 RS_c "<init>" bS_init 1 K := hK
  have hL0 : S.1 = S.1 ++ [] := (List.append_nil _).symm
  obtain ⟨S0, hS0⟩ : ∃ S0, S0 = S := ⟨_, rfl⟩
  have f0 : S0.2 60 = .inr (3, [.null, .int 0, .int 0, .null, .int 0, .int 0]) := by rw [hS0]; exact f0
  have hL0 : S0.1 = S.1 ++ [] := by rw [hS0]; exact hL0
  rw [← hS0]
  refine ro_aload_n hK dS_init_0 rfl ?_
  refine ro_oi hK oi_S (by omega) (Nat.le_of_ble_eq_true rfl) dS_init_1 ?_
  refine ro_aload_n hK dS_init_4 rfl ?_
  refine ro_bipush (x := 6) hK (by decide) dS_init_5 ?_
  refine ro_newI (i := 61) (N := 6) hK (by decide) (by decide) (by decide) (by rw [hL0]; exact mj_fr (hf _ (by simp)) (by simp)) (by omega) ⟨by decide, by decide⟩ dS_init_7 ?_
  obtain ⟨S1, hS1⟩ : ∃ T, T = mj_nw S0 61 (.inl (0, 6, .inl (fun _ => 0))) := ⟨_, rfl⟩
  rw [← hS1]
  have f1 : S1.2 60 = .inr (3, [.null, .int 0, .int 0, .null, .int 0, .int 0]) := by rw [hS1]; exact (mj_nw_ne (by omega)).trans f0
  have hL1 : S1.1 = S.1 ++ [61] := by rw [hS1]; show S0.1 ++ [61] = _; rw [hL0]; simp
  refine ro_putF hK gS_9 f1 (by show 0 < 6; decide) (fun _ => rfl) (fun _ => rfl) dS_init_9 ?_
  obtain ⟨S2, hS2⟩ : ∃ T, T = mj_up S1 60 (.inr (3, [.ref 61, .int 0, .int 0, .null, .int 0, .int 0])) := ⟨_, rfl⟩
  show K _ _ _ _ _ (mj_up S1 60 (.inr (3, [.ref 61, .int 0, .int 0, .null, .int 0, .int 0])))
  rw [← hS2]
  have f2 : S2.2 60 = .inr (3, [.ref 61, .int 0, .int 0, .null, .int 0, .int 0]) := by rw [hS2]; exact mj_up_eq
  have hL2 : S2.1 = S.1 ++ [61] := by rw [hS2]; exact hL1
  refine ro_aload_n hK dS_init_12 rfl ?_
  refine ro_bipush (x := 6) hK (by decide) dS_init_13 ?_
  refine ro_newI (i := 64) (N := 6) hK (by decide) (by decide) (by decide) (by rw [hL2]; exact mj_fr (hf _ (by simp)) (by simp)) (by omega) ⟨by decide, by decide⟩ dS_init_15 ?_
  obtain ⟨S3, hS3⟩ : ∃ T, T = mj_nw S2 64 (.inl (0, 6, .inl (fun _ => 0))) := ⟨_, rfl⟩
  rw [← hS3]
  have f3 : S3.2 60 = .inr (3, [.ref 61, .int 0, .int 0, .null, .int 0, .int 0]) := by rw [hS3]; exact (mj_nw_ne (by omega)).trans f2
  have hL3 : S3.1 = S.1 ++ [61, 64] := by rw [hS3]; show S2.1 ++ [64] = _; rw [hL2]; simp
  refine ro_putF hK gS_15 f3 (by show 3 < 6; decide) (fun _ => rfl) (fun _ => rfl) dS_init_17 ?_
  obtain ⟨S4, hS4⟩ : ∃ T, T = mj_up S3 60 (.inr (3, [.ref 61, .int 0, .int 0, .ref 64, .int 0, .int 0])) := ⟨_, rfl⟩
  show K _ _ _ _ _ (mj_up S3 60 (.inr (3, [.ref 61, .int 0, .int 0, .ref 64, .int 0, .int 0])))
  rw [← hS4]
  have f4 : S4.2 60 = .inr (3, [.ref 61, .int 0, .int 0, .ref 64, .int 0, .int 0]) := by rw [hS4]; exact mj_up_eq
  have hL4 : S4.1 = S.1 ++ [61, 64] := by rw [hS4]; exact hL3
  refine hR.2.2 _ _ 20 _ _ rfl dS_init_20 ⟨rfl, ?_⟩
  subst hS4 hS3 hS2 hS1
  subst hS0
  rfl
theorem dR_init_0 : decode bR_init 0 = .ok (.aload_n 0, 1) := by decide +kernel
theorem dR_init_1 : decode bR_init 1 = .ok (.invokespecial 3, 3) := by decide +kernel
theorem dR_init_4 : decode bR_init 4 = .ok (.aload_n 0, 1) := by decide +kernel
theorem dR_init_5 : decode bR_init 5 = .ok (.iconst 0, 1) := by decide +kernel
theorem dR_init_6 : decode bR_init 6 = .ok (.newarray .byte, 2) := by decide +kernel
theorem dR_init_8 : decode bR_init 8 = .ok (.putfield 9, 3) := by decide +kernel
theorem dR_init_11 : decode bR_init 11 = .ok (.return_, 1) := by decide +kernel
def mi_R (S : mj_S) : mj_S := mj_up (mj_nw (S) 37 (.inl (1, 0, .inl (fun _ => 0)))) 36 (.inr (2, [.ref 37, .int 0, .int 0, .int 0]))
theorem mi_R_L (S : mj_S) : (mi_R S).1 = S.1 ++ [37] := by
  unfold mi_R mj_up mj_nw
  simp [List.append_assoc]
theorem mi_R_ne (S : mj_S) {j : Nat} (h : j ≠ 36) (h2 : j ∉ [37]) : (mi_R S).2 j = S.2 j := by
  simp only [List.mem_cons, List.not_mem_nil, or_false, not_or] at h2
  unfold mi_R mj_up mj_nw
  simp [h, h2]
set_option maxHeartbeats 4000000 in
set_option maxRecDepth 100000 in
theorem ti_R {dd : Nat} {S : mj_S} (f0 : S.2 36 = .inr (2, [.null, .int 0, .int 0, .int 0])) (hf : ∀ i ∈ [37], i ∉ S.1) : mj_MC (dd + 1) 1 0 yR_init bR_init 1 none [.ref 36] S (fun r S2 => r = none ∧ S2 = mi_R S) := by
  refine mj_mc (lv := [.ref 36]) mR_init rfl rfl (Nat.le_of_ble_eq_true rfl) (fun K hK hR => ?_)
  have hK : mj_C (dd + 1) 1 0 RR_c "<init>" bR_init 1 K := hK
  have hL0 : S.1 = S.1 ++ [] := (List.append_nil _).symm
  obtain ⟨S0, hS0⟩ : ∃ S0, S0 = S := ⟨_, rfl⟩
  have f0 : S0.2 36 = .inr (2, [.null, .int 0, .int 0, .int 0]) := by rw [hS0]; exact f0
  have hL0 : S0.1 = S.1 ++ [] := by rw [hS0]; exact hL0
  rw [← hS0]
  refine ro_aload_n hK dR_init_0 rfl ?_
  refine ro_oi hK oi_R (by omega) (Nat.le_of_ble_eq_true rfl) dR_init_1 ?_
  refine ro_aload_n hK dR_init_4 rfl ?_
  refine ro_iconst (x := 0) hK (by decide) dR_init_5 ?_
  refine ro_newB (i := 37) (N := 0) hK (by decide) (by decide) (by decide) (by rw [hL0]; exact mj_fr (hf _ (by simp)) (by simp)) (by omega) ⟨by decide, by decide⟩ dR_init_6 ?_
  obtain ⟨S1, hS1⟩ : ∃ T, T = mj_nw S0 37 (.inl (1, 0, .inl (fun _ => 0))) := ⟨_, rfl⟩
  rw [← hS1]
  have f1 : S1.2 36 = .inr (2, [.null, .int 0, .int 0, .int 0]) := by rw [hS1]; exact (mj_nw_ne (by omega)).trans f0
  have hL1 : S1.1 = S.1 ++ [37] := by rw [hS1]; show S0.1 ++ [37] = _; rw [hL0]; simp
  refine ro_put hK gR_9 f1 (by show 0 < 4; decide) (fun _ => rfl) (fun _ => rfl) dR_init_8 ?_
  obtain ⟨S2, hS2⟩ : ∃ T, T = mj_up S1 36 (.inr (2, [.ref 37, .int 0, .int 0, .int 0])) := ⟨_, rfl⟩
  show K _ _ _ _ _ (mj_up S1 36 (.inr (2, [.ref 37, .int 0, .int 0, .int 0])))
  rw [← hS2]
  have f2 : S2.2 36 = .inr (2, [.ref 37, .int 0, .int 0, .int 0]) := by rw [hS2]; exact mj_up_eq
  have hL2 : S2.1 = S.1 ++ [37] := by rw [hS2]; exact hL1
  refine hR.2.2 _ _ 11 _ _ rfl dR_init_11 ⟨rfl, ?_⟩
  subst hS2 hS1
  subst hS0
  rfl
