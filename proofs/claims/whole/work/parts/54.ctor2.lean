def mj_S0 : mj_S := ([], fun _ => .inr (9, []))
def mz_0 : mb_T := (fun _ _ => 0, fun _ _ => 0, fun _ => 0, fun _ => 0, fun _ => false)
def mz_M (s : mb_T) : mb_T := (fun a b => if a = 200 then (if b = 22 then -9 else if b = 25 then -9 else 0) else s.1 a b, fun a => if 200 ≤ a then (if a = 223 then upd (upd (upd (upd (upd (fun _ => 0) 0 0) 1 1) 2 2) 3 3) 4 4 else fun _ => 0) else s.2.1 a, fun a => if a = 200 then 0 else s.2.2.1 a, s.2.2.2.1, fun q => if q = 3 then true else s.2.2.2.2 q)
theorem mj_nm_ne {S : mj_S} {o base N t j : Nat} {x : mj_E} (h : j ≠ o) (h2 : ¬ (base ≤ j ∧ j < base + N)) : (mj_nm S o base N x t).2 j = S.2 j := (if_neg h).trans (if_neg h2)
theorem mj_nm_o {S : mj_S} {o base N t : Nat} {x : mj_E} : (mj_nm S o base N x t).2 o = .inl (t, N, .inr (.inr (.inr (.inr (fun i => if i < N then some (base + i) else none))))) := if_pos rfl
theorem mj_nm_in {S : mj_S} {o base N t j : Nat} {x : mj_E} (h : j ≠ o) (h2 : base ≤ j ∧ j < base + N) : (mj_nm S o base N x t).2 j = x := (if_neg h).trans (if_pos h2)
theorem mj_nrefs {fs : List Value} (h : fs.all (fun w => match w with | .ref _ => false | _ => true) = true) : ∀ w ∈ fs, mj_rv [] w := by
  intro w hw j hj
  have := List.all_eq_true.mp h w hw
  rw [hj] at this
  cases this
theorem mj_nw_eq {S : mj_S} {i : Nat} {x : mj_E} : (mj_nw S i x).2 i = x := if_pos rfl
theorem mi_V_o (S : mj_S) (c : Nat) : (mi_V S c).2 c = .inr (1, [.int 0, .int 0, .int 0, .int 0, .int 0, .ref (c + 5), .ref (c + 6), .ref (c + 7), .ref (c + 8), .ref (c + 9), .ref (c + 10), .ref (c + 11), .ref (c + 12)]) := mj_up_eq
theorem mi_V_0 (S : mj_S) (c : Nat) : (mi_V S c).2 (c + 5) = .inl (0, 5, .inl (fun _ => 0)) := by
  unfold mi_V mj_up mj_nw
  simp
theorem mi_V_1 (S : mj_S) (c : Nat) : (mi_V S c).2 (c + 6) = .inl (0, 5, .inl (fun _ => 0)) := by
  unfold mi_V mj_up mj_nw
  simp
theorem mi_V_2 (S : mj_S) (c : Nat) : (mi_V S c).2 (c + 7) = .inl (0, 5, .inl (fun _ => 0)) := by
  unfold mi_V mj_up mj_nw
  simp
theorem mi_V_3 (S : mj_S) (c : Nat) : (mi_V S c).2 (c + 8) = .inl (0, 5, .inl (fun _ => 0)) := by
  unfold mi_V mj_up mj_nw
  simp
theorem mi_V_4 (S : mj_S) (c : Nat) : (mi_V S c).2 (c + 9) = .inl (0, 5, .inl (fun _ => 0)) := by
  unfold mi_V mj_up mj_nw
  simp
theorem mi_V_5 (S : mj_S) (c : Nat) : (mi_V S c).2 (c + 10) = .inl (0, 120, .inl (fun _ => 0)) := by
  unfold mi_V mj_up mj_nw
  simp
theorem mi_V_6 (S : mj_S) (c : Nat) : (mi_V S c).2 (c + 11) = .inl (0, 120, .inl (fun _ => 0)) := by
  unfold mi_V mj_up mj_nw
  simp
theorem mi_V_7 (S : mj_S) (c : Nat) : (mi_V S c).2 (c + 12) = .inl (0, 600, .inl (fun _ => 0)) := by
  unfold mi_V mj_up mj_nw
  simp
theorem mi_A_o (S : mj_S) : (mi_A S).2 40 = .inr (0, [.int 0, .int 0, .int 0, .int 0, .int 0, .int 0, .int 0, .ref 47, .ref 48, .ref 49, .ref 50, .ref 51, .ref 52, .ref 53, .ref 54, .ref 55, .ref 56]) := mj_up_eq
theorem mi_A_0 (S : mj_S) : (mi_A S).2 47 = .inl (0, 5, .inl (fun _ => 0)) := by
  unfold mi_A mj_up mj_nw
  simp
theorem mi_A_1 (S : mj_S) : (mi_A S).2 48 = .inl (0, 5, .inl (fun _ => 0)) := by
  unfold mi_A mj_up mj_nw
  simp
theorem mi_A_2 (S : mj_S) : (mi_A S).2 49 = .inl (0, 5, .inl (fun _ => 0)) := by
  unfold mi_A mj_up mj_nw
  simp
theorem mi_A_3 (S : mj_S) : (mi_A S).2 50 = .inl (0, 5, .inl (fun _ => 0)) := by
  unfold mi_A mj_up mj_nw
  simp
theorem mi_A_4 (S : mj_S) : (mi_A S).2 51 = .inl (0, 5, .inl (fun _ => 0)) := by
  unfold mi_A mj_up mj_nw
  simp
theorem mi_A_5 (S : mj_S) : (mi_A S).2 52 = .inl (0, 5, .inl (fun _ => 0)) := by
  unfold mi_A mj_up mj_nw
  simp
theorem mi_A_6 (S : mj_S) : (mi_A S).2 53 = .inl (0, 5, .inl (fun _ => 0)) := by
  unfold mi_A mj_up mj_nw
  simp
theorem mi_A_7 (S : mj_S) : (mi_A S).2 54 = .inl (0, 5, .inl (fun _ => 0)) := by
  unfold mi_A mj_up mj_nw
  simp
theorem mi_A_8 (S : mj_S) : (mi_A S).2 55 = .inl (0, 100, .inl (fun _ => 0)) := by
  unfold mi_A mj_up mj_nw
  simp
theorem mi_A_9 (S : mj_S) : (mi_A S).2 56 = .inl (0, 48, .inl (fun _ => 0)) := by
  unfold mi_A mj_up mj_nw
  simp
theorem mi_S_o (S : mj_S) : (mi_S S).2 60 = .inr (3, [.ref 61, .int 0, .int 0, .ref 64, .int 0, .int 0]) := mj_up_eq
theorem mi_S_0 (S : mj_S) : (mi_S S).2 61 = .inl (0, 6, .inl (fun _ => 0)) := by
  unfold mi_S mj_up mj_nw
  simp
theorem mi_S_1 (S : mj_S) : (mi_S S).2 64 = .inl (0, 6, .inl (fun _ => 0)) := by
  unfold mi_S mj_up mj_nw
  simp
theorem mi_R_o (S : mj_S) : (mi_R S).2 36 = .inr (2, [.ref 37, .int 0, .int 0, .int 0]) := mj_up_eq
theorem mi_R_0 (S : mj_S) : (mi_R S).2 37 = .inl (1, 0, .inl (fun _ => 0)) := by
  unfold mi_R mj_up mj_nw
  simp
theorem dC_init_0 : decode bC_init 0 = .ok (.aload_n 0, 1) := by decide +kernel
theorem dC_init_1 : decode bC_init 1 = .ok (.invokespecial 1, 3) := by decide +kernel
theorem dC_init_4 : decode bC_init 4 = .ok (.aload_n 0, 1) := by decide +kernel
theorem dC_init_5 : decode bC_init 5 = .ok (.bipush 6, 2) := by decide +kernel
theorem dC_init_7 : decode bC_init 7 = .ok (.bipush 60, 2) := by decide +kernel
theorem dC_init_9 : decode bC_init 9 = .ok (.multianewarray 9 2, 4) := by decide +kernel
theorem dC_init_13 : decode bC_init 13 = .ok (.putfield 11, 3) := by decide +kernel
theorem dC_init_16 : decode bC_init 16 = .ok (.aload_n 0, 1) := by decide +kernel
theorem dC_init_17 : decode bC_init 17 = .ok (.bipush 6, 2) := by decide +kernel
theorem dC_init_19 : decode bC_init 19 = .ok (.newarray .int, 2) := by decide +kernel
theorem dC_init_21 : decode bC_init 21 = .ok (.putfield 14, 3) := by decide +kernel
theorem dC_init_24 : decode bC_init 24 = .ok (.aload_n 0, 1) := by decide +kernel
theorem dC_init_25 : decode bC_init 25 = .ok (.iconst 4, 1) := by decide +kernel
theorem dC_init_26 : decode bC_init 26 = .ok (.bipush 80, 2) := by decide +kernel
theorem dC_init_28 : decode bC_init 28 = .ok (.multianewarray 18 2, 4) := by decide +kernel
theorem dC_init_32 : decode bC_init 32 = .ok (.putfield 20, 3) := by decide +kernel
theorem dC_init_35 : decode bC_init 35 = .ok (.aload_n 0, 1) := by decide +kernel
theorem dC_init_36 : decode bC_init 36 = .ok (.iconst 4, 1) := by decide +kernel
theorem dC_init_37 : decode bC_init 37 = .ok (.newarray .int, 2) := by decide +kernel
theorem dC_init_39 : decode bC_init 39 = .ok (.putfield 23, 3) := by decide +kernel
theorem dC_init_42 : decode bC_init 42 = .ok (.aload_n 0, 1) := by decide +kernel
theorem dC_init_43 : decode bC_init 43 = .ok (.new 26, 3) := by decide +kernel
theorem dC_init_46 : decode bC_init 46 = .ok (.dup, 1) := by decide +kernel
theorem dC_init_47 : decode bC_init 47 = .ok (.invokespecial 28, 3) := by decide +kernel
theorem dC_init_50 : decode bC_init 50 = .ok (.putfield 29, 3) := by decide +kernel
theorem dC_init_53 : decode bC_init 53 = .ok (.aload_n 0, 1) := by decide +kernel
theorem dC_init_54 : decode bC_init 54 = .ok (.new 26, 3) := by decide +kernel
theorem dC_init_57 : decode bC_init 57 = .ok (.dup, 1) := by decide +kernel
theorem dC_init_58 : decode bC_init 58 = .ok (.invokespecial 28, 3) := by decide +kernel
theorem dC_init_61 : decode bC_init 61 = .ok (.putfield 33, 3) := by decide +kernel
theorem dC_init_64 : decode bC_init 64 = .ok (.aload_n 0, 1) := by decide +kernel
theorem dC_init_65 : decode bC_init 65 = .ok (.iconst 3, 1) := by decide +kernel
theorem dC_init_66 : decode bC_init 66 = .ok (.anewarray 26, 3) := by decide +kernel
theorem dC_init_69 : decode bC_init 69 = .ok (.putfield 36, 3) := by decide +kernel
theorem dC_init_72 : decode bC_init 72 = .ok (.aload_n 0, 1) := by decide +kernel
theorem dC_init_73 : decode bC_init 73 = .ok (.new 40, 3) := by decide +kernel
theorem dC_init_76 : decode bC_init 76 = .ok (.dup, 1) := by decide +kernel
theorem dC_init_77 : decode bC_init 77 = .ok (.invokespecial 42, 3) := by decide +kernel
theorem dC_init_80 : decode bC_init 80 = .ok (.putfield 43, 3) := by decide +kernel
theorem dC_init_83 : decode bC_init 83 = .ok (.aload_n 0, 1) := by decide +kernel
theorem dC_init_84 : decode bC_init 84 = .ok (.new 47, 3) := by decide +kernel
theorem dC_init_87 : decode bC_init 87 = .ok (.dup, 1) := by decide +kernel
theorem dC_init_88 : decode bC_init 88 = .ok (.invokespecial 49, 3) := by decide +kernel
theorem dC_init_91 : decode bC_init 91 = .ok (.putfield 50, 3) := by decide +kernel
theorem dC_init_94 : decode bC_init 94 = .ok (.aload_n 0, 1) := by decide +kernel
theorem dC_init_95 : decode bC_init 95 = .ok (.new 54, 3) := by decide +kernel
theorem dC_init_98 : decode bC_init 98 = .ok (.dup, 1) := by decide +kernel
theorem dC_init_99 : decode bC_init 99 = .ok (.invokespecial 56, 3) := by decide +kernel
theorem dC_init_102 : decode bC_init 102 = .ok (.putfield 57, 3) := by decide +kernel
theorem dC_init_105 : decode bC_init 105 = .ok (.aload_n 0, 1) := by decide +kernel
theorem dC_init_106 : decode bC_init 106 = .ok (.iconst 5, 1) := by decide +kernel
theorem dC_init_107 : decode bC_init 107 = .ok (.newarray .int, 2) := by decide +kernel
theorem dC_init_109 : decode bC_init 109 = .ok (.putfield 61, 3) := by decide +kernel
theorem dC_init_112 : decode bC_init 112 = .ok (.aload_n 0, 1) := by decide +kernel
theorem dC_init_113 : decode bC_init 113 = .ok (.iconst 5, 1) := by decide +kernel
theorem dC_init_114 : decode bC_init 114 = .ok (.newarray .int, 2) := by decide +kernel
theorem dC_init_116 : decode bC_init 116 = .ok (.putfield 64, 3) := by decide +kernel
theorem dC_init_119 : decode bC_init 119 = .ok (.aload_n 0, 1) := by decide +kernel
theorem dC_init_120 : decode bC_init 120 = .ok (.bipush 6, 2) := by decide +kernel
theorem dC_init_122 : decode bC_init 122 = .ok (.newarray .int, 2) := by decide +kernel
theorem dC_init_124 : decode bC_init 124 = .ok (.putfield 67, 3) := by decide +kernel
theorem dC_init_127 : decode bC_init 127 = .ok (.aload_n 0, 1) := by decide +kernel
theorem dC_init_128 : decode bC_init 128 = .ok (.iconst 0, 1) := by decide +kernel
theorem dC_init_129 : decode bC_init 129 = .ok (.putfield 70, 3) := by decide +kernel
theorem dC_init_132 : decode bC_init 132 = .ok (.aload_n 0, 1) := by decide +kernel
theorem dC_init_133 : decode bC_init 133 = .ok (.iconst 0, 1) := by decide +kernel
theorem dC_init_134 : decode bC_init 134 = .ok (.putfield 74, 3) := by decide +kernel
theorem dC_init_137 : decode bC_init 137 = .ok (.aload_n 0, 1) := by decide +kernel
theorem dC_init_138 : decode bC_init 138 = .ok (.getfield 14, 3) := by decide +kernel
theorem dC_init_141 : decode bC_init 141 = .ok (.iconst (-1), 1) := by decide +kernel
theorem dC_init_142 : decode bC_init 142 = .ok (.invokestatic 77, 3) := by decide +kernel
theorem dC_init_145 : decode bC_init 145 = .ok (.aload_n 0, 1) := by decide +kernel
theorem dC_init_146 : decode bC_init 146 = .ok (.getfield 23, 3) := by decide +kernel
theorem dC_init_149 : decode bC_init 149 = .ok (.iconst (-1), 1) := by decide +kernel
theorem dC_init_150 : decode bC_init 150 = .ok (.invokestatic 77, 3) := by decide +kernel
theorem dC_init_153 : decode bC_init 153 = .ok (.return_, 1) := by decide +kernel
def f_C_init (n : Nat) (s : mb_T) : Option (mb_T) := mb_cw (f_Y_fillI n 1 6 (-1) s) fun s_1 => mb_cw (f_Y_fillI n 3 4 (-1) s_1) fun s_3 => some s_3
set_option maxHeartbeats 4000000 in
set_option maxRecDepth 100000 in
theorem ts_C_init {dd n mc ms u v : Nat} {K : mj_KT} {s out : mb_T} (hb : u ≤ mc ∧ v ≤ ms) (hK : mj_C (dd + 2) mc ms RC_c "<init>" bC_init 1 K) (hR : mj_R bC_init none (fun r2 S2 => r2 = none ∧ S2 = mb_s out) K) (h : f_C_init n s = some out) : K u v 137 [.ref 0] [] (mb_s s) := by
  unfold f_C_init at h
  refine ro_aload_n hK dC_init_137 rfl ?_
  refine rb_get hK fC_14 mb_oC rfl dC_init_138 ?_
  refine ro_iconst (x := (-1)) hK (by decide) dC_init_141 ?_
  obtain ⟨s_1, q_2, h⟩ := mb_cw_e h
  refine rb_callS hK mY_fillI vC_77 (t_Y_fillI (dd := dd + 0) ai_1 q_2) rfl (Nat.le_of_ble_eq_true rfl) dC_init_142 rfl hb ?_
  show K u v 145 [.ref 0] [] (mb_s s_1)
  refine ro_aload_n hK dC_init_145 rfl ?_
  refine rb_get hK fC_23 mb_oC rfl dC_init_146 ?_
  refine ro_iconst (x := (-1)) hK (by decide) dC_init_149 ?_
  obtain ⟨s_3, q_4, h⟩ := mb_cw_e h
  refine rb_callS hK mY_fillI vC_77 (t_Y_fillI (dd := dd + 0) ai_3 q_4) rfl (Nat.le_of_ble_eq_true rfl) dC_init_150 rfl hb ?_
  show K u v 153 [.ref 0] [] (mb_s s_3)
  cases h
  exact hR.2.2 u v 153 _ _ rfl dC_init_153 ⟨rfl, rfl⟩
def mz_u : Nat := 52
def mz_v : Nat := 2702
theorem mz_L0 : mb_L mz_0 = [0, 1, 3, 6, 10, 11, 12, 16, 17, 20, 21, 22, 23, 24, 25, 30, 31, 32, 33, 36, 37, 40, 47, 48, 49, 50, 51, 52, 53, 54, 55, 56, 60, 61, 64, 100, 105, 106, 107, 108, 109, 110, 111, 112, 120, 125, 126, 127, 128, 129, 130, 131, 132] := rfl
set_option maxHeartbeats 8000000 in
set_option maxRecDepth 100000 in
theorem ti_C {dd n : Nat} {out : mb_T} (h : f_C_init n mz_0 = some out) : mj_MC (dd + 2) 52 2702 yC_init bC_init 1 none [.ref 0] (mj_nw mj_S0 0 (.inr (4, [.null, .null, .null, .null, .null, .null, .null, .null, .null, .null, .null, .null, .null, .int 0, .int 0]))) (fun r S2 => r = none ∧ S2 = mb_s out) := by
  refine mj_mc (lv := [.ref 0]) mC_init rfl rfl (Nat.le_of_ble_eq_true rfl) (fun K hK hR => ?_)
  have hK : mj_C (dd + 2) 52 2702 RC_c "<init>" bC_init 1 K := hK
  obtain ⟨S0, hS0⟩ : ∃ T, T = mj_nw mj_S0 0 (.inr (4, [.null, .null, .null, .null, .null, .null, .null, .null, .null, .null, .null, .null, .null, .int 0, .int 0])) := ⟨_, rfl⟩
  rw [← hS0]
  have f0 : S0.2 0 = .inr (4, [.null, .null, .null, .null, .null, .null, .null, .null, .null, .null, .null, .null, .null, .int 0, .int 0]) := by rw [hS0]; exact mj_nw_eq
  have hL0 : S0.1 = [0] := by rw [hS0]; rfl
  have hk6z : (Sum.inl (4, 3, .inr (.inr (.inr (.inr (fun _ => none))))) : mj_E) = mb_c mz_0 6 := by
    show _ = (Sum.inl (4, 3, .inr (.inr (.inr (.inr (fun j => if j < 3 ∧ mz_0.2.2.2.2 j = true then some (140 + 20 * j) else none))))) : mj_E)
    congr
    funext j
    exact (if_neg (fun q => by cases q.2)).symm
  have hp0 : ∀ i ∈ S0.1, i ∉ [0] → S0.2 i = mb_c mz_0 i := fun i hi he => absurd (hL0 ▸ hi) he
  refine ro_aload_n hK dC_init_0 rfl ?_
  refine ro_oi hK oi_C (by omega) (Nat.le_of_ble_eq_true rfl) dC_init_1 ?_
  refine ro_aload_n hK dC_init_4 rfl ?_
  refine ro_bipush (x := 6) hK (by decide) dC_init_5 ?_
  refine ro_bipush (x := 60) hK (by decide) dC_init_7 ?_
  refine ro_mnI (o := 16) (base := 20) (N := 6) (M := 60) hK (by decide) (by decide) (by decide) (by decide) (by decide) (by decide) (by decide) (by rw [hL0]; decide) (by rw [hL0]; decide) (by decide) (by decide) (by decide) ⟨by decide, by decide⟩ dC_init_9 ?_
  obtain ⟨S1, hS1⟩ : ∃ T, T = mj_nm S0 16 20 6 (.inl (0, 60, .inl (fun _ => 0))) 2 := ⟨_, rfl⟩
  rw [← hS1]
  have f1 : S1.2 0 = .inr (4, [.null, .null, .null, .null, .null, .null, .null, .null, .null, .null, .null, .null, .null, .int 0, .int 0]) := by rw [hS1]; exact (mj_nm_ne (by decide) (by decide)).trans f0
  have hL1 : S1.1 = [0, 16, 20, 21, 22, 23, 24, 25] := by rw [hS1]; show (S0.1 ++ [16]) ++ _ = _; rw [hL0]; rfl
  have hp1 : ∀ i ∈ S1.1, i ∉ [0] → S1.2 i = mb_c mz_0 i := by
    intro i hi he
    rw [hS1] at hi ⊢
    rcases List.mem_append.mp hi with hi | hi
    · rcases List.mem_append.mp hi with hi | hi
      · exact (mj_nm_ne (fun (e : i = 16) => (show 16 ∉ S0.1 by rw [hL0]; decide) (e ▸ hi)) ((show ∀ j ∈ S0.1, ¬ (20 ≤ j ∧ j < 20 + 6) by rw [hL0]; decide) i hi)).trans (hp0 i hi he)
      · rw [List.mem_singleton.mp hi]; exact mj_nm_o.trans rfl
    · have hi : i ∈ [20, 21, 22, 23, 24, 25] := hi
      simp only [List.mem_cons, List.not_mem_nil, or_false] at hi
      rcases hi with rfl | rfl | rfl | rfl | rfl | rfl <;> exact (mj_nm_in (by decide) (by decide)).trans rfl
  refine ro_putF hK gC_11 f1 (by show 0 < 15; decide) (fun _ => rfl) (fun _ => rfl) dC_init_13 ?_
  obtain ⟨S2, hS2⟩ : ∃ T, T = mj_up S1 0 (.inr (4, [.ref 16, .null, .null, .null, .null, .null, .null, .null, .null, .null, .null, .null, .null, .int 0, .int 0])) := ⟨_, rfl⟩
  show K _ _ 16 _ _ (mj_up S1 0 (.inr (4, [.ref 16, .null, .null, .null, .null, .null, .null, .null, .null, .null, .null, .null, .null, .int 0, .int 0])))
  rw [← hS2]
  have f2 : S2.2 0 = .inr (4, [.ref 16, .null, .null, .null, .null, .null, .null, .null, .null, .null, .null, .null, .null, .int 0, .int 0]) := by rw [hS2]; exact mj_up_eq
  have hL2 : S2.1 = [0, 16, 20, 21, 22, 23, 24, 25] := by rw [hS2]; exact hL1
  have hp2 : ∀ i ∈ S2.1, i ∉ [0] → S2.2 i = mb_c mz_0 i := by
    intro i hi he
    rw [hS2] at hi ⊢
    exact (mj_up_ne (fun e => he (by rw [e]; simp))).trans (hp1 i hi he)
  refine ro_aload_n hK dC_init_16 rfl ?_
  refine ro_bipush (x := 6) hK (by decide) dC_init_17 ?_
  refine ro_newI (i := 1) (N := 6) hK (by decide) (by decide) (by decide) (by rw [hL2]; decide) (by decide) ⟨by decide, by decide⟩ dC_init_19 ?_
  obtain ⟨S3, hS3⟩ : ∃ T, T = mj_nw S2 1 (.inl (0, 6, .inl (fun _ => 0))) := ⟨_, rfl⟩
  rw [← hS3]
  have f3 : S3.2 0 = .inr (4, [.ref 16, .null, .null, .null, .null, .null, .null, .null, .null, .null, .null, .null, .null, .int 0, .int 0]) := by rw [hS3]; exact (mj_nw_ne (by decide)).trans f2
  have fa3 : S3.2 1 = (.inl (0, 6, .inl (fun _ => 0))) := by rw [hS3]; exact mj_nw_eq
  have hL3 : S3.1 = [0, 16, 20, 21, 22, 23, 24, 25, 1] := by rw [hS3]; show S2.1 ++ [1] = _; rw [hL2]; rfl
  have hp3 : ∀ i ∈ S3.1, i ∉ [0] → S3.2 i = mb_c mz_0 i := by
    intro i hi he
    rw [hS3] at hi ⊢
    rcases List.mem_append.mp hi with hi | hi
    · exact (mj_nw_ne (fun (e : i = 1) => (show 1 ∉ S2.1 by rw [hL2]; decide) (e ▸ hi))).trans (hp2 i hi he)
    · rw [List.mem_singleton.mp hi]; exact mj_nw_eq.trans rfl
  refine ro_putF hK gC_14 f3 (by show 1 < 15; decide) (fun _ => rfl) (fun _ => rfl) dC_init_21 ?_
  obtain ⟨S4, hS4⟩ : ∃ T, T = mj_up S3 0 (.inr (4, [.ref 16, .ref 1, .null, .null, .null, .null, .null, .null, .null, .null, .null, .null, .null, .int 0, .int 0])) := ⟨_, rfl⟩
  show K _ _ 24 _ _ (mj_up S3 0 (.inr (4, [.ref 16, .ref 1, .null, .null, .null, .null, .null, .null, .null, .null, .null, .null, .null, .int 0, .int 0])))
  rw [← hS4]
  have f4 : S4.2 0 = .inr (4, [.ref 16, .ref 1, .null, .null, .null, .null, .null, .null, .null, .null, .null, .null, .null, .int 0, .int 0]) := by rw [hS4]; exact mj_up_eq
  have hL4 : S4.1 = [0, 16, 20, 21, 22, 23, 24, 25, 1] := by rw [hS4]; exact hL3
  have hp4 : ∀ i ∈ S4.1, i ∉ [0] → S4.2 i = mb_c mz_0 i := by
    intro i hi he
    rw [hS4] at hi ⊢
    exact (mj_up_ne (fun e => he (by rw [e]; simp))).trans (hp3 i hi he)
  refine ro_aload_n hK dC_init_24 rfl ?_
  refine ro_iconst (x := 4) hK (by decide) dC_init_25 ?_
  refine ro_bipush (x := 80) hK (by decide) dC_init_26 ?_
  refine ro_mnB (o := 17) (base := 30) (N := 4) (M := 80) hK (by decide) (by decide) (by decide) (by decide) (by decide) (by decide) (by decide) (by rw [hL4]; decide) (by rw [hL4]; decide) (by decide) (by decide) (by decide) ⟨by decide, by decide⟩ dC_init_28 ?_
  obtain ⟨S5, hS5⟩ : ∃ T, T = mj_nm S4 17 30 4 (.inl (1, 80, .inl (fun _ => 0))) 3 := ⟨_, rfl⟩
  rw [← hS5]
  have f5 : S5.2 0 = .inr (4, [.ref 16, .ref 1, .null, .null, .null, .null, .null, .null, .null, .null, .null, .null, .null, .int 0, .int 0]) := by rw [hS5]; exact (mj_nm_ne (by decide) (by decide)).trans f4
  have hL5 : S5.1 = [0, 16, 20, 21, 22, 23, 24, 25, 1, 17, 30, 31, 32, 33] := by rw [hS5]; show (S4.1 ++ [17]) ++ _ = _; rw [hL4]; rfl
  have hp5 : ∀ i ∈ S5.1, i ∉ [0] → S5.2 i = mb_c mz_0 i := by
    intro i hi he
    rw [hS5] at hi ⊢
    rcases List.mem_append.mp hi with hi | hi
    · rcases List.mem_append.mp hi with hi | hi
      · exact (mj_nm_ne (fun (e : i = 17) => (show 17 ∉ S4.1 by rw [hL4]; decide) (e ▸ hi)) ((show ∀ j ∈ S4.1, ¬ (30 ≤ j ∧ j < 30 + 4) by rw [hL4]; decide) i hi)).trans (hp4 i hi he)
      · rw [List.mem_singleton.mp hi]; exact mj_nm_o.trans rfl
    · have hi : i ∈ [30, 31, 32, 33] := hi
      simp only [List.mem_cons, List.not_mem_nil, or_false] at hi
      rcases hi with rfl | rfl | rfl | rfl <;> exact (mj_nm_in (by decide) (by decide)).trans rfl
  refine ro_putF hK gC_20 f5 (by show 2 < 15; decide) (fun _ => rfl) (fun _ => rfl) dC_init_32 ?_
  obtain ⟨S6, hS6⟩ : ∃ T, T = mj_up S5 0 (.inr (4, [.ref 16, .ref 1, .ref 17, .null, .null, .null, .null, .null, .null, .null, .null, .null, .null, .int 0, .int 0])) := ⟨_, rfl⟩
  show K _ _ 35 _ _ (mj_up S5 0 (.inr (4, [.ref 16, .ref 1, .ref 17, .null, .null, .null, .null, .null, .null, .null, .null, .null, .null, .int 0, .int 0])))
  rw [← hS6]
  have f6 : S6.2 0 = .inr (4, [.ref 16, .ref 1, .ref 17, .null, .null, .null, .null, .null, .null, .null, .null, .null, .null, .int 0, .int 0]) := by rw [hS6]; exact mj_up_eq
  have hL6 : S6.1 = [0, 16, 20, 21, 22, 23, 24, 25, 1, 17, 30, 31, 32, 33] := by rw [hS6]; exact hL5
  have hp6 : ∀ i ∈ S6.1, i ∉ [0] → S6.2 i = mb_c mz_0 i := by
    intro i hi he
    rw [hS6] at hi ⊢
    exact (mj_up_ne (fun e => he (by rw [e]; simp))).trans (hp5 i hi he)
  refine ro_aload_n hK dC_init_35 rfl ?_
  refine ro_iconst (x := 4) hK (by decide) dC_init_36 ?_
  refine ro_newI (i := 3) (N := 4) hK (by decide) (by decide) (by decide) (by rw [hL6]; decide) (by decide) ⟨by decide, by decide⟩ dC_init_37 ?_
  obtain ⟨S7, hS7⟩ : ∃ T, T = mj_nw S6 3 (.inl (0, 4, .inl (fun _ => 0))) := ⟨_, rfl⟩
  rw [← hS7]
  have f7 : S7.2 0 = .inr (4, [.ref 16, .ref 1, .ref 17, .null, .null, .null, .null, .null, .null, .null, .null, .null, .null, .int 0, .int 0]) := by rw [hS7]; exact (mj_nw_ne (by decide)).trans f6
  have fa7 : S7.2 3 = (.inl (0, 4, .inl (fun _ => 0))) := by rw [hS7]; exact mj_nw_eq
  have hL7 : S7.1 = [0, 16, 20, 21, 22, 23, 24, 25, 1, 17, 30, 31, 32, 33, 3] := by rw [hS7]; show S6.1 ++ [3] = _; rw [hL6]; rfl
  have hp7 : ∀ i ∈ S7.1, i ∉ [0] → S7.2 i = mb_c mz_0 i := by
    intro i hi he
    rw [hS7] at hi ⊢
    rcases List.mem_append.mp hi with hi | hi
    · exact (mj_nw_ne (fun (e : i = 3) => (show 3 ∉ S6.1 by rw [hL6]; decide) (e ▸ hi))).trans (hp6 i hi he)
    · rw [List.mem_singleton.mp hi]; exact mj_nw_eq.trans rfl
  refine ro_putF hK gC_23 f7 (by show 3 < 15; decide) (fun _ => rfl) (fun _ => rfl) dC_init_39 ?_
  obtain ⟨S8, hS8⟩ : ∃ T, T = mj_up S7 0 (.inr (4, [.ref 16, .ref 1, .ref 17, .ref 3, .null, .null, .null, .null, .null, .null, .null, .null, .null, .int 0, .int 0])) := ⟨_, rfl⟩
  show K _ _ 42 _ _ (mj_up S7 0 (.inr (4, [.ref 16, .ref 1, .ref 17, .ref 3, .null, .null, .null, .null, .null, .null, .null, .null, .null, .int 0, .int 0])))
  rw [← hS8]
  have f8 : S8.2 0 = .inr (4, [.ref 16, .ref 1, .ref 17, .ref 3, .null, .null, .null, .null, .null, .null, .null, .null, .null, .int 0, .int 0]) := by rw [hS8]; exact mj_up_eq
  have hL8 : S8.1 = [0, 16, 20, 21, 22, 23, 24, 25, 1, 17, 30, 31, 32, 33, 3] := by rw [hS8]; exact hL7
  have hp8 : ∀ i ∈ S8.1, i ∉ [0] → S8.2 i = mb_c mz_0 i := by
    intro i hi he
    rw [hS8] at hi ⊢
    exact (mj_up_ne (fun e => he (by rw [e]; simp))).trans (hp7 i hi he)
  refine ro_aload_n hK dC_init_42 rfl ?_
  refine ro_newO (i := 100) (ci := 1) (fs := [.int 0, .int 0, .int 0, .int 0, .int 0, .null, .null, .null, .null, .null, .null, .null, .null]) hK rfl nwC_26 tV_ok (by decide) (fun _ => rfl) (mj_nrefs rfl) (by rw [hL8]; decide) (by decide) ⟨by decide, by decide⟩ dC_init_43 ?_
  obtain ⟨S9, hS9⟩ : ∃ T, T = mj_nw S8 100 (.inr (1, [.int 0, .int 0, .int 0, .int 0, .int 0, .null, .null, .null, .null, .null, .null, .null, .null])) := ⟨_, rfl⟩
  rw [← hS9]
  have f9 : S9.2 0 = .inr (4, [.ref 16, .ref 1, .ref 17, .ref 3, .null, .null, .null, .null, .null, .null, .null, .null, .null, .int 0, .int 0]) := by rw [hS9]; exact (mj_nw_ne (by decide)).trans f8
  have fx : S9.2 100 = .inr (1, [.int 0, .int 0, .int 0, .int 0, .int 0, .null, .null, .null, .null, .null, .null, .null, .null]) := by rw [hS9]; exact mj_nw_eq
  have hL9 : S9.1 = [0, 16, 20, 21, 22, 23, 24, 25, 1, 17, 30, 31, 32, 33, 3, 100] := by rw [hS9]; show S8.1 ++ [100] = _; rw [hL8]; rfl
  have hp9 : ∀ i ∈ S9.1, i ∉ [100, 0] → S9.2 i = mb_c mz_0 i := by
    intro i hi he
    rw [hS9] at hi ⊢
    rcases List.mem_append.mp hi with hi | hi
    · exact (mj_nw_ne (fun (e : i = 100) => (show 100 ∉ S8.1 by rw [hL8]; decide) (e ▸ hi))).trans (hp8 i hi (fun q8 => he (List.mem_cons_of_mem _ q8)))
    · exact absurd (by rw [List.mem_singleton.mp hi]; exact List.mem_cons_self) he
  refine ro_dup hK dC_init_46 rfl ?_
  refine ro_callIN (host := RC_c) hK mV_init (by decide +kernel) inV rfl (ti_V (dd := dd) fx (by rw [hL9]; decide) (by decide)) rfl (Nat.le_of_ble_eq_true rfl) ⟨by decide, by decide⟩ dC_init_47 rfl (fun r S10 q9 => ?_)
  obtain ⟨rfl, hS10⟩ := q9
  show K _ _ 50 _ [.ref 100, .ref 0] S10
  have f10 : S10.2 0 = .inr (4, [.ref 16, .ref 1, .ref 17, .ref 3, .null, .null, .null, .null, .null, .null, .null, .null, .null, .int 0, .int 0]) := by rw [hS10]; exact (mi_V_ne _ _ (by decide) (by decide)).trans f9
  have hL10 : S10.1 = [0, 16, 20, 21, 22, 23, 24, 25, 1, 17, 30, 31, 32, 33, 3, 100, 105, 106, 107, 108, 109, 110, 111, 112] := by rw [hS10, mi_V_L, hL9]; rfl
  have hp10 : ∀ i ∈ S10.1, i ∉ [0] → S10.2 i = mb_c mz_0 i := by
    intro i hi he
    rw [hS10] at hi ⊢
    rw [mi_V_L] at hi
    rcases List.mem_append.mp hi with hi | hi
    · by_cases e : i = 100
      · rw [e]; exact (mi_V_o _ _).trans rfl
      · exact (mi_V_ne _ _ e (fun q8 => (show ∀ j ∈ [105, 106, 107, 108, 109, 110, 111, 112], j ∉ S9.1 by rw [hL9]; decide) i q8 hi)).trans (hp9 i hi (fun q8 => (List.mem_cons.mp q8).elim e he))
    · simp only [List.mem_cons, List.not_mem_nil, or_false] at hi
      rcases hi with rfl | rfl | rfl | rfl | rfl | rfl | rfl | rfl
      · exact (mi_V_0 _ _).trans rfl
      · exact (mi_V_1 _ _).trans rfl
      · exact (mi_V_2 _ _).trans rfl
      · exact (mi_V_3 _ _).trans rfl
      · exact (mi_V_4 _ _).trans rfl
      · exact (mi_V_5 _ _).trans rfl
      · exact (mi_V_6 _ _).trans rfl
      · exact (mi_V_7 _ _).trans rfl
  refine ro_putF hK gC_29 f10 (by show 4 < 15; decide) (fun _ => rfl) (fun _ => rfl) dC_init_50 ?_
  obtain ⟨S11, hS11⟩ : ∃ T, T = mj_up S10 0 (.inr (4, [.ref 16, .ref 1, .ref 17, .ref 3, .ref 100, .null, .null, .null, .null, .null, .null, .null, .null, .int 0, .int 0])) := ⟨_, rfl⟩
  show K _ _ 53 _ _ (mj_up S10 0 (.inr (4, [.ref 16, .ref 1, .ref 17, .ref 3, .ref 100, .null, .null, .null, .null, .null, .null, .null, .null, .int 0, .int 0])))
  rw [← hS11]
  have f11 : S11.2 0 = .inr (4, [.ref 16, .ref 1, .ref 17, .ref 3, .ref 100, .null, .null, .null, .null, .null, .null, .null, .null, .int 0, .int 0]) := by rw [hS11]; exact mj_up_eq
  have hL11 : S11.1 = [0, 16, 20, 21, 22, 23, 24, 25, 1, 17, 30, 31, 32, 33, 3, 100, 105, 106, 107, 108, 109, 110, 111, 112] := by rw [hS11]; exact hL10
  have hp11 : ∀ i ∈ S11.1, i ∉ [0] → S11.2 i = mb_c mz_0 i := by
    intro i hi he
    rw [hS11] at hi ⊢
    exact (mj_up_ne (fun e => he (by rw [e]; simp))).trans (hp10 i hi he)
  refine ro_aload_n hK dC_init_53 rfl ?_
  refine ro_newO (i := 120) (ci := 1) (fs := [.int 0, .int 0, .int 0, .int 0, .int 0, .null, .null, .null, .null, .null, .null, .null, .null]) hK rfl nwC_26 tV_ok (by decide) (fun _ => rfl) (mj_nrefs rfl) (by rw [hL11]; decide) (by decide) ⟨by decide, by decide⟩ dC_init_54 ?_
  obtain ⟨S12, hS12⟩ : ∃ T, T = mj_nw S11 120 (.inr (1, [.int 0, .int 0, .int 0, .int 0, .int 0, .null, .null, .null, .null, .null, .null, .null, .null])) := ⟨_, rfl⟩
  rw [← hS12]
  have f12 : S12.2 0 = .inr (4, [.ref 16, .ref 1, .ref 17, .ref 3, .ref 100, .null, .null, .null, .null, .null, .null, .null, .null, .int 0, .int 0]) := by rw [hS12]; exact (mj_nw_ne (by decide)).trans f11
  have fx : S12.2 120 = .inr (1, [.int 0, .int 0, .int 0, .int 0, .int 0, .null, .null, .null, .null, .null, .null, .null, .null]) := by rw [hS12]; exact mj_nw_eq
  have hL12 : S12.1 = [0, 16, 20, 21, 22, 23, 24, 25, 1, 17, 30, 31, 32, 33, 3, 100, 105, 106, 107, 108, 109, 110, 111, 112, 120] := by rw [hS12]; show S11.1 ++ [120] = _; rw [hL11]; rfl
  have hp12 : ∀ i ∈ S12.1, i ∉ [120, 0] → S12.2 i = mb_c mz_0 i := by
    intro i hi he
    rw [hS12] at hi ⊢
    rcases List.mem_append.mp hi with hi | hi
    · exact (mj_nw_ne (fun (e : i = 120) => (show 120 ∉ S11.1 by rw [hL11]; decide) (e ▸ hi))).trans (hp11 i hi (fun q8 => he (List.mem_cons_of_mem _ q8)))
    · exact absurd (by rw [List.mem_singleton.mp hi]; exact List.mem_cons_self) he
  refine ro_dup hK dC_init_57 rfl ?_
  refine ro_callIN (host := RC_c) hK mV_init (by decide +kernel) inV rfl (ti_V (dd := dd) fx (by rw [hL12]; decide) (by decide)) rfl (Nat.le_of_ble_eq_true rfl) ⟨by decide, by decide⟩ dC_init_58 rfl (fun r S13 q9 => ?_)
  obtain ⟨rfl, hS13⟩ := q9
  show K _ _ 61 _ [.ref 120, .ref 0] S13
  have f13 : S13.2 0 = .inr (4, [.ref 16, .ref 1, .ref 17, .ref 3, .ref 100, .null, .null, .null, .null, .null, .null, .null, .null, .int 0, .int 0]) := by rw [hS13]; exact (mi_V_ne _ _ (by decide) (by decide)).trans f12
  have hL13 : S13.1 = [0, 16, 20, 21, 22, 23, 24, 25, 1, 17, 30, 31, 32, 33, 3, 100, 105, 106, 107, 108, 109, 110, 111, 112, 120, 125, 126, 127, 128, 129, 130, 131, 132] := by rw [hS13, mi_V_L, hL12]; rfl
  have hp13 : ∀ i ∈ S13.1, i ∉ [0] → S13.2 i = mb_c mz_0 i := by
    intro i hi he
    rw [hS13] at hi ⊢
    rw [mi_V_L] at hi
    rcases List.mem_append.mp hi with hi | hi
    · by_cases e : i = 120
      · rw [e]; exact (mi_V_o _ _).trans rfl
      · exact (mi_V_ne _ _ e (fun q8 => (show ∀ j ∈ [125, 126, 127, 128, 129, 130, 131, 132], j ∉ S12.1 by rw [hL12]; decide) i q8 hi)).trans (hp12 i hi (fun q8 => (List.mem_cons.mp q8).elim e he))
    · simp only [List.mem_cons, List.not_mem_nil, or_false] at hi
      rcases hi with rfl | rfl | rfl | rfl | rfl | rfl | rfl | rfl
      · exact (mi_V_0 _ _).trans rfl
      · exact (mi_V_1 _ _).trans rfl
      · exact (mi_V_2 _ _).trans rfl
      · exact (mi_V_3 _ _).trans rfl
      · exact (mi_V_4 _ _).trans rfl
      · exact (mi_V_5 _ _).trans rfl
      · exact (mi_V_6 _ _).trans rfl
      · exact (mi_V_7 _ _).trans rfl
  refine ro_putF hK gC_33 f13 (by show 5 < 15; decide) (fun _ => rfl) (fun _ => rfl) dC_init_61 ?_
  obtain ⟨S14, hS14⟩ : ∃ T, T = mj_up S13 0 (.inr (4, [.ref 16, .ref 1, .ref 17, .ref 3, .ref 100, .ref 120, .null, .null, .null, .null, .null, .null, .null, .int 0, .int 0])) := ⟨_, rfl⟩
  show K _ _ 64 _ _ (mj_up S13 0 (.inr (4, [.ref 16, .ref 1, .ref 17, .ref 3, .ref 100, .ref 120, .null, .null, .null, .null, .null, .null, .null, .int 0, .int 0])))
  rw [← hS14]
  have f14 : S14.2 0 = .inr (4, [.ref 16, .ref 1, .ref 17, .ref 3, .ref 100, .ref 120, .null, .null, .null, .null, .null, .null, .null, .int 0, .int 0]) := by rw [hS14]; exact mj_up_eq
  have hL14 : S14.1 = [0, 16, 20, 21, 22, 23, 24, 25, 1, 17, 30, 31, 32, 33, 3, 100, 105, 106, 107, 108, 109, 110, 111, 112, 120, 125, 126, 127, 128, 129, 130, 131, 132] := by rw [hS14]; exact hL13
  have hp14 : ∀ i ∈ S14.1, i ∉ [0] → S14.2 i = mb_c mz_0 i := by
    intro i hi he
    rw [hS14] at hi ⊢
    exact (mj_up_ne (fun e => he (by rw [e]; simp))).trans (hp13 i hi he)
  refine ro_aload_n hK dC_init_64 rfl ?_
  refine ro_iconst (x := 3) hK (by decide) dC_init_65 ?_
  refine ro_newQ (i := 6) (N := 3) hK (by decide) (by decide) (by decide) (by rw [hL14]; decide) (by decide) ⟨by decide, by decide⟩ dC_init_66 ?_
  obtain ⟨S15, hS15⟩ : ∃ T, T = mj_nw S14 6 (.inl (4, 3, .inr (.inr (.inr (.inr (fun _ => none)))))) := ⟨_, rfl⟩
  rw [← hS15]
  have f15 : S15.2 0 = .inr (4, [.ref 16, .ref 1, .ref 17, .ref 3, .ref 100, .ref 120, .null, .null, .null, .null, .null, .null, .null, .int 0, .int 0]) := by rw [hS15]; exact (mj_nw_ne (by decide)).trans f14
  have fa15 : S15.2 6 = (.inl (4, 3, .inr (.inr (.inr (.inr (fun _ => none)))))) := by rw [hS15]; exact mj_nw_eq
  have hL15 : S15.1 = [0, 16, 20, 21, 22, 23, 24, 25, 1, 17, 30, 31, 32, 33, 3, 100, 105, 106, 107, 108, 109, 110, 111, 112, 120, 125, 126, 127, 128, 129, 130, 131, 132, 6] := by rw [hS15]; show S14.1 ++ [6] = _; rw [hL14]; rfl
  have hp15 : ∀ i ∈ S15.1, i ∉ [0] → S15.2 i = mb_c mz_0 i := by
    intro i hi he
    rw [hS15] at hi ⊢
    rcases List.mem_append.mp hi with hi | hi
    · exact (mj_nw_ne (fun (e : i = 6) => (show 6 ∉ S14.1 by rw [hL14]; decide) (e ▸ hi))).trans (hp14 i hi he)
    · rw [List.mem_singleton.mp hi]; exact mj_nw_eq.trans hk6z
  refine ro_putF hK gC_36 f15 (by show 6 < 15; decide) (fun _ => rfl) (fun _ => rfl) dC_init_69 ?_
  obtain ⟨S16, hS16⟩ : ∃ T, T = mj_up S15 0 (.inr (4, [.ref 16, .ref 1, .ref 17, .ref 3, .ref 100, .ref 120, .ref 6, .null, .null, .null, .null, .null, .null, .int 0, .int 0])) := ⟨_, rfl⟩
  show K _ _ 72 _ _ (mj_up S15 0 (.inr (4, [.ref 16, .ref 1, .ref 17, .ref 3, .ref 100, .ref 120, .ref 6, .null, .null, .null, .null, .null, .null, .int 0, .int 0])))
  rw [← hS16]
  have f16 : S16.2 0 = .inr (4, [.ref 16, .ref 1, .ref 17, .ref 3, .ref 100, .ref 120, .ref 6, .null, .null, .null, .null, .null, .null, .int 0, .int 0]) := by rw [hS16]; exact mj_up_eq
  have hL16 : S16.1 = [0, 16, 20, 21, 22, 23, 24, 25, 1, 17, 30, 31, 32, 33, 3, 100, 105, 106, 107, 108, 109, 110, 111, 112, 120, 125, 126, 127, 128, 129, 130, 131, 132, 6] := by rw [hS16]; exact hL15
  have hp16 : ∀ i ∈ S16.1, i ∉ [0] → S16.2 i = mb_c mz_0 i := by
    intro i hi he
    rw [hS16] at hi ⊢
    exact (mj_up_ne (fun e => he (by rw [e]; simp))).trans (hp15 i hi he)
  refine ro_aload_n hK dC_init_72 rfl ?_
  refine ro_newO (i := 36) (ci := 2) (fs := [.null, .int 0, .int 0, .int 0]) hK rfl nwC_40 tR_ok (by decide) (fun _ => rfl) (mj_nrefs rfl) (by rw [hL16]; decide) (by decide) ⟨by decide, by decide⟩ dC_init_73 ?_
  obtain ⟨S17, hS17⟩ : ∃ T, T = mj_nw S16 36 (.inr (2, [.null, .int 0, .int 0, .int 0])) := ⟨_, rfl⟩
  rw [← hS17]
  have f17 : S17.2 0 = .inr (4, [.ref 16, .ref 1, .ref 17, .ref 3, .ref 100, .ref 120, .ref 6, .null, .null, .null, .null, .null, .null, .int 0, .int 0]) := by rw [hS17]; exact (mj_nw_ne (by decide)).trans f16
  have fx : S17.2 36 = .inr (2, [.null, .int 0, .int 0, .int 0]) := by rw [hS17]; exact mj_nw_eq
  have hL17 : S17.1 = [0, 16, 20, 21, 22, 23, 24, 25, 1, 17, 30, 31, 32, 33, 3, 100, 105, 106, 107, 108, 109, 110, 111, 112, 120, 125, 126, 127, 128, 129, 130, 131, 132, 6, 36] := by rw [hS17]; show S16.1 ++ [36] = _; rw [hL16]; rfl
  have hp17 : ∀ i ∈ S17.1, i ∉ [36, 0] → S17.2 i = mb_c mz_0 i := by
    intro i hi he
    rw [hS17] at hi ⊢
    rcases List.mem_append.mp hi with hi | hi
    · exact (mj_nw_ne (fun (e : i = 36) => (show 36 ∉ S16.1 by rw [hL16]; decide) (e ▸ hi))).trans (hp16 i hi (fun q8 => he (List.mem_cons_of_mem _ q8)))
    · exact absurd (by rw [List.mem_singleton.mp hi]; exact List.mem_cons_self) he
  refine ro_dup hK dC_init_76 rfl ?_
  refine ro_callIN (host := RC_c) hK mR_init (by decide +kernel) inR rfl (ti_R (dd := dd) fx (by rw [hL17]; decide)) rfl (Nat.le_of_ble_eq_true rfl) ⟨by decide, by decide⟩ dC_init_77 rfl (fun r S18 q9 => ?_)
  obtain ⟨rfl, hS18⟩ := q9
  show K _ _ 80 _ [.ref 36, .ref 0] S18
  have f18 : S18.2 0 = .inr (4, [.ref 16, .ref 1, .ref 17, .ref 3, .ref 100, .ref 120, .ref 6, .null, .null, .null, .null, .null, .null, .int 0, .int 0]) := by rw [hS18]; exact (mi_R_ne _ (by decide) (by decide)).trans f17
  have hL18 : S18.1 = [0, 16, 20, 21, 22, 23, 24, 25, 1, 17, 30, 31, 32, 33, 3, 100, 105, 106, 107, 108, 109, 110, 111, 112, 120, 125, 126, 127, 128, 129, 130, 131, 132, 6, 36, 37] := by rw [hS18, mi_R_L, hL17]; rfl
  have hp18 : ∀ i ∈ S18.1, i ∉ [0] → S18.2 i = mb_c mz_0 i := by
    intro i hi he
    rw [hS18] at hi ⊢
    rw [mi_R_L] at hi
    rcases List.mem_append.mp hi with hi | hi
    · by_cases e : i = 36
      · rw [e]; exact (mi_R_o _).trans rfl
      · exact (mi_R_ne _ e (fun q8 => (show ∀ j ∈ [37], j ∉ S17.1 by rw [hL17]; decide) i q8 hi)).trans (hp17 i hi (fun q8 => (List.mem_cons.mp q8).elim e he))
    · simp only [List.mem_cons, List.not_mem_nil, or_false] at hi
      rcases hi with rfl
      · exact (mi_R_0 _).trans rfl
  refine ro_putF hK gC_43 f18 (by show 7 < 15; decide) (fun _ => rfl) (fun _ => rfl) dC_init_80 ?_
  obtain ⟨S19, hS19⟩ : ∃ T, T = mj_up S18 0 (.inr (4, [.ref 16, .ref 1, .ref 17, .ref 3, .ref 100, .ref 120, .ref 6, .ref 36, .null, .null, .null, .null, .null, .int 0, .int 0])) := ⟨_, rfl⟩
  show K _ _ 83 _ _ (mj_up S18 0 (.inr (4, [.ref 16, .ref 1, .ref 17, .ref 3, .ref 100, .ref 120, .ref 6, .ref 36, .null, .null, .null, .null, .null, .int 0, .int 0])))
  rw [← hS19]
  have f19 : S19.2 0 = .inr (4, [.ref 16, .ref 1, .ref 17, .ref 3, .ref 100, .ref 120, .ref 6, .ref 36, .null, .null, .null, .null, .null, .int 0, .int 0]) := by rw [hS19]; exact mj_up_eq
  have hL19 : S19.1 = [0, 16, 20, 21, 22, 23, 24, 25, 1, 17, 30, 31, 32, 33, 3, 100, 105, 106, 107, 108, 109, 110, 111, 112, 120, 125, 126, 127, 128, 129, 130, 131, 132, 6, 36, 37] := by rw [hS19]; exact hL18
  have hp19 : ∀ i ∈ S19.1, i ∉ [0] → S19.2 i = mb_c mz_0 i := by
    intro i hi he
    rw [hS19] at hi ⊢
    exact (mj_up_ne (fun e => he (by rw [e]; simp))).trans (hp18 i hi he)
  refine ro_aload_n hK dC_init_83 rfl ?_
  refine ro_newO (i := 40) (ci := 0) (fs := [.int 0, .int 0, .int 0, .int 0, .int 0, .int 0, .int 0, .null, .null, .null, .null, .null, .null, .null, .null, .null, .null]) hK rfl nwC_47 tA_ok (by decide) (fun _ => rfl) (mj_nrefs rfl) (by rw [hL19]; decide) (by decide) ⟨by decide, by decide⟩ dC_init_84 ?_
  obtain ⟨S20, hS20⟩ : ∃ T, T = mj_nw S19 40 (.inr (0, [.int 0, .int 0, .int 0, .int 0, .int 0, .int 0, .int 0, .null, .null, .null, .null, .null, .null, .null, .null, .null, .null])) := ⟨_, rfl⟩
  rw [← hS20]
  have f20 : S20.2 0 = .inr (4, [.ref 16, .ref 1, .ref 17, .ref 3, .ref 100, .ref 120, .ref 6, .ref 36, .null, .null, .null, .null, .null, .int 0, .int 0]) := by rw [hS20]; exact (mj_nw_ne (by decide)).trans f19
  have fx : S20.2 40 = .inr (0, [.int 0, .int 0, .int 0, .int 0, .int 0, .int 0, .int 0, .null, .null, .null, .null, .null, .null, .null, .null, .null, .null]) := by rw [hS20]; exact mj_nw_eq
  have hL20 : S20.1 = [0, 16, 20, 21, 22, 23, 24, 25, 1, 17, 30, 31, 32, 33, 3, 100, 105, 106, 107, 108, 109, 110, 111, 112, 120, 125, 126, 127, 128, 129, 130, 131, 132, 6, 36, 37, 40] := by rw [hS20]; show S19.1 ++ [40] = _; rw [hL19]; rfl
  have hp20 : ∀ i ∈ S20.1, i ∉ [40, 0] → S20.2 i = mb_c mz_0 i := by
    intro i hi he
    rw [hS20] at hi ⊢
    rcases List.mem_append.mp hi with hi | hi
    · exact (mj_nw_ne (fun (e : i = 40) => (show 40 ∉ S19.1 by rw [hL19]; decide) (e ▸ hi))).trans (hp19 i hi (fun q8 => he (List.mem_cons_of_mem _ q8)))
    · exact absurd (by rw [List.mem_singleton.mp hi]; exact List.mem_cons_self) he
  refine ro_dup hK dC_init_87 rfl ?_
  refine ro_callIN (host := RC_c) hK mA_init (by decide +kernel) inA rfl (ti_A (dd := dd) fx (by rw [hL20]; decide)) rfl (Nat.le_of_ble_eq_true rfl) ⟨by decide, by decide⟩ dC_init_88 rfl (fun r S21 q9 => ?_)
  obtain ⟨rfl, hS21⟩ := q9
  show K _ _ 91 _ [.ref 40, .ref 0] S21
  have f21 : S21.2 0 = .inr (4, [.ref 16, .ref 1, .ref 17, .ref 3, .ref 100, .ref 120, .ref 6, .ref 36, .null, .null, .null, .null, .null, .int 0, .int 0]) := by rw [hS21]; exact (mi_A_ne _ (by decide) (by decide)).trans f20
  have hL21 : S21.1 = [0, 16, 20, 21, 22, 23, 24, 25, 1, 17, 30, 31, 32, 33, 3, 100, 105, 106, 107, 108, 109, 110, 111, 112, 120, 125, 126, 127, 128, 129, 130, 131, 132, 6, 36, 37, 40, 47, 48, 49, 50, 51, 52, 53, 54, 55, 56] := by rw [hS21, mi_A_L, hL20]; rfl
  have hp21 : ∀ i ∈ S21.1, i ∉ [0] → S21.2 i = mb_c mz_0 i := by
    intro i hi he
    rw [hS21] at hi ⊢
    rw [mi_A_L] at hi
    rcases List.mem_append.mp hi with hi | hi
    · by_cases e : i = 40
      · rw [e]; exact (mi_A_o _).trans rfl
      · exact (mi_A_ne _ e (fun q8 => (show ∀ j ∈ [47, 48, 49, 50, 51, 52, 53, 54, 55, 56], j ∉ S20.1 by rw [hL20]; decide) i q8 hi)).trans (hp20 i hi (fun q8 => (List.mem_cons.mp q8).elim e he))
    · simp only [List.mem_cons, List.not_mem_nil, or_false] at hi
      rcases hi with rfl | rfl | rfl | rfl | rfl | rfl | rfl | rfl | rfl | rfl
      · exact (mi_A_0 _).trans rfl
      · exact (mi_A_1 _).trans rfl
      · exact (mi_A_2 _).trans rfl
      · exact (mi_A_3 _).trans rfl
      · exact (mi_A_4 _).trans rfl
      · exact (mi_A_5 _).trans rfl
      · exact (mi_A_6 _).trans rfl
      · exact (mi_A_7 _).trans rfl
      · exact (mi_A_8 _).trans rfl
      · exact (mi_A_9 _).trans rfl
  refine ro_putF hK gC_50 f21 (by show 8 < 15; decide) (fun _ => rfl) (fun _ => rfl) dC_init_91 ?_
  obtain ⟨S22, hS22⟩ : ∃ T, T = mj_up S21 0 (.inr (4, [.ref 16, .ref 1, .ref 17, .ref 3, .ref 100, .ref 120, .ref 6, .ref 36, .ref 40, .null, .null, .null, .null, .int 0, .int 0])) := ⟨_, rfl⟩
  show K _ _ 94 _ _ (mj_up S21 0 (.inr (4, [.ref 16, .ref 1, .ref 17, .ref 3, .ref 100, .ref 120, .ref 6, .ref 36, .ref 40, .null, .null, .null, .null, .int 0, .int 0])))
  rw [← hS22]
  have f22 : S22.2 0 = .inr (4, [.ref 16, .ref 1, .ref 17, .ref 3, .ref 100, .ref 120, .ref 6, .ref 36, .ref 40, .null, .null, .null, .null, .int 0, .int 0]) := by rw [hS22]; exact mj_up_eq
  have hL22 : S22.1 = [0, 16, 20, 21, 22, 23, 24, 25, 1, 17, 30, 31, 32, 33, 3, 100, 105, 106, 107, 108, 109, 110, 111, 112, 120, 125, 126, 127, 128, 129, 130, 131, 132, 6, 36, 37, 40, 47, 48, 49, 50, 51, 52, 53, 54, 55, 56] := by rw [hS22]; exact hL21
  have hp22 : ∀ i ∈ S22.1, i ∉ [0] → S22.2 i = mb_c mz_0 i := by
    intro i hi he
    rw [hS22] at hi ⊢
    exact (mj_up_ne (fun e => he (by rw [e]; simp))).trans (hp21 i hi he)
  refine ro_aload_n hK dC_init_94 rfl ?_
  refine ro_newO (i := 60) (ci := 3) (fs := [.null, .int 0, .int 0, .null, .int 0, .int 0]) hK rfl nwC_54 tS_ok (by decide) (fun _ => rfl) (mj_nrefs rfl) (by rw [hL22]; decide) (by decide) ⟨by decide, by decide⟩ dC_init_95 ?_
  obtain ⟨S23, hS23⟩ : ∃ T, T = mj_nw S22 60 (.inr (3, [.null, .int 0, .int 0, .null, .int 0, .int 0])) := ⟨_, rfl⟩
  rw [← hS23]
  have f23 : S23.2 0 = .inr (4, [.ref 16, .ref 1, .ref 17, .ref 3, .ref 100, .ref 120, .ref 6, .ref 36, .ref 40, .null, .null, .null, .null, .int 0, .int 0]) := by rw [hS23]; exact (mj_nw_ne (by decide)).trans f22
  have fx : S23.2 60 = .inr (3, [.null, .int 0, .int 0, .null, .int 0, .int 0]) := by rw [hS23]; exact mj_nw_eq
  have hL23 : S23.1 = [0, 16, 20, 21, 22, 23, 24, 25, 1, 17, 30, 31, 32, 33, 3, 100, 105, 106, 107, 108, 109, 110, 111, 112, 120, 125, 126, 127, 128, 129, 130, 131, 132, 6, 36, 37, 40, 47, 48, 49, 50, 51, 52, 53, 54, 55, 56, 60] := by rw [hS23]; show S22.1 ++ [60] = _; rw [hL22]; rfl
  have hp23 : ∀ i ∈ S23.1, i ∉ [60, 0] → S23.2 i = mb_c mz_0 i := by
    intro i hi he
    rw [hS23] at hi ⊢
    rcases List.mem_append.mp hi with hi | hi
    · exact (mj_nw_ne (fun (e : i = 60) => (show 60 ∉ S22.1 by rw [hL22]; decide) (e ▸ hi))).trans (hp22 i hi (fun q8 => he (List.mem_cons_of_mem _ q8)))
    · exact absurd (by rw [List.mem_singleton.mp hi]; exact List.mem_cons_self) he
  refine ro_dup hK dC_init_98 rfl ?_
  refine ro_callIN (host := RC_c) hK mS_init (by decide +kernel) inS rfl (ti_S (dd := dd) fx (by rw [hL23]; decide)) rfl (Nat.le_of_ble_eq_true rfl) ⟨by decide, by decide⟩ dC_init_99 rfl (fun r S24 q9 => ?_)
  obtain ⟨rfl, hS24⟩ := q9
  show K _ _ 102 _ [.ref 60, .ref 0] S24
  have f24 : S24.2 0 = .inr (4, [.ref 16, .ref 1, .ref 17, .ref 3, .ref 100, .ref 120, .ref 6, .ref 36, .ref 40, .null, .null, .null, .null, .int 0, .int 0]) := by rw [hS24]; exact (mi_S_ne _ (by decide) (by decide)).trans f23
  have hL24 : S24.1 = [0, 16, 20, 21, 22, 23, 24, 25, 1, 17, 30, 31, 32, 33, 3, 100, 105, 106, 107, 108, 109, 110, 111, 112, 120, 125, 126, 127, 128, 129, 130, 131, 132, 6, 36, 37, 40, 47, 48, 49, 50, 51, 52, 53, 54, 55, 56, 60, 61, 64] := by rw [hS24, mi_S_L, hL23]; rfl
  have hp24 : ∀ i ∈ S24.1, i ∉ [0] → S24.2 i = mb_c mz_0 i := by
    intro i hi he
    rw [hS24] at hi ⊢
    rw [mi_S_L] at hi
    rcases List.mem_append.mp hi with hi | hi
    · by_cases e : i = 60
      · rw [e]; exact (mi_S_o _).trans rfl
      · exact (mi_S_ne _ e (fun q8 => (show ∀ j ∈ [61, 64], j ∉ S23.1 by rw [hL23]; decide) i q8 hi)).trans (hp23 i hi (fun q8 => (List.mem_cons.mp q8).elim e he))
    · simp only [List.mem_cons, List.not_mem_nil, or_false] at hi
      rcases hi with rfl | rfl
      · exact (mi_S_0 _).trans rfl
      · exact (mi_S_1 _).trans rfl
  refine ro_putF hK gC_57 f24 (by show 9 < 15; decide) (fun _ => rfl) (fun _ => rfl) dC_init_102 ?_
  obtain ⟨S25, hS25⟩ : ∃ T, T = mj_up S24 0 (.inr (4, [.ref 16, .ref 1, .ref 17, .ref 3, .ref 100, .ref 120, .ref 6, .ref 36, .ref 40, .ref 60, .null, .null, .null, .int 0, .int 0])) := ⟨_, rfl⟩
  show K _ _ 105 _ _ (mj_up S24 0 (.inr (4, [.ref 16, .ref 1, .ref 17, .ref 3, .ref 100, .ref 120, .ref 6, .ref 36, .ref 40, .ref 60, .null, .null, .null, .int 0, .int 0])))
  rw [← hS25]
  have f25 : S25.2 0 = .inr (4, [.ref 16, .ref 1, .ref 17, .ref 3, .ref 100, .ref 120, .ref 6, .ref 36, .ref 40, .ref 60, .null, .null, .null, .int 0, .int 0]) := by rw [hS25]; exact mj_up_eq
  have hL25 : S25.1 = [0, 16, 20, 21, 22, 23, 24, 25, 1, 17, 30, 31, 32, 33, 3, 100, 105, 106, 107, 108, 109, 110, 111, 112, 120, 125, 126, 127, 128, 129, 130, 131, 132, 6, 36, 37, 40, 47, 48, 49, 50, 51, 52, 53, 54, 55, 56, 60, 61, 64] := by rw [hS25]; exact hL24
  have hp25 : ∀ i ∈ S25.1, i ∉ [0] → S25.2 i = mb_c mz_0 i := by
    intro i hi he
    rw [hS25] at hi ⊢
    exact (mj_up_ne (fun e => he (by rw [e]; simp))).trans (hp24 i hi he)
  refine ro_aload_n hK dC_init_105 rfl ?_
  refine ro_iconst (x := 5) hK (by decide) dC_init_106 ?_
  refine ro_newI (i := 10) (N := 5) hK (by decide) (by decide) (by decide) (by rw [hL25]; decide) (by decide) ⟨by decide, by decide⟩ dC_init_107 ?_
  obtain ⟨S26, hS26⟩ : ∃ T, T = mj_nw S25 10 (.inl (0, 5, .inl (fun _ => 0))) := ⟨_, rfl⟩
  rw [← hS26]
  have f26 : S26.2 0 = .inr (4, [.ref 16, .ref 1, .ref 17, .ref 3, .ref 100, .ref 120, .ref 6, .ref 36, .ref 40, .ref 60, .null, .null, .null, .int 0, .int 0]) := by rw [hS26]; exact (mj_nw_ne (by decide)).trans f25
  have fa26 : S26.2 10 = (.inl (0, 5, .inl (fun _ => 0))) := by rw [hS26]; exact mj_nw_eq
  have hL26 : S26.1 = [0, 16, 20, 21, 22, 23, 24, 25, 1, 17, 30, 31, 32, 33, 3, 100, 105, 106, 107, 108, 109, 110, 111, 112, 120, 125, 126, 127, 128, 129, 130, 131, 132, 6, 36, 37, 40, 47, 48, 49, 50, 51, 52, 53, 54, 55, 56, 60, 61, 64, 10] := by rw [hS26]; show S25.1 ++ [10] = _; rw [hL25]; rfl
  have hp26 : ∀ i ∈ S26.1, i ∉ [0] → S26.2 i = mb_c mz_0 i := by
    intro i hi he
    rw [hS26] at hi ⊢
    rcases List.mem_append.mp hi with hi | hi
    · exact (mj_nw_ne (fun (e : i = 10) => (show 10 ∉ S25.1 by rw [hL25]; decide) (e ▸ hi))).trans (hp25 i hi he)
    · rw [List.mem_singleton.mp hi]; exact mj_nw_eq.trans rfl
  refine ro_putF hK gC_61 f26 (by show 10 < 15; decide) (fun _ => rfl) (fun _ => rfl) dC_init_109 ?_
  obtain ⟨S27, hS27⟩ : ∃ T, T = mj_up S26 0 (.inr (4, [.ref 16, .ref 1, .ref 17, .ref 3, .ref 100, .ref 120, .ref 6, .ref 36, .ref 40, .ref 60, .ref 10, .null, .null, .int 0, .int 0])) := ⟨_, rfl⟩
  show K _ _ 112 _ _ (mj_up S26 0 (.inr (4, [.ref 16, .ref 1, .ref 17, .ref 3, .ref 100, .ref 120, .ref 6, .ref 36, .ref 40, .ref 60, .ref 10, .null, .null, .int 0, .int 0])))
  rw [← hS27]
  have f27 : S27.2 0 = .inr (4, [.ref 16, .ref 1, .ref 17, .ref 3, .ref 100, .ref 120, .ref 6, .ref 36, .ref 40, .ref 60, .ref 10, .null, .null, .int 0, .int 0]) := by rw [hS27]; exact mj_up_eq
  have hL27 : S27.1 = [0, 16, 20, 21, 22, 23, 24, 25, 1, 17, 30, 31, 32, 33, 3, 100, 105, 106, 107, 108, 109, 110, 111, 112, 120, 125, 126, 127, 128, 129, 130, 131, 132, 6, 36, 37, 40, 47, 48, 49, 50, 51, 52, 53, 54, 55, 56, 60, 61, 64, 10] := by rw [hS27]; exact hL26
  have hp27 : ∀ i ∈ S27.1, i ∉ [0] → S27.2 i = mb_c mz_0 i := by
    intro i hi he
    rw [hS27] at hi ⊢
    exact (mj_up_ne (fun e => he (by rw [e]; simp))).trans (hp26 i hi he)
  refine ro_aload_n hK dC_init_112 rfl ?_
  refine ro_iconst (x := 5) hK (by decide) dC_init_113 ?_
  refine ro_newI (i := 11) (N := 5) hK (by decide) (by decide) (by decide) (by rw [hL27]; decide) (by decide) ⟨by decide, by decide⟩ dC_init_114 ?_
  obtain ⟨S28, hS28⟩ : ∃ T, T = mj_nw S27 11 (.inl (0, 5, .inl (fun _ => 0))) := ⟨_, rfl⟩
  rw [← hS28]
  have f28 : S28.2 0 = .inr (4, [.ref 16, .ref 1, .ref 17, .ref 3, .ref 100, .ref 120, .ref 6, .ref 36, .ref 40, .ref 60, .ref 10, .null, .null, .int 0, .int 0]) := by rw [hS28]; exact (mj_nw_ne (by decide)).trans f27
  have fa28 : S28.2 11 = (.inl (0, 5, .inl (fun _ => 0))) := by rw [hS28]; exact mj_nw_eq
  have hL28 : S28.1 = [0, 16, 20, 21, 22, 23, 24, 25, 1, 17, 30, 31, 32, 33, 3, 100, 105, 106, 107, 108, 109, 110, 111, 112, 120, 125, 126, 127, 128, 129, 130, 131, 132, 6, 36, 37, 40, 47, 48, 49, 50, 51, 52, 53, 54, 55, 56, 60, 61, 64, 10, 11] := by rw [hS28]; show S27.1 ++ [11] = _; rw [hL27]; rfl
  have hp28 : ∀ i ∈ S28.1, i ∉ [0] → S28.2 i = mb_c mz_0 i := by
    intro i hi he
    rw [hS28] at hi ⊢
    rcases List.mem_append.mp hi with hi | hi
    · exact (mj_nw_ne (fun (e : i = 11) => (show 11 ∉ S27.1 by rw [hL27]; decide) (e ▸ hi))).trans (hp27 i hi he)
    · rw [List.mem_singleton.mp hi]; exact mj_nw_eq.trans rfl
  refine ro_putF hK gC_64 f28 (by show 11 < 15; decide) (fun _ => rfl) (fun _ => rfl) dC_init_116 ?_
  obtain ⟨S29, hS29⟩ : ∃ T, T = mj_up S28 0 (.inr (4, [.ref 16, .ref 1, .ref 17, .ref 3, .ref 100, .ref 120, .ref 6, .ref 36, .ref 40, .ref 60, .ref 10, .ref 11, .null, .int 0, .int 0])) := ⟨_, rfl⟩
  show K _ _ 119 _ _ (mj_up S28 0 (.inr (4, [.ref 16, .ref 1, .ref 17, .ref 3, .ref 100, .ref 120, .ref 6, .ref 36, .ref 40, .ref 60, .ref 10, .ref 11, .null, .int 0, .int 0])))
  rw [← hS29]
  have f29 : S29.2 0 = .inr (4, [.ref 16, .ref 1, .ref 17, .ref 3, .ref 100, .ref 120, .ref 6, .ref 36, .ref 40, .ref 60, .ref 10, .ref 11, .null, .int 0, .int 0]) := by rw [hS29]; exact mj_up_eq
  have hL29 : S29.1 = [0, 16, 20, 21, 22, 23, 24, 25, 1, 17, 30, 31, 32, 33, 3, 100, 105, 106, 107, 108, 109, 110, 111, 112, 120, 125, 126, 127, 128, 129, 130, 131, 132, 6, 36, 37, 40, 47, 48, 49, 50, 51, 52, 53, 54, 55, 56, 60, 61, 64, 10, 11] := by rw [hS29]; exact hL28
  have hp29 : ∀ i ∈ S29.1, i ∉ [0] → S29.2 i = mb_c mz_0 i := by
    intro i hi he
    rw [hS29] at hi ⊢
    exact (mj_up_ne (fun e => he (by rw [e]; simp))).trans (hp28 i hi he)
  refine ro_aload_n hK dC_init_119 rfl ?_
  refine ro_bipush (x := 6) hK (by decide) dC_init_120 ?_
  refine ro_newI (i := 12) (N := 6) hK (by decide) (by decide) (by decide) (by rw [hL29]; decide) (by decide) ⟨by decide, by decide⟩ dC_init_122 ?_
  obtain ⟨S30, hS30⟩ : ∃ T, T = mj_nw S29 12 (.inl (0, 6, .inl (fun _ => 0))) := ⟨_, rfl⟩
  rw [← hS30]
  have f30 : S30.2 0 = .inr (4, [.ref 16, .ref 1, .ref 17, .ref 3, .ref 100, .ref 120, .ref 6, .ref 36, .ref 40, .ref 60, .ref 10, .ref 11, .null, .int 0, .int 0]) := by rw [hS30]; exact (mj_nw_ne (by decide)).trans f29
  have fa30 : S30.2 12 = (.inl (0, 6, .inl (fun _ => 0))) := by rw [hS30]; exact mj_nw_eq
  have hL30 : S30.1 = [0, 16, 20, 21, 22, 23, 24, 25, 1, 17, 30, 31, 32, 33, 3, 100, 105, 106, 107, 108, 109, 110, 111, 112, 120, 125, 126, 127, 128, 129, 130, 131, 132, 6, 36, 37, 40, 47, 48, 49, 50, 51, 52, 53, 54, 55, 56, 60, 61, 64, 10, 11, 12] := by rw [hS30]; show S29.1 ++ [12] = _; rw [hL29]; rfl
  have hp30 : ∀ i ∈ S30.1, i ∉ [0] → S30.2 i = mb_c mz_0 i := by
    intro i hi he
    rw [hS30] at hi ⊢
    rcases List.mem_append.mp hi with hi | hi
    · exact (mj_nw_ne (fun (e : i = 12) => (show 12 ∉ S29.1 by rw [hL29]; decide) (e ▸ hi))).trans (hp29 i hi he)
    · rw [List.mem_singleton.mp hi]; exact mj_nw_eq.trans rfl
  refine ro_putF hK gC_67 f30 (by show 12 < 15; decide) (fun _ => rfl) (fun _ => rfl) dC_init_124 ?_
  obtain ⟨S31, hS31⟩ : ∃ T, T = mj_up S30 0 (.inr (4, [.ref 16, .ref 1, .ref 17, .ref 3, .ref 100, .ref 120, .ref 6, .ref 36, .ref 40, .ref 60, .ref 10, .ref 11, .ref 12, .int 0, .int 0])) := ⟨_, rfl⟩
  show K _ _ 127 _ _ (mj_up S30 0 (.inr (4, [.ref 16, .ref 1, .ref 17, .ref 3, .ref 100, .ref 120, .ref 6, .ref 36, .ref 40, .ref 60, .ref 10, .ref 11, .ref 12, .int 0, .int 0])))
  rw [← hS31]
  have f31 : S31.2 0 = .inr (4, [.ref 16, .ref 1, .ref 17, .ref 3, .ref 100, .ref 120, .ref 6, .ref 36, .ref 40, .ref 60, .ref 10, .ref 11, .ref 12, .int 0, .int 0]) := by rw [hS31]; exact mj_up_eq
  have hL31 : S31.1 = [0, 16, 20, 21, 22, 23, 24, 25, 1, 17, 30, 31, 32, 33, 3, 100, 105, 106, 107, 108, 109, 110, 111, 112, 120, 125, 126, 127, 128, 129, 130, 131, 132, 6, 36, 37, 40, 47, 48, 49, 50, 51, 52, 53, 54, 55, 56, 60, 61, 64, 10, 11, 12] := by rw [hS31]; exact hL30
  have hp31 : ∀ i ∈ S31.1, i ∉ [0] → S31.2 i = mb_c mz_0 i := by
    intro i hi he
    rw [hS31] at hi ⊢
    exact (mj_up_ne (fun e => he (by rw [e]; simp))).trans (hp30 i hi he)
  refine ro_aload_n hK dC_init_127 rfl ?_
  refine ro_iconst (x := 0) hK (by decide) dC_init_128 ?_
  refine ro_put hK gC_70 f31 (by show 13 < 15; decide) (fun _ => rfl) (fun _ => rfl) dC_init_129 ?_
  obtain ⟨S32, hS32⟩ : ∃ T, T = mj_up S31 0 (.inr (4, [.ref 16, .ref 1, .ref 17, .ref 3, .ref 100, .ref 120, .ref 6, .ref 36, .ref 40, .ref 60, .ref 10, .ref 11, .ref 12, .int 0, .int 0])) := ⟨_, rfl⟩
  show K _ _ 132 _ _ (mj_up S31 0 (.inr (4, [.ref 16, .ref 1, .ref 17, .ref 3, .ref 100, .ref 120, .ref 6, .ref 36, .ref 40, .ref 60, .ref 10, .ref 11, .ref 12, .int 0, .int 0])))
  rw [← hS32]
  have f32 : S32.2 0 = .inr (4, [.ref 16, .ref 1, .ref 17, .ref 3, .ref 100, .ref 120, .ref 6, .ref 36, .ref 40, .ref 60, .ref 10, .ref 11, .ref 12, .int 0, .int 0]) := by rw [hS32]; exact mj_up_eq
  have hL32 : S32.1 = [0, 16, 20, 21, 22, 23, 24, 25, 1, 17, 30, 31, 32, 33, 3, 100, 105, 106, 107, 108, 109, 110, 111, 112, 120, 125, 126, 127, 128, 129, 130, 131, 132, 6, 36, 37, 40, 47, 48, 49, 50, 51, 52, 53, 54, 55, 56, 60, 61, 64, 10, 11, 12] := by rw [hS32]; exact hL31
  have hp32 : ∀ i ∈ S32.1, i ∉ [0] → S32.2 i = mb_c mz_0 i := by
    intro i hi he
    rw [hS32] at hi ⊢
    exact (mj_up_ne (fun e => he (by rw [e]; simp))).trans (hp31 i hi he)
  refine ro_aload_n hK dC_init_132 rfl ?_
  refine ro_iconst (x := 0) hK (by decide) dC_init_133 ?_
  refine ro_put hK gC_74 f32 (by show 14 < 15; decide) (fun _ => rfl) (fun _ => rfl) dC_init_134 ?_
  obtain ⟨S33, hS33⟩ : ∃ T, T = mj_up S32 0 (.inr (4, [.ref 16, .ref 1, .ref 17, .ref 3, .ref 100, .ref 120, .ref 6, .ref 36, .ref 40, .ref 60, .ref 10, .ref 11, .ref 12, .int 0, .int 0])) := ⟨_, rfl⟩
  show K _ _ 137 _ _ (mj_up S32 0 (.inr (4, [.ref 16, .ref 1, .ref 17, .ref 3, .ref 100, .ref 120, .ref 6, .ref 36, .ref 40, .ref 60, .ref 10, .ref 11, .ref 12, .int 0, .int 0])))
  rw [← hS33]
  have f33 : S33.2 0 = .inr (4, [.ref 16, .ref 1, .ref 17, .ref 3, .ref 100, .ref 120, .ref 6, .ref 36, .ref 40, .ref 60, .ref 10, .ref 11, .ref 12, .int 0, .int 0]) := by rw [hS33]; exact mj_up_eq
  have hL33 : S33.1 = [0, 16, 20, 21, 22, 23, 24, 25, 1, 17, 30, 31, 32, 33, 3, 100, 105, 106, 107, 108, 109, 110, 111, 112, 120, 125, 126, 127, 128, 129, 130, 131, 132, 6, 36, 37, 40, 47, 48, 49, 50, 51, 52, 53, 54, 55, 56, 60, 61, 64, 10, 11, 12] := by rw [hS33]; exact hL32
  have hp33 : ∀ i ∈ S33.1, i ∉ [0] → S33.2 i = mb_c mz_0 i := by
    intro i hi he
    rw [hS33] at hi ⊢
    exact (mj_up_ne (fun e => he (by rw [e]; simp))).trans (hp32 i hi he)
  refine ro_eqv (S' := mb_s mz_0) hK (by decide +kernel) (fun i => ?_) ?_ ?_
  · rw [hL33]
    have h1 : ∀ i ∈ mb_L mz_0, i ∈ [0, 16, 20, 21, 22, 23, 24, 25, 1, 17, 30, 31, 32, 33, 3, 100, 105, 106, 107, 108, 109, 110, 111, 112, 120, 125, 126, 127, 128, 129, 130, 131, 132, 6, 36, 37, 40, 47, 48, 49, 50, 51, 52, 53, 54, 55, 56, 60, 61, 64, 10, 11, 12] := by decide +kernel
    have h2 : ∀ i ∈ [0, 16, 20, 21, 22, 23, 24, 25, 1, 17, 30, 31, 32, 33, 3, 100, 105, 106, 107, 108, 109, 110, 111, 112, 120, 125, 126, 127, 128, 129, 130, 131, 132, 6, 36, 37, 40, 47, 48, 49, 50, 51, 52, 53, 54, 55, 56, 60, 61, 64, 10, 11, 12], i ∈ mb_L mz_0 := by decide +kernel
    exact ⟨h1 i, h2 i⟩
  · show ∀ i ∈ mb_L mz_0, mb_c mz_0 i = S33.2 i
    intro i hi
    have hi2 : i ∈ S33.1 := by rw [hL33]; exact (show ∀ i ∈ mb_L mz_0, i ∈ [0, 16, 20, 21, 22, 23, 24, 25, 1, 17, 30, 31, 32, 33, 3, 100, 105, 106, 107, 108, 109, 110, 111, 112, 120, 125, 126, 127, 128, 129, 130, 131, 132, 6, 36, 37, 40, 47, 48, 49, 50, 51, 52, 53, 54, 55, 56, 60, 61, 64, 10, 11, 12] by decide +kernel) i hi
    by_cases e : i = 0
    · rw [e]; exact (f33.trans rfl).symm
    · exact (hp33 i hi2 (fun q8 => e (List.mem_singleton.mp q8))).symm
  · exact ts_C_init (n := n) ⟨by decide, by decide⟩ hK hR h
theorem dM_init_0 : decode bM_init 0 = .ok (.aload_n 0, 1) := by decide +kernel
theorem dM_init_1 : decode bM_init 1 = .ok (.invokespecial 1, 3) := by decide +kernel
theorem dM_init_4 : decode bM_init 4 = .ok (.aload_n 0, 1) := by decide +kernel
theorem dM_init_5 : decode bM_init 5 = .ok (.bipush 6, 2) := by decide +kernel
theorem dM_init_7 : decode bM_init 7 = .ok (.newarray .int, 2) := by decide +kernel
theorem dM_init_9 : decode bM_init 9 = .ok (.putfield 7, 3) := by decide +kernel
theorem dM_init_12 : decode bM_init 12 = .ok (.aload_n 0, 1) := by decide +kernel
theorem dM_init_13 : decode bM_init 13 = .ok (.bipush 6, 2) := by decide +kernel
theorem dM_init_15 : decode bM_init 15 = .ok (.newarray .int, 2) := by decide +kernel
theorem dM_init_17 : decode bM_init 17 = .ok (.putfield 13, 3) := by decide +kernel
theorem dM_init_20 : decode bM_init 20 = .ok (.aload_n 0, 1) := by decide +kernel
theorem dM_init_21 : decode bM_init 21 = .ok (.sipush 360, 3) := by decide +kernel
theorem dM_init_24 : decode bM_init 24 = .ok (.newarray .int, 2) := by decide +kernel
theorem dM_init_26 : decode bM_init 26 = .ok (.putfield 16, 3) := by decide +kernel
theorem dM_init_29 : decode bM_init 29 = .ok (.aload_n 0, 1) := by decide +kernel
theorem dM_init_30 : decode bM_init 30 = .ok (.bipush 60, 2) := by decide +kernel
theorem dM_init_32 : decode bM_init 32 = .ok (.newarray .int, 2) := by decide +kernel
theorem dM_init_34 : decode bM_init 34 = .ok (.putfield 19, 3) := by decide +kernel
theorem dM_init_37 : decode bM_init 37 = .ok (.aload_n 0, 1) := by decide +kernel
theorem dM_init_38 : decode bM_init 38 = .ok (.iconst 4, 1) := by decide +kernel
theorem dM_init_39 : decode bM_init 39 = .ok (.newarray .int, 2) := by decide +kernel
theorem dM_init_41 : decode bM_init 41 = .ok (.putfield 22, 3) := by decide +kernel
theorem dM_init_44 : decode bM_init 44 = .ok (.aload_n 0, 1) := by decide +kernel
theorem dM_init_45 : decode bM_init 45 = .ok (.sipush 320, 3) := by decide +kernel
theorem dM_init_48 : decode bM_init 48 = .ok (.newarray .int, 2) := by decide +kernel
theorem dM_init_50 : decode bM_init 50 = .ok (.putfield 25, 3) := by decide +kernel
theorem dM_init_53 : decode bM_init 53 = .ok (.aload_n 0, 1) := by decide +kernel
theorem dM_init_54 : decode bM_init 54 = .ok (.bipush 10, 2) := by decide +kernel
theorem dM_init_56 : decode bM_init 56 = .ok (.newarray .int, 2) := by decide +kernel
theorem dM_init_58 : decode bM_init 58 = .ok (.putfield 28, 3) := by decide +kernel
theorem dM_init_61 : decode bM_init 61 = .ok (.aload_n 0, 1) := by decide +kernel
theorem dM_init_62 : decode bM_init 62 = .ok (.bipush 10, 2) := by decide +kernel
theorem dM_init_64 : decode bM_init 64 = .ok (.newarray .int, 2) := by decide +kernel
theorem dM_init_66 : decode bM_init 66 = .ok (.putfield 31, 3) := by decide +kernel
theorem dM_init_69 : decode bM_init 69 = .ok (.aload_n 0, 1) := by decide +kernel
theorem dM_init_70 : decode bM_init 70 = .ok (.bipush 10, 2) := by decide +kernel
theorem dM_init_72 : decode bM_init 72 = .ok (.newarray .int, 2) := by decide +kernel
theorem dM_init_74 : decode bM_init 74 = .ok (.putfield 34, 3) := by decide +kernel
theorem dM_init_77 : decode bM_init 77 = .ok (.aload_n 0, 1) := by decide +kernel
theorem dM_init_78 : decode bM_init 78 = .ok (.bipush 10, 2) := by decide +kernel
theorem dM_init_80 : decode bM_init 80 = .ok (.newarray .int, 2) := by decide +kernel
theorem dM_init_82 : decode bM_init 82 = .ok (.putfield 37, 3) := by decide +kernel
theorem dM_init_85 : decode bM_init 85 = .ok (.aload_n 0, 1) := by decide +kernel
theorem dM_init_86 : decode bM_init 86 = .ok (.bipush 10, 2) := by decide +kernel
theorem dM_init_88 : decode bM_init 88 = .ok (.newarray .int, 2) := by decide +kernel
theorem dM_init_90 : decode bM_init 90 = .ok (.putfield 40, 3) := by decide +kernel
theorem dM_init_93 : decode bM_init 93 = .ok (.aload_n 0, 1) := by decide +kernel
theorem dM_init_94 : decode bM_init 94 = .ok (.bipush (-9), 2) := by decide +kernel
theorem dM_init_96 : decode bM_init 96 = .ok (.putfield 43, 3) := by decide +kernel
theorem dM_init_99 : decode bM_init 99 = .ok (.aload_n 0, 1) := by decide +kernel
theorem dM_init_100 : decode bM_init 100 = .ok (.iconst 5, 1) := by decide +kernel
theorem dM_init_101 : decode bM_init 101 = .ok (.newarray .int, 2) := by decide +kernel
theorem dM_init_103 : decode bM_init 103 = .ok (.dup, 1) := by decide +kernel
theorem dM_init_104 : decode bM_init 104 = .ok (.iconst 0, 1) := by decide +kernel
theorem dM_init_105 : decode bM_init 105 = .ok (.iconst 0, 1) := by decide +kernel
theorem dM_init_106 : decode bM_init 106 = .ok (.iastore, 1) := by decide +kernel
theorem dM_init_107 : decode bM_init 107 = .ok (.dup, 1) := by decide +kernel
theorem dM_init_108 : decode bM_init 108 = .ok (.iconst 1, 1) := by decide +kernel
theorem dM_init_109 : decode bM_init 109 = .ok (.iconst 1, 1) := by decide +kernel
theorem dM_init_110 : decode bM_init 110 = .ok (.iastore, 1) := by decide +kernel
theorem dM_init_111 : decode bM_init 111 = .ok (.dup, 1) := by decide +kernel
theorem dM_init_112 : decode bM_init 112 = .ok (.iconst 2, 1) := by decide +kernel
theorem dM_init_113 : decode bM_init 113 = .ok (.iconst 2, 1) := by decide +kernel
theorem dM_init_114 : decode bM_init 114 = .ok (.iastore, 1) := by decide +kernel
theorem dM_init_115 : decode bM_init 115 = .ok (.dup, 1) := by decide +kernel
theorem dM_init_116 : decode bM_init 116 = .ok (.iconst 3, 1) := by decide +kernel
theorem dM_init_117 : decode bM_init 117 = .ok (.iconst 3, 1) := by decide +kernel
theorem dM_init_118 : decode bM_init 118 = .ok (.iastore, 1) := by decide +kernel
theorem dM_init_119 : decode bM_init 119 = .ok (.dup, 1) := by decide +kernel
theorem dM_init_120 : decode bM_init 120 = .ok (.iconst 4, 1) := by decide +kernel
theorem dM_init_121 : decode bM_init 121 = .ok (.iconst 4, 1) := by decide +kernel
theorem dM_init_122 : decode bM_init 122 = .ok (.iastore, 1) := by decide +kernel
theorem dM_init_123 : decode bM_init 123 = .ok (.putfield 47, 3) := by decide +kernel
theorem dM_init_126 : decode bM_init 126 = .ok (.aload_n 0, 1) := by decide +kernel
theorem dM_init_127 : decode bM_init 127 = .ok (.bipush (-9), 2) := by decide +kernel
theorem dM_init_129 : decode bM_init 129 = .ok (.putfield 50, 3) := by decide +kernel
theorem dM_init_132 : decode bM_init 132 = .ok (.aload_n 0, 1) := by decide +kernel
theorem dM_init_133 : decode bM_init 133 = .ok (.bipush 120, 2) := by decide +kernel
theorem dM_init_135 : decode bM_init 135 = .ok (.newarray .int, 2) := by decide +kernel
theorem dM_init_137 : decode bM_init 137 = .ok (.putfield 53, 3) := by decide +kernel
theorem dM_init_140 : decode bM_init 140 = .ok (.aload_n 0, 1) := by decide +kernel
theorem dM_init_141 : decode bM_init 141 = .ok (.sipush 720, 3) := by decide +kernel
theorem dM_init_144 : decode bM_init 144 = .ok (.newarray .int, 2) := by decide +kernel
theorem dM_init_146 : decode bM_init 146 = .ok (.putfield 56, 3) := by decide +kernel
theorem dM_init_149 : decode bM_init 149 = .ok (.aload_n 0, 1) := by decide +kernel
theorem dM_init_150 : decode bM_init 150 = .ok (.iconst 5, 1) := by decide +kernel
theorem dM_init_151 : decode bM_init 151 = .ok (.newarray .int, 2) := by decide +kernel
theorem dM_init_153 : decode bM_init 153 = .ok (.putfield 59, 3) := by decide +kernel
theorem dM_init_156 : decode bM_init 156 = .ok (.aload_n 0, 1) := by decide +kernel
theorem dM_init_157 : decode bM_init 157 = .ok (.sipush 2550, 3) := by decide +kernel
theorem dM_init_160 : decode bM_init 160 = .ok (.newarray .int, 2) := by decide +kernel
theorem dM_init_162 : decode bM_init 162 = .ok (.putfield 62, 3) := by decide +kernel
theorem dM_init_165 : decode bM_init 165 = .ok (.aload_n 0, 1) := by decide +kernel
theorem dM_init_166 : decode bM_init 166 = .ok (.bipush 8, 2) := by decide +kernel
theorem dM_init_168 : decode bM_init 168 = .ok (.newarray .int, 2) := by decide +kernel
theorem dM_init_170 : decode bM_init 170 = .ok (.putfield 65, 3) := by decide +kernel
theorem dM_init_173 : decode bM_init 173 = .ok (.aload_n 0, 1) := by decide +kernel
theorem dM_init_174 : decode bM_init 174 = .ok (.bipush 18, 2) := by decide +kernel
theorem dM_init_176 : decode bM_init 176 = .ok (.newarray .int, 2) := by decide +kernel
theorem dM_init_178 : decode bM_init 178 = .ok (.putfield 68, 3) := by decide +kernel
theorem dM_init_181 : decode bM_init 181 = .ok (.aload_n 0, 1) := by decide +kernel
theorem dM_init_182 : decode bM_init 182 = .ok (.bipush 56, 2) := by decide +kernel
theorem dM_init_184 : decode bM_init 184 = .ok (.newarray .int, 2) := by decide +kernel
theorem dM_init_186 : decode bM_init 186 = .ok (.putfield 71, 3) := by decide +kernel
theorem dM_init_189 : decode bM_init 189 = .ok (.aload_n 0, 1) := by decide +kernel
theorem dM_init_190 : decode bM_init 190 = .ok (.bipush 6, 2) := by decide +kernel
theorem dM_init_192 : decode bM_init 192 = .ok (.newarray .int, 2) := by decide +kernel
theorem dM_init_194 : decode bM_init 194 = .ok (.putfield 74, 3) := by decide +kernel
theorem dM_init_197 : decode bM_init 197 = .ok (.aload_n 0, 1) := by decide +kernel
theorem dM_init_198 : decode bM_init 198 = .ok (.bipush 6, 2) := by decide +kernel
theorem dM_init_200 : decode bM_init 200 = .ok (.newarray .int, 2) := by decide +kernel
theorem dM_init_202 : decode bM_init 202 = .ok (.putfield 77, 3) := by decide +kernel
theorem dM_init_205 : decode bM_init 205 = .ok (.aload_n 0, 1) := by decide +kernel
theorem dM_init_206 : decode bM_init 206 = .ok (.iconst 5, 1) := by decide +kernel
theorem dM_init_207 : decode bM_init 207 = .ok (.newarray .int, 2) := by decide +kernel
theorem dM_init_209 : decode bM_init 209 = .ok (.putfield 80, 3) := by decide +kernel
theorem dM_init_212 : decode bM_init 212 = .ok (.aload_n 0, 1) := by decide +kernel
theorem dM_init_213 : decode bM_init 213 = .ok (.iconst 5, 1) := by decide +kernel
theorem dM_init_214 : decode bM_init 214 = .ok (.newarray .int, 2) := by decide +kernel
theorem dM_init_216 : decode bM_init 216 = .ok (.putfield 83, 3) := by decide +kernel
theorem dM_init_219 : decode bM_init 219 = .ok (.iconst 0, 1) := by decide +kernel
theorem dM_init_220 : decode bM_init 220 = .ok (.istore_n 1, 1) := by decide +kernel
theorem dM_init_221 : decode bM_init 221 = .ok (.iload_n 1, 1) := by decide +kernel
theorem dM_init_222 : decode bM_init 222 = .ok (.bipush 6, 2) := by decide +kernel
theorem dM_init_224 : decode bM_init 224 = .ok (.if_icmp .ge 17, 3) := by decide +kernel
theorem dM_init_227 : decode bM_init 227 = .ok (.aload_n 0, 1) := by decide +kernel
theorem dM_init_228 : decode bM_init 228 = .ok (.getfield 13, 3) := by decide +kernel
theorem dM_init_231 : decode bM_init 231 = .ok (.iload_n 1, 1) := by decide +kernel
theorem dM_init_232 : decode bM_init 232 = .ok (.bipush (-9), 2) := by decide +kernel
theorem dM_init_234 : decode bM_init 234 = .ok (.iastore, 1) := by decide +kernel
theorem dM_init_235 : decode bM_init 235 = .ok (.iinc 1 1, 3) := by decide +kernel
theorem dM_init_238 : decode bM_init 238 = .ok (.goto (-17), 3) := by decide +kernel
theorem dM_init_241 : decode bM_init 241 = .ok (.iconst 0, 1) := by decide +kernel
theorem dM_init_242 : decode bM_init 242 = .ok (.istore_n 1, 1) := by decide +kernel
theorem dM_init_243 : decode bM_init 243 = .ok (.iload_n 1, 1) := by decide +kernel
theorem dM_init_244 : decode bM_init 244 = .ok (.iconst 4, 1) := by decide +kernel
theorem dM_init_245 : decode bM_init 245 = .ok (.if_icmp .ge 17, 3) := by decide +kernel
theorem dM_init_248 : decode bM_init 248 = .ok (.aload_n 0, 1) := by decide +kernel
theorem dM_init_249 : decode bM_init 249 = .ok (.getfield 22, 3) := by decide +kernel
theorem dM_init_252 : decode bM_init 252 = .ok (.iload_n 1, 1) := by decide +kernel
theorem dM_init_253 : decode bM_init 253 = .ok (.bipush (-9), 2) := by decide +kernel
theorem dM_init_255 : decode bM_init 255 = .ok (.iastore, 1) := by decide +kernel
theorem dM_init_256 : decode bM_init 256 = .ok (.iinc 1 1, 3) := by decide +kernel
theorem dM_init_259 : decode bM_init 259 = .ok (.goto (-16), 3) := by decide +kernel
theorem dM_init_262 : decode bM_init 262 = .ok (.iconst 0, 1) := by decide +kernel
theorem dM_init_263 : decode bM_init 263 = .ok (.istore_n 1, 1) := by decide +kernel
theorem dM_init_264 : decode bM_init 264 = .ok (.iload_n 1, 1) := by decide +kernel
theorem dM_init_265 : decode bM_init 265 = .ok (.iconst 3, 1) := by decide +kernel
theorem dM_init_266 : decode bM_init 266 = .ok (.if_icmp .ge 21, 3) := by decide +kernel
theorem dM_init_269 : decode bM_init 269 = .ok (.aload_n 0, 1) := by decide +kernel
theorem dM_init_270 : decode bM_init 270 = .ok (.getfield 62, 3) := by decide +kernel
theorem dM_init_273 : decode bM_init 273 = .ok (.sipush 850, 3) := by decide +kernel
theorem dM_init_276 : decode bM_init 276 = .ok (.iload_n 1, 1) := by decide +kernel
theorem dM_init_277 : decode bM_init 277 = .ok (.imul, 1) := by decide +kernel
theorem dM_init_278 : decode bM_init 278 = .ok (.bipush (-9), 2) := by decide +kernel
theorem dM_init_280 : decode bM_init 280 = .ok (.iastore, 1) := by decide +kernel
theorem dM_init_281 : decode bM_init 281 = .ok (.iinc 1 1, 3) := by decide +kernel
theorem dM_init_284 : decode bM_init 284 = .ok (.goto (-20), 3) := by decide +kernel
theorem dM_init_287 : decode bM_init 287 = .ok (.return_, 1) := by decide +kernel
def f_M_init_221 (n : Nat) (k0 : Int32 → mb_T → Option (mb_T))  : Nat → Int32 → mb_T → Option (mb_T)
  | 0, _, _ => none
  | f + 1, w1, s => if 6 ≤ w1 then k0 w1 s else mb_wr s 203 6 w1 (-9) fun s_2 => f_M_init_221 n k0 f (w1 + 1) s_2
def f_M_init_243 (n : Nat) (k0 : Int32 → mb_T → Option (mb_T))  : Nat → Int32 → mb_T → Option (mb_T)
  | 0, _, _ => none
  | f + 1, w1, s => if 4 ≤ w1 then k0 w1 s else mb_wr s 206 4 w1 (-9) fun s_8 => f_M_init_243 n k0 f (w1 + 1) s_8
def f_M_init_264 (n : Nat) (k0 : Int32 → mb_T → Option (mb_T))  : Nat → Int32 → mb_T → Option (mb_T)
  | 0, _, _ => none
  | f + 1, w1, s => if 3 ≤ w1 then k0 w1 s else mb_wr s 229 2550 (850 * w1) (-9) fun s_14 => f_M_init_264 n k0 f (w1 + 1) s_14
def f_M_init (n : Nat) (s : mb_T) : Option (mb_T) := f_M_init_221 n (fun x_5 s_6 => f_M_init_243 n (fun x_11 s_12 => f_M_init_264 n (fun x_17 s_18 => some s_18) n 0 s_12) n 0 s_6) n 0 s
set_option maxHeartbeats 4000000 in
set_option maxRecDepth 100000 in
theorem tl_M_init_221 {dd n mc ms u v : Nat} {K : mj_KT} {out : mb_T} (hb : u ≤ mc ∧ v ≤ ms) (hK : mj_C (dd + 1) mc ms RM_c "<init>" bM_init 2 K) (hR : mj_R bM_init none (fun r2 S2 => r2 = none ∧ S2 = mb_s out) K) {k0 : Int32 → mb_T → Option (mb_T)}  (hk0 : ∀ (w1 : Int32) (s : mb_T), k0 w1 s = some out → K u v 241 [.ref 200, .int w1] [] (mb_s s)) : ∀ (f : Nat) (w1 : Int32) (s : mb_T), f_M_init_221 n k0 f w1 s = some out → K u v 221 [.ref 200, .int w1] [] (mb_s s) := by
  intro f
  induction f with
  | zero =>
    intro w1 s h
    cases h
  | succ f ih =>
    intro w1 s h
    rw [f_M_init_221] at h
    refine ro_iload_n hK dM_init_221 rfl ?_
    refine ro_bipush (x := 6) hK (by decide) dM_init_222 ?_
    refine ro_icmp_ge (tgt := 241) hK dM_init_224 (by decide) (fun c_1 => ?_) (fun c_1 => ?_)
    · replace h := mb_ift c_1 h
      refine ro_fg (lv' := [.ref 200, .int w1]) hK ⟨Or.inr rfl, ⟨Or.inr rfl, trivial⟩⟩ ?_
      exact hk0 _ _ h
    · replace h := mb_iff c_1 h
      refine ro_aload_n hK dM_init_227 rfl ?_
      refine rb_get hK fM_13 mb_oM rfl dM_init_228 ?_
      refine ro_iload_n hK dM_init_231 rfl ?_
      refine ro_bipush (x := (-9)) hK (by decide) dM_init_232 ?_
      obtain ⟨s_2, e_3, i_4, h⟩ := mb_wr_e h
      refine rb_iast hK ai_203 i_4 e_3 dM_init_234 ?_
      refine ro_iincv (c := 1) hK (by decide) dM_init_235 rfl (by decide) ?_
      show K u v 238 [.ref 200, .int (w1 + 1)] [] (mb_s s_2)
      refine ro_goto (tgt := 221) hK dM_init_238 (by decide) ?_
      refine ro_fg (lv' := [.ref 200, .int (w1 + 1)]) hK ⟨Or.inr rfl, ⟨Or.inr rfl, trivial⟩⟩ ?_
      exact ih _ _ h
set_option maxHeartbeats 4000000 in
set_option maxRecDepth 100000 in
theorem tl_M_init_243 {dd n mc ms u v : Nat} {K : mj_KT} {out : mb_T} (hb : u ≤ mc ∧ v ≤ ms) (hK : mj_C (dd + 1) mc ms RM_c "<init>" bM_init 2 K) (hR : mj_R bM_init none (fun r2 S2 => r2 = none ∧ S2 = mb_s out) K) {k0 : Int32 → mb_T → Option (mb_T)}  (hk0 : ∀ (w1 : Int32) (s : mb_T), k0 w1 s = some out → K u v 262 [.ref 200, .int w1] [] (mb_s s)) : ∀ (f : Nat) (w1 : Int32) (s : mb_T), f_M_init_243 n k0 f w1 s = some out → K u v 243 [.ref 200, .int w1] [] (mb_s s) := by
  intro f
  induction f with
  | zero =>
    intro w1 s h
    cases h
  | succ f ih =>
    intro w1 s h
    rw [f_M_init_243] at h
    refine ro_iload_n hK dM_init_243 rfl ?_
    refine ro_iconst (x := 4) hK (by decide) dM_init_244 ?_
    refine ro_icmp_ge (tgt := 262) hK dM_init_245 (by decide) (fun c_7 => ?_) (fun c_7 => ?_)
    · replace h := mb_ift c_7 h
      refine ro_fg (lv' := [.ref 200, .int w1]) hK ⟨Or.inr rfl, ⟨Or.inr rfl, trivial⟩⟩ ?_
      exact hk0 _ _ h
    · replace h := mb_iff c_7 h
      refine ro_aload_n hK dM_init_248 rfl ?_
      refine rb_get hK fM_22 mb_oM rfl dM_init_249 ?_
      refine ro_iload_n hK dM_init_252 rfl ?_
      refine ro_bipush (x := (-9)) hK (by decide) dM_init_253 ?_
      obtain ⟨s_8, e_9, i_10, h⟩ := mb_wr_e h
      refine rb_iast hK ai_206 i_10 e_9 dM_init_255 ?_
      refine ro_iincv (c := 1) hK (by decide) dM_init_256 rfl (by decide) ?_
      show K u v 259 [.ref 200, .int (w1 + 1)] [] (mb_s s_8)
      refine ro_goto (tgt := 243) hK dM_init_259 (by decide) ?_
      refine ro_fg (lv' := [.ref 200, .int (w1 + 1)]) hK ⟨Or.inr rfl, ⟨Or.inr rfl, trivial⟩⟩ ?_
      exact ih _ _ h
set_option maxHeartbeats 4000000 in
set_option maxRecDepth 100000 in
theorem tl_M_init_264 {dd n mc ms u v : Nat} {K : mj_KT} {out : mb_T} (hb : u ≤ mc ∧ v ≤ ms) (hK : mj_C (dd + 1) mc ms RM_c "<init>" bM_init 2 K) (hR : mj_R bM_init none (fun r2 S2 => r2 = none ∧ S2 = mb_s out) K) {k0 : Int32 → mb_T → Option (mb_T)}  (hk0 : ∀ (w1 : Int32) (s : mb_T), k0 w1 s = some out → K u v 287 [.ref 200, .int w1] [] (mb_s s)) : ∀ (f : Nat) (w1 : Int32) (s : mb_T), f_M_init_264 n k0 f w1 s = some out → K u v 264 [.ref 200, .int w1] [] (mb_s s) := by
  intro f
  induction f with
  | zero =>
    intro w1 s h
    cases h
  | succ f ih =>
    intro w1 s h
    rw [f_M_init_264] at h
    refine ro_iload_n hK dM_init_264 rfl ?_
    refine ro_iconst (x := 3) hK (by decide) dM_init_265 ?_
    refine ro_icmp_ge (tgt := 287) hK dM_init_266 (by decide) (fun c_13 => ?_) (fun c_13 => ?_)
    · replace h := mb_ift c_13 h
      refine ro_fg (lv' := [.ref 200, .int w1]) hK ⟨Or.inr rfl, ⟨Or.inr rfl, trivial⟩⟩ ?_
      exact hk0 _ _ h
    · replace h := mb_iff c_13 h
      refine ro_aload_n hK dM_init_269 rfl ?_
      refine rb_get hK fM_62 mb_oM rfl dM_init_270 ?_
      refine ro_sipush (x := 850) hK (by decide) dM_init_273 ?_
      refine ro_iload_n hK dM_init_276 rfl ?_
      refine ro_imul hK dM_init_277 ?_
      refine ro_bipush (x := (-9)) hK (by decide) dM_init_278 ?_
      obtain ⟨s_14, e_15, i_16, h⟩ := mb_wr_e h
      refine rb_iast hK ai_229 i_16 e_15 dM_init_280 ?_
      refine ro_iincv (c := 1) hK (by decide) dM_init_281 rfl (by decide) ?_
      show K u v 284 [.ref 200, .int (w1 + 1)] [] (mb_s s_14)
      refine ro_goto (tgt := 264) hK dM_init_284 (by decide) ?_
      refine ro_fg (lv' := [.ref 200, .int (w1 + 1)]) hK ⟨Or.inr rfl, ⟨Or.inr rfl, trivial⟩⟩ ?_
      exact ih _ _ h
set_option maxHeartbeats 4000000 in
set_option maxRecDepth 100000 in
theorem ts_M_init {dd n mc ms u v : Nat} {K : mj_KT} {s out : mb_T} (hb : u ≤ mc ∧ v ≤ ms) (hK : mj_C (dd + 1) mc ms RM_c "<init>" bM_init 2 K) (hR : mj_R bM_init none (fun r2 S2 => r2 = none ∧ S2 = mb_s out) K) (h : f_M_init n s = some out) : K u v 219 [.ref 200, .retAddr 0] [] (mb_s s) := by
  unfold f_M_init at h
  refine ro_iconst (x := 0) hK (by decide) dM_init_219 ?_
  refine ro_istore_n hK dM_init_220 (by decide) ?_
  show K u v 221 [.ref 200, .int 0] [] (mb_s s)
  refine ro_fg (lv' := [.ref 200, .int 0]) hK ⟨Or.inr rfl, ⟨Or.inr rfl, trivial⟩⟩ ?_
  refine tl_M_init_221 (dd := dd) hb hK hR (fun x_5 s_6 h => ?_) n _ _ h
  refine ro_iconst (x := 0) hK (by decide) dM_init_241 ?_
  refine ro_istore_n hK dM_init_242 (by decide) ?_
  show K u v 243 [.ref 200, .int 0] [] (mb_s s_6)
  refine ro_fg (lv' := [.ref 200, .int 0]) hK ⟨Or.inr rfl, ⟨Or.inr rfl, trivial⟩⟩ ?_
  refine tl_M_init_243 (dd := dd) hb hK hR (fun x_11 s_12 h => ?_) n _ _ h
  refine ro_iconst (x := 0) hK (by decide) dM_init_262 ?_
  refine ro_istore_n hK dM_init_263 (by decide) ?_
  show K u v 264 [.ref 200, .int 0] [] (mb_s s_12)
  refine ro_fg (lv' := [.ref 200, .int 0]) hK ⟨Or.inr rfl, ⟨Or.inr rfl, trivial⟩⟩ ?_
  refine tl_M_init_264 (dd := dd) hb hK hR (fun x_17 s_18 h => ?_) n _ _ h
  cases h
  exact hR.2.2 u v 287 _ _ rfl dM_init_287 ⟨rfl, rfl⟩
set_option maxHeartbeats 8000000 in
set_option maxRecDepth 100000 in
theorem ti_M {dd n : Nat} {s out : mb_T} (hkp : s.2.2.2.2 = fun _ => false) (h : f_M_init n (mz_M s) = some out) : mj_MC (dd + 1) 23 4310 yM_init bM_init 2 none [.ref 200] (mj_nw (mb_s s) 200 (.inr (5, [.int 0, .null, .int 0, .null, .null, .null, .null, .null, .int 0, .int 0, .int 0, .int 0, .null, .null, .null, .null, .null, .int 0, .int 0, .int 0, .int 0, .int 0, .int 0, .null, .int 0, .int 0, .null, .null, .null, .null, .null, .int 0, .null, .int 0, .null, .null, .null, .int 0, .int 0, .null, .null, .int 0, .int 0, .int 0, .long 0]))) (fun r S2 => r = none ∧ S2 = mb_s out) := by
  refine mj_mc (lv := [.ref 200, .retAddr 0]) mM_init rfl rfl (Nat.le_of_ble_eq_true rfl) (fun K hK hR => ?_)
  have hK : mj_C (dd + 1) 23 4310 RM_c "<init>" bM_init 2 K := hK
  obtain ⟨S0, hS0⟩ : ∃ T, T = mj_nw (mb_s s) 200 (.inr (5, [.int 0, .null, .int 0, .null, .null, .null, .null, .null, .int 0, .int 0, .int 0, .int 0, .null, .null, .null, .null, .null, .int 0, .int 0, .int 0, .int 0, .int 0, .int 0, .null, .int 0, .int 0, .null, .null, .null, .null, .null, .int 0, .null, .int 0, .null, .null, .null, .int 0, .int 0, .null, .null, .int 0, .int 0, .int 0, .long 0])) := ⟨_, rfl⟩
  rw [← hS0]
  have f0 : S0.2 200 = .inr (5, [.int 0, .null, .int 0, .null, .null, .null, .null, .null, .int 0, .int 0, .int 0, .int 0, .null, .null, .null, .null, .null, .int 0, .int 0, .int 0, .int 0, .int 0, .int 0, .null, .int 0, .int 0, .null, .null, .null, .null, .null, .int 0, .null, .int 0, .null, .null, .null, .int 0, .int 0, .null, .null, .int 0, .int 0, .int 0, .long 0]) := by rw [hS0]; exact mj_nw_eq
  have hL0 : S0.1 = [0, 1, 3, 6, 10, 11, 12, 16, 17, 20, 21, 22, 23, 24, 25, 30, 31, 32, 33, 36, 37, 40, 47, 48, 49, 50, 51, 52, 53, 54, 55, 56, 60, 61, 64, 100, 105, 106, 107, 108, 109, 110, 111, 112, 120, 125, 126, 127, 128, 129, 130, 131, 132, 200] := by rw [hS0]; show mb_L s ++ [200] = _; unfold mb_L; rw [hkp]; rfl
  have hk6 : mb_c (mz_M s) 6 = mb_c s 6 := by
    show (Sum.inl (4, 3, .inr (.inr (.inr (.inr (fun j => if j < 3 ∧ (if j = 3 then true else s.2.2.2.2 j) = true then some (140 + 20 * j) else none))))) : mj_E) = Sum.inl (4, 3, .inr (.inr (.inr (.inr (fun j => if j < 3 ∧ s.2.2.2.2 j = true then some (140 + 20 * j) else none)))))
    have e : (fun j => if j < 3 ∧ (if j = 3 then true else s.2.2.2.2 j) = true then some (140 + 20 * j) else none) = (fun j => if j < 3 ∧ s.2.2.2.2 j = true then some (140 + 20 * j) else none) := by
      funext j
      by_cases hj : j = 3
      · subst hj; rfl
      · rw [if_neg hj]
    rw [e]
  have hp0 : ∀ i ∈ S0.1, i ∉ [200] → S0.2 i = mb_c (mz_M s) i := by
    intro i hi he
    rw [hL0] at hi
    rw [hS0, mj_nw_ne (fun e => he (by rw [e]; exact List.mem_cons_self))]
    show mb_c s i = _
    simp only [List.mem_cons, List.not_mem_nil, or_false] at hi
    rcases hi with rfl | rfl | rfl | rfl | rfl | rfl | rfl | rfl | rfl | rfl | rfl | rfl | rfl | rfl | rfl | rfl | rfl | rfl | rfl | rfl | rfl | rfl | rfl | rfl | rfl | rfl | rfl | rfl | rfl | rfl | rfl | rfl | rfl | rfl | rfl | rfl | rfl | rfl | rfl | rfl | rfl | rfl | rfl | rfl | rfl | rfl | rfl | rfl | rfl | rfl | rfl | rfl | rfl | rfl
    · exact rfl
    · exact rfl
    · exact rfl
    · exact hk6.symm
    · exact rfl
    · exact rfl
    · exact rfl
    · exact rfl
    · exact rfl
    · exact rfl
    · exact rfl
    · exact rfl
    · exact rfl
    · exact rfl
    · exact rfl
    · exact rfl
    · exact rfl
    · exact rfl
    · exact rfl
    · exact rfl
    · exact rfl
    · exact rfl
    · exact rfl
    · exact rfl
    · exact rfl
    · exact rfl
    · exact rfl
    · exact rfl
    · exact rfl
    · exact rfl
    · exact rfl
    · exact rfl
    · exact rfl
    · exact rfl
    · exact rfl
    · exact rfl
    · exact rfl
    · exact rfl
    · exact rfl
    · exact rfl
    · exact rfl
    · exact rfl
    · exact rfl
    · exact rfl
    · exact rfl
    · exact rfl
    · exact rfl
    · exact rfl
    · exact rfl
    · exact rfl
    · exact rfl
    · exact rfl
    · exact rfl
    · exact absurd List.mem_cons_self he
  refine ro_aload_n hK dM_init_0 rfl ?_
  refine ro_oi hK oi_M (by omega) (Nat.le_of_ble_eq_true rfl) dM_init_1 ?_
  refine ro_aload_n hK dM_init_4 rfl ?_
  refine ro_bipush (x := 6) hK (by decide) dM_init_5 ?_
  refine ro_newI (i := 201) (N := 6) hK (by decide) (by decide) (by decide) (by rw [hL0]; decide) (by decide) ⟨by decide, by decide⟩ dM_init_7 ?_
  obtain ⟨S1, hS1⟩ : ∃ T, T = mj_nw S0 201 (.inl (0, 6, .inl (fun _ => 0))) := ⟨_, rfl⟩
  rw [← hS1]
  have f1 : S1.2 200 = .inr (5, [.int 0, .null, .int 0, .null, .null, .null, .null, .null, .int 0, .int 0, .int 0, .int 0, .null, .null, .null, .null, .null, .int 0, .int 0, .int 0, .int 0, .int 0, .int 0, .null, .int 0, .int 0, .null, .null, .null, .null, .null, .int 0, .null, .int 0, .null, .null, .null, .int 0, .int 0, .null, .null, .int 0, .int 0, .int 0, .long 0]) := by rw [hS1]; exact (mj_nw_ne (by decide)).trans f0
  have fa1 : S1.2 201 = (.inl (0, 6, .inl (fun _ => 0))) := by rw [hS1]; exact mj_nw_eq
  have hL1 : S1.1 = [0, 1, 3, 6, 10, 11, 12, 16, 17, 20, 21, 22, 23, 24, 25, 30, 31, 32, 33, 36, 37, 40, 47, 48, 49, 50, 51, 52, 53, 54, 55, 56, 60, 61, 64, 100, 105, 106, 107, 108, 109, 110, 111, 112, 120, 125, 126, 127, 128, 129, 130, 131, 132, 200, 201] := by rw [hS1]; show S0.1 ++ [201] = _; rw [hL0]; rfl
  have hp1 : ∀ i ∈ S1.1, i ∉ [200] → S1.2 i = mb_c (mz_M s) i := by
    intro i hi he
    rw [hS1] at hi ⊢
    rcases List.mem_append.mp hi with hi | hi
    · exact (mj_nw_ne (fun (e : i = 201) => (show 201 ∉ S0.1 by rw [hL0]; decide) (e ▸ hi))).trans (hp0 i hi he)
    · rw [List.mem_singleton.mp hi]; exact mj_nw_eq.trans rfl
  refine ro_putF hK gM_7 f1 (by show 1 < 45; decide) (fun _ => rfl) (fun _ => rfl) dM_init_9 ?_
  obtain ⟨S2, hS2⟩ : ∃ T, T = mj_up S1 200 (.inr (5, [.int 0, .ref 201, .int 0, .null, .null, .null, .null, .null, .int 0, .int 0, .int 0, .int 0, .null, .null, .null, .null, .null, .int 0, .int 0, .int 0, .int 0, .int 0, .int 0, .null, .int 0, .int 0, .null, .null, .null, .null, .null, .int 0, .null, .int 0, .null, .null, .null, .int 0, .int 0, .null, .null, .int 0, .int 0, .int 0, .long 0])) := ⟨_, rfl⟩
  show K _ _ 12 _ _ (mj_up S1 200 (.inr (5, [.int 0, .ref 201, .int 0, .null, .null, .null, .null, .null, .int 0, .int 0, .int 0, .int 0, .null, .null, .null, .null, .null, .int 0, .int 0, .int 0, .int 0, .int 0, .int 0, .null, .int 0, .int 0, .null, .null, .null, .null, .null, .int 0, .null, .int 0, .null, .null, .null, .int 0, .int 0, .null, .null, .int 0, .int 0, .int 0, .long 0])))
  rw [← hS2]
  have f2 : S2.2 200 = .inr (5, [.int 0, .ref 201, .int 0, .null, .null, .null, .null, .null, .int 0, .int 0, .int 0, .int 0, .null, .null, .null, .null, .null, .int 0, .int 0, .int 0, .int 0, .int 0, .int 0, .null, .int 0, .int 0, .null, .null, .null, .null, .null, .int 0, .null, .int 0, .null, .null, .null, .int 0, .int 0, .null, .null, .int 0, .int 0, .int 0, .long 0]) := by rw [hS2]; exact mj_up_eq
  have hL2 : S2.1 = [0, 1, 3, 6, 10, 11, 12, 16, 17, 20, 21, 22, 23, 24, 25, 30, 31, 32, 33, 36, 37, 40, 47, 48, 49, 50, 51, 52, 53, 54, 55, 56, 60, 61, 64, 100, 105, 106, 107, 108, 109, 110, 111, 112, 120, 125, 126, 127, 128, 129, 130, 131, 132, 200, 201] := by rw [hS2]; exact hL1
  have hp2 : ∀ i ∈ S2.1, i ∉ [200] → S2.2 i = mb_c (mz_M s) i := by
    intro i hi he
    rw [hS2] at hi ⊢
    exact (mj_up_ne (fun e => he (by rw [e]; simp))).trans (hp1 i hi he)
  refine ro_aload_n hK dM_init_12 rfl ?_
  refine ro_bipush (x := 6) hK (by decide) dM_init_13 ?_
  refine ro_newI (i := 203) (N := 6) hK (by decide) (by decide) (by decide) (by rw [hL2]; decide) (by decide) ⟨by decide, by decide⟩ dM_init_15 ?_
  obtain ⟨S3, hS3⟩ : ∃ T, T = mj_nw S2 203 (.inl (0, 6, .inl (fun _ => 0))) := ⟨_, rfl⟩
  rw [← hS3]
  have f3 : S3.2 200 = .inr (5, [.int 0, .ref 201, .int 0, .null, .null, .null, .null, .null, .int 0, .int 0, .int 0, .int 0, .null, .null, .null, .null, .null, .int 0, .int 0, .int 0, .int 0, .int 0, .int 0, .null, .int 0, .int 0, .null, .null, .null, .null, .null, .int 0, .null, .int 0, .null, .null, .null, .int 0, .int 0, .null, .null, .int 0, .int 0, .int 0, .long 0]) := by rw [hS3]; exact (mj_nw_ne (by decide)).trans f2
  have fa3 : S3.2 203 = (.inl (0, 6, .inl (fun _ => 0))) := by rw [hS3]; exact mj_nw_eq
  have hL3 : S3.1 = [0, 1, 3, 6, 10, 11, 12, 16, 17, 20, 21, 22, 23, 24, 25, 30, 31, 32, 33, 36, 37, 40, 47, 48, 49, 50, 51, 52, 53, 54, 55, 56, 60, 61, 64, 100, 105, 106, 107, 108, 109, 110, 111, 112, 120, 125, 126, 127, 128, 129, 130, 131, 132, 200, 201, 203] := by rw [hS3]; show S2.1 ++ [203] = _; rw [hL2]; rfl
  have hp3 : ∀ i ∈ S3.1, i ∉ [200] → S3.2 i = mb_c (mz_M s) i := by
    intro i hi he
    rw [hS3] at hi ⊢
    rcases List.mem_append.mp hi with hi | hi
    · exact (mj_nw_ne (fun (e : i = 203) => (show 203 ∉ S2.1 by rw [hL2]; decide) (e ▸ hi))).trans (hp2 i hi he)
    · rw [List.mem_singleton.mp hi]; exact mj_nw_eq.trans rfl
  refine ro_putF hK gM_13 f3 (by show 3 < 45; decide) (fun _ => rfl) (fun _ => rfl) dM_init_17 ?_
  obtain ⟨S4, hS4⟩ : ∃ T, T = mj_up S3 200 (.inr (5, [.int 0, .ref 201, .int 0, .ref 203, .null, .null, .null, .null, .int 0, .int 0, .int 0, .int 0, .null, .null, .null, .null, .null, .int 0, .int 0, .int 0, .int 0, .int 0, .int 0, .null, .int 0, .int 0, .null, .null, .null, .null, .null, .int 0, .null, .int 0, .null, .null, .null, .int 0, .int 0, .null, .null, .int 0, .int 0, .int 0, .long 0])) := ⟨_, rfl⟩
  show K _ _ 20 _ _ (mj_up S3 200 (.inr (5, [.int 0, .ref 201, .int 0, .ref 203, .null, .null, .null, .null, .int 0, .int 0, .int 0, .int 0, .null, .null, .null, .null, .null, .int 0, .int 0, .int 0, .int 0, .int 0, .int 0, .null, .int 0, .int 0, .null, .null, .null, .null, .null, .int 0, .null, .int 0, .null, .null, .null, .int 0, .int 0, .null, .null, .int 0, .int 0, .int 0, .long 0])))
  rw [← hS4]
  have f4 : S4.2 200 = .inr (5, [.int 0, .ref 201, .int 0, .ref 203, .null, .null, .null, .null, .int 0, .int 0, .int 0, .int 0, .null, .null, .null, .null, .null, .int 0, .int 0, .int 0, .int 0, .int 0, .int 0, .null, .int 0, .int 0, .null, .null, .null, .null, .null, .int 0, .null, .int 0, .null, .null, .null, .int 0, .int 0, .null, .null, .int 0, .int 0, .int 0, .long 0]) := by rw [hS4]; exact mj_up_eq
  have hL4 : S4.1 = [0, 1, 3, 6, 10, 11, 12, 16, 17, 20, 21, 22, 23, 24, 25, 30, 31, 32, 33, 36, 37, 40, 47, 48, 49, 50, 51, 52, 53, 54, 55, 56, 60, 61, 64, 100, 105, 106, 107, 108, 109, 110, 111, 112, 120, 125, 126, 127, 128, 129, 130, 131, 132, 200, 201, 203] := by rw [hS4]; exact hL3
  have hp4 : ∀ i ∈ S4.1, i ∉ [200] → S4.2 i = mb_c (mz_M s) i := by
    intro i hi he
    rw [hS4] at hi ⊢
    exact (mj_up_ne (fun e => he (by rw [e]; simp))).trans (hp3 i hi he)
  refine ro_aload_n hK dM_init_20 rfl ?_
  refine ro_sipush (x := 360) hK (by decide) dM_init_21 ?_
  refine ro_newI (i := 204) (N := 360) hK (by decide) (by decide) (by decide) (by rw [hL4]; decide) (by decide) ⟨by decide, by decide⟩ dM_init_24 ?_
  obtain ⟨S5, hS5⟩ : ∃ T, T = mj_nw S4 204 (.inl (0, 360, .inl (fun _ => 0))) := ⟨_, rfl⟩
  rw [← hS5]
  have f5 : S5.2 200 = .inr (5, [.int 0, .ref 201, .int 0, .ref 203, .null, .null, .null, .null, .int 0, .int 0, .int 0, .int 0, .null, .null, .null, .null, .null, .int 0, .int 0, .int 0, .int 0, .int 0, .int 0, .null, .int 0, .int 0, .null, .null, .null, .null, .null, .int 0, .null, .int 0, .null, .null, .null, .int 0, .int 0, .null, .null, .int 0, .int 0, .int 0, .long 0]) := by rw [hS5]; exact (mj_nw_ne (by decide)).trans f4
  have fa5 : S5.2 204 = (.inl (0, 360, .inl (fun _ => 0))) := by rw [hS5]; exact mj_nw_eq
  have hL5 : S5.1 = [0, 1, 3, 6, 10, 11, 12, 16, 17, 20, 21, 22, 23, 24, 25, 30, 31, 32, 33, 36, 37, 40, 47, 48, 49, 50, 51, 52, 53, 54, 55, 56, 60, 61, 64, 100, 105, 106, 107, 108, 109, 110, 111, 112, 120, 125, 126, 127, 128, 129, 130, 131, 132, 200, 201, 203, 204] := by rw [hS5]; show S4.1 ++ [204] = _; rw [hL4]; rfl
  have hp5 : ∀ i ∈ S5.1, i ∉ [200] → S5.2 i = mb_c (mz_M s) i := by
    intro i hi he
    rw [hS5] at hi ⊢
    rcases List.mem_append.mp hi with hi | hi
    · exact (mj_nw_ne (fun (e : i = 204) => (show 204 ∉ S4.1 by rw [hL4]; decide) (e ▸ hi))).trans (hp4 i hi he)
    · rw [List.mem_singleton.mp hi]; exact mj_nw_eq.trans rfl
  refine ro_putF hK gM_16 f5 (by show 4 < 45; decide) (fun _ => rfl) (fun _ => rfl) dM_init_26 ?_
  obtain ⟨S6, hS6⟩ : ∃ T, T = mj_up S5 200 (.inr (5, [.int 0, .ref 201, .int 0, .ref 203, .ref 204, .null, .null, .null, .int 0, .int 0, .int 0, .int 0, .null, .null, .null, .null, .null, .int 0, .int 0, .int 0, .int 0, .int 0, .int 0, .null, .int 0, .int 0, .null, .null, .null, .null, .null, .int 0, .null, .int 0, .null, .null, .null, .int 0, .int 0, .null, .null, .int 0, .int 0, .int 0, .long 0])) := ⟨_, rfl⟩
  show K _ _ 29 _ _ (mj_up S5 200 (.inr (5, [.int 0, .ref 201, .int 0, .ref 203, .ref 204, .null, .null, .null, .int 0, .int 0, .int 0, .int 0, .null, .null, .null, .null, .null, .int 0, .int 0, .int 0, .int 0, .int 0, .int 0, .null, .int 0, .int 0, .null, .null, .null, .null, .null, .int 0, .null, .int 0, .null, .null, .null, .int 0, .int 0, .null, .null, .int 0, .int 0, .int 0, .long 0])))
  rw [← hS6]
  have f6 : S6.2 200 = .inr (5, [.int 0, .ref 201, .int 0, .ref 203, .ref 204, .null, .null, .null, .int 0, .int 0, .int 0, .int 0, .null, .null, .null, .null, .null, .int 0, .int 0, .int 0, .int 0, .int 0, .int 0, .null, .int 0, .int 0, .null, .null, .null, .null, .null, .int 0, .null, .int 0, .null, .null, .null, .int 0, .int 0, .null, .null, .int 0, .int 0, .int 0, .long 0]) := by rw [hS6]; exact mj_up_eq
  have hL6 : S6.1 = [0, 1, 3, 6, 10, 11, 12, 16, 17, 20, 21, 22, 23, 24, 25, 30, 31, 32, 33, 36, 37, 40, 47, 48, 49, 50, 51, 52, 53, 54, 55, 56, 60, 61, 64, 100, 105, 106, 107, 108, 109, 110, 111, 112, 120, 125, 126, 127, 128, 129, 130, 131, 132, 200, 201, 203, 204] := by rw [hS6]; exact hL5
  have hp6 : ∀ i ∈ S6.1, i ∉ [200] → S6.2 i = mb_c (mz_M s) i := by
    intro i hi he
    rw [hS6] at hi ⊢
    exact (mj_up_ne (fun e => he (by rw [e]; simp))).trans (hp5 i hi he)
  refine ro_aload_n hK dM_init_29 rfl ?_
  refine ro_bipush (x := 60) hK (by decide) dM_init_30 ?_
  refine ro_newI (i := 205) (N := 60) hK (by decide) (by decide) (by decide) (by rw [hL6]; decide) (by decide) ⟨by decide, by decide⟩ dM_init_32 ?_
  obtain ⟨S7, hS7⟩ : ∃ T, T = mj_nw S6 205 (.inl (0, 60, .inl (fun _ => 0))) := ⟨_, rfl⟩
  rw [← hS7]
  have f7 : S7.2 200 = .inr (5, [.int 0, .ref 201, .int 0, .ref 203, .ref 204, .null, .null, .null, .int 0, .int 0, .int 0, .int 0, .null, .null, .null, .null, .null, .int 0, .int 0, .int 0, .int 0, .int 0, .int 0, .null, .int 0, .int 0, .null, .null, .null, .null, .null, .int 0, .null, .int 0, .null, .null, .null, .int 0, .int 0, .null, .null, .int 0, .int 0, .int 0, .long 0]) := by rw [hS7]; exact (mj_nw_ne (by decide)).trans f6
  have fa7 : S7.2 205 = (.inl (0, 60, .inl (fun _ => 0))) := by rw [hS7]; exact mj_nw_eq
  have hL7 : S7.1 = [0, 1, 3, 6, 10, 11, 12, 16, 17, 20, 21, 22, 23, 24, 25, 30, 31, 32, 33, 36, 37, 40, 47, 48, 49, 50, 51, 52, 53, 54, 55, 56, 60, 61, 64, 100, 105, 106, 107, 108, 109, 110, 111, 112, 120, 125, 126, 127, 128, 129, 130, 131, 132, 200, 201, 203, 204, 205] := by rw [hS7]; show S6.1 ++ [205] = _; rw [hL6]; rfl
  have hp7 : ∀ i ∈ S7.1, i ∉ [200] → S7.2 i = mb_c (mz_M s) i := by
    intro i hi he
    rw [hS7] at hi ⊢
    rcases List.mem_append.mp hi with hi | hi
    · exact (mj_nw_ne (fun (e : i = 205) => (show 205 ∉ S6.1 by rw [hL6]; decide) (e ▸ hi))).trans (hp6 i hi he)
    · rw [List.mem_singleton.mp hi]; exact mj_nw_eq.trans rfl
  refine ro_putF hK gM_19 f7 (by show 5 < 45; decide) (fun _ => rfl) (fun _ => rfl) dM_init_34 ?_
  obtain ⟨S8, hS8⟩ : ∃ T, T = mj_up S7 200 (.inr (5, [.int 0, .ref 201, .int 0, .ref 203, .ref 204, .ref 205, .null, .null, .int 0, .int 0, .int 0, .int 0, .null, .null, .null, .null, .null, .int 0, .int 0, .int 0, .int 0, .int 0, .int 0, .null, .int 0, .int 0, .null, .null, .null, .null, .null, .int 0, .null, .int 0, .null, .null, .null, .int 0, .int 0, .null, .null, .int 0, .int 0, .int 0, .long 0])) := ⟨_, rfl⟩
  show K _ _ 37 _ _ (mj_up S7 200 (.inr (5, [.int 0, .ref 201, .int 0, .ref 203, .ref 204, .ref 205, .null, .null, .int 0, .int 0, .int 0, .int 0, .null, .null, .null, .null, .null, .int 0, .int 0, .int 0, .int 0, .int 0, .int 0, .null, .int 0, .int 0, .null, .null, .null, .null, .null, .int 0, .null, .int 0, .null, .null, .null, .int 0, .int 0, .null, .null, .int 0, .int 0, .int 0, .long 0])))
  rw [← hS8]
  have f8 : S8.2 200 = .inr (5, [.int 0, .ref 201, .int 0, .ref 203, .ref 204, .ref 205, .null, .null, .int 0, .int 0, .int 0, .int 0, .null, .null, .null, .null, .null, .int 0, .int 0, .int 0, .int 0, .int 0, .int 0, .null, .int 0, .int 0, .null, .null, .null, .null, .null, .int 0, .null, .int 0, .null, .null, .null, .int 0, .int 0, .null, .null, .int 0, .int 0, .int 0, .long 0]) := by rw [hS8]; exact mj_up_eq
  have hL8 : S8.1 = [0, 1, 3, 6, 10, 11, 12, 16, 17, 20, 21, 22, 23, 24, 25, 30, 31, 32, 33, 36, 37, 40, 47, 48, 49, 50, 51, 52, 53, 54, 55, 56, 60, 61, 64, 100, 105, 106, 107, 108, 109, 110, 111, 112, 120, 125, 126, 127, 128, 129, 130, 131, 132, 200, 201, 203, 204, 205] := by rw [hS8]; exact hL7
  have hp8 : ∀ i ∈ S8.1, i ∉ [200] → S8.2 i = mb_c (mz_M s) i := by
    intro i hi he
    rw [hS8] at hi ⊢
    exact (mj_up_ne (fun e => he (by rw [e]; simp))).trans (hp7 i hi he)
  refine ro_aload_n hK dM_init_37 rfl ?_
  refine ro_iconst (x := 4) hK (by decide) dM_init_38 ?_
  refine ro_newI (i := 206) (N := 4) hK (by decide) (by decide) (by decide) (by rw [hL8]; decide) (by decide) ⟨by decide, by decide⟩ dM_init_39 ?_
  obtain ⟨S9, hS9⟩ : ∃ T, T = mj_nw S8 206 (.inl (0, 4, .inl (fun _ => 0))) := ⟨_, rfl⟩
  rw [← hS9]
  have f9 : S9.2 200 = .inr (5, [.int 0, .ref 201, .int 0, .ref 203, .ref 204, .ref 205, .null, .null, .int 0, .int 0, .int 0, .int 0, .null, .null, .null, .null, .null, .int 0, .int 0, .int 0, .int 0, .int 0, .int 0, .null, .int 0, .int 0, .null, .null, .null, .null, .null, .int 0, .null, .int 0, .null, .null, .null, .int 0, .int 0, .null, .null, .int 0, .int 0, .int 0, .long 0]) := by rw [hS9]; exact (mj_nw_ne (by decide)).trans f8
  have fa9 : S9.2 206 = (.inl (0, 4, .inl (fun _ => 0))) := by rw [hS9]; exact mj_nw_eq
  have hL9 : S9.1 = [0, 1, 3, 6, 10, 11, 12, 16, 17, 20, 21, 22, 23, 24, 25, 30, 31, 32, 33, 36, 37, 40, 47, 48, 49, 50, 51, 52, 53, 54, 55, 56, 60, 61, 64, 100, 105, 106, 107, 108, 109, 110, 111, 112, 120, 125, 126, 127, 128, 129, 130, 131, 132, 200, 201, 203, 204, 205, 206] := by rw [hS9]; show S8.1 ++ [206] = _; rw [hL8]; rfl
  have hp9 : ∀ i ∈ S9.1, i ∉ [200] → S9.2 i = mb_c (mz_M s) i := by
    intro i hi he
    rw [hS9] at hi ⊢
    rcases List.mem_append.mp hi with hi | hi
    · exact (mj_nw_ne (fun (e : i = 206) => (show 206 ∉ S8.1 by rw [hL8]; decide) (e ▸ hi))).trans (hp8 i hi he)
    · rw [List.mem_singleton.mp hi]; exact mj_nw_eq.trans rfl
  refine ro_putF hK gM_22 f9 (by show 6 < 45; decide) (fun _ => rfl) (fun _ => rfl) dM_init_41 ?_
  obtain ⟨S10, hS10⟩ : ∃ T, T = mj_up S9 200 (.inr (5, [.int 0, .ref 201, .int 0, .ref 203, .ref 204, .ref 205, .ref 206, .null, .int 0, .int 0, .int 0, .int 0, .null, .null, .null, .null, .null, .int 0, .int 0, .int 0, .int 0, .int 0, .int 0, .null, .int 0, .int 0, .null, .null, .null, .null, .null, .int 0, .null, .int 0, .null, .null, .null, .int 0, .int 0, .null, .null, .int 0, .int 0, .int 0, .long 0])) := ⟨_, rfl⟩
  show K _ _ 44 _ _ (mj_up S9 200 (.inr (5, [.int 0, .ref 201, .int 0, .ref 203, .ref 204, .ref 205, .ref 206, .null, .int 0, .int 0, .int 0, .int 0, .null, .null, .null, .null, .null, .int 0, .int 0, .int 0, .int 0, .int 0, .int 0, .null, .int 0, .int 0, .null, .null, .null, .null, .null, .int 0, .null, .int 0, .null, .null, .null, .int 0, .int 0, .null, .null, .int 0, .int 0, .int 0, .long 0])))
  rw [← hS10]
  have f10 : S10.2 200 = .inr (5, [.int 0, .ref 201, .int 0, .ref 203, .ref 204, .ref 205, .ref 206, .null, .int 0, .int 0, .int 0, .int 0, .null, .null, .null, .null, .null, .int 0, .int 0, .int 0, .int 0, .int 0, .int 0, .null, .int 0, .int 0, .null, .null, .null, .null, .null, .int 0, .null, .int 0, .null, .null, .null, .int 0, .int 0, .null, .null, .int 0, .int 0, .int 0, .long 0]) := by rw [hS10]; exact mj_up_eq
  have hL10 : S10.1 = [0, 1, 3, 6, 10, 11, 12, 16, 17, 20, 21, 22, 23, 24, 25, 30, 31, 32, 33, 36, 37, 40, 47, 48, 49, 50, 51, 52, 53, 54, 55, 56, 60, 61, 64, 100, 105, 106, 107, 108, 109, 110, 111, 112, 120, 125, 126, 127, 128, 129, 130, 131, 132, 200, 201, 203, 204, 205, 206] := by rw [hS10]; exact hL9
  have hp10 : ∀ i ∈ S10.1, i ∉ [200] → S10.2 i = mb_c (mz_M s) i := by
    intro i hi he
    rw [hS10] at hi ⊢
    exact (mj_up_ne (fun e => he (by rw [e]; simp))).trans (hp9 i hi he)
  refine ro_aload_n hK dM_init_44 rfl ?_
  refine ro_sipush (x := 320) hK (by decide) dM_init_45 ?_
  refine ro_newI (i := 207) (N := 320) hK (by decide) (by decide) (by decide) (by rw [hL10]; decide) (by decide) ⟨by decide, by decide⟩ dM_init_48 ?_
  obtain ⟨S11, hS11⟩ : ∃ T, T = mj_nw S10 207 (.inl (0, 320, .inl (fun _ => 0))) := ⟨_, rfl⟩
  rw [← hS11]
  have f11 : S11.2 200 = .inr (5, [.int 0, .ref 201, .int 0, .ref 203, .ref 204, .ref 205, .ref 206, .null, .int 0, .int 0, .int 0, .int 0, .null, .null, .null, .null, .null, .int 0, .int 0, .int 0, .int 0, .int 0, .int 0, .null, .int 0, .int 0, .null, .null, .null, .null, .null, .int 0, .null, .int 0, .null, .null, .null, .int 0, .int 0, .null, .null, .int 0, .int 0, .int 0, .long 0]) := by rw [hS11]; exact (mj_nw_ne (by decide)).trans f10
  have fa11 : S11.2 207 = (.inl (0, 320, .inl (fun _ => 0))) := by rw [hS11]; exact mj_nw_eq
  have hL11 : S11.1 = [0, 1, 3, 6, 10, 11, 12, 16, 17, 20, 21, 22, 23, 24, 25, 30, 31, 32, 33, 36, 37, 40, 47, 48, 49, 50, 51, 52, 53, 54, 55, 56, 60, 61, 64, 100, 105, 106, 107, 108, 109, 110, 111, 112, 120, 125, 126, 127, 128, 129, 130, 131, 132, 200, 201, 203, 204, 205, 206, 207] := by rw [hS11]; show S10.1 ++ [207] = _; rw [hL10]; rfl
  have hp11 : ∀ i ∈ S11.1, i ∉ [200] → S11.2 i = mb_c (mz_M s) i := by
    intro i hi he
    rw [hS11] at hi ⊢
    rcases List.mem_append.mp hi with hi | hi
    · exact (mj_nw_ne (fun (e : i = 207) => (show 207 ∉ S10.1 by rw [hL10]; decide) (e ▸ hi))).trans (hp10 i hi he)
    · rw [List.mem_singleton.mp hi]; exact mj_nw_eq.trans rfl
  refine ro_putF hK gM_25 f11 (by show 7 < 45; decide) (fun _ => rfl) (fun _ => rfl) dM_init_50 ?_
  obtain ⟨S12, hS12⟩ : ∃ T, T = mj_up S11 200 (.inr (5, [.int 0, .ref 201, .int 0, .ref 203, .ref 204, .ref 205, .ref 206, .ref 207, .int 0, .int 0, .int 0, .int 0, .null, .null, .null, .null, .null, .int 0, .int 0, .int 0, .int 0, .int 0, .int 0, .null, .int 0, .int 0, .null, .null, .null, .null, .null, .int 0, .null, .int 0, .null, .null, .null, .int 0, .int 0, .null, .null, .int 0, .int 0, .int 0, .long 0])) := ⟨_, rfl⟩
  show K _ _ 53 _ _ (mj_up S11 200 (.inr (5, [.int 0, .ref 201, .int 0, .ref 203, .ref 204, .ref 205, .ref 206, .ref 207, .int 0, .int 0, .int 0, .int 0, .null, .null, .null, .null, .null, .int 0, .int 0, .int 0, .int 0, .int 0, .int 0, .null, .int 0, .int 0, .null, .null, .null, .null, .null, .int 0, .null, .int 0, .null, .null, .null, .int 0, .int 0, .null, .null, .int 0, .int 0, .int 0, .long 0])))
  rw [← hS12]
  have f12 : S12.2 200 = .inr (5, [.int 0, .ref 201, .int 0, .ref 203, .ref 204, .ref 205, .ref 206, .ref 207, .int 0, .int 0, .int 0, .int 0, .null, .null, .null, .null, .null, .int 0, .int 0, .int 0, .int 0, .int 0, .int 0, .null, .int 0, .int 0, .null, .null, .null, .null, .null, .int 0, .null, .int 0, .null, .null, .null, .int 0, .int 0, .null, .null, .int 0, .int 0, .int 0, .long 0]) := by rw [hS12]; exact mj_up_eq
  have hL12 : S12.1 = [0, 1, 3, 6, 10, 11, 12, 16, 17, 20, 21, 22, 23, 24, 25, 30, 31, 32, 33, 36, 37, 40, 47, 48, 49, 50, 51, 52, 53, 54, 55, 56, 60, 61, 64, 100, 105, 106, 107, 108, 109, 110, 111, 112, 120, 125, 126, 127, 128, 129, 130, 131, 132, 200, 201, 203, 204, 205, 206, 207] := by rw [hS12]; exact hL11
  have hp12 : ∀ i ∈ S12.1, i ∉ [200] → S12.2 i = mb_c (mz_M s) i := by
    intro i hi he
    rw [hS12] at hi ⊢
    exact (mj_up_ne (fun e => he (by rw [e]; simp))).trans (hp11 i hi he)
  refine ro_aload_n hK dM_init_53 rfl ?_
  refine ro_bipush (x := 10) hK (by decide) dM_init_54 ?_
  refine ro_newI (i := 212) (N := 10) hK (by decide) (by decide) (by decide) (by rw [hL12]; decide) (by decide) ⟨by decide, by decide⟩ dM_init_56 ?_
  obtain ⟨S13, hS13⟩ : ∃ T, T = mj_nw S12 212 (.inl (0, 10, .inl (fun _ => 0))) := ⟨_, rfl⟩
  rw [← hS13]
  have f13 : S13.2 200 = .inr (5, [.int 0, .ref 201, .int 0, .ref 203, .ref 204, .ref 205, .ref 206, .ref 207, .int 0, .int 0, .int 0, .int 0, .null, .null, .null, .null, .null, .int 0, .int 0, .int 0, .int 0, .int 0, .int 0, .null, .int 0, .int 0, .null, .null, .null, .null, .null, .int 0, .null, .int 0, .null, .null, .null, .int 0, .int 0, .null, .null, .int 0, .int 0, .int 0, .long 0]) := by rw [hS13]; exact (mj_nw_ne (by decide)).trans f12
  have fa13 : S13.2 212 = (.inl (0, 10, .inl (fun _ => 0))) := by rw [hS13]; exact mj_nw_eq
  have hL13 : S13.1 = [0, 1, 3, 6, 10, 11, 12, 16, 17, 20, 21, 22, 23, 24, 25, 30, 31, 32, 33, 36, 37, 40, 47, 48, 49, 50, 51, 52, 53, 54, 55, 56, 60, 61, 64, 100, 105, 106, 107, 108, 109, 110, 111, 112, 120, 125, 126, 127, 128, 129, 130, 131, 132, 200, 201, 203, 204, 205, 206, 207, 212] := by rw [hS13]; show S12.1 ++ [212] = _; rw [hL12]; rfl
  have hp13 : ∀ i ∈ S13.1, i ∉ [200] → S13.2 i = mb_c (mz_M s) i := by
    intro i hi he
    rw [hS13] at hi ⊢
    rcases List.mem_append.mp hi with hi | hi
    · exact (mj_nw_ne (fun (e : i = 212) => (show 212 ∉ S12.1 by rw [hL12]; decide) (e ▸ hi))).trans (hp12 i hi he)
    · rw [List.mem_singleton.mp hi]; exact mj_nw_eq.trans rfl
  refine ro_putF hK gM_28 f13 (by show 12 < 45; decide) (fun _ => rfl) (fun _ => rfl) dM_init_58 ?_
  obtain ⟨S14, hS14⟩ : ∃ T, T = mj_up S13 200 (.inr (5, [.int 0, .ref 201, .int 0, .ref 203, .ref 204, .ref 205, .ref 206, .ref 207, .int 0, .int 0, .int 0, .int 0, .ref 212, .null, .null, .null, .null, .int 0, .int 0, .int 0, .int 0, .int 0, .int 0, .null, .int 0, .int 0, .null, .null, .null, .null, .null, .int 0, .null, .int 0, .null, .null, .null, .int 0, .int 0, .null, .null, .int 0, .int 0, .int 0, .long 0])) := ⟨_, rfl⟩
  show K _ _ 61 _ _ (mj_up S13 200 (.inr (5, [.int 0, .ref 201, .int 0, .ref 203, .ref 204, .ref 205, .ref 206, .ref 207, .int 0, .int 0, .int 0, .int 0, .ref 212, .null, .null, .null, .null, .int 0, .int 0, .int 0, .int 0, .int 0, .int 0, .null, .int 0, .int 0, .null, .null, .null, .null, .null, .int 0, .null, .int 0, .null, .null, .null, .int 0, .int 0, .null, .null, .int 0, .int 0, .int 0, .long 0])))
  rw [← hS14]
  have f14 : S14.2 200 = .inr (5, [.int 0, .ref 201, .int 0, .ref 203, .ref 204, .ref 205, .ref 206, .ref 207, .int 0, .int 0, .int 0, .int 0, .ref 212, .null, .null, .null, .null, .int 0, .int 0, .int 0, .int 0, .int 0, .int 0, .null, .int 0, .int 0, .null, .null, .null, .null, .null, .int 0, .null, .int 0, .null, .null, .null, .int 0, .int 0, .null, .null, .int 0, .int 0, .int 0, .long 0]) := by rw [hS14]; exact mj_up_eq
  have hL14 : S14.1 = [0, 1, 3, 6, 10, 11, 12, 16, 17, 20, 21, 22, 23, 24, 25, 30, 31, 32, 33, 36, 37, 40, 47, 48, 49, 50, 51, 52, 53, 54, 55, 56, 60, 61, 64, 100, 105, 106, 107, 108, 109, 110, 111, 112, 120, 125, 126, 127, 128, 129, 130, 131, 132, 200, 201, 203, 204, 205, 206, 207, 212] := by rw [hS14]; exact hL13
  have hp14 : ∀ i ∈ S14.1, i ∉ [200] → S14.2 i = mb_c (mz_M s) i := by
    intro i hi he
    rw [hS14] at hi ⊢
    exact (mj_up_ne (fun e => he (by rw [e]; simp))).trans (hp13 i hi he)
  refine ro_aload_n hK dM_init_61 rfl ?_
  refine ro_bipush (x := 10) hK (by decide) dM_init_62 ?_
  refine ro_newI (i := 213) (N := 10) hK (by decide) (by decide) (by decide) (by rw [hL14]; decide) (by decide) ⟨by decide, by decide⟩ dM_init_64 ?_
  obtain ⟨S15, hS15⟩ : ∃ T, T = mj_nw S14 213 (.inl (0, 10, .inl (fun _ => 0))) := ⟨_, rfl⟩
  rw [← hS15]
  have f15 : S15.2 200 = .inr (5, [.int 0, .ref 201, .int 0, .ref 203, .ref 204, .ref 205, .ref 206, .ref 207, .int 0, .int 0, .int 0, .int 0, .ref 212, .null, .null, .null, .null, .int 0, .int 0, .int 0, .int 0, .int 0, .int 0, .null, .int 0, .int 0, .null, .null, .null, .null, .null, .int 0, .null, .int 0, .null, .null, .null, .int 0, .int 0, .null, .null, .int 0, .int 0, .int 0, .long 0]) := by rw [hS15]; exact (mj_nw_ne (by decide)).trans f14
  have fa15 : S15.2 213 = (.inl (0, 10, .inl (fun _ => 0))) := by rw [hS15]; exact mj_nw_eq
  have hL15 : S15.1 = [0, 1, 3, 6, 10, 11, 12, 16, 17, 20, 21, 22, 23, 24, 25, 30, 31, 32, 33, 36, 37, 40, 47, 48, 49, 50, 51, 52, 53, 54, 55, 56, 60, 61, 64, 100, 105, 106, 107, 108, 109, 110, 111, 112, 120, 125, 126, 127, 128, 129, 130, 131, 132, 200, 201, 203, 204, 205, 206, 207, 212, 213] := by rw [hS15]; show S14.1 ++ [213] = _; rw [hL14]; rfl
  have hp15 : ∀ i ∈ S15.1, i ∉ [200] → S15.2 i = mb_c (mz_M s) i := by
    intro i hi he
    rw [hS15] at hi ⊢
    rcases List.mem_append.mp hi with hi | hi
    · exact (mj_nw_ne (fun (e : i = 213) => (show 213 ∉ S14.1 by rw [hL14]; decide) (e ▸ hi))).trans (hp14 i hi he)
    · rw [List.mem_singleton.mp hi]; exact mj_nw_eq.trans rfl
  refine ro_putF hK gM_31 f15 (by show 13 < 45; decide) (fun _ => rfl) (fun _ => rfl) dM_init_66 ?_
  obtain ⟨S16, hS16⟩ : ∃ T, T = mj_up S15 200 (.inr (5, [.int 0, .ref 201, .int 0, .ref 203, .ref 204, .ref 205, .ref 206, .ref 207, .int 0, .int 0, .int 0, .int 0, .ref 212, .ref 213, .null, .null, .null, .int 0, .int 0, .int 0, .int 0, .int 0, .int 0, .null, .int 0, .int 0, .null, .null, .null, .null, .null, .int 0, .null, .int 0, .null, .null, .null, .int 0, .int 0, .null, .null, .int 0, .int 0, .int 0, .long 0])) := ⟨_, rfl⟩
  show K _ _ 69 _ _ (mj_up S15 200 (.inr (5, [.int 0, .ref 201, .int 0, .ref 203, .ref 204, .ref 205, .ref 206, .ref 207, .int 0, .int 0, .int 0, .int 0, .ref 212, .ref 213, .null, .null, .null, .int 0, .int 0, .int 0, .int 0, .int 0, .int 0, .null, .int 0, .int 0, .null, .null, .null, .null, .null, .int 0, .null, .int 0, .null, .null, .null, .int 0, .int 0, .null, .null, .int 0, .int 0, .int 0, .long 0])))
  rw [← hS16]
  have f16 : S16.2 200 = .inr (5, [.int 0, .ref 201, .int 0, .ref 203, .ref 204, .ref 205, .ref 206, .ref 207, .int 0, .int 0, .int 0, .int 0, .ref 212, .ref 213, .null, .null, .null, .int 0, .int 0, .int 0, .int 0, .int 0, .int 0, .null, .int 0, .int 0, .null, .null, .null, .null, .null, .int 0, .null, .int 0, .null, .null, .null, .int 0, .int 0, .null, .null, .int 0, .int 0, .int 0, .long 0]) := by rw [hS16]; exact mj_up_eq
  have hL16 : S16.1 = [0, 1, 3, 6, 10, 11, 12, 16, 17, 20, 21, 22, 23, 24, 25, 30, 31, 32, 33, 36, 37, 40, 47, 48, 49, 50, 51, 52, 53, 54, 55, 56, 60, 61, 64, 100, 105, 106, 107, 108, 109, 110, 111, 112, 120, 125, 126, 127, 128, 129, 130, 131, 132, 200, 201, 203, 204, 205, 206, 207, 212, 213] := by rw [hS16]; exact hL15
  have hp16 : ∀ i ∈ S16.1, i ∉ [200] → S16.2 i = mb_c (mz_M s) i := by
    intro i hi he
    rw [hS16] at hi ⊢
    exact (mj_up_ne (fun e => he (by rw [e]; simp))).trans (hp15 i hi he)
  refine ro_aload_n hK dM_init_69 rfl ?_
  refine ro_bipush (x := 10) hK (by decide) dM_init_70 ?_
  refine ro_newI (i := 214) (N := 10) hK (by decide) (by decide) (by decide) (by rw [hL16]; decide) (by decide) ⟨by decide, by decide⟩ dM_init_72 ?_
  obtain ⟨S17, hS17⟩ : ∃ T, T = mj_nw S16 214 (.inl (0, 10, .inl (fun _ => 0))) := ⟨_, rfl⟩
  rw [← hS17]
  have f17 : S17.2 200 = .inr (5, [.int 0, .ref 201, .int 0, .ref 203, .ref 204, .ref 205, .ref 206, .ref 207, .int 0, .int 0, .int 0, .int 0, .ref 212, .ref 213, .null, .null, .null, .int 0, .int 0, .int 0, .int 0, .int 0, .int 0, .null, .int 0, .int 0, .null, .null, .null, .null, .null, .int 0, .null, .int 0, .null, .null, .null, .int 0, .int 0, .null, .null, .int 0, .int 0, .int 0, .long 0]) := by rw [hS17]; exact (mj_nw_ne (by decide)).trans f16
  have fa17 : S17.2 214 = (.inl (0, 10, .inl (fun _ => 0))) := by rw [hS17]; exact mj_nw_eq
  have hL17 : S17.1 = [0, 1, 3, 6, 10, 11, 12, 16, 17, 20, 21, 22, 23, 24, 25, 30, 31, 32, 33, 36, 37, 40, 47, 48, 49, 50, 51, 52, 53, 54, 55, 56, 60, 61, 64, 100, 105, 106, 107, 108, 109, 110, 111, 112, 120, 125, 126, 127, 128, 129, 130, 131, 132, 200, 201, 203, 204, 205, 206, 207, 212, 213, 214] := by rw [hS17]; show S16.1 ++ [214] = _; rw [hL16]; rfl
  have hp17 : ∀ i ∈ S17.1, i ∉ [200] → S17.2 i = mb_c (mz_M s) i := by
    intro i hi he
    rw [hS17] at hi ⊢
    rcases List.mem_append.mp hi with hi | hi
    · exact (mj_nw_ne (fun (e : i = 214) => (show 214 ∉ S16.1 by rw [hL16]; decide) (e ▸ hi))).trans (hp16 i hi he)
    · rw [List.mem_singleton.mp hi]; exact mj_nw_eq.trans rfl
  refine ro_putF hK gM_34 f17 (by show 14 < 45; decide) (fun _ => rfl) (fun _ => rfl) dM_init_74 ?_
  obtain ⟨S18, hS18⟩ : ∃ T, T = mj_up S17 200 (.inr (5, [.int 0, .ref 201, .int 0, .ref 203, .ref 204, .ref 205, .ref 206, .ref 207, .int 0, .int 0, .int 0, .int 0, .ref 212, .ref 213, .ref 214, .null, .null, .int 0, .int 0, .int 0, .int 0, .int 0, .int 0, .null, .int 0, .int 0, .null, .null, .null, .null, .null, .int 0, .null, .int 0, .null, .null, .null, .int 0, .int 0, .null, .null, .int 0, .int 0, .int 0, .long 0])) := ⟨_, rfl⟩
  show K _ _ 77 _ _ (mj_up S17 200 (.inr (5, [.int 0, .ref 201, .int 0, .ref 203, .ref 204, .ref 205, .ref 206, .ref 207, .int 0, .int 0, .int 0, .int 0, .ref 212, .ref 213, .ref 214, .null, .null, .int 0, .int 0, .int 0, .int 0, .int 0, .int 0, .null, .int 0, .int 0, .null, .null, .null, .null, .null, .int 0, .null, .int 0, .null, .null, .null, .int 0, .int 0, .null, .null, .int 0, .int 0, .int 0, .long 0])))
  rw [← hS18]
  have f18 : S18.2 200 = .inr (5, [.int 0, .ref 201, .int 0, .ref 203, .ref 204, .ref 205, .ref 206, .ref 207, .int 0, .int 0, .int 0, .int 0, .ref 212, .ref 213, .ref 214, .null, .null, .int 0, .int 0, .int 0, .int 0, .int 0, .int 0, .null, .int 0, .int 0, .null, .null, .null, .null, .null, .int 0, .null, .int 0, .null, .null, .null, .int 0, .int 0, .null, .null, .int 0, .int 0, .int 0, .long 0]) := by rw [hS18]; exact mj_up_eq
  have hL18 : S18.1 = [0, 1, 3, 6, 10, 11, 12, 16, 17, 20, 21, 22, 23, 24, 25, 30, 31, 32, 33, 36, 37, 40, 47, 48, 49, 50, 51, 52, 53, 54, 55, 56, 60, 61, 64, 100, 105, 106, 107, 108, 109, 110, 111, 112, 120, 125, 126, 127, 128, 129, 130, 131, 132, 200, 201, 203, 204, 205, 206, 207, 212, 213, 214] := by rw [hS18]; exact hL17
  have hp18 : ∀ i ∈ S18.1, i ∉ [200] → S18.2 i = mb_c (mz_M s) i := by
    intro i hi he
    rw [hS18] at hi ⊢
    exact (mj_up_ne (fun e => he (by rw [e]; simp))).trans (hp17 i hi he)
  refine ro_aload_n hK dM_init_77 rfl ?_
  refine ro_bipush (x := 10) hK (by decide) dM_init_78 ?_
  refine ro_newI (i := 215) (N := 10) hK (by decide) (by decide) (by decide) (by rw [hL18]; decide) (by decide) ⟨by decide, by decide⟩ dM_init_80 ?_
  obtain ⟨S19, hS19⟩ : ∃ T, T = mj_nw S18 215 (.inl (0, 10, .inl (fun _ => 0))) := ⟨_, rfl⟩
  rw [← hS19]
  have f19 : S19.2 200 = .inr (5, [.int 0, .ref 201, .int 0, .ref 203, .ref 204, .ref 205, .ref 206, .ref 207, .int 0, .int 0, .int 0, .int 0, .ref 212, .ref 213, .ref 214, .null, .null, .int 0, .int 0, .int 0, .int 0, .int 0, .int 0, .null, .int 0, .int 0, .null, .null, .null, .null, .null, .int 0, .null, .int 0, .null, .null, .null, .int 0, .int 0, .null, .null, .int 0, .int 0, .int 0, .long 0]) := by rw [hS19]; exact (mj_nw_ne (by decide)).trans f18
  have fa19 : S19.2 215 = (.inl (0, 10, .inl (fun _ => 0))) := by rw [hS19]; exact mj_nw_eq
  have hL19 : S19.1 = [0, 1, 3, 6, 10, 11, 12, 16, 17, 20, 21, 22, 23, 24, 25, 30, 31, 32, 33, 36, 37, 40, 47, 48, 49, 50, 51, 52, 53, 54, 55, 56, 60, 61, 64, 100, 105, 106, 107, 108, 109, 110, 111, 112, 120, 125, 126, 127, 128, 129, 130, 131, 132, 200, 201, 203, 204, 205, 206, 207, 212, 213, 214, 215] := by rw [hS19]; show S18.1 ++ [215] = _; rw [hL18]; rfl
  have hp19 : ∀ i ∈ S19.1, i ∉ [200] → S19.2 i = mb_c (mz_M s) i := by
    intro i hi he
    rw [hS19] at hi ⊢
    rcases List.mem_append.mp hi with hi | hi
    · exact (mj_nw_ne (fun (e : i = 215) => (show 215 ∉ S18.1 by rw [hL18]; decide) (e ▸ hi))).trans (hp18 i hi he)
    · rw [List.mem_singleton.mp hi]; exact mj_nw_eq.trans rfl
  refine ro_putF hK gM_37 f19 (by show 15 < 45; decide) (fun _ => rfl) (fun _ => rfl) dM_init_82 ?_
  obtain ⟨S20, hS20⟩ : ∃ T, T = mj_up S19 200 (.inr (5, [.int 0, .ref 201, .int 0, .ref 203, .ref 204, .ref 205, .ref 206, .ref 207, .int 0, .int 0, .int 0, .int 0, .ref 212, .ref 213, .ref 214, .ref 215, .null, .int 0, .int 0, .int 0, .int 0, .int 0, .int 0, .null, .int 0, .int 0, .null, .null, .null, .null, .null, .int 0, .null, .int 0, .null, .null, .null, .int 0, .int 0, .null, .null, .int 0, .int 0, .int 0, .long 0])) := ⟨_, rfl⟩
  show K _ _ 85 _ _ (mj_up S19 200 (.inr (5, [.int 0, .ref 201, .int 0, .ref 203, .ref 204, .ref 205, .ref 206, .ref 207, .int 0, .int 0, .int 0, .int 0, .ref 212, .ref 213, .ref 214, .ref 215, .null, .int 0, .int 0, .int 0, .int 0, .int 0, .int 0, .null, .int 0, .int 0, .null, .null, .null, .null, .null, .int 0, .null, .int 0, .null, .null, .null, .int 0, .int 0, .null, .null, .int 0, .int 0, .int 0, .long 0])))
  rw [← hS20]
  have f20 : S20.2 200 = .inr (5, [.int 0, .ref 201, .int 0, .ref 203, .ref 204, .ref 205, .ref 206, .ref 207, .int 0, .int 0, .int 0, .int 0, .ref 212, .ref 213, .ref 214, .ref 215, .null, .int 0, .int 0, .int 0, .int 0, .int 0, .int 0, .null, .int 0, .int 0, .null, .null, .null, .null, .null, .int 0, .null, .int 0, .null, .null, .null, .int 0, .int 0, .null, .null, .int 0, .int 0, .int 0, .long 0]) := by rw [hS20]; exact mj_up_eq
  have hL20 : S20.1 = [0, 1, 3, 6, 10, 11, 12, 16, 17, 20, 21, 22, 23, 24, 25, 30, 31, 32, 33, 36, 37, 40, 47, 48, 49, 50, 51, 52, 53, 54, 55, 56, 60, 61, 64, 100, 105, 106, 107, 108, 109, 110, 111, 112, 120, 125, 126, 127, 128, 129, 130, 131, 132, 200, 201, 203, 204, 205, 206, 207, 212, 213, 214, 215] := by rw [hS20]; exact hL19
  have hp20 : ∀ i ∈ S20.1, i ∉ [200] → S20.2 i = mb_c (mz_M s) i := by
    intro i hi he
    rw [hS20] at hi ⊢
    exact (mj_up_ne (fun e => he (by rw [e]; simp))).trans (hp19 i hi he)
  refine ro_aload_n hK dM_init_85 rfl ?_
  refine ro_bipush (x := 10) hK (by decide) dM_init_86 ?_
  refine ro_newI (i := 216) (N := 10) hK (by decide) (by decide) (by decide) (by rw [hL20]; decide) (by decide) ⟨by decide, by decide⟩ dM_init_88 ?_
  obtain ⟨S21, hS21⟩ : ∃ T, T = mj_nw S20 216 (.inl (0, 10, .inl (fun _ => 0))) := ⟨_, rfl⟩
  rw [← hS21]
  have f21 : S21.2 200 = .inr (5, [.int 0, .ref 201, .int 0, .ref 203, .ref 204, .ref 205, .ref 206, .ref 207, .int 0, .int 0, .int 0, .int 0, .ref 212, .ref 213, .ref 214, .ref 215, .null, .int 0, .int 0, .int 0, .int 0, .int 0, .int 0, .null, .int 0, .int 0, .null, .null, .null, .null, .null, .int 0, .null, .int 0, .null, .null, .null, .int 0, .int 0, .null, .null, .int 0, .int 0, .int 0, .long 0]) := by rw [hS21]; exact (mj_nw_ne (by decide)).trans f20
  have fa21 : S21.2 216 = (.inl (0, 10, .inl (fun _ => 0))) := by rw [hS21]; exact mj_nw_eq
  have hL21 : S21.1 = [0, 1, 3, 6, 10, 11, 12, 16, 17, 20, 21, 22, 23, 24, 25, 30, 31, 32, 33, 36, 37, 40, 47, 48, 49, 50, 51, 52, 53, 54, 55, 56, 60, 61, 64, 100, 105, 106, 107, 108, 109, 110, 111, 112, 120, 125, 126, 127, 128, 129, 130, 131, 132, 200, 201, 203, 204, 205, 206, 207, 212, 213, 214, 215, 216] := by rw [hS21]; show S20.1 ++ [216] = _; rw [hL20]; rfl
  have hp21 : ∀ i ∈ S21.1, i ∉ [200] → S21.2 i = mb_c (mz_M s) i := by
    intro i hi he
    rw [hS21] at hi ⊢
    rcases List.mem_append.mp hi with hi | hi
    · exact (mj_nw_ne (fun (e : i = 216) => (show 216 ∉ S20.1 by rw [hL20]; decide) (e ▸ hi))).trans (hp20 i hi he)
    · rw [List.mem_singleton.mp hi]; exact mj_nw_eq.trans rfl
  refine ro_putF hK gM_40 f21 (by show 16 < 45; decide) (fun _ => rfl) (fun _ => rfl) dM_init_90 ?_
  obtain ⟨S22, hS22⟩ : ∃ T, T = mj_up S21 200 (.inr (5, [.int 0, .ref 201, .int 0, .ref 203, .ref 204, .ref 205, .ref 206, .ref 207, .int 0, .int 0, .int 0, .int 0, .ref 212, .ref 213, .ref 214, .ref 215, .ref 216, .int 0, .int 0, .int 0, .int 0, .int 0, .int 0, .null, .int 0, .int 0, .null, .null, .null, .null, .null, .int 0, .null, .int 0, .null, .null, .null, .int 0, .int 0, .null, .null, .int 0, .int 0, .int 0, .long 0])) := ⟨_, rfl⟩
  show K _ _ 93 _ _ (mj_up S21 200 (.inr (5, [.int 0, .ref 201, .int 0, .ref 203, .ref 204, .ref 205, .ref 206, .ref 207, .int 0, .int 0, .int 0, .int 0, .ref 212, .ref 213, .ref 214, .ref 215, .ref 216, .int 0, .int 0, .int 0, .int 0, .int 0, .int 0, .null, .int 0, .int 0, .null, .null, .null, .null, .null, .int 0, .null, .int 0, .null, .null, .null, .int 0, .int 0, .null, .null, .int 0, .int 0, .int 0, .long 0])))
  rw [← hS22]
  have f22 : S22.2 200 = .inr (5, [.int 0, .ref 201, .int 0, .ref 203, .ref 204, .ref 205, .ref 206, .ref 207, .int 0, .int 0, .int 0, .int 0, .ref 212, .ref 213, .ref 214, .ref 215, .ref 216, .int 0, .int 0, .int 0, .int 0, .int 0, .int 0, .null, .int 0, .int 0, .null, .null, .null, .null, .null, .int 0, .null, .int 0, .null, .null, .null, .int 0, .int 0, .null, .null, .int 0, .int 0, .int 0, .long 0]) := by rw [hS22]; exact mj_up_eq
  have hL22 : S22.1 = [0, 1, 3, 6, 10, 11, 12, 16, 17, 20, 21, 22, 23, 24, 25, 30, 31, 32, 33, 36, 37, 40, 47, 48, 49, 50, 51, 52, 53, 54, 55, 56, 60, 61, 64, 100, 105, 106, 107, 108, 109, 110, 111, 112, 120, 125, 126, 127, 128, 129, 130, 131, 132, 200, 201, 203, 204, 205, 206, 207, 212, 213, 214, 215, 216] := by rw [hS22]; exact hL21
  have hp22 : ∀ i ∈ S22.1, i ∉ [200] → S22.2 i = mb_c (mz_M s) i := by
    intro i hi he
    rw [hS22] at hi ⊢
    exact (mj_up_ne (fun e => he (by rw [e]; simp))).trans (hp21 i hi he)
  refine ro_aload_n hK dM_init_93 rfl ?_
  refine ro_bipush (x := (-9)) hK (by decide) dM_init_94 ?_
  refine ro_put hK gM_43 f22 (by show 22 < 45; decide) (fun _ => rfl) (fun _ => rfl) dM_init_96 ?_
  obtain ⟨S23, hS23⟩ : ∃ T, T = mj_up S22 200 (.inr (5, [.int 0, .ref 201, .int 0, .ref 203, .ref 204, .ref 205, .ref 206, .ref 207, .int 0, .int 0, .int 0, .int 0, .ref 212, .ref 213, .ref 214, .ref 215, .ref 216, .int 0, .int 0, .int 0, .int 0, .int 0, .int (-9), .null, .int 0, .int 0, .null, .null, .null, .null, .null, .int 0, .null, .int 0, .null, .null, .null, .int 0, .int 0, .null, .null, .int 0, .int 0, .int 0, .long 0])) := ⟨_, rfl⟩
  show K _ _ 99 _ _ (mj_up S22 200 (.inr (5, [.int 0, .ref 201, .int 0, .ref 203, .ref 204, .ref 205, .ref 206, .ref 207, .int 0, .int 0, .int 0, .int 0, .ref 212, .ref 213, .ref 214, .ref 215, .ref 216, .int 0, .int 0, .int 0, .int 0, .int 0, .int (-9), .null, .int 0, .int 0, .null, .null, .null, .null, .null, .int 0, .null, .int 0, .null, .null, .null, .int 0, .int 0, .null, .null, .int 0, .int 0, .int 0, .long 0])))
  rw [← hS23]
  have f23 : S23.2 200 = .inr (5, [.int 0, .ref 201, .int 0, .ref 203, .ref 204, .ref 205, .ref 206, .ref 207, .int 0, .int 0, .int 0, .int 0, .ref 212, .ref 213, .ref 214, .ref 215, .ref 216, .int 0, .int 0, .int 0, .int 0, .int 0, .int (-9), .null, .int 0, .int 0, .null, .null, .null, .null, .null, .int 0, .null, .int 0, .null, .null, .null, .int 0, .int 0, .null, .null, .int 0, .int 0, .int 0, .long 0]) := by rw [hS23]; exact mj_up_eq
  have hL23 : S23.1 = [0, 1, 3, 6, 10, 11, 12, 16, 17, 20, 21, 22, 23, 24, 25, 30, 31, 32, 33, 36, 37, 40, 47, 48, 49, 50, 51, 52, 53, 54, 55, 56, 60, 61, 64, 100, 105, 106, 107, 108, 109, 110, 111, 112, 120, 125, 126, 127, 128, 129, 130, 131, 132, 200, 201, 203, 204, 205, 206, 207, 212, 213, 214, 215, 216] := by rw [hS23]; exact hL22
  have hp23 : ∀ i ∈ S23.1, i ∉ [200] → S23.2 i = mb_c (mz_M s) i := by
    intro i hi he
    rw [hS23] at hi ⊢
    exact (mj_up_ne (fun e => he (by rw [e]; simp))).trans (hp22 i hi he)
  refine ro_aload_n hK dM_init_99 rfl ?_
  refine ro_iconst (x := 5) hK (by decide) dM_init_100 ?_
  refine ro_newI (i := 223) (N := 5) hK (by decide) (by decide) (by decide) (by rw [hL23]; decide) (by decide) ⟨by decide, by decide⟩ dM_init_101 ?_
  obtain ⟨S24, hS24⟩ : ∃ T, T = mj_nw S23 223 (.inl (0, 5, .inl (fun _ => 0))) := ⟨_, rfl⟩
  rw [← hS24]
  have f24 : S24.2 200 = .inr (5, [.int 0, .ref 201, .int 0, .ref 203, .ref 204, .ref 205, .ref 206, .ref 207, .int 0, .int 0, .int 0, .int 0, .ref 212, .ref 213, .ref 214, .ref 215, .ref 216, .int 0, .int 0, .int 0, .int 0, .int 0, .int (-9), .null, .int 0, .int 0, .null, .null, .null, .null, .null, .int 0, .null, .int 0, .null, .null, .null, .int 0, .int 0, .null, .null, .int 0, .int 0, .int 0, .long 0]) := by rw [hS24]; exact (mj_nw_ne (by decide)).trans f23
  have fa24 : S24.2 223 = (.inl (0, 5, .inl (fun _ => 0))) := by rw [hS24]; exact mj_nw_eq
  have hL24 : S24.1 = [0, 1, 3, 6, 10, 11, 12, 16, 17, 20, 21, 22, 23, 24, 25, 30, 31, 32, 33, 36, 37, 40, 47, 48, 49, 50, 51, 52, 53, 54, 55, 56, 60, 61, 64, 100, 105, 106, 107, 108, 109, 110, 111, 112, 120, 125, 126, 127, 128, 129, 130, 131, 132, 200, 201, 203, 204, 205, 206, 207, 212, 213, 214, 215, 216, 223] := by rw [hS24]; show S23.1 ++ [223] = _; rw [hL23]; rfl
  have hp24 : ∀ i ∈ S24.1, i ∉ [223, 200] → S24.2 i = mb_c (mz_M s) i := by
    intro i hi he
    rw [hS24] at hi ⊢
    rcases List.mem_append.mp hi with hi | hi
    · exact (mj_nw_ne (fun (e : i = 223) => (show 223 ∉ S23.1 by rw [hL23]; decide) (e ▸ hi))).trans (hp23 i hi (fun q8 => he (List.mem_cons_of_mem _ q8)))
    · exact absurd (by rw [List.mem_singleton.mp hi]; exact List.mem_cons_self) he
  refine ro_dup hK dM_init_103 rfl ?_
  refine ro_iconst (x := 0) hK (by decide) dM_init_104 ?_
  refine ro_iconst (x := 0) hK (by decide) dM_init_105 ?_
  refine ro_iast hK fa24 (by unfold vp_in; decide) dM_init_106 ?_
  obtain ⟨S25, hS25⟩ : ∃ T, T = mj_up S24 223 (.inl (0, 5, .inl (upd (fun _ => 0) (Int32.toNatClampNeg 0) 0))) := ⟨_, rfl⟩
  rw [← hS25]
  have f25 : S25.2 200 = .inr (5, [.int 0, .ref 201, .int 0, .ref 203, .ref 204, .ref 205, .ref 206, .ref 207, .int 0, .int 0, .int 0, .int 0, .ref 212, .ref 213, .ref 214, .ref 215, .ref 216, .int 0, .int 0, .int 0, .int 0, .int 0, .int (-9), .null, .int 0, .int 0, .null, .null, .null, .null, .null, .int 0, .null, .int 0, .null, .null, .null, .int 0, .int 0, .null, .null, .int 0, .int 0, .int 0, .long 0]) := by rw [hS25]; exact (mj_up_ne (by decide)).trans f24
  have fa25 : S25.2 223 = .inl (0, 5, .inl (upd (fun _ => 0) (Int32.toNatClampNeg 0) 0)) := by rw [hS25]; exact mj_up_eq
  have hL25 : S25.1 = [0, 1, 3, 6, 10, 11, 12, 16, 17, 20, 21, 22, 23, 24, 25, 30, 31, 32, 33, 36, 37, 40, 47, 48, 49, 50, 51, 52, 53, 54, 55, 56, 60, 61, 64, 100, 105, 106, 107, 108, 109, 110, 111, 112, 120, 125, 126, 127, 128, 129, 130, 131, 132, 200, 201, 203, 204, 205, 206, 207, 212, 213, 214, 215, 216, 223] := by rw [hS25]; exact hL24
  have hp25 : ∀ i ∈ S25.1, i ∉ [223, 200] → S25.2 i = mb_c (mz_M s) i := by
    intro i hi he
    rw [hS25] at hi ⊢
    exact (mj_up_ne (fun e => he (by rw [e]; exact List.mem_cons_self))).trans (hp24 i hi he)
  refine ro_dup hK dM_init_107 rfl ?_
  refine ro_iconst (x := 1) hK (by decide) dM_init_108 ?_
  refine ro_iconst (x := 1) hK (by decide) dM_init_109 ?_
  refine ro_iast hK fa25 (by unfold vp_in; decide) dM_init_110 ?_
  obtain ⟨S26, hS26⟩ : ∃ T, T = mj_up S25 223 (.inl (0, 5, .inl (upd (upd (fun _ => 0) (Int32.toNatClampNeg 0) 0) (Int32.toNatClampNeg 1) 1))) := ⟨_, rfl⟩
  rw [← hS26]
  have f26 : S26.2 200 = .inr (5, [.int 0, .ref 201, .int 0, .ref 203, .ref 204, .ref 205, .ref 206, .ref 207, .int 0, .int 0, .int 0, .int 0, .ref 212, .ref 213, .ref 214, .ref 215, .ref 216, .int 0, .int 0, .int 0, .int 0, .int 0, .int (-9), .null, .int 0, .int 0, .null, .null, .null, .null, .null, .int 0, .null, .int 0, .null, .null, .null, .int 0, .int 0, .null, .null, .int 0, .int 0, .int 0, .long 0]) := by rw [hS26]; exact (mj_up_ne (by decide)).trans f25
  have fa26 : S26.2 223 = .inl (0, 5, .inl (upd (upd (fun _ => 0) (Int32.toNatClampNeg 0) 0) (Int32.toNatClampNeg 1) 1)) := by rw [hS26]; exact mj_up_eq
  have hL26 : S26.1 = [0, 1, 3, 6, 10, 11, 12, 16, 17, 20, 21, 22, 23, 24, 25, 30, 31, 32, 33, 36, 37, 40, 47, 48, 49, 50, 51, 52, 53, 54, 55, 56, 60, 61, 64, 100, 105, 106, 107, 108, 109, 110, 111, 112, 120, 125, 126, 127, 128, 129, 130, 131, 132, 200, 201, 203, 204, 205, 206, 207, 212, 213, 214, 215, 216, 223] := by rw [hS26]; exact hL25
  have hp26 : ∀ i ∈ S26.1, i ∉ [223, 200] → S26.2 i = mb_c (mz_M s) i := by
    intro i hi he
    rw [hS26] at hi ⊢
    exact (mj_up_ne (fun e => he (by rw [e]; exact List.mem_cons_self))).trans (hp25 i hi he)
  refine ro_dup hK dM_init_111 rfl ?_
  refine ro_iconst (x := 2) hK (by decide) dM_init_112 ?_
  refine ro_iconst (x := 2) hK (by decide) dM_init_113 ?_
  refine ro_iast hK fa26 (by unfold vp_in; decide) dM_init_114 ?_
  obtain ⟨S27, hS27⟩ : ∃ T, T = mj_up S26 223 (.inl (0, 5, .inl (upd (upd (upd (fun _ => 0) (Int32.toNatClampNeg 0) 0) (Int32.toNatClampNeg 1) 1) (Int32.toNatClampNeg 2) 2))) := ⟨_, rfl⟩
  rw [← hS27]
  have f27 : S27.2 200 = .inr (5, [.int 0, .ref 201, .int 0, .ref 203, .ref 204, .ref 205, .ref 206, .ref 207, .int 0, .int 0, .int 0, .int 0, .ref 212, .ref 213, .ref 214, .ref 215, .ref 216, .int 0, .int 0, .int 0, .int 0, .int 0, .int (-9), .null, .int 0, .int 0, .null, .null, .null, .null, .null, .int 0, .null, .int 0, .null, .null, .null, .int 0, .int 0, .null, .null, .int 0, .int 0, .int 0, .long 0]) := by rw [hS27]; exact (mj_up_ne (by decide)).trans f26
  have fa27 : S27.2 223 = .inl (0, 5, .inl (upd (upd (upd (fun _ => 0) (Int32.toNatClampNeg 0) 0) (Int32.toNatClampNeg 1) 1) (Int32.toNatClampNeg 2) 2)) := by rw [hS27]; exact mj_up_eq
  have hL27 : S27.1 = [0, 1, 3, 6, 10, 11, 12, 16, 17, 20, 21, 22, 23, 24, 25, 30, 31, 32, 33, 36, 37, 40, 47, 48, 49, 50, 51, 52, 53, 54, 55, 56, 60, 61, 64, 100, 105, 106, 107, 108, 109, 110, 111, 112, 120, 125, 126, 127, 128, 129, 130, 131, 132, 200, 201, 203, 204, 205, 206, 207, 212, 213, 214, 215, 216, 223] := by rw [hS27]; exact hL26
  have hp27 : ∀ i ∈ S27.1, i ∉ [223, 200] → S27.2 i = mb_c (mz_M s) i := by
    intro i hi he
    rw [hS27] at hi ⊢
    exact (mj_up_ne (fun e => he (by rw [e]; exact List.mem_cons_self))).trans (hp26 i hi he)
  refine ro_dup hK dM_init_115 rfl ?_
  refine ro_iconst (x := 3) hK (by decide) dM_init_116 ?_
  refine ro_iconst (x := 3) hK (by decide) dM_init_117 ?_
  refine ro_iast hK fa27 (by unfold vp_in; decide) dM_init_118 ?_
  obtain ⟨S28, hS28⟩ : ∃ T, T = mj_up S27 223 (.inl (0, 5, .inl (upd (upd (upd (upd (fun _ => 0) (Int32.toNatClampNeg 0) 0) (Int32.toNatClampNeg 1) 1) (Int32.toNatClampNeg 2) 2) (Int32.toNatClampNeg 3) 3))) := ⟨_, rfl⟩
  rw [← hS28]
  have f28 : S28.2 200 = .inr (5, [.int 0, .ref 201, .int 0, .ref 203, .ref 204, .ref 205, .ref 206, .ref 207, .int 0, .int 0, .int 0, .int 0, .ref 212, .ref 213, .ref 214, .ref 215, .ref 216, .int 0, .int 0, .int 0, .int 0, .int 0, .int (-9), .null, .int 0, .int 0, .null, .null, .null, .null, .null, .int 0, .null, .int 0, .null, .null, .null, .int 0, .int 0, .null, .null, .int 0, .int 0, .int 0, .long 0]) := by rw [hS28]; exact (mj_up_ne (by decide)).trans f27
  have fa28 : S28.2 223 = .inl (0, 5, .inl (upd (upd (upd (upd (fun _ => 0) (Int32.toNatClampNeg 0) 0) (Int32.toNatClampNeg 1) 1) (Int32.toNatClampNeg 2) 2) (Int32.toNatClampNeg 3) 3)) := by rw [hS28]; exact mj_up_eq
  have hL28 : S28.1 = [0, 1, 3, 6, 10, 11, 12, 16, 17, 20, 21, 22, 23, 24, 25, 30, 31, 32, 33, 36, 37, 40, 47, 48, 49, 50, 51, 52, 53, 54, 55, 56, 60, 61, 64, 100, 105, 106, 107, 108, 109, 110, 111, 112, 120, 125, 126, 127, 128, 129, 130, 131, 132, 200, 201, 203, 204, 205, 206, 207, 212, 213, 214, 215, 216, 223] := by rw [hS28]; exact hL27
  have hp28 : ∀ i ∈ S28.1, i ∉ [223, 200] → S28.2 i = mb_c (mz_M s) i := by
    intro i hi he
    rw [hS28] at hi ⊢
    exact (mj_up_ne (fun e => he (by rw [e]; exact List.mem_cons_self))).trans (hp27 i hi he)
  refine ro_dup hK dM_init_119 rfl ?_
  refine ro_iconst (x := 4) hK (by decide) dM_init_120 ?_
  refine ro_iconst (x := 4) hK (by decide) dM_init_121 ?_
  refine ro_iast hK fa28 (by unfold vp_in; decide) dM_init_122 ?_
  obtain ⟨S29, hS29⟩ : ∃ T, T = mj_up S28 223 (.inl (0, 5, .inl (upd (upd (upd (upd (upd (fun _ => 0) (Int32.toNatClampNeg 0) 0) (Int32.toNatClampNeg 1) 1) (Int32.toNatClampNeg 2) 2) (Int32.toNatClampNeg 3) 3) (Int32.toNatClampNeg 4) 4))) := ⟨_, rfl⟩
  rw [← hS29]
  have f29 : S29.2 200 = .inr (5, [.int 0, .ref 201, .int 0, .ref 203, .ref 204, .ref 205, .ref 206, .ref 207, .int 0, .int 0, .int 0, .int 0, .ref 212, .ref 213, .ref 214, .ref 215, .ref 216, .int 0, .int 0, .int 0, .int 0, .int 0, .int (-9), .null, .int 0, .int 0, .null, .null, .null, .null, .null, .int 0, .null, .int 0, .null, .null, .null, .int 0, .int 0, .null, .null, .int 0, .int 0, .int 0, .long 0]) := by rw [hS29]; exact (mj_up_ne (by decide)).trans f28
  have fa29 : S29.2 223 = .inl (0, 5, .inl (upd (upd (upd (upd (upd (fun _ => 0) (Int32.toNatClampNeg 0) 0) (Int32.toNatClampNeg 1) 1) (Int32.toNatClampNeg 2) 2) (Int32.toNatClampNeg 3) 3) (Int32.toNatClampNeg 4) 4)) := by rw [hS29]; exact mj_up_eq
  have hL29 : S29.1 = [0, 1, 3, 6, 10, 11, 12, 16, 17, 20, 21, 22, 23, 24, 25, 30, 31, 32, 33, 36, 37, 40, 47, 48, 49, 50, 51, 52, 53, 54, 55, 56, 60, 61, 64, 100, 105, 106, 107, 108, 109, 110, 111, 112, 120, 125, 126, 127, 128, 129, 130, 131, 132, 200, 201, 203, 204, 205, 206, 207, 212, 213, 214, 215, 216, 223] := by rw [hS29]; exact hL28
  have hp29 : ∀ i ∈ S29.1, i ∉ [200] → S29.2 i = mb_c (mz_M s) i := by
    intro i hi he
    rw [hS29] at hi ⊢
    by_cases e : i = 223
    · rw [e]; exact mj_up_eq.trans rfl
    · exact (mj_up_ne e).trans (hp28 i hi (fun q8 => (List.mem_cons.mp q8).elim e he))
  refine ro_putF hK gM_47 f29 (by show 23 < 45; decide) (fun _ => rfl) (fun _ => rfl) dM_init_123 ?_
  obtain ⟨S30, hS30⟩ : ∃ T, T = mj_up S29 200 (.inr (5, [.int 0, .ref 201, .int 0, .ref 203, .ref 204, .ref 205, .ref 206, .ref 207, .int 0, .int 0, .int 0, .int 0, .ref 212, .ref 213, .ref 214, .ref 215, .ref 216, .int 0, .int 0, .int 0, .int 0, .int 0, .int (-9), .ref 223, .int 0, .int 0, .null, .null, .null, .null, .null, .int 0, .null, .int 0, .null, .null, .null, .int 0, .int 0, .null, .null, .int 0, .int 0, .int 0, .long 0])) := ⟨_, rfl⟩
  show K _ _ 126 _ _ (mj_up S29 200 (.inr (5, [.int 0, .ref 201, .int 0, .ref 203, .ref 204, .ref 205, .ref 206, .ref 207, .int 0, .int 0, .int 0, .int 0, .ref 212, .ref 213, .ref 214, .ref 215, .ref 216, .int 0, .int 0, .int 0, .int 0, .int 0, .int (-9), .ref 223, .int 0, .int 0, .null, .null, .null, .null, .null, .int 0, .null, .int 0, .null, .null, .null, .int 0, .int 0, .null, .null, .int 0, .int 0, .int 0, .long 0])))
  rw [← hS30]
  have f30 : S30.2 200 = .inr (5, [.int 0, .ref 201, .int 0, .ref 203, .ref 204, .ref 205, .ref 206, .ref 207, .int 0, .int 0, .int 0, .int 0, .ref 212, .ref 213, .ref 214, .ref 215, .ref 216, .int 0, .int 0, .int 0, .int 0, .int 0, .int (-9), .ref 223, .int 0, .int 0, .null, .null, .null, .null, .null, .int 0, .null, .int 0, .null, .null, .null, .int 0, .int 0, .null, .null, .int 0, .int 0, .int 0, .long 0]) := by rw [hS30]; exact mj_up_eq
  have hL30 : S30.1 = [0, 1, 3, 6, 10, 11, 12, 16, 17, 20, 21, 22, 23, 24, 25, 30, 31, 32, 33, 36, 37, 40, 47, 48, 49, 50, 51, 52, 53, 54, 55, 56, 60, 61, 64, 100, 105, 106, 107, 108, 109, 110, 111, 112, 120, 125, 126, 127, 128, 129, 130, 131, 132, 200, 201, 203, 204, 205, 206, 207, 212, 213, 214, 215, 216, 223] := by rw [hS30]; exact hL29
  have hp30 : ∀ i ∈ S30.1, i ∉ [200] → S30.2 i = mb_c (mz_M s) i := by
    intro i hi he
    rw [hS30] at hi ⊢
    exact (mj_up_ne (fun e => he (by rw [e]; simp))).trans (hp29 i hi he)
  refine ro_aload_n hK dM_init_126 rfl ?_
  refine ro_bipush (x := (-9)) hK (by decide) dM_init_127 ?_
  refine ro_put hK gM_50 f30 (by show 25 < 45; decide) (fun _ => rfl) (fun _ => rfl) dM_init_129 ?_
  obtain ⟨S31, hS31⟩ : ∃ T, T = mj_up S30 200 (.inr (5, [.int 0, .ref 201, .int 0, .ref 203, .ref 204, .ref 205, .ref 206, .ref 207, .int 0, .int 0, .int 0, .int 0, .ref 212, .ref 213, .ref 214, .ref 215, .ref 216, .int 0, .int 0, .int 0, .int 0, .int 0, .int (-9), .ref 223, .int 0, .int (-9), .null, .null, .null, .null, .null, .int 0, .null, .int 0, .null, .null, .null, .int 0, .int 0, .null, .null, .int 0, .int 0, .int 0, .long 0])) := ⟨_, rfl⟩
  show K _ _ 132 _ _ (mj_up S30 200 (.inr (5, [.int 0, .ref 201, .int 0, .ref 203, .ref 204, .ref 205, .ref 206, .ref 207, .int 0, .int 0, .int 0, .int 0, .ref 212, .ref 213, .ref 214, .ref 215, .ref 216, .int 0, .int 0, .int 0, .int 0, .int 0, .int (-9), .ref 223, .int 0, .int (-9), .null, .null, .null, .null, .null, .int 0, .null, .int 0, .null, .null, .null, .int 0, .int 0, .null, .null, .int 0, .int 0, .int 0, .long 0])))
  rw [← hS31]
  have f31 : S31.2 200 = .inr (5, [.int 0, .ref 201, .int 0, .ref 203, .ref 204, .ref 205, .ref 206, .ref 207, .int 0, .int 0, .int 0, .int 0, .ref 212, .ref 213, .ref 214, .ref 215, .ref 216, .int 0, .int 0, .int 0, .int 0, .int 0, .int (-9), .ref 223, .int 0, .int (-9), .null, .null, .null, .null, .null, .int 0, .null, .int 0, .null, .null, .null, .int 0, .int 0, .null, .null, .int 0, .int 0, .int 0, .long 0]) := by rw [hS31]; exact mj_up_eq
  have hL31 : S31.1 = [0, 1, 3, 6, 10, 11, 12, 16, 17, 20, 21, 22, 23, 24, 25, 30, 31, 32, 33, 36, 37, 40, 47, 48, 49, 50, 51, 52, 53, 54, 55, 56, 60, 61, 64, 100, 105, 106, 107, 108, 109, 110, 111, 112, 120, 125, 126, 127, 128, 129, 130, 131, 132, 200, 201, 203, 204, 205, 206, 207, 212, 213, 214, 215, 216, 223] := by rw [hS31]; exact hL30
  have hp31 : ∀ i ∈ S31.1, i ∉ [200] → S31.2 i = mb_c (mz_M s) i := by
    intro i hi he
    rw [hS31] at hi ⊢
    exact (mj_up_ne (fun e => he (by rw [e]; simp))).trans (hp30 i hi he)
  refine ro_aload_n hK dM_init_132 rfl ?_
  refine ro_bipush (x := 120) hK (by decide) dM_init_133 ?_
  refine ro_newI (i := 226) (N := 120) hK (by decide) (by decide) (by decide) (by rw [hL31]; decide) (by decide) ⟨by decide, by decide⟩ dM_init_135 ?_
  obtain ⟨S32, hS32⟩ : ∃ T, T = mj_nw S31 226 (.inl (0, 120, .inl (fun _ => 0))) := ⟨_, rfl⟩
  rw [← hS32]
  have f32 : S32.2 200 = .inr (5, [.int 0, .ref 201, .int 0, .ref 203, .ref 204, .ref 205, .ref 206, .ref 207, .int 0, .int 0, .int 0, .int 0, .ref 212, .ref 213, .ref 214, .ref 215, .ref 216, .int 0, .int 0, .int 0, .int 0, .int 0, .int (-9), .ref 223, .int 0, .int (-9), .null, .null, .null, .null, .null, .int 0, .null, .int 0, .null, .null, .null, .int 0, .int 0, .null, .null, .int 0, .int 0, .int 0, .long 0]) := by rw [hS32]; exact (mj_nw_ne (by decide)).trans f31
  have fa32 : S32.2 226 = (.inl (0, 120, .inl (fun _ => 0))) := by rw [hS32]; exact mj_nw_eq
  have hL32 : S32.1 = [0, 1, 3, 6, 10, 11, 12, 16, 17, 20, 21, 22, 23, 24, 25, 30, 31, 32, 33, 36, 37, 40, 47, 48, 49, 50, 51, 52, 53, 54, 55, 56, 60, 61, 64, 100, 105, 106, 107, 108, 109, 110, 111, 112, 120, 125, 126, 127, 128, 129, 130, 131, 132, 200, 201, 203, 204, 205, 206, 207, 212, 213, 214, 215, 216, 223, 226] := by rw [hS32]; show S31.1 ++ [226] = _; rw [hL31]; rfl
  have hp32 : ∀ i ∈ S32.1, i ∉ [200] → S32.2 i = mb_c (mz_M s) i := by
    intro i hi he
    rw [hS32] at hi ⊢
    rcases List.mem_append.mp hi with hi | hi
    · exact (mj_nw_ne (fun (e : i = 226) => (show 226 ∉ S31.1 by rw [hL31]; decide) (e ▸ hi))).trans (hp31 i hi he)
    · rw [List.mem_singleton.mp hi]; exact mj_nw_eq.trans rfl
  refine ro_putF hK gM_53 f32 (by show 26 < 45; decide) (fun _ => rfl) (fun _ => rfl) dM_init_137 ?_
  obtain ⟨S33, hS33⟩ : ∃ T, T = mj_up S32 200 (.inr (5, [.int 0, .ref 201, .int 0, .ref 203, .ref 204, .ref 205, .ref 206, .ref 207, .int 0, .int 0, .int 0, .int 0, .ref 212, .ref 213, .ref 214, .ref 215, .ref 216, .int 0, .int 0, .int 0, .int 0, .int 0, .int (-9), .ref 223, .int 0, .int (-9), .ref 226, .null, .null, .null, .null, .int 0, .null, .int 0, .null, .null, .null, .int 0, .int 0, .null, .null, .int 0, .int 0, .int 0, .long 0])) := ⟨_, rfl⟩
  show K _ _ 140 _ _ (mj_up S32 200 (.inr (5, [.int 0, .ref 201, .int 0, .ref 203, .ref 204, .ref 205, .ref 206, .ref 207, .int 0, .int 0, .int 0, .int 0, .ref 212, .ref 213, .ref 214, .ref 215, .ref 216, .int 0, .int 0, .int 0, .int 0, .int 0, .int (-9), .ref 223, .int 0, .int (-9), .ref 226, .null, .null, .null, .null, .int 0, .null, .int 0, .null, .null, .null, .int 0, .int 0, .null, .null, .int 0, .int 0, .int 0, .long 0])))
  rw [← hS33]
  have f33 : S33.2 200 = .inr (5, [.int 0, .ref 201, .int 0, .ref 203, .ref 204, .ref 205, .ref 206, .ref 207, .int 0, .int 0, .int 0, .int 0, .ref 212, .ref 213, .ref 214, .ref 215, .ref 216, .int 0, .int 0, .int 0, .int 0, .int 0, .int (-9), .ref 223, .int 0, .int (-9), .ref 226, .null, .null, .null, .null, .int 0, .null, .int 0, .null, .null, .null, .int 0, .int 0, .null, .null, .int 0, .int 0, .int 0, .long 0]) := by rw [hS33]; exact mj_up_eq
  have hL33 : S33.1 = [0, 1, 3, 6, 10, 11, 12, 16, 17, 20, 21, 22, 23, 24, 25, 30, 31, 32, 33, 36, 37, 40, 47, 48, 49, 50, 51, 52, 53, 54, 55, 56, 60, 61, 64, 100, 105, 106, 107, 108, 109, 110, 111, 112, 120, 125, 126, 127, 128, 129, 130, 131, 132, 200, 201, 203, 204, 205, 206, 207, 212, 213, 214, 215, 216, 223, 226] := by rw [hS33]; exact hL32
  have hp33 : ∀ i ∈ S33.1, i ∉ [200] → S33.2 i = mb_c (mz_M s) i := by
    intro i hi he
    rw [hS33] at hi ⊢
    exact (mj_up_ne (fun e => he (by rw [e]; simp))).trans (hp32 i hi he)
  refine ro_aload_n hK dM_init_140 rfl ?_
  refine ro_sipush (x := 720) hK (by decide) dM_init_141 ?_
  refine ro_newI (i := 227) (N := 720) hK (by decide) (by decide) (by decide) (by rw [hL33]; decide) (by decide) ⟨by decide, by decide⟩ dM_init_144 ?_
  obtain ⟨S34, hS34⟩ : ∃ T, T = mj_nw S33 227 (.inl (0, 720, .inl (fun _ => 0))) := ⟨_, rfl⟩
  rw [← hS34]
  have f34 : S34.2 200 = .inr (5, [.int 0, .ref 201, .int 0, .ref 203, .ref 204, .ref 205, .ref 206, .ref 207, .int 0, .int 0, .int 0, .int 0, .ref 212, .ref 213, .ref 214, .ref 215, .ref 216, .int 0, .int 0, .int 0, .int 0, .int 0, .int (-9), .ref 223, .int 0, .int (-9), .ref 226, .null, .null, .null, .null, .int 0, .null, .int 0, .null, .null, .null, .int 0, .int 0, .null, .null, .int 0, .int 0, .int 0, .long 0]) := by rw [hS34]; exact (mj_nw_ne (by decide)).trans f33
  have fa34 : S34.2 227 = (.inl (0, 720, .inl (fun _ => 0))) := by rw [hS34]; exact mj_nw_eq
  have hL34 : S34.1 = [0, 1, 3, 6, 10, 11, 12, 16, 17, 20, 21, 22, 23, 24, 25, 30, 31, 32, 33, 36, 37, 40, 47, 48, 49, 50, 51, 52, 53, 54, 55, 56, 60, 61, 64, 100, 105, 106, 107, 108, 109, 110, 111, 112, 120, 125, 126, 127, 128, 129, 130, 131, 132, 200, 201, 203, 204, 205, 206, 207, 212, 213, 214, 215, 216, 223, 226, 227] := by rw [hS34]; show S33.1 ++ [227] = _; rw [hL33]; rfl
  have hp34 : ∀ i ∈ S34.1, i ∉ [200] → S34.2 i = mb_c (mz_M s) i := by
    intro i hi he
    rw [hS34] at hi ⊢
    rcases List.mem_append.mp hi with hi | hi
    · exact (mj_nw_ne (fun (e : i = 227) => (show 227 ∉ S33.1 by rw [hL33]; decide) (e ▸ hi))).trans (hp33 i hi he)
    · rw [List.mem_singleton.mp hi]; exact mj_nw_eq.trans rfl
  refine ro_putF hK gM_56 f34 (by show 27 < 45; decide) (fun _ => rfl) (fun _ => rfl) dM_init_146 ?_
  obtain ⟨S35, hS35⟩ : ∃ T, T = mj_up S34 200 (.inr (5, [.int 0, .ref 201, .int 0, .ref 203, .ref 204, .ref 205, .ref 206, .ref 207, .int 0, .int 0, .int 0, .int 0, .ref 212, .ref 213, .ref 214, .ref 215, .ref 216, .int 0, .int 0, .int 0, .int 0, .int 0, .int (-9), .ref 223, .int 0, .int (-9), .ref 226, .ref 227, .null, .null, .null, .int 0, .null, .int 0, .null, .null, .null, .int 0, .int 0, .null, .null, .int 0, .int 0, .int 0, .long 0])) := ⟨_, rfl⟩
  show K _ _ 149 _ _ (mj_up S34 200 (.inr (5, [.int 0, .ref 201, .int 0, .ref 203, .ref 204, .ref 205, .ref 206, .ref 207, .int 0, .int 0, .int 0, .int 0, .ref 212, .ref 213, .ref 214, .ref 215, .ref 216, .int 0, .int 0, .int 0, .int 0, .int 0, .int (-9), .ref 223, .int 0, .int (-9), .ref 226, .ref 227, .null, .null, .null, .int 0, .null, .int 0, .null, .null, .null, .int 0, .int 0, .null, .null, .int 0, .int 0, .int 0, .long 0])))
  rw [← hS35]
  have f35 : S35.2 200 = .inr (5, [.int 0, .ref 201, .int 0, .ref 203, .ref 204, .ref 205, .ref 206, .ref 207, .int 0, .int 0, .int 0, .int 0, .ref 212, .ref 213, .ref 214, .ref 215, .ref 216, .int 0, .int 0, .int 0, .int 0, .int 0, .int (-9), .ref 223, .int 0, .int (-9), .ref 226, .ref 227, .null, .null, .null, .int 0, .null, .int 0, .null, .null, .null, .int 0, .int 0, .null, .null, .int 0, .int 0, .int 0, .long 0]) := by rw [hS35]; exact mj_up_eq
  have hL35 : S35.1 = [0, 1, 3, 6, 10, 11, 12, 16, 17, 20, 21, 22, 23, 24, 25, 30, 31, 32, 33, 36, 37, 40, 47, 48, 49, 50, 51, 52, 53, 54, 55, 56, 60, 61, 64, 100, 105, 106, 107, 108, 109, 110, 111, 112, 120, 125, 126, 127, 128, 129, 130, 131, 132, 200, 201, 203, 204, 205, 206, 207, 212, 213, 214, 215, 216, 223, 226, 227] := by rw [hS35]; exact hL34
  have hp35 : ∀ i ∈ S35.1, i ∉ [200] → S35.2 i = mb_c (mz_M s) i := by
    intro i hi he
    rw [hS35] at hi ⊢
    exact (mj_up_ne (fun e => he (by rw [e]; simp))).trans (hp34 i hi he)
  refine ro_aload_n hK dM_init_149 rfl ?_
  refine ro_iconst (x := 5) hK (by decide) dM_init_150 ?_
  refine ro_newI (i := 228) (N := 5) hK (by decide) (by decide) (by decide) (by rw [hL35]; decide) (by decide) ⟨by decide, by decide⟩ dM_init_151 ?_
  obtain ⟨S36, hS36⟩ : ∃ T, T = mj_nw S35 228 (.inl (0, 5, .inl (fun _ => 0))) := ⟨_, rfl⟩
  rw [← hS36]
  have f36 : S36.2 200 = .inr (5, [.int 0, .ref 201, .int 0, .ref 203, .ref 204, .ref 205, .ref 206, .ref 207, .int 0, .int 0, .int 0, .int 0, .ref 212, .ref 213, .ref 214, .ref 215, .ref 216, .int 0, .int 0, .int 0, .int 0, .int 0, .int (-9), .ref 223, .int 0, .int (-9), .ref 226, .ref 227, .null, .null, .null, .int 0, .null, .int 0, .null, .null, .null, .int 0, .int 0, .null, .null, .int 0, .int 0, .int 0, .long 0]) := by rw [hS36]; exact (mj_nw_ne (by decide)).trans f35
  have fa36 : S36.2 228 = (.inl (0, 5, .inl (fun _ => 0))) := by rw [hS36]; exact mj_nw_eq
  have hL36 : S36.1 = [0, 1, 3, 6, 10, 11, 12, 16, 17, 20, 21, 22, 23, 24, 25, 30, 31, 32, 33, 36, 37, 40, 47, 48, 49, 50, 51, 52, 53, 54, 55, 56, 60, 61, 64, 100, 105, 106, 107, 108, 109, 110, 111, 112, 120, 125, 126, 127, 128, 129, 130, 131, 132, 200, 201, 203, 204, 205, 206, 207, 212, 213, 214, 215, 216, 223, 226, 227, 228] := by rw [hS36]; show S35.1 ++ [228] = _; rw [hL35]; rfl
  have hp36 : ∀ i ∈ S36.1, i ∉ [200] → S36.2 i = mb_c (mz_M s) i := by
    intro i hi he
    rw [hS36] at hi ⊢
    rcases List.mem_append.mp hi with hi | hi
    · exact (mj_nw_ne (fun (e : i = 228) => (show 228 ∉ S35.1 by rw [hL35]; decide) (e ▸ hi))).trans (hp35 i hi he)
    · rw [List.mem_singleton.mp hi]; exact mj_nw_eq.trans rfl
  refine ro_putF hK gM_59 f36 (by show 28 < 45; decide) (fun _ => rfl) (fun _ => rfl) dM_init_153 ?_
  obtain ⟨S37, hS37⟩ : ∃ T, T = mj_up S36 200 (.inr (5, [.int 0, .ref 201, .int 0, .ref 203, .ref 204, .ref 205, .ref 206, .ref 207, .int 0, .int 0, .int 0, .int 0, .ref 212, .ref 213, .ref 214, .ref 215, .ref 216, .int 0, .int 0, .int 0, .int 0, .int 0, .int (-9), .ref 223, .int 0, .int (-9), .ref 226, .ref 227, .ref 228, .null, .null, .int 0, .null, .int 0, .null, .null, .null, .int 0, .int 0, .null, .null, .int 0, .int 0, .int 0, .long 0])) := ⟨_, rfl⟩
  show K _ _ 156 _ _ (mj_up S36 200 (.inr (5, [.int 0, .ref 201, .int 0, .ref 203, .ref 204, .ref 205, .ref 206, .ref 207, .int 0, .int 0, .int 0, .int 0, .ref 212, .ref 213, .ref 214, .ref 215, .ref 216, .int 0, .int 0, .int 0, .int 0, .int 0, .int (-9), .ref 223, .int 0, .int (-9), .ref 226, .ref 227, .ref 228, .null, .null, .int 0, .null, .int 0, .null, .null, .null, .int 0, .int 0, .null, .null, .int 0, .int 0, .int 0, .long 0])))
  rw [← hS37]
  have f37 : S37.2 200 = .inr (5, [.int 0, .ref 201, .int 0, .ref 203, .ref 204, .ref 205, .ref 206, .ref 207, .int 0, .int 0, .int 0, .int 0, .ref 212, .ref 213, .ref 214, .ref 215, .ref 216, .int 0, .int 0, .int 0, .int 0, .int 0, .int (-9), .ref 223, .int 0, .int (-9), .ref 226, .ref 227, .ref 228, .null, .null, .int 0, .null, .int 0, .null, .null, .null, .int 0, .int 0, .null, .null, .int 0, .int 0, .int 0, .long 0]) := by rw [hS37]; exact mj_up_eq
  have hL37 : S37.1 = [0, 1, 3, 6, 10, 11, 12, 16, 17, 20, 21, 22, 23, 24, 25, 30, 31, 32, 33, 36, 37, 40, 47, 48, 49, 50, 51, 52, 53, 54, 55, 56, 60, 61, 64, 100, 105, 106, 107, 108, 109, 110, 111, 112, 120, 125, 126, 127, 128, 129, 130, 131, 132, 200, 201, 203, 204, 205, 206, 207, 212, 213, 214, 215, 216, 223, 226, 227, 228] := by rw [hS37]; exact hL36
  have hp37 : ∀ i ∈ S37.1, i ∉ [200] → S37.2 i = mb_c (mz_M s) i := by
    intro i hi he
    rw [hS37] at hi ⊢
    exact (mj_up_ne (fun e => he (by rw [e]; simp))).trans (hp36 i hi he)
  refine ro_aload_n hK dM_init_156 rfl ?_
  refine ro_sipush (x := 2550) hK (by decide) dM_init_157 ?_
  refine ro_newI (i := 229) (N := 2550) hK (by decide) (by decide) (by decide) (by rw [hL37]; decide) (by decide) ⟨by decide, by decide⟩ dM_init_160 ?_
  obtain ⟨S38, hS38⟩ : ∃ T, T = mj_nw S37 229 (.inl (0, 2550, .inl (fun _ => 0))) := ⟨_, rfl⟩
  rw [← hS38]
  have f38 : S38.2 200 = .inr (5, [.int 0, .ref 201, .int 0, .ref 203, .ref 204, .ref 205, .ref 206, .ref 207, .int 0, .int 0, .int 0, .int 0, .ref 212, .ref 213, .ref 214, .ref 215, .ref 216, .int 0, .int 0, .int 0, .int 0, .int 0, .int (-9), .ref 223, .int 0, .int (-9), .ref 226, .ref 227, .ref 228, .null, .null, .int 0, .null, .int 0, .null, .null, .null, .int 0, .int 0, .null, .null, .int 0, .int 0, .int 0, .long 0]) := by rw [hS38]; exact (mj_nw_ne (by decide)).trans f37
  have fa38 : S38.2 229 = (.inl (0, 2550, .inl (fun _ => 0))) := by rw [hS38]; exact mj_nw_eq
  have hL38 : S38.1 = [0, 1, 3, 6, 10, 11, 12, 16, 17, 20, 21, 22, 23, 24, 25, 30, 31, 32, 33, 36, 37, 40, 47, 48, 49, 50, 51, 52, 53, 54, 55, 56, 60, 61, 64, 100, 105, 106, 107, 108, 109, 110, 111, 112, 120, 125, 126, 127, 128, 129, 130, 131, 132, 200, 201, 203, 204, 205, 206, 207, 212, 213, 214, 215, 216, 223, 226, 227, 228, 229] := by rw [hS38]; show S37.1 ++ [229] = _; rw [hL37]; rfl
  have hp38 : ∀ i ∈ S38.1, i ∉ [200] → S38.2 i = mb_c (mz_M s) i := by
    intro i hi he
    rw [hS38] at hi ⊢
    rcases List.mem_append.mp hi with hi | hi
    · exact (mj_nw_ne (fun (e : i = 229) => (show 229 ∉ S37.1 by rw [hL37]; decide) (e ▸ hi))).trans (hp37 i hi he)
    · rw [List.mem_singleton.mp hi]; exact mj_nw_eq.trans rfl
  refine ro_putF hK gM_62 f38 (by show 29 < 45; decide) (fun _ => rfl) (fun _ => rfl) dM_init_162 ?_
  obtain ⟨S39, hS39⟩ : ∃ T, T = mj_up S38 200 (.inr (5, [.int 0, .ref 201, .int 0, .ref 203, .ref 204, .ref 205, .ref 206, .ref 207, .int 0, .int 0, .int 0, .int 0, .ref 212, .ref 213, .ref 214, .ref 215, .ref 216, .int 0, .int 0, .int 0, .int 0, .int 0, .int (-9), .ref 223, .int 0, .int (-9), .ref 226, .ref 227, .ref 228, .ref 229, .null, .int 0, .null, .int 0, .null, .null, .null, .int 0, .int 0, .null, .null, .int 0, .int 0, .int 0, .long 0])) := ⟨_, rfl⟩
  show K _ _ 165 _ _ (mj_up S38 200 (.inr (5, [.int 0, .ref 201, .int 0, .ref 203, .ref 204, .ref 205, .ref 206, .ref 207, .int 0, .int 0, .int 0, .int 0, .ref 212, .ref 213, .ref 214, .ref 215, .ref 216, .int 0, .int 0, .int 0, .int 0, .int 0, .int (-9), .ref 223, .int 0, .int (-9), .ref 226, .ref 227, .ref 228, .ref 229, .null, .int 0, .null, .int 0, .null, .null, .null, .int 0, .int 0, .null, .null, .int 0, .int 0, .int 0, .long 0])))
  rw [← hS39]
  have f39 : S39.2 200 = .inr (5, [.int 0, .ref 201, .int 0, .ref 203, .ref 204, .ref 205, .ref 206, .ref 207, .int 0, .int 0, .int 0, .int 0, .ref 212, .ref 213, .ref 214, .ref 215, .ref 216, .int 0, .int 0, .int 0, .int 0, .int 0, .int (-9), .ref 223, .int 0, .int (-9), .ref 226, .ref 227, .ref 228, .ref 229, .null, .int 0, .null, .int 0, .null, .null, .null, .int 0, .int 0, .null, .null, .int 0, .int 0, .int 0, .long 0]) := by rw [hS39]; exact mj_up_eq
  have hL39 : S39.1 = [0, 1, 3, 6, 10, 11, 12, 16, 17, 20, 21, 22, 23, 24, 25, 30, 31, 32, 33, 36, 37, 40, 47, 48, 49, 50, 51, 52, 53, 54, 55, 56, 60, 61, 64, 100, 105, 106, 107, 108, 109, 110, 111, 112, 120, 125, 126, 127, 128, 129, 130, 131, 132, 200, 201, 203, 204, 205, 206, 207, 212, 213, 214, 215, 216, 223, 226, 227, 228, 229] := by rw [hS39]; exact hL38
  have hp39 : ∀ i ∈ S39.1, i ∉ [200] → S39.2 i = mb_c (mz_M s) i := by
    intro i hi he
    rw [hS39] at hi ⊢
    exact (mj_up_ne (fun e => he (by rw [e]; simp))).trans (hp38 i hi he)
  refine ro_aload_n hK dM_init_165 rfl ?_
  refine ro_bipush (x := 8) hK (by decide) dM_init_166 ?_
  refine ro_newI (i := 230) (N := 8) hK (by decide) (by decide) (by decide) (by rw [hL39]; decide) (by decide) ⟨by decide, by decide⟩ dM_init_168 ?_
  obtain ⟨S40, hS40⟩ : ∃ T, T = mj_nw S39 230 (.inl (0, 8, .inl (fun _ => 0))) := ⟨_, rfl⟩
  rw [← hS40]
  have f40 : S40.2 200 = .inr (5, [.int 0, .ref 201, .int 0, .ref 203, .ref 204, .ref 205, .ref 206, .ref 207, .int 0, .int 0, .int 0, .int 0, .ref 212, .ref 213, .ref 214, .ref 215, .ref 216, .int 0, .int 0, .int 0, .int 0, .int 0, .int (-9), .ref 223, .int 0, .int (-9), .ref 226, .ref 227, .ref 228, .ref 229, .null, .int 0, .null, .int 0, .null, .null, .null, .int 0, .int 0, .null, .null, .int 0, .int 0, .int 0, .long 0]) := by rw [hS40]; exact (mj_nw_ne (by decide)).trans f39
  have fa40 : S40.2 230 = (.inl (0, 8, .inl (fun _ => 0))) := by rw [hS40]; exact mj_nw_eq
  have hL40 : S40.1 = [0, 1, 3, 6, 10, 11, 12, 16, 17, 20, 21, 22, 23, 24, 25, 30, 31, 32, 33, 36, 37, 40, 47, 48, 49, 50, 51, 52, 53, 54, 55, 56, 60, 61, 64, 100, 105, 106, 107, 108, 109, 110, 111, 112, 120, 125, 126, 127, 128, 129, 130, 131, 132, 200, 201, 203, 204, 205, 206, 207, 212, 213, 214, 215, 216, 223, 226, 227, 228, 229, 230] := by rw [hS40]; show S39.1 ++ [230] = _; rw [hL39]; rfl
  have hp40 : ∀ i ∈ S40.1, i ∉ [200] → S40.2 i = mb_c (mz_M s) i := by
    intro i hi he
    rw [hS40] at hi ⊢
    rcases List.mem_append.mp hi with hi | hi
    · exact (mj_nw_ne (fun (e : i = 230) => (show 230 ∉ S39.1 by rw [hL39]; decide) (e ▸ hi))).trans (hp39 i hi he)
    · rw [List.mem_singleton.mp hi]; exact mj_nw_eq.trans rfl
  refine ro_putF hK gM_65 f40 (by show 30 < 45; decide) (fun _ => rfl) (fun _ => rfl) dM_init_170 ?_
  obtain ⟨S41, hS41⟩ : ∃ T, T = mj_up S40 200 (.inr (5, [.int 0, .ref 201, .int 0, .ref 203, .ref 204, .ref 205, .ref 206, .ref 207, .int 0, .int 0, .int 0, .int 0, .ref 212, .ref 213, .ref 214, .ref 215, .ref 216, .int 0, .int 0, .int 0, .int 0, .int 0, .int (-9), .ref 223, .int 0, .int (-9), .ref 226, .ref 227, .ref 228, .ref 229, .ref 230, .int 0, .null, .int 0, .null, .null, .null, .int 0, .int 0, .null, .null, .int 0, .int 0, .int 0, .long 0])) := ⟨_, rfl⟩
  show K _ _ 173 _ _ (mj_up S40 200 (.inr (5, [.int 0, .ref 201, .int 0, .ref 203, .ref 204, .ref 205, .ref 206, .ref 207, .int 0, .int 0, .int 0, .int 0, .ref 212, .ref 213, .ref 214, .ref 215, .ref 216, .int 0, .int 0, .int 0, .int 0, .int 0, .int (-9), .ref 223, .int 0, .int (-9), .ref 226, .ref 227, .ref 228, .ref 229, .ref 230, .int 0, .null, .int 0, .null, .null, .null, .int 0, .int 0, .null, .null, .int 0, .int 0, .int 0, .long 0])))
  rw [← hS41]
  have f41 : S41.2 200 = .inr (5, [.int 0, .ref 201, .int 0, .ref 203, .ref 204, .ref 205, .ref 206, .ref 207, .int 0, .int 0, .int 0, .int 0, .ref 212, .ref 213, .ref 214, .ref 215, .ref 216, .int 0, .int 0, .int 0, .int 0, .int 0, .int (-9), .ref 223, .int 0, .int (-9), .ref 226, .ref 227, .ref 228, .ref 229, .ref 230, .int 0, .null, .int 0, .null, .null, .null, .int 0, .int 0, .null, .null, .int 0, .int 0, .int 0, .long 0]) := by rw [hS41]; exact mj_up_eq
  have hL41 : S41.1 = [0, 1, 3, 6, 10, 11, 12, 16, 17, 20, 21, 22, 23, 24, 25, 30, 31, 32, 33, 36, 37, 40, 47, 48, 49, 50, 51, 52, 53, 54, 55, 56, 60, 61, 64, 100, 105, 106, 107, 108, 109, 110, 111, 112, 120, 125, 126, 127, 128, 129, 130, 131, 132, 200, 201, 203, 204, 205, 206, 207, 212, 213, 214, 215, 216, 223, 226, 227, 228, 229, 230] := by rw [hS41]; exact hL40
  have hp41 : ∀ i ∈ S41.1, i ∉ [200] → S41.2 i = mb_c (mz_M s) i := by
    intro i hi he
    rw [hS41] at hi ⊢
    exact (mj_up_ne (fun e => he (by rw [e]; simp))).trans (hp40 i hi he)
  refine ro_aload_n hK dM_init_173 rfl ?_
  refine ro_bipush (x := 18) hK (by decide) dM_init_174 ?_
  refine ro_newI (i := 232) (N := 18) hK (by decide) (by decide) (by decide) (by rw [hL41]; decide) (by decide) ⟨by decide, by decide⟩ dM_init_176 ?_
  obtain ⟨S42, hS42⟩ : ∃ T, T = mj_nw S41 232 (.inl (0, 18, .inl (fun _ => 0))) := ⟨_, rfl⟩
  rw [← hS42]
  have f42 : S42.2 200 = .inr (5, [.int 0, .ref 201, .int 0, .ref 203, .ref 204, .ref 205, .ref 206, .ref 207, .int 0, .int 0, .int 0, .int 0, .ref 212, .ref 213, .ref 214, .ref 215, .ref 216, .int 0, .int 0, .int 0, .int 0, .int 0, .int (-9), .ref 223, .int 0, .int (-9), .ref 226, .ref 227, .ref 228, .ref 229, .ref 230, .int 0, .null, .int 0, .null, .null, .null, .int 0, .int 0, .null, .null, .int 0, .int 0, .int 0, .long 0]) := by rw [hS42]; exact (mj_nw_ne (by decide)).trans f41
  have fa42 : S42.2 232 = (.inl (0, 18, .inl (fun _ => 0))) := by rw [hS42]; exact mj_nw_eq
  have hL42 : S42.1 = [0, 1, 3, 6, 10, 11, 12, 16, 17, 20, 21, 22, 23, 24, 25, 30, 31, 32, 33, 36, 37, 40, 47, 48, 49, 50, 51, 52, 53, 54, 55, 56, 60, 61, 64, 100, 105, 106, 107, 108, 109, 110, 111, 112, 120, 125, 126, 127, 128, 129, 130, 131, 132, 200, 201, 203, 204, 205, 206, 207, 212, 213, 214, 215, 216, 223, 226, 227, 228, 229, 230, 232] := by rw [hS42]; show S41.1 ++ [232] = _; rw [hL41]; rfl
  have hp42 : ∀ i ∈ S42.1, i ∉ [200] → S42.2 i = mb_c (mz_M s) i := by
    intro i hi he
    rw [hS42] at hi ⊢
    rcases List.mem_append.mp hi with hi | hi
    · exact (mj_nw_ne (fun (e : i = 232) => (show 232 ∉ S41.1 by rw [hL41]; decide) (e ▸ hi))).trans (hp41 i hi he)
    · rw [List.mem_singleton.mp hi]; exact mj_nw_eq.trans rfl
  refine ro_putF hK gM_68 f42 (by show 32 < 45; decide) (fun _ => rfl) (fun _ => rfl) dM_init_178 ?_
  obtain ⟨S43, hS43⟩ : ∃ T, T = mj_up S42 200 (.inr (5, [.int 0, .ref 201, .int 0, .ref 203, .ref 204, .ref 205, .ref 206, .ref 207, .int 0, .int 0, .int 0, .int 0, .ref 212, .ref 213, .ref 214, .ref 215, .ref 216, .int 0, .int 0, .int 0, .int 0, .int 0, .int (-9), .ref 223, .int 0, .int (-9), .ref 226, .ref 227, .ref 228, .ref 229, .ref 230, .int 0, .ref 232, .int 0, .null, .null, .null, .int 0, .int 0, .null, .null, .int 0, .int 0, .int 0, .long 0])) := ⟨_, rfl⟩
  show K _ _ 181 _ _ (mj_up S42 200 (.inr (5, [.int 0, .ref 201, .int 0, .ref 203, .ref 204, .ref 205, .ref 206, .ref 207, .int 0, .int 0, .int 0, .int 0, .ref 212, .ref 213, .ref 214, .ref 215, .ref 216, .int 0, .int 0, .int 0, .int 0, .int 0, .int (-9), .ref 223, .int 0, .int (-9), .ref 226, .ref 227, .ref 228, .ref 229, .ref 230, .int 0, .ref 232, .int 0, .null, .null, .null, .int 0, .int 0, .null, .null, .int 0, .int 0, .int 0, .long 0])))
  rw [← hS43]
  have f43 : S43.2 200 = .inr (5, [.int 0, .ref 201, .int 0, .ref 203, .ref 204, .ref 205, .ref 206, .ref 207, .int 0, .int 0, .int 0, .int 0, .ref 212, .ref 213, .ref 214, .ref 215, .ref 216, .int 0, .int 0, .int 0, .int 0, .int 0, .int (-9), .ref 223, .int 0, .int (-9), .ref 226, .ref 227, .ref 228, .ref 229, .ref 230, .int 0, .ref 232, .int 0, .null, .null, .null, .int 0, .int 0, .null, .null, .int 0, .int 0, .int 0, .long 0]) := by rw [hS43]; exact mj_up_eq
  have hL43 : S43.1 = [0, 1, 3, 6, 10, 11, 12, 16, 17, 20, 21, 22, 23, 24, 25, 30, 31, 32, 33, 36, 37, 40, 47, 48, 49, 50, 51, 52, 53, 54, 55, 56, 60, 61, 64, 100, 105, 106, 107, 108, 109, 110, 111, 112, 120, 125, 126, 127, 128, 129, 130, 131, 132, 200, 201, 203, 204, 205, 206, 207, 212, 213, 214, 215, 216, 223, 226, 227, 228, 229, 230, 232] := by rw [hS43]; exact hL42
  have hp43 : ∀ i ∈ S43.1, i ∉ [200] → S43.2 i = mb_c (mz_M s) i := by
    intro i hi he
    rw [hS43] at hi ⊢
    exact (mj_up_ne (fun e => he (by rw [e]; simp))).trans (hp42 i hi he)
  refine ro_aload_n hK dM_init_181 rfl ?_
  refine ro_bipush (x := 56) hK (by decide) dM_init_182 ?_
  refine ro_newI (i := 234) (N := 56) hK (by decide) (by decide) (by decide) (by rw [hL43]; decide) (by decide) ⟨by decide, by decide⟩ dM_init_184 ?_
  obtain ⟨S44, hS44⟩ : ∃ T, T = mj_nw S43 234 (.inl (0, 56, .inl (fun _ => 0))) := ⟨_, rfl⟩
  rw [← hS44]
  have f44 : S44.2 200 = .inr (5, [.int 0, .ref 201, .int 0, .ref 203, .ref 204, .ref 205, .ref 206, .ref 207, .int 0, .int 0, .int 0, .int 0, .ref 212, .ref 213, .ref 214, .ref 215, .ref 216, .int 0, .int 0, .int 0, .int 0, .int 0, .int (-9), .ref 223, .int 0, .int (-9), .ref 226, .ref 227, .ref 228, .ref 229, .ref 230, .int 0, .ref 232, .int 0, .null, .null, .null, .int 0, .int 0, .null, .null, .int 0, .int 0, .int 0, .long 0]) := by rw [hS44]; exact (mj_nw_ne (by decide)).trans f43
  have fa44 : S44.2 234 = (.inl (0, 56, .inl (fun _ => 0))) := by rw [hS44]; exact mj_nw_eq
  have hL44 : S44.1 = [0, 1, 3, 6, 10, 11, 12, 16, 17, 20, 21, 22, 23, 24, 25, 30, 31, 32, 33, 36, 37, 40, 47, 48, 49, 50, 51, 52, 53, 54, 55, 56, 60, 61, 64, 100, 105, 106, 107, 108, 109, 110, 111, 112, 120, 125, 126, 127, 128, 129, 130, 131, 132, 200, 201, 203, 204, 205, 206, 207, 212, 213, 214, 215, 216, 223, 226, 227, 228, 229, 230, 232, 234] := by rw [hS44]; show S43.1 ++ [234] = _; rw [hL43]; rfl
  have hp44 : ∀ i ∈ S44.1, i ∉ [200] → S44.2 i = mb_c (mz_M s) i := by
    intro i hi he
    rw [hS44] at hi ⊢
    rcases List.mem_append.mp hi with hi | hi
    · exact (mj_nw_ne (fun (e : i = 234) => (show 234 ∉ S43.1 by rw [hL43]; decide) (e ▸ hi))).trans (hp43 i hi he)
    · rw [List.mem_singleton.mp hi]; exact mj_nw_eq.trans rfl
  refine ro_putF hK gM_71 f44 (by show 34 < 45; decide) (fun _ => rfl) (fun _ => rfl) dM_init_186 ?_
  obtain ⟨S45, hS45⟩ : ∃ T, T = mj_up S44 200 (.inr (5, [.int 0, .ref 201, .int 0, .ref 203, .ref 204, .ref 205, .ref 206, .ref 207, .int 0, .int 0, .int 0, .int 0, .ref 212, .ref 213, .ref 214, .ref 215, .ref 216, .int 0, .int 0, .int 0, .int 0, .int 0, .int (-9), .ref 223, .int 0, .int (-9), .ref 226, .ref 227, .ref 228, .ref 229, .ref 230, .int 0, .ref 232, .int 0, .ref 234, .null, .null, .int 0, .int 0, .null, .null, .int 0, .int 0, .int 0, .long 0])) := ⟨_, rfl⟩
  show K _ _ 189 _ _ (mj_up S44 200 (.inr (5, [.int 0, .ref 201, .int 0, .ref 203, .ref 204, .ref 205, .ref 206, .ref 207, .int 0, .int 0, .int 0, .int 0, .ref 212, .ref 213, .ref 214, .ref 215, .ref 216, .int 0, .int 0, .int 0, .int 0, .int 0, .int (-9), .ref 223, .int 0, .int (-9), .ref 226, .ref 227, .ref 228, .ref 229, .ref 230, .int 0, .ref 232, .int 0, .ref 234, .null, .null, .int 0, .int 0, .null, .null, .int 0, .int 0, .int 0, .long 0])))
  rw [← hS45]
  have f45 : S45.2 200 = .inr (5, [.int 0, .ref 201, .int 0, .ref 203, .ref 204, .ref 205, .ref 206, .ref 207, .int 0, .int 0, .int 0, .int 0, .ref 212, .ref 213, .ref 214, .ref 215, .ref 216, .int 0, .int 0, .int 0, .int 0, .int 0, .int (-9), .ref 223, .int 0, .int (-9), .ref 226, .ref 227, .ref 228, .ref 229, .ref 230, .int 0, .ref 232, .int 0, .ref 234, .null, .null, .int 0, .int 0, .null, .null, .int 0, .int 0, .int 0, .long 0]) := by rw [hS45]; exact mj_up_eq
  have hL45 : S45.1 = [0, 1, 3, 6, 10, 11, 12, 16, 17, 20, 21, 22, 23, 24, 25, 30, 31, 32, 33, 36, 37, 40, 47, 48, 49, 50, 51, 52, 53, 54, 55, 56, 60, 61, 64, 100, 105, 106, 107, 108, 109, 110, 111, 112, 120, 125, 126, 127, 128, 129, 130, 131, 132, 200, 201, 203, 204, 205, 206, 207, 212, 213, 214, 215, 216, 223, 226, 227, 228, 229, 230, 232, 234] := by rw [hS45]; exact hL44
  have hp45 : ∀ i ∈ S45.1, i ∉ [200] → S45.2 i = mb_c (mz_M s) i := by
    intro i hi he
    rw [hS45] at hi ⊢
    exact (mj_up_ne (fun e => he (by rw [e]; simp))).trans (hp44 i hi he)
  refine ro_aload_n hK dM_init_189 rfl ?_
  refine ro_bipush (x := 6) hK (by decide) dM_init_190 ?_
  refine ro_newI (i := 235) (N := 6) hK (by decide) (by decide) (by decide) (by rw [hL45]; decide) (by decide) ⟨by decide, by decide⟩ dM_init_192 ?_
  obtain ⟨S46, hS46⟩ : ∃ T, T = mj_nw S45 235 (.inl (0, 6, .inl (fun _ => 0))) := ⟨_, rfl⟩
  rw [← hS46]
  have f46 : S46.2 200 = .inr (5, [.int 0, .ref 201, .int 0, .ref 203, .ref 204, .ref 205, .ref 206, .ref 207, .int 0, .int 0, .int 0, .int 0, .ref 212, .ref 213, .ref 214, .ref 215, .ref 216, .int 0, .int 0, .int 0, .int 0, .int 0, .int (-9), .ref 223, .int 0, .int (-9), .ref 226, .ref 227, .ref 228, .ref 229, .ref 230, .int 0, .ref 232, .int 0, .ref 234, .null, .null, .int 0, .int 0, .null, .null, .int 0, .int 0, .int 0, .long 0]) := by rw [hS46]; exact (mj_nw_ne (by decide)).trans f45
  have fa46 : S46.2 235 = (.inl (0, 6, .inl (fun _ => 0))) := by rw [hS46]; exact mj_nw_eq
  have hL46 : S46.1 = [0, 1, 3, 6, 10, 11, 12, 16, 17, 20, 21, 22, 23, 24, 25, 30, 31, 32, 33, 36, 37, 40, 47, 48, 49, 50, 51, 52, 53, 54, 55, 56, 60, 61, 64, 100, 105, 106, 107, 108, 109, 110, 111, 112, 120, 125, 126, 127, 128, 129, 130, 131, 132, 200, 201, 203, 204, 205, 206, 207, 212, 213, 214, 215, 216, 223, 226, 227, 228, 229, 230, 232, 234, 235] := by rw [hS46]; show S45.1 ++ [235] = _; rw [hL45]; rfl
  have hp46 : ∀ i ∈ S46.1, i ∉ [200] → S46.2 i = mb_c (mz_M s) i := by
    intro i hi he
    rw [hS46] at hi ⊢
    rcases List.mem_append.mp hi with hi | hi
    · exact (mj_nw_ne (fun (e : i = 235) => (show 235 ∉ S45.1 by rw [hL45]; decide) (e ▸ hi))).trans (hp45 i hi he)
    · rw [List.mem_singleton.mp hi]; exact mj_nw_eq.trans rfl
  refine ro_putF hK gM_74 f46 (by show 35 < 45; decide) (fun _ => rfl) (fun _ => rfl) dM_init_194 ?_
  obtain ⟨S47, hS47⟩ : ∃ T, T = mj_up S46 200 (.inr (5, [.int 0, .ref 201, .int 0, .ref 203, .ref 204, .ref 205, .ref 206, .ref 207, .int 0, .int 0, .int 0, .int 0, .ref 212, .ref 213, .ref 214, .ref 215, .ref 216, .int 0, .int 0, .int 0, .int 0, .int 0, .int (-9), .ref 223, .int 0, .int (-9), .ref 226, .ref 227, .ref 228, .ref 229, .ref 230, .int 0, .ref 232, .int 0, .ref 234, .ref 235, .null, .int 0, .int 0, .null, .null, .int 0, .int 0, .int 0, .long 0])) := ⟨_, rfl⟩
  show K _ _ 197 _ _ (mj_up S46 200 (.inr (5, [.int 0, .ref 201, .int 0, .ref 203, .ref 204, .ref 205, .ref 206, .ref 207, .int 0, .int 0, .int 0, .int 0, .ref 212, .ref 213, .ref 214, .ref 215, .ref 216, .int 0, .int 0, .int 0, .int 0, .int 0, .int (-9), .ref 223, .int 0, .int (-9), .ref 226, .ref 227, .ref 228, .ref 229, .ref 230, .int 0, .ref 232, .int 0, .ref 234, .ref 235, .null, .int 0, .int 0, .null, .null, .int 0, .int 0, .int 0, .long 0])))
  rw [← hS47]
  have f47 : S47.2 200 = .inr (5, [.int 0, .ref 201, .int 0, .ref 203, .ref 204, .ref 205, .ref 206, .ref 207, .int 0, .int 0, .int 0, .int 0, .ref 212, .ref 213, .ref 214, .ref 215, .ref 216, .int 0, .int 0, .int 0, .int 0, .int 0, .int (-9), .ref 223, .int 0, .int (-9), .ref 226, .ref 227, .ref 228, .ref 229, .ref 230, .int 0, .ref 232, .int 0, .ref 234, .ref 235, .null, .int 0, .int 0, .null, .null, .int 0, .int 0, .int 0, .long 0]) := by rw [hS47]; exact mj_up_eq
  have hL47 : S47.1 = [0, 1, 3, 6, 10, 11, 12, 16, 17, 20, 21, 22, 23, 24, 25, 30, 31, 32, 33, 36, 37, 40, 47, 48, 49, 50, 51, 52, 53, 54, 55, 56, 60, 61, 64, 100, 105, 106, 107, 108, 109, 110, 111, 112, 120, 125, 126, 127, 128, 129, 130, 131, 132, 200, 201, 203, 204, 205, 206, 207, 212, 213, 214, 215, 216, 223, 226, 227, 228, 229, 230, 232, 234, 235] := by rw [hS47]; exact hL46
  have hp47 : ∀ i ∈ S47.1, i ∉ [200] → S47.2 i = mb_c (mz_M s) i := by
    intro i hi he
    rw [hS47] at hi ⊢
    exact (mj_up_ne (fun e => he (by rw [e]; simp))).trans (hp46 i hi he)
  refine ro_aload_n hK dM_init_197 rfl ?_
  refine ro_bipush (x := 6) hK (by decide) dM_init_198 ?_
  refine ro_newI (i := 236) (N := 6) hK (by decide) (by decide) (by decide) (by rw [hL47]; decide) (by decide) ⟨by decide, by decide⟩ dM_init_200 ?_
  obtain ⟨S48, hS48⟩ : ∃ T, T = mj_nw S47 236 (.inl (0, 6, .inl (fun _ => 0))) := ⟨_, rfl⟩
  rw [← hS48]
  have f48 : S48.2 200 = .inr (5, [.int 0, .ref 201, .int 0, .ref 203, .ref 204, .ref 205, .ref 206, .ref 207, .int 0, .int 0, .int 0, .int 0, .ref 212, .ref 213, .ref 214, .ref 215, .ref 216, .int 0, .int 0, .int 0, .int 0, .int 0, .int (-9), .ref 223, .int 0, .int (-9), .ref 226, .ref 227, .ref 228, .ref 229, .ref 230, .int 0, .ref 232, .int 0, .ref 234, .ref 235, .null, .int 0, .int 0, .null, .null, .int 0, .int 0, .int 0, .long 0]) := by rw [hS48]; exact (mj_nw_ne (by decide)).trans f47
  have fa48 : S48.2 236 = (.inl (0, 6, .inl (fun _ => 0))) := by rw [hS48]; exact mj_nw_eq
  have hL48 : S48.1 = [0, 1, 3, 6, 10, 11, 12, 16, 17, 20, 21, 22, 23, 24, 25, 30, 31, 32, 33, 36, 37, 40, 47, 48, 49, 50, 51, 52, 53, 54, 55, 56, 60, 61, 64, 100, 105, 106, 107, 108, 109, 110, 111, 112, 120, 125, 126, 127, 128, 129, 130, 131, 132, 200, 201, 203, 204, 205, 206, 207, 212, 213, 214, 215, 216, 223, 226, 227, 228, 229, 230, 232, 234, 235, 236] := by rw [hS48]; show S47.1 ++ [236] = _; rw [hL47]; rfl
  have hp48 : ∀ i ∈ S48.1, i ∉ [200] → S48.2 i = mb_c (mz_M s) i := by
    intro i hi he
    rw [hS48] at hi ⊢
    rcases List.mem_append.mp hi with hi | hi
    · exact (mj_nw_ne (fun (e : i = 236) => (show 236 ∉ S47.1 by rw [hL47]; decide) (e ▸ hi))).trans (hp47 i hi he)
    · rw [List.mem_singleton.mp hi]; exact mj_nw_eq.trans rfl
  refine ro_putF hK gM_77 f48 (by show 36 < 45; decide) (fun _ => rfl) (fun _ => rfl) dM_init_202 ?_
  obtain ⟨S49, hS49⟩ : ∃ T, T = mj_up S48 200 (.inr (5, [.int 0, .ref 201, .int 0, .ref 203, .ref 204, .ref 205, .ref 206, .ref 207, .int 0, .int 0, .int 0, .int 0, .ref 212, .ref 213, .ref 214, .ref 215, .ref 216, .int 0, .int 0, .int 0, .int 0, .int 0, .int (-9), .ref 223, .int 0, .int (-9), .ref 226, .ref 227, .ref 228, .ref 229, .ref 230, .int 0, .ref 232, .int 0, .ref 234, .ref 235, .ref 236, .int 0, .int 0, .null, .null, .int 0, .int 0, .int 0, .long 0])) := ⟨_, rfl⟩
  show K _ _ 205 _ _ (mj_up S48 200 (.inr (5, [.int 0, .ref 201, .int 0, .ref 203, .ref 204, .ref 205, .ref 206, .ref 207, .int 0, .int 0, .int 0, .int 0, .ref 212, .ref 213, .ref 214, .ref 215, .ref 216, .int 0, .int 0, .int 0, .int 0, .int 0, .int (-9), .ref 223, .int 0, .int (-9), .ref 226, .ref 227, .ref 228, .ref 229, .ref 230, .int 0, .ref 232, .int 0, .ref 234, .ref 235, .ref 236, .int 0, .int 0, .null, .null, .int 0, .int 0, .int 0, .long 0])))
  rw [← hS49]
  have f49 : S49.2 200 = .inr (5, [.int 0, .ref 201, .int 0, .ref 203, .ref 204, .ref 205, .ref 206, .ref 207, .int 0, .int 0, .int 0, .int 0, .ref 212, .ref 213, .ref 214, .ref 215, .ref 216, .int 0, .int 0, .int 0, .int 0, .int 0, .int (-9), .ref 223, .int 0, .int (-9), .ref 226, .ref 227, .ref 228, .ref 229, .ref 230, .int 0, .ref 232, .int 0, .ref 234, .ref 235, .ref 236, .int 0, .int 0, .null, .null, .int 0, .int 0, .int 0, .long 0]) := by rw [hS49]; exact mj_up_eq
  have hL49 : S49.1 = [0, 1, 3, 6, 10, 11, 12, 16, 17, 20, 21, 22, 23, 24, 25, 30, 31, 32, 33, 36, 37, 40, 47, 48, 49, 50, 51, 52, 53, 54, 55, 56, 60, 61, 64, 100, 105, 106, 107, 108, 109, 110, 111, 112, 120, 125, 126, 127, 128, 129, 130, 131, 132, 200, 201, 203, 204, 205, 206, 207, 212, 213, 214, 215, 216, 223, 226, 227, 228, 229, 230, 232, 234, 235, 236] := by rw [hS49]; exact hL48
  have hp49 : ∀ i ∈ S49.1, i ∉ [200] → S49.2 i = mb_c (mz_M s) i := by
    intro i hi he
    rw [hS49] at hi ⊢
    exact (mj_up_ne (fun e => he (by rw [e]; simp))).trans (hp48 i hi he)
  refine ro_aload_n hK dM_init_205 rfl ?_
  refine ro_iconst (x := 5) hK (by decide) dM_init_206 ?_
  refine ro_newI (i := 239) (N := 5) hK (by decide) (by decide) (by decide) (by rw [hL49]; decide) (by decide) ⟨by decide, by decide⟩ dM_init_207 ?_
  obtain ⟨S50, hS50⟩ : ∃ T, T = mj_nw S49 239 (.inl (0, 5, .inl (fun _ => 0))) := ⟨_, rfl⟩
  rw [← hS50]
  have f50 : S50.2 200 = .inr (5, [.int 0, .ref 201, .int 0, .ref 203, .ref 204, .ref 205, .ref 206, .ref 207, .int 0, .int 0, .int 0, .int 0, .ref 212, .ref 213, .ref 214, .ref 215, .ref 216, .int 0, .int 0, .int 0, .int 0, .int 0, .int (-9), .ref 223, .int 0, .int (-9), .ref 226, .ref 227, .ref 228, .ref 229, .ref 230, .int 0, .ref 232, .int 0, .ref 234, .ref 235, .ref 236, .int 0, .int 0, .null, .null, .int 0, .int 0, .int 0, .long 0]) := by rw [hS50]; exact (mj_nw_ne (by decide)).trans f49
  have fa50 : S50.2 239 = (.inl (0, 5, .inl (fun _ => 0))) := by rw [hS50]; exact mj_nw_eq
  have hL50 : S50.1 = [0, 1, 3, 6, 10, 11, 12, 16, 17, 20, 21, 22, 23, 24, 25, 30, 31, 32, 33, 36, 37, 40, 47, 48, 49, 50, 51, 52, 53, 54, 55, 56, 60, 61, 64, 100, 105, 106, 107, 108, 109, 110, 111, 112, 120, 125, 126, 127, 128, 129, 130, 131, 132, 200, 201, 203, 204, 205, 206, 207, 212, 213, 214, 215, 216, 223, 226, 227, 228, 229, 230, 232, 234, 235, 236, 239] := by rw [hS50]; show S49.1 ++ [239] = _; rw [hL49]; rfl
  have hp50 : ∀ i ∈ S50.1, i ∉ [200] → S50.2 i = mb_c (mz_M s) i := by
    intro i hi he
    rw [hS50] at hi ⊢
    rcases List.mem_append.mp hi with hi | hi
    · exact (mj_nw_ne (fun (e : i = 239) => (show 239 ∉ S49.1 by rw [hL49]; decide) (e ▸ hi))).trans (hp49 i hi he)
    · rw [List.mem_singleton.mp hi]; exact mj_nw_eq.trans rfl
  refine ro_putF hK gM_80 f50 (by show 39 < 45; decide) (fun _ => rfl) (fun _ => rfl) dM_init_209 ?_
  obtain ⟨S51, hS51⟩ : ∃ T, T = mj_up S50 200 (.inr (5, [.int 0, .ref 201, .int 0, .ref 203, .ref 204, .ref 205, .ref 206, .ref 207, .int 0, .int 0, .int 0, .int 0, .ref 212, .ref 213, .ref 214, .ref 215, .ref 216, .int 0, .int 0, .int 0, .int 0, .int 0, .int (-9), .ref 223, .int 0, .int (-9), .ref 226, .ref 227, .ref 228, .ref 229, .ref 230, .int 0, .ref 232, .int 0, .ref 234, .ref 235, .ref 236, .int 0, .int 0, .ref 239, .null, .int 0, .int 0, .int 0, .long 0])) := ⟨_, rfl⟩
  show K _ _ 212 _ _ (mj_up S50 200 (.inr (5, [.int 0, .ref 201, .int 0, .ref 203, .ref 204, .ref 205, .ref 206, .ref 207, .int 0, .int 0, .int 0, .int 0, .ref 212, .ref 213, .ref 214, .ref 215, .ref 216, .int 0, .int 0, .int 0, .int 0, .int 0, .int (-9), .ref 223, .int 0, .int (-9), .ref 226, .ref 227, .ref 228, .ref 229, .ref 230, .int 0, .ref 232, .int 0, .ref 234, .ref 235, .ref 236, .int 0, .int 0, .ref 239, .null, .int 0, .int 0, .int 0, .long 0])))
  rw [← hS51]
  have f51 : S51.2 200 = .inr (5, [.int 0, .ref 201, .int 0, .ref 203, .ref 204, .ref 205, .ref 206, .ref 207, .int 0, .int 0, .int 0, .int 0, .ref 212, .ref 213, .ref 214, .ref 215, .ref 216, .int 0, .int 0, .int 0, .int 0, .int 0, .int (-9), .ref 223, .int 0, .int (-9), .ref 226, .ref 227, .ref 228, .ref 229, .ref 230, .int 0, .ref 232, .int 0, .ref 234, .ref 235, .ref 236, .int 0, .int 0, .ref 239, .null, .int 0, .int 0, .int 0, .long 0]) := by rw [hS51]; exact mj_up_eq
  have hL51 : S51.1 = [0, 1, 3, 6, 10, 11, 12, 16, 17, 20, 21, 22, 23, 24, 25, 30, 31, 32, 33, 36, 37, 40, 47, 48, 49, 50, 51, 52, 53, 54, 55, 56, 60, 61, 64, 100, 105, 106, 107, 108, 109, 110, 111, 112, 120, 125, 126, 127, 128, 129, 130, 131, 132, 200, 201, 203, 204, 205, 206, 207, 212, 213, 214, 215, 216, 223, 226, 227, 228, 229, 230, 232, 234, 235, 236, 239] := by rw [hS51]; exact hL50
  have hp51 : ∀ i ∈ S51.1, i ∉ [200] → S51.2 i = mb_c (mz_M s) i := by
    intro i hi he
    rw [hS51] at hi ⊢
    exact (mj_up_ne (fun e => he (by rw [e]; simp))).trans (hp50 i hi he)
  refine ro_aload_n hK dM_init_212 rfl ?_
  refine ro_iconst (x := 5) hK (by decide) dM_init_213 ?_
  refine ro_newI (i := 240) (N := 5) hK (by decide) (by decide) (by decide) (by rw [hL51]; decide) (by decide) ⟨by decide, by decide⟩ dM_init_214 ?_
  obtain ⟨S52, hS52⟩ : ∃ T, T = mj_nw S51 240 (.inl (0, 5, .inl (fun _ => 0))) := ⟨_, rfl⟩
  rw [← hS52]
  have f52 : S52.2 200 = .inr (5, [.int 0, .ref 201, .int 0, .ref 203, .ref 204, .ref 205, .ref 206, .ref 207, .int 0, .int 0, .int 0, .int 0, .ref 212, .ref 213, .ref 214, .ref 215, .ref 216, .int 0, .int 0, .int 0, .int 0, .int 0, .int (-9), .ref 223, .int 0, .int (-9), .ref 226, .ref 227, .ref 228, .ref 229, .ref 230, .int 0, .ref 232, .int 0, .ref 234, .ref 235, .ref 236, .int 0, .int 0, .ref 239, .null, .int 0, .int 0, .int 0, .long 0]) := by rw [hS52]; exact (mj_nw_ne (by decide)).trans f51
  have fa52 : S52.2 240 = (.inl (0, 5, .inl (fun _ => 0))) := by rw [hS52]; exact mj_nw_eq
  have hL52 : S52.1 = [0, 1, 3, 6, 10, 11, 12, 16, 17, 20, 21, 22, 23, 24, 25, 30, 31, 32, 33, 36, 37, 40, 47, 48, 49, 50, 51, 52, 53, 54, 55, 56, 60, 61, 64, 100, 105, 106, 107, 108, 109, 110, 111, 112, 120, 125, 126, 127, 128, 129, 130, 131, 132, 200, 201, 203, 204, 205, 206, 207, 212, 213, 214, 215, 216, 223, 226, 227, 228, 229, 230, 232, 234, 235, 236, 239, 240] := by rw [hS52]; show S51.1 ++ [240] = _; rw [hL51]; rfl
  have hp52 : ∀ i ∈ S52.1, i ∉ [200] → S52.2 i = mb_c (mz_M s) i := by
    intro i hi he
    rw [hS52] at hi ⊢
    rcases List.mem_append.mp hi with hi | hi
    · exact (mj_nw_ne (fun (e : i = 240) => (show 240 ∉ S51.1 by rw [hL51]; decide) (e ▸ hi))).trans (hp51 i hi he)
    · rw [List.mem_singleton.mp hi]; exact mj_nw_eq.trans rfl
  refine ro_putF hK gM_83 f52 (by show 40 < 45; decide) (fun _ => rfl) (fun _ => rfl) dM_init_216 ?_
  obtain ⟨S53, hS53⟩ : ∃ T, T = mj_up S52 200 (.inr (5, [.int 0, .ref 201, .int 0, .ref 203, .ref 204, .ref 205, .ref 206, .ref 207, .int 0, .int 0, .int 0, .int 0, .ref 212, .ref 213, .ref 214, .ref 215, .ref 216, .int 0, .int 0, .int 0, .int 0, .int 0, .int (-9), .ref 223, .int 0, .int (-9), .ref 226, .ref 227, .ref 228, .ref 229, .ref 230, .int 0, .ref 232, .int 0, .ref 234, .ref 235, .ref 236, .int 0, .int 0, .ref 239, .ref 240, .int 0, .int 0, .int 0, .long 0])) := ⟨_, rfl⟩
  show K _ _ 219 _ _ (mj_up S52 200 (.inr (5, [.int 0, .ref 201, .int 0, .ref 203, .ref 204, .ref 205, .ref 206, .ref 207, .int 0, .int 0, .int 0, .int 0, .ref 212, .ref 213, .ref 214, .ref 215, .ref 216, .int 0, .int 0, .int 0, .int 0, .int 0, .int (-9), .ref 223, .int 0, .int (-9), .ref 226, .ref 227, .ref 228, .ref 229, .ref 230, .int 0, .ref 232, .int 0, .ref 234, .ref 235, .ref 236, .int 0, .int 0, .ref 239, .ref 240, .int 0, .int 0, .int 0, .long 0])))
  rw [← hS53]
  have f53 : S53.2 200 = .inr (5, [.int 0, .ref 201, .int 0, .ref 203, .ref 204, .ref 205, .ref 206, .ref 207, .int 0, .int 0, .int 0, .int 0, .ref 212, .ref 213, .ref 214, .ref 215, .ref 216, .int 0, .int 0, .int 0, .int 0, .int 0, .int (-9), .ref 223, .int 0, .int (-9), .ref 226, .ref 227, .ref 228, .ref 229, .ref 230, .int 0, .ref 232, .int 0, .ref 234, .ref 235, .ref 236, .int 0, .int 0, .ref 239, .ref 240, .int 0, .int 0, .int 0, .long 0]) := by rw [hS53]; exact mj_up_eq
  have hL53 : S53.1 = [0, 1, 3, 6, 10, 11, 12, 16, 17, 20, 21, 22, 23, 24, 25, 30, 31, 32, 33, 36, 37, 40, 47, 48, 49, 50, 51, 52, 53, 54, 55, 56, 60, 61, 64, 100, 105, 106, 107, 108, 109, 110, 111, 112, 120, 125, 126, 127, 128, 129, 130, 131, 132, 200, 201, 203, 204, 205, 206, 207, 212, 213, 214, 215, 216, 223, 226, 227, 228, 229, 230, 232, 234, 235, 236, 239, 240] := by rw [hS53]; exact hL52
  have hp53 : ∀ i ∈ S53.1, i ∉ [200] → S53.2 i = mb_c (mz_M s) i := by
    intro i hi he
    rw [hS53] at hi ⊢
    exact (mj_up_ne (fun e => he (by rw [e]; simp))).trans (hp52 i hi he)
  have hLz : mb_L (mz_M s) = [0, 1, 3, 6, 10, 11, 12, 16, 17, 20, 21, 22, 23, 24, 25, 30, 31, 32, 33, 36, 37, 40, 47, 48, 49, 50, 51, 52, 53, 54, 55, 56, 60, 61, 64, 100, 105, 106, 107, 108, 109, 110, 111, 112, 120, 125, 126, 127, 128, 129, 130, 131, 132, 200, 201, 203, 204, 205, 206, 207, 212, 213, 214, 215, 216, 223, 226, 227, 228, 229, 230, 232, 234, 235, 236, 239, 240] := by unfold mb_L mz_M; rw [hkp]; rfl
  refine ro_eqv (S' := mb_s (mz_M s)) hK (by show (mb_L (mz_M s)).Nodup; rw [hLz]; decide +kernel) (fun i => ?_) ?_ ?_
  · show i ∈ mb_L (mz_M s) ↔ _
    rw [hL53, hLz]
  · show ∀ i ∈ mb_L (mz_M s), mb_c (mz_M s) i = S53.2 i
    intro i hi
    rw [hLz] at hi
    have hi2 : i ∈ S53.1 := by rw [hL53]; exact (show ∀ i ∈ [0, 1, 3, 6, 10, 11, 12, 16, 17, 20, 21, 22, 23, 24, 25, 30, 31, 32, 33, 36, 37, 40, 47, 48, 49, 50, 51, 52, 53, 54, 55, 56, 60, 61, 64, 100, 105, 106, 107, 108, 109, 110, 111, 112, 120, 125, 126, 127, 128, 129, 130, 131, 132, 200, 201, 203, 204, 205, 206, 207, 212, 213, 214, 215, 216, 223, 226, 227, 228, 229, 230, 232, 234, 235, 236, 239, 240], i ∈ [0, 1, 3, 6, 10, 11, 12, 16, 17, 20, 21, 22, 23, 24, 25, 30, 31, 32, 33, 36, 37, 40, 47, 48, 49, 50, 51, 52, 53, 54, 55, 56, 60, 61, 64, 100, 105, 106, 107, 108, 109, 110, 111, 112, 120, 125, 126, 127, 128, 129, 130, 131, 132, 200, 201, 203, 204, 205, 206, 207, 212, 213, 214, 215, 216, 223, 226, 227, 228, 229, 230, 232, 234, 235, 236, 239, 240] by decide +kernel) i hi
    by_cases e : i = 200
    · rw [e]; exact (f53.trans rfl).symm
    · exact (hp53 i hi2 (fun q8 => e (List.mem_singleton.mp q8))).symm
  · exact ts_M_init (n := n) ⟨by decide, by decide⟩ hK hR h
