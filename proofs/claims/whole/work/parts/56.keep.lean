def sK (σ : mb_T) (k : Nat) : mb_T := (fun a b => if a = 140 + 20 * k then 0 else σ.1 a b, fun a => if 140 + 20 * k + 5 ≤ a ∧ a ≤ 140 + 20 * k + 12 then (fun _ => 0) else σ.2.1 a, σ.2.2.1, σ.2.2.2.1, fun q => if q = k then true else σ.2.2.2.2 q)
theorem mb_L_mem {σ : mb_T} {i : Nat} : i ∈ mb_L σ ↔ i ∈ mb_st ∨ (σ.2.2.2.2 3 = true ∧ i ∈ mb_sm) ∨ (σ.2.2.2.2 0 = true ∧ i ∈ mb_kc 140) ∨ (σ.2.2.2.2 1 = true ∧ i ∈ mb_kc 160) ∨ (σ.2.2.2.2 2 = true ∧ i ∈ mb_kc 180) := by
  have h : ∀ (b : Bool) (l : List Nat), i ∈ (if b = true then l else []) ↔ (b = true ∧ i ∈ l) := by
    intro b l
    cases b <;> simp
  unfold mb_L
  simp only [List.mem_append]
  rw [h, h, h, h]
theorem mb_L_nd (σ : mb_T) : (mb_L σ).Nodup := by
  unfold mb_L
  generalize σ.2.2.2.2 0 = b0
  generalize σ.2.2.2.2 1 = b1
  generalize σ.2.2.2.2 2 = b2
  generalize σ.2.2.2.2 3 = b3
  revert b0 b1 b2 b3
  decide +kernel
theorem mb_c_congr {σ σ' : mb_T} {i : Nat} (hk : (mb_k i).1 ≠ 4) (hF : ∀ b, σ'.1 i b = σ.1 i b) (hA : σ'.2.1 i = σ.2.1 i) (hJ : σ'.2.2.1 i = σ.2.2.1 i) (hg : σ'.2.2.2.1 i = σ.2.2.2.1 i) : mb_c σ' i = mb_c σ i := by
  unfold mb_c
  generalize mb_k i = km at hk
  split
  · rw [hA]
  · rw [hA]
  · rfl
  · rfl
  · exact absurd rfl hk
  · simp only [mb_f, mb_fA, hF]
  · simp only [mb_f, mb_fV, hF]
  · simp only [mb_f, mb_fR, hF, hg]
  · simp only [mb_f, mb_fS, hF]
  · simp only [mb_f, mb_fC, hF]
  · simp only [mb_f, mb_fM, hF, hJ]
  · rfl
theorem mb_k4 {σ : mb_T} {i : Nat} (h : i ∈ mb_L σ) (h6 : i ≠ 6) : (mb_k i).1 ≠ 4 := by
  rcases mb_L_mem.mp h with h | ⟨-, h⟩ | ⟨-, h⟩ | ⟨-, h⟩ | ⟨-, h⟩
  · exact (show ∀ i ∈ mb_st, i ≠ 6 → (mb_k i).1 ≠ 4 by decide +kernel) i h h6
  · exact (show ∀ i ∈ mb_sm, i ≠ 6 → (mb_k i).1 ≠ 4 by decide +kernel) i h h6
  · exact (show ∀ i ∈ mb_kc 140, i ≠ 6 → (mb_k i).1 ≠ 4 by decide +kernel) i h h6
  · exact (show ∀ i ∈ mb_kc 160, i ≠ 6 → (mb_k i).1 ≠ 4 by decide +kernel) i h h6
  · exact (show ∀ i ∈ mb_kc 180, i ≠ 6 → (mb_k i).1 ≠ 4 by decide +kernel) i h h6
theorem mb_K_fr {σ : mb_T} {q : Nat} (hq : q < 3) (h : ¬ σ.2.2.2.2 q = true) : ∀ i ∈ mb_kc (140 + 20 * q), i ∉ mb_L σ := by
  intro i hi hL
  have hq3 : q = 0 ∨ q = 1 ∨ q = 2 := by omega
  rcases hq3 with rfl | rfl | rfl
  · rcases mb_L_mem.mp hL with h1 | ⟨-, h1⟩ | ⟨h0, h1⟩ | ⟨-, h1⟩ | ⟨-, h1⟩
    · exact (show ∀ i ∈ mb_kc 140, i ∉ mb_st by decide +kernel) i hi h1
    · exact (show ∀ i ∈ mb_kc 140, i ∉ mb_sm by decide +kernel) i hi h1
    · exact h h0
    · exact (show ∀ i ∈ mb_kc 140, i ∉ mb_kc 160 by decide +kernel) i hi h1
    · exact (show ∀ i ∈ mb_kc 140, i ∉ mb_kc 180 by decide +kernel) i hi h1
  · rcases mb_L_mem.mp hL with h1 | ⟨-, h1⟩ | ⟨-, h1⟩ | ⟨h0, h1⟩ | ⟨-, h1⟩
    · exact (show ∀ i ∈ mb_kc 160, i ∉ mb_st by decide +kernel) i hi h1
    · exact (show ∀ i ∈ mb_kc 160, i ∉ mb_sm by decide +kernel) i hi h1
    · exact (show ∀ i ∈ mb_kc 160, i ∉ mb_kc 140 by decide +kernel) i hi h1
    · exact h h0
    · exact (show ∀ i ∈ mb_kc 160, i ∉ mb_kc 180 by decide +kernel) i hi h1
  · rcases mb_L_mem.mp hL with h1 | ⟨-, h1⟩ | ⟨-, h1⟩ | ⟨-, h1⟩ | ⟨h0, h1⟩
    · exact (show ∀ i ∈ mb_kc 180, i ∉ mb_st by decide +kernel) i hi h1
    · exact (show ∀ i ∈ mb_kc 180, i ∉ mb_sm by decide +kernel) i hi h1
    · exact (show ∀ i ∈ mb_kc 180, i ∉ mb_kc 140 by decide +kernel) i hi h1
    · exact (show ∀ i ∈ mb_kc 180, i ∉ mb_kc 160 by decide +kernel) i hi h1
    · exact h h0
theorem mb_K_mem {σ : mb_T} {q i : Nat} (hq : q < 3) : i ∈ mb_L (sK σ q) ↔ i ∈ mb_L σ ∨ i ∈ mb_kc (140 + 20 * q) := by
  have hq3 : q = 0 ∨ q = 1 ∨ q = 2 := by omega
  rw [mb_L_mem, mb_L_mem]
  rcases hq3 with rfl | rfl | rfl
  · show i ∈ mb_st ∨ (σ.2.2.2.2 3 = true ∧ i ∈ mb_sm) ∨ (true = true ∧ i ∈ mb_kc 140) ∨ (σ.2.2.2.2 1 = true ∧ i ∈ mb_kc 160) ∨ (σ.2.2.2.2 2 = true ∧ i ∈ mb_kc 180) ↔ _
    constructor
    · rintro (h | h | h | h | h)
      · exact Or.inl (Or.inl h)
      · exact Or.inl (Or.inr (Or.inl h))
      · exact Or.inr h.2
      · exact Or.inl (Or.inr (Or.inr (Or.inr (Or.inl h))))
      · exact Or.inl (Or.inr (Or.inr (Or.inr (Or.inr h))))
    · rintro ((h | h | h | h | h) | h)
      · exact Or.inl h
      · exact Or.inr (Or.inl h)
      · exact Or.inr (Or.inr (Or.inl ⟨rfl, h.2⟩))
      · exact Or.inr (Or.inr (Or.inr (Or.inl h)))
      · exact Or.inr (Or.inr (Or.inr (Or.inr h)))
      · exact Or.inr (Or.inr (Or.inl ⟨rfl, h⟩))
  · show i ∈ mb_st ∨ (σ.2.2.2.2 3 = true ∧ i ∈ mb_sm) ∨ (σ.2.2.2.2 0 = true ∧ i ∈ mb_kc 140) ∨ (true = true ∧ i ∈ mb_kc 160) ∨ (σ.2.2.2.2 2 = true ∧ i ∈ mb_kc 180) ↔ _
    constructor
    · rintro (h | h | h | h | h)
      · exact Or.inl (Or.inl h)
      · exact Or.inl (Or.inr (Or.inl h))
      · exact Or.inl (Or.inr (Or.inr (Or.inl h)))
      · exact Or.inr h.2
      · exact Or.inl (Or.inr (Or.inr (Or.inr (Or.inr h))))
    · rintro ((h | h | h | h | h) | h)
      · exact Or.inl h
      · exact Or.inr (Or.inl h)
      · exact Or.inr (Or.inr (Or.inl h))
      · exact Or.inr (Or.inr (Or.inr (Or.inl ⟨rfl, h.2⟩)))
      · exact Or.inr (Or.inr (Or.inr (Or.inr h)))
      · exact Or.inr (Or.inr (Or.inr (Or.inl ⟨rfl, h⟩)))
  · show i ∈ mb_st ∨ (σ.2.2.2.2 3 = true ∧ i ∈ mb_sm) ∨ (σ.2.2.2.2 0 = true ∧ i ∈ mb_kc 140) ∨ (σ.2.2.2.2 1 = true ∧ i ∈ mb_kc 160) ∨ (true = true ∧ i ∈ mb_kc 180) ↔ _
    constructor
    · rintro (h | h | h | h | h)
      · exact Or.inl (Or.inl h)
      · exact Or.inl (Or.inr (Or.inl h))
      · exact Or.inl (Or.inr (Or.inr (Or.inl h)))
      · exact Or.inl (Or.inr (Or.inr (Or.inr (Or.inl h))))
      · exact Or.inr h.2
    · rintro ((h | h | h | h | h) | h)
      · exact Or.inl h
      · exact Or.inr (Or.inl h)
      · exact Or.inr (Or.inr (Or.inl h))
      · exact Or.inr (Or.inr (Or.inr (Or.inl h)))
      · exact Or.inr (Or.inr (Or.inr (Or.inr ⟨rfl, h.2⟩)))
      · exact Or.inr (Or.inr (Or.inr (Or.inr ⟨rfl, h⟩)))
theorem dC_keep_0 : decode bC_keep 0 = .ok (.iload_n 1, 1) := by decide +kernel
theorem dC_keep_1 : decode bC_keep 1 = .ok (.invokestatic 222, 3) := by decide +kernel
theorem dC_keep_4 : decode bC_keep 4 = .ok (.ifCond .ne 5, 3) := by decide +kernel
theorem dC_keep_7 : decode bC_keep 7 = .ok (.iconst (-1), 1) := by decide +kernel
theorem dC_keep_8 : decode bC_keep 8 = .ok (.ireturn, 1) := by decide +kernel
theorem dC_keep_9 : decode bC_keep 9 = .ok (.aload_n 0, 1) := by decide +kernel
theorem dC_keep_10 : decode bC_keep 10 = .ok (.getfield 29, 3) := by decide +kernel
theorem dC_keep_13 : decode bC_keep 13 = .ok (.getfield 128, 3) := by decide +kernel
theorem dC_keep_16 : decode bC_keep 16 = .ok (.ifCond .ne 6, 3) := by decide +kernel
theorem dC_keep_19 : decode bC_keep 19 = .ok (.bipush (-4), 2) := by decide +kernel
theorem dC_keep_21 : decode bC_keep 21 = .ok (.ireturn, 1) := by decide +kernel
theorem dC_keep_22 : decode bC_keep 22 = .ok (.aload_n 0, 1) := by decide +kernel
theorem dC_keep_23 : decode bC_keep 23 = .ok (.getfield 36, 3) := by decide +kernel
theorem dC_keep_26 : decode bC_keep 26 = .ok (.iload_n 1, 1) := by decide +kernel
theorem dC_keep_27 : decode bC_keep 27 = .ok (.aaload, 1) := by decide +kernel
theorem dC_keep_28 : decode bC_keep 28 = .ok (.astore_n 2, 1) := by decide +kernel
theorem dC_keep_29 : decode bC_keep 29 = .ok (.aload_n 2, 1) := by decide +kernel
theorem dC_keep_30 : decode bC_keep 30 = .ok (.ifnonnull 18, 3) := by decide +kernel
theorem dC_keep_33 : decode bC_keep 33 = .ok (.new 26, 3) := by decide +kernel
theorem dC_keep_36 : decode bC_keep 36 = .ok (.dup, 1) := by decide +kernel
theorem dC_keep_37 : decode bC_keep 37 = .ok (.invokespecial 28, 3) := by decide +kernel
theorem dC_keep_40 : decode bC_keep 40 = .ok (.astore_n 2, 1) := by decide +kernel
theorem dC_keep_41 : decode bC_keep 41 = .ok (.aload_n 0, 1) := by decide +kernel
theorem dC_keep_42 : decode bC_keep 42 = .ok (.getfield 36, 3) := by decide +kernel
theorem dC_keep_45 : decode bC_keep 45 = .ok (.iload_n 1, 1) := by decide +kernel
theorem dC_keep_46 : decode bC_keep 46 = .ok (.aload_n 2, 1) := by decide +kernel
theorem dC_keep_47 : decode bC_keep 47 = .ok (.aastore, 1) := by decide +kernel
theorem dC_keep_48 : decode bC_keep 48 = .ok (.aload_n 2, 1) := by decide +kernel
theorem dC_keep_49 : decode bC_keep 49 = .ok (.aload_n 0, 1) := by decide +kernel
theorem dC_keep_50 : decode bC_keep 50 = .ok (.getfield 29, 3) := by decide +kernel
theorem dC_keep_53 : decode bC_keep 53 = .ok (.invokevirtual 121, 3) := by decide +kernel
theorem dC_keep_56 : decode bC_keep 56 = .ok (.aload_n 0, 1) := by decide +kernel
theorem dC_keep_57 : decode bC_keep 57 = .ok (.getfield 29, 3) := by decide +kernel
theorem dC_keep_60 : decode bC_keep 60 = .ok (.getfield 183, 3) := by decide +kernel
theorem dC_keep_63 : decode bC_keep 63 = .ok (.ireturn, 1) := by decide +kernel
set_option maxHeartbeats 4000000 in
set_option maxRecDepth 100000 in
/-- a new cave into its place -/
theorem rb_nc {d mc ms : Nat} {K : mj_KT} {u v : Nat} (hK : mj_C (d + 2) mc ms RC_c "keep" bC_keep 3 K) {j : Int32} {σ σ1 : mb_T} (i1 : vp_in j 3) (c1 : ¬ σ.2.2.2.2 j.toNatClampNeg = true) (hf : u + 9 ≤ mc ∧ v + 878 ≤ ms) (e : σ1 = sK σ j.toNatClampNeg) (kk : K (u + 9) (v + 878) 48 [.ref 0, .int j, .ref (140 + 20 * j.toNatClampNeg)] [] (mb_s σ1)) : K u v 33 [.ref 0, .int j, .null] [] (mb_s σ) := by
  have hlt : j.toNatClampNeg < 3 := Nat.not_le.mp fun q => i1 (Or.inr q)
  have hcv := mb_kcv i1
  have hfr := mb_K_fr hlt c1
  have hkm : ∀ i, i ∈ mb_L (sK σ j.toNatClampNeg) ↔ i ∈ mb_L σ ∨ i ∈ mb_kc (140 + 20 * j.toNatClampNeg) := fun i => mb_K_mem hlt
  obtain ⟨q, hq⟩ : ∃ q, q = j.toNatClampNeg := ⟨_, rfl⟩
  rw [← hq] at c1 e kk hlt hcv hfr hkm
  obtain ⟨c, hc⟩ : ∃ c, c = 140 + 20 * q := ⟨_, rfl⟩
  rw [← hc] at kk hcv hfr hkm
  have hcc : 140 ≤ c ∧ c ≤ 180 := by omega
  refine ro_newO (i := c) (ci := 1) (fs := [.int 0, .int 0, .int 0, .int 0, .int 0, .null, .null, .null, .null, .null, .null, .null, .null]) hK rfl nwC_26 tV_ok (by decide) (fun _ => rfl) (mj_nrefs rfl) (hfr c (by unfold mb_kc; simp)) (by omega) ⟨by omega, by omega⟩ dC_keep_33 ?_
  refine ro_dup hK dC_keep_36 rfl ?_
  refine ro_callIN (host := RC_c) hK mV_init (by decide +kernel) inV rfl (ti_V (dd := d) (c := c) mj_nw_eq (fun i hi => mj_fr (hfr i (List.mem_cons_of_mem _ hi)) ?_) (by omega)) rfl (Nat.le_of_ble_eq_true rfl) ⟨by omega, by omega⟩ dC_keep_37 rfl (fun r S2 q9 => ?_)
  · intro z
    rw [List.mem_singleton.mp z] at hi
    simp at hi
  obtain ⟨rfl, hS2⟩ := q9
  show K (u + 9) (v + 878) 40 _ [.ref c] S2
  have g0 : S2.2 0 = .inr (4, mb_f 4 σ 0) := by
    rw [hS2, mi_V_ne _ _ (by omega) (by simp only [List.mem_cons, List.not_mem_nil, or_false]; omega), mj_nw_ne (by omega)]
    exact mb_oC σ
  have g6 : S2.2 6 = mb_c σ 6 := by
    rw [hS2, mi_V_ne _ _ (by omega) (by simp only [List.mem_cons, List.not_mem_nil, or_false]; omega), mj_nw_ne (by omega)]
    rfl
  have gc := mi_V_o (mj_nw (mb_s σ) c (.inr (1, [.int 0, .int 0, .int 0, .int 0, .int 0, .null, .null, .null, .null, .null, .null, .null, .null]))) c
  rw [← hS2] at gc
  refine ro_astore_n hK dC_keep_40 (by decide) ?_
  show K (u + 9) (v + 878) 41 [.ref 0, .int j, .ref c] [] S2
  refine ro_aload_n hK dC_keep_41 rfl ?_
  refine ro_get hK fC_36 g0 rfl dC_keep_42 ?_
  refine ro_iload_n hK dC_keep_45 rfl ?_
  refine ro_aload_n hK dC_keep_46 rfl ?_
  refine ro_aast hK g6 gc i1 dC_keep_47 ?_
  rw [← hq]
  refine ro_eqv (S' := mb_s (sK σ q)) hK (mb_L_nd _) (fun i => ?_) (fun i hi => ?_) (e ▸ kk)
  · show i ∈ mb_L (sK σ q) ↔ i ∈ S2.1
    rw [hkm, hS2, mi_V_L]
    show _ ↔ i ∈ (mb_L σ ++ [c]) ++ _
    simp only [mb_kc, List.mem_append, List.mem_cons, List.not_mem_nil, or_false]
    constructor
    · rintro (h | h | h)
      · exact Or.inl (Or.inl h)
      · exact Or.inl (Or.inr h)
      · exact Or.inr h
    · rintro ((h | h) | h)
      · exact Or.inl h
      · exact Or.inr (Or.inl h)
      · exact Or.inr (Or.inr h)
  · show mb_c (sK σ q) i = (if i = 6 then _ else S2.2 i)
    by_cases h6 : i = 6
    · rw [if_pos h6, h6]
      show (Sum.inl (4, 3, .inr (.inr (.inr (.inr (fun x => if x < 3 ∧ (if x = q then true else σ.2.2.2.2 x) = true then some (140 + 20 * x) else none))))) : mj_E) = _
      have ef : (fun x => if x < 3 ∧ (if x = q then true else σ.2.2.2.2 x) = true then some (140 + 20 * x) else none) = va_up (fun x => if x < 3 ∧ σ.2.2.2.2 x = true then some (140 + 20 * x) else none) q (some c) := by
        funext x
        unfold va_up
        by_cases hx : x = q
        · rw [if_pos hx, if_pos hx, if_pos ⟨by omega, rfl⟩, hx, hc]
        · rw [if_neg hx, if_neg hx]
      rw [ef]
    · rw [if_neg h6]
      by_cases hic : i = c
      · rw [hic, gc, mb_cvo hcv]
        simp [mb_f, mb_fV, sK, ← hc]
      · by_cases hir : c + 5 ≤ i ∧ i ≤ c + 12
        · have hA : (sK σ q).2.1 i = fun _ => 0 := if_pos (by rw [← hc]; exact hir)
          have hs : i = c + 5 ∨ i = c + 6 ∨ i = c + 7 ∨ i = c + 8 ∨ i = c + 9 ∨ i = c + 10 ∨ i = c + 11 ∨ i = c + 12 := by omega
          rw [hS2]
          rcases hs with h | h | h | h | h | h | h | h
          · rw [h] at hA ⊢; rw [mb_cv5 hcv, hA, mi_V_0]
          · rw [h] at hA ⊢; rw [mb_cv6 hcv, hA, mi_V_1]
          · rw [h] at hA ⊢; rw [mb_cv7 hcv, hA, mi_V_2]
          · rw [h] at hA ⊢; rw [mb_cv8 hcv, hA, mi_V_3]
          · rw [h] at hA ⊢; rw [mb_cv9 hcv, hA, mi_V_4]
          · rw [h] at hA ⊢; rw [mb_cv10 hcv, hA, mi_V_5]
          · rw [h] at hA ⊢; rw [mb_cv11 hcv, hA, mi_V_6]
          · rw [h] at hA ⊢; rw [mb_cv12 hcv, hA, mi_V_7]
        · rw [hS2, mi_V_ne _ _ hic (by simp only [List.mem_cons, List.not_mem_nil, or_false]; omega), mj_nw_ne hic]
          exact mb_c_congr (mb_k4 hi h6) (fun b => if_neg (by rw [← hc]; exact hic)) (if_neg (by rw [← hc]; exact hir)) rfl rfl
def f_C_keep (n : Nat) (x1 : Int32) (s : mb_T) : Option (Int32 × mb_T) := mb_cl (f_C_isKeepingPlace n x1 s) fun r_3 s_1 => if r_3 = 0 then some ((-1), s_1) else if (s_1.1 100 0) = 0 then some ((-4), s_1) else mb_ix x1 3 (if s_1.2.2.2.2 x1.toNatClampNeg = true then mb_cw (f_V_become n (140 + 20 * x1.toNatClampNeg) 100 s_1) fun s_8 => some ((s_8.1 100 4), s_8) else mb_bd (sK s_1 x1.toNatClampNeg) fun s_10 => mb_cw (f_V_become n (140 + 20 * x1.toNatClampNeg) 100 s_10) fun s_12 => some ((s_12.1 100 4), s_12))
set_option maxHeartbeats 4000000 in
set_option maxRecDepth 100000 in
theorem t_C_keep {dd n : Nat} {x1 : Int32} {s : mb_T} {out : Int32 × mb_T} (h : f_C_keep n x1 s = some out) : mj_MC (dd + 3) 9 878 yC_keep bC_keep 3 (some .int) [.ref 0, .int x1] (mb_s s) (fun r2 S2 => r2 = some (.int out.1) ∧ S2 = mb_s out.2) := by
  unfold f_C_keep at h
  refine mj_mc (lv := [.ref 0, .int x1, .retAddr 0]) mC_keep rfl rfl (Nat.le_of_ble_eq_true rfl) (fun K hK hR => ?_)
  have hK : mj_C (dd + 3) 9 878 RC_c "keep" bC_keep 3 K := hK
  refine ro_iload_n hK dC_keep_0 rfl ?_
  obtain ⟨r_3, s_1, q_2, h⟩ := mb_cl_e h
  refine rb_callS hK mC_isKeepingPlace vC_222 (t_C_isKeepingPlace (dd := dd + 1) q_2) rfl (Nat.le_of_ble_eq_true rfl) dC_keep_1 rfl ⟨Nat.zero_le _, Nat.zero_le _⟩ ?_
  show K 0 0 4 [.ref 0, .int x1, .retAddr 0] [.int r_3] (mb_s s_1)
  refine ro_if_ne (tgt := 9) hK dC_keep_4 (by decide) (fun c_4 => ?_) (fun c_4 => ?_)
  · replace h := mb_iff c_4 h
    refine ro_aload_n hK dC_keep_9 rfl ?_
    refine rb_get hK fC_29 mb_oC rfl dC_keep_10 ?_
    refine rb_get hK fC_128 (mb_cvo (Or.inl rfl)) rfl dC_keep_13 ?_
    refine ro_if_ne (tgt := 22) hK dC_keep_16 (by decide) (fun c_5 => ?_) (fun c_5 => ?_)
    · replace h := mb_iff c_5 h
      refine ro_aload_n hK dC_keep_22 rfl ?_
      refine rb_get hK fC_36 mb_oC rfl dC_keep_23 ?_
      refine ro_iload_n hK dC_keep_26 rfl ?_
      obtain ⟨i_6, h⟩ := mb_ix_e h
      refine rb_kept hK i_6 dC_keep_27 (fun c_7 => ?_) (fun c_7 => ?_)
      · replace h := mb_ift c_7 h
        refine ro_astore_n hK dC_keep_28 (by decide) ?_
        show K 0 0 29 [.ref 0, .int x1, .ref (140 + 20 * x1.toNatClampNeg)] [] (mb_s s_1)
        refine ro_aload_n hK dC_keep_29 rfl ?_
        refine ro_ifnonnull (tgt := 48) hK dC_keep_30 (by decide) ?_
        refine ro_aload_n hK dC_keep_48 rfl ?_
        refine ro_aload_n hK dC_keep_49 rfl ?_
        refine rb_get hK fC_29 mb_oC rfl dC_keep_50 ?_
        obtain ⟨s_8, q_9, h⟩ := mb_cw_e h
        refine rb_callV hK mV_become vC_121 (t_V_become (dd := dd + 1) (mb_kcv i_6) (Or.inl rfl) q_9) rfl (mb_cvo (mb_kcv i_6)) rfl (Nat.le_of_ble_eq_true rfl) dC_keep_53 rfl ⟨Nat.zero_le _, Nat.zero_le _⟩ ?_
        show K 0 0 56 [.ref 0, .int x1, .ref (140 + 20 * x1.toNatClampNeg)] [] (mb_s s_8)
        refine ro_aload_n hK dC_keep_56 rfl ?_
        refine rb_get hK fC_29 mb_oC rfl dC_keep_57 ?_
        refine rb_get hK fC_183 (mb_cvo (Or.inl rfl)) rfl dC_keep_60 ?_
        cases h
        exact hR.1 0 0 63 _ _ _ _ rfl rfl dC_keep_63 ⟨rfl, rfl⟩
      · replace h := mb_iff c_7 h
        refine ro_astore_nN hK dC_keep_28 (by decide) ?_
        show K 0 0 29 [.ref 0, .int x1, .null] [] (mb_s s_1)
        refine ro_aload_nN hK dC_keep_29 rfl ?_
        refine ro_ifnonnullN hK dC_keep_30 ?_
        obtain ⟨s_10, e_11, h⟩ := mb_bd_e h
        refine rb_nc (d := dd + 1) hK i_6 c_7 ⟨by decide, by decide⟩ e_11 ?_
        show K 9 878 48 [.ref 0, .int x1, .ref (140 + 20 * x1.toNatClampNeg)] [] (mb_s s_10)
        refine ro_aload_n hK dC_keep_48 rfl ?_
        refine ro_aload_n hK dC_keep_49 rfl ?_
        refine rb_get hK fC_29 mb_oC rfl dC_keep_50 ?_
        obtain ⟨s_12, q_13, h⟩ := mb_cw_e h
        refine rb_callV hK mV_become vC_121 (t_V_become (dd := dd + 1) (mb_kcv i_6) (Or.inl rfl) q_13) rfl (mb_cvo (mb_kcv i_6)) rfl (Nat.le_of_ble_eq_true rfl) dC_keep_53 rfl ⟨Nat.le_refl _, Nat.le_refl _⟩ ?_
        show K 9 878 56 [.ref 0, .int x1, .ref (140 + 20 * x1.toNatClampNeg)] [] (mb_s s_12)
        refine ro_aload_n hK dC_keep_56 rfl ?_
        refine rb_get hK fC_29 mb_oC rfl dC_keep_57 ?_
        refine rb_get hK fC_183 (mb_cvo (Or.inl rfl)) rfl dC_keep_60 ?_
        cases h
        exact hR.1 9 878 63 _ _ _ _ rfl rfl dC_keep_63 ⟨rfl, rfl⟩
    · replace h := mb_ift c_5 h
      refine ro_bipush (x := (-4)) hK (by decide) dC_keep_19 ?_
      cases h
      exact hR.1 0 0 21 _ _ _ _ rfl rfl dC_keep_21 ⟨rfl, rfl⟩
  · replace h := mb_ift c_4 h
    refine ro_iconst (x := (-1)) hK (by decide) dC_keep_7 ?_
    cases h
    exact hR.1 0 0 8 _ _ _ _ rfl rfl dC_keep_8 ⟨rfl, rfl⟩
