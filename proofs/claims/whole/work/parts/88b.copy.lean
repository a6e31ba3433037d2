/-! the pure part: copies, means; findings -/
def sumL (g : Nat → Int32) (m : Nat) : Int64 := fo (fun i c => c + Int32.toInt64 (g i)) 0 m
theorem sumL_c {f g : Nat → Int32} {p : Nat} (H : ∀ x, x < p → f x = g x) : sumL f p = sumL g p := fo_congr fun i hi c => by rw [H i hi]
theorem sumL_s {g : Nat → Int32} {m : Nat} : sumL g (m + 1) = sumL g m + Int32.toInt64 (g m) := rfl
section RD
variable {s t u : mb_T} {n p a b q m i c k x y j l : Nat} {v : Int32} {z : zT} {w w2 : wT} {r : Bool} {law X Y V U T : Int32} {fs gs ks : List (Nat × Nat)} {as bs cs : List Nat} {hM nM : Nat → Int32}
theorem cs_finding : CS (f_C_finding n) (f_M_finding n) := fun s R => ⟨s.1 0 13, s, s, rfl, by
  show some (s.1 200 0, s) = _
  rw [R.2.2.1.1], R⟩
theorem cs_asked : CS (f_C_asked n) (f_M_asked n) := fun s R => ⟨s.1 0 14, s, s, rfl, by
  show some (s.1 200 2, s) = _
  rw [R.2.2.2.1], R⟩
theorem cs_findings : CS (f_C_findings n X) (f_M_findings n X) := by
  intro s R
  unfold f_C_findings f_M_findings
  by_cases h1 : X < 1
  · refine ⟨-1, s, s, by rw [if_pos h1], ?_, R⟩
    rw [pM_in, clS, inI, if_pos h1, if_pos rfl]
  · by_cases h5 : X ≤ 5
    · obtain ⟨j, j1, rfl⟩ := nI_of2 (M := 5) (n := 5) rfl (fun q => h1 (Int32.lt_of_lt_of_le q (by decide))) h5
      refine ⟨s.2.1 12 j, s, s, ?_, ?_, R⟩
      · rw [if_neg h1, if_pos h5, rdI (by omega) (by decide)]
      · rw [pM_in, clS, inI, if_neg h1, if_neg (Int32.not_lt.mpr h5), if_neg (by decide), rdI (by omega) (by decide), R.2.2.1.2 j (by omega)]
    · refine ⟨-1, s, s, by rw [if_neg h1, if_neg h5], ?_, R⟩
      rw [pM_in, clS, inI, if_neg h1, if_pos (Int32.not_le.mp h5), if_pos rfl]
theorem cs_mean (hn : 200 ≤ n) : CS (f_C_mean n X) (f_M_mean n X) := by
  intro s R
  rcases rngC (x := X) 6 with ⟨x, hx, rfl⟩ | hX
  · rcases R.1 x hx with ⟨m, m1, m2, m3, m4⟩ | ⟨m1, m2⟩
    · have LM : ∀ (u : mb_T) (k0 : Int64 → Int32 → mb_T → Option (Int32 × mb_T)), u.2.1 203 x = nI m → f_M_mean_17 n k0 (nI x) n 0 0 u = k0 (sumL (fun i => u.2.1 204 (60 * x + i)) m) (nI m) u := by
        intro u k0 hu
        refine lp (F := fun f (t : Int64 × Int32 × mb_T) => f_M_mean_17 n k0 (nI x) f t.1 t.2.1 t.2.2) (fun i => (sumL (fun i => u.2.1 204 (60 * x + i)) i, nI i, u)) m ?_ ?_ n (by omega)
        · intro i hi f
          dsimp only
          rw [f_M_mean_17.eq_2, rdI hx (by decide), hu, if_neg (npi (by omega) hi), pM_rowAt hx (by omega), clS, nI_1, sumL_s]
        · intro f
          dsimp only
          rw [f_M_mean_17.eq_2, rdI hx (by decide), hu, if_pos npp]
      rcases Nat.eq_zero_or_pos m with c | c
      · subst c
        refine ⟨-3, fC 4 s, fM 4 (fC 4 s), ?_, ?_, Rel_found R⟩
        · unfold f_C_mean
          rw [pC_rowR_t hx m2 m1, clS, if_pos rfl, rdI hx (by decide), m2, if_neg (by decide), pC_f4, clS]
        · unfold f_M_mean
          rw [pM_rowR_t (s := fC 4 s) (m := 0) hx m3 m1, clS, if_pos (by decide), LM (fC 4 s) _ m3, rdI hx (by decide), show (fC 4 s).2.1 203 x = nI 0 from m3, if_pos (by decide), pM_f4, clS]
      · have h64 : ¬ Int32.toInt64 (nI m) = 0 := by
          rw [nI_l (by omega), show (0 : Int64) = lN 0 from rfl, lN_eq (by omega) (by decide)]
          omega
        have LC : ∀ (k0 : Int64 → Int32 → mb_T → Option (Int32 × mb_T)), f_C_mean_35 n k0 (nI x) (nI m) n 0 0 s = k0 (sumL (s.2.1 (20 + x)) m) (nI m) s := by
          intro k0
          refine lp (F := fun f (t : Int64 × Int32 × mb_T) => f_C_mean_35 n k0 (nI x) (nI m) f t.1 t.2.1 t.2.2) (fun i => (sumL (s.2.1 (20 + x)) i, nI i, s)) m ?_ ?_ n (by omega)
          · intro i hi f
            dsimp only
            rw [f_C_mean_35.eq_2, if_neg (npi (by omega) hi), ixI hx (by decide), nI_clamp (by omega), rdI (by omega) (by decide), nI_1, sumL_s]
          · intro f
            dsimp only
            rw [f_C_mean_35.eq_2, if_pos npp]
        refine ⟨1, sF s 0 14 (Int64.toInt32 (sumL (s.2.1 (20 + x)) m / Int32.toInt64 (nI m))), _, ?_, ?_, Rel_ask (v := Int64.toInt32 (sumL (s.2.1 (20 + x)) m / Int32.toInt64 (nI m))) R⟩
        · unfold f_C_mean
          rw [pC_rowR_t hx m2 m1, clS, if_pos rfl, rdI hx (by decide), m2, if_pos (show (0 : Int32) < nI m from nI_lt (a := 0) c (by omega)), LC, mb_dl, if_neg h64, bdS]
        · have e := sumL_c (f := s.2.1 (20 + x)) (g := fun i => s.2.1 204 (60 * x + i)) (p := m) m4
          unfold f_M_mean
          rw [pM_rowR_t (m := m) hx (show (sF s 0 14 _).2.1 203 x = nI m from m3) m1, clS, if_pos (by decide), LM _ _ (show (sF s 0 14 _).2.1 203 x = nI m from m3), rdI hx (by decide), show (sF s 0 14 _).2.1 203 x = nI m from m3, if_neg (show ¬ nI m = (0 : Int32) from nI_ne0 c (by omega)), rdI hx (by decide), show (sF s 0 14 _).2.1 203 x = nI m from m3, mb_dl, if_neg h64, e]
          rfl
    · refine ⟨-3, fC 1 s, fM 1 (fC 1 s), ?_, ?_, Rel_found R⟩
      · unfold f_C_mean
        rw [pC_rowR_m hx m1, clS, if_neg (by decide)]
      · unfold f_M_mean
        rw [pM_rowR_m (s := fC 1 s) hx m2, clS, if_neg (by decide)]
  · refine ⟨-1, s, s, ?_, ?_, R⟩
    · unfold f_C_mean
      rw [pC_rowR_f hX, clS, if_neg (by decide)]
    · unfold f_M_mean
      rw [pM_rowR_f hX, clS, if_neg (by decide)]
-- copy
def plc (a : Nat) (X V : Int32) : Int32 := if X < 0 then 0 else (if nI a < X then 0 else (if (nI a - X) < V then 0 else 1 : Int32) : Int32)
theorem pC_hasP : f_C_hasPlaces n (nI a) X V s = some (plc a X V, s) := by
  unfold f_C_hasPlaces plc
  have : ∀ e : Option (Int32 × mb_T), mb_bz (if X < 0 then 0 else (if nI a < X then 0 else (if (nI a - X) < V then 0 else 1 : Int32) : Int32) : Int32) e = e := by
    intro e
    unfold mb_bz
    by_cases h1 : X < 0 <;> by_cases h2 : nI a < X <;> by_cases h3 : (nI a - X) < V <;> simp [h1, h2, h3]
  rw [this]
theorem nI_subN (h : b ≤ a) : nI a - nI b = nI (a - b) := by
  have : nI a = nI (a - b) + nI b := by rw [nI_add, Nat.sub_add_cancel h]
  rw [this, Int32.add_sub_cancel]
theorem plc_t (h : i + l ≤ a) (ha : a ≤ 60) : plc a (nI i) (nI l) = 1 := by
  unfold plc
  rw [if_neg (nI_pos (by omega)), if_neg (nI_nlt (by omega) (by omega)), nI_subN (by omega), if_neg (nI_nlt (by omega) (by omega))]
theorem plc_f (h : a < i + l) (ha : a ≤ 60) (hi : i < 2 ^ 31) (hl : l < 2 ^ 31) : plc a (nI i) (nI l) = 0 := by
  unfold plc
  rw [if_neg (nI_pos hi)]
  by_cases c : a < i
  · rw [if_pos (nI_lt c hi)]
  · rw [if_neg (nI_nlt (by omega) (by omega)), nI_subN (by omega), if_pos (nI_lt (by omega) hl)]
theorem plc_n (h : X < 0) : plc a X V = 0 := by
  unfold plc
  rw [if_pos h]
theorem lcmp (hi : i < 2 ^ 31) (hl : l < 2 ^ 31) (ha : a ≤ 60) : Int32.toInt64 (nI i) + Int32.toInt64 (nI l) ≤ Int32.toInt64 (nI a) ↔ i + l ≤ a := by
  rw [nI_l hi, nI_l hl, nI_l (by omega), lN_add, Int64.le_iff_toInt_le, pk_lT (by omega), pk_lT (by omega)]
  omega
theorem pM_copy104 (hn : 200 ≤ n) (hx : x < 6) (hl : i + l ≤ 60) {k0 : Int32 → mb_T → Option (Int32 × mb_T)} : f_M_copy_104 n k0 (nI x) (nI i) X Y (nI l) n 0 s = k0 (nI l) (sV s 205 (va_cpy (s.2.1 204) (s.2.1 205) (60 * x + i) 0 l)) := by
  have e := lp (F := fun f (t : Int32 × mb_T) => f_M_copy_104 n k0 (nI x) (nI i) X Y (nI l) f t.1 t.2) (R := k0 (nI l) (sV s 205 (va_cpy (s.2.1 204) (s.2.1 205) (60 * x + i) 0 l))) (fun k => (nI k, sV s 205 (va_cpy (s.2.1 204) (s.2.1 205) (60 * x + i) 0 k))) l ?_ ?_ n (by omega)
  · dsimp only at e
    rw [cpy_0, sVid] at e
    exact e
  · intro k hk f
    dsimp only
    have g : (sV s 205 (va_cpy (s.2.1 204) (s.2.1 205) (60 * x + i) 0 k)).2.1 204 (60 * x + (i + k)) = s.2.1 204 (60 * x + i + k) := by
      rw [sV2, if_neg (by decide), Nat.add_assoc]
    rw [f_M_copy_104.eq_2, if_neg (npi (by omega) hk), nI_add, pM_rowAt hx (by omega), clS, wrI (by omega) (by decide), g, sAV, nI_1, ← cpy_s]
    rw [show 0 + k = k by omega]
  · intro f
    dsimp only
    rw [f_M_copy_104.eq_2, if_pos npp]
theorem pM_copy136 (hn : 200 ≤ n) (hy : y < 6) (hl : j + l ≤ 60) {k0 : Int32 → mb_T → Option (Int32 × mb_T)} : f_M_copy_136 n k0 (nI y) (nI j) (nI l) n 0 s = k0 (nI l) (sV s 204 (va_cpy (s.2.1 205) (s.2.1 204) 0 (60 * y + j) l)) := by
  have e := lp (F := fun f (t : Int32 × mb_T) => f_M_copy_136 n k0 (nI y) (nI j) (nI l) f t.1 t.2) (R := k0 (nI l) (sV s 204 (va_cpy (s.2.1 205) (s.2.1 204) 0 (60 * y + j) l))) (fun k => (nI k, sV s 204 (va_cpy (s.2.1 205) (s.2.1 204) 0 (60 * y + j) k))) l ?_ ?_ n (by omega)
  · dsimp only at e
    rw [cpy_0, sVid] at e
    exact e
  · intro k hk f
    dsimp only
    have g : (sV s 204 (va_cpy (s.2.1 205) (s.2.1 204) 0 (60 * y + j) k)).2.1 205 k = s.2.1 205 (0 + k) := by
      rw [sV2, if_neg (by decide), show 0 + k = k by omega]
    rw [f_M_copy_136.eq_2, if_neg (npi (by omega) hk), rdI (by omega) (by decide), nI_add, pM_setRow hy (by omega), cwS2, g, sAV, nI_1, ← Nat.add_assoc, cpy_s]
  · intro f
    dsimp only
    rw [f_M_copy_136.eq_2, if_pos npp]
theorem cs_copy (hn : 200 ≤ n) : CS (f_C_copy n X U Y T V) (f_M_copy n X U Y T V) := by
  intro s R
  rcases rngC (x := X) 6 with ⟨x, hx, rfl⟩ | hX
  · rcases rngC (x := Y) 6 with ⟨y, hy, rfl⟩ | hY
    · by_cases h0 : 0 ≤ V
      · obtain ⟨l, hl, rfl⟩ := nI_of (Int32.not_lt.mpr h0)
        rcases R.1 x hx with ⟨m, m1, m2, m3, m4⟩ | ⟨m1, m2⟩
        · rcases R.1 y hy with ⟨k, k1, k2, k3, k4⟩ | ⟨k1, k2⟩
          · have EC : f_C_copy n (nI x) U (nI y) T (nI l) s = if plc m U (nI l) = 0 then some (-3, fC 2 s) else if plc k T (nI l) = 0 then some (-3, fC 2 s) else mb_cp s (20 + x) 60 (20 + y) 60 U T (nI l) fun s_36 => some (1, s_36) := by
              unfold f_C_copy
              simp only [mb_jn, pC_isRow_t hx, pC_isRow_t hy, clS, rdI hx (show 6 < 2 ^ 31 by decide), rdI hy (show 6 < 2 ^ 31 by decide), m2, k2, pC_hasP, pC_f2, ixI hx (show 6 < 2 ^ 31 by decide), ixI hy (show 6 < 2 ^ 31 by decide), nI_clamp (show x < 2 ^ 31 by omega), nI_clamp (show y < 2 ^ 31 by omega)]
              rw [if_neg (by decide), if_neg (by decide), if_pos h0, if_neg (nI_pos (by omega)), if_pos (nI_pos' (by omega))]
            have EM : ∀ u : mb_T, u.2.1 203 = s.2.1 203 → f_M_copy n (nI x) U (nI y) T (nI l) u = if U < 0 then some (-3, fM 2 u) else if T < 0 then some (-3, fM 2 u) else if 0 < (lg_cmp ((Int32.toInt64 U) + (Int32.toInt64 (nI l))) (Int32.toInt64 (nI m))) then some (-3, fM 2 u) else if (lg_cmp ((Int32.toInt64 T) + (Int32.toInt64 (nI l))) (Int32.toInt64 (nI k))) ≤ 0 then f_M_copy_104 n (fun x_37 s_38 => f_M_copy_136 n (fun x_45 s_46 => some (1, s_46)) (nI y) T (nI l) n 0 s_38) (nI x) U (nI y) T (nI l) n 0 u else some (-3, fM 2 u) := by
              intro u hu
              unfold f_M_copy
              simp only [mb_jn, pM_isRow_t hx, pM_isRow_t hy, clS, rdI hx (show 6 < 2 ^ 31 by decide), rdI hy (show 6 < 2 ^ 31 by decide), hu, m3, k3, pM_f2]
              rw [if_neg (by decide), if_neg (by decide), if_pos h0, if_neg (nI_pos (by omega)), if_pos (nI_pos' (by omega))]
            have bad : plc m U (nI l) = 0 ∨ plc k T (nI l) = 0 → (f_M_copy n (nI x) U (nI y) T (nI l) (fC 2 s) = some (-3, fM 2 (fC 2 s))) → ∃ r s1 s2, f_C_copy n (nI x) U (nI y) T (nI l) s = some (r, s1) ∧ f_M_copy n (nI x) U (nI y) T (nI l) s1 = some (r, s2) ∧ Rel s2 := by
              intro hb hm
              refine ⟨-3, fC 2 s, _, ?_, hm, Rel_found R⟩
              rw [EC]
              rcases hb with hb | hb
              · rw [if_pos hb]
              · rw [hb]; split <;> rfl
            by_cases hU : U < 0
            · refine bad (Or.inl (plc_n hU)) ?_
              rw [EM (fC 2 s) rfl, if_pos hU]
            · obtain ⟨i, hi, rfl⟩ := nI_of hU
              by_cases hT : T < 0
              · refine bad (Or.inr (plc_n hT)) ?_
                rw [EM (fC 2 s) rfl, if_neg hU, if_pos hT]
              · obtain ⟨j, hj, rfl⟩ := nI_of hT
                by_cases c1 : i + l ≤ m
                · by_cases c2 : j + l ≤ k
                  · refine ⟨1, sV s (20 + y) (va_cpy (s.2.1 (20 + x)) (s.2.1 (20 + y)) i j l), sV (sV (sV s (20 + y) (va_cpy (s.2.1 (20 + x)) (s.2.1 (20 + y)) i j l)) 205 (va_cpy (s.2.1 204) (s.2.1 205) (60 * x + i) 0 l)) 204 (va_cpy (va_cpy (s.2.1 204) (s.2.1 205) (60 * x + i) 0 l) (s.2.1 204) 0 (60 * y + j) l), ?_, ?_, ?_⟩
                    · rw [EC, plc_t c1 m1, plc_t c2 k1, if_neg (by decide), if_neg (by decide), cpI (by omega) (by omega) (by decide) (by decide)]
                    · have q : ∀ q, 26 ≤ q → (sV s (20 + y) (va_cpy (s.2.1 (20 + x)) (s.2.1 (20 + y)) i j l)).2.1 q = s.2.1 q := fun q hq => by rw [sV2, if_neg (by omega)]
                      rw [EM _ (q 203 (by decide)), if_neg hU, if_neg hT, if_neg (by rw [lg_cmp_gt, Int64.not_lt, lcmp hi hl m1]; exact c1), if_pos (by rw [lg_cmp_le, lcmp hj hl k1]; exact c2), pM_copy104 hn hx (by omega), pM_copy136 hn hy (by omega), q 204 (by decide), q 205 (by decide)]
                      have q2 : ∀ g : Nat → Int32, (sV (sV s (20 + y) (va_cpy (s.2.1 (20 + x)) (s.2.1 (20 + y)) i j l)) 205 g).2.1 204 = s.2.1 204 := fun g => by rw [sV2, if_neg (by decide)]; exact q 204 (by decide)
                      rw [q2]
                      rfl
                    · obtain ⟨r1, r2, r3, r4, r, z, w, law, r5⟩ := R
                      have F : Fk [] [20, 21, 22, 23, 24, 25, 204, 205] s (sV (sV (sV s (20 + y) (va_cpy (s.2.1 (20 + x)) (s.2.1 (20 + y)) i j l)) 205 (va_cpy (s.2.1 204) (s.2.1 205) (60 * x + i) 0 l)) 204 (va_cpy (va_cpy (s.2.1 204) (s.2.1 205) (60 * x + i) 0 l) (s.2.1 204) 0 (60 * y + j) l)) := by
                        refine FkT (FkT (FrQ (FrV (q := 20 + y)) (by decide) ?_) (FrQ (FrV (q := 205)))) (FrQ (FrV (q := 204)))
                        have : y = 0 ∨ y = 1 ∨ y = 2 ∨ y = 3 ∨ y = 4 ∨ y = 5 := by omega
                        rcases this with rfl | rfl | rfl | rfl | rfl | rfl <;> decide
                      have gr : ∀ r, r < 6 → (sV (sV (sV s (20 + y) (va_cpy (s.2.1 (20 + x)) (s.2.1 (20 + y)) i j l)) 205 (va_cpy (s.2.1 204) (s.2.1 205) (60 * x + i) 0 l)) 204 (va_cpy (va_cpy (s.2.1 204) (s.2.1 205) (60 * x + i) 0 l) (s.2.1 204) 0 (60 * y + j) l)).2.1 (20 + r) = if r = y then va_cpy (s.2.1 (20 + x)) (s.2.1 (20 + y)) i j l else s.2.1 (20 + r) := by
                        intro r hr
                        rw [sV2, if_neg (by omega), sV2, if_neg (by omega), sV2]
                        by_cases c : r = y
                        · rw [if_pos (by omega), if_pos c]
                        · rw [if_neg (by omega), if_neg c]
                      refine ⟨Rows_set (x := y) r1 hy ?_ (Or.inl ⟨k, k1, ?_, ?_, ?_⟩), Txts_fr r2 F, Fnd_fr r3 F, r4, r, z, w, law, Cav_fr r5 F⟩
                      · intro r hr hne
                        refine ⟨by rw [F.2.1 1 (by decide)], by rw [F.2.1 203 (by decide)], ?_, fun e he => ?_⟩
                        · rw [gr r hr, if_neg hne]
                        · rw [sV2, if_pos rfl, cpy_o]
                          rcases Nat.lt_or_gt_of_ne hne with q | q <;> omega
                      · rw [F.2.1 1 (by decide)]; exact k2
                      · rw [F.2.1 203 (by decide)]; exact k3
                      · intro e he
                        rw [gr y hy, if_pos rfl, sV2, if_pos rfl]
                        by_cases c : j ≤ e ∧ e < j + l
                        · obtain ⟨d, rfl⟩ : ∃ d, e = j + d := ⟨e - j, by omega⟩
                          rw [cpy_i (by omega), ← Nat.add_assoc, cpy_i (by omega), cpy_i (by omega), m4 (i + d) (by omega), ← Nat.add_assoc]
                        · rw [cpy_o (by omega), cpy_o (by omega)]
                          exact k4 e he
                  · refine bad (Or.inr (plc_f (by omega) k1 hj hl)) ?_
                    rw [EM (fC 2 s) rfl, if_neg hU, if_neg hT, if_neg (by rw [lg_cmp_gt, Int64.not_lt, lcmp hi hl m1]; exact c1), if_neg (by rw [lg_cmp_le, lcmp hj hl k1]; exact c2)]
                · refine bad (Or.inl (plc_f (by omega) m1 hi hl)) ?_
                  rw [EM (fC 2 s) rfl, if_neg hU, if_neg hT, if_pos (by rw [lg_cmp_gt, ← Int64.not_le, lcmp hi hl m1]; exact c1)]
          · refine ⟨-3, fC 1 s, fM 1 (fC 1 s), ?_, ?_, Rel_found R⟩
            · unfold f_C_copy
              rw [pC_isRow_t hx, clS, if_neg (by decide), pC_isRow_t hy, clS, if_neg (by decide), if_pos h0, rdI hx (by decide), m2, mb_jn, if_neg (nI_pos (by omega)), rdI hy (by decide), k1, if_neg (by decide)]
              simp only [pC_f1, clS]
            · unfold f_M_copy
              rw [pM_isRow_t hx, clS, if_neg (by decide), pM_isRow_t hy, clS, if_neg (by decide), if_pos h0, rdI hx (by decide), show (fC 1 s).2.1 203 x = nI m from m3, mb_jn, if_neg (nI_pos (by omega)), rdI hy (by decide), show (fC 1 s).2.1 203 y = -9 from k2, if_neg (by decide)]
              simp only [pM_f1, clS]
        · refine ⟨-3, fC 1 s, fM 1 (fC 1 s), ?_, ?_, Rel_found R⟩
          · unfold f_C_copy
            rw [pC_isRow_t hx, clS, if_neg (by decide), pC_isRow_t hy, clS, if_neg (by decide), if_pos h0, rdI hx (by decide), m1, mb_jn, if_pos (by decide)]
            simp only [pC_f1, clS]
          · unfold f_M_copy
            rw [pM_isRow_t hx, clS, if_neg (by decide), pM_isRow_t hy, clS, if_neg (by decide), if_pos h0, rdI hx (by decide), show (fC 1 s).2.1 203 x = -9 from m2, mb_jn, if_pos (by decide)]
            simp only [pM_f1, clS]
      · refine ⟨-3, fC 5 s, fM 5 (fC 5 s), ?_, ?_, Rel_found R⟩
        · unfold f_C_copy
          rw [pC_isRow_t hx, clS, if_neg (by decide), pC_isRow_t hy, clS, if_neg (by decide), if_neg h0, pC_f5, clS]
        · unfold f_M_copy
          rw [pM_isRow_t hx, clS, if_neg (by decide), pM_isRow_t hy, clS, if_neg (by decide), if_neg h0, pM_f5, clS]
    · refine ⟨-1, s, s, ?_, ?_, R⟩
      · unfold f_C_copy
        rw [pC_isRow_t hx, clS, if_neg (by decide), pC_isRow_f hY, clS, if_pos rfl]
      · unfold f_M_copy
        rw [pM_isRow_t hx, clS, if_neg (by decide), pM_isRow_f hY, clS, if_pos rfl]
  · refine ⟨-1, s, s, ?_, ?_, R⟩
    · unfold f_C_copy
      rw [pC_isRow_f hX, clS, if_pos rfl]
    · unfold f_M_copy
      rw [pM_isRow_f hX, clS, if_pos rfl]
end RD
