/-! the pure part: the fraction, counts -/
def gi (a b : Nat) : Nat → Nat × Nat
  | 0 => (a, b)
  | k + 1 => if (gi a b k).2 = 0 then gi a b k else ((gi a b k).2, (gi a b k).1 % (gi a b k).2)
theorem gi_s {a b k : Nat} : gi a b (k + 1) = if (gi a b k).2 = 0 then gi a b k else ((gi a b k).2, (gi a b k).1 % (gi a b k).2) := rfl
theorem gi_2 {a b k : Nat} : (gi a b (k + 2)).2 * 2 ≤ (gi a b k).2 := by
  rw [gi_s (k := k + 1), gi_s (k := k)]
  by_cases h : (gi a b k).2 = 0
  · rw [if_pos h, if_pos h, h]; decide
  · rw [if_neg h]
    generalize (gi a b k).2 = y at h
    generalize (gi a b k).1 = x
    have hl : x % y < y := Nat.mod_lt _ (by omega)
    by_cases h2 : x % y = 0
    · rw [if_pos h2]
      show x % y * 2 ≤ y
      omega
    · rw [if_neg h2]
      show y % (x % y) * 2 ≤ y
      have h3 : y % (x % y) < x % y := Nat.mod_lt _ (by omega)
      have h4 := Nat.div_add_mod y (x % y)
      have h5 : 1 ≤ y / (x % y) := (Nat.one_le_div_iff (by omega)).mpr (by omega)
      have h6 : x % y ≤ (x % y) * (y / (x % y)) := Nat.le_mul_of_pos_right _ h5
      omega
theorem gi_e {a b : Nat} : ∀ {j : Nat}, (gi a b (2 * j)).2 * 2 ^ j ≤ b
  | 0 => by show b * 1 ≤ b; omega
  | j + 1 => by
    have h1 := @gi_e a b j
    have h2 := @gi_2 a b (2 * j)
    rw [show 2 * (j + 1) = 2 * j + 2 by omega, Nat.pow_succ]
    calc (gi a b (2 * j + 2)).2 * (2 ^ j * 2) = ((gi a b (2 * j + 2)).2 * 2) * 2 ^ j := by rw [Nat.mul_comm (2 ^ j) 2, Nat.mul_assoc]
      _ ≤ (gi a b (2 * j)).2 * 2 ^ j := Nat.mul_le_mul_right _ h2
      _ ≤ b := h1
theorem gi_z {a b : Nat} (hb : b < 512) : (gi a b 18).2 = 0 := by
  have := @gi_e a b 9
  rcases Nat.eq_zero_or_pos (gi a b 18).2 with h | h
  · exact h
  · have h2 : (gi a b (2 * 9)).2 = (gi a b 18).2 := rfl
    rw [h2] at this
    have h3 : (2 : Nat) ^ 9 = 512 := rfl
    rw [h3] at this
    omega
theorem gi_lt {a b N : Nat} (ha : a < N) (hb : b < N) : ∀ {k : Nat}, (gi a b k).1 < N ∧ (gi a b k).2 < N
  | 0 => ⟨ha, hb⟩
  | k + 1 => by
    obtain ⟨h1, h2⟩ := @gi_lt a b N ha hb k
    rw [gi_s]
    split
    · exact ⟨h1, h2⟩
    · next h => exact ⟨h2, Nat.lt_trans (Nat.mod_lt _ (by omega)) h2⟩
theorem gi_p {a b : Nat} (hb : 0 < b) : ∀ {k : Nat}, 0 < (gi a b k).1 ∨ 0 < (gi a b k).2
  | 0 => Or.inr hb
  | k + 1 => by
    rw [gi_s]
    split
    · exact gi_p hb
    · next h => exact Or.inl (by show 0 < (gi a b k).2; omega)
/-- their greatest divisor -/
def gD (a b : Nat) : Nat := (gi a b (sN (fun k => decide ((gi a b k).2 = 0)) 64)).1
theorem gD00 : gD 0 0 = 0 := by decide +kernel
section UA
variable {s t u : mb_T} {n p a b q m i c k x y j l h K d G mi : Nat} {z : zT} {w w2 : wT} {lf r : Bool} {fs : List (Nat × Nat)} {as : List Nat} {v X Y law : Int32} {g : Nat → Int32}
theorem gD_T (hb : b < 512) : sN (fun k => decide ((gi a b k).2 = 0)) 64 ≤ 18 ∧ (gi a b (sN (fun k => decide ((gi a b k).2 = 0)) 64)).2 = 0 ∧ ∀ k, k < sN (fun k => decide ((gi a b k).2 = 0)) 64 → ¬ (gi a b k).2 = 0 := by
  obtain ⟨q1, q2, q3⟩ := @sN_p (fun k => decide ((gi a b k).2 = 0)) 64
  have hz := gi_z (a := a) hb
  have h18 : sN (fun k => decide ((gi a b k).2 = 0)) 64 ≤ 18 := by
    rcases Nat.lt_or_ge 18 (sN (fun k => decide ((gi a b k).2 = 0)) 64) with l | l
    · have := q2 18 l
      simp [hz] at this
    · exact l
  refine ⟨h18, ?_, fun k hk => ?_⟩
  · have := q3 (by omega)
    simpa using this
  · have := q2 k hk
    simpa using this
theorem pC_gD (hn : 200 ≤ n) (ha : a < 512) (hb : b < 512) : f_C_greatestDivisor n (nI a) (nI b) s = some (nI (gD a b), s) := by
  obtain ⟨h18, hz, hnz⟩ := gD_T (a := a) hb
  unfold f_C_greatestDivisor gD
  generalize sN (fun k => decide ((gi a b k).2 = 0)) 64 = T at h18 hz hnz
  refine lp (F := fun f (t : Int32 × Int32 × Int32 × mb_T) => f_C_greatestDivisor_2 n (fun x_4 x_5 x_6 s_7 => some (x_4, s_7)) f t.1 t.2.1 t.2.2.1 t.2.2.2) (fun i => (nI (gi a b i).1, nI (gi a b i).2, nI i, s)) T ?_ ?_ n (by omega)
  · intro i hi f
    dsimp only
    obtain ⟨l1, l2⟩ := gi_lt ha hb (k := i)
    have hne := hnz i hi
    rw [f_C_greatestDivisor_2.eq_2, if_neg (show ¬ (64 : Int32) ≤ nI i from npi (p := 64) (by decide) (by omega)), if_neg (nI_ne0 (by omega) (by omega)), dvN (nI_ne0 (by omega) (by omega)), pk_rem (by omega) (by omega) (by omega), nI_1, gi_s, if_neg hne]
  · intro f
    dsimp only
    rw [f_C_greatestDivisor_2.eq_2, if_neg (show ¬ (64 : Int32) ≤ nI T from npi (p := 64) (by decide) (by omega)), hz, if_pos (by decide)]
theorem pM_gD (hn : 200 ≤ n) (ha : a < 512) (hb : b < 512) : f_M_divisor n (nI a) (nI b) s = some (nI (gD a b), s) := by
  obtain ⟨h18, hz, hnz⟩ := gD_T (a := a) hb
  unfold f_M_divisor gD
  generalize sN (fun k => decide ((gi a b k).2 = 0)) 64 = T at h18 hz hnz
  refine lp (F := fun f (t : Int32 × Int32 × mb_T) => f_M_divisor_4 n (fun x_3 x_4 s_5 => some (x_3, s_5)) f t.1 t.2.1 t.2.2) (fun i => (nI (gi a b i).1, nI (gi a b i).2, s)) T ?_ ?_ n (by omega)
  · intro i hi f
    dsimp only
    obtain ⟨l1, l2⟩ := gi_lt ha hb (k := i)
    have hne := hnz i hi
    rw [f_M_divisor_4.eq_2, if_neg (nI_ne0 (by omega) (by omega)), dvN (nI_ne0 (by omega) (by omega)), pk_rem (by omega) (by omega) (by omega), gi_s, if_neg hne]
  · intro f
    dsimp only
    rw [f_M_divisor_4.eq_2, hz, if_pos (by decide)]
theorem sumS_n {g : Nat → Int32} {N : Nat} : ∀ {p : Nat}, (∀ x, x < p → ∃ f, f ≤ N ∧ g x = nI f) → ∃ e, e ≤ N * p ∧ sumS g p = nI e
  | 0, _ => ⟨0, by omega, rfl⟩
  | p + 1, H => by
    obtain ⟨e, e1, e2⟩ := @sumS_n g N p (fun x hx => H x (by omega))
    obtain ⟨f, f1, f2⟩ := H p (by omega)
    refine ⟨e + f, ?_, ?_⟩
    · rw [Nat.mul_succ]; omega
    · show sumS g p + g p = _
      rw [e2, f2, nI_add]
theorem pV_sum (hn : 200 ≤ n) (hp : s.1 100 0 = nI p) (h5 : p ≤ 5) : f_V_sumOf n 100 a 5 s = some (sumS (s.2.1 a) p, s) := by
  unfold f_V_sumOf
  refine lp (F := fun f (t : Int32 × Int32 × mb_T) => f_V_sumOf_4 n (fun x_6 x_7 s_8 => some (x_6, s_8)) 100 a 5 f t.1 t.2.1 t.2.2) (fun i => (sumS (s.2.1 a) i, nI i, s)) p ?_ ?_ n (by omega)
  · intro i hi f
    dsimp only
    rw [f_V_sumOf_4.eq_2, hp, if_neg (npi (by omega) hi), if_neg (show ¬ (Int32.ofNat 5) ≤ nI i from npi (p := 5) (by decide) (by omega)), rdI (by omega) (by decide), nI_1]
    rfl
  · intro f
    dsimp only
    rw [f_V_sumOf_4.eq_2, hp, if_pos npp]
theorem sums (H : HV 100 r z w s) (R : wrg z w) (C : zrg z) : ∃ e f, e < 512 ∧ f < 512 ∧ (1 ≤ zP z → 5 ≤ f) ∧ (zP z = 0 → e = 0 ∧ f = 0) ∧ sumS (s.2.1 (100 + 6)) (zP z) = nI e ∧ sumS (s.2.1 (100 + 9)) (zP z) = nI f ∧ sumS w.1 (zP z) = nI e ∧ sumS (zS z) (zP z) = nI f := by
  have h5 := H.1
  obtain ⟨e, e1, e2⟩ := sumS_n (g := w.1) (N := 99) R
  have hS : ∃ f, f ≤ 45 * zP z ∧ 5 * zP z ≤ f ∧ sumS (zS z) (zP z) = nI f := by
    have : ∀ p, p ≤ zP z → ∃ f, f ≤ 45 * p ∧ 5 * p ≤ f ∧ sumS (zS z) p = nI f := by
      intro p
      induction p with
      | zero => intro _; exact ⟨0, by omega, by omega, rfl⟩
      | succ p ih =>
        intro hp
        obtain ⟨f, f1, f2, f3⟩ := ih (by omega)
        obtain ⟨c, c1, c2, c3⟩ := C p (by omega)
        refine ⟨f + c, by omega, by omega, ?_⟩
        show sumS (zS z) p + zS z p = _
        rw [f3, c3, nI_add]
    exact this (zP z) (Nat.le_refl _)
  obtain ⟨f, f1, f2, f3⟩ := hS
  have hm : 99 * zP z ≤ 99 * 5 := Nat.mul_le_mul_left _ h5
  refine ⟨e, f, by omega, by omega, fun h => by omega, fun h => ⟨?_, ?_⟩, ?_, ?_, e2, f3⟩
  · rw [h] at e1; omega
  · rw [h] at f1; omega
  · rw [sumS_c (fun x hx => (H.2.2.2.2.2.2 x hx).2.1), e2]
  · rw [sumS_c (fun x hx => (H.2.2.2.2.2.2 x hx).2.2.2.2), f3]
theorem gD_pos (ha : a < 512) (hb : b < 512) (h0 : 0 < b) : 0 < gD a b ∧ gD a b < 512 := by
  obtain ⟨h18, hz, hnz⟩ := gD_T (a := a) hb
  unfold gD
  refine ⟨?_, (gi_lt ha hb).1⟩
  rcases gi_p (a := a) h0 (k := sN (fun k => decide ((gi a b k).2 = 0)) 64) with h | h
  · exact h
  · omega
theorem cs_upper (hn : 200 ≤ n) : CS (f_C_upper n) (f_M_upper n) := by
  intro s R
  obtain ⟨-, -, -, r4, r, z, w, law, H⟩ := id R
  have h5 := Cav5 H
  obtain ⟨p1, p2⟩ := CavP H
  obtain ⟨e, f, e1, f1, h1, h0, c1, c2, c3, c4⟩ := sums (CavV H) (CavR H) H.2.1
  unfold f_C_upper f_M_upper
  by_cases hz : zP z = 0
  · obtain ⟨rfl, rfl⟩ := h0 hz
    refine ⟨0, s, s, ?_, ?_, R⟩
    · rw [pV_sum hn p1 h5, clS, pV_sum hn p1 h5, clS, c1, c2, pC_gD hn (by decide) (by decide), clS, gD00, if_pos (by decide)]
    · rw [p2, hz, if_pos (by decide)]
  · obtain ⟨g1, g2⟩ := gD_pos e1 f1 (by have := h1 (by omega); omega)
    refine ⟨Int32.toInt64 (nI e / nI (gD e f)), s, s, ?_, ?_, R⟩
    · rw [pV_sum hn p1 h5, clS, pV_sum hn p1 h5, clS, c1, c2, pC_gD hn e1 f1, clS, if_neg (nI_nle (by omega) (by omega)), dvN (nI_ne0 (by omega) (by omega))]
    · rw [p2, if_neg (by rw [p0 h5]; exact hz), qM_allFears hn (CavM H), clS, qM_allFears hn (CavM H), clS, qM_allScreams hn (CavM H), clS, c3, c4, pM_gD hn e1 f1, clS, dvN (nI_ne0 (by omega) (by omega))]
theorem cs_lower (hn : 200 ≤ n) : CS (f_C_lower n) (f_M_lower n) := by
  intro s R
  obtain ⟨-, -, -, r4, r, z, w, law, H⟩ := id R
  have h5 := Cav5 H
  obtain ⟨p1, p2⟩ := CavP H
  obtain ⟨e, f, e1, f1, h1, h0, c1, c2, c3, c4⟩ := sums (CavV H) (CavR H) H.2.1
  unfold f_C_lower f_M_lower
  by_cases hz : zP z = 0
  · obtain ⟨rfl, rfl⟩ := h0 hz
    refine ⟨1, s, s, ?_, ?_, R⟩
    · rw [pV_sum hn p1 h5, clS, pV_sum hn p1 h5, clS, c1, c2, pC_gD hn (by decide) (by decide), clS, gD00, if_pos (by decide)]
    · rw [p2, hz, if_pos (by decide)]
  · obtain ⟨g1, g2⟩ := gD_pos e1 f1 (by have := h1 (by omega); omega)
    refine ⟨Int32.toInt64 (nI f / nI (gD e f)), s, s, ?_, ?_, R⟩
    · rw [pV_sum hn p1 h5, clS, pV_sum hn p1 h5, clS, c1, c2, pC_gD hn e1 f1, clS, if_neg (nI_nle (by omega) (by omega)), dvN (nI_ne0 (by omega) (by omega))]
    · rw [p2, if_neg (by rw [p0 h5]; exact hz), qM_allScreams hn (CavM H), clS, qM_allFears hn (CavM H), clS, qM_allScreams hn (CavM H), clS, c3, c4, pM_gD hn e1 f1, clS, dvN (nI_ne0 (by omega) (by omega))]
end UA
