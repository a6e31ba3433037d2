/-! the pure part: the model's cells -/
def farN (a b : Nat) : Nat := if a < b then b - a else a - b
def besd (p : Nat) (r : Bool) (a b : Nat) : Bool := decide (farN a b = 1) || (r && decide (2 < p) && decide (farN a b = p - 1))
/-- the model's cells hold it -/
def HM (z : zT) (w : wT) (s : mb_T) : Prop := zP z ≤ 5 ∧ s.1 200 8 = nI (zP z) ∧ s.1 200 11 = w.2.1 ∧ s.1 200 24 = w.2.2.1 ∧ s.1 200 25 = oM w.2.2.2 ∧ zE z = 0 ∧ (∃ (pl : Nat → Nat) (r : Bool), (∀ x, x < zP z → s.2.1 223 x = nI (pl x) ∧ pl x < 5) ∧ (1 ≤ zP z → s.1 200 9 = if r = true then 1 else 0) ∧ ∀ x y, x < zP z → y < zP z → bt (zB z x) y = besd (zP z) r (pl x) (pl y)) ∧ (∀ x, x < zP z → bt (zM z) x = if s.1 200 22 = -9 then decide (zK z x = 3) else bt (s.1 200 22) x) ∧ ∀ x, x < zP z → s.2.1 212 x = zK z x ∧ s.2.1 213 x = w.1 x ∧ s.2.1 214 x = zG z x ∧ s.2.1 215 x = zL z x ∧ s.2.1 216 x = zS z x
theorem besd_d : ∀ p, p < 6 → ∀ a, a < 5 → ∀ b, b < 5 → ∀ r : Bool, (if (if nI b ≤ nI a then nI a - nI b else nI b - nI a : Int32) = 1 then 1 else (if (if r = true then 1 else 0 : Int32) = 1 then (if nI p ≤ 2 then 0 else (if (if nI b ≤ nI a then nI a - nI b else nI b - nI a : Int32) = (nI p - 1) then 1 else 0 : Int32) : Int32) else 0 : Int32) : Int32) = if besd p r a b = true then 1 else 0 := by decide +kernel
theorem i_sub3 (a b c : Int32) : a - b - c = a - c - b := by grind
theorem i_asc (a b c d : Int32) : a + (b + c) - d = a - d + (b + c) := by grind
theorem clampM {v : Int32} : (if 0 ≤ v then (if v ≤ 99 then v else 99 : Int32) else 0 : Int32) = clampS v := by
  unfold clampS
  by_cases h : v < 0
  · rw [if_neg (Int32.not_le.mpr h), if_pos h, if_neg (by decide)]
  · rw [if_pos (Int32.not_lt.mp h), if_neg h]
    by_cases h2 : 99 < v
    · rw [if_neg (Int32.not_le.mpr h2), if_pos h2]
    · rw [if_pos (Int32.not_lt.mp h2), if_neg h2]
section MA
variable {s t : mb_T} {n x y h p i : Nat} {z : zT} {w : wT} {v am law : Int32}
theorem HMfr {fs : List (Nat × Nat)} {as : List Nat} (H : HM z w s) (h : Fr fs as s t) (hf : (∀ k ∈ [8, 9, 11, 22, 24, 25], (200, k) ∉ fs) := by decide) (ha : (∀ q ∈ [212, 213, 214, 215, 216, 223], q ∉ as) := by decide) : HM z w t := by
  obtain ⟨h5, hp, ho, hm, hl, he, hb, hz, hx⟩ := H
  have f : ∀ k ∈ [8, 9, 11, 22, 24, 25], t.1 200 k = s.1 200 k := fun k hk => h.1 200 k (hf k hk)
  have a : ∀ q ∈ [212, 213, 214, 215, 216, 223], t.2.1 q = s.2.1 q := fun q hq => h.2.1 q (ha q hq)
  refine ⟨h5, ?_, ?_, ?_, ?_, he, ?_, ?_, ?_⟩
  · rw [f 8 (by decide)]; exact hp
  · rw [f 11 (by decide)]; exact ho
  · rw [f 24 (by decide)]; exact hm
  · rw [f 25 (by decide)]; exact hl
  · rw [f 9 (by decide), a 223 (by decide)]; exact hb
  · rw [f 22 (by decide)]; exact hz
  · rw [a 212 (by decide), a 213 (by decide), a 214 (by decide), a 215 (by decide), a 216 (by decide)]; exact hx
theorem pM_isBeside (H : HM z w s) (hx : x < zP z) (hy : y < zP z) : f_M_isBeside n (nI x) (nI y) s = some ((if bt (zB z x) y = true then 1 else 0 : Int32), s) := by
  obtain ⟨h5, hp, -, -, -, -, ⟨pl, r, h1, h2, h3⟩, -, -⟩ := H
  obtain ⟨x1, x2⟩ := h1 x hx
  obtain ⟨y1, y2⟩ := h1 y hy
  have e := besd_d (zP z) (by omega) (pl x) x2 (pl y) y2 r
  rw [h3 x y hx hy]
  unfold f_M_isBeside
  simp only [mb_jn, rdI (show x < 5 by omega) (show 5 < 2 ^ 31 by decide), rdI (show y < 5 by omega) (show 5 < 2 ^ 31 by decide), x1, y1, hp, h2 (by omega)]
  by_cases c : nI (pl y) ≤ nI (pl x)
  · simp only [if_pos c] at e ⊢
    rw [e, bz10]
  · simp only [if_neg c] at e ⊢
    rw [e, bz10]
theorem pM_isCalm (H : HM z w s) (hx : x < zP z) : f_M_isCalm n (nI x) s = some ((if calmK (zK z x) = true then 1 else 0 : Int32), s) := by
  have h5 := H.1
  have e := (H.2.2.2.2.2.2.2.2 x hx).1
  unfold f_M_isCalm calmK
  simp only [rdI (show x < 10 by omega) (show 10 < 2 ^ 31 by decide), e, bz10]
  by_cases a : zK z x = 1 <;> by_cases b : zK z x = 4 <;> by_cases c : zK z x = 5 <;> simp [a, b, c]
theorem pM_has : f_M_has n v (nI i) s = some ((if bt v i = true then 1 else 0 : Int32), s) := by
  unfold f_M_has
  simp only [bt1, bz10]
theorem pM_showsOf (H : HM z w s) (hx : x < zP z) : f_M_showsOf n (nI x) s = some (shw z w.1 x, s) := by
  obtain ⟨h5, hp, ho, hm, hl, he, hb, hz, hq⟩ := H
  obtain ⟨x1, x2, x3, x4, x5⟩ := hq x hx
  have e := hz x hx
  unfold f_M_showsOf shw
  simp only [mb_jn, rdI (show x < 10 by omega) (show 10 < 2 ^ 31 by decide), x1, x2, pM_has, clS]
  by_cases c : s.1 200 22 = -9
  · rw [if_pos c] at e ⊢
    rw [e]
    by_cases d : zK z x = 5
    · simp [d]
    · by_cases g : zK z x = 3 <;> simp [d, g]
  · rw [if_neg c] at e ⊢
    rw [e]
    by_cases d : zK z x = 5
    · simp [d]
    · cases bt (s.1 200 22) x <;> simp [d]
theorem pM_mostOf (hn : 200 ≤ n) (H : HM z w s) : f_M_mostOf n am s = some (oM (mostS am (shw z w.1) (zP z)), s) := by
  have h5 := H.1
  have hp := H.2.1
  unfold f_M_mostOf
  refine lp (F := fun f (t : Int32 × Int32 × mb_T) => f_M_mostOf_5 n (fun x_15 x_16 s_17 => some (x_15, s_17)) am f t.1 t.2.1 t.2.2) (fun i => (oM (mostS am (shw z w.1) i), nI i, s)) (zP z) ?_ ?_ n (by omega)
  · intro i hi f
    dsimp only
    have eo : (oM (mostS am (shw z w.1) i) = -9) = (mostS am (shw z w.1) i = none) := oM_e (fun y hy => by have := mostS_lt hy; omega)
    rw [f_M_mostOf_5.eq_2, hp, if_neg (npi (by omega) hi), pM_has, clS, mostS_s]
    simp only [eo]
    cases hb : bt am i with
    | false => simp only [Bool.false_eq_true, if_false, if_true, nI_1]
    | true =>
      simp only [if_true, show ¬ ((1 : Int32) = 0) by decide, if_false, Bool.true_eq_false]
      cases hm : mostS am (shw z w.1) i with
      | none => rw [if_pos rfl, nI_1]; rfl
      | some y =>
        have hy := mostS_lt hm
        rw [if_neg (by intro c; cases c)]
        show mb_cl (f_M_showsOf n (nI i) s) _ = _
        rw [pM_showsOf H hi, clS]
        show mb_cl (f_M_showsOf n (nI y) s) _ = _
        rw [pM_showsOf H (by omega), clS, nI_1]
        show f_M_mostOf_5 n _ am f (if shw z w.1 i ≤ shw z w.1 y then nI y else nI i) (nI (i + 1)) s = f_M_mostOf_5 n _ am f (oM (if shw z w.1 i ≤ shw z w.1 y then some y else some i)) (nI (i + 1)) s
        split <;> rfl
  · intro f
    dsimp only
    rw [f_M_mostOf_5.eq_2, hp, if_pos npp]
end MA
