/-! the pure part: a cave read from a text -/
def atv (tx : Nat → Int32) (m p : Nat) (v : Int32) : Bool := decide (p < m) && decide (tx p = v)
def fgb (tx : Nat → Int32) (m : Nat) (lo hi : Int32) (p : Nat) : Bool := decide (p < m) && (!decide (tx p - 48 < lo) && !decide (hi < tx p - 48))
def kdO (v : Int32) : Int32 := if v = 112 then 0 else (if v = 99 then 1 else (if v = 107 then 2 else (if v = 108 then 3 else (if v = 115 then 4 else (if v = 103 then 5 else (-9) : Int32) : Int32) : Int32) : Int32) : Int32)
def kdv (tx : Nat → Int32) (m p : Nat) : Int32 := if p < m then kdO (tx p) else -9
/-- one sign taken, if it fits -/
def tk (b : Bool) (c : Nat × Bool) : Nat × Bool := (if (c.2 && b) = true then c.1 + 1 else c.1, c.2 && b)
/-- blanks skipped -/
def sb (tx : Nat → Int32) (m p : Nat) : Nat := p + sN (fun j => !decide (tx (p + j) = 32)) (m - p)
theorem kdO_9 {v : Int32} : kdO v = -9 ∨ ∃ k, k ≤ 5 ∧ kdO v = nI k := by
  unfold kdO
  by_cases a1 : v = 112
  · exact Or.inr ⟨0, by decide, by rw [if_pos a1]; rfl⟩
  · by_cases a2 : v = 99
    · exact Or.inr ⟨1, by decide, by rw [if_neg a1, if_pos a2]; rfl⟩
    · by_cases a3 : v = 107
      · exact Or.inr ⟨2, by decide, by rw [if_neg a1, if_neg a2, if_pos a3]; rfl⟩
      · by_cases a4 : v = 108
        · exact Or.inr ⟨3, by decide, by rw [if_neg a1, if_neg a2, if_neg a3, if_pos a4]; rfl⟩
        · by_cases a5 : v = 115
          · exact Or.inr ⟨4, by decide, by rw [if_neg a1, if_neg a2, if_neg a3, if_neg a4, if_pos a5]; rfl⟩
          · by_cases a6 : v = 103
            · exact Or.inr ⟨5, by decide, by rw [if_neg a1, if_neg a2, if_neg a3, if_neg a4, if_neg a5, if_pos a6]; rfl⟩
            · exact Or.inl (by rw [if_neg a1, if_neg a2, if_neg a3, if_neg a4, if_neg a5, if_neg a6])
theorem sb_p {tx : Nat → Int32} {m p : Nat} (hp : p ≤ m) : p ≤ sb tx m p ∧ sb tx m p ≤ m ∧ (∀ j, p ≤ j → j < sb tx m p → tx j = 32) ∧ (sb tx m p < m → ¬ tx (sb tx m p) = 32) := by
  obtain ⟨q1, q2, q3⟩ := @sN_p (fun j => !decide (tx (p + j) = 32)) (m - p)
  unfold sb
  refine ⟨by omega, by omega, fun j h1 h2 => ?_, fun h => ?_⟩
  · have := q2 (j - p) (by omega)
    rw [show p + (j - p) = j by omega] at this
    simpa using this
  · have := q3 (by omega)
    simpa using this
section VA
variable {s t u : mb_T} {n p a b q m i k x y j l K d G T : Nat} {c : Nat × Bool} {tx : Nat → Int32} {lf r : Bool} {fs : List (Nat × Nat)} {as : List Nat} {v X Y lo hi : Int32}
theorem pR_kind : f_R_kindOf n v s = some (kdO v, s) := by
  unfold f_R_kindOf kdO
  by_cases a1 : v = 112
  · subst a1; rfl
  · by_cases a2 : v = 99
    · subst a2; rfl
    · by_cases a3 : v = 107
      · subst a3; rfl
      · by_cases a4 : v = 108
        · subst a4; rfl
        · by_cases a5 : v = 115
          · subst a5; rfl
          · by_cases a6 : v = 103
            · subst a6; rfl
            · rw [if_neg a1, if_neg a2, if_neg a3, if_neg a4, if_neg a5, if_neg a6, if_neg a2]
              repeat' split
              all_goals first | rfl | contradiction
/-- the reader stands so -/
def Rd (T m : Nat) (c : Nat × Bool) (s : mb_T) : Prop := s.1 36 1 = nI m ∧ s.1 36 2 = nI c.1 ∧ s.1 36 3 = (if c.2 = true then -9 else nI c.1) ∧ s.2.2.2.1 36 = 30 + T
theorem Rd_fr (H : Rd T m c s) (h : Fr fs as s t) (hf : (∀ k ∈ [1, 2, 3], (36, k) ∉ fs) := by decide) : Rd T m c t := by
  unfold Rd
  rw [h.1 36 1 (hf 1 (by decide)), h.1 36 2 (hf 2 (by decide)), h.1 36 3 (hf 3 (by decide)), h.2.2]
  exact H
theorem pR_sign (H : Rd T m c s) (hT : T < 4) (hm : m ≤ 80) (hc : c.1 ≤ m) (hx : ∀ i, i < m → s.2.1 (30 + T) i = tx i) : f_R_sign n s = some (if c.1 < m then tx c.1 else 1000, s) := by
  obtain ⟨h1, h2, h3, h4⟩ := H
  unfold f_R_sign
  rw [h1, h2, h4]
  by_cases l : c.1 < m
  · have e1 : mb_sg (30 + T) = 30 + T := if_pos (by omega)
    have e2 : mb_sn (30 + T) = 80 := if_pos (by omega)
    rw [if_neg (npi (by omega) l), if_pos l, e1, e2, rdI (by omega) (by decide), hx _ l]
  · rw [if_pos (nI_le (by omega) (by omega)), if_neg l]
theorem pR_take (H : Rd T m c s) (hc : c.1 ≤ m) (hm : m ≤ 80) (bb : Bool) : ∃ u, f_R_take n (if bb = true then 1 else 0) s = some u ∧ Rd T m (tk bb c) u ∧ Fr [(36, 2), (36, 3)] [] s u := by
  obtain ⟨h1, h2, h3, h4⟩ := H
  unfold f_R_take
  rw [h3]
  obtain ⟨p, ok⟩ := c
  cases ok with
  | false =>
    rw [if_neg (show ¬ ((if false = true then -9 else nI p : Int32) = -9) from nI_m9 (by omega))]
    exact ⟨s, rfl, ⟨h1, h2, h3, h4⟩, FrR⟩
  | true =>
    rw [if_pos (show (if true = true then -9 else nI p : Int32) = -9 from rfl)]
    cases bb with
    | false =>
      refine ⟨sF s 36 3 (nI p), ?_, ⟨h1, h2, rfl, h4⟩, FrI FrF⟩
      rw [if_pos (by decide), bdS, h2]
    | true =>
      refine ⟨sF s 36 2 (nI (p + 1)), ?_, ⟨h1, rfl, h3, h4⟩, FrI FrF⟩
      rw [if_neg (by decide), bdS, h2, nI_1]
theorem pR_fig (H : Rd T m c s) (hT : T < 4) (hm : m ≤ 80) (hc : c.1 ≤ m) (hx : ∀ i, i < m → s.2.1 (30 + T) i = tx i) (hh : hi < 952) : ∃ u, f_R_figure n lo hi s = some (if fgb tx m lo hi c.1 = true then tx c.1 - 48 else 0, u) ∧ Rd T m (tk (fgb tx m lo hi c.1) c) u ∧ Fr [(36, 2), (36, 3)] [] s u := by
  unfold f_R_figure
  rw [pR_sign H hT hm hc hx, clS]
  have e : (if ((if c.1 < m then tx c.1 else 1000 : Int32) - 48) < lo then 0 else (if hi < ((if c.1 < m then tx c.1 else 1000 : Int32) - 48) then 0 else 1 : Int32) : Int32) = if fgb tx m lo hi c.1 = true then 1 else 0 := by
    unfold fgb
    by_cases l : c.1 < m
    · rw [if_pos l]
      by_cases h1 : tx c.1 - 48 < lo
      · rw [if_pos h1]; simp [h1]
      · rw [if_neg h1]
        by_cases h2 : hi < tx c.1 - 48
        · rw [if_pos h2]; simp [h2]
        · rw [if_neg h2]; simp [l, h1, h2]
    · rw [if_neg l, if_pos (show hi < (1000 : Int32) - 48 from hh)]
      simp [l]
  rw [e]
  obtain ⟨u, u1, u2, u3⟩ := pR_take (n := n) H hc hm (fgb tx m lo hi c.1)
  refine ⟨u, ?_, u2, u3⟩
  rw [u1, cwS2]
  by_cases l : fgb tx m lo hi c.1 = true
  · have l2 : c.1 < m := by unfold fgb at l; simp at l; exact l.1
    rw [if_pos l, if_pos l, if_pos l2, if_neg (by decide)]
  · rw [if_neg l, if_neg l, if_pos rfl]
theorem pR_skip (hn : 200 ≤ n) (H : Rd T m (p, true) s) (hT : T < 4) (hm : m ≤ 80) (hp : p ≤ m) (hx : ∀ i, i < m → s.2.1 (30 + T) i = tx i) : ∃ u, f_R_skipBlanks n s = some u ∧ Rd T m (sb tx m p, true) u ∧ Fr [(36, 2)] [] s u := by
  obtain ⟨s1, s2, s3, s4⟩ := sb_p (tx := tx) hp
  have e1 : mb_sg (30 + T) = 30 + T := if_pos (by omega)
  have e2 : mb_sn (30 + T) = 80 := if_pos (by omega)
  unfold f_R_skipBlanks
  have L := lpE (F := fun f (t : mb_T) => f_R_skipBlanks_0 n (fun s_8 => some s_8) f t) (R := fun t => some t) (fun i t => Rd T m (p + i, true) t ∧ Fr [(36, 2)] [] s t) (sb tx m p - p) ?_ ?_ (t0 := s) (f := n) ⟨H, FrR⟩ (by omega)
  · obtain ⟨t, ⟨p1, p2⟩, p3⟩ := L
    refine ⟨t, p3, ?_, p2⟩
    rwa [show p + (sb tx m p - p) = sb tx m p by omega] at p1
  · rintro i hi t ⟨⟨h1, h2, h3, h4⟩, p2⟩
    refine ⟨sF t 36 2 (nI (p + i + 1)), ⟨⟨h1, rfl, h3, h4⟩, FrT p2 FrF⟩, ?_⟩
    intro f
    have g : t.2.1 (30 + T) (p + i) = 32 := by
      rw [p2.2.1 (30 + T) (by simp), hx _ (by omega)]
      exact s3 _ (by omega) (by omega)
    have h2 : t.1 36 2 = nI (p + i) := h2
    rw [f_R_skipBlanks_0.eq_2, h1, h2, h4, e1, e2, if_neg (npi (by omega) (by omega)), rdI (by omega) (by decide), g, if_pos rfl, bdS, nI_1]
  · rintro t ⟨⟨h1, h2, h3, h4⟩, p2⟩ f
    have h2 : t.1 36 2 = nI (sb tx m p) := by
      have : t.1 36 2 = nI (p + (sb tx m p - p)) := h2
      rwa [show p + (sb tx m p - p) = sb tx m p by omega] at this
    rw [f_R_skipBlanks_0.eq_2, h1, h2, h4, e1, e2]
    by_cases l : sb tx m p < m
    · have g : ¬ t.2.1 (30 + T) (sb tx m p) = 32 := by
        rw [p2.2.1 (30 + T) (by simp), hx _ l]
        exact s4 l
      rw [if_neg (npi (by omega) l), rdI (by omega) (by decide), if_neg g]
    · rw [if_pos (nI_le (by omega) (by omega))]
end VA
