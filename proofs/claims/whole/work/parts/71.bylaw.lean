/-! the pure part: who has the lamp next -/
def shw (z : zT) (fe : Nat → Int32) (x : Nat) : Int32 := if zK z x = 5 then -1 else fe x + (if bt (zM z) x = false then 0 else 9)
def mostS (am : Int32) (sh : Nat → Int32) (p : Nat) : Option Nat := fo (fun x b => if bt am x = false then b else match b with
  | none => some x
  | some y => if sh x ≤ sh y then some y else some x) none p
def allB (p : Nat) : Int32 := (1 <<< (nI p &&& 31)) - 1
def nxt (z : zT) (law : Int32) (w : wT) : Nat := if law = 0 then (mostS (allB (zP z)) (shw z w.1) (zP z)).getD 0 else match w.2.2.2 with
  | none => 0
  | some h => if law = 1 then (if h + 1 < zP z then h + 1 else 0) else if law = 3 then (if w.2.2.1 &&& 1 = 1 then h else (mostS (allB (zP z)) (shw z w.1) (zP z)).getD 0) else (mostS (zB z h ||| (1 <<< (nI h &&& 31))) (shw z w.1) (zP z)).getD 0
theorem mostS_s {am : Int32} {sh : Nat → Int32} {i : Nat} : mostS am sh (i + 1) = if bt am i = false then mostS am sh i else match mostS am sh i with
  | none => some i
  | some y => if sh i ≤ sh y then some y else some i := rfl
theorem mostS_lt {am : Int32} {sh : Nat → Int32} : ∀ {p y : Nat}, mostS am sh p = some y → y < p
  | 0, y, h => by cases h
  | p + 1, y, h => by
    rw [mostS_s] at h
    have ih := @mostS_lt am sh p
    split at h
    · exact Nat.lt_succ_of_lt (ih h)
    · split at h
      · cases h; omega
      · next q e =>
        split at h
        · cases h; exact Nat.lt_succ_of_lt (ih e)
        · cases h; omega
theorem mostS_ne {am : Int32} {sh : Nat → Int32} : ∀ {p x : Nat}, x < p → bt am x = true → mostS am sh p ≠ none
  | 0, x, h, _ => by omega
  | p + 1, x, h, hb => by
    rw [mostS_s]
    by_cases e : x = p
    · subst e
      rw [if_neg (by rw [hb]; decide)]
      split
      · intro c; cases c
      · split <;> (intro c; cases c)
    · have ih := @mostS_ne am sh p x (by omega) hb
      split
      · exact ih
      · split
        · intro c; cases c
        · split <;> (intro c; cases c)
theorem nI_m1 {h : Nat} (hh : h < 2 ^ 31) : ¬ nI h = -1 := fun e => nI_pos hh (by rw [e]; decide)
theorem nI_m9 {h : Nat} (hh : h < 2 ^ 31) : ¬ nI h = -9 := fun e => nI_pos hh (by rw [e]; decide)
theorem oC_e {o : Option Nat} (ho : ∀ y, o = some y → y < 2 ^ 31) : (oC o = -1) = (o = none) := by
  cases o with
  | none => simp [oC]
  | some y => simp [oC, nI_m1 (ho y rfl)]
theorem oM_e {o : Option Nat} (ho : ∀ y, o = some y → y < 2 ^ 31) : (oM o = -9) = (o = none) := by
  cases o with
  | none => simp [oM]
  | some y => simp [oM, nI_m9 (ho y rfl)]
section PG
variable {s : mb_T} {n x h p : Nat} {z : zT} {w : wT} {am law : Int32}
theorem pA_isHere (hp : s.1 40 0 = nI p) (h5 : p ≤ 5) (hx : x < 2 ^ 31) : f_A_isHere n (nI x) s = some ((if x < p then 1 else 0 : Int32), s) := by
  unfold f_A_isHere
  have e : (if nI x < 0 then 0 else (if (s.1 40 0) ≤ nI x then 0 else 1 : Int32) : Int32) = if x < p then 1 else 0 := by
    rw [if_neg (nI_pos hx), hp]
    simp only [nI_leI (show p < 2 ^ 31 by omega) hx]
    by_cases l : x < p
    · rw [if_neg (by omega), if_pos l]
    · rw [if_pos (by omega), if_neg l]
  rw [e, bz10]
theorem pA_bitsOfAll (hp : s.1 40 0 = nI p) : f_A_bitsOfAll n s = some (allB p, s) := by
  unfold f_A_bitsOfAll allB
  rw [hp]
theorem pA_bitsBeside (H : HA z w s) (hx : x < zP z) : f_A_bitsBeside n (nI x) s = some (zB z x, s) := by
  have h5 := H.1
  unfold f_A_bitsBeside
  rw [pA_isHere H.2.1 h5 (by omega), clS, if_pos hx, if_neg (by decide), rdI (by omega) (by decide), (H.2.2.2.2.2.2.2 x hx).2.2.2.2.2.1]
theorem pA_shows (H : HA z w s) (hx : x < zP z) : f_A_shows n (nI x) s = some (shw z w.1 x, s) := by
  obtain ⟨h5, hp, ho, he, hm, hl, hz, hq⟩ := H
  obtain ⟨x1, x2, x3, x4, x5, x6, x7⟩ := hq x hx
  unfold f_A_shows
  rw [pA_isHere hp h5 (by omega), clS, if_pos hx, if_neg (by decide), rdI (by omega) (by decide), rdI (by omega) (by decide), x1, x2, hz]
  simp only [bt0]
  unfold shw
  split <;> rfl
theorem pA_showsMost (hn : 200 ≤ n) (H : HA z w s) : f_A_showsMost n am s = some (oC (mostS am (shw z w.1) (zP z)), s) := by
  have h5 := H.1
  have hp := H.2.1
  unfold f_A_showsMost
  refine lp (F := fun f (t : Int32 × Int32 × Int32 × mb_T) => f_A_showsMost_7 n (fun x_14 x_15 x_16 s_17 => some (x_14, s_17)) am f t.1 t.2.1 t.2.2.1 t.2.2.2) (fun i => (oC (mostS am (shw z w.1) i), (match mostS am (shw z w.1) i with | none => (0 : Int32) | some y => shw z w.1 y), nI i, s)) (zP z) ?_ ?_ n (by omega)
  · intro i hi f
    dsimp only
    have eo : (oC (mostS am (shw z w.1) i) = -1) = (mostS am (shw z w.1) i = none) := oC_e (fun y hy => by have := mostS_lt hy; omega)
    rw [f_A_showsMost_7.eq_2, hp, if_neg (npi (by omega) hi)]
    simp only [mb_jn, pA_shows H hi, clS, bt0, nI_1, eo, mostS_s]
    by_cases hb : bt am i = false
    · rw [if_pos hb, if_pos hb]
    · rw [if_neg hb, if_neg hb]
      cases hm : mostS am (shw z w.1) i with
      | none => rfl
      | some y =>
        dsimp only
        rw [if_neg (by intro c; cases c)]
        split <;> rfl
  · intro f
    dsimp only
    rw [f_A_showsMost_7.eq_2, hp, if_pos npp]
end PG
