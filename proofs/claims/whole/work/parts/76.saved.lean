/-! the pure part: as saved -/
def sameW (z : zT) (w2 w : wT) : Bool := decide (w2.2.2.2 = w.2.2.2) && decide (∀ x, x < zP z → w2.1 x = w.1 x)
theorem oC_i {z : zT} {w w2 : wT} (Z : zP z ≤ 5) (W : wok z w) (W2 : wok z w2) : (oC w2.2.2.2 = oC w.2.2.2) = (w2.2.2.2 = w.2.2.2) := by
  cases e : w.2.2.2 with
  | none =>
    cases e2 : w2.2.2.2 with
    | none => simp
    | some b => simp [oC, nI_m1 (show b < 2 ^ 31 by have := W2 b e2; omega)]
  | some a =>
    have := W a e
    cases e2 : w2.2.2.2 with
    | none =>
      simp [oC]
      intro c; exact nI_m1 (show a < 2 ^ 31 by omega) c.symm
    | some b =>
      have := W2 b e2
      simp [oC, nI_eq (show b < 2 ^ 31 by omega) (show a < 2 ^ 31 by omega)]
section PL
variable {s : mb_T} {n x h p m d : Nat} {z : zT} {w w2 : wT}
theorem qA_isAsSaved (hn : 200 ≤ n) (H : HA z w s) (S : HS z w2 d s) (W : wok z w) (W2 : wok z w2) (hd : d < 6) : f_A_isAsSaved n (nI d) s = some ((if sameW z w2 w = true then 1 else 0 : Int32), s) := by
  obtain ⟨m1, m2, m3⟩ := mul8_d d hd
  have h5 := H.1
  have hp := H.2.1
  unfold f_A_isAsSaved
  rw [m1, if_neg m2, if_neg m3, nI_7, rdI (by omega) (by decide), S.2.2.2, H.2.2.2.2.2.1]
  simp only [oC_i h5 W W2]
  unfold sameW
  by_cases c : w2.2.2.2 = w.2.2.2
  · rw [if_pos c]
    obtain ⟨q1, q2, q3⟩ := @sN_p (fun x => !decide (w2.1 x = w.1 x)) (zP z)
    generalize sN (fun x => !decide (w2.1 x = w.1 x)) (zP z) = K at q1 q2 q3
    refine lp (F := fun f (t : Int32 × mb_T) => f_A_isAsSaved_41 n (fun x_15 s_16 => some (0, s_16)) (fun x_17 s_18 => some (1, s_18)) (nI (8 * d)) f t.1 t.2) (fun i => (nI i, s)) K ?_ ?_ n (by omega)
    · intro i hi f
      have e := q2 i hi
      simp at e
      dsimp only
      rw [f_A_isAsSaved_41.eq_2, hp, if_neg (npi (by omega) (by omega)), nI_add, rdI (by omega) (by decide), rdI (by omega) (by decide), S.1 i (by omega), (H.2.2.2.2.2.2.2 i (by omega)).2.1, if_pos e, nI_1]
    · intro f
      dsimp only
      rw [f_A_isAsSaved_41.eq_2, hp]
      by_cases l : K = zP z
      · rw [if_pos (by rw [l]; exact npp)]
        have al : ∀ x, x < zP z → w2.1 x = w.1 x := fun x hx => by
          have := q2 x (by omega)
          simpa using this
        simp only [c, decide_true, Bool.true_and, decide_eq_true_eq]
        rw [if_pos al]
      · have e := q3 (by omega)
        simp at e
        rw [if_neg (npi (by omega) (by omega)), nI_add, rdI (by omega) (by decide), rdI (by omega) (by decide), S.1 K (by omega), (H.2.2.2.2.2.2.2 K (by omega)).2.1, if_neg e]
        simp only [c, decide_true, Bool.true_and, decide_eq_true_eq]
        rw [if_neg (fun al => e (al K (by omega)))]
  · rw [if_neg c]
    simp [c]
end PL
