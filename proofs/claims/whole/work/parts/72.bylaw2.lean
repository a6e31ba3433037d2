/-! the pure part: byLaw aside -/
def zok (z : zT) : Prop := zP z ≤ 5 ∧ (∀ x, x < zP z → ∃ m, m < 32 ∧ zB z x = nI m) ∧ ∀ x y, x < zP z → y < zP z → bt (zB z x) y = bt (zB z y) x
def wok (z : zT) (w : wT) : Prop := ∀ h, w.2.2.2 = some h → h < zP z
def lawok (law : Int32) : Prop := law = 0 ∨ law = 1 ∨ law = 2 ∨ law = 3
theorem mostS_get {am : Int32} {sh : Nat → Int32} {p x : Nat} (hx : x < p) (hb : bt am x = true) : ∃ y, mostS am sh p = some y ∧ y < p := by
  cases e : mostS am sh p with
  | none => exact absurd e (mostS_ne hx hb)
  | some y => exact ⟨y, rfl, mostS_lt e⟩
theorem allB_d : ∀ p, p < 6 → ∀ x, x < p → bt (allB p) x = true := by decide +kernel
theorem btor_d : ∀ m, m < 32 → ∀ h, h < 5 → bt (nI m ||| (1 <<< (nI h &&& 31))) h = true := by decide +kernel
section PH
variable {s : mb_T} {n x h p : Nat} {z : zT} {w : wT} {am law : Int32}
theorem nxt_lt (Z : zok z) (W : wok z w) (h1 : 1 ≤ zP z) : nxt z law w < zP z := by
  have h5 := Z.1
  obtain ⟨ya, ea, la⟩ := mostS_get (sh := shw z w.1) (show 0 < zP z by omega) (allB_d (zP z) (by omega) 0 (by omega))
  unfold nxt
  rw [ea]
  split
  · exact la
  · split
    · omega
    · next h e =>
      have hh := W h e
      obtain ⟨m, m1, m2⟩ := Z.2.1 h hh
      obtain ⟨yb, eb, lb⟩ := mostS_get (sh := shw z w.1) hh (am := zB z h ||| (1 <<< (nI h &&& 31))) (by rw [m2]; exact btor_d m m1 h (by omega))
      rw [eb]
      split
      · split <;> omega
      · split
        · split
          · exact hh
          · exact la
        · exact lb
theorem pA_byLaw (hn : 200 ≤ n) (H : HA z w s) (Z : zok z) (W : wok z w) (h1 : 1 ≤ zP z) (hl : lawok law) : f_A_byLaw n law s = some (nI (nxt z law w), s) := by
  have h5 := Z.1
  have hl5 := H.2.2.2.2.2.1
  have hmi := H.2.2.2.2.1
  have hp := H.2.1
  obtain ⟨ya, ea, la⟩ := mostS_get (sh := shw z w.1) (show 0 < zP z by omega) (allB_d (zP z) (by omega) 0 (by omega))
  unfold f_A_byLaw nxt
  simp only [mb_jn, pA_bitsOfAll hp, pA_showsMost hn H, clS, hl5, hmi, hp, ea]
  rcases hl with e | e | e | e
  · subst e; rfl
  all_goals
    subst e
    simp only [show ¬ ((1 : Int32) = 0) by decide, show ¬ ((2 : Int32) = 0) by decide, show ¬ ((3 : Int32) = 0) by decide, show ¬ ((2 : Int32) = 1) by decide, show ¬ ((2 : Int32) = 3) by decide, show ¬ ((3 : Int32) = 1) by decide, show ¬ ((3 : Int32) = 2) by decide, if_false, if_true]
    cases ew : w.2.2.2 with
    | none => rfl
    | some h =>
      have hh := W h ew
      have hne : ¬ (oC (some h) = -1) := nI_m1 (by omega)
      rw [if_neg hne]
      first
      | (show some ((if nI (zP z) ≤ nI h + 1 then 0 else nI h + 1 : Int32), s) = _
         rw [nI_1]
         simp only [nI_leI (show zP z < 2 ^ 31 by omega) (show h + 1 < 2 ^ 31 by omega)]
         by_cases l : h + 1 < zP z
         · rw [if_neg (by omega), if_pos l]
         · rw [if_pos (by omega), if_neg l]; rfl)
      | (obtain ⟨m, m1, m2⟩ := Z.2.1 h hh
         obtain ⟨yb, eb, lb⟩ := mostS_get (sh := shw z w.1) hh (am := zB z h ||| (1 <<< (nI h &&& 31))) (by rw [m2]; exact btor_d m m1 h (by omega))
         have e2 : f_A_showsMost n (zB z h ||| (1 <<< (s.1 40 5 &&& 31))) s = some (nI yb, s) := by
           rw [pA_showsMost hn H, hl5, ew]
           show some (oC (mostS (zB z h ||| (1 <<< (nI h &&& 31))) (shw z w.1) (zP z)), s) = _
           rw [eb]; rfl
         show mb_cl (f_A_bitsBeside n (nI h) s) _ = some (nI ((mostS (zB z h ||| (1 <<< (nI h &&& 31))) (shw z w.1) (zP z)).getD 0), s)
         rw [pA_bitsBeside H hh, clS, e2, eb]; rfl)
      | (split <;> rfl)
end PH
