/-! the pure part: aside begins as a cave is -/
/-- a cave's cells hold it -/
def HV (c : Nat) (r : Bool) (z : zT) (w : wT) (s : mb_T) : Prop := zP z ≤ 5 ∧ s.1 c 0 = nI (zP z) ∧ s.1 c 1 = (if r = true then 1 else 0) ∧ s.1 c 3 = w.2.1 ∧ s.1 c 4 = w.2.2.1 ∧ (∃ mi, mi ≤ 120 ∧ w.2.2.1 = nI mi ∧ (mi = 0 → w.2.2.2 = none) ∧ (0 < mi → s.2.1 (c + 10) (mi - 1) = oC w.2.2.2 ∧ w.2.2.2 ≠ none)) ∧ ∀ x, x < zP z → s.2.1 (c + 5) x = zK z x ∧ s.2.1 (c + 6) x = w.1 x ∧ s.2.1 (c + 7) x = zG z x ∧ s.2.1 (c + 8) x = zL z x ∧ s.2.1 (c + 9) x = zS z x
/-- all sit by numbers, liars lie -/
def zcv (r : Bool) (z : zT) : Prop := zB z = sitB id (zP z) r ∧ zM z = mkB (fun x => ofK (zK z x) 3) (zP z) ∧ zE z = 0
section PO
variable {s : mb_T} {n p a b q m i c : Nat} {v : Int32} {z : zT} {w : wT} {r : Bool}
theorem p_lastHolder (H : HV c r z w s) : f_V_lastHolder n c s = some (oC w.2.2.2, s) := by
  obtain ⟨h5, hp, hr, ho, hm, ⟨mi, m1, m2, m3, m4⟩, hx⟩ := H
  unfold f_V_lastHolder
  rw [hm, m2]
  by_cases e : mi = 0
  · subst e
    rw [if_pos (by decide), m3 rfl]
    rfl
  · have h120 : ¬ (120 : Int32) < nI mi := by
      have := nI_nlt (a := 120) (b := mi) m1 (by decide)
      exact this
    have hs : nI mi - 1 = nI (mi - 1) := by
      have := nI_pred (mi - 1)
      rwa [show mi - 1 + 1 = mi by omega] at this
    rw [if_neg (nI_nle (by omega) (by omega)), if_neg h120, hs, rdI (by omega) (by decide), (m4 (by omega)).1]
theorem p_bitsOfKind (hn : 200 ≤ n) (hp : s.1 c 0 = nI p) (h5 : p ≤ 5) : f_V_bitsOfKind n c v s = some (mkB (fun x => ofK (s.2.1 (c + 5) x) v) p, s) := by
  unfold f_V_bitsOfKind
  refine lp (F := fun f (t : Int32 × Int32 × mb_T) => f_V_bitsOfKind_4 n (fun x_10 x_11 s_12 => some (x_10, s_12)) c v f t.1 t.2.1 t.2.2) (fun i => (mkB (fun x => ofK (s.2.1 (c + 5) x) v) i, nI i, s)) p ?_ ?_ n (by omega)
  · intro i hi f
    dsimp only
    rw [f_V_bitsOfKind_4.eq_2, hp, if_neg (npi (by omega) hi), rdI (by omega) (by decide), p_isOfKind, clS, nI_1, mkB_s]
    cases ofK (s.2.1 (c + 5) i) v <;> rfl
  · intro f
    dsimp only
    rw [f_V_bitsOfKind_4.eq_2, hp, if_pos npp]
end PO
