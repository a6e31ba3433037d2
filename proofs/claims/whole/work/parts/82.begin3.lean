/-! the pure part: aside begins as the cave is now -/
section PQ
variable {s t : mb_T} {n p a b q m i c : Nat} {v : Int32} {z : zT} {w : wT} {r : Bool}
theorem HVfr {fs : List (Nat × Nat)} {as : List Nat} (H : HV 100 r z w s) (h : Fr fs as s t) (hf : ∀ k, k < 5 → (100, k) ∉ fs := by decide) (ha : (∀ q, q < 11 → (100 + q) ∉ as) := by decide) : HV 100 r z w t := by
  obtain ⟨h5, hp, hr, ho, hm, hl, hx⟩ := H
  refine ⟨h5, ?_, ?_, ?_, ?_, ?_, ?_⟩
  · rw [h.1 100 0 (hf 0 (by decide))]; exact hp
  · rw [h.1 100 1 (hf 1 (by decide))]; exact hr
  · rw [h.1 100 3 (hf 3 (by decide))]; exact ho
  · rw [h.1 100 4 (hf 4 (by decide))]; exact hm
  · rw [h.2.1 (100 + 10) (ha 10 (by decide))]; exact hl
  · rw [h.2.1 (100 + 5) (ha 5 (by decide)), h.2.1 (100 + 6) (ha 6 (by decide)), h.2.1 (100 + 7) (ha 7 (by decide)), h.2.1 (100 + 8) (ha 8 (by decide)), h.2.1 (100 + 9) (ha 9 (by decide))]; exact hx
theorem cp5 {β : Type} {k : mb_T → Option β} {a0 a1 : Nat} : mb_cp s a0 5 a1 5 0 0 5 k = k (sV s a1 (va_cpy (s.2.1 a0) (s.2.1 a1) 0 0 5)) := cpI (sp := 0) (dp := 0) (m := 5) (by omega) (by omega) (by decide) (by decide)
theorem va5 {f g : Nat → Int32} {x : Nat} (hx : x < 5) : va_cpy f g 0 0 5 x = f x := by
  unfold va_cpy
  rw [if_pos (by omega), show 0 + (x - 0) = x by omega]
/-- all but the seats -/
theorem q_begin_a (H : HV 100 r z w s) (C : zcv r z) : ∃ t, (∀ k, (∀ u, Fr [(40, 0), (40, 1), (40, 2), (40, 3), (40, 4), (40, 5), (40, 6)] [47, 48, 50, 51, 52] s u → True) → True) ∧ t = s := ⟨s, fun _ _ => trivial, rfl⟩
end PQ
