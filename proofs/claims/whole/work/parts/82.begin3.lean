/-! the pure part: aside begins as the cave is now -/
section PQ
variable {s t : mb_T} {n p a b q m i c : Nat} {v : Int32} {z : zT} {w : wT} {r : Bool}
theorem HVfr {fs : List (Nat × Nat)} {as : List Nat} (H : HV 100 r z w s) (h : Fr fs as s t) (hf : ∀ k, k < 5 → (100, k) ∉ fs := by decide) (ha : (∀ q, q < 11 → (100 + q) ∉ as) := by decide) : HV 100 r z w t := by
  obtain ⟨h5, hp, hr, ho, hm, hl, hx⟩ := H
  refine ⟨h5, ?_, ?_, ?_, ?_, ?_, ?_⟩
  · rw [h.1 100 0 (hf 0 (by decide))]; exact hp
  · rw [h.1 100 1 (hf 1 (by decide))]; exact hr
  · rw [h.1 100 3 (hf 3 (by decide))]; exact ho
  · rw [h.1 100 4 (hf 4 (by decide))]; exact hm
  · rw [h.2.1 (100 + 10) (ha 10 (by decide))]; exact hl
  · rw [h.2.1 (100 + 5) (ha 5 (by decide)), h.2.1 (100 + 6) (ha 6 (by decide)), h.2.1 (100 + 7) (ha 7 (by decide)), h.2.1 (100 + 8) (ha 8 (by decide)), h.2.1 (100 + 9) (ha 9 (by decide))]; exact hx
theorem cp5 {β : Type} {k : mb_T → Option β} {a0 a1 : Nat} : mb_cp s a0 5 a1 5 0 0 5 k = k (sV s a1 (va_cpy (s.2.1 a0) (s.2.1 a1) 0 0 5)) := cpI (sp := 0) (dp := 0) (m := 5) (by omega) (by omega) (by decide) (by decide)
theorem va5 {f g : Nat → Int32} {x : Nat} (hx : x < 5) : va_cpy f g 0 0 5 x = f x := by
  unfold va_cpy
  rw [if_pos (by omega), show 0 + (x - 0) = x by omega]
theorem sitB_z : ∀ p, p < 6 → ∀ r : Bool, (∀ x, x < p → ∃ m, m < 32 ∧ sitB id p r x = nI m) ∧ ∀ x, x < p → ∀ y, y < p → bt (sitB id p r x) y = bt (sitB id p r y) x := by decide +kernel
theorem zcv_ok (C : zcv r z) (h5 : zP z ≤ 5) : zok z := by
  obtain ⟨d1, d2⟩ := sitB_z (zP z) (by omega) r
  rw [← C.1] at d1 d2
  exact ⟨h5, d1, fun x y hx hy => d2 x hx y hy⟩
theorem q_begin (hn : 200 ≤ n) (H : HV 100 r z w s) (C : zcv r z) : ∃ t, f_A_begin n 100 s = some t ∧ Fr [(40, 0), (40, 1), (40, 2), (40, 3), (40, 4), (40, 5), (40, 6)] [47, 48, 50, 51, 52, 53, 54] s t ∧ HA z w t ∧ t.1 40 1 = (if r = true then 1 else 0) := by
  have h5 := H.1
  have Z := zcv_ok C h5
  have hx := H.2.2.2.2.2.2
  unfold f_A_begin
  simp only [mb_bd]
  have f1 : Fr [(40, 0), (40, 1), (40, 2), (40, 3), (40, 4)] [] s (sF (sF (sF (sF (sF s 40 0 (s.1 100 0)) 40 1 (s.1 100 1)) 40 2 (s.1 100 3)) 40 3 0) 40 4 (s.1 100 4)) := FrT (FrT (FrT (FrT (FrF (i := 40) (k := 0)) (FrF (i := 40) (k := 1)) (ks := [(40, 0), (40, 1)]) (cs := [])) (FrF (i := 40) (k := 2)) (ks := [(40, 0), (40, 1), (40, 2)]) (cs := [])) (FrF (i := 40) (k := 3)) (ks := [(40, 0), (40, 1), (40, 2), (40, 3)]) (cs := [])) (FrF (i := 40) (k := 4))
  have H1 : HV 100 r z w (sF (sF (sF (sF (sF s 40 0 (s.1 100 0)) 40 1 (s.1 100 1)) 40 2 (s.1 100 3)) 40 3 0) 40 4 (s.1 100 4)) := HVfr H f1
  generalize e1 : sF (sF (sF (sF (sF s 40 0 (s.1 100 0)) 40 1 (s.1 100 1)) 40 2 (s.1 100 3)) 40 3 0) 40 4 (s.1 100 4) = s1 at f1 H1
  have b0 : s1.1 40 0 = nI (zP z) := by rw [← e1]; exact H.2.1
  have b1 : s1.1 40 1 = (if r = true then 1 else 0) := by rw [← e1]; exact H.2.2.1
  have b2 : s1.1 40 2 = w.2.1 := by rw [← e1]; exact H.2.2.2.1
  have b3 : s1.1 40 3 = zE z := by rw [← e1, C.2.2]; rfl
  have b4 : s1.1 40 4 = w.2.2.1 := by rw [← e1]; exact H.2.2.2.2.1
  show mb_cl (f_V_lastHolder n 100 (sF (sF (sF (sF (sF s 40 0 (s.1 100 0)) 40 1 (s.1 100 1)) 40 2 (s.1 100 3)) 40 3 0) 40 4 (s.1 100 4))) _ = _ ∧ _ ∧ _ ∧ _
  sorry
end PQ
