/-! the pure part: handings judged, learnt from: the calls -/
theorem sN_c {b c : Nat → Bool} : ∀ {m : Nat}, (∀ k, k < m → b k = c k) → sN b m = sN c m
  | 0, _ => rfl
  | m + 1, h => by rw [sN_s, sN_s, @sN_c b c m (fun k hk => h k (by omega)), h m (by omega)]
theorem shl_d : ∀ p, p < 6 → (1 <<< (nI p &&& 31) : Int32) = nI (2 ^ p) := by decide +kernel
section SB
variable {s t u : mb_T} {n p a b q m i c c1 k x y j l h K mi na : Nat} {v : Int32} {z : zT} {w w2 : wT} {r : Bool} {law law2 X Y V U T : Int32} {g : Nat → Int32} {hd : Nat → Nat} {fs : List (Nat × Nat)} {as : List Nat}
theorem pC_hr_t (hn : 200 ≤ n) (e : s.1 100 0 = nI (zP z)) (h5 : zP z ≤ 5) (h1 : 1 ≤ zP z) (D : HDs z x m hd s) : f_C_handingsRefusal n (nI x) s = some (0, s) := by
  obtain ⟨hx, hm, e1, e2, e3⟩ := D
  have e9 : sN (fun k => !ion (zP z) (s.2.1 (20 + x) k)) m = m := by
    obtain ⟨q1, q2, q3⟩ := @sN_p (fun k => !ion (zP z) (s.2.1 (20 + x) k)) m
    rcases Nat.lt_or_ge (sN (fun k => !ion (zP z) (s.2.1 (20 + x) k)) m) m with l | l
    · have := q3 l
      obtain ⟨f1, f2, f3⟩ := e3 _ l
      have hl : ¬ nI (zP z) ≤ nI (hd (sN (fun k => !ion (zP z) (s.2.1 (20 + x) k)) m)) := npi (by omega) f3
      have hg := nI_pos (n := hd (sN (fun k => !ion (zP z) (s.2.1 (20 + x) k)) m)) (by omega)
      rw [f1] at this
      unfold ion at this hl hg
      simp only [decide_eq_true_eq, Bool.not_eq_true', Bool.and_eq_false_imp, Bool.not_eq_false', Bool.not_eq_eq_eq_not, Bool.not_false, decide_eq_false hl, decide_eq_false hg] at this
      simp at this
    · omega
  rw [pC_hr hn e h5 h1 hx e1 hm, if_pos e9]
end SB
