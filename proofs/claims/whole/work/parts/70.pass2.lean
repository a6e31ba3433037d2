/-! the pure part: a minute aside, whole -/
section PF
variable {s : mb_T} {n h : Nat} {z : zT} {w : wT}
theorem HAn (H : HA z w s) : zP z ≤ 5 := H.1
theorem pA_pass_t (hn : 200 ≤ n) (H : HA z w s) (hh : h < zP z) (li : Bool) : ∃ t, f_A_pass_46 n (fun x_48 s_49 => mb_cp s_49 49 5 48 5 0 0 (s_49.1 40 0) fun s_50 => mb_bd (sF s_50 40 4 ((s_50.1 40 4) + 1)) fun s_53 => mb_bd (sF s_53 40 5 (nI h)) fun s_55 => some s_55) (nI h) (if li = true then 1 else 0) n 0 s = some t ∧ Fr [(40, 4), (40, 5)] [48, 49] s t ∧ HA z (nf z li h w.1, w.2.1, w.2.2.1 + 1, some h) t := by
  rw [pA_pass_46 hn H hh li]
  obtain ⟨h5, hp, ho, he, hm, hl, hz, hx⟩ := H
  have hp2 : (sV s 49 (foU (nf z li h w.1) (s.2.1 49) (zP z))).1 40 0 = nI (zP z) := hp
  rw [hp2]
  have e := cpI (s := sV s 49 (foU (nf z li h w.1) (s.2.1 49) (zP z))) (sp := 0) (dp := 0) (m := zP z) (n0 := 5) (n1 := 5) (a0 := 49) (a1 := 48) (k := fun s_50 => mb_bd (sF s_50 40 4 ((s_50.1 40 4) + 1)) fun s_53 => mb_bd (sF s_53 40 5 (nI h)) fun s_55 => some s_55) (by omega) (by omega) (by decide) (by decide)
  refine ⟨_, e, ?_, ?_⟩
  · exact FrT (FrT (FrT (FrV (s := s) (q := 49)) (FrV (q := 48)) (ks := [(40, 4), (40, 5)]) (cs := [48, 49])) (FrF (i := 40) (k := 4)) (ks := [(40, 4), (40, 5)]) (cs := [48, 49])) (FrF (i := 40) (k := 5)) (ks := [(40, 4), (40, 5)]) (cs := [48, 49])
  · refine ⟨h5, hp, ho, he, ?_, rfl, hz, fun x hxp => ?_⟩
    · show s.1 40 4 + 1 = w.2.2.1 + 1
      rw [hm]
    · obtain ⟨x1, x2, x3, x4, x5, x6, x7⟩ := hx x hxp
      refine ⟨x1, ?_, x3, x4, x5, x6, x7⟩
      show va_cpy (foU (nf z li h w.1) (s.2.1 49) (zP z)) (s.2.1 48) 0 0 (zP z) x = nf z li h w.1 x
      unfold va_cpy
      rw [if_pos (by omega), foU_get, if_pos (by omega)]
      congr 1
      omega
theorem pA_pass (hn : 200 ≤ n) (H : HA z w s) (hh : h < zP z) : ∃ t, f_A_pass n (nI h) s = some t ∧ Fr [(40, 2), (40, 4), (40, 5)] [48, 49] s t ∧ HA z (stp z h w) t := by
  have hy : (if (s.1 40 3) = 0 then (if (s.1 40 2) ≤ 0 then 0 else 1 : Int32) else 1 : Int32) = if lit z w.2.1 = true then 1 else 0 := by
    rw [H.2.2.1, H.2.2.2.1]
    unfold lit
    by_cases a : zE z = 0 <;> by_cases b : w.2.1 ≤ 0 <;> simp [a, b]
  unfold f_A_pass
  rw [hy]
  have ho := H.2.2.1
  have he := H.2.2.2.1
  by_cases a : w.2.1 ≤ 0
  · rw [ho, if_pos a]
    obtain ⟨t, t1, t2, t3⟩ := pA_pass_t hn H hh (lit z w.2.1)
    refine ⟨t, t1, FrI t2, ?_⟩
    have : stp z h w = (nf z (lit z w.2.1) h w.1, w.2.1, w.2.2.1 + 1, some h) := by unfold stp burn; rw [if_pos a]
    rw [this]; exact t3
  · rw [ho, if_neg a]
    by_cases b : zE z = 0
    · rw [he, if_pos b]
      obtain ⟨h5, hp, ho, he, hm, hl, hz, hx⟩ := H
      obtain ⟨t, t1, t2, t3⟩ := pA_pass_t (w := (w.1, w.2.1 - 1, w.2.2.1, w.2.2.2)) (s := sF s 40 2 (w.2.1 - 1)) hn ⟨h5, hp, rfl, he, hm, hl, hz, hx⟩ hh (lit z w.2.1)
      refine ⟨t, t1, FrT (FrF (i := 40) (k := 2)) t2, ?_⟩
      have : stp z h w = (nf z (lit z w.2.1) h w.1, w.2.1 - 1, w.2.2.1 + 1, some h) := by unfold stp burn; rw [if_neg a, if_pos b]
      rw [this]; exact t3
    · rw [he, if_neg b]
      obtain ⟨t, t1, t2, t3⟩ := pA_pass_t hn H hh (lit z w.2.1)
      refine ⟨t, t1, FrI t2, ?_⟩
      have : stp z h w = (nf z (lit z w.2.1) h w.1, w.2.1, w.2.2.1 + 1, some h) := by unfold stp burn; rw [if_neg a, if_neg b]
      rw [this]; exact t3
end PF
