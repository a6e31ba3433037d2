/-! the pure part: head and persons, in the class -/
/-- so many tests behind a place -/
def cj (b : Nat → Bool) (p k : Nat) : Nat × Bool := (p + sN (fun j => !b j) k, decide (sN (fun j => !b j) k = k))
theorem tk_c {b : Nat → Bool} {p k : Nat} {B : Bool} (h : sN (fun j => !b j) k = k → B = b k) : tk B (cj b p k) = cj b p (k + 1) := by
  have hs := @sN_p (fun j => !b j) k
  unfold tk cj
  rw [sN_s]
  by_cases c : sN (fun j => !b j) k = k
  · rw [c, h c, if_neg (show ¬ k < k by omega)]
    cases hb : b k with
    | true => simp; omega
    | false => simp
  · rw [if_pos (show sN (fun j => !b j) k < k by omega)]
    have e1 : decide (sN (fun j => !b j) k = k) = false := decide_eq_false c
    have e2 : decide (sN (fun j => !b j) k = k + 1) = false := decide_eq_false (by omega)
    simp only [e1, e2, Bool.false_and, Bool.false_eq_true, if_false]
theorem cj_le {b : Nat → Bool} {p k m : Nat} (hp : p ≤ m) (hb : ∀ j, b j = true → p + j < m) : p + sN (fun j => !b j) k ≤ m := by
  obtain ⟨q1, q2, q3⟩ := @sN_p (fun j => !b j) k
  rcases Nat.eq_zero_or_pos (sN (fun j => !b j) k) with h | h
  · omega
  · have := q2 (sN (fun j => !b j) k - 1) (by omega)
    simp at this
    have := hb _ this
    omega
def hb (tx : Nat → Int32) (m p j : Nat) : Bool := if j = 0 then atv tx m p 119 else if j = 1 then (atv tx m (p + 1) 114 || atv tx m (p + 1) 111) else if j = 2 then fgb tx m 0 3 (p + 2) else fgb tx m 0 9 (p + 3)
def pb (tx : Nat → Int32) (m x p j : Nat) : Bool := if j = 0 then (decide (x < 5) && !decide (kdv tx m p = -9)) else if j = 1 then fgb tx m 0 9 (p + 1) else if j = 2 then fgb tx m 0 9 (p + 2) else if j = 3 then fgb tx m 0 9 (p + 3) else fgb tx m 1 9 (p + 4)
theorem atv_l {tx : Nat → Int32} {m p : Nat} {v : Int32} (h : atv tx m p v = true) : p < m := by
  unfold atv at h
  simp at h
  exact h.1
theorem fgb_l {tx : Nat → Int32} {m p : Nat} {lo hi : Int32} (h : fgb tx m lo hi p = true) : p < m := by
  unfold fgb at h
  simp at h
  exact h.1
theorem hb_l {tx : Nat → Int32} {m p j : Nat} (hj : j < 4) (h : hb tx m p j = true) : p + j < m := by
  have : j = 0 ∨ j = 1 ∨ j = 2 ∨ j = 3 := by omega
  rcases this with rfl | rfl | rfl | rfl
  · exact atv_l (tx := tx) (v := 119) h
  · have h : (atv tx m (p + 1) 114 || atv tx m (p + 1) 111) = true := h
    simp at h
    rcases h with h | h <;> exact atv_l h
  · exact fgb_l (tx := tx) (lo := 0) (hi := 3) h
  · exact fgb_l (tx := tx) (lo := 0) (hi := 9) h
theorem pb_l {tx : Nat → Int32} {m x p j : Nat} (hj : j < 5) (h : pb tx m x p j = true) : p + j < m := by
  have : j = 0 ∨ j = 1 ∨ j = 2 ∨ j = 3 ∨ j = 4 := by omega
  rcases this with rfl | rfl | rfl | rfl | rfl
  · have h : (decide (x < 5) && !decide (kdv tx m p = -9)) = true := h
    unfold kdv at h
    by_cases c : p < m
    · exact c
    · rw [if_neg c] at h
      simp at h
  · exact fgb_l (tx := tx) (lo := 0) (hi := 9) h
  · exact fgb_l (tx := tx) (lo := 0) (hi := 9) h
  · exact fgb_l (tx := tx) (lo := 0) (hi := 9) h
  · exact fgb_l (tx := tx) (lo := 1) (hi := 9) h
theorem cjh_le {tx : Nat → Int32} {m p k : Nat} (hp : p ≤ m) (hk : k ≤ 4) : p + sN (fun j => !hb tx m p j) k ≤ m := by
  obtain ⟨q1, q2, q3⟩ := @sN_p (fun j => !hb tx m p j) k
  rcases Nat.eq_zero_or_pos (sN (fun j => !hb tx m p j) k) with h | h
  · omega
  · have := q2 (sN (fun j => !hb tx m p j) k - 1) (by omega)
    simp at this
    have := hb_l (by omega) this
    omega
theorem cjp_le {tx : Nat → Int32} {m x p k : Nat} (hp : p ≤ m) (hk : k ≤ 5) : p + sN (fun j => !pb tx m x p j) k ≤ m := by
  obtain ⟨q1, q2, q3⟩ := @sN_p (fun j => !pb tx m x p j) k
  rcases Nat.eq_zero_or_pos (sN (fun j => !pb tx m x p j) k) with h | h
  · omega
  · have := q2 (sN (fun j => !pb tx m x p j) k - 1) (by omega)
    simp at this
    have := pb_l (by omega) this
    omega
theorem atv_e {tx : Nat → Int32} {m p : Nat} {v : Int32} (hv : ¬ (1000 : Int32) = v) : ((if p < m then tx p else 1000 : Int32) = v) = (atv tx m p v = true) := by
  unfold atv
  by_cases c : p < m <;> simp [c, hv]
theorem sN_le4 {b : Nat → Bool} {k l : Nat} (h : sN b l = l) (hk : k ≤ l) : sN b k = k := by
  have := sN_al h
  exact sN_all fun i hi => this i (by omega)
section VB
variable {s t u : mb_T} {n p a q m i k x y j l K d G T : Nat} {c : Nat × Bool} {tx : Nat → Int32} {fs : List (Nat × Nat)} {as : List Nat} {v X Y lo hi : Int32}
theorem pR_head (hn : 200 ≤ n) (H : Rd T m (0, true) s) (hT : T < 4) (hm : m ≤ 80) (hx : ∀ i, i < m → s.2.1 (30 + T) i = tx i) (hp : p = sb tx m 0) : ∃ u, f_R_readHead n 120 s = some u ∧ Rd T m (cj (hb tx m p) p 4) u ∧ (sN (fun j => !hb tx m p j) 4 = 4 → u.1 120 1 = (if tx (p + 1) = 111 then 1 else 0) ∧ u.1 120 2 = tx (p + 2) - 48 ∧ u.1 120 3 = 10 * (tx (p + 3) - 48)) ∧ Fr [(36, 2), (36, 3), (120, 1), (120, 2), (120, 3)] [] s u := by
  have hpm : p ≤ m := by rw [hp]; exact (sb_p (Nat.zero_le m)).2.1
  obtain ⟨a, a1, a2, a3⟩ := pR_skip hn H hT hm (Nat.zero_le m) hx
  rw [← hp] at a2
  have c0 : cj (hb tx m p) p 0 = (p, true) := rfl
  rw [← c0] at a2
  have xs : ∀ {t : mb_T} {fs : List (Nat × Nat)}, Fr fs [] s t → ∀ i, i < m → t.2.1 (30 + T) i = tx i := fun h i hi => by rw [h.2.1 (30 + T) (by simp)]; exact hx i hi
  -- w
  obtain ⟨b, b1, b2, b3⟩ := pR_take (n := n) a2 (cjh_le hpm (by omega)) hm (atv tx m p 119)
  rw [tk_c (b := hb tx m p) (p := p) (k := 0) (B := atv tx m p 119) (fun _ => rfl)] at b2
  have Fb : Fr [(36, 2), (36, 3)] [] s b := FrT a3 b3
  -- r or o
  obtain ⟨B1, hB1⟩ : ∃ B1, B1 = (atv tx m (cj (hb tx m p) p 1).1 114 || atv tx m (cj (hb tx m p) p 1).1 111) := ⟨_, rfl⟩
  obtain ⟨d, d1, d2, d3⟩ := pR_take (n := n) b2 (cjh_le hpm (by omega)) hm B1
  rw [tk_c (fun h => by rw [hB1]; unfold cj; rw [h]; rfl)] at d2
  have Fd : Fr [(36, 2), (36, 3)] [] s d := FrT Fb d3
  obtain ⟨V1, hV1⟩ : ∃ V1 : Int32, V1 = if (cj (hb tx m p) p 1).1 < m then tx (cj (hb tx m p) p 1).1 else 1000 := ⟨_, rfl⟩
  have De : Rd T m (cj (hb tx m p) p 2) (sF d 120 1 (if V1 = 111 then 1 else 0)) := Rd_fr d2 FrF
  have Fe : Fr [(36, 2), (36, 3), (120, 1)] [] s (sF d 120 1 (if V1 = 111 then 1 else 0)) := FrT Fd FrF
  obtain ⟨e, e1, e2, e3⟩ := pR_fig (n := n) (lo := 0) (hi := 3) De hT hm (cjh_le hpm (by omega)) (xs Fe) (by decide)
  obtain ⟨L1, hL1⟩ : ∃ L1 : Int32, L1 = if fgb tx m 0 3 (cj (hb tx m p) p 2).1 = true then tx (cj (hb tx m p) p 2).1 - 48 else 0 := ⟨_, rfl⟩
  rw [← hL1] at e1
  rw [tk_c (fun h => by unfold cj; rw [h]; rfl)] at e2
  have Ee : Rd T m (cj (hb tx m p) p 3) (sF e 120 2 L1) := Rd_fr e2 FrF
  have Ff : Fr [(36, 2), (36, 3), (120, 1), (120, 2)] [] s (sF e 120 2 L1) := FrT (FrT Fe e3 (ks := [(36, 2), (36, 3), (120, 1)]) (cs := [])) FrF
  obtain ⟨g, g1, g2, g3⟩ := pR_fig (n := n) (lo := 0) (hi := 9) Ee hT hm (cjh_le hpm (by omega)) (xs Ff) (by decide)
  obtain ⟨L2, hL2⟩ : ∃ L2 : Int32, L2 = if fgb tx m 0 9 (cj (hb tx m p) p 3).1 = true then tx (cj (hb tx m p) p 3).1 - 48 else 0 := ⟨_, rfl⟩
  rw [← hL2] at g1
  rw [tk_c (fun h => by unfold cj; rw [h]; rfl)] at g2
  refine ⟨sF g 120 3 (10 * L2), ?_, Rd_fr g2 FrF, ?_, FrT (FrT Ff g3 (ks := [(36, 2), (36, 3), (120, 1), (120, 2), (120, 3)]) (cs := [])) FrF⟩
  · unfold f_R_readHead
    rw [a1, cwS2, pR_sign a2 hT hm (cjh_le hpm (by omega)) (xs a3), clS]
    have t1 : (if (if (cj (hb tx m p) p 0).1 < m then tx (cj (hb tx m p) p 0).1 else 1000 : Int32) = 119 then 1 else 0 : Int32) = if atv tx m p 119 = true then 1 else 0 := by
      simp only [atv_e (show ¬ (1000 : Int32) = 119 by decide)]
      rfl
    rw [t1, b1, cwS2, pR_sign b2 hT hm (cjh_le hpm (by omega)) (xs Fb), clS, ← hV1]
    have t2 : (if V1 = 114 then 1 else (if V1 = 111 then 1 else 0 : Int32) : Int32) = if B1 = true then 1 else 0 := by
      rw [hV1, hB1]
      simp only [atv_e (show ¬ (1000 : Int32) = 114 by decide), atv_e (show ¬ (1000 : Int32) = 111 by decide)]
      cases atv tx m (cj (hb tx m p) p 1).1 114 <;> cases atv tx m (cj (hb tx m p) p 1).1 111 <;> rfl
    rw [t2, d1, cwS2, bdS, e1, clS, bdS, g1, clS, bdS]
  · intro h4
    have s1 : sN (fun j => !hb tx m p j) 1 = 1 := sN_le4 h4 (by omega)
    have s2 : sN (fun j => !hb tx m p j) 2 = 2 := sN_le4 h4 (by omega)
    have s3 : sN (fun j => !hb tx m p j) 3 = 3 := sN_le4 h4 (by omega)
    have al := sN_al h4
    have k2 : fgb tx m 0 3 (p + 2) = true := by have := al 2 (by omega); simpa [hb] using this
    have k3 : fgb tx m 0 9 (p + 3) = true := by have := al 3 (by omega); simpa [hb] using this
    refine ⟨?_, ?_, ?_⟩
    · show g.1 120 1 = _
      rw [g3.1 120 1 (by decide)]
      show e.1 120 1 = _
      rw [e3.1 120 1 (by decide)]
      show (if V1 = 111 then 1 else 0 : Int32) = _
      have : V1 = tx (p + 1) := by
        rw [hV1]
        unfold cj
        rw [s1]
        have := fgb_l k2
        rw [if_pos (show p + 1 < m by omega)]
      rw [this]
    · show g.1 120 2 = _
      rw [g3.1 120 2 (by decide)]
      show L1 = _
      rw [hL1]
      unfold cj
      rw [s2, if_pos k2]
    · show 10 * L2 = _
      rw [hL2]
      unfold cj
      rw [s3, if_pos k3]
/-- what one is, told at a place -/
def pD (tx : Nat → Int32) (p : Nat) (x : Nat) (K : Nat → Int32) (F G L S : Nat → Int32) : Prop := K x = kdO (tx p) ∧ F x = tx (p + 1) - 48 ∧ G x = tx (p + 2) - 48 ∧ L x = tx (p + 3) - 48 ∧ S x = 5 * (tx (p + 4) - 48)
theorem pR_one (hn : 200 ≤ n) (H : Rd T m (p, true) s) (hT : T < 4) (hm : m ≤ 80) (hpm : p ≤ m) (h6 : x < 6) (hx : ∀ i, i < m → s.2.1 (30 + T) i = tx i) : ∃ u, f_R_readOne n 120 (nI x) s = some u ∧ Rd T m (cj (pb tx m x p) p 5) u ∧ (sN (fun j => !pb tx m x p j) 5 = 5 → x < 5 ∧ u.1 120 0 = nI (x + 1) ∧ (∀ i, i ≠ x → u.2.1 125 i = s.2.1 125 i ∧ u.2.1 126 i = s.2.1 126 i ∧ u.2.1 127 i = s.2.1 127 i ∧ u.2.1 128 i = s.2.1 128 i ∧ u.2.1 129 i = s.2.1 129 i) ∧ pD tx p x (u.2.1 125) (u.2.1 126) (u.2.1 127) (u.2.1 128) (u.2.1 129)) ∧ (¬ sN (fun j => !pb tx m x p j) 5 = 5 → u.1 120 0 = s.1 120 0) ∧ Fr [(36, 2), (36, 3), (120, 0)] [125, 126, 127, 128, 129] s u := by
  have c0 : cj (pb tx m x p) p 0 = (p, true) := rfl
  rw [← c0] at H
  have xs : ∀ {t : mb_T} {fs : List (Nat × Nat)}, Fr fs [] s t → ∀ i, i < m → t.2.1 (30 + T) i = tx i := fun h i hi => by rw [h.2.1 (30 + T) (by simp)]; exact hx i hi
  have ek : f_R_sign n s = some (if p < m then tx p else 1000, s) := pR_sign H hT hm hpm hx
  have ekd : kdO (if p < m then tx p else 1000) = kdv tx m p := by
    unfold kdv
    by_cases c : p < m
    · rw [if_pos c, if_pos c]
    · rw [if_neg c, if_neg c]; decide
  obtain ⟨B0, hB0⟩ : ∃ B0, B0 = (decide (x < 5) && !decide (kdv tx m p = -9)) := ⟨_, rfl⟩
  have eB : (if 5 ≤ nI x then 0 else (if kdv tx m p < 0 then 0 else 1 : Int32) : Int32) = if B0 = true then 1 else 0 := by
    rw [hB0]
    by_cases c : x < 5
    · rw [if_neg (show ¬ (5 : Int32) ≤ nI x from npi (p := 5) (by decide) c)]
      have hk : kdv tx m p = -9 ∨ ∃ k, k ≤ 5 ∧ kdv tx m p = nI k := by
        unfold kdv
        split
        · exact kdO_9
        · exact Or.inl rfl
      rcases hk with hk | ⟨k, k1, k2⟩
      · rw [hk]; simp
      · rw [k2, if_neg (nI_pos (by omega))]
        simp [c, nI_m9 (show k < 2 ^ 31 by omega)]
    · rw [if_pos (show (5 : Int32) ≤ nI x from nI_le (a := 5) (by omega) (by omega))]
      simp [c]
  obtain ⟨b, b1, b2, b3⟩ := pR_take (n := n) H (cjp_le hpm (by omega)) hm B0
  rw [tk_c (fun _ => by rw [hB0]; rfl)] at b2
  obtain ⟨d, d1, d2, d3⟩ := pR_fig (n := n) (lo := 0) (hi := 9) b2 hT hm (cjp_le hpm (by omega)) (xs b3) (by decide)
  rw [tk_c (fun h => by unfold cj; rw [h]; rfl)] at d2
  have Fd : Fr [(36, 2), (36, 3)] [] s d := FrT b3 d3
  obtain ⟨e, e1, e2, e3⟩ := pR_fig (n := n) (lo := 0) (hi := 9) d2 hT hm (cjp_le hpm (by omega)) (xs Fd) (by decide)
  rw [tk_c (fun h => by unfold cj; rw [h]; rfl)] at e2
  have Fe : Fr [(36, 2), (36, 3)] [] s e := FrT Fd e3
  obtain ⟨f, f1, f2, f3⟩ := pR_fig (n := n) (lo := 0) (hi := 9) e2 hT hm (cjp_le hpm (by omega)) (xs Fe) (by decide)
  rw [tk_c (fun h => by unfold cj; rw [h]; rfl)] at f2
  have Ff : Fr [(36, 2), (36, 3)] [] s f := FrT Fe f3
  obtain ⟨g, g1, g2, g3⟩ := pR_fig (n := n) (lo := 1) (hi := 9) f2 hT hm (cjp_le hpm (by omega)) (xs Ff) (by decide)
  rw [tk_c (fun h => by unfold cj; rw [h]; rfl)] at g2
  have Fg : Fr [(36, 2), (36, 3)] [] s g := FrT Ff g3
  obtain ⟨V1, hV1⟩ : ∃ V1 : Int32, V1 = if fgb tx m 0 9 (cj (pb tx m x p) p 1).1 = true then tx (cj (pb tx m x p) p 1).1 - 48 else 0 := ⟨_, rfl⟩
  obtain ⟨V2, hV2⟩ : ∃ V2 : Int32, V2 = if fgb tx m 0 9 (cj (pb tx m x p) p 2).1 = true then tx (cj (pb tx m x p) p 2).1 - 48 else 0 := ⟨_, rfl⟩
  obtain ⟨V3, hV3⟩ : ∃ V3 : Int32, V3 = if fgb tx m 0 9 (cj (pb tx m x p) p 3).1 = true then tx (cj (pb tx m x p) p 3).1 - 48 else 0 := ⟨_, rfl⟩
  obtain ⟨V4, hV4⟩ : ∃ V4 : Int32, V4 = if fgb tx m 1 9 (cj (pb tx m x p) p 4).1 = true then tx (cj (pb tx m x p) p 4).1 - 48 else 0 := ⟨_, rfl⟩
  rw [← hV1] at d1
  rw [← hV2] at e1
  rw [← hV3] at f1
  rw [← hV4] at g1
  have E : f_R_readOne n 120 (nI x) s = if (g.1 36 3) = (-9) then (if 5 ≤ nI x then some g else mb_wr g (120 + 5) 5 (nI x) (kdv tx m p) fun s_26 => mb_wr s_26 (120 + 6) 5 (nI x) V1 fun s_29 => mb_wr s_29 (120 + 7) 5 (nI x) V2 fun s_32 => mb_wr s_32 (120 + 8) 5 (nI x) V3 fun s_35 => mb_wr s_35 (120 + 9) 5 (nI x) (5 * V4) fun s_38 => mb_bd (sF s_38 120 0 (nI x + 1)) fun s_41 => some s_41) else some g := by
    unfold f_R_readOne
    rw [ek, clS, pR_kind, clS, ekd, eB, b1, cwS2, d1, clS, e1, clS, f1, clS, g1, clS]
  by_cases h : sN (fun j => !pb tx m x p j) 5 = 5
  · have s1 : sN (fun j => !pb tx m x p j) 1 = 1 := sN_le4 h (by omega)
    have s2 : sN (fun j => !pb tx m x p j) 2 = 2 := sN_le4 h (by omega)
    have s3 : sN (fun j => !pb tx m x p j) 3 = 3 := sN_le4 h (by omega)
    have s4 : sN (fun j => !pb tx m x p j) 4 = 4 := sN_le4 h (by omega)
    have al := sN_al h
    have k0 : (decide (x < 5) && !decide (kdv tx m p = -9)) = true := by have := al 0 (by omega); simpa [pb] using this
    have k1 : fgb tx m 0 9 (p + 1) = true := by have := al 1 (by omega); simpa [pb] using this
    have k2 : fgb tx m 0 9 (p + 2) = true := by have := al 2 (by omega); simpa [pb] using this
    have k3 : fgb tx m 0 9 (p + 3) = true := by have := al 3 (by omega); simpa [pb] using this
    have k4 : fgb tx m 1 9 (p + 4) = true := by have := al 4 (by omega); simpa [pb] using this
    have hx5 : x < 5 := by simp at k0; exact k0.1
    have hpl : p < m := by have := fgb_l k1; omega
    have e36 : g.1 36 3 = -9 := by
      rw [g2.2.2.1]
      unfold cj
      rw [decide_eq_true h]; rfl
    obtain ⟨w, hw⟩ : ∃ w, w = sF (sA (sA (sA (sA (sA g 125 x (kdv tx m p)) 126 x V1) 127 x V2) 128 x V3) 129 x (5 * V4)) 120 0 (nI (x + 1)) := ⟨_, rfl⟩
    have Fw : Fr [(120, 0)] [125, 126, 127, 128, 129] g w := by
      rw [hw]
      exact FrT (FrT (FrT (FrT (FrT (FrA (q := 125)) (FrA (q := 126)) (ks := []) (cs := [125, 126])) (FrA (q := 127)) (ks := []) (cs := [125, 126, 127])) (FrA (q := 128)) (ks := []) (cs := [125, 126, 127, 128])) (FrA (q := 129)) (ks := []) (cs := [125, 126, 127, 128, 129])) (FrF (i := 120) (k := 0))
    refine ⟨w, ?_, Rd_fr g2 Fw, fun _ => ⟨hx5, by rw [hw]; rfl, fun i hi => ?_, ?_⟩, fun q => absurd h q, FrT Fg Fw⟩
    · rw [E, if_pos e36, if_neg (show ¬ (5 : Int32) ≤ nI x from npi (p := 5) (by decide) hx5), wrI hx5 (by decide), wrI hx5 (by decide), wrI hx5 (by decide), wrI hx5 (by decide), wrI hx5 (by decide), bdS, nI_1, hw]
    · rw [hw]
      refine ⟨?_, ?_, ?_, ?_, ?_⟩
      · show upd (g.2.1 125) x _ i = _
        rw [updI, if_neg hi, Fg.2.1 125 (by decide)]
      · show upd (g.2.1 126) x _ i = _
        rw [updI, if_neg hi, Fg.2.1 126 (by decide)]
      · show upd (g.2.1 127) x _ i = _
        rw [updI, if_neg hi, Fg.2.1 127 (by decide)]
      · show upd (g.2.1 128) x _ i = _
        rw [updI, if_neg hi, Fg.2.1 128 (by decide)]
      · show upd (g.2.1 129) x _ i = _
        rw [updI, if_neg hi, Fg.2.1 129 (by decide)]
    · rw [hw]
      refine ⟨?_, ?_, ?_, ?_, ?_⟩
      · show upd (g.2.1 125) x (kdv tx m p) x = _
        rw [updI, if_pos rfl]; unfold kdv; rw [if_pos hpl]
      · show upd (g.2.1 126) x V1 x = _
        rw [updI, if_pos rfl, hV1]; unfold cj; rw [s1, if_pos k1]
      · show upd (g.2.1 127) x V2 x = _
        rw [updI, if_pos rfl, hV2]; unfold cj; rw [s2, if_pos k2]
      · show upd (g.2.1 128) x V3 x = _
        rw [updI, if_pos rfl, hV3]; unfold cj; rw [s3, if_pos k3]
      · show upd (g.2.1 129) x (5 * V4) x = _
        rw [updI, if_pos rfl, hV4]; unfold cj; rw [s4, if_pos k4]
  · have e36 : ¬ g.1 36 3 = -9 := by
      have hle := cjp_le (tx := tx) (x := x) hpm (show 5 ≤ 5 by omega)
      have g23 : g.1 36 3 = (if (cj (pb tx m x p) p 5).2 = true then -9 else nI (cj (pb tx m x p) p 5).1) := g2.2.2.1
      have e5 : (cj (pb tx m x p) p 5).2 = false := decide_eq_false h
      rw [g23, e5, if_neg (by decide)]
      exact nI_m9 (show p + sN (fun j => !pb tx m x p j) 5 < 2 ^ 31 by omega)
    refine ⟨g, by rw [E, if_neg e36], g2, fun q => absurd q h, fun _ => by rw [Fg.1 120 0 (by decide)], FrI Fg⟩
end VB
