/-! the pure part: a text read through, in the class -/
def PL (tx : Nat → Int32) (m p : Nat) : Nat → Nat
  | 0 => p + 4
  | x + 1 => sb tx m (PL tx m p x) + 5
def QL (tx : Nat → Int32) (m p x : Nat) : Nat := sb tx m (PL tx m p x)
def gdP (tx : Nat → Int32) (m p x : Nat) : Bool := decide (QL tx m p x < m) && decide (sN (fun j => !pb tx m x (QL tx m p x) j) 5 = 5)
def nP (tx : Nat → Int32) (m p : Nat) : Nat := sN (fun x => !gdP tx m p x) 6
def hdk (tx : Nat → Int32) (m p : Nat) : Prop := sN (fun j => !hb tx m p j) 4 = 4
def FR (tx : Nat → Int32) (m p : Nat) : Int32 := if sN (fun j => !hb tx m p j) 4 = 4 then (if m ≤ QL tx m p (nP tx m p) then -9 else nI (QL tx m p (nP tx m p) + sN (fun j => !pb tx m (nP tx m p) (QL tx m p (nP tx m p)) j) 5)) else nI (p + sN (fun j => !hb tx m p j) 4)
theorem sN_at {b : Nat → Bool} {j K : Nat} (h1 : ∀ i, i < j → b i = false) (h2 : b j = true) (hj : j < K) : sN b K = j := by
  obtain ⟨q1, q2, q3⟩ := @sN_p b K
  rcases Nat.lt_trichotomy (sN b K) j with l | l | l
  · have := q3 (by omega)
    rw [h1 _ l] at this; cases this
  · exact l
  · have := q2 j l
    rw [h2] at this; cases this
section VC
variable {s t u : mb_T} {n p a q m i k x y j l K d G T : Nat} {c : Nat × Bool} {tx : Nat → Int32} {fs : List (Nat × Nat)} {as : List Nat} {v X Y lo hi : Int32}
theorem gd5 : gdP tx m p 5 = false := by
  unfold gdP
  have : sN (fun j => !pb tx m 5 (QL tx m p 5) j) 5 = 0 := sN_at (fun i hi => by omega) (by simp [pb]) (by omega)
  rw [this]
  simp
theorem nP_p : nP tx m p ≤ 5 ∧ (∀ x, x < nP tx m p → gdP tx m p x = true) ∧ gdP tx m p (nP tx m p) = false := by
  obtain ⟨q1, q2, q3⟩ := @sN_p (fun x => !gdP tx m p x) 6
  have h5 : nP tx m p ≤ 5 := by
    rcases Nat.lt_or_ge 5 (nP tx m p) with l | l
    · have := q2 5 l
      rw [gd5] at this
      cases this
    · exact l
  refine ⟨h5, fun x hx => ?_, ?_⟩
  · have := q2 x hx
    simpa using this
  · have := q3 (show nP tx m p < 6 by omega)
    show gdP tx m p (sN (fun x => !gdP tx m p x) 6) = false
    simpa using this
theorem gd_t (h : gdP tx m p x = true) : QL tx m p x < m ∧ sN (fun j => !pb tx m x (QL tx m p x) j) 5 = 5 ∧ QL tx m p x + 5 ≤ m := by
  unfold gdP at h
  simp at h
  refine ⟨h.1, h.2, ?_⟩
  have := cjp_le (tx := tx) (x := x) (p := QL tx m p x) (k := 5) (Nat.le_of_lt h.1) (by omega)
  rw [h.2] at this
  exact this
theorem PL_le (h4 : p + 4 ≤ m) : ∀ {x : Nat}, x ≤ nP tx m p → PL tx m p x ≤ m
  | 0, _ => h4
  | x + 1, h => (gd_t (nP_p.2.1 x (by omega))).2.2
theorem QL_le (h4 : p + 4 ≤ m) (hx : x ≤ nP tx m p) : PL tx m p x ≤ QL tx m p x ∧ QL tx m p x ≤ m := by
  have := sb_p (tx := tx) (PL_le h4 hx)
  exact ⟨this.1, this.2.1⟩
theorem p_clear : f_V_clear n 120 s = some (sF (sF (sF (sF (sF s 120 0 0) 120 1 0) 120 2 0) 120 3 0) 120 4 0) := rfl
abbrev rdF : List (Nat × Nat) := [(36, 1), (36, 2), (36, 3), (120, 0), (120, 1), (120, 2), (120, 3), (120, 4)]
abbrev rdA : List Nat := [125, 126, 127, 128, 129]
theorem clr_fk : Fk rdF rdA s (sF (sF (sF (sF (sF s 120 0 0) 120 1 0) 120 2 0) 120 3 0) 120 4 0) := FkT (FkT (FkT (FkT (FrQ FrF) (FrQ FrF)) (FrQ FrF)) (FrQ FrF)) (FrQ FrF)
/-- the draft, as read -/
def DRf (tx : Nat → Int32) (m p N : Nat) (u : mb_T) : Prop := u.1 120 0 = nI N ∧ u.1 120 4 = 0 ∧ (N = 0 → u.1 120 1 = 0 ∧ u.1 120 2 = 0 ∧ u.1 120 3 = 0) ∧ (1 ≤ N → u.1 120 1 = (if tx (p + 1) = 111 then 1 else 0) ∧ u.1 120 2 = tx (p + 2) - 48 ∧ u.1 120 3 = 10 * (tx (p + 3) - 48)) ∧ ∀ i, i < N → pD tx (QL tx m p i) i (u.2.1 125) (u.2.1 126) (u.2.1 127) (u.2.1 128) (u.2.1 129)
theorem pR_read (hn : 200 ≤ n) (hT : T < 4) (hm : m ≤ 80) (hx : ∀ i, i < m → s.2.1 (30 + T) i = tx i) (hp : p = sb tx m 0) : ∃ u, f_R_read n (30 + T) (nI m) 120 s = some (FR tx m p, u) ∧ Fk rdF rdA s u ∧ (FR tx m p = -9 → DRf tx m p (nP tx m p) u) := by
  have hpm : p ≤ m := by rw [hp]; exact (sb_p (Nat.zero_le m)).2.1
  obtain ⟨a, ha⟩ : ∃ a, a = sF (sF (sF (sF (sF (sF (sF (sF (sG s 36 (30 + T)) 36 1 (nI m)) 36 2 0) 36 3 (-9)) 120 0 0) 120 1 0) 120 2 0) 120 3 0) 120 4 0 := ⟨_, rfl⟩
  have Fa : Fk rdF rdA s a := by
    rw [ha]
    have h0 : Fk rdF rdA s (sG s 36 (30 + T)) := ⟨fun _ _ _ => rfl, fun _ _ => rfl, rfl⟩
    exact FkT (FkT (FkT (FkT h0 (FrQ FrF)) (FrQ FrF)) (FrQ FrF)) clr_fk
  have Ra : Rd T m (0, true) a := by
    rw [ha]
    exact ⟨rfl, rfl, rfl, rfl⟩
  have xa : ∀ {t : mb_T}, Fk rdF rdA s t → ∀ i, i < m → t.2.1 (30 + T) i = tx i := fun h i hi => by
    have : T = 0 ∨ T = 1 ∨ T = 2 ∨ T = 3 := by omega
    rw [h.2.1 (30 + T) (by rcases this with rfl | rfl | rfl | rfl <;> decide)]; exact hx i hi
  obtain ⟨b, b1, b2, b3, b4⟩ := pR_head hn Ra hT hm (xa Fa) hp
  have Fb : Fk rdF rdA s b := FkT Fa (FrQ b4)
  have b0 : b.1 120 0 = 0 := by rw [b4.1 120 0 (by decide), ha]; rfl
  have b40 : b.1 120 4 = 0 := by rw [b4.1 120 4 (by decide), ha]; rfl
  obtain ⟨kk, hkk⟩ : ∃ kk : mb_T → Option (Int32 × mb_T), kk = fun s_21 => if (s_21.1 120 0) = 0 then (mb_cw (f_V_clear n 120 s_21) fun s_23 => some ((s_23.1 36 3), s_23)) else some ((s_21.1 36 3), s_21) := ⟨_, rfl⟩
  have fin : ∀ t, Fk rdF rdA s t → ∃ u, kk t = some (t.1 36 3, u) ∧ Fk rdF rdA s u ∧ (t.1 120 0 = 0 → u.1 120 0 = 0 ∧ u.1 120 1 = 0 ∧ u.1 120 2 = 0 ∧ u.1 120 3 = 0 ∧ u.1 120 4 = 0) ∧ (¬ t.1 120 0 = 0 → u = t) := by
    intro t Ft
    rw [hkk]
    dsimp only
    by_cases c : t.1 120 0 = 0
    · rw [if_pos c, p_clear, cwS2]
      exact ⟨_, rfl, FkT Ft clr_fk, fun _ => ⟨rfl, rfl, rfl, rfl, rfl⟩, fun q => absurd c q⟩
    · rw [if_neg c]
      exact ⟨t, rfl, Ft, fun q => absurd q c, fun _ => rfl⟩
  have ER : f_R_read n (30 + T) (nI m) 120 s = f_R_read_38 n (fun _ s_21 => kk s_21) (fun _ s_26 => kk s_26) 120 n 0 b := by
    unfold f_R_read
    have e80 : (if (Int32.ofNat 80) < nI m then (Int32.ofNat 80) else nI m : Int32) = nI m := if_neg (show ¬ nI 80 < nI m from nI_nlt (by omega) (by decide))
    rw [e80, bdS, bdS, bdS, bdS, p_clear, cwS2, ← ha, b1, cwS2, hkk]
  rw [ER]
  by_cases hk : sN (fun j => !hb tx m p j) 4 = 4
  · have h4 : p + 4 ≤ m := by
      have := cjh_le (tx := tx) (p := p) (k := 4) hpm (by omega)
      omega
    obtain ⟨n5, ng, nb⟩ := nP_p (tx := tx) (m := m) (p := p)
    obtain ⟨N, hN⟩ : ∃ N, N = nP tx m p := ⟨_, rfl⟩
    rw [← hN] at n5 ng nb
    obtain ⟨c1, c2, c3⟩ := b3 hk
    have b2' : Rd T m (PL tx m p 0, true) b := by
      have : cj (hb tx m p) p 4 = (PL tx m p 0, true) := by
        unfold cj
        rw [hk]; rfl
      rw [this] at b2; exact b2
    have xr : ∀ {t : mb_T}, Fk rdF rdA s t → ∀ i, i < m → t.2.1 (30 + T) i = tx i := xa
    have go : ∀ x, x ≤ N → ∀ t : mb_T, Rd T m (PL tx m p x, true) t → Fk rdF rdA s t → ∃ v, f_R_skipBlanks n t = some v ∧ Rd T m (QL tx m p x, true) v ∧ Fr [(36, 2)] [] t v := by
      intro x hxN t Rt Ft
      exact pR_skip hn Rt hT hm (PL_le h4 (by omega)) (xr Ft)
    have L := lpE (F := fun f (t : Int32 × mb_T) => f_R_read_38 n (fun _ s_21 => kk s_21) (fun _ s_26 => kk s_26) 120 f t.1 t.2) (R := fun t => if m ≤ QL tx m p N then (mb_cw (f_R_skipBlanks n t.2) fun s_15 => kk s_15) else kk t.2) (fun x (t : Int32 × mb_T) => Fk rdF rdA s t.2 ∧ t.1 = nI x ∧ (x = N + 1 → t.2.1 36 3 = nI (QL tx m p N + sN (fun j => !pb tx m N (QL tx m p N) j) 5)) ∧ (x ≤ N → Rd T m (PL tx m p x, true) t.2 ∧ t.2.1 120 0 = nI x ∧ t.2.1 120 1 = (if tx (p + 1) = 111 then 1 else 0) ∧ t.2.1 120 2 = tx (p + 2) - 48 ∧ t.2.1 120 3 = 10 * (tx (p + 3) - 48) ∧ t.2.1 120 4 = 0 ∧ ∀ i, i < x → pD tx (QL tx m p i) i (t.2.2.1 125) (t.2.2.1 126) (t.2.2.1 127) (t.2.2.1 128) (t.2.2.1 129))) (if m ≤ QL tx m p N then N else N + 1) ?_ ?_ (t0 := (0, b)) (f := n) ⟨Fb, rfl, fun q => by omega, fun _ => ⟨b2', b0, c1, c2, c3, b40, fun i hi => by omega⟩⟩ (by split <;> omega)
    · obtain ⟨⟨a9, t⟩, ⟨Ft, e1, e2, e3⟩, e4⟩ := L
      dsimp only at Ft e1 e2 e3 e4
      by_cases c : m ≤ QL tx m p N
      · rw [if_pos c] at e3 e4
        obtain ⟨g1, g2, g3, g4, g5, g6, g7⟩ := e3 (Nat.le_refl _)
        obtain ⟨v, v1, v2, v3⟩ := go N (Nat.le_refl _) t g1 Ft
        have Fv : Fk rdF rdA s v := FkT Ft (FrQ v3)
        obtain ⟨u, u1, u2, u3, u4⟩ := fin v Fv
        have ev : v.1 36 3 = -9 := v2.2.2.1
        have eF : FR tx m p = -9 := by unfold FR; rw [if_pos hk, ← hN, if_pos c]
        have q0 : v.1 120 0 = nI N := by rw [v3.1 120 0 (by decide)]; exact g2
        refine ⟨u, ?_, u2, fun _ => ?_⟩
        · refine e4.trans ?_
          rw [v1, cwS2, u1, ev, eF]
        · rw [← hN]
          by_cases h0 : N = 0
          · obtain ⟨y0, y1, y2, y3, y4⟩ := u3 (by rw [q0, h0]; rfl)
            exact ⟨by rw [y0, h0]; rfl, y4, fun _ => ⟨y1, y2, y3⟩, fun q => by omega, fun i hi => by omega⟩
          · have hu := u4 (by rw [q0]; exact nI_ne0 (by omega) (by omega))
            rw [hu]
            refine ⟨q0, by rw [v3.1 120 4 (by decide)]; exact g6, fun q => absurd q h0, fun _ => ⟨by rw [v3.1 120 1 (by decide)]; exact g3, by rw [v3.1 120 2 (by decide)]; exact g4, by rw [v3.1 120 3 (by decide)]; exact g5⟩, fun i hi => ?_⟩
            rw [v3.2.1 125 (by decide), v3.2.1 126 (by decide), v3.2.1 127 (by decide), v3.2.1 128 (by decide), v3.2.1 129 (by decide)]
            exact g7 i hi
      · rw [if_neg c] at e2 e4
        have ef := e2 rfl
        obtain ⟨u, u1, u2, u3, u4⟩ := fin t Ft
        have hle := cjp_le (tx := tx) (x := N) (p := QL tx m p N) (k := 5) (show QL tx m p N ≤ m by omega) (by omega)
        have eF : FR tx m p = t.1 36 3 := by unfold FR; rw [if_pos hk, ← hN, if_neg c, ef]
        refine ⟨u, ?_, u2, fun q => ?_⟩
        · refine e4.trans ?_
          rw [u1, eF]
        · rw [eF, ef] at q
          exact absurd q (nI_m9 (by omega))
    · rintro i hi ⟨a9, t⟩ ⟨Ft, e1, e2, e3⟩
      dsimp only at Ft e1 e2 e3
      subst e1
      have hiN : i ≤ N := by split at hi <;> omega
      obtain ⟨g1, g2, g3, g4, g5, g6, g7⟩ := e3 hiN
      obtain ⟨v, v1, v2, v3⟩ := go i hiN t g1 Ft
      have Fv : Fk rdF rdA s v := FkT Ft (FrQ v3)
      have hq := QL_le (tx := tx) (x := i) h4 (by omega)
      have hlt : QL tx m p i < m := by
        by_cases c : i < N
        · exact (gd_t (ng i c)).1
        · have : i = N := by omega
          rw [this]
          split at hi <;> omega
      obtain ⟨w, w1, w2, w3, w4, w5⟩ := pR_one (x := i) hn v2 hT hm hq.2 (by omega) (xr Fv)
      have Fw : Fk rdF rdA s w := FkT Fv (FrQ w5)
      have g36 : t.1 36 3 = -9 := g1.2.2.1
      have E : ∀ f, f_R_read_38 n (fun _ s_21 => kk s_21) (fun _ s_26 => kk s_26) 120 (f + 1) (nI i) t = f_R_read_38 n (fun _ s_21 => kk s_21) (fun _ s_26 => kk s_26) 120 f (nI (i + 1)) w := by
        intro f
        have l1 : v.1 36 1 = nI m := v2.1
        have l2 : v.1 36 2 = nI (QL tx m p i) := v2.2.1
        rw [f_R_read_38.eq_2, if_neg (show ¬ (5 : Int32) < nI i from nI_nlt (a := 5) (by omega) (by decide)), if_pos g36, v1, cwS2, l1, l2, if_pos (nI_lt hlt (by omega)), w1, cwS2, nI_1]
      by_cases c : i < N
      · obtain ⟨k1, k2, k3⟩ := gd_t (ng i c)
        obtain ⟨y1, y2, y3, y4⟩ := w3 k2
        refine ⟨(nI (i + 1), w), ⟨Fw, rfl, fun q => by omega, fun _ => ⟨?_, y2, ?_, ?_, ?_, ?_, fun e he => ?_⟩⟩, E⟩
        · have : cj (pb tx m i (QL tx m p i)) (QL tx m p i) 5 = (PL tx m p (i + 1), true) := by
            unfold cj
            rw [k2]; rfl
          rw [this] at w2; exact w2
        · rw [w5.1 120 1 (by decide), v3.1 120 1 (by decide)]; exact g3
        · rw [w5.1 120 2 (by decide), v3.1 120 2 (by decide)]; exact g4
        · rw [w5.1 120 3 (by decide), v3.1 120 3 (by decide)]; exact g5
        · rw [w5.1 120 4 (by decide), v3.1 120 4 (by decide)]; exact g6
        · by_cases ee : e = i
          · rw [ee]; exact y4
          · obtain ⟨z1, z2, z3, z4, z5⟩ := y3 e ee
            have := g7 e (by omega)
            unfold pD at this ⊢
            dsimp only
            rw [z1, z2, z3, z4, z5, v3.2.1 125 (by decide), v3.2.1 126 (by decide), v3.2.1 127 (by decide), v3.2.1 128 (by decide), v3.2.1 129 (by decide)]
            exact this
      · have eN : i = N := by omega
        subst eN
        have hk5 : ¬ sN (fun j => !pb tx m i (QL tx m p i) j) 5 = 5 := by
          intro q
          unfold gdP at nb
          rw [decide_eq_true hlt, decide_eq_true q] at nb
          cases nb
        refine ⟨(nI (i + 1), w), ⟨Fw, rfl, fun _ => ?_, fun q => by omega⟩, E⟩
        show w.1 36 3 = _
        have g23 : w.1 36 3 = (if (cj (pb tx m i (QL tx m p i)) (QL tx m p i) 5).2 = true then -9 else nI (cj (pb tx m i (QL tx m p i)) (QL tx m p i) 5).1) := w2.2.2.1
        have e5 : (cj (pb tx m i (QL tx m p i)) (QL tx m p i) 5).2 = false := decide_eq_false hk5
        rw [g23, e5, if_neg (by decide)]; rfl
    · rintro ⟨a9, t⟩ ⟨Ft, e1, e2, e3⟩ f
      dsimp only at Ft e1 e2 e3
      subst e1
      dsimp only
      rw [f_R_read_38.eq_2]
      by_cases c : m ≤ QL tx m p N
      · rw [if_pos c] at e3
        obtain ⟨g1, -⟩ := e3 (Nat.le_refl _)
        obtain ⟨v, v1, v2, v3⟩ := go N (Nat.le_refl _) t g1 Ft
        have g36 : t.1 36 3 = -9 := g1.2.2.1
        have l1 : v.1 36 1 = nI m := v2.1
        have l2 : v.1 36 2 = nI (QL tx m p N) := v2.2.1
        have hq := QL_le (tx := tx) (x := N) h4 (by omega)
        rw [if_pos c, if_pos c, if_neg (show ¬ (5 : Int32) < nI N from nI_nlt (a := 5) (by omega) (by decide)), if_pos g36, v1, cwS2, cwS2, l1, l2, if_neg (nI_nlt (by omega) (by omega))]
      · rw [if_neg c] at e2
        have hle := cjp_le (tx := tx) (x := N) (p := QL tx m p N) (k := 5) (show QL tx m p N ≤ m by omega) (by omega)
        have h9 : ¬ t.1 36 3 = -9 := by rw [e2 rfl]; exact nI_m9 (by omega)
        rw [if_neg c, if_neg c, if_neg h9, ite_self]
  · -- the head has a fault
    have eb : b.1 36 3 = nI (p + sN (fun j => !hb tx m p j) 4) := by
      have g23 : b.1 36 3 = (if (cj (hb tx m p) p 4).2 = true then -9 else nI (cj (hb tx m p) p 4).1) := b2.2.2.1
      have e5 : (cj (hb tx m p) p 4).2 = false := decide_eq_false hk
      rw [g23, e5, if_neg (by decide)]; rfl
    have hle := cjh_le (tx := tx) (p := p) (k := 4) hpm (by omega)
    have h9 : ¬ b.1 36 3 = -9 := by rw [eb]; exact nI_m9 (by omega)
    obtain ⟨u, u1, u2, u3, u4⟩ := fin b Fb
    have eF : FR tx m p = b.1 36 3 := by unfold FR; rw [if_neg hk, eb]
    refine ⟨u, ?_, u2, fun q => absurd (eF ▸ q) h9⟩
    obtain ⟨f, rfl⟩ : ∃ f, n = f + 1 := ⟨n - 1, by omega⟩
    rw [f_R_read_38.eq_2, if_neg (by decide), if_neg h9, eF]
    exact u1
end VC
