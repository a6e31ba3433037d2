/-! the pure part: faults -/
abbrev qA3 : List Nat := [10, 11, 47, 48, 49, 50, 51, 52, 53, 54, 55, 56, 61, 64, 125, 126, 127, 128, 129, 205, 212, 213, 214, 215, 216, 223, 228, 230, 232, 234, 235, 236, 239, 240]
/-- the first five are as they were -/
def f5 (s u : mb_T) : Prop := ∀ i, i < 5 → u.2.1 212 i = s.2.1 212 i ∧ u.2.1 213 i = s.2.1 213 i ∧ u.2.1 214 i = s.2.1 214 i ∧ u.2.1 215 i = s.2.1 215 i ∧ u.2.1 216 i = s.2.1 216 i
def pDs (tx : Nat → Int32) (m p N : Nat) (u : mb_T) : Prop := ∀ i, i < N → pD tx (QL tx m p i) (5 + i) (u.2.1 212) (u.2.1 213) (u.2.1 214) (u.2.1 215) (u.2.1 216)
section VE
variable {s t u : mb_T} {n p a q m i k x y j l K d G T : Nat} {z : zT} {w : wT} {r : Bool} {tx : Nat → Int32} {fs : List (Nat × Nat)} {as : List Nat} {v X Y lo hi law : Int32}
theorem f5_r : f5 s s := fun _ _ => ⟨rfl, rfl, rfl, rfl, rfl⟩
theorem f5_t (h1 : f5 s t) (h2 : f5 t u) : f5 s u := fun i hi => by
  obtain ⟨a1, a2, a3, a4, a5⟩ := h1 i hi
  obtain ⟨b1, b2, b3, b4, b5⟩ := h2 i hi
  exact ⟨by rw [b1, a1], by rw [b2, a2], by rw [b3, a3], by rw [b4, a4], by rw [b5, a5]⟩
theorem f5_fr (h : Fr fs as s u) (ha : (∀ q ∈ [212, 213, 214, 215, 216], q ∉ as) := by decide) : f5 s u := fun i _ => by
  rw [h.2.1 212 (ha _ (by decide)), h.2.1 213 (ha _ (by decide)), h.2.1 214 (ha _ (by decide)), h.2.1 215 (ha _ (by decide)), h.2.1 216 (ha _ (by decide))]
  exact ⟨rfl, rfl, rfl, rfl, rfl⟩
theorem pDs_fr {N : Nat} (H : pDs tx m p N s) (h : Fr fs as s u) (ha : (∀ q ∈ [212, 213, 214, 215, 216], q ∉ as) := by decide) : pDs tx m p N u := fun i hi => by
  rw [h.2.1 212 (ha _ (by decide)), h.2.1 213 (ha _ (by decide)), h.2.1 214 (ha _ (by decide)), h.2.1 215 (ha _ (by decide)), h.2.1 216 (ha _ (by decide))]
  exact H i hi
variable {k0 k1 k2 : mb_T → Option (Int32 × mb_T)}
theorem pM_skip (hT : T < 4) (hm : m ≤ 80) : ∀ (d p : Nat) (s : mb_T), p + d ≤ m → (∀ j, p ≤ j → j < p + d → tx j = 32) → MT T m tx s → s.1 200 17 = nI p → ∃ u, (∀ f, f_M_goesOn_16 n k0 k1 k2 (nI T) (f + d) s = f_M_goesOn_16 n k0 k1 k2 (nI T) f u) ∧ u.1 200 17 = nI (p + d) ∧ Fr [(200, 17)] [] s u := by
  intro d
  induction d with
  | zero => intro p s _ _ _ hp; exact ⟨s, fun f => rfl, hp, FrR⟩
  | succ d ih =>
    intro p s h1 h2 M hp
    obtain ⟨u, u1, u2, u3⟩ := ih (p + 1) (sF s 200 17 (nI (p + 1))) (by omega) (fun j a b => h2 j (by omega) (by omega)) (MT_fr M FrF) rfl
    refine ⟨u, fun f => ?_, by rw [u2]; congr 1; omega, FrT FrF u3⟩
    rw [show f + (d + 1) = (f + d) + 1 by omega, f_M_goesOn_16.eq_2, rdI (by omega) (by decide), M.1, hp, if_neg (npi (by omega) (by omega)), pM_here M hT hm hp (by omega), clS, if_pos (show p < m by omega), h2 p (by omega) (by omega), if_pos rfl, bdS, hp, nI_1]
    exact u1 f
theorem pM_pers (hT : T < 4) (hm : m ≤ 80) (h4 : p + 4 ≤ m) {N : Nat} (hN : N = nP tx m p) : ∀ (r x : Nat) (s : mb_T) (f : Nat), x + r = N → MT T m tx s → s.1 200 17 = nI (PL tx m p x) → s.1 200 18 = nI x → ¬ s.1 200 19 = -9 → pDs tx m p x s → m - PL tx m p x + r + 1 < f → ∃ u, f_M_goesOn_16 n (fun s_26 => some ((s_26.1 200 17), s_26)) (fun s_27 => some ((s_27.1 200 17), s_27)) (fun s_28 => if (s_28.1 200 19) = (-9) then (mb_rd s_28 206 4 (nI T) fun x_30 => some (x_30, s_28)) else some ((-9), s_28)) (nI T) f s = some (if m ≤ QL tx m p N then -9 else nI (QL tx m p N + sN (fun j => !pb tx m N (QL tx m p N) j) 5), u) ∧ Fr [(200, 17), (200, 18)] [212, 213, 214, 215, 216] s u ∧ f5 s u ∧ (m ≤ QL tx m p N → u.1 200 18 = nI N ∧ pDs tx m p N u) := by
  obtain ⟨n5, ng, nb⟩ := nP_p (tx := tx) (m := m) (p := p)
  rw [← hN] at n5 ng nb
  intro r
  induction r with
  | zero =>
    intro x s f hr M hp hx hf hD hfu
    have ex : x = N := by omega
    subst ex
    have hPL := PL_le (tx := tx) (x := x) h4 (by omega)
    obtain ⟨s1, s2, s3, s4⟩ := sb_p (tx := tx) hPL
    have s4 : QL tx m p x < m → ¬ tx (QL tx m p x) = 32 := s4
    obtain ⟨u, u1, u2, u3⟩ := pM_skip (n := n) (k0 := fun s_26 => some ((s_26.1 200 17), s_26)) (k1 := fun s_27 => some ((s_27.1 200 17), s_27)) (k2 := fun s_28 => if (s_28.1 200 19) = (-9) then (mb_rd s_28 206 4 (nI T) fun x_30 => some (x_30, s_28)) else some ((-9), s_28)) hT hm (sb tx m (PL tx m p x) - PL tx m p x) (PL tx m p x) s (by omega) (fun j a b => s3 j a (by omega)) M hp
    have eq : PL tx m p x + (sb tx m (PL tx m p x) - PL tx m p x) = QL tx m p x := by unfold QL; omega
    rw [eq] at u2
    have Mu := MT_fr M u3
    obtain ⟨f, rfl⟩ : ∃ g, f = g + 1 + (sb tx m (PL tx m p x) - PL tx m p x) := ⟨f - 1 - (sb tx m (PL tx m p x) - PL tx m p x), by omega⟩
    rw [u1, f_M_goesOn_16.eq_2, rdI (by omega) (by decide), Mu.1, u2]
    have e19 : ¬ u.1 200 19 = -9 := by rw [u3.1 200 19 (by decide)]; exact hf
    by_cases c : m ≤ QL tx m p x
    · have hqm : QL tx m p x ≤ m := s2
      rw [if_pos c, if_pos (nI_le c (by omega)), if_neg e19]
      exact ⟨u, rfl, FrI u3, f5_fr u3, fun _ => ⟨by rw [u3.1 200 18 (by decide)]; exact hx, pDs_fr hD u3⟩⟩
    · have hl : QL tx m p x < m := by omega
      have hk5 : ¬ sN (fun j => !pb tx m x (QL tx m p x) j) 5 = 5 := by
        intro q
        unfold gdP at nb
        rw [decide_eq_true hl, decide_eq_true q] at nb
        cases nb
      obtain ⟨v, v1, v2, v3, v4, v5⟩ := pM_ps (n := n) Mu hT hm u2 (by omega) (by rw [u3.1 200 18 (by decide)]; exact hx) (by omega)
      rw [if_neg hk5] at v1
      have Fv : Fr [(200, 17), (200, 18)] [212, 213, 214, 215, 216] s v := FrT u3 v5
      have e2 : v.2.1 = u.2.1 := v4 hk5
      refine ⟨v, ?_, Fv, f5_t (f5_fr u3) (fun i _ => by rw [e2]; exact ⟨rfl, rfl, rfl, rfl, rfl⟩), fun q => absurd q c⟩
      rw [if_neg (npi (by omega) hl), pM_here Mu hT hm u2 (by omega), clS, if_pos hl, if_neg (s4 hl), if_neg e19, v1, clS, if_pos rfl, v2, if_neg c]
  | succ r ih =>
    intro x s f hr M hp hx hf hD hfu
    have hPL := PL_le (tx := tx) (x := x) h4 (by omega)
    obtain ⟨s1, s2, s3, s4⟩ := sb_p (tx := tx) hPL
    have s4 : QL tx m p x < m → ¬ tx (QL tx m p x) = 32 := s4
    obtain ⟨u, u1, u2, u3⟩ := pM_skip (n := n) (k0 := fun s_26 => some ((s_26.1 200 17), s_26)) (k1 := fun s_27 => some ((s_27.1 200 17), s_27)) (k2 := fun s_28 => if (s_28.1 200 19) = (-9) then (mb_rd s_28 206 4 (nI T) fun x_30 => some (x_30, s_28)) else some ((-9), s_28)) hT hm (sb tx m (PL tx m p x) - PL tx m p x) (PL tx m p x) s (by omega) (fun j a b => s3 j a (by omega)) M hp
    have eq : PL tx m p x + (sb tx m (PL tx m p x) - PL tx m p x) = QL tx m p x := by unfold QL; omega
    rw [eq] at u2
    have Mu := MT_fr M u3
    obtain ⟨k1', k2', k3'⟩ := gd_t (ng x (by omega))
    obtain ⟨v, v1, v2, v3, v4, v5⟩ := pM_ps (n := n) Mu hT hm u2 (by omega) (by rw [u3.1 200 18 (by decide)]; exact hx) (show x ≤ 5 by omega)
    rw [if_pos k2'] at v1
    obtain ⟨y1, y2, y3⟩ := v3 k2'
    have Fv : Fr [(200, 17), (200, 18)] [212, 213, 214, 215, 216] s v := FrT u3 v5
    have e19 : ¬ u.1 200 19 = -9 := by rw [u3.1 200 19 (by decide)]; exact hf
    obtain ⟨f, rfl⟩ : ∃ g, f = g + 1 + (sb tx m (PL tx m p x) - PL tx m p x) := ⟨f - 1 - (sb tx m (PL tx m p x) - PL tx m p x), by omega⟩
    have ePL : PL tx m p (x + 1) = QL tx m p x + 5 := rfl
    have hq : QL tx m p x = sb tx m (PL tx m p x) := rfl
    obtain ⟨e, e1, e2, e3, e4⟩ := ih (x + 1) v f (by omega) (MT_fr M Fv) (by rw [v2, k2', ePL]) y1 (by rw [Fv.1 200 19 (by decide)]; exact hf) (fun i hi => by
      by_cases c : i = x
      · rw [c]; exact y3
      · obtain ⟨z1, z2, z3, z4, z5⟩ := y2 (5 + i) (by omega)
        have h9 : pDs tx m p x u := pDs_fr hD u3
        have := h9 i (by omega)
        unfold pD at this ⊢
        rw [z1, z2, z3, z4, z5]
        exact this) (by rw [ePL]; omega)
    refine ⟨e, ?_, FrT Fv e2, f5_t (f5_t (f5_fr u3) (fun i hi => y2 i (by omega))) e3, e4⟩
    rw [u1, f_M_goesOn_16.eq_2, rdI (by omega) (by decide), Mu.1, u2, if_neg (npi (by omega) k1'), pM_here Mu hT hm u2 (by omega), clS, if_pos k1', if_neg (s4 k1'), if_neg e19, v1, clS, if_neg (by decide)]
    exact e1
theorem pM_goes (hn : 200 ≤ n) (hT : T < 4) (hm : m ≤ 80) (M : MT T m tx s) (hp : p = sb tx m 0) : ∃ u, f_M_goesOn n (nI T) s = some (FR tx m p, u) ∧ Fr [(200, 17), (200, 18), (200, 19), (200, 20), (200, 21)] [212, 213, 214, 215, 216] s u ∧ f5 s u ∧ (FR tx m p = -9 → u.1 200 18 = nI (nP tx m p) ∧ u.1 200 19 = (if tx (p + 1) = 111 then 1 else 0) ∧ u.1 200 20 = tx (p + 2) - 48 ∧ u.1 200 21 = 10 * (tx (p + 3) - 48) ∧ pDs tx m p (nP tx m p) u) := by
  obtain ⟨s1, s2, s3, s4⟩ := sb_p (tx := tx) (Nat.zero_le m)
  rw [← hp] at s1 s2 s3 s4
  obtain ⟨a, ha⟩ : ∃ a, a = sF (sF (sF s 200 17 0) 200 18 0) 200 19 (-9) := ⟨_, rfl⟩
  have Fa : Fr [(200, 17), (200, 18), (200, 19)] [] s a := by
    rw [ha]
    exact FrT (FrT (FrF (i := 200) (k := 17)) (FrF (i := 200) (k := 18)) (ks := [(200, 17), (200, 18)]) (cs := [])) (FrF (i := 200) (k := 19))
  have Ma := MT_fr M Fa
  obtain ⟨u, u1, u2, u3⟩ := pM_skip (n := n) (k0 := fun s_26 => some ((s_26.1 200 17), s_26)) (k1 := fun s_27 => some ((s_27.1 200 17), s_27)) (k2 := fun s_28 => if (s_28.1 200 19) = (-9) then (mb_rd s_28 206 4 (nI T) fun x_30 => some (x_30, s_28)) else some ((-9), s_28)) hT hm p 0 a (by omega) (fun j a b => s3 j a (by omega)) Ma (by rw [ha]; rfl)
  rw [show 0 + p = p by omega] at u2
  have Mu := MT_fr Ma u3
  have Fu : Fr [(200, 17), (200, 18), (200, 19)] [] s u := FrT Fa u3
  have e19 : u.1 200 19 = -9 := by rw [u3.1 200 19 (by decide), ha]; rfl
  have e18 : u.1 200 18 = 0 := by rw [u3.1 200 18 (by decide), ha]; rfl
  have E0 : f_M_goesOn n (nI T) s = f_M_goesOn_16 n (fun s_26 => some ((s_26.1 200 17), s_26)) (fun s_27 => some ((s_27.1 200 17), s_27)) (fun s_28 => if (s_28.1 200 19) = (-9) then (mb_rd s_28 206 4 (nI T) fun x_30 => some (x_30, s_28)) else some ((-9), s_28)) (nI T) (n - p - 1 + 1) u := by
    rw [← u1]
    unfold f_M_goesOn
    rw [bdS, bdS, bdS, ← ha, show n - p - 1 + 1 + p = n by omega]
  rw [E0, f_M_goesOn_16.eq_2, rdI (by omega) (by decide), Mu.1, u2]
  by_cases c : p < m
  · obtain ⟨v, v1, v2, v3, v4, v5⟩ := pM_hd (n := n) Mu hT hm u2 s2
    have Fv : Fr [(200, 17), (200, 18), (200, 19), (200, 20), (200, 21)] [] s v := FrT Fu v5
    rw [if_neg (npi (by omega) c), pM_here Mu hT hm u2 (by omega), clS, if_pos c, if_neg (s4 c), if_pos e19, v1, clS]
    by_cases hk : sN (fun j => !hb tx m p j) 4 = 4
    · have h4 : p + 4 ≤ m := by
        have := cjh_le (tx := tx) (p := p) (k := 4) s2 (by omega)
        omega
      obtain ⟨y1, y2, y3⟩ := v3 hk
      have n5 := (nP_p (tx := tx) (m := m) (p := p)).1
      obtain ⟨e, e1, e2, e3, e4⟩ := pM_pers (n := n) (tx := tx) hT hm h4 rfl (nP tx m p) 0 v (n - p - 1) (by omega) (MT_fr M Fv) (by rw [v2, hk]; rfl) (by rw [v5.1 200 18 (by decide), e18]; rfl) (by rw [y1]; split <;> decide) (fun i hi => by omega) (by show m - (p + 4) + nP tx m p + 1 < n - p - 1; omega)
      have eF : FR tx m p = if m ≤ QL tx m p (nP tx m p) then -9 else nI (QL tx m p (nP tx m p) + sN (fun j => !pb tx m (nP tx m p) (QL tx m p (nP tx m p)) j) 5) := by unfold FR; rw [if_pos hk]
      refine ⟨e, ?_, FrT Fv e2, f5_t (f5_fr Fv) e3, fun q => ?_⟩
      · rw [if_pos hk, if_neg (by decide), e1, eF]
      · have hq : m ≤ QL tx m p (nP tx m p) := by
          rcases Nat.lt_or_ge (QL tx m p (nP tx m p)) m with l | l
          · rw [eF, if_neg (by omega)] at q
            have hle := cjp_le (tx := tx) (m := m) (x := nP tx m p) (p := QL tx m p (nP tx m p)) (k := 5) (by omega) (by omega)
            exact absurd q (nI_m9 (by omega))
          · exact l
        obtain ⟨z1, z2⟩ := e4 hq
        exact ⟨z1, by rw [e2.1 200 19 (by decide)]; exact y1, by rw [e2.1 200 20 (by decide)]; exact y2, by rw [e2.1 200 21 (by decide)]; exact y3, z2⟩
    · have hle := cjh_le (tx := tx) (p := p) (k := 4) s2 (by omega)
      have eF : FR tx m p = nI (p + sN (fun j => !hb tx m p j) 4) := by unfold FR; rw [if_neg hk]
      refine ⟨v, ?_, FrI Fv, f5_fr Fv, fun q => ?_⟩
      · rw [if_neg hk, if_pos rfl, v2, eF]
      · rw [eF] at q
        exact absurd q (nI_m9 (by omega))
  · have epm : p = m := by omega
    have hk0 : sN (fun j => !hb tx m p j) 4 = 0 := sN_at (fun i hi => by omega) (by
      have : atv tx m p 119 = false := by unfold atv; simp [epm]
      simp [hb, this]) (by omega)
    have eF : FR tx m p = nI m := by
      unfold FR
      rw [hk0, if_neg (by decide), epm]
      rfl
    refine ⟨u, ?_, FrI Fu, f5_fr Fu, fun q => ?_⟩
    · rw [if_pos (nI_le (by omega) (by omega)), e19, if_pos rfl, rdI (by omega) (by decide), Mu.1, eF]
    · rw [eF] at q
      exact absurd q (nI_m9 (by omega))
theorem Cav_q3 (H : Cav r z w law s) (h : Fk qF qA3 s t) (H2 : HM z w t) (h3 : ∀ x, x < 5 → t.2.1 223 x = nI x) (h4 : t.1 200 22 = -9) : Cav r z w law t := by
  obtain ⟨a1, a2, a3, a4, a5, a6, a7, a8, a9, a10⟩ := H
  refine ⟨a1, a2, H2, h3, h4, ?_, ?_, a8, ?_, by rw [h.1 200 9 (by decide)]; exact a10⟩
  · have := CVv_fr a6 h (by decide) (by decide)
    rw [h.2.1 226 (by decide), h.2.1 227 (by decide)]
    exact this
  · rw [h.1 200 10 (by decide)]; exact a7
  · intro k hk
    refine Kp_fr (a9 k hk) h ?_ ?_ (by decide)
    · have : k = 0 ∨ k = 1 ∨ k = 2 := by omega
      rcases this with rfl | rfl | rfl <;> decide
    · have : k = 0 ∨ k = 1 ∨ k = 2 := by omega
      rcases this with rfl | rfl | rfl <;> decide
theorem HM5 (H : HM z w s) (h : Fr fs as s t) (g : f5 s t) (hf : (∀ k ∈ [8, 9, 11, 22, 24, 25], (200, k) ∉ fs) := by decide) (ha : 223 ∉ as := by decide) : HM z w t := by
  obtain ⟨h5, hp, ho, hm, hl, he, hb, hz, hx⟩ := H
  have f : ∀ k ∈ [8, 9, 11, 22, 24, 25], t.1 200 k = s.1 200 k := fun k hk => h.1 200 k (hf k hk)
  refine ⟨h5, ?_, ?_, ?_, ?_, he, ?_, ?_, ?_⟩
  · rw [f 8 (by decide)]; exact hp
  · rw [f 11 (by decide)]; exact ho
  · rw [f 24 (by decide)]; exact hm
  · rw [f 25 (by decide)]; exact hl
  · rw [f 9 (by decide), h.2.1 223 ha]; exact hb
  · rw [f 22 (by decide)]; exact hz
  · intro x hxp
    obtain ⟨a1, a2, a3, a4, a5⟩ := g x (by omega)
    rw [a1, a2, a3, a4, a5]
    exact hx x hxp
theorem cs_fault (hn : 200 ≤ n) : CS (f_C_fault n X) (f_M_fault n X) := by
  intro s R
  obtain ⟨-, -, -, r4, r, z, w, law, H⟩ := id R
  rcases rngC (x := X) 4 with ⟨x, hx, rfl⟩ | hX
  · rcases R.2.1 x hx with ⟨m, m1, m2, m3, m4⟩ | ⟨m1, m2⟩
    · obtain ⟨u, u1, u2, u3⟩ := pR_read (n := n) (tx := s.2.1 (30 + x)) hn hx m1 (fun _ _ => rfl) rfl
      have MTu : MT x m (s.2.1 (30 + x)) u := ⟨by rw [u2.2.1 206 (by decide)]; exact m3, fun i hi => by rw [u2.2.1 207 (by decide), m4 i hi]⟩
      obtain ⟨v, v1, v2, v3, v4⟩ := pM_goes hn hx m1 MTu rfl
      have Fv : Fk qF qA3 s v := FkT (FkI u2) (FrQ v2)
      have Mv : HM z w v := HM5 (HMfk (CavM H) u2 (by decide) (by decide)) v2 v3
      refine ⟨FR (s.2.1 (30 + x)) m (sb (s.2.1 (30 + x)) m 0), u, v, ?_, ?_, ?_⟩
      · unfold f_C_fault
        rw [pC_txtR_t hx m2 m1, clS, if_pos rfl, ixI hx (by decide), rdI hx (by decide), m2, nI_clamp (by omega), u1, clS]
      · unfold f_M_fault
        rw [pM_txtR_t hx MTu.1 m1, clS, if_pos (by decide), v1, clS]
      · refine ⟨Rows_fr R.1 Fv, Txts_fr R.2.1 Fv, Fnd_fr R.2.2.1 Fv, ?_, r, z, w, law, Cav_q3 H Fv Mv ?_ ?_⟩
        · rw [v2.1 0 14 (by decide), v2.1 200 2 (by decide), u2.1 0 14 (by decide), u2.1 200 2 (by decide)]; exact r4
        · rw [v2.2.1 223 (by decide), u2.2.1 223 (by decide)]; exact H.2.2.2.1
        · rw [v2.1 200 22 (by decide), u2.1 200 22 (by decide)]; exact H.2.2.2.2.1
    · refine ⟨-3, fC 1 s, fM 1 (fC 1 s), ?_, ?_, Rel_found R⟩
      · unfold f_C_fault
        rw [pC_txtR_m hx m1, clS, if_neg (by decide)]
      · unfold f_M_fault
        rw [pM_txtR_m (s := fC 1 s) hx m2, clS, if_neg (by decide)]
  · refine ⟨-1, s, s, ?_, ?_, R⟩
    · unfold f_C_fault
      rw [pC_txtR_f hX, clS, if_neg (by decide)]
    · unfold f_M_fault
      rw [pM_txtR_f hX, clS, if_neg (by decide)]
end VE
