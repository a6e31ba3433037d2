/-! the pure part: handings judged -/
def hw (z : zT) (w : wT) (hd : Nat → Nat) : Nat → wT
  | 0 => w
  | j + 1 => stp z (hd j) (hw z w hd j)
def mis (z : zT) (law : Int32) (w : wT) (hd : Nat → Nat) (j : Nat) : Bool := !decide (nxt z law (hw z w hd j) = hd j)
def ob (z : zT) (w : wT) (hd : Nat → Nat) : Nat → Int32
  | 0 => if ovr z w = true then 0 else -9
  | j + 1 => if ob z w hd j = -9 then (if ovr z (hw z w hd (j + 1)) = true then nI (j + 1) else -9) else ob z w hd j
theorem ob_s {z : zT} {w : wT} {hd : Nat → Nat} {j : Nat} : ob z w hd (j + 1) = if ob z w hd j = -9 then (if ovr z (hw z w hd (j + 1)) = true then nI (j + 1) else -9) else ob z w hd j := rfl
theorem hw_m {z : zT} {w : wT} {hd : Nat → Nat} : ∀ {k : Nat}, (hw z w hd k).2.2.1 = w.2.2.1 + nI k
  | 0 => by
    show w.2.2.1 = w.2.2.1 + nI 0
    rw [nI_0, Int32.add_zero]
  | k + 1 => by
    show (hw z w hd k).2.2.1 + 1 = _
    rw [hw_m, Int32.add_assoc, nI_1]
theorem hw_mok {z : zT} {w : wT} {hd : Nat → Nat} {k : Nat} (M : mo2 w) (hk : k ≤ 200) : mok (hw z w hd k) := by
  obtain ⟨mi, m1, m2⟩ := M
  exact ⟨mi + k, by omega, by rw [hw_m, m2, nI_add]⟩
theorem hw_ok {z : zT} {w : wT} {hd : Nat → Nat} {m : Nat} (W : wok z w) (hh : ∀ j, j < m → hd j < zP z) : ∀ {k : Nat}, k ≤ m → wok z (hw z w hd k)
  | 0, _ => W
  | k + 1, hk => by
    intro h e
    have : hd k = h := Option.some.inj e
    have := hh k (by omega)
    omega
theorem sN_s {b : Nat → Bool} {m : Nat} : sN b (m + 1) = if sN b m < m then sN b m else if b m = true then m else m + 1 := rfl
def ion (p : Nat) (v : Int32) : Bool := !decide (v < 0) && !decide (nI p ≤ v)
theorem ion_t {p : Nat} {v : Int32} (h : ion p v = true) (hp : p < 2 ^ 31) : ∃ y, y < p ∧ v = nI y := by
  unfold ion at h
  rcases rngC (x := v) p hp with h1 | h1 | h1
  · exact h1
  · simp [h1] at h
  · simp at h
    exact absurd h1 (Int32.not_le.mpr h.2)
section SA
variable {s t u : mb_T} {n p a b q m i c c1 k x y j l h K mi na : Nat} {v : Int32} {z : zT} {w w2 : wT} {r : Bool} {law law2 X Y V U T : Int32} {g : Nat → Int32} {hd : Nat → Nat} {fs : List (Nat × Nat)} {as : List Nat}
theorem pC_ion (e : s.1 100 0 = nI p) : f_C_isOne n v s = some ((if ion p v = true then 1 else 0 : Int32), s) := by
  unfold f_C_isOne ion
  rw [bz_n, e]
  by_cases h1 : v < 0
  · rw [if_pos h1]; simp [h1]
  · by_cases h2 : nI p ≤ v
    · rw [if_neg h1, if_pos h2]; simp [Int32.not_lt.mpr h2]
    · rw [if_neg h1, if_neg h2]; simp [Int32.not_lt.mp h1, Int32.not_le.mp h2]
theorem pM_ion (e : s.1 200 8 = nI p) (h5 : p ≤ 5) : f_M_isOne n v s = some ((if ion p v = true then 1 else 0 : Int32), s) := by
  cases hi : ion p v with
  | true =>
    obtain ⟨y, y1, rfl⟩ := ion_t hi (by omega)
    rw [pM_isOne_t e h5 y1]; rfl
  | false =>
    rw [pM_isOne_f e h5]
    · rfl
    · unfold ion at hi
      by_cases h1 : v < 0
      · exact Or.inl h1
      · right
        by_cases h2 : nI p ≤ v
        · exact h2
        · simp [h1, Int32.not_lt.mp h1, h2] at hi
theorem pC_hr (hn : 200 ≤ n) (e : s.1 100 0 = nI p) (h5 : p ≤ 5) (h1 : 1 ≤ p) (hx : x < 6) (em : s.2.1 1 x = nI m) (hm : m ≤ 60) : f_C_handingsRefusal n (nI x) s = if sN (fun k => !ion p (s.2.1 (20 + x) k)) m = m then some (0, s) else some (-3, fC 3 s) := by
  obtain ⟨q1, q2, q3⟩ := @sN_p (fun k => !ion p (s.2.1 (20 + x) k)) m
  generalize sN (fun k => !ion p (s.2.1 (20 + x) k)) m = K at q1 q2 q3
  unfold f_C_handingsRefusal
  rw [pC_isRow_t hx, clS, if_neg (by decide), e, if_neg (nI_ne0 (by omega) (by omega)), rdI hx (by decide), em, if_pos (nI_pos' (by omega))]
  refine lp (F := fun f (t : Int32 × mb_T) => f_C_handingsRefusal_39 n (fun x_22 s_23 => mb_cl (f_C_found n 3 s_23) fun r_26 s_24 => some (r_26, s_24)) (fun x_27 s_28 => some (0, s_28)) (nI x) f t.1 t.2) (fun i => (nI i, s)) K ?_ ?_ n (by omega)
  · intro i hi f
    have e2 := q2 i hi
    simp at e2
    dsimp only
    rw [f_C_handingsRefusal_39.eq_2, rdI hx (by decide), em, if_neg (npi (by omega) (by omega)), ixI hx (by decide), nI_clamp (by omega), rdI (by omega) (by decide), pC_ion e, clS, e2, if_pos rfl, if_neg (by decide), nI_1]
  · intro f
    dsimp only
    rw [f_C_handingsRefusal_39.eq_2, rdI hx (by decide), em]
    by_cases c : K = m
    · rw [if_pos (by rw [c]; exact npp), if_pos c]
    · have e2 := q3 (by omega)
      simp at e2
      have k0 : f_C_isOne n (s.2.1 (20 + x) K) s = some (0, s) := by rw [pC_ion e, e2]; rfl
      rw [if_neg (npi (by omega) (by omega)), if_neg c, ixI hx (by decide), nI_clamp (by omega), rdI (by omega) (by decide), k0, clS, if_pos rfl, pC_f3, clS]
theorem pM_ah (hn : 200 ≤ n) (e : s.1 200 8 = nI p) (h5 : p ≤ 5) (hx : x < 6) (em : s.2.1 203 x = nI m) (hm : m ≤ 60) : f_M_askedHandings n (nI x) s = if sN (fun k => !ion p (s.2.1 204 (60 * x + k))) m = m then some (0, s) else some (-3, fM 3 s) := by
  obtain ⟨q1, q2, q3⟩ := @sN_p (fun k => !ion p (s.2.1 204 (60 * x + k))) m
  generalize sN (fun k => !ion p (s.2.1 204 (60 * x + k))) m = K at q1 q2 q3
  unfold f_M_askedHandings
  rw [pM_rowR_t hx em hm, clS, if_pos (by decide)]
  refine lp (F := fun f (t : Int32 × mb_T) => f_M_askedHandings_14 n (fun x_16 s_17 => mb_cl (f_M_meet n 3 s_17) fun r_20 s_18 => some (r_20, s_18)) (fun x_21 s_22 => some (0, s_22)) (nI x) f t.1 t.2) (fun i => (nI i, s)) K ?_ ?_ n (by omega)
  · intro i hi f
    have e2 := q2 i hi
    simp at e2
    dsimp only
    rw [f_M_askedHandings_14.eq_2, rdI hx (by decide), em, if_neg (npi (by omega) (by omega)), pM_rowAt hx (by omega), clS, pM_ion e h5, clS, e2, if_pos rfl, if_neg (by decide), nI_1]
  · intro f
    dsimp only
    rw [f_M_askedHandings_14.eq_2, rdI hx (by decide), em]
    by_cases c : K = m
    · rw [if_pos (by rw [c]; exact npp), if_pos c]
    · have e2 := q3 (by omega)
      simp at e2
      have k0 : f_M_isOne n (s.2.1 204 (60 * x + K)) s = some (0, s) := by rw [pM_ion e h5, e2]; rfl
      rw [if_neg (npi (by omega) (by omega)), if_neg c, pM_rowAt hx (by omega), clS, k0, clS, if_pos rfl, pM_f3, clS]
/-- handings that may be judged -/
def HDs (z : zT) (x m : Nat) (hd : Nat → Nat) (s : mb_T) : Prop := x < 6 ∧ m ≤ 60 ∧ s.2.1 1 x = nI m ∧ s.2.1 203 x = nI m ∧ (∀ j, j < m → s.2.1 (20 + x) j = nI (hd j) ∧ s.2.1 204 (60 * x + j) = nI (hd j) ∧ hd j < zP z)
theorem HDs_fk (H : HDs z x m hd s) (h : Fk fs as s t) (ha : (∀ q ∈ [1, 20, 21, 22, 23, 24, 25, 203, 204], q ∉ as) := by decide) : HDs z x m hd t := by
  obtain ⟨hx, hm, e1, e2, e3⟩ := H
  have e : ∀ q ∈ [1, 20, 21, 22, 23, 24, 25, 203, 204], t.2.1 q = s.2.1 q := fun q hq => h.2.1 q (ha q hq)
  have er : t.2.1 (20 + x) = s.2.1 (20 + x) := e _ (by
    have : x = 0 ∨ x = 1 ∨ x = 2 ∨ x = 3 ∨ x = 4 ∨ x = 5 := by omega
    rcases this with rfl | rfl | rfl | rfl | rfl | rfl <;> decide)
  refine ⟨hx, hm, ?_, ?_, ?_⟩
  · rw [e 1 (by decide)]; exact e1
  · rw [e 203 (by decide)]; exact e2
  · rw [er, e 204 (by decide)]; exact e3
theorem pC_all (hn : 200 ≤ n) (A : HA z w s) (Z : zok z) (W : wok z w) (h1 : 1 ≤ zP z) (hl : lawok law) (el : s.1 100 2 = law) (D : HDs z x m hd s) : ∃ u, f_C_allByLaw n (nI x) s = some ((if sN (mis z law w hd) m = m then 1 else 0 : Int32), u) ∧ Fr [(40, 2), (40, 4), (40, 5)] [48, 49] s u := by
  obtain ⟨hx, hm, e1, e2, e3⟩ := D
  obtain ⟨q1, q2, q3⟩ := @sN_p (mis z law w hd) m
  generalize sN (mis z law w hd) m = K at q1 q2 q3
  have hw9 : ∀ k, k ≤ m → wok z (hw z w hd k) := fun k hk => hw_ok W (fun j hj => (e3 j hj).2.2) hk
  unfold f_C_allByLaw
  have L := lpE (F := fun f (t : Int32 × mb_T) => f_C_allByLaw_2 n (fun x_19 s_20 => some (0, s_20)) (fun x_21 s_22 => some (1, s_22)) (nI x) f t.1 t.2) (R := fun t => some ((if K = m then 1 else 0 : Int32), t.2)) (fun k (t : Int32 × mb_T) => t.1 = nI k ∧ HA z (hw z w hd k) t.2 ∧ Fr [(40, 2), (40, 4), (40, 5)] [48, 49] s t.2) K ?_ ?_ (t0 := (0, s)) (f := n) ⟨rfl, A, FrR⟩ (by omega)
  · obtain ⟨⟨a, t⟩, ⟨p1, p2, p3⟩, p5⟩ := L
    dsimp only at p1 p2 p3 p5
    subst p1
    exact ⟨t, p5, p3⟩
  · rintro i hi ⟨a, t⟩ ⟨p1, p2, p3⟩
    dsimp only at p1 p2 p3
    subst p1
    have hf := q2 i hi
    unfold mis at hf
    simp at hf
    have g1 : t.2.1 1 x = nI m := by rw [p3.2.1 1 (by decide)]; exact e1
    have g2 : t.2.1 (20 + x) i = nI (hd i) := by rw [p3.2.1 (20 + x) (by simp; omega)]; exact (e3 i (by omega)).1
    have g3 : t.1 100 2 = law := by rw [p3.1 100 2 (by decide)]; exact el
    obtain ⟨u, u1, u2, u3⟩ := pA_pass hn p2 ((e3 i (by omega)).2.2)
    refine ⟨(nI (i + 1), u), ⟨rfl, u3, FrT p3 u2⟩, ?_⟩
    intro f
    dsimp only
    rw [f_C_allByLaw_2.eq_2, rdI hx (by decide), g1, if_neg (npi (by omega) (by omega)), g3, pA_byLaw hn p2 Z (hw9 i (by omega)) h1 hl, clS, ixI hx (by decide), nI_clamp (by omega), rdI (by omega) (by decide), g2, hf, if_pos rfl, ixI hx (by decide), rdI (by omega) (by decide), g2, u1, cwS2, nI_1]
  · rintro ⟨a, t⟩ ⟨p1, p2, p3⟩ f
    dsimp only at p1 p2 p3
    subst p1
    dsimp only
    have g1 : t.2.1 1 x = nI m := by rw [p3.2.1 1 (by decide)]; exact e1
    have g3 : t.1 100 2 = law := by rw [p3.1 100 2 (by decide)]; exact el
    rw [f_C_allByLaw_2.eq_2, rdI hx (by decide), g1]
    by_cases c : K = m
    · rw [if_pos (by rw [c]; exact npp), if_pos c]
    · have hf := q3 (by omega)
      unfold mis at hf
      simp at hf
      have g2 : t.2.1 (20 + x) K = nI (hd K) := by rw [p3.2.1 (20 + x) (by simp; omega)]; exact (e3 K (by omega)).1
      have h5 := Z.1
      have hlt := nxt_lt (law := law) Z (hw9 K (by omega)) h1
      have hdl := (e3 K (by omega)).2.2
      rw [if_neg (npi (by omega) (by omega)), g3, pA_byLaw hn p2 Z (hw9 K (by omega)) h1 hl, clS, ixI hx (by decide), nI_clamp (by omega), rdI (by omega) (by decide), g2, if_neg (by rw [nI_eq (by omega) (by omega)]; exact hf), if_neg c]
theorem ob_o {m : Nat} (hm : m ≤ 60) : ∀ {j : Nat}, j ≤ m → ob z w hd j = -9 ∨ ∃ k, k ≤ 60 ∧ ob z w hd j = nI k
  | 0, _ => by
    unfold ob
    split
    · exact Or.inr ⟨0, by omega, rfl⟩
    · exact Or.inl rfl
  | j + 1, h => by
    rw [ob_s]
    split
    · split
      · exact Or.inr ⟨j + 1, by omega, rfl⟩
      · exact Or.inl rfl
    · exact ob_o hm (by omega)
theorem pM_judged (hn : 200 ≤ n) (A : HM z w s) (Z : zok z) (W : wok z w) (O : mo2 w) (h1 : 1 ≤ zP z) (hl : lawok law) (el : s.1 200 10 = law) (D : HDs z x m hd s) : ∃ u, f_M_judged n (nI x) s = some (nI (sN (mis z law w hd) m), u) ∧ Fr [(200, 11), (200, 24), (200, 25), (200, 43)] [213, 228, 230] s u ∧ HM z w u ∧ u.1 200 43 = ob z w hd m := by
  obtain ⟨hx, hm, e1, e2, e3⟩ := D
  have hw9 : ∀ k, k ≤ m → wok z (hw z w hd k) := fun k hk => hw_ok W (fun j hj => (e3 j hj).2.2) hk
  obtain ⟨a, a1, a2, a3, a4⟩ := pM_putAside hn A
  obtain ⟨B, hB⟩ : ∃ B, B = sF a 200 43 (ob z w hd 0) := ⟨_, rfl⟩
  have b3 : HM z w B := by rw [hB]; exact HMfr a3 FrF
  have FB : Fr [(200, 43)] [230] s B := by rw [hB]; exact FrT a2 FrF
  have PB : HP z w B := by rw [hB]; exact HPfr a4 FrF
  have L := lpE (F := fun f (t : (Int32 × Int32) × mb_T) => f_M_judged_26 n (fun x_39 x_40 s_41 => mb_cw (f_M_comeBack n s_41) fun s_42 => if x_39 = (-9) then (mb_rd s_42 203 6 (nI x) fun x_45 => some (x_45, s_42)) else some (x_39, s_42)) (nI x) f t.1.1 t.1.2 t.2) (R := fun t => mb_cw (f_M_comeBack n t.2) fun s_42 => if t.1.1 = (-9) then (mb_rd s_42 203 6 (nI x) fun x_45 => some (x_45, s_42)) else some (t.1.1, s_42)) (fun k (t : (Int32 × Int32) × mb_T) => t.1 = (if sN (mis z law w hd) k < k then nI (sN (mis z law w hd) k) else -9, nI k) ∧ HM z (hw z w hd k) t.2 ∧ Fr [(200, 11), (200, 24), (200, 25), (200, 43)] [213, 228] B t.2 ∧ t.2.1 200 43 = ob z w hd k) m ?_ ?_ (t0 := ((-9, 0), B)) (f := n) ⟨rfl, b3, FrR, by rw [hB]; rfl⟩ (by omega)
  · obtain ⟨⟨⟨c1, c2⟩, t⟩, ⟨p1, p2, p3, p4⟩, p5⟩ := L
    dsimp only at p1 p2 p3 p4 p5
    cases p1
    obtain ⟨o, o1, o2, o3⟩ := pM_comeBack hn p2 (HPfr PB p3)
    have Fo : Fr [(200, 11), (200, 24), (200, 25), (200, 43)] [213, 228, 230] s o := FrT (FrT FB p3 (ks := [(200, 11), (200, 24), (200, 25), (200, 43)]) (cs := [213, 228, 230])) o2
    refine ⟨o, ?_, Fo, o3, by rw [o2.1 200 43 (by decide)]; exact p4⟩
    have e203 : o.2.1 203 x = nI m := by rw [Fo.2.1 203 (by decide)]; exact e2
    unfold f_M_judged
    have ei : (if (if ovr z w = true then 1 else 0 : Int32) = 0 then (-9) else 0 : Int32) = ob z w hd 0 := by
      unfold ob
      cases ovr z w <;> rfl
    rw [a1, cwS2, qM_isOver hn a3, clS, ei, bdS, ← hB, p5, o1, cwS2]
    have hs := @sN_p (mis z law w hd) m
    by_cases c : sN (mis z law w hd) m < m
    · rw [if_pos c, if_neg (nI_m9 (by omega))]
    · rw [if_neg c, if_pos rfl, rdI hx (by decide), e203, show sN (mis z law w hd) m = m by omega]
  · rintro i hi ⟨⟨c1, c2⟩, t⟩ ⟨p1, p2, p3, p4⟩
    dsimp only at p1 p2 p3 p4
    cases p1
    have F0 : Fr [(200, 11), (200, 24), (200, 25), (200, 43)] [213, 228, 230] s t := FrT FB p3
    have g1 : t.2.1 203 x = nI m := by rw [F0.2.1 203 (by decide)]; exact e2
    have g2 : t.2.1 204 (60 * x + i) = nI (hd i) := by rw [F0.2.1 204 (by decide)]; exact (e3 i hi).2.1
    have g3 : t.1 200 10 = law := by rw [F0.1 200 10 (by decide)]; exact el
    have hdl := (e3 i hi).2.2
    have h5 := Z.1
    obtain ⟨u, u1, u2, u3⟩ := pM_pass hn p2 Z hdl
    have g43 : u.1 200 43 = ob z w hd i := by rw [u2.1 200 43 (by decide)]; exact p4
    have hs := @sN_p (mis z law w hd) i
    have hlt := nxt_lt (law := law) Z (hw9 i (by omega)) h1
    have ej : ∀ (C : Int32 → mb_T → Option (Int32 × mb_T)), (if (if sN (mis z law w hd) i < i then nI (sN (mis z law w hd) i) else -9 : Int32) = (-9) then (mb_cl (f_M_nextBy n (t.1 200 10) t) fun r_21 s_19 => C (if r_21 = nI (hd i) then (if sN (mis z law w hd) i < i then nI (sN (mis z law w hd) i) else -9 : Int32) else nI i : Int32) s_19) else C (if sN (mis z law w hd) i < i then nI (sN (mis z law w hd) i) else -9 : Int32) t) = C (if sN (mis z law w hd) (i + 1) < i + 1 then nI (sN (mis z law w hd) (i + 1)) else -9 : Int32) t := by
      intro C
      rw [sN_s]
      by_cases c : sN (mis z law w hd) i < i
      · rw [if_pos c, if_neg (nI_m9 (by omega)), if_pos c, if_pos (by omega)]
      · rw [if_neg c, if_pos rfl, g3, pM_nextBy hn p2 Z (hw9 i (by omega)) (hw_mok O (by omega)) h1 hl, clS, if_neg c]
        by_cases d : nxt z law (hw z w hd i) = hd i
        · have hm9 : mis z law w hd i = false := by unfold mis; simp [d]
          rw [d, if_pos rfl]
          simp only [hm9, Bool.false_eq_true, if_false, Nat.lt_irrefl]
        · have hm9 : mis z law w hd i = true := by unfold mis; simp [d]
          rw [if_neg (by rw [nI_eq (by omega) (by omega)]; exact d), hm9, if_pos rfl, if_pos (by omega)]
    refine ⟨((if sN (mis z law w hd) (i + 1) < i + 1 then nI (sN (mis z law w hd) (i + 1)) else -9, nI (i + 1)), sF u 200 43 (ob z w hd (i + 1))), ⟨rfl, HMfr u3 FrF, FrT (FrT p3 u2 (ks := [(200, 11), (200, 24), (200, 25), (200, 43)]) (cs := [213, 228])) FrF, rfl⟩, ?_⟩
    intro f
    dsimp only
    rw [f_M_judged_26.eq_2, rdI hx (by decide), g1, if_neg (npi (by omega) hi), pM_rowAt hx (by omega), clS, g2]
    refine (ej (fun x_24 s_25 => mb_cw (f_M_passMinute n (nI (hd i)) s_25) fun s_26 => if (s_26.1 200 43) = (-9) then (mb_cl (f_M_isOver n s_26) fun r_33 s_31 => mb_bd (sF s_31 200 43 (if r_33 = 0 then (s_31.1 200 43) else (nI i + 1) : Int32)) fun s_36 => f_M_judged_26 n _ (nI x) f x_24 (nI i + 1) s_36) else mb_bd (sF s_26 200 43 (s_26.1 200 43)) fun s_29 => f_M_judged_26 n _ (nI x) f x_24 (nI i + 1) s_29)).trans ?_
    rw [u1, cwS2, g43, nI_1]
    by_cases c : ob z w hd i = -9
    · have eo : (if (if ovr z (hw z w hd (i + 1)) = true then 1 else 0 : Int32) = 0 then (u.1 200 43) else nI (i + 1) : Int32) = ob z w hd (i + 1) := by
        rw [ob_s, if_pos c, g43, c]
        cases ovr z (hw z w hd (i + 1)) <;> rfl
      rw [if_pos c, show f_M_isOver n u = some ((if ovr z (hw z w hd (i + 1)) = true then 1 else 0 : Int32), u) from qM_isOver hn u3, clS, eo, bdS]
    · rw [if_neg c, bdS, ob_s, if_neg c]
  · rintro ⟨⟨c1, c2⟩, t⟩ ⟨p1, p2, p3, p4⟩ f
    dsimp only at p1 p2 p3 p4
    cases p1
    have F0 : Fr [(200, 11), (200, 24), (200, 25), (200, 43)] [213, 228, 230] s t := FrT FB p3
    have g1 : t.2.1 203 x = nI m := by rw [F0.2.1 203 (by decide)]; exact e2
    dsimp only
    rw [f_M_judged_26.eq_2, rdI hx (by decide), g1, if_pos npp]
end SA
