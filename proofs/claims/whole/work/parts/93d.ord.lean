/-! the pure part: the best order -/
abbrev dA : List Nat := [10, 11, 47, 48, 49, 50, 51, 52, 53, 54, 55, 56]
theorem sameO_i {g h : Nat → Nat} (e : sameO g h = true) {i : Nat} (hi : i < 5) : g i = h i := by
  unfold sameO at e
  rw [List.all_eq_true] at e
  simpa using e i (List.mem_range.mpr hi)
theorem five_d : ∀ p, p < 6 → ((perms p).all fun l => (List.range 5).all fun i => decide (loo l i < 5)) = true := by decide +kernel
theorem five_l {p : Nat} (hp : p < 6) {l : List Nat} (hl : l ∈ perms p) {i : Nat} (hi : i < 5) : loo l i < 5 := by
  have := five_d p hp
  rw [List.all_eq_true] at this
  have := this l hl
  rw [List.all_eq_true] at this
  simpa using this i (List.mem_range.mpr hi)
theorem okP_l {p : Nat} (hp : p < 6) {r : Bool} {l : List Nat} (hl : l ∈ perms p) : okO p (loo l) r = true := by
  have := okP_d p hp r
  rw [List.all_eq_true] at this
  exact this l hl
section XD
variable {s t u : mb_T} {n p a b q m i c k x y j K d : Nat} {z : zT} {w : wT} {r : Bool} {law X : Int32} {o o1 o2 g : Nat → Nat} {fs : List (Nat × Nat)} {as : List Nat}
theorem pC_sbn (hn : 200 ≤ n) : ∃ u, f_C_sitByNumbers n s = some u ∧ Fr [] [10] s u ∧ ∀ i, i < 5 → u.2.1 10 i = nI i := by
  unfold f_C_sitByNumbers
  have L := lpE (F := fun f (t : Int32 × mb_T) => f_C_sitByNumbers_2 n (fun x_5 s_6 => some s_6) f t.1 t.2) (R := fun t => some t.2) (fun i (t : Int32 × mb_T) => t.1 = nI i ∧ Fr [] [10] s t.2 ∧ ∀ x, x < i → t.2.2.1 10 x = nI x) 5 ?_ ?_ (t0 := (0, s)) (f := n) ⟨rfl, FrR, fun x hx => by omega⟩ (by omega)
  · obtain ⟨⟨e, c⟩, ⟨q1, q2, q3⟩, q4⟩ := L
    exact ⟨c, q4, q2, q3⟩
  · rintro i hi ⟨e, t⟩ ⟨q1, q2, q3⟩
    dsimp only at q1 q2 q3
    subst q1
    refine ⟨(nI (i + 1), sA t 10 i (nI i)), ⟨rfl, FrT q2 (FrA (q := 10)), fun x hx => ?_⟩, fun f => ?_⟩
    · show upd (t.2.1 10) i (nI i) x = nI x
      rw [updI]
      by_cases e : x = i
      · rw [if_pos e, e]
      · rw [if_neg e]; exact q3 x (by omega)
    · dsimp only
      rw [f_C_sitByNumbers_2.eq_2, if_neg (show ¬ (5 : Int32) ≤ nI i from npi (p := 5) (by decide) hi), wrI hi (by decide), nI_1]
  · rintro ⟨e, t⟩ ⟨q1, q2, q3⟩ f
    dsimp only at q1 q2 q3
    subst q1
    dsimp only
    rw [f_C_sitByNumbers_2.eq_2, if_pos (show (5 : Int32) ≤ nI 5 by decide)]
theorem pC_o47 (hn : 200 ≤ n) (H : Cav r z w law s) (h1 : 1 ≤ zP z) {k0 : Int32 → Int32 → mb_T → Option (Int32 × mb_T)} : ∀ (ls : List (List Nat)) (l lb : List Nat) (mo : Int32) (j f : Nat) (t : mb_T), chn (zP z) (l :: ls) = true → (∀ i, i < 5 → t.2.1 10 i = nI (loo l i)) → (∀ i, i < 5 → t.2.1 11 i = nI (loo lb i)) → j + ls.length ≤ 119 → ls.length < f → (∀ l2 ∈ ls, okO (zP z) (loo l2) r = true) → (∀ l2 ∈ l :: ls, ∀ i, i < 5 → loo l2 i < 5) → Fk bgF dA s t → ∃ u j' mo' lb', List.foldl (vsB (hO z r law w)) (some (mo, lb)) ls = some (mo', lb') ∧ f_C_order_47 n k0 X f mo (nI j) t = k0 mo' (nI j') u ∧ (∀ i, i < 5 → u.2.1 11 i = nI (loo lb' i)) ∧ Fk bgF dA s u := by
  have h5 := Cav5 H
  intro ls
  induction ls with
  | nil =>
    intro l lb mo j f t hc h10 h11 hj hf ok h5l F
    obtain ⟨f, rfl⟩ : ∃ e, f = e + 1 := ⟨f - 1, by omega⟩
    have hj : j ≤ 119 := by simpa using hj
    have hp : t.1 100 0 = nI (zP z) := by rw [F.1 100 0 (by decide)]; exact (CavP H).1
    have N := (pC_ns (g := loo l) hn hp h5 h1 h10 (h5l l (by simp))).1 (by simpa [chn] using hc)
    refine ⟨t, j, mo, lb, rfl, ?_, h11, F⟩
    rw [f_C_order_47.eq_2, if_neg (show ¬ (120 : Int32) ≤ nI j from npi (p := 120) (by decide) (by omega)), N, clS, if_pos rfl]
  | cons l2 ls ih =>
    intro l lb mo j f t hc h10 h11 hj hf ok h5l F
    obtain ⟨f, rfl⟩ : ∃ e, f = e + 1 := ⟨f - 1, by omega⟩
    have hj : j + (ls.length + 1) ≤ 119 := by simpa using hj
    have hf : ls.length + 1 < f + 1 := by simpa using hf
    have hp : t.1 100 0 = nI (zP z) := by rw [F.1 100 0 (by decide)]; exact (CavP H).1
    unfold chn at hc
    cases hx : nxO (zP z) (loo l) with
    | none => rw [hx] at hc; simp at hc
    | some g =>
      rw [hx] at hc
      simp only [Bool.and_eq_true] at hc
      obtain ⟨c1, c2⟩ := hc
      obtain ⟨a, a1, a2, a3⟩ := (pC_ns (g := loo l) hn hp h5 h1 h10 (h5l l (by simp))).2 g hx
      have a2 : ∀ i, i < 5 → a.2.1 10 i = nI (loo l2 i) := fun i hi => by rw [a2 i hi, sameO_i c1 hi]
      have Fa : Fk bgF dA s a := FkT F (FrQ a3)
      obtain ⟨b, b1, b2⟩ := pC_has (o := loo l2) hn H Fa h1 a2 (ok l2 (by simp))
      have b1 : f_C_holdingAsSeated n a = some (hO z r law w l2, b) := b1
      have Fb : Fk bgF dA s b := FkT Fa (FkI b2)
      have b10 : ∀ i, i < 5 → b.2.1 10 i = nI (loo l2 i) := fun i hi => by rw [b2.2.1 10 (by decide)]; exact a2 i hi
      have b11 : ∀ i, i < 5 → b.2.1 11 i = nI (loo lb i) := fun i hi => by rw [b2.2.1 11 (by decide), a3.2.1 11 (by decide)]; exact h11 i hi
      have E : f_C_order_47 n k0 X (f + 1) mo (nI j) t = if (if lng (hO z r law w l2) mo = true then 1 else 0 : Int32) = 0 then f_C_order_47 n k0 X f mo (nI (j + 1)) b else f_C_order_47 n k0 X f (hO z r law w l2) (nI (j + 1)) (sV b 11 (va_cpy (b.2.1 10) (b.2.1 11) 0 0 5)) := by
        rw [f_C_order_47.eq_2, if_neg (show ¬ (120 : Int32) ≤ nI j from npi (p := 120) (by decide) (by omega)), a1, clS, if_neg (by decide), b1, clS, pC_lng, clS, cp5, nI_1]
      rw [E]
      show ∃ u j' mo' lb', List.foldl (vsB (hO z r law w)) (if lng (hO z r law w l2) mo = true then some (hO z r law w l2, l2) else some (mo, lb)) ls = some (mo', lb') ∧ _
      by_cases hL : lng (hO z r law w l2) mo = true
      · rw [if_pos hL, if_neg (by rw [if_pos hL]; decide)]
        refine ih l2 l2 _ (j + 1) f _ c2 b10 ?_ (by omega) (by omega) (fun l3 h => ok l3 (by simp [h])) (fun l3 h => h5l l3 (List.mem_cons_of_mem _ h)) (FkT Fb (FrQ (FrV (q := 11))))
        intro i hi
        rw [sV2, if_pos rfl, cpy00 hi]
        exact b10 i hi
      · rw [if_neg hL, if_pos (by rw [if_neg hL])]
        exact ih l2 lb _ (j + 1) f _ c2 b10 b11 (by omega) (by omega) (fun l3 h => ok l3 (by simp [h])) (fun l3 h => h5l l3 (List.mem_cons_of_mem _ h)) Fb
theorem pM_o49 (hn : 200 ≤ n) (hx : x < 6) (hp : s.1 200 8 = nI m) (hm : m ≤ 5) {k0 : Int32 → mb_T → Option (Int32 × mb_T)} : f_M_order_49 n k0 (nI x) n 0 s = k0 (nI m) (sV s 204 (va_cpy (s.2.1 240) (s.2.1 204) 0 (60 * x) m)) := by
  have e := lp (F := fun f (t : Int32 × mb_T) => f_M_order_49 n k0 (nI x) f t.1 t.2) (R := k0 (nI m) (sV s 204 (va_cpy (s.2.1 240) (s.2.1 204) 0 (60 * x) m))) (fun i => (nI i, sV s 204 (va_cpy (s.2.1 240) (s.2.1 204) 0 (60 * x) i))) m ?_ ?_ n (by omega)
  · dsimp only at e
    rw [cpy_0, sVid] at e
    exact e
  · intro i hi f
    dsimp only
    have g : (sV s 204 (va_cpy (s.2.1 240) (s.2.1 204) 0 (60 * x) i)).2.1 240 i = s.2.1 240 (0 + i) := by rw [sV2, if_neg (by decide), show 0 + i = i by omega]
    have h : (sV s 204 (va_cpy (s.2.1 240) (s.2.1 204) 0 (60 * x) i)).1 200 8 = nI m := hp
    rw [f_M_order_49.eq_2, h, if_neg (npi (by omega) hi), rdI (by omega) (by decide), pM_setRow hx (by omega), cwS2, g, sAV, nI_1, cpy_s]
  · intro f
    dsimp only
    have h : (sV s 204 (va_cpy (s.2.1 240) (s.2.1 204) 0 (60 * x) m)).1 200 8 = nI m := hp
    rw [f_M_order_49.eq_2, h, if_pos npp]
theorem cs_order (hn : 1000 ≤ n) : CS (f_C_order n X) (f_M_order n X) := by
  intro s R
  obtain ⟨-, -, -, r4, r, z, w, law, H⟩ := id R
  have h5 := Cav5 H
  obtain ⟨p1, p2⟩ := CavP H
  rcases rngC (x := X) 6 with ⟨x, hx, rfl⟩ | hX
  · by_cases h0 : zP z = 0
    · refine ⟨-4, s, s, ?_, ?_, R⟩
      · unfold f_C_order
        rw [pC_isRow_t hx, clS, if_neg (by decide), p1, h0, if_pos (by decide)]
      · unfold f_M_order
        rw [pM_isRow_t hx, clS, if_neg (by decide), p2, h0, if_pos (by decide)]
    · have hne : ¬ nI (zP z) = 0 := by rw [p0 h5]; exact h0
      have h1 : 1 ≤ zP z := by omega
      obtain ⟨hl120, hhd⟩ := perms_h (zP z) (by omega)
      have hch := chn_d (zP z) (by omega) h1
      have hok : ∀ l ∈ perms (zP z), okO (zP z) (loo l) r = true := fun l hl => okP_l (by omega) hl
      have h55 : ∀ l ∈ perms (zP z), ∀ i, i < 5 → loo l i < 5 := fun l hl i hi => five_l (by omega) hl hi
      cases hpm : perms (zP z) with
      | nil => rw [hpm] at hch; cases hch
      | cons l0 ls =>
        have hpm2 : pmF (zP z) (zP z) [] = l0 :: ls := hpm
        rw [hpm] at hl120 hhd hch hok h55
        obtain ⟨a, a1, a2, a3⟩ := pC_sbn (n := n) (s := s) (by omega)
        have a3 : ∀ i, i < 5 → a.2.1 10 i = nI (loo l0 i) := fun i hi => by rw [a3 i hi, sameO_i hhd hi]
        have Fa : Fk bgF dA s a := FrQ a2
        obtain ⟨b, b1, b2⟩ := pC_has (n := n) (o := loo l0) (by omega) H Fa h1 a3 (hok l0 (by simp))
        have b1 : f_C_holdingAsSeated n a = some (hO z r law w l0, b) := b1
        have Fb : Fk bgF dA s b := FkT Fa (FkI b2)
        have b10 : ∀ i, i < 5 → b.2.1 10 i = nI (loo l0 i) := fun i hi => by rw [b2.2.1 10 (by decide)]; exact a3 i hi
        have Fc : Fk bgF dA s (sV b 11 (va_cpy (b.2.1 10) (b.2.1 11) 0 0 5)) := FkT Fb (FrQ (FrV (q := 11)))
        obtain ⟨u, j', mo, lb, e1, e2, e3, e4⟩ := pC_o47 (n := n) (X := nI x) (k0 := fun x_29 x_30 s_31 => mb_cw (f_C_fillRow n (nI x) 11 5 (s_31.1 100 0) s_31) fun s_32 => some (x_29, s_32)) (by omega) H h1 ls l0 l0 (hO z r law w l0) 0 n (sV b 11 (va_cpy (b.2.1 10) (b.2.1 11) 0 0 5)) hch b10 (fun i hi => by rw [sV2, if_pos rfl, cpy00 hi]; exact b10 i hi) (by simp at hl120; omega) (by simp at hl120; omega) (fun l2 h => hok l2 (by simp [h])) h55 Fc
        have u0 : u.1 100 0 = nI (zP z) := by rw [e4.1 100 0 (by decide)]; exact p1
        obtain ⟨hM, hhM⟩ : ∃ hM, hM = va_cpy (u.2.1 11) (u.2.1 (20 + x)) 0 0 (zP z) := ⟨_, rfl⟩
        have F1 : Fk bgF (dA ++ [1, 20, 21, 22, 23, 24, 25]) s (rowC x (zP z) hM u) := FkT (FkI e4) (FkI (rowC_fk hx))
        have Mt := HMfk (CavM H) F1 (by decide) (by decide)
        have t3 : ∀ i, i < 5 → (rowC x (zP z) hM u).2.1 223 i = nI i := by rw [F1.2.1 223 (by decide)]; exact H.2.2.2.1
        have Ht : Cav r z w law (rowC x (zP z) hM u) := Cav_q2 H (FkI F1) Mt t3 (by rw [F1.1 200 22 (by decide)]; exact H.2.2.2.2.1)
        have Ff : Fr [(200, 42)] [] (rowC x (zP z) hM u) (sF (rowC x (zP z) hM u) 200 42 0) := FrF
        obtain ⟨g1, g2, g3⟩ := all_d (zP z) (by omega)
        obtain ⟨v, v1, v2, v3, -⟩ := pM_oo (n := n) (by omega) Ht h1 (zP z) 10 [] none (sF (rowC x (zP z) hM u) 200 42 0) (2 ^ zP z - 1) (by simp) (by omega) (fun i hi => by simp at hi) (fun y hy => by rw [g3 y hy]; rfl) g2 (by rw [hpm2]; exact hok) rfl ⟨HMfr Mt Ff, t3, FrI Ff⟩ (Ht.2.2.2.2.2.2.1 h1) (Ht.2.2.2.2.2.2.2.2.2 h1)
        rw [hpm2] at v3
        have v3 : oB (zP z) (List.foldl (vsB (hO z r law w)) (some (hO z r law w l0, l0)) ls) v := v3
        rw [e1] at v3
        obtain ⟨w1, w2, -, w4⟩ := v3
        obtain ⟨v21, v22, v23⟩ := v2
        obtain ⟨G, hG⟩ : ∃ G, G = va_cpy (v.2.1 240) (va_cpy (fun _ => 0) (v.2.1 204) 0 (60 * x) 60) 0 (60 * x) (zP z) := ⟨_, rfl⟩
        refine ⟨mo, rowC x (zP z) hM u, rowM x (zP z) G v, ?_, ?_, Rel_fill R H (FkI e4) hx (by omega) (FrQ v23) v21 v22 ?_ ?_ ?_ ?_⟩
        · unfold f_C_order
          rw [pC_isRow_t hx, clS, if_neg (by decide), p1, if_neg hne, a1, cwS2, b1, clS, cp5, show (0 : Int32) = nI 0 from rfl, e2]
          rw [u0, pC_fill hx (by omega) (by omega) (by decide), cwS2, ← hhM]
        · unfold f_M_order
          have s8 : (sF (rowC x (zP z) hM u) 200 42 0).1 200 8 = nI (zP z) := Mt.2.1
          rw [pM_isRow_t hx, clS, if_neg (by decide), Mt.2.1, if_neg hne, bdS, s8, g1]
          have v1 : f_M_orderOn n 10 0 (nI (2 ^ zP z - 1)) (sF (rowC x (zP z) hM u) 200 42 0) = some v := v1
          rw [v1, cwS2, v21.2.1, pM_row (by omega) hx (by omega), clS]
          have s9 : (rowM x (zP z) (va_cpy (fun _ => 0) (v.2.1 204) 0 (60 * x) 60) v).1 200 8 = nI (zP z) := v21.2.1
          rw [pM_o49 (by omega) hx s9 h5, rowM, sVV]
          rw [sV2, if_neg (by decide), sV2, if_pos rfl, sA2, if_neg (by decide), ← hG]
          show some (v.1 200 41, _) = _
          rw [w2]
          rfl
        · rw [v23.1 200 22 (by decide), F1.1 200 22 (by decide)]; exact H.2.2.2.2.1
        · rw [v23.1 0 14 (by decide), v23.1 200 2 (by decide), F1.1 0 14 (by decide), F1.1 200 2 (by decide)]; exact r4
        · intro i hi
          rw [hG, cpy_i hi, hhM, cpy00 hi, show 0 + i = i by omega, e3 i (by omega), w4 i hi]
        · intro j hj
          rw [hG, cpy_o (by omega), cpy_o hj]
  · refine ⟨-1, s, s, ?_, ?_, R⟩
    · unfold f_C_order
      rw [pC_isRow_f hX, clS, if_pos rfl]
    · unfold f_M_order
      rw [pM_isRow_f hX, clS, if_pos rfl]
end XD
