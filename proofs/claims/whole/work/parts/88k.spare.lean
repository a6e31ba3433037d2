/-! the pure part: oil to spare, visits by lots -/
theorem lmod {X Y : Nat} (hX : X < 2 ^ 63) (hY2 : Y < 2 ^ 63) (h0 : 0 < Y) : lN X - lN X / lN Y * lN Y = lN (X % Y) := by
  have hl : X % Y < Y := Nat.mod_lt _ h0
  refine Int64.toInt_inj.mp ?_
  rw [Jvm.Kit.i64_rem_nonneg (by rw [pk_lT hX]; omega), pk_lT hX, pk_lT hY2, pk_lT (by omega), Int.natCast_emod]
def lo (a : Nat) : Nat → Nat
  | 0 => a
  | k + 1 => lo a k * 48271 % 2147483647
theorem lo_lt {a : Nat} (ha : a < 2147483647) : ∀ {k : Nat}, lo a k < 2147483647
  | 0 => ha
  | k + 1 => Nat.mod_lt _ (by decide)
def vi (z : zT) (a : Nat) (w : wT) : Nat → wT
  | 0 => w
  | k + 1 => stp z (lo a (k + 1) % zP z) (vi z a w k)
/-- a loop, whatever comes behind it -/
theorem lpK {α β κ : Type} {F : κ → Nat → α → Option β} {R : κ → α → Option β} (P : Nat → α → Prop) (p : Nat) (hs : ∀ i, i < p → ∀ t, P i t → ∃ t1, P (i + 1) t1 ∧ ∀ c f, F c (f + 1) t = F c f t1) (hx : ∀ t, P p t → ∀ c f, F c (f + 1) t = R c t) {t0 : α} (h0 : P 0 t0) {f : Nat} (hf : p < f) : ∃ t, P p t ∧ ∀ c, F c f t0 = R c t := by
  have key : ∀ (d i f : Nat) (t : α), i + d = p → d < f → P i t → ∃ u, P p u ∧ ∀ c, F c f t = R c u := by
    intro d
    induction d with
    | zero =>
      intro i f t hi hf ht
      have : i = p := by omega
      subst this
      obtain ⟨g, rfl⟩ : ∃ g, f = g + 1 := ⟨f - 1, by omega⟩
      exact ⟨t, ht, fun c => hx t ht c g⟩
    | succ d ih =>
      intro i f t hi hf ht
      obtain ⟨g, rfl⟩ : ∃ g, f = g + 1 := ⟨f - 1, by omega⟩
      obtain ⟨t1, h1, h2⟩ := hs i (by omega) t ht
      obtain ⟨u, u1, u2⟩ := ih (i + 1) g t1 (by omega) (by omega) h1
      exact ⟨u, u1, fun c => by rw [h2 c g]; exact u2 c⟩
  exact key p 0 f t0 (by omega) hf h0
section RM
variable {s t u : mb_T} {n p a b q m i c c1 k x y j l h K mi : Nat} {v : Int32} {z : zT} {w w2 : wT} {r : Bool} {law law2 X Y V U T : Int32} {fs gs ks : List (Nat × Nat)} {as bs cs : List Nat} {hM nM hM2 nM2 : Nat → Int32} {W : Nat → wT} {hd : Nat → Nat}
theorem lot_s (ha : a < 2147483647) : (lN (lo a k) * 48271) - (lN (lo a k) * 48271) / 2147483647 * 2147483647 = lN (lo a (k + 1)) := by
  have h := lo_lt (k := k) ha
  rw [show (48271 : Int64) = lN 48271 from rfl, show (2147483647 : Int64) = lN 2147483647 from rfl, lN_mul, lmod (by omega) (by decide) (by decide)]
  rfl
theorem lot_p (ha : a < 2147483647) (h5 : p ≤ 5) (h1 : 1 ≤ p) : Int64.toInt32 (lN (lo a k) - lN (lo a k) / (Int32.toInt64 (nI p)) * (Int32.toInt64 (nI p))) = nI (lo a k % p) := by
  have h := lo_lt (k := k) ha
  rw [nI_l (by omega), lmod (by omega) (by omega) (by omega), lN_i]
theorem pC_visit (hn : 200 ≤ n) (A : HA z w s) (h1 : 1 ≤ zP z) (ha : a < 2147483647) (hm : m ≤ 60) {k0 : Int64 → Int32 → mb_T → Option (Int32 × mb_T)} (hK : K = sN (fun k => ovr z (vi z a w k)) m) : ∃ u, f_C_visit_61 n k0 (nI m) (nI (zP z)) n (lN a) 0 s = k0 (lN (lo a K)) (nI K) u ∧ HA z (vi z a w K) u ∧ Fr [(40, 2), (40, 4), (40, 5)] [48, 49] s u := by
  obtain ⟨q1, q2, q3⟩ := @sN_p (fun k => ovr z (vi z a w k)) m
  rw [← hK] at q1 q2 q3
  have h5 := A.1
  have hd : ¬ Int32.toInt64 (nI (zP z)) = 0 := by
    rw [nI_l (by omega), show (0 : Int64) = lN 0 from rfl, lN_eq (by omega) (by decide)]
    omega
  have L := lpE (F := fun f (t : (Int64 × Int32) × mb_T) => f_C_visit_61 n k0 (nI m) (nI (zP z)) f t.1.1 t.1.2 t.2) (R := fun t => k0 t.1.1 t.1.2 t.2) (fun k (t : (Int64 × Int32) × mb_T) => t.1 = (lN (lo a k), nI k) ∧ HA z (vi z a w k) t.2 ∧ Fr [(40, 2), (40, 4), (40, 5)] [48, 49] s t.2) K ?_ ?_ (t0 := ((lN a, 0), s)) (f := n) ⟨rfl, A, FrR⟩ (by omega)
  · obtain ⟨⟨⟨b1, b2⟩, t⟩, ⟨p1, p2, p3⟩, p5⟩ := L
    dsimp only at p1 p2 p3 p5
    cases p1
    exact ⟨t, p5, p2, p3⟩
  · rintro i hi ⟨⟨b1, b2⟩, t⟩ ⟨p1, p2, p3⟩
    dsimp only at p1 p2 p3
    cases p1
    have hov : ovr z (vi z a w i) = false := q2 i hi
    obtain ⟨u, u1, u2, u3⟩ := pA_pass hn p2 (h := lo a (i + 1) % zP z) (Nat.mod_lt _ (by omega))
    refine ⟨((lN (lo a (i + 1)), nI (i + 1)), u), ⟨rfl, u3, FrT p3 u2⟩, ?_⟩
    intro f
    dsimp only
    rw [f_C_visit_61.eq_2, if_neg (npi (by omega) (by omega)), qA_o0 hn p2 hov, clS, if_pos rfl, mb_dl, if_neg (by decide), mb_dl, if_neg hd, lot_s ha, lot_p ha h5 h1, u1, cwS2, nI_1]
  · rintro ⟨⟨b1, b2⟩, t⟩ ⟨p1, p2, p3⟩ f
    dsimp only at p1 p2 p3
    cases p1
    dsimp only
    rw [f_C_visit_61.eq_2]
    by_cases e : K = m
    · rw [e, if_pos npp]
    · have hov : ovr z (vi z a w K) = true := q3 (by omega)
      rw [if_neg (npi (by omega) (by omega)), qA_o1 hn p2 hov, clS, if_neg (by decide)]
theorem pM_visit (hn : 200 ≤ n) (A : HM z w s) (Z : zok z) (h1 : 1 ≤ zP z) (ha : a < 2147483647) (hm : m ≤ 60) {k0 : Int64 → Int32 → mb_T → Option (Int32 × mb_T)} (hK : K = sN (fun k => ovr z (vi z a w k)) m) : ∃ u, f_M_visit_43 n k0 (nI m) n (lN a) 0 s = k0 (lN (lo a K)) (nI K) u ∧ HM z (vi z a w K) u ∧ Fr [(200, 11), (200, 24), (200, 25)] [213, 228] s u := by
  obtain ⟨q1, q2, q3⟩ := @sN_p (fun k => ovr z (vi z a w k)) m
  rw [← hK] at q1 q2 q3
  have h5 := A.1
  have hd : ¬ Int32.toInt64 (nI (zP z)) = 0 := by
    rw [nI_l (by omega), show (0 : Int64) = lN 0 from rfl, lN_eq (by omega) (by decide)]
    omega
  have L := lpE (F := fun f (t : (Int64 × Int32) × mb_T) => f_M_visit_43 n k0 (nI m) f t.1.1 t.1.2 t.2) (R := fun t => k0 t.1.1 t.1.2 t.2) (fun k (t : (Int64 × Int32) × mb_T) => t.1 = (lN (lo a k), nI k) ∧ HM z (vi z a w k) t.2 ∧ Fr [(200, 11), (200, 24), (200, 25)] [213, 228] s t.2) K ?_ ?_ (t0 := ((lN a, 0), s)) (f := n) ⟨rfl, A, FrR⟩ (by omega)
  · obtain ⟨⟨⟨b1, b2⟩, t⟩, ⟨p1, p2, p3⟩, p5⟩ := L
    dsimp only at p1 p2 p3 p5
    cases p1
    exact ⟨t, p5, p2, p3⟩
  · rintro i hi ⟨⟨b1, b2⟩, t⟩ ⟨p1, p2, p3⟩
    dsimp only at p1 p2 p3
    cases p1
    have hov : ovr z (vi z a w i) = false := q2 i hi
    obtain ⟨u, u1, u2, u3⟩ := pM_pass hn p2 Z (h := lo a (i + 1) % zP z) (Nat.mod_lt _ (by omega))
    refine ⟨((lN (lo a (i + 1)), nI (i + 1)), u), ⟨rfl, u3, FrT p3 u2⟩, ?_⟩
    intro f
    dsimp only
    rw [f_M_visit_43.eq_2, if_neg (npi (by omega) (by omega)), qM_o0 hn p2 hov, clS, if_pos rfl, p2.2.1, mb_dl, if_neg (by decide), mb_dl, if_neg hd, Int64.mul_comm 48271, lot_s ha, lot_p ha h5 h1, u1, cwS2, nI_1]
  · rintro ⟨⟨b1, b2⟩, t⟩ ⟨p1, p2, p3⟩ f
    dsimp only at p1 p2 p3
    cases p1
    dsimp only
    rw [f_M_visit_43.eq_2]
    by_cases e : K = m
    · rw [e, if_pos npp]
    · have hov : ovr z (vi z a w K) = true := q3 (by omega)
      rw [if_neg (npi (by omega) (by omega)), qM_o1 hn p2 hov, clS, if_neg (by decide)]
theorem cs_visit (hn : 200 ≤ n) : CS (f_C_visit n X Y) (f_M_visit n X Y) := by
  intro s R
  obtain ⟨-, -, -, r4, r, z, w, law, H⟩ := id R
  have h5 := Cav5 H
  obtain ⟨p1, p2⟩ := CavP H
  by_cases a1 : X < 1
  · refine ⟨-1, s, s, ?_, ?_, R⟩
    · unfold f_C_visit
      rw [if_pos a1]
    · unfold f_M_visit
      rw [pM_in, clS, inI, if_pos a1, if_pos rfl]
  · rcases rngC (x := X) 61 with ⟨m, hm, rfl⟩ | hX
    · have ei : inI (nI m) 1 60 = 1 := by rw [inI, if_neg a1, if_neg (show ¬ (60 : Int32) < nI m from nI_nlt (a := 60) (by omega) (by decide))]
      by_cases b1 : Y < 1
      · refine ⟨-1, s, s, ?_, ?_, R⟩
        · unfold f_C_visit
          rw [if_neg a1, pC_isSpan, clS, inI60 hm, if_neg (by decide), if_pos b1]
        · unfold f_M_visit
          rw [pM_in, clS, ei, if_neg (by decide), pM_in, clS, inI, if_pos b1, if_pos rfl]
      · obtain ⟨a, ha, rfl⟩ := nI_of (x := Y) (fun q => b1 (Int32.lt_of_lt_of_le q (by decide)))
        have hl : (lg_cmp (Int32.toInt64 (nI a)) 2147483647 < 0) ↔ a < 2147483647 := by
          rw [lg_cmp_lt, nI_l ha, show (2147483647 : Int64) = lN 2147483647 from rfl, lN_lt ha (by decide)]
        by_cases b2 : a < 2147483647
        · have ej : inI (nI a) 1 2147483646 = 1 := by rw [inI, if_neg b1, if_neg (show ¬ (2147483646 : Int32) < nI a from nI_nlt (a := 2147483646) (by omega) (by decide))]
          by_cases h0 : zP z = 0
          · refine ⟨-4, s, s, ?_, ?_, R⟩
            · unfold f_C_visit
              rw [if_neg a1, pC_isSpan, clS, inI60 hm, if_neg (by decide), if_neg b1, if_pos (hl.mpr b2), p1, h0, if_neg (by decide)]
            · unfold f_M_visit
              rw [pM_in, clS, ei, if_neg (by decide), pM_in, clS, ej, if_neg (by decide), p2, h0, if_pos (by decide)]
          · have hne : ¬ nI (zP z) = 0 := by rw [p0 h5]; exact h0
            obtain ⟨t, t1, t2, t3, t4⟩ := q_begin hn (CavV H) H.1
            obtain ⟨K, hK⟩ : ∃ K, K = sN (fun k => ovr z (vi z a w k)) m := ⟨_, rfl⟩
            obtain ⟨u, u1, u2, u3⟩ := pC_visit (k0 := fun x_20 x_21 s_22 => mb_cl (f_A_greatestFear n s_22) fun r_25 s_23 => mb_bd (sF s_23 0 14 r_25) fun s_26 => some (x_21, s_26)) hn t3 (by omega) b2 (by omega) hK
            obtain ⟨G, hG⟩ : ∃ G, G = (vi z a w K).1 (gW (vi z a w K).1 (zP z - 1)) := ⟨_, rfl⟩
            have Fu : Fk cF aA s (sF u 0 14 G) := FkT (FkT (FrQ t2) (FrQ u3)) (FrQ FrF)
            have Mu := HMfk (CavM H) Fu (by decide) (by decide)
            obtain ⟨v, v1, v2, v3, v4⟩ := pM_putAside hn Mu
            obtain ⟨y, y1, y2, y3⟩ := pM_visit (k0 := fun x_21 x_22 s_23 => mb_cl (f_M_greatest n s_23) fun r_26 s_24 => mb_rd s_24 213 10 r_26 fun x_27 => mb_cw (f_M_comeBack n s_24) fun s_30 => mb_cl (f_M_ask n x_27 x_22 s_30) fun r_34 s_32 => some (r_34, s_32)) hn v3 (CavZ H) (by omega) b2 (by omega) hK
            obtain ⟨o, o1, o2, o3⟩ := pM_comeBack hn y2 (HPfr v4 y3)
            have Fo : Fk cmF cmA s o := FkT (FkT (FkT (FkI Fu) (FrQ v2)) (FrQ y3)) (FrQ o2)
            have e14 : o.1 0 14 = G := by rw [o2.1 0 14 (by decide), y3.1 0 14 (by decide), v2.1 0 14 (by decide)]; rfl
            refine ⟨nI K, sF u 0 14 G, _, ?_, ?_, Rel_qa R H Fo o3⟩
            · unfold f_C_visit
              rw [if_neg a1, pC_isSpan, clS, inI60 hm, if_neg (by decide), if_neg b1, if_pos (hl.mpr b2), p1, if_pos (show (0 : Int32) < nI (zP z) from nI_lt (a := 0) (by omega) (by omega)), t1, cwS2, nI_l ha, u1, qA_greatestFear hn u2 (by omega), clS, bdS, ← hG]
            · unfold f_M_visit
              rw [pM_in, clS, ei, if_neg (by decide), pM_in, clS, ej, if_neg (by decide), Mu.2.1, if_neg hne, v1, cwS2, nI_l ha, y1, qM_greatest hn y2 (by omega), clS, qM_grFear y2 (by omega), o1, cwS2, e14, ← hG]
              rfl
        · refine ⟨-1, s, s, ?_, ?_, R⟩
          · unfold f_C_visit
            rw [if_neg a1, pC_isSpan, clS, inI60 hm, if_neg (by decide), if_neg b1, if_neg (fun q => b2 (hl.mp q))]
          · unfold f_M_visit
            rw [pM_in, clS, ei, if_neg (by decide), pM_in, clS, inI, if_neg b1, if_pos (show (2147483646 : Int32) < nI a from nI_lt (a := 2147483646) (by omega) ha), if_pos rfl]
    · refine ⟨-1, s, s, ?_, ?_, R⟩
      · unfold f_C_visit
        rw [if_neg a1, pC_isSpan, clS, inI60f hX, if_pos rfl]
      · have e0 : inI X 1 60 = 0 := by
          have := inI60f hX
          unfold inI at this ⊢
          rw [if_neg a1]
          rw [if_neg (fun q => a1 (Int32.lt_of_lt_of_le q (by decide)))] at this
          exact this
        unfold f_M_visit
        rw [pM_in, clS, e0, if_pos rfl]
/-- with other oil -/
def wv (w : wT) (v : Nat) : wT := (w.1, nI v, w.2.2)
theorem pM_sp48 (hn : 200 ≤ n) (H : HM z w s) (Z : zok z) (W0 : wok z w) (M : mo2 w) (h1 : 1 ≤ zP z) (hl : lawok law) (el : s.1 200 10 = law) (hm : m ≤ 100) (hK : K = sN (fun k => ovr z (wi z law w k)) m) : ∃ t, (∀ k0 : Int32 → mb_T → Option (Int32 × mb_T), f_M_spare_48 n k0 (nI m) Y n 0 s = k0 (nI K) t) ∧ Fr [(200, 11), (200, 24), (200, 25)] [213, 228] s t ∧ HM z (wi z law w K) t := by
  obtain ⟨q1, q2, q3⟩ := @sN_p (fun k => ovr z (wi z law w k)) m
  rw [← hK] at q1 q2 q3
  have L := lpK (F := fun (k0 : Int32 → mb_T → Option (Int32 × mb_T)) f (t : Int32 × mb_T) => f_M_spare_48 n k0 (nI m) Y f t.1 t.2) (R := fun k0 t => k0 t.1 t.2) (fun k (t : Int32 × mb_T) => t.1 = nI k ∧ HM z (wi z law w k) t.2 ∧ Fr [(200, 11), (200, 24), (200, 25)] [213, 228] s t.2) K ?_ ?_ (t0 := (0, s)) (f := n) ⟨rfl, H, FrR⟩ (by omega)
  · obtain ⟨⟨a, t⟩, ⟨p1, p2, p3⟩, p5⟩ := L
    dsimp only at p1 p2 p3 p5
    subst p1
    exact ⟨t, p5, p3, p2⟩
  · rintro i hi ⟨a, t⟩ ⟨p1, p2, p3⟩
    dsimp only at p1 p2 p3
    subst p1
    have Wi : wok z (wi z law w i) := wi_ok Z W0 h1
    have hov : ovr z (wi z law w i) = false := q2 i hi
    have hlt := nxt_lt (law := law) Z Wi h1
    have el2 : t.1 200 10 = law := by rw [p3.1 200 10 (by decide)]; exact el
    obtain ⟨u, u1, u2, u3⟩ := pM_pass hn p2 Z hlt
    refine ⟨(nI (i + 1), u), ⟨rfl, u3, FrT p3 u2⟩, ?_⟩
    intro c f
    dsimp only
    rw [f_M_spare_48.eq_2, if_neg (npi (by omega) (by omega)), qM_o0 hn p2 hov, clS, if_pos rfl, el2, pM_nextBy hn p2 Z Wi (wi_mok M (by omega)) h1 hl, clS, u1, cwS2, nI_1]
  · rintro ⟨a, t⟩ ⟨p1, p2, p3⟩ c f
    dsimp only at p1 p2 p3
    subst p1
    dsimp only
    rw [f_M_spare_48.eq_2]
    by_cases e : K = m
    · rw [e, if_pos npp]
    · have hov : ovr z (wi z law w K) = true := q3 (by omega)
      rw [if_neg (npi (by omega) (by omega)), qM_o1 hn p2 hov, clS, if_neg (by decide)]
theorem cs_spare (hn : 200 ≤ n) : CS (f_C_spare n X) (f_M_spare n X) := by
  intro s R
  obtain ⟨-, -, -, r4, r, z, w, law, H⟩ := id R
  have h5 := Cav5 H
  obtain ⟨p1, p2⟩ := CavP H
  rcases rngC (x := X) 61 with ⟨m, hm, rfl⟩ | hX
  · by_cases h0 : zP z = 0
    · refine ⟨-4, s, s, ?_, ?_, R⟩
      · unfold f_C_spare
        rw [pC_isSpan, clS, inI60 hm, if_neg (by decide), p1, h0, if_pos (by decide)]
      · unfold f_M_spare
        rw [pM_isSpan, clS, inI60 hm, if_neg (by decide), p2, h0, if_pos (by decide)]
    · have hne : ¬ nI (zP z) = 0 := by rw [p0 h5]; exact h0
      obtain ⟨l1, l2⟩ := CavL H
      obtain ⟨ov, hov⟩ : ∃ ov : Nat → Bool, ov = fun v => ovr z (wi z law (wv w v) (sN (fun k => ovr z (wi z law (wv w v) k)) m)) := ⟨_, rfl⟩
      have wvW : ∀ v, wok z (wv w v) := fun v => (show wok z w from CavW H)
      have wvO : ∀ v, mo2 (wv w v) := fun v => (show mo2 w from CavO H)
      have eh : ∀ v, (hol z law (wv w v) m = -9) = (ov v = false) := by
        intro v
        have hk := @sN_p (fun k => ovr z (wi z law (wv w v) k)) m
        have ho : ov v = ovr z (wi z law (wv w v) (sN (fun k => ovr z (wi z law (wv w v) k)) m)) := by rw [hov]
        rw [ho]
        unfold hol
        generalize sN (fun k => ovr z (wi z law (wv w v) k)) m = K at hk
        cases ovr z (wi z law (wv w v) K) with
        | true => simp [nI_m9 (show K < 2 ^ 31 by omega)]
        | false => simp
      obtain ⟨q1, q2, q3⟩ := @sN_p (fun v => !ov v) 100
      generalize hJ : sN (fun v => !ov v) 100 = J at q1 q2 q3
      obtain ⟨A, hA⟩ : ∃ A : Int32, A = if J = 100 then -9 else nI J := ⟨_, rfl⟩
      have P1 := p1
      have LC : ∃ t, Fk bgF aA s t ∧ f_C_spare n (nI m) s = some (A, t) := by
        have stepC : ∀ t, Fk bgF aA s t → ∀ i, ∃ u u2, f_A_begin n 100 t = some u ∧ f_A_howLong n ((sF u 40 2 (nI i)).1 100 2) (nI m) (sF u 40 2 (nI i)) = some (hol z law (wv w i) m, u2) ∧ Fk bgF aA s u2 := by
          intro t Ft i
          obtain ⟨u, u1, u2, u3, u4⟩ := q_begin hn (HVfk (CavV H) Ft) H.1
          have U : HA z (wv w i) (sF u 40 2 (nI i)) := by
            obtain ⟨g1, g2, g3, g4, g5, g6, g7, g8⟩ := u3
            exact ⟨g1, g2, rfl, g4, g5, g6, g7, g8⟩
          obtain ⟨v, v1, v2, v3⟩ := qA_howLong (m := m) hn U (CavZ H) (wvW i) (by omega) l2 (by omega)
          have e2 : (sF u 40 2 (nI i)).1 100 2 = law := by
            show u.1 100 2 = law
            rw [u2.1 100 2 (by decide), Ft.1 100 2 (by decide)]; exact l1
          refine ⟨u, v, u1, by rw [e2]; exact v1, FkT (FkT (FkT Ft (FrQ u2)) (FrQ FrF)) (FrQ v2)⟩
        have L := lpE (F := fun f (t : Int32 × mb_T) => f_C_spare_24 n (fun x_15 s_16 => some (x_15, s_16)) (fun x_17 s_18 => some ((-9), s_18)) (nI m) f t.1 t.2) (R := fun t => if J = 100 then some ((-9), t.2) else mb_cw (f_A_begin n 100 t.2) fun s_7 => mb_cl (f_A_howLong n ((sF s_7 40 2 (nI J)).1 100 2) (nI m) (sF s_7 40 2 (nI J))) fun r_13 s_11 => some (nI J, s_11)) (fun i (t : Int32 × mb_T) => t.1 = nI i ∧ Fk bgF aA s t.2) J ?_ ?_ (t0 := (0, s)) (f := n) ⟨rfl, FkR⟩ (by omega)
        · obtain ⟨⟨a, t⟩, ⟨p1, p2⟩, p5⟩ := L
          dsimp only at p1 p2 p5
          subst p1
          unfold f_C_spare
          rw [pC_isSpan, clS, inI60 hm, if_neg (by decide), P1, if_neg hne, p5, hA]
          by_cases c : J = 100
          · exact ⟨t, p2, by rw [if_pos c, if_pos c]⟩
          · obtain ⟨u, u2, e1, e2, e3⟩ := stepC t p2 J
            exact ⟨u2, e3, by rw [if_neg c, if_neg c, e1, cwS2, e2, clS]⟩
        · rintro i hi ⟨a, t⟩ ⟨p1, p2⟩
          dsimp only at p1 p2
          subst p1
          obtain ⟨u, u2, e1, e2, e3⟩ := stepC t p2 i
          have hf := q2 i hi
          refine ⟨(nI (i + 1), u2), ⟨rfl, e3⟩, ?_⟩
          intro f
          dsimp only
          have hne9 : ¬ hol z law (wv w i) m = -9 := by
            rw [eh]
            simp at hf
            rw [hf]; decide
          rw [f_C_spare_24.eq_2, if_neg (show ¬ (99 : Int32) < nI i from nI_nlt (a := 99) (by omega) (by decide)), e1, cwS2, bdS, e2, clS, if_neg hne9, nI_1]
        · rintro ⟨a, t⟩ ⟨p1, p2⟩ f
          dsimp only at p1 p2
          subst p1
          dsimp only
          rw [f_C_spare_24.eq_2]
          by_cases c : J = 100
          · rw [c, if_pos (show (99 : Int32) < nI 100 by decide), if_pos rfl]
          · obtain ⟨u, u2, e1, e2, e3⟩ := stepC t p2 J
            have hf := q3 (by omega)
            have he9 : hol z law (wv w J) m = -9 := by
              rw [eh]
              simpa using hf
            rw [if_neg (show ¬ (99 : Int32) < nI J from nI_nlt (a := 99) (by omega) (by decide)), if_neg c, e1, cwS2, cwS2, bdS, e2, clS, clS, if_pos he9]
      obtain ⟨t, Ft, et⟩ := LC
      have Mt := HMfk (CavM H) Ft (by decide) (by decide)
      obtain ⟨a, a1, a2, a3, a4⟩ := pM_putAside hn Mt
      have ea : a.1 200 10 = law := by rw [a2.1 200 10 (by decide), Ft.1 200 10 (by decide)]; exact H.2.2.2.2.2.2.1 (by omega)
      have stepM : ∀ t, Fk mF mA a t → HM z w t → HP z w t → ∀ i, ∃ u v, (∀ k0 : Int32 → mb_T → Option (Int32 × mb_T), f_M_spare_48 n k0 (nI m) (nI i) n 0 (sF t 200 11 (nI i)) = k0 (nI (sN (fun k => ovr z (wi z law (wv w i) k)) m)) u) ∧ f_M_isOver n u = some ((if ov i = true then 1 else 0 : Int32), u) ∧ f_M_comeBack n u = some v ∧ HM z w v ∧ HP z w v ∧ Fk mF mA a v := by
        intro t Ft Mt Pt i
        have U : HM z (wv w i) (sF t 200 11 (nI i)) := by
          obtain ⟨q1, q2, q3, q4, q5, q6, q7, q8, q9⟩ := Mt
          exact ⟨q1, q2, rfl, q4, q5, q6, q7, q8, q9⟩
        have Ft2 : Fk mF mA a (sF t 200 11 (nI i)) := FkT Ft (FrQ FrF)
        have Pt2 : HP z w (sF t 200 11 (nI i)) := HPfr Pt FrF
        have el : (sF t 200 11 (nI i)).1 200 10 = law := by rw [Ft2.1 200 10 (by decide)]; exact ea
        obtain ⟨u, u1, u2, u3⟩ := pM_sp48 (Y := nI i) (m := m) hn U (CavZ H) (wvW i) (wvO i) (by omega) l2 el (by omega) rfl
        obtain ⟨o, o1, o2, o3⟩ := pM_comeBack hn u3 (HPfr Pt2 u2)
        refine ⟨u, o, u1, by rw [qM_isOver hn u3, hov], o1, o3, HPfr (HPfr Pt2 u2) o2, FkT (FkT Ft2 (FrQ u2)) (FrQ o2)⟩
      have LM : ∃ o, HM z w o ∧ Fk mF mA a o ∧ f_M_spare n (nI m) t = some (A, o) := by
        have L := lpE (F := fun f (t : (Int32 × Int32) × mb_T) => f_M_spare_28 n (fun x_31 x_32 s_33 => some (x_31, s_33)) (nI m) f t.1.1 t.1.2 t.2) (R := fun t => some (t.1.1, t.2)) (fun i (t : (Int32 × Int32) × mb_T) => t.1 = (if i ≤ J then -9 else nI J, nI i) ∧ HM z w t.2 ∧ HP z w t.2 ∧ Fk mF mA a t.2) (if J = 100 then 100 else J + 1) ?_ ?_ (t0 := ((-9, 0), a)) (f := n) ⟨by rw [if_pos (Nat.zero_le _)]; rfl, a3, a4, FkR⟩ (by split <;> omega)
        · obtain ⟨⟨⟨b1, b2⟩, o⟩, ⟨p1, p2, p3, p4⟩, p5⟩ := L
          dsimp only at p1 p2 p3 p4 p5
          cases p1
          refine ⟨o, p2, p4, ?_⟩
          unfold f_M_spare
          rw [pM_isSpan, clS, inI60 hm, if_neg (by decide), Mt.2.1, if_neg hne, a1, cwS2, p5, hA]
          by_cases c : J = 100
          · rw [if_pos c, if_pos c, if_pos (by omega)]
          · rw [if_neg c, if_neg c, if_neg (by omega)]
        · rintro i hi ⟨⟨b1, b2⟩, t⟩ ⟨p1, p2, p3, p4⟩
          dsimp only at p1 p2 p3 p4
          have hiJ : i ≤ J := by split at hi <;> omega
          rw [if_pos hiJ] at p1
          cases p1
          obtain ⟨u, v, e1, e2, e3, e4, e5, e6⟩ := stepM t p4 p2 p3 i
          refine ⟨((if i + 1 ≤ J then -9 else nI J, nI (i + 1)), v), ⟨rfl, e4, e5, e6⟩, ?_⟩
          intro f
          dsimp only
          have hi100 : i < 100 := by split at hi <;> omega
          rw [f_M_spare_28.eq_2, if_neg (show ¬ (100 : Int32) ≤ nI i from npi (p := 100) (by decide) hi100), if_pos rfl, bdS, e1, e2, clS, e3, cwS2, nI_1]
          by_cases c : i < J
          · have hf := q2 i c
            simp at hf
            rw [hf, if_pos (show i + 1 ≤ J by omega)]
            rfl
          · have eJ : i = J := by omega
            have hf := q3 (by omega)
            simp at hf
            rw [eJ, hf, if_neg (show ¬ J + 1 ≤ J by omega)]
            rfl
        · rintro ⟨⟨b1, b2⟩, t⟩ ⟨p1, p2, p3, p4⟩ f
          dsimp only at p1 p2 p3 p4
          cases p1
          dsimp only
          rw [f_M_spare_28.eq_2]
          by_cases c : J = 100
          · rw [if_pos c, if_pos (show (100 : Int32) ≤ nI 100 by decide)]
          · rw [if_neg c, if_neg (show ¬ J + 1 ≤ J by omega), if_neg (nI_m9 (show J < 2 ^ 31 by omega))]
            split <;> rfl
      obtain ⟨o, Mo, Fo, eo⟩ := LM
      have Fv : Fk (bgF ++ mF) cmA s o := FkT (FkT (FkI Ft) (FrQ a2)) (FkI Fo)
      exact ⟨A, t, o, et, eo, Rel_qs R H Fv Mo (by rw [Fv.1 0 14 (by decide), Fv.1 200 2 (by decide)]; exact r4)⟩
  · refine ⟨-1, s, s, ?_, ?_, R⟩
    · unfold f_C_spare
      rw [pC_isSpan, clS, inI60f hX, if_pos rfl]
    · unfold f_M_spare
      rw [pM_isSpan, clS, inI60f hX, if_pos rfl]
end RM
