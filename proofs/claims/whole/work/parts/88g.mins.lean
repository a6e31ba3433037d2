/-! the pure part: minutes, handings, stories, songs -/
section RI
variable {s t u : mb_T} {n p a b q m i c c1 k x y j l h K mi : Nat} {v : Int32} {z : zT} {w w2 : wT} {r : Bool} {law law2 X Y V U T : Int32} {fs gs ks : List (Nat × Nat)} {as bs cs : List Nat} {hM nM hM2 nM2 : Nat → Int32} {W : Nat → wT} {hd : Nat → Nat}
theorem qA_o0 (hn : 200 ≤ n) (H : HA z w s) (ho : ovr z w = false) : f_A_isOver n s = some (0, s) := by
  rw [qA_isOver hn H, ho]; rfl
theorem qA_o1 (hn : 200 ≤ n) (H : HA z w s) (ho : ovr z w = true) : f_A_isOver n s = some (1, s) := by
  rw [qA_isOver hn H, ho]; rfl
theorem qM_o0 (hn : 200 ≤ n) (H : HM z w s) (ho : ovr z w = false) : f_M_isOver n s = some (0, s) := by
  rw [qM_isOver hn H, ho]; rfl
theorem qM_o1 (hn : 200 ≤ n) (H : HM z w s) (ho : ovr z w = true) : f_M_isOver n s = some (1, s) := by
  rw [qM_isOver hn H, ho]; rfl
theorem pC_isSpan : f_C_isSpan n X s = some (inI X 0 60, s) := by
  unfold f_C_isSpan inI
  rw [bz_n]
theorem pM_isSpan : f_M_isSpan n X s = some (inI X 0 60, s) := by
  unfold f_M_isSpan
  rw [pM_in, clS, bzin]
theorem inI60 (h : m < 61) : inI (nI m) 0 60 = 1 := inI_t (a := 0) (b := 60) (by omega) (by omega) (by decide)
theorem inI60f (h : X < 0 ∨ nI 61 ≤ X) : inI X 0 60 = 0 := inI_f (b := 60) h (by decide)
theorem pC_isLaw_t (hx : x < 4) : f_C_isLaw n (nI x) s = some (1, s) := by
  unfold f_C_isLaw
  rw [bz_n, if_neg (nI_pos (by omega)), if_neg (show ¬ (4 : Int32) ≤ nI x from npi (p := 4) (by decide) hx)]
theorem pC_isLaw_f (h : X < 0 ∨ (4 : Int32) ≤ X) : f_C_isLaw n X s = some (0, s) := by
  unfold f_C_isLaw
  rw [bz_n]
  rcases h with h | h
  · rw [if_pos h]
  · rw [if_pos h]; split <;> rfl
theorem inI3 (h : m < 4) : inI (nI m) 0 3 = 1 := inI_t (a := 0) (b := 3) (by omega) (by omega) (by decide)
theorem inI3f (h : X < 0 ∨ (4 : Int32) ≤ X) : inI X 0 3 = 0 := inI_f (b := 3) h (by decide)
theorem HC_s (H : HC z W hd mi k s t) (e1 : u.2.1 110 = upd (t.2.1 110) (mi + k) (nI (hd k))) (e2 : u.2.1 111 = upd (t.2.1 111) (mi + k) (W k).2.1) (e3 : ∀ j, (j < 5 * (mi + k) ∨ 5 * (mi + k) + 5 ≤ j) → u.2.1 112 j = t.2.1 112 j) (e4 : ∀ x, x < zP z → u.2.1 112 (5 * (mi + k) + x) = (W k).1 x) (h5 : zP z ≤ 5) : HC z W hd mi (k + 1) s u := by
  refine ⟨fun e he => ?_, fun j hj => ?_⟩
  · obtain ⟨a1, a2, a3⟩ := H.1 e he
    refine ⟨by rw [e1, updI, if_neg (by omega), a1], by rw [e2, updI, if_neg (by omega), a2], fun x hx => by rw [e3 _ (by omega), a3 x hx]⟩
  · by_cases c : j = k
    · subst c
      exact ⟨by rw [e1, updI, if_pos rfl], by rw [e2, updI, if_pos rfl], e4⟩
    · obtain ⟨a1, a2, a3⟩ := H.2 j (by omega)
      exact ⟨by rw [e1, updI, if_neg (by omega), a1], by rw [e2, updI, if_neg (by omega), a2], fun x hx => by rw [e3 _ (by omega), a3 x hx]⟩
theorem HD_s (H : HD z W hd mi k s t) (e1 : u.2.1 226 = upd (t.2.1 226) (mi + k) (nI (hd k))) (e2 : ∀ j, (j < 6 * (mi + k) ∨ 6 * (mi + k) + 6 ≤ j) → u.2.1 227 j = t.2.1 227 j) (e3 : u.2.1 227 (6 * (mi + k)) = (W k).2.1) (e4 : ∀ x, x < zP z → u.2.1 227 (6 * (mi + k) + 1 + x) = (W k).1 x) (h5 : zP z ≤ 5) : HD z W hd mi (k + 1) s u := by
  refine ⟨fun e he => ?_, fun j hj => ?_⟩
  · obtain ⟨a1, a2, a3⟩ := H.1 e he
    refine ⟨by rw [e1, updI, if_neg (by omega), a1], by rw [e2 _ (by omega), a2], fun x hx => by rw [e2 _ (by omega), a3 x hx]⟩
  · by_cases c : j = k
    · subst c
      exact ⟨by rw [e1, updI, if_pos rfl], e3, e4⟩
    · obtain ⟨a1, a2, a3⟩ := H.2 j (by omega)
      exact ⟨by rw [e1, updI, if_neg (by omega), a1], by rw [e2 _ (by omega), a2], fun x hx => by rw [e2 _ (by omega), a3 x hx]⟩
theorem HC_0 : HC z W hd mi 0 s s := ⟨fun _ _ => ⟨rfl, rfl, fun _ _ => rfl⟩, fun k hk => by omega⟩
theorem HD_0 : HD z W hd mi 0 s s := ⟨fun _ _ => ⟨rfl, rfl, fun _ _ => rfl⟩, fun k hk => by omega⟩
theorem pC_mins (hn : 200 ≤ n) (A : HA z w s) (Vv : HV 100 r z w s) (Z : zok z) (W0 : wok z w) (h1 : 1 ≤ zP z) (hl : lawok law) (el : s.1 100 2 = law) (hm : w.2.2.1 = nI mi) (h120 : mi + m ≤ 120) {k0 : Int32 → mb_T → Option (Int32 × mb_T)} (hK : K = sN (fun k => ovr z (wi z law w k)) m) : ∃ u, f_C_minutes_52 n k0 (nI m) n 0 s = k0 (nI K) u ∧ HV 100 r z (wi z law w K) u ∧ Fr [(40, 2), (40, 4), (40, 5), (100, 3), (100, 4)] [48, 49, 106, 110, 111, 112] s u ∧ HC z (wi z law w) (fun k => nxt z law (wi z law w k)) mi K s u := by
  obtain ⟨q1, q2, q3⟩ := @sN_p (fun k => ovr z (wi z law w k)) m
  rw [← hK] at q1 q2 q3
  have h5 := A.1
  have L := lpE (F := fun f (t : Int32 × mb_T) => f_C_minutes_52 n k0 (nI m) f t.1 t.2) (R := fun t => k0 t.1 t.2) (fun k (t : Int32 × mb_T) => t.1 = nI k ∧ HA z (wi z law w k) t.2 ∧ HV 100 r z (wi z law w k) t.2 ∧ Fr [(40, 2), (40, 4), (40, 5), (100, 3), (100, 4)] [48, 49, 106, 110, 111, 112] s t.2 ∧ HC z (wi z law w) (fun k => nxt z law (wi z law w k)) mi k s t.2) K ?_ ?_ (t0 := (0, s)) (f := n) ⟨rfl, A, Vv, FrR, HC_0⟩ (by omega)
  · obtain ⟨⟨a, t⟩, ⟨p1, p2, p3, p4, p6⟩, p5⟩ := L
    dsimp only at p1 p2 p3 p4 p5 p6
    subst p1
    exact ⟨t, p5, p3, p4, p6⟩
  · rintro i hi ⟨a, t⟩ ⟨p1, p2, p3, p4, p6⟩
    dsimp only at p1 p2 p3 p4 p6
    subst p1
    have Wi : wok z (wi z law w i) := wi_ok Z W0 h1
    have hov : ovr z (wi z law w i) = false := q2 i hi
    have hlt := nxt_lt (law := law) Z Wi h1
    have el2 : t.1 100 2 = law := by rw [p4.1 100 2 (by decide)]; exact el
    obtain ⟨u, u1, u2, u3, u4, u5, u6, u7, u8⟩ := pC_pm (m := mi + i) hn p2 p3 (by rw [wi_m, hm, nI_add]) (by omega) hlt
    refine ⟨(nI (i + 1), u), ⟨rfl, u2, u3, FrT p4 u4, HC_s p6 u5 u6 u7 u8 h5⟩, ?_⟩
    intro f
    dsimp only
    rw [f_C_minutes_52.eq_2, if_neg (npi (by omega) (by omega)), qA_isOver hn p2, clS, hov]
    rw [if_pos (by decide), el2, pA_byLaw hn p2 Z Wi h1 hl, clS, u1, cwS2, nI_1]
  · rintro ⟨a, t⟩ ⟨p1, p2, p3, p4, p6⟩ f
    dsimp only at p1 p2 p3 p4 p6
    subst p1
    dsimp only
    rw [f_C_minutes_52.eq_2]
    by_cases e : K = m
    · rw [e, if_pos npp]
    · have hov : ovr z (wi z law w K) = true := q3 (by omega)
      rw [if_neg (npi (by omega) (by omega)), qA_isOver hn p2, clS, hov, if_pos rfl, if_neg (by decide)]
theorem pM_mins (hn : 200 ≤ n) (A : HM z w s) (Z : zok z) (W0 : wok z w) (M : mo2 w) (h1 : 1 ≤ zP z) (hl : lawok law) (el : s.1 200 10 = law) (hm : w.2.2.1 = nI mi) (h120 : mi + m ≤ 120) {k0 : Int32 → mb_T → Option (Int32 × mb_T)} (hK : K = sN (fun k => ovr z (wi z law w k)) m) : ∃ u, f_M_minutes_38 n k0 (nI m) n 0 s = k0 (nI K) u ∧ HM z (wi z law w K) u ∧ Fr [(200, 11), (200, 24), (200, 25)] [213, 226, 227, 228] s u ∧ HD z (wi z law w) (fun k => nxt z law (wi z law w k)) mi K s u := by
  obtain ⟨q1, q2, q3⟩ := @sN_p (fun k => ovr z (wi z law w k)) m
  rw [← hK] at q1 q2 q3
  have h5 := A.1
  have L := lpE (F := fun f (t : Int32 × mb_T) => f_M_minutes_38 n k0 (nI m) f t.1 t.2) (R := fun t => k0 t.1 t.2) (fun k (t : Int32 × mb_T) => t.1 = nI k ∧ HM z (wi z law w k) t.2 ∧ Fr [(200, 11), (200, 24), (200, 25)] [213, 226, 227, 228] s t.2 ∧ HD z (wi z law w) (fun k => nxt z law (wi z law w k)) mi k s t.2) K ?_ ?_ (t0 := (0, s)) (f := n) ⟨rfl, A, FrR, HD_0⟩ (by omega)
  · obtain ⟨⟨a, t⟩, ⟨p1, p2, p4, p6⟩, p5⟩ := L
    dsimp only at p1 p2 p4 p5 p6
    subst p1
    exact ⟨t, p5, p2, p4, p6⟩
  · rintro i hi ⟨a, t⟩ ⟨p1, p2, p4, p6⟩
    dsimp only at p1 p2 p4 p6
    subst p1
    have Wi : wok z (wi z law w i) := wi_ok Z W0 h1
    have hov : ovr z (wi z law w i) = false := q2 i hi
    have hlt := nxt_lt (law := law) Z Wi h1
    have el2 : t.1 200 10 = law := by rw [p4.1 200 10 (by decide)]; exact el
    obtain ⟨u, u1, u2, u4, u5, u6, u7, u8⟩ := pM_gm (m := mi + i) hn p2 Z (by rw [wi_m, hm, nI_add]) (by omega) hlt
    refine ⟨(nI (i + 1), u), ⟨rfl, u2, FrT p4 u4, HD_s p6 u5 u6 u7 u8 h5⟩, ?_⟩
    intro f
    dsimp only
    rw [f_M_minutes_38.eq_2, if_neg (npi (by omega) (by omega)), qM_isOver hn p2, clS, hov]
    rw [if_pos (by decide), el2, pM_nextBy hn p2 Z Wi (wi_mok M (by omega)) h1 hl, clS, u1, cwS2, nI_1]
  · rintro ⟨a, t⟩ ⟨p1, p2, p4, p6⟩ f
    dsimp only at p1 p2 p4 p6
    subst p1
    dsimp only
    rw [f_M_minutes_38.eq_2]
    by_cases e : K = m
    · rw [e, if_pos npp]
    · have hov : ovr z (wi z law w K) = true := q3 (by omega)
      rw [if_neg (npi (by omega) (by omega)), qM_isOver hn p2, clS, hov, if_pos rfl, if_neg (by decide)]
abbrev bgF : List (Nat × Nat) := [(40, 0), (40, 1), (40, 2), (40, 3), (40, 4), (40, 5), (40, 6)]
abbrev bgA : List Nat := [47, 48, 50, 51, 52, 53, 54]
/-- after minutes that stay: all tell the same -/
theorem Rel_min (R : Rel s) (H : Cav r z w law s) (h1 : 1 ≤ zP z) (hm : w.2.2.1 = nI mi) (h120 : mi + K ≤ 120) (F1 : Fk [(40, 0), (40, 1), (40, 2), (40, 3), (40, 4), (40, 5), (40, 6), (100, 3), (100, 4)] [47, 48, 49, 50, 51, 52, 53, 54, 106, 110, 111, 112] s t) (F2 : Fk [(200, 11), (200, 24), (200, 25)] [213, 226, 227, 228] t u) (V2 : HV 100 r z w2 t) (M2 : HM z w2 u) (hm2 : w2.2.2.1 = nI (mi + K)) (W2 : wok z w2) (R2 : wrg z w2) (C : HC z W hd mi K s t) (D : HD z W hd mi K t u) (h3 : ∀ k, k < K → hd k < zP z) (h4 : ∀ k, k < K → wrg z (W k)) : Rel u := by
  have h5 := Cav5 H
  have F : Fk [(40, 0), (40, 1), (40, 2), (40, 3), (40, 4), (40, 5), (40, 6), (100, 3), (100, 4), (200, 11), (200, 24), (200, 25)] [47, 48, 49, 50, 51, 52, 53, 54, 106, 110, 111, 112, 213, 226, 227, 228] s u := FkT (FkI F1) (FkI F2)
  obtain ⟨-, hr, hl, ho, hh⟩ := H.2.2.2.2.2.1
  refine Rel_o R F (by rw [F.1 0 14 (by decide), F.1 200 2 (by decide)]; exact R.2.2.2.1) (Cav_now (w2 := w2) (law2 := law) H F h1 M2 ⟨?_, ⟨R2, W2⟩, by rw [F.1 100 2 (by decide)]; exact hl, ho, ?_⟩ (by rw [F.1 200 10 (by decide)]; exact H.2.2.2.2.2.2.1 h1))
  · obtain ⟨g5, hp, hr, ho, hm, hl, hx⟩ := V2
    refine ⟨g5, ?_, ?_, ?_, ?_, ?_, ?_⟩
    · rw [F2.1 100 0 (by decide)]; exact hp
    · rw [F2.1 100 1 (by decide)]; exact hr
    · rw [F2.1 100 3 (by decide)]; exact ho
    · rw [F2.1 100 4 (by decide)]; exact hm
    · rw [F2.2.1 (100 + 10) (by decide)]; exact hl
    · rw [F2.2.1 (100 + 5) (by decide), F2.2.1 (100 + 6) (by decide), F2.2.1 (100 + 7) (by decide), F2.2.1 (100 + 8) (by decide), F2.2.1 (100 + 9) (by decide)]; exact hx
  · intro e he ee
    rw [hm2, nI_eq (by omega) (by omega)] at ee
    subst ee
    have C2 : HC z W hd mi K s u := by
      unfold HC
      rw [F2.2.1 110 (by decide), F2.2.1 111 (by decide), F2.2.1 112 (by decide)]
      exact C
    have D2 : HD z W hd mi K s u := by
      have g6 : t.2.1 226 = s.2.1 226 := F1.2.1 226 (by decide)
      have g7 : t.2.1 227 = s.2.1 227 := F1.2.1 227 (by decide)
      unfold HD at D ⊢
      rw [g6, g7] at D
      exact D
    exact HIS_n h5 (hh mi (by omega) hm) C2 D2 h3 h4
theorem cs_minutes (hn : 200 ≤ n) : CS (f_C_minutes n X) (f_M_minutes n X) := by
  intro s R
  obtain ⟨-, -, -, r4, r, z, w, law, H⟩ := id R
  have h5 := Cav5 H
  obtain ⟨p1, p2⟩ := CavP H
  obtain ⟨mi, m1, m2, m3, m4⟩ := Cav_m H
  rcases rngC (x := X) 61 with ⟨m, hm, rfl⟩ | hX
  · by_cases h0 : zP z = 0
    · refine ⟨-4, s, s, ?_, ?_, R⟩
      · unfold f_C_minutes
        rw [pC_isSpan, clS, inI60 hm, if_neg (by decide), p1, h0, if_pos (by decide)]
      · unfold f_M_minutes
        rw [pM_in, clS, inI60 hm, if_neg (by decide), p2, h0, if_pos (by decide)]
    · have hne : ¬ nI (zP z) = 0 := by rw [p0 h5]; exact h0
      by_cases hf : mi + m ≤ 120
      · obtain ⟨t, t1, t2, t3, t4⟩ := q_begin hn (CavV H) H.1
        have Z := CavZ H
        obtain ⟨hl1, hl2⟩ := CavL H
        obtain ⟨K, hK⟩ : ∃ K, K = sN (fun k => ovr z (wi z law w k)) m := ⟨_, rfl⟩
        have hKm : K ≤ m := by rw [hK]; exact sN_p.1
        obtain ⟨u, u1, u2, u3, u4⟩ := pC_mins (k0 := fun x_19 s_20 => some (x_19, s_20)) hn t3 (HVfr (CavV H) t2) Z (CavW H) (by omega) hl2 (by rw [t2.1 100 2 (by decide)]; exact hl1) m2 hf hK
        have F1 : Fk [(40, 0), (40, 1), (40, 2), (40, 3), (40, 4), (40, 5), (40, 6), (100, 3), (100, 4)] [47, 48, 49, 50, 51, 52, 53, 54, 106, 110, 111, 112] s u := FkT (FrQ t2) (FrQ u3)
        have Mu : HM z w u := HMfk (CavM H) F1 (by decide) (by decide)
        obtain ⟨v, v1, v2, v3, v4⟩ := pM_mins (k0 := fun x_17 s_18 => some (x_17, s_18)) hn Mu Z (CavW H) (CavO H) (by omega) hl2 (by rw [F1.1 200 10 (by decide)]; exact H.2.2.2.2.2.2.1 (by omega)) m2 hf hK
        refine ⟨nI K, u, v, ?_, ?_, Rel_min (K := K) R H (by omega) m2 (by omega) F1 (Fk_of v3) u2 v2 (by rw [wi_m, m2, nI_add]) (wi_ok Z (CavW H) (by omega)) (wi_r (CavR H)) (W := wi z law w) (hd := fun k => nxt z law (wi z law w k)) ?_ v4 (fun k _ => nxt_lt Z (wi_ok Z (CavW H) (by omega)) (by omega)) (fun k _ => wi_r (CavR H))⟩
        · unfold f_C_minutes
          rw [pC_isSpan, clS, inI60 hm, if_neg (by decide), p1, if_neg hne, m3, nI_add, if_pos (show nI (mi + m) ≤ (120 : Int32) from nI_le (b := 120) hf (by decide)), t1, cwS2, u1]
        · unfold f_M_minutes
          rw [pM_in, clS, inI60 hm, if_neg (by decide), F1.1 200 8 (by decide), p2, if_neg hne, F1.1 200 24 (by decide), m4, nI_add, if_pos (show nI (mi + m) ≤ (120 : Int32) from nI_le (b := 120) hf (by decide)), v1]
        · have g0 : t.2.1 110 = s.2.1 110 := t2.2.1 110 (by decide)
          have g1 : t.2.1 111 = s.2.1 111 := t2.2.1 111 (by decide)
          have g2 : t.2.1 112 = s.2.1 112 := t2.2.1 112 (by decide)
          unfold HC at u4 ⊢
          rw [g0, g1, g2] at u4
          exact u4
      · have hg : ¬ nI (mi + m) ≤ (120 : Int32) := nI_ge (a := 120) (by omega) (by omega)
        refine ⟨-2, s, s, ?_, ?_, R⟩
        · unfold f_C_minutes
          rw [pC_isSpan, clS, inI60 hm, if_neg (by decide), p1, if_neg hne, m3, nI_add, if_neg hg]
        · unfold f_M_minutes
          rw [pM_in, clS, inI60 hm, if_neg (by decide), p2, if_neg hne, m4, nI_add, if_neg hg]
  · refine ⟨-1, s, s, ?_, ?_, R⟩
    · unfold f_C_minutes
      rw [pC_isSpan, clS, inI60f hX, if_pos rfl]
    · unfold f_M_minutes
      rw [pM_in, clS, inI60f hX, if_pos rfl]
theorem cs_hand (hn : 200 ≤ n) : CS (f_C_hand n X) (f_M_hand n X) := by
  intro s R
  obtain ⟨-, -, -, r4, r, z, w, law, H⟩ := id R
  have h5 := Cav5 H
  obtain ⟨p1, p2⟩ := CavP H
  obtain ⟨mi, m1, m2, m3, m4⟩ := Cav_m H
  rcases rngC (x := X) (zP z) (by omega) with ⟨x, hx, rfl⟩ | hX
  · obtain ⟨t, t1, t2, t3, t4⟩ := q_begin hn (CavV H) H.1
    have Z := CavZ H
    have Mt : HM z w t := HMfr (CavM H) t2
    cases ho : ovr z w with
    | true =>
      refine ⟨-4, t, t, ?_, ?_, Rel_qs R H (Fk_of t2) Mt (by rw [t2.1 0 14 (by decide), t2.1 200 2 (by decide)]; exact r4)⟩
      · unfold f_C_hand
        rw [pC_isOne_t p1 h5 hx, clS, if_neg (by decide), t1, cwS2, qA_o1 hn t3 ho, clS, if_neg (by decide)]
      · unfold f_M_hand
        rw [pM_isOne_t Mt.2.1 h5 hx, clS, if_neg (by decide), qM_o1 hn Mt ho, clS, if_neg (by decide)]
    | false =>
      have b4 : t.1 100 4 = nI mi := by rw [t2.1 100 4 (by decide)]; exact m3
      by_cases hf : mi < 120
      · obtain ⟨u, u1, u2, u3, u4, u5, u6, u7, u8⟩ := pC_pm (m := mi) hn t3 (HVfr (CavV H) t2) m2 hf hx
        have F1 : Fk [(40, 0), (40, 1), (40, 2), (40, 3), (40, 4), (40, 5), (40, 6), (100, 3), (100, 4)] [47, 48, 49, 50, 51, 52, 53, 54, 106, 110, 111, 112] s u := FkT (FrQ t2) (FrQ u4)
        have Mu : HM z w u := HMfk (CavM H) F1 (by decide) (by decide)
        obtain ⟨v, v1, v2, v3, v4, v5, v6, v7⟩ := pM_gm (m := mi) hn Mu Z m2 hf hx
        refine ⟨nf z (lit z w.2.1) x w.1 x, u, v, ?_, ?_, Rel_min (K := 1) R H (by omega) m2 (by omega) F1 (Fk_of v3) u3 v2 ?_ ?_ stp_r (W := fun _ => w) (hd := fun _ => x) (HC_s HC_0 ?_ ?_ ?_ u8 h5) (HD_s HD_0 v4 v5 v6 v7 h5) (fun _ _ => hx) (fun _ _ => CavR H)⟩
        · unfold f_C_hand
          rw [pC_isOne_t p1 h5 hx, clS, if_neg (by decide), t1, cwS2, qA_o0 hn t3 ho, clS, if_pos rfl, b4, if_pos (show nI mi < (120 : Int32) from nI_lt (b := 120) hf (by decide)), u1, cwS2, rdI (by omega) (by decide), (u3.2.2.2.2.2.2 x hx).2.1]
          rfl
        · have g24 : ¬ u.1 200 24 = 120 := by
            rw [F1.1 200 24 (by decide), m4, show (120 : Int32) = nI 120 from rfl, nI_eq (by omega) (by decide)]
            omega
          unfold f_M_hand
          rw [pM_isOne_t Mu.2.1 h5 hx, clS, if_neg (by decide), qM_o0 hn Mu ho, clS, if_pos rfl, if_neg g24, v1, cwS2, rdI (by omega) (by decide), (v2.2.2.2.2.2.2.2.2 x hx).2.1]
          rfl
        · show w.2.2.1 + 1 = _
          rw [m2, nI_1]
        · intro g hg
          have : x = g := Option.some.inj hg
          omega
        · rw [u5, t2.2.1 110 (by decide)]; rfl
        · rw [u6, t2.2.1 111 (by decide)]; rfl
        · intro j hj
          rw [u7 j hj, t2.2.1 112 (by decide)]
      · have he : mi = 120 := by omega
        refine ⟨-2, t, t, ?_, ?_, Rel_qs R H (Fk_of t2) Mt (by rw [t2.1 0 14 (by decide), t2.1 200 2 (by decide)]; exact r4)⟩
        · unfold f_C_hand
          rw [pC_isOne_t p1 h5 hx, clS, if_neg (by decide), t1, cwS2, qA_o0 hn t3 ho, clS, if_pos rfl, b4, if_neg (show ¬ nI mi < (120 : Int32) from nI_nlt (b := 120) (by omega) (by omega))]
        · unfold f_M_hand
          rw [pM_isOne_t Mt.2.1 h5 hx, clS, if_neg (by decide), qM_o0 hn Mt ho, clS, if_pos rfl, t2.1 200 24 (by decide), m4, he, if_pos (by decide)]
  · refine ⟨-1, s, s, ?_, ?_, R⟩
    · unfold f_C_hand
      rw [pC_isOne_f p1 hX, clS, if_pos rfl]
    · unfold f_M_hand
      rw [pM_isOne_f p2 h5 hX, clS, if_pos rfl]
end RI
