/-! the pure part: whether it comes to rest -/
def z1 (z : zT) : zT := (zP z, zK z, zG z, zL z, zS z, zB z, zM z, 1)
def PA (z : zT) (w : wT) (d : Nat) (s : mb_T) : Prop := (∀ x, x < zP z → s.2.1 232 (6 * d + x) = w.1 x) ∧ s.2.1 232 (6 * d + 5) = oM w.2.2.2
theorem oM_i {z : zT} {w w2 : wT} (Z : zP z ≤ 5) (W : wok z w) (W2 : wok z w2) : (oM w2.2.2.2 = oM w.2.2.2) = (w2.2.2.2 = w.2.2.2) := by
  cases e : w.2.2.2 with
  | none =>
    cases e2 : w2.2.2.2 with
    | none => simp
    | some b => simp [oM, nI_m9 (show b < 2 ^ 31 by have := W2 b e2; omega)]
  | some a =>
    have := W a e
    cases e2 : w2.2.2.2 with
    | none =>
      simp [oM]
      intro c; exact nI_m9 (show a < 2 ^ 31 by omega) c.symm
    | some b =>
      have := W2 b e2
      simp [oM, nI_eq (show b < 2 ^ 31 by omega) (show a < 2 ^ 31 by omega)]
def sameI (a b : wT) (i : Nat) : Bool := decide (a.2.2.2 = b.2.2.2) && decide (∀ x, x < i → a.1 x = b.1 x)
theorem sameI_s {a b : wT} {i : Nat} : sameI a b (i + 1) = (sameI a b i && decide (a.1 i = b.1 i)) := by
  unfold sameI
  by_cases h0 : a.2.2.2 = b.2.2.2
  · by_cases h1 : ∀ x, x < i → a.1 x = b.1 x
    · by_cases h2 : a.1 i = b.1 i
      · have h3 : ∀ x, x < i + 1 → a.1 x = b.1 x := fun x hx => by
          by_cases c : x = i
          · rw [c]; exact h2
          · exact h1 x (by omega)
        simp [h0, h2, decide_eq_true h1, decide_eq_true h3]
      · have h3 : ¬ ∀ x, x < i + 1 → a.1 x = b.1 x := fun q => h2 (q i (by omega))
        simp [h0, h2, decide_eq_false h3]
    · have h3 : ¬ ∀ x, x < i + 1 → a.1 x = b.1 x := fun q => h1 fun x hx => q x (by omega)
      simp [h0, decide_eq_false h1, decide_eq_false h3]
  · simp [h0]
section UD
variable {s t u : mb_T} {n p a b q m i c k x y j l K d G mi : Nat} {z : zT} {w w2 : wT} {lf r : Bool} {fs : List (Nat × Nat)} {as : List Nat} {v X Y law : Int32} {g : Nat → Int32}
theorem PA_fr (H : PA z w d s) (h : Fr fs as s t) (ha : 232 ∉ as := by decide) : PA z w d t := by
  unfold PA
  rw [h.2.1 232 ha]
  exact H
theorem m3 (hk : k < 2 ^ 31) : nI k - nI k / 3 * 3 = nI (k % 3) := pk_rem hk (by decide) (by decide)
theorem m2 (hk : k < 2 ^ 31) : nI k - nI k / 2 * 2 = nI (k % 2) := pk_rem hk (by decide) (by decide)
theorem pM_setP (hn : 200 ≤ n) (H : HM z w s) (hk : k < 2 ^ 31) : ∃ t, f_M_setPast n (nI k) s = some t ∧ Fr [] [232] s t ∧ HM z w t ∧ PA z w (k % 3) t ∧ ∀ j, (j < 6 * (k % 3) ∨ 6 * (k % 3) + 6 ≤ j) → t.2.1 232 j = s.2.1 232 j := by
  have h5 := H.1
  have hd : k % 3 < 3 := Nat.mod_lt _ (by decide)
  unfold f_M_setPast
  rw [dvN (by decide), m3 hk]
  generalize k % 3 = d at hd
  rw [nI_6m]
  have e := lp (F := fun f (t : Int32 × mb_T) => f_M_setPast_9 n (fun x_9 s_10 => mb_wr s_10 232 18 (nI (6 * d) + 5) (s_10.1 200 25) fun s_11 => some s_11) (nI (6 * d)) f t.1 t.2) (R := some (sV s 232 (upd (va_cpy (s.2.1 213) (s.2.1 232) 0 (6 * d) 5) (6 * d + 5) (s.1 200 25)))) (fun i => (nI i, sV s 232 (va_cpy (s.2.1 213) (s.2.1 232) 0 (6 * d) i))) 5 ?_ ?_ n (by omega)
  · dsimp only at e
    rw [cpy_0, sVid] at e
    refine ⟨_, e, FrV, HMfr H FrV, ⟨fun x hx => ?_, ?_⟩, fun j hj => ?_⟩
    · rw [sV2, if_pos rfl, updI, if_neg (by omega), cpy_i (by omega), show 0 + x = x by omega, (H.2.2.2.2.2.2.2.2 x hx).2.1]
    · rw [sV2, if_pos rfl, updI, if_pos rfl]; exact H.2.2.2.2.1
    · rw [sV2, if_pos rfl, updI, if_neg (by omega), cpy_o (by omega)]
  · intro i hi f
    dsimp only
    have g : (sV s 232 (va_cpy (s.2.1 213) (s.2.1 232) 0 (6 * d) i)).2.1 213 i = s.2.1 213 (0 + i) := by rw [sV2, if_neg (by decide), show 0 + i = i by omega]
    rw [f_M_setPast_9.eq_2, if_neg (show ¬ (5 : Int32) ≤ nI i from npi (p := 5) (by decide) hi), rdI (by omega) (by decide), nI_add, wrI (by omega) (by decide), g, sAV, nI_1, cpy_s]
  · intro f
    dsimp only
    rw [f_M_setPast_9.eq_2, if_pos (show (5 : Int32) ≤ nI 5 by decide), nI_5, wrI (by omega) (by decide), sAV]
    rfl
theorem pM_isP (hn : 200 ≤ n) (H : HM z w s) (P : PA z w2 (k % 3) s) (W : wok z w) (W2 : wok z w2) (hk : k < 2 ^ 31) : f_M_isPast n (nI k) s = some ((if sameW z w2 w = true then 1 else 0 : Int32), s) := by
  have h5 := H.1
  have hd : k % 3 < 3 := Nat.mod_lt _ (by decide)
  unfold f_M_isPast
  rw [dvN (by decide), m3 hk]
  generalize k % 3 = d at hd P
  rw [nI_6m, nI_5, rdI (by omega) (by decide), P.2, H.2.2.2.2.1]
  simp only [oM_i h5 W W2]
  have e0 : (if w2.2.2.2 = w.2.2.2 then 1 else 0 : Int32) = if sameI w2 w 0 = true then 1 else 0 := by
    unfold sameI
    by_cases c : w2.2.2.2 = w.2.2.2 <;> simp [c]
  rw [e0]
  refine lp (F := fun f (t : Int32 × Int32 × mb_T) => f_M_isPast_31 n (fun x_17 x_18 s_19 => mb_bz x_17 (some (x_17, s_19))) (nI (6 * d)) f t.1 t.2.1 t.2.2) (fun i => ((if sameI w2 w i = true then 1 else 0 : Int32), nI i, s)) (zP z) ?_ ?_ n (by omega)
  · intro i hi f
    dsimp only
    rw [f_M_isPast_31.eq_2, H.2.1, if_neg (npi (by omega) hi), nI_add, rdI (by omega) (by decide), rdI (by omega) (by decide), P.1 i hi, (H.2.2.2.2.2.2.2.2 i hi).2.1, nI_1, sameI_s]
    cases sameI w2 w i with
    | false => rfl
    | true =>
      by_cases c : w2.1 i = w.1 i
      · rw [if_pos c, decide_eq_true c]; rfl
      · rw [if_neg c, decide_eq_false c]; rfl
  · intro f
    dsimp only
    rw [f_M_isPast_31.eq_2, H.2.1, if_pos npp, bz10]
    rfl
theorem cs_rest (hn : 200 ≤ n) : CS (f_C_rest n) (f_M_rest n) := by
  intro s R
  obtain ⟨-, -, -, r4, r, z, w, law, H⟩ := id R
  have h5 := Cav5 H
  obtain ⟨p1, p2⟩ := CavP H
  obtain ⟨l1, l2⟩ := CavL H
  by_cases h0 : zP z = 0
  · refine ⟨-4, s, s, ?_, ?_, R⟩
    · unfold f_C_rest
      rw [p1, h0, if_pos (by decide)]
    · unfold f_M_rest
      rw [p2, h0, if_pos (by decide)]
  · have hne : ¬ nI (zP z) = 0 := by rw [p0 h5]; exact h0
    have Z : zok z := CavZ H
    have Z1 : zok (z1 z) := (show zok z from CavZ H)
    obtain ⟨rr, hrr⟩ : ∃ rr : Nat → wT, rr = wi (z1 z) law w := ⟨_, rfl⟩
    have rr0 : rr 0 = w := by rw [hrr]; rfl
    have rrs : ∀ k, rr (k + 1) = stp (z1 z) (nxt (z1 z) law (rr k)) (rr k) := fun k => by rw [hrr]; rfl
    have rok : ∀ k, wok z (rr k) := fun k => by
      have : wok (z1 z) (wi (z1 z) law w k) := wi_ok Z1 (show wok z w from CavW H) (show 1 ≤ zP z by omega)
      rw [hrr]; exact this
    have rmo : ∀ k, k ≤ 200 → mok (rr k) := fun k hk => by rw [hrr]; exact wi_mok (CavO H) hk
    obtain ⟨ov, hov⟩ : ∃ ov : Nat → Bool, ov = fun k => ovr z (rr k) := ⟨_, rfl⟩
    obtain ⟨sm, hsm⟩ : ∃ sm : Nat → Bool, sm = fun k => sameW z (rr (k - 2)) (rr k) := ⟨_, rfl⟩
    have ove : ∀ k, ovr z (rr k) = ov k := fun k => by rw [hov]
    have sme : ∀ k, sameW z (rr (k - 2)) (rr k) = sm k := fun k => by rw [hsm]
    obtain ⟨q1, q2, q3⟩ := @sN_p (fun k => ov k || (decide (2 ≤ k) && sm k)) 101
    generalize hJ : sN (fun k => ov k || (decide (2 ≤ k) && sm k)) 101 = J at q1 q2 q3
    have nov : ∀ k, k < J → ov k = false := fun k hk => by
      have := q2 k hk
      simp at this
      exact this.1
    have nsm : ∀ k, k < J → 2 ≤ k → sm k = false := fun k hk h2 => by
      have := q2 k hk
      simp at this
      exact this.2 h2
    obtain ⟨fnd, hfnd⟩ : ∃ fnd : Bool, fnd = (decide (J ≤ 100) && !ov J) := ⟨_, rfl⟩
    have f1 : fnd = true → J ≤ 100 ∧ ov J = false ∧ 2 ≤ J ∧ sm J = true := by
      intro hf
      rw [hfnd] at hf
      simp at hf
      have := q3 (by omega)
      simp [hf.2] at this
      exact ⟨hf.1, hf.2, this.1, this.2⟩
    have f0 : fnd = false → J = 101 ∨ (J ≤ 100 ∧ ov J = true) := by
      intro hf
      rw [hfnd] at hf
      simp at hf
      by_cases c : J ≤ 100
      · exact Or.inr ⟨c, hf c⟩
      · exact Or.inl (by omega)
    obtain ⟨A, hA⟩ : ∃ A : Int32, A = if fnd = true then nI J else -9 := ⟨_, rfl⟩
    have LC : ∃ t, Fk bgF aA s t ∧ f_C_rest n s = some (A, t) := by
      obtain ⟨t, t1, t2, t3, t4⟩ := q_begin hn (CavV H) H.1
      have T3 : HA (z1 z) w (sF t 40 3 1) := by
        obtain ⟨g1, g2, g3, g4, g5, g6, g7, g8⟩ := t3
        exact ⟨g1, g2, g3, rfl, g5, g6, g7, g8⟩
      have Ft : Fk bgF aA s (sF t 40 3 1) := FkT (FrQ t2) (FrQ FrF)
      have L := lpE (F := fun f (t : Int32 × mb_T) => f_C_rest_34 n (fun x_28 s_29 => some (x_28, s_29)) (fun x_30 s_31 => some ((-9), s_31)) f t.1 t.2) (R := fun t => some (A, t.2)) (fun k (t : Int32 × mb_T) => t.1 = nI k ∧ HA (z1 z) (rr k) t.2 ∧ (1 ≤ k → HS (z1 z) (rr (k - 1)) ((k - 1) % 2) t.2) ∧ (2 ≤ k → HS (z1 z) (rr (k - 2)) (k % 2) t.2) ∧ Fk bgF aA s t.2) J ?_ ?_ (t0 := (0, sF t 40 3 1)) (f := n) ⟨rfl, by rw [rr0]; exact T3, fun q => by omega, fun q => by omega, Ft⟩ (by omega)
      · obtain ⟨⟨a, u⟩, ⟨c1, c2, c3, c4, c5⟩, c6⟩ := L
        dsimp only at c1 c2 c3 c4 c5 c6
        refine ⟨u, c5, ?_⟩
        unfold f_C_rest
        rw [p1, if_neg hne, t1, cwS2, bdS]
        exact c6
      · rintro i hi ⟨a, t⟩ ⟨c1, c2, c3, c4, c5⟩
        dsimp only at c1 c2 c3 c4 c5
        subst c1
        have ho : ovr (z1 z) (rr i) = false := (ove i).trans (nov i hi)
        have hm2 : i % 2 < 2 := Nat.mod_lt _ (by decide)
        obtain ⟨v, v1, v2, v3, v4, v5⟩ := qA_save (n := n) c2 (show i % 2 < 6 by omega)
        have hlt := nxt_lt (law := law) Z1 (show wok (z1 z) (rr i) from rok i) (show 1 ≤ zP z by omega)
        obtain ⟨e, e1, e2, e3⟩ := pA_pass hn v3 hlt
        have Fv : Fk bgF aA s v := FkT c5 (FrQ v2)
        refine ⟨(nI (i + 1), e), ⟨rfl, by rw [rrs]; exact e3, fun _ => HS_fr v4 e2, fun h2 => ?_, FkT Fv (FrQ e2)⟩, ?_⟩
        · have h := c3 (by omega)
          have ed : (i + 1) % 2 = (i - 1) % 2 := by omega
          have hdi : (i - 1) % 2 ≠ i % 2 := by omega
          have hd2 : (i - 1) % 2 < 2 := Nat.mod_lt _ (by decide)
          rw [ed, show i + 1 - 2 = i - 1 by omega]
          have h9 : HS (z1 z) (rr (i - 1)) ((i - 1) % 2) v := by
            have hp : zP (z1 z) ≤ 5 := h5
            obtain ⟨a1, a2, a3, a4⟩ := h
            exact ⟨fun x hx => by rw [v5 _ (by omega)]; exact a1 x hx, by rw [v5 _ (by omega)]; exact a2, by rw [v5 _ (by omega)]; exact a3, by rw [v5 _ (by omega)]; exact a4⟩
          exact HS_fr h9 e2
        · intro f
          dsimp only
          have body : mb_dv 2 (mb_cw (f_A_save n (nI i - nI i / 2 * 2) t) fun s_20 => mb_cl (f_A_byLaw n (s_20.1 100 2) s_20) fun r_24 s_22 => mb_cw (f_A_pass n r_24 s_22) fun s_25 => f_C_rest_34 n (fun x_28 s_29 => some (x_28, s_29)) (fun x_30 s_31 => some ((-9), s_31)) f (nI i + 1) s_25) = f_C_rest_34 n (fun x_28 s_29 => some (x_28, s_29)) (fun x_30 s_31 => some ((-9), s_31)) f (nI (i + 1)) e := by
            rw [dvN (by decide), m2 (by omega), v1, cwS2, Fv.1 100 2 (by decide), l1, pA_byLaw hn v3 Z1 (show wok (z1 z) (rr i) from rok i) (show 1 ≤ zP z by omega) l2, clS, e1, cwS2, nI_1]
          rw [f_C_rest_34.eq_2, if_neg (show ¬ (100 : Int32) < nI i from nI_nlt (a := 100) (by omega) (by decide)), qA_o0 hn c2 ho, clS, if_pos rfl, mb_jn]
          by_cases h2 : i < 2
          · rw [if_pos (show nI i < (2 : Int32) from nI_lt (b := 2) h2 (by decide))]
            exact body
          · have es : f_A_isAsSaved n (nI (i % 2)) t = some (0, t) := by
              rw [qA_isAsSaved hn c2 (c4 (by omega)) (show wok (z1 z) (rr i) from rok i) (show wok (z1 z) (rr (i - 2)) from rok _) (by omega), show sameW (z1 z) (rr (i - 2)) (rr i) = false from (sme i).trans (nsm i hi (by omega))]
              rfl
            rw [if_neg (show ¬ nI i < (2 : Int32) from nI_nlt (b := 2) (by omega) (by omega)), dvN (by decide), m2 (show i < 2 ^ 31 by omega), es, clS, if_pos rfl]
            rw [m2 (by omega)] at body
            exact body
      · rintro ⟨a, t⟩ ⟨c1, c2, c3, c4, c5⟩ f
        dsimp only at c1 c2 c3 c4 c5
        subst c1
        dsimp only
        rw [f_C_rest_34.eq_2, hA]
        cases hf : fnd with
        | true =>
          obtain ⟨g1, g2, g3, g4⟩ := f1 hf
          have ho : ovr (z1 z) (rr J) = false := (ove J).trans g2
          have es : f_A_isAsSaved n (nI (J % 2)) t = some (1, t) := by
            rw [qA_isAsSaved hn c2 (c4 g3) (show wok (z1 z) (rr J) from rok J) (show wok (z1 z) (rr (J - 2)) from rok _) (by omega), show sameW (z1 z) (rr (J - 2)) (rr J) = true from (sme J).trans g4]
            rfl
          rw [if_neg (show ¬ (100 : Int32) < nI J from nI_nlt (a := 100) (by omega) (by decide)), qA_o0 hn c2 ho, clS, if_pos rfl, mb_jn, if_neg (show ¬ nI J < (2 : Int32) from nI_nlt (b := 2) (by omega) (by omega)), dvN (by decide), m2 (by omega), es, clS, if_neg (by decide), if_pos rfl]
        | false =>
          rw [if_neg (show ¬ (false = true) by decide)]
          rcases f0 hf with c | ⟨c, d⟩
          · rw [c, if_pos (show (100 : Int32) < nI 101 by decide)]
          · have ho : ovr (z1 z) (rr J) = true := (ove J).trans d
            rw [if_neg (show ¬ (100 : Int32) < nI J from nI_nlt (a := 100) (by omega) (by decide)), qA_o1 hn c2 ho, clS, if_neg (by decide)]
    obtain ⟨t, Ft, et⟩ := LC
    have Mt := HMfk (CavM H) Ft (by decide) (by decide)
    obtain ⟨a, a1, a2, a3, a4⟩ := pM_putAside hn Mt
    obtain ⟨b, b1, b2, b3, b4, -⟩ := pM_setP (k := 0) hn a3 (by decide)
    have eb : b.1 200 10 = law := by rw [b2.1 200 10 (by decide), a2.1 200 10 (by decide), Ft.1 200 10 (by decide)]; exact H.2.2.2.2.2.2.1 (by omega)
    have eA : (if fnd = true ∧ (if fnd = true then J else min J 100) = J then nI J else -9 : Int32) = A := by
      rw [hA]
      cases fnd <;> simp
    have LM : ∃ o, HM z w o ∧ Fk mF mA b o ∧ f_M_rest n t = some (A, o) := by
      have L := lpE (F := fun f (t : (Int32 × Int32) × mb_T) => f_M_rest_24 n (fun x_35 x_36 s_37 => mb_cw (f_M_comeBack n s_37) fun s_38 => some (x_35, s_38)) f t.1.1 t.1.2 t.2) (R := fun t => mb_cw (f_M_comeBack n t.2) fun s_38 => some (t.1.1, s_38)) (fun i (t : (Int32 × Int32) × mb_T) => t.1 = (if fnd = true ∧ i = J then nI J else -9, nI (i + 1)) ∧ (∃ o, HM z ((rr i).1, o, (rr i).2.2) t.2) ∧ HP z w t.2 ∧ PA z (rr i) (i % 3) t.2 ∧ (1 ≤ i → PA z (rr (i - 1)) ((i - 1) % 3) t.2) ∧ Fk mF mA b t.2) (if fnd = true then J else min J 100) ?_ ?_ (t0 := ((-9, 1), b)) (f := n) ⟨?_, ⟨w.2.1, by rw [rr0]; exact b3⟩, HPfr a4 b2, by rw [rr0]; exact b4, fun q => by omega, FkR⟩ ?_
      · obtain ⟨⟨⟨e1, e2⟩, u⟩, ⟨c1, ⟨o, c2⟩, c3, c4, c5, c6⟩, c7⟩ := L
        dsimp only at c1 c2 c3 c4 c5 c6 c7
        obtain ⟨o', o1, o2, o3⟩ := pM_comeBack hn c2 c3
        refine ⟨o', o3, FkT c6 (FrQ o2), ?_⟩
        unfold f_M_rest
        rw [Mt.2.1, if_neg hne, a1, cwS2, show f_M_setPast n 0 a = some b from b1, cwS2]
        refine c7.trans ?_
        rw [o1, cwS2]
        cases c1
        rw [eA]
      · rintro i hi ⟨⟨e1, e2⟩, u⟩ ⟨c1, ⟨o, c2⟩, c3, c4, c5, c6⟩
        dsimp only at c1 c2 c3 c4 c5 c6
        have hiJ : i < J := by split at hi <;> omega
        have hi100 : i < 100 := by
          cases hf : fnd with
          | true => have := f1 hf; omega
          | false => rw [hf, if_neg (by decide)] at hi; omega
        rw [if_neg (fun q => by omega)] at c1
        cases c1
        have ho : ovr z ((rr i).1, o, (rr i).2.2) = false := (ove i).trans (nov i hiJ)
        have U : HM z ((rr i).1, 2, (rr i).2.2) (sF u 200 11 2) := by
          obtain ⟨g1, g2, g3, g4, g5, g6, g7, g8, g9⟩ := c2
          exact ⟨g1, g2, rfl, g4, g5, g6, g7, g8, g9⟩
        have F2 : Fk mF mA b (sF u 200 11 2) := FkT c6 (FrQ FrF)
        have hl2 : (sF u 200 11 2).1 200 10 = law := by rw [F2.1 200 10 (by decide)]; exact eb
        have enx : nxt z law ((rr i).1, 2, (rr i).2.2) = nxt (z1 z) law (rr i) := rfl
        have hlt : nxt (z1 z) law (rr i) < zP z := nxt_lt (law := law) Z1 (show wok (z1 z) (rr i) from rok i) (show 1 ≤ zP z by omega)
        obtain ⟨e, e1, e2, e3⟩ := pM_pass hn U Z hlt
        have ew : stp z (nxt (z1 z) law (rr i)) ((rr i).1, 2, (rr i).2.2) = ((rr (i + 1)).1, burn z 2, (rr (i + 1)).2.2) := by
          have l1 : lit z 2 = true := by unfold lit; simp
          have l2 : lit (z1 z) (rr i).2.1 = true := by
            have : zE (z1 z) = 1 := rfl
            unfold lit; rw [this]; simp
          rw [rrs]
          unfold stp
          rw [l2]
          show (nf z (lit z 2) _ _, burn z 2, _, _) = _
          rw [l1]
          rfl
        rw [ew] at e3
        have Pu : HP z w e := HPfr (HPfr c3 FrF) e2
        have P0 : PA z (rr i) (i % 3) e := PA_fr (PA_fr c4 FrF) e2
        have P1 : 1 ≤ i → PA z (rr (i - 1)) ((i - 1) % 3) e := fun q => PA_fr (PA_fr (c5 q) FrF) e2
        have Fe : Fk mF mA b e := FkT F2 (FrQ e2)
        obtain ⟨v, v1, v2, v3, v4, v5⟩ := pM_setP (k := i + 1) hn e3 (by omega)
        have P0v : PA z (rr i) (i % 3) v := by
          have hd1 : i % 3 < 3 := Nat.mod_lt _ (by decide)
          have hd2 : i % 3 ≠ (i + 1) % 3 := by omega
          obtain ⟨x1, x2⟩ := P0
          exact ⟨fun x hx => by rw [v5 _ (by omega)]; exact x1 x hx, by rw [v5 _ (by omega)]; exact x2⟩
        refine ⟨((if fnd = true ∧ i + 1 = J then nI J else -9, nI (i + 2)), v), ⟨rfl, ⟨burn z 2, v3⟩, HPfr Pu v2, v4, fun _ => P0v, FkT Fe (FrQ v2)⟩, ?_⟩
        intro f
        dsimp only
        rw [f_M_rest_24.eq_2, if_neg (show ¬ (100 : Int32) < nI (i + 1) from nI_nlt (a := 100) (by omega) (by decide)), if_pos rfl, qM_o0 hn c2 ho, clS, if_pos rfl, bdS, hl2, pM_nextBy hn U Z (rok i) (rmo i (by omega)) (by omega) l2, clS, enx, e1, cwS2, mb_jn]
        have jn : ∀ B : Int32, (mb_cw (f_M_setPast n (nI (i + 1)) e) fun s_32 => f_M_rest_24 n (fun x_35 x_36 s_37 => mb_cw (f_M_comeBack n s_37) fun s_38 => some (x_35, s_38)) f B (nI (i + 1) + 1) s_32) = f_M_rest_24 n (fun x_35 x_36 s_37 => mb_cw (f_M_comeBack n s_37) fun s_38 => some (x_35, s_38)) f B (nI (i + 2)) v := by
          intro B
          rw [v1, cwS2, nI_1]
        by_cases h1 : i = 0
        · have hnJ : ¬ (fnd = true ∧ i + 1 = J) := fun q => by have := f1 q.1; omega
          rw [if_pos (show nI (i + 1) ≤ (1 : Int32) from nI_le (b := 1) (by omega) (by decide)), if_neg hnJ]
          exact jn (-9)
        · have es : f_M_isPast n (nI (i + 1) - 2) e = some ((if sm (i + 1) = true then 1 else 0 : Int32), e) := by
            have e21 : nI (i + 1) - 2 = nI (i - 1) := by
              have := nI_subN (a := i + 1) (b := 2) (by omega)
              rw [show i + 1 - 2 = i - 1 by omega] at this
              exact this
            have := pM_isP (k := i - 1) hn e3 (P1 (by omega)) (show wok z ((rr (i + 1)).1, burn z 2, (rr (i + 1)).2.2) from rok (i + 1)) (rok (i - 1)) (by omega)
            rw [e21, this, ← sme (i + 1), show i + 1 - 2 = i - 1 by omega]
            rfl
          rw [if_neg (show ¬ nI (i + 1) ≤ (1 : Int32) from nI_ge (a := 1) (by omega) (by omega)), es, clS]
          cases hs : sm (i + 1) with
          | false =>
            have hnJ : ¬ (fnd = true ∧ i + 1 = J) := fun q => by
              have h9 := f1 q.1
              rw [← q.2, hs] at h9
              exact absurd h9.2.2.2 (by decide)
            rw [if_neg hnJ]
            exact jn (-9)
          | true =>
            have hJ1 : J = i + 1 := by
              rcases Nat.lt_or_ge (i + 1) J with q | q
              · have := nsm (i + 1) q (by omega)
                rw [hs] at this; cases this
              · omega
            rw [if_neg (show ¬ ((if true = true then 1 else 0 : Int32) = 0) by decide)]
            cases hv : ov (i + 1) with
            | true =>
              have hnJ : ¬ (fnd = true ∧ i + 1 = J) := fun q => by
                have h9 := f1 q.1
                rw [← q.2, hv] at h9
                exact absurd h9.2.1 (by decide)
              rw [qM_o1 hn e3 ((ove (i + 1)).trans hv), clS, if_neg hnJ]
              exact jn (-9)
            | false =>
              have hfJ : fnd = true ∧ i + 1 = J := by
                refine ⟨?_, hJ1.symm⟩
                rw [hfnd, hJ1, hv]
                simp
                omega
              rw [qM_o0 hn e3 ((ove (i + 1)).trans hv), clS, if_pos hfJ, hJ1]
              exact jn (nI (i + 1))
      · rintro ⟨⟨e1, e2⟩, u⟩ ⟨c1, ⟨o, c2⟩, c3, c4, c5, c6⟩ f
        dsimp only at c1 c2 c3 c4 c5 c6
        cases c1
        dsimp only
        rw [f_M_rest_24.eq_2, eA]
        rcases Bool.eq_false_or_eq_true fnd with hf | hf
        · obtain ⟨g1, g2, g3, g4⟩ := f1 hf
          have eAJ : A = nI J := by rw [hA, if_pos hf]
          rw [eAJ, if_neg (nI_m9 (show J < 2 ^ 31 by omega)), ite_self]
        · have eA9 : A = -9 := by rw [hA, if_neg (by rw [hf]; decide)]
          have eP : (if fnd = true then J else min J 100) = min J 100 := by rw [hf]; rfl
          rw [eP] at c2
          rw [eP, eA9]
          rcases f0 hf with c | ⟨c, d⟩
          · rw [show min J 100 = 100 by omega, if_pos (show (100 : Int32) < nI (100 + 1) by decide)]
          · by_cases c9 : J = 100
            · rw [show min J 100 = 100 by omega, if_pos (show (100 : Int32) < nI (100 + 1) by decide)]
            · have em : min J 100 = J := by omega
              rw [em] at c2
              have ho : ovr z ((rr J).1, o, (rr J).2.2) = true := (ove J).trans d
              rw [em, if_neg (show ¬ (100 : Int32) < nI (J + 1) from nI_nlt (a := 100) (by omega) (by decide)), if_pos rfl, qM_o1 hn c2 ho, clS, if_neg (by decide)]
      · rw [if_neg (fun q => by have := f1 q.1; omega)]
        rfl
      · split <;> omega
    obtain ⟨o, Mo, Fo, eo⟩ := LM
    have Fv : Fk (bgF ++ mF) cmA s o := FkT (FkT (FkT (FkI Ft) (FrQ a2)) (FrQ b2)) (FkI Fo)
    exact ⟨A, t, o, et, eo, Rel_qs R H Fv Mo (by rw [Fv.1 0 14 (by decide), Fv.1 200 2 (by decide)]; exact r4)⟩
end UD
