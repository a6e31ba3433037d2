/-! the pure part: sat in another order, in the class -/
def zo (z : zT) (r : Bool) (o : Nat → Nat) : zT := (zP z, zK z, zG z, zL z, zS z, sitB o (zP z) r, zM z, zE z)
theorem okO_x {p : Nat} {o : Nat → Nat} {r : Bool} (h : okO p o r = true) {x : Nat} (hx : x < p) : (∃ m, m < 32 ∧ sitB o p r x = nI m) ∧ o x < p ∧ pla o p x < 5 ∧ ∀ y, y < p → bt (sitB o p r x) y = bt (sitB o p r y) x ∧ bt (sitB o p r x) y = besd p r (pla o p x) (pla o p y) := by
  unfold okO at h
  rw [List.all_eq_true] at h
  have := h x (List.mem_range.mpr hx)
  simp only [Bool.and_eq_true, decide_eq_true_eq, List.all_eq_true, beq_iff_eq] at this
  obtain ⟨⟨⟨⟨a1, a2⟩, a3⟩, a4⟩, a5⟩ := this
  exact ⟨⟨_, a2, a1⟩, a3, a4, fun y hy => a5 y (List.mem_range.mpr hy)⟩
section XA
variable {s t u : mb_T} {n p a b q m i c k x y j l K d : Nat} {z : zT} {w : wT} {r : Bool} {law : Int32} {o g : Nat → Nat} {fs : List (Nat × Nat)} {as : List Nat}
theorem zo_ok (h5 : zP z ≤ 5) (ok : okO (zP z) o r = true) : zok (zo z r o) := by
  refine ⟨h5, fun x hx => (okO_x ok hx).1, fun x y hx hy => ((okO_x ok hx).2.2.2 y hy).1⟩
theorem zo_id (C : zcv r z) : zo z r id = z := by
  unfold zo
  rw [← C.1]
  rfl
theorem q_sit (hn : 200 ≤ n) (A : HA z w t) (e1 : t.1 40 1 = if r = true then 1 else 0) (hs : ∀ i, i < 5 → t.2.1 10 i = nI (o i)) (h1 : 1 ≤ zP z) (ok : okO (zP z) o r = true) : ∃ u, f_A_sit n 10 5 t = some u ∧ HA (zo z r o) w u ∧ Fr [] [53, 54] t u := by
  have h5 := A.1
  have ho : ∀ i, i < zP z → o i < zP z := fun i hi => (okO_x ok hi).2.1
  obtain ⟨G, eG⟩ : ∃ G, G = foU (fun _ => 0) (t.2.1 53) 5 := ⟨_, rfl⟩
  have G0 : ∀ x, x < 5 → G x = 0 := fun x hx => by rw [eG, foU_get, if_pos hx]
  have cw : ∀ u, (mb_cw (f_A_countCalmBeside n u) fun s_49 => some s_49) = f_A_countCalmBeside n u := by
    intro u
    unfold mb_cw
    cases f_A_countCalmBeside n u <;> rfl
  have lpS : ∀ k0 : Int32 → mb_T → Option mb_T, f_A_sit_10 n k0 10 5 n 1 (sV t 53 G) = k0 (nI (zP z - 1 + 1)) (sV t 53 (sitG o G (zP z - 1))) := by
    intro k0
    refine lp (F := fun f (t : Int32 × mb_T) => f_A_sit_10 n k0 10 5 f t.1 t.2) (fun i => (nI (i + 1), sV t 53 (sitG o G i))) (zP z - 1) ?_ ?_ n (by omega)
    · intro i hi f
      dsimp only
      have hp2 : (sV t 53 (sitG o G i)).1 40 0 = nI (zP z) := A.2.1
      have g1 : (sV t 53 (sitG o G i)).2.1 10 i = nI (o i) := hs i (by omega)
      have g2 : (sV t 53 (sitG o G i)).2.1 10 (i + 1) = nI (o (i + 1)) := hs (i + 1) (by omega)
      rw [f_A_sit_10.eq_2, hp2, if_neg (npi (by omega) (by omega)), if_neg (show ¬ (Int32.ofNat 5) ≤ nI (i + 1) from npi (p := 5) (by decide) (by omega)), nI_pred, rdI (by omega) (by decide), rdI (by omega) (by decide), g1, g2, p_seat hp2 h5 (ho i (by omega)) (ho (i + 1) (by omega)), cwS2, sVV, sV2, if_pos rfl, nI_1 (i + 1), sitG_s]
    · intro f
      dsimp only
      have hp2 : (sV t 53 (sitG o G (zP z - 1))).1 40 0 = nI (zP z) := A.2.1
      rw [f_A_sit_10.eq_2, hp2, if_pos (nI_le (by omega) (by omega))]
  have E : f_A_sit n 10 5 t = f_A_countCalmBeside n (sV t 53 (sitX o G (zP z) r)) := by
    unfold f_A_sit
    rw [p_fillI (by decide) (by omega), cwS2, ← eG, lpS, mb_jn]
    simp only [cw]
    have d1 : (sV t 53 (sitG o G (zP z - 1))).1 40 1 = (if r = true then 1 else 0) := e1
    have d0 : (sV t 53 (sitG o G (zP z - 1))).1 40 0 = nI (zP z) := A.2.1
    rw [d1, d0]
    unfold sitX
    cases r with
    | false => rw [if_neg (by decide), if_neg (fun h => by cases h.1)]
    | true =>
      rw [if_pos (by decide)]
      by_cases l : 2 < zP z
      · have hn2 : ¬ nI (zP z) ≤ 2 := npi (p := zP z) (i := 2) (by omega) l
        have hs1 : nI (zP z) - 1 = nI (zP z - 1) := by
          have := nI_pred (zP z - 1)
          rwa [show zP z - 1 + 1 = zP z by omega] at this
        have g1 : (sV t 53 (sitG o G (zP z - 1))).2.1 10 0 = nI (o 0) := hs 0 (by omega)
        have g2 : (sV t 53 (sitG o G (zP z - 1))).2.1 10 (zP z - 1) = nI (o (zP z - 1)) := hs (zP z - 1) (by omega)
        rw [if_neg hn2, if_neg (show ¬ (Int32.ofNat 5) < nI (zP z) from nI_nlt (a := 5) (by omega) (by decide)), if_pos ⟨rfl, l⟩, hs1, show (0 : Int32) = nI 0 from rfl, rdI (by omega) (by decide), rdI (by omega) (by decide), g1, g2, p_seat d0 h5 (ho 0 (by omega)) (ho (zP z - 1) (by omega)), cwS2, sVV, sV2, if_pos rfl]
      · have hn2 : nI (zP z) ≤ 2 := nI_le (a := zP z) (b := 2) (by omega) (by decide)
        rw [if_pos hn2, if_neg (fun h => l h.2)]
  have d0 : (sV t 53 (sitX o G (zP z) r)).1 40 0 = nI (zP z) := A.2.1
  rw [E, p_countCalm hn h5 d0]
  obtain ⟨h5', hp, hoil, he, hmi, hl, hz, hx⟩ := A
  refine ⟨_, rfl, ⟨h5', hp, hoil, he, hmi, hl, hz, fun x hxp => ?_⟩, FrT (FrV (q := 53)) (FrV (q := 54))⟩
  have hxp : x < zP z := hxp
  obtain ⟨x1, x2, x3, x4, x5, x6, x7⟩ := hx x hxp
  have bs : ∀ x, x < zP z → sitX o G (zP z) r x = sitB o (zP z) r x := fun x hxp => sitX_c G0 (fun i hi => by have := ho i (by omega); omega) x (by omega)
  obtain ⟨mm, mm1, mm2⟩ := (okO_x ok hxp).1
  refine ⟨x1, x2, x3, x4, x5, bs x hxp, ?_⟩
  rw [calmN_e (z := zo z r o) h5' mm1 mm2]
  show foU (fun x => bcI (sitX o G (zP z) r x &&& mkB (fun y => calmK (t.2.1 47 y)) (zP z))) _ (zP z) x = bcI (sitB o (zP z) r x &&& mkB (fun y => calmK (zK z y)) (zP z))
  rw [foU_get, if_pos hxp, bs x hxp, mkB_c (fun i hi => by rw [(hx i hi).1])]
theorem pC_has (hn : 200 ≤ n) (H : Cav r z w law s) (Ft : Fk fs as s t) (h1 : 1 ≤ zP z) (hs : ∀ i, i < 5 → t.2.1 10 i = nI (o i)) (ok : okO (zP z) o r = true) (hf : (∀ k, k < 5 → (100, k) ∉ fs) := by decide) (ha : (∀ q, q < 11 → (100 + q) ∉ as) := by decide) : ∃ u, f_C_holdingAsSeated n t = some (hol (zo z r o) law w 100, u) ∧ Fk bgF aA t u := by
  have h5 := Cav5 H
  obtain ⟨a, a1, a2, a3, a4⟩ := q_begin hn (HVfk (CavV H) Ft hf ha) H.1
  obtain ⟨b, b1, b2, b3⟩ := q_sit hn a3 a4 (fun i hi => by rw [a2.2.1 10 (by decide)]; exact hs i hi) h1 ok
  obtain ⟨c, c1, c2, c3⟩ := qA_howLong (m := 100) hn b2 (zo_ok h5 ok) (show wok z w from CavW H) h1 (CavL H).2 (by decide)
  have el : b.1 100 2 = law := by rw [b3.1 100 2 (by decide), a2.1 100 2 (by decide), Ft.1 100 2 (hf 2 (by decide))]; exact (CavL H).1
  refine ⟨c, ?_, FkT (FkT (FrQ a2) (FrQ b3)) (FrQ c2)⟩
  unfold f_C_holdingAsSeated
  rw [a1, cwS2, b1, cwS2, el, show f_A_howLong n law 100 b = some (hol (zo z r o) law w 100, c) from c1, clS]
theorem pC_exch (ha : a < 5) (hb : b < 5) (hs : ∀ i, i < 5 → s.2.1 10 i = nI (g i)) : ∃ u, f_C_exchangeSeats n (nI a) (nI b) s = some u ∧ (∀ i, i < 5 → u.2.1 10 i = nI (xc g a b i)) ∧ Fr [] [10] s u := by
  refine ⟨sA (sA s 10 a (s.2.1 10 b)) 10 b (s.2.1 10 a), ?_, fun i hi => ?_, FrT (FrA (q := 10)) (FrA (q := 10))⟩
  · unfold f_C_exchangeSeats
    rw [rdI ha (by decide), rdI hb (by decide), wrI ha (by decide), wrI hb (by decide)]
  · show upd (upd (s.2.1 10) a (s.2.1 10 b)) b (s.2.1 10 a) i = nI (updN (updN g a (g b)) b (g a) i)
    unfold updN
    rw [updI, updI, hs a ha, hs b hb, hs i hi]
    by_cases c1 : i = b
    · rw [if_pos c1, if_pos c1]
    · rw [if_neg c1, if_neg c1]
      by_cases c2 : i = a
      · rw [if_pos c2, if_pos c2]
      · rw [if_neg c2, if_neg c2]
def Wk (k : Nat) : Int32 := if k = 0 then -1 else nI (k - 1)
theorem Wk_d : ∀ k, k < 6 → (1 ≤ k → nI k - 2 = Wk (k - 1)) ∧ nI k + (-1) = Wk k ∧ (1 ≤ k → nI k + (-1) = nI (k - 1)) := by decide +kernel
theorem ns_10 (hs : ∀ i, i < 5 → s.2.1 10 i = nI (g i)) (hg : ∀ i, i < 5 → g i < 5) {k0 : Int32 → mb_T → Option (Int32 × mb_T)} : ∀ (k f : Nat), k < 5 → k < f → f_C_nextSeating_10 n k0 f (Wk k) s = k0 (match rsO g k with | none => -1 | some i => nI i) s := by
  intro k
  induction k with
  | zero =>
    intro f _ hf
    obtain ⟨f, rfl⟩ : ∃ e, f = e + 1 := ⟨f - 1, by omega⟩
    rw [f_C_nextSeating_10.eq_2, if_pos (by decide)]
    rfl
  | succ k ih =>
    intro f hk hf
    obtain ⟨f, rfl⟩ : ∃ e, f = e + 1 := ⟨f - 1, by omega⟩
    have eW : Wk (k + 1) = nI k := by unfold Wk; rw [if_neg (by omega)]; rfl
    have g1 := hg k (by omega)
    have g2 := hg (k + 1) (by omega)
    rw [eW, f_C_nextSeating_10.eq_2, if_neg (nI_pos (by omega)), rdI (by omega) (by decide), nI_1, rdI (by omega) (by decide), hs k (by omega), hs (k + 1) (by omega)]
    simp only [nI_leI (show g k < 2 ^ 31 by omega) (show g (k + 1) < 2 ^ 31 by omega)]
    unfold rsO
    by_cases c : g k ≤ g (k + 1)
    · rw [if_pos c, if_pos c]
    · rw [if_neg c, if_neg c, (Wk_d k (by omega)).2.1]
      exact ih f (by omega) (by omega)
theorem ns_53 (hs : ∀ i, i < 5 → s.2.1 10 i = nI (g i)) (hg : ∀ i, i < 5 → g i < 5) (hi : i < 5) {k0 : Int32 → mb_T → Option (Int32 × mb_T)} : ∀ (k f : Nat), k < 5 → k < f → f_C_nextSeating_53 n k0 (nI i) f (nI k) s = k0 (nI (grO g i k)) s := by
  intro k
  induction k with
  | zero =>
    intro f _ hf
    obtain ⟨f, rfl⟩ : ∃ e, f = e + 1 := ⟨f - 1, by omega⟩
    rw [f_C_nextSeating_53.eq_2, if_pos (nI_le (by omega) (by omega))]
    rfl
  | succ k ih =>
    intro f hk hf
    obtain ⟨f, rfl⟩ : ∃ e, f = e + 1 := ⟨f - 1, by omega⟩
    have g1 := hg i hi
    have g2 := hg (k + 1) (by omega)
    rw [f_C_nextSeating_53.eq_2, rdI (by omega) (by decide), rdI hi (by decide), hs i hi, hs (k + 1) (by omega)]
    simp only [nI_leI (show k + 1 < 2 ^ 31 by omega) (show i < 2 ^ 31 by omega), nI_leI (show g i < 2 ^ 31 by omega) (show g (k + 1) < 2 ^ 31 by omega)]
    unfold grO
    by_cases c : k + 1 ≤ i
    · rw [if_pos c, if_pos c]
    · rw [if_neg c, if_neg c]
      by_cases d : g i ≤ g (k + 1)
      · rw [if_pos d, if_pos d]
      · rw [if_neg d, if_neg d, (Wk_d (k + 1) (by omega)).2.2 (by omega)]
        exact ih f (by omega) (by omega)
theorem ns_100 : ∀ (F a b : Nat) (g : Nat → Nat) (s : mb_T) (f : Nat), b < 5 → a < 6 → b ≤ a + 2 * F → F < f → (∀ i, i < 5 → s.2.1 10 i = nI (g i)) → ∃ u, f_C_nextSeating_100 n (fun x_27 x_28 s_29 => some (1, s_29)) f (nI b) (nI a) s = some (1, u) ∧ (∀ i, i < 5 → u.2.1 10 i = nI (rvO F a b g i)) ∧ Fr [] [10] s u := by
  intro F
  induction F with
  | zero =>
    intro a b g s f hb ha hab hf hs
    obtain ⟨f, rfl⟩ : ∃ e, f = e + 1 := ⟨f - 1, by omega⟩
    refine ⟨s, ?_, hs, FrR⟩
    rw [f_C_nextSeating_100.eq_2, if_pos (nI_le (by omega) (by omega))]
  | succ F ih =>
    intro a b g s f hb ha hab hf hs
    obtain ⟨f, rfl⟩ : ∃ e, f = e + 1 := ⟨f - 1, by omega⟩
    unfold rvO
    by_cases c : b ≤ a
    · rw [if_pos c]
      refine ⟨s, ?_, hs, FrR⟩
      rw [f_C_nextSeating_100.eq_2, if_pos (nI_le c (by omega))]
    · rw [if_neg c]
      obtain ⟨v, v1, v2, v3⟩ := pC_exch (n := n) (show a < 5 by omega) hb hs
      obtain ⟨u, u1, u2, u3⟩ := ih (a + 1) (b - 1) (xc g a b) v f (by omega) (by omega) (by omega) (by omega) v2
      refine ⟨u, ?_, u2, FrT v3 u3⟩
      rw [f_C_nextSeating_100.eq_2, if_neg (npi (by omega) (by omega)), v1, cwS2, (Wk_d b (by omega)).2.2 (by omega), nI_1]
      exact u1
theorem grO_le {i : Nat} : ∀ {k : Nat}, grO g i k ≤ k
  | 0 => Nat.le_refl _
  | k + 1 => by
    unfold grO
    split
    · omega
    · split
      · omega
      · have := @grO_le i k
        omega
theorem rsO_lt {i : Nat} : ∀ {k : Nat}, rsO g k = some i → i < k
  | 0, h => by cases h
  | k + 1, h => by
    unfold rsO at h
    split at h
    · cases h; omega
    · have := rsO_lt h
      omega
theorem pC_ns (hn : 200 ≤ n) (hp : s.1 100 0 = nI p) (h5 : p ≤ 5) (h1 : 1 ≤ p) (hs : ∀ i, i < 5 → s.2.1 10 i = nI (g i)) (hg : ∀ i, i < 5 → g i < 5) : (nxO p g = none → f_C_nextSeating n s = some (0, s)) ∧ (∀ g', nxO p g = some g' → ∃ u, f_C_nextSeating n s = some (1, u) ∧ (∀ i, i < 5 → u.2.1 10 i = nI (g' i)) ∧ Fr [] [10] s u) := by
  have eW := (Wk_d p (by omega)).1 h1
  have hs1 : nI p - 1 = nI (p - 1) := by
    have := nI_pred (p - 1)
    rwa [show p - 1 + 1 = p by omega] at this
  unfold f_C_nextSeating nxO
  rw [hp, eW, ns_10 hs hg (p - 1) n (by omega) (by omega)]
  cases hr : rsO g (p - 1) with
  | none =>
    refine ⟨fun _ => ?_, fun g' h => by cases h⟩
    dsimp only
    rw [if_neg (by decide)]
  | some i =>
    refine And.intro (fun q => ?_) (fun g' q => ?_)
    · exact absurd q (by simp)
    have hip := rsO_lt hr
    have hgl := @grO_le g i (p - 1)
    have eg : g' = rvO 5 (i + 1) (p - 1) (xc g i (grO g i (p - 1))) := (Option.some.inj q).symm
    dsimp only
    rw [if_pos (nI_pos' (by omega)), hp, hs1, ns_53 hs hg (by omega) (p - 1) n (by omega) (by omega)]
    obtain ⟨v, v1, v2, v3⟩ := pC_exch (n := n) (a := i) (b := grO g i (p - 1)) (by omega) (by omega) hs
    obtain ⟨u, u1, u2, u3⟩ := ns_100 (n := n) 5 (i + 1) (p - 1) _ v n (by omega) (by omega) (by omega) (by omega) v2
    refine ⟨u, ?_, by rw [eg]; exact u2, FrT v3 u3⟩
    rw [v1, cwS2, v3.1 100 0 (by simp), hp, hs1, nI_1]
    exact u1
end XA
