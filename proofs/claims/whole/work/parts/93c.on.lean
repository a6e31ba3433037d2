/-! the pure part: all orders, in the model -/
def vsB (h : List Nat → Int32) (B : Option (Int32 × List Nat)) (l : List Nat) : Option (Int32 × List Nat) := match B with
  | none => some (h l, l)
  | some (mo, lb) => if lng (h l) mo = true then some (h l, l) else some (mo, lb)
def oB (p : Nat) (B : Option (Int32 × List Nat)) (s : mb_T) : Prop := match B with
  | none => s.1 200 42 = 0
  | some (mo, lb) => s.1 200 42 = 1 ∧ s.1 200 41 = mo ∧ HO mo ∧ ∀ i, i < p → s.2.1 240 i = nI (loo lb i)
abbrev oF : List (Nat × Nat) := [(200, 11), (200, 24), (200, 25), (200, 31), (200, 41), (200, 42)]
abbrev oA : List Nat := [213, 223, 228, 230, 239, 240]
def oI (z : zT) (w : wT) (s t : mb_T) : Prop := HM z w t ∧ (∀ x, x < 5 → t.2.1 223 x = nI x) ∧ Fr oF oA s t
theorem clr_d : ∀ m, m < 32 → ∀ x, x < 5 → (nI m &&& ((1 <<< (nI x &&& 31)) ^^^ (-1)) : Int32) = nI (nI m &&& ((1 <<< (nI x &&& 31)) ^^^ (-1)) : Int32).toNatClampNeg ∧ (nI m &&& ((1 <<< (nI x &&& 31)) ^^^ (-1)) : Int32).toNatClampNeg < 32 ∧ ∀ y, y < 5 → bt (nI (nI m &&& ((1 <<< (nI x &&& 31)) ^^^ (-1)) : Int32).toNatClampNeg) y = (bt (nI m) y && !(y == x)) := by decide +kernel
theorem all_d : ∀ p, p < 6 → ((1 <<< (nI p &&& 31)) - 1 : Int32) = nI (2 ^ p - 1) ∧ 2 ^ p - 1 < 32 ∧ ∀ x, x < p → bt (nI (2 ^ p - 1)) x = true := by decide +kernel
theorem loo_l {pre : List Nat} {x i : Nat} (h : i < pre.length) : loo (pre ++ [x]) i = loo pre i := by
  unfold loo
  rw [List.getD_eq_getElem?_getD, List.getD_eq_getElem?_getD, List.getElem?_append_left h]
theorem loo_r {pre : List Nat} {x : Nat} : loo (pre ++ [x]) pre.length = x := by
  unfold loo
  rw [List.getD_eq_getElem?_getD, List.getElem?_append_right (Nat.le_refl _)]
  simp
section XC
variable {s t u : mb_T} {n p a b q m i c k x y j l K d : Nat} {z : zT} {w : wT} {r : Bool} {law : Int32} {o o1 o2 g : Nat → Nat} {fs : List (Nat × Nat)} {as : List Nat}
def hO (z : zT) (r : Bool) (law : Int32) (w : wT) (l : List Nat) : Int32 := hol (zo z r (loo l)) law w 100
theorem hO_o {l : List Nat} : HO (hO z r law w l) := hol_o (by decide)
theorem pM_o47 (hn : 200 ≤ n) (hp : s.1 200 8 = nI p) (h5 : p ≤ 5) : ∃ u, f_M_orderOn_47 n (fun x_38 s_39 => some s_39) n 0 s = some u ∧ Fr [] [240] s u ∧ ∀ i, i < p → u.2.1 240 i = s.2.1 239 i := by
  have L := lpE (F := fun f (t : Int32 × mb_T) => f_M_orderOn_47 n (fun x_38 s_39 => some s_39) f t.1 t.2) (R := fun t => some t.2) (fun i (t : Int32 × mb_T) => t.1 = nI i ∧ Fr [] [240] s t.2 ∧ ∀ x, x < i → t.2.2.1 240 x = s.2.1 239 x) p ?_ ?_ (t0 := (0, s)) (f := n) ⟨rfl, FrR, fun x hx => by omega⟩ (by omega)
  · obtain ⟨⟨e, c⟩, ⟨q1, q2, q3⟩, q4⟩ := L
    exact ⟨c, q4, q2, q3⟩
  · rintro i hi ⟨e, t⟩ ⟨q1, q2, q3⟩
    dsimp only at q1 q2 q3
    subst q1
    refine ⟨(nI (i + 1), sA t 240 i (s.2.1 239 i)), ⟨rfl, FrT q2 (FrA (q := 240)), fun x hx => ?_⟩, fun f => ?_⟩
    · show upd (t.2.1 240) i (s.2.1 239 i) x = s.2.1 239 x
      rw [updI]
      by_cases e : x = i
      · rw [if_pos e, e]
      · rw [if_neg e]; exact q3 x (by omega)
    · dsimp only
      rw [f_M_orderOn_47.eq_2, q2.1 200 8 (by simp), hp, if_neg (npi (by omega) hi), rdI (by omega) (by decide), q2.2.1 239 (by decide), wrI (by omega) (by decide), nI_1]
  · rintro ⟨e, t⟩ ⟨q1, q2, q3⟩ f
    dsimp only at q1 q2 q3
    subst q1
    dsimp only
    rw [f_M_orderOn_47.eq_2, q2.1 200 8 (by simp), hp, if_pos npp]
theorem pM_oo (hn : 200 ≤ n) (H : Cav r z w law s) (h1 : 1 ≤ zP z) : ∀ (d q : Nat) (pre : List Nat) (B : Option (Int32 × List Nat)) (t : mb_T) (lm : Nat), pre.length + d = zP z → d < q → (∀ i, i < pre.length → t.2.1 239 i = nI (loo pre i)) → (∀ x, x < zP z → bt (nI lm) x = !pre.contains x) → lm < 32 → (∀ l ∈ pmF (zP z) d pre, okO (zP z) (loo l) r = true) → oB (zP z) B t → oI z w s t → s.1 200 10 = law → s.1 200 9 = (if r = true then 1 else 0) → ∃ u, f_M_orderOn n q (nI pre.length) (nI lm) t = some u ∧ oI z w s u ∧ oB (zP z) (List.foldl (vsB (hO z r law w)) B (pmF (zP z) d pre)) u ∧ ∀ i, i < pre.length → u.2.1 239 i = nI (loo pre i) := by
  have h5 := Cav5 H
  intro d
  induction d with
  | zero =>
    intro q pre B t lm hd hq h39 hbt hlm ok hB I e10 e9
    obtain ⟨q, rfl⟩ : ∃ e, q = e + 1 := ⟨q - 1, by omega⟩
    obtain ⟨I1, I2, I3⟩ := I
    have hl : pre.length = zP z := by omega
    obtain ⟨v, v1, v2, v3, v4⟩ := pM_hso (o := loo pre) hn I1 H.1 (by rw [I3.1 200 9 (by decide)]; exact e9) (by rw [I3.1 200 10 (by decide)]; exact e10) I2 (fun k hk => h39 k (by omega)) (ok pre (List.mem_singleton.mpr rfl)) h1 (CavW H) (CavO H) (CavL H).2
    have v1 : f_M_holdsSo n t = some (hO z r law w pre, v) := v1
    obtain ⟨y, y1, y2, y3⟩ := pM_o47 (n := n) (s := sF (sF v 200 42 1) 200 41 (hO z r law w pre)) (p := zP z) hn v2.2.1 h5
    have Fy : Fr [(200, 41), (200, 42)] [240] v y := FrT (FrT (FrF (i := 200) (k := 42)) (FrF (i := 200) (k := 41)) (ks := [(200, 41), (200, 42)]) (cs := [])) y2
    have v39 : v.2.1 239 = t.2.1 239 := v4.2.1 239 (by decide)
    have v42 : v.1 200 42 = t.1 200 42 := v4.1 200 42 (by decide)
    have v41 : v.1 200 41 = t.1 200 41 := v4.1 200 41 (by decide)
    have Iv : oI z w s v := ⟨v2, v3, FrT I3 v4⟩
    have Iy : oI z w s y := ⟨HMfr v2 Fy, fun x hx => by rw [Fy.2.1 223 (by decide)]; exact v3 x hx, FrT (FrT I3 v4 (ks := oF) (cs := oA)) Fy⟩
    have By : oB (zP z) (some (hO z r law w pre, pre)) y := ⟨by rw [y2.1 200 42 (by simp)]; rfl, by rw [y2.1 200 41 (by simp)]; rfl, hO_o, fun i hi => by rw [y3 i hi]; show v.2.1 239 i = _; rw [v39]; exact h39 i (by omega)⟩
    have y39 : ∀ i, i < pre.length → y.2.1 239 i = nI (loo pre i) := fun i hi => by rw [Fy.2.1 239 (by decide), v39]; exact h39 i hi
    show ∃ u, f_M_orderOn_b n (f_M_orderOn n q) (nI pre.length) (nI lm) t = some u ∧ oI z w s u ∧ oB (zP z) (vsB (hO z r law w) B pre) u ∧ ∀ i, i < pre.length → u.2.1 239 i = nI (loo pre i)
    unfold f_M_orderOn_b
    rw [I1.2.1, hl, if_pos rfl, v1, clS, v42]
    simp only [mb_jn, bdS]
    rw [← hl]
    cases B with
    | none =>
      have hB : t.1 200 42 = 0 := hB
      refine ⟨y, ?_, Iy, hl ▸ By, y39⟩
      rw [hB, if_pos rfl]
      exact y1
    | some B =>
      obtain ⟨mo, lb⟩ := B
      obtain ⟨g1, g2, g3, g4⟩ : t.1 200 42 = 1 ∧ t.1 200 41 = mo ∧ HO mo ∧ ∀ i, i < zP z → t.2.1 240 i = nI (loo lb i) := hB
      rw [g1, if_neg (by decide), pM_lb, clS, v41, g2, pM_lb, clS]
      simp only [lng_m (hO_o (z := z) (r := r) (law := law) (w := w) (l := pre)) g3]
      unfold vsB
      dsimp only
      by_cases hL : lng (hO z r law w pre) mo = true
      · rw [if_pos hL]
        refine ⟨y, ?_, Iy, hl ▸ By, y39⟩
        rw [hL, if_neg (by decide)]
        exact y1
      · rw [if_neg hL]
        refine ⟨v, ?_, Iv, ?_, fun i hi => by rw [v39]; exact h39 i hi⟩
        · rw [if_pos (by simpa using hL)]
        · exact ⟨by rw [v42]; exact g1, by rw [v41]; exact g2, g3, fun i hi => by rw [v4.2.1 240 (by decide)]; exact g4 i (by omega)⟩
  | succ d ih =>
    intro q pre B t lm hd hq h39 hbt hlm ok hB I e10 e9
    obtain ⟨q, rfl⟩ : ∃ e, q = e + 1 := ⟨q - 1, by omega⟩
    have hne : ¬ nI pre.length = nI (zP z) := by
      rw [nI_eq (by omega) (by omega)]; omega
    obtain ⟨fl, hfl⟩ : ∃ fl : Nat → List (List Nat), fl = fun x => if pre.contains x then [] else pmF (zP z) d (pre ++ [x]) := ⟨_, rfl⟩
    have ef : pmF (zP z) (d + 1) pre = (List.range (zP z)).flatMap fl := by rw [hfl]; rfl
    rw [ef] at ok ⊢
    show ∃ u, f_M_orderOn_b n (f_M_orderOn n q) (nI pre.length) (nI lm) t = some u ∧ oI z w s u ∧ oB (zP z) (List.foldl (vsB (hO z r law w)) B ((List.range (zP z)).flatMap fl)) u ∧ ∀ i, i < pre.length → u.2.1 239 i = nI (loo pre i)
    unfold f_M_orderOn_b
    rw [I.1.2.1, if_neg hne]
    have L := lpE (F := fun f (t : Int32 × mb_T) => f_M_orderOn_79 n (f_M_orderOn n q) (fun x_12 s_13 => some s_13) (nI pre.length) (nI lm) f t.1 t.2) (R := fun t => some t.2) (fun i (t : Int32 × mb_T) => t.1 = nI i ∧ oI z w s t.2 ∧ oB (zP z) (List.foldl (vsB (hO z r law w)) B ((List.range i).flatMap fl)) t.2 ∧ ∀ i, i < pre.length → t.2.2.1 239 i = nI (loo pre i)) (zP z) ?_ ?_ (t0 := (0, t)) (f := n) ⟨rfl, I, hB, h39⟩ (by omega)
    · obtain ⟨⟨e, c⟩, ⟨q1, q2, q3, q5⟩, q4⟩ := L
      exact ⟨c, q4, q2, q3, q5⟩
    · rintro x hx ⟨e, t⟩ ⟨q1, q2, q3, q5⟩
      dsimp only at q1 q2 q3 q5
      subst q1
      have hb := hbt x hx
      cases hc : pre.contains x with
      | true =>
        rw [hc] at hb
        refine ⟨(nI (x + 1), t), ⟨rfl, q2, ?_, q5⟩, fun f => ?_⟩
        · have : fl x = [] := by rw [hfl]; dsimp only; rw [hc, if_pos rfl]
          rw [List.range_succ, List.flatMap_append, List.flatMap_singleton, this, List.append_nil]
          exact q3
        · dsimp only
          rw [f_M_orderOn_79.eq_2, q2.1.2.1, if_neg (npi (by omega) hx), pM_has, clS, hb, nI_1]
          rfl
      | false =>
        rw [hc] at hb
        have efx : fl x = pmF (zP z) d (pre ++ [x]) := by rw [hfl]; dsimp only; rw [hc, if_neg (by decide)]
        obtain ⟨c1, c2, c3⟩ := clr_d lm hlm x (by omega)
        generalize hm' : (nI lm &&& ((1 <<< (nI x &&& 31)) ^^^ (-1)) : Int32).toNatClampNeg = lm' at c1 c2 c3
        have Ft : Fr [] [239] t (sA t 239 pre.length (nI x)) := FrA
        have V := ih q (pre ++ [x]) (List.foldl (vsB (hO z r law w)) B ((List.range x).flatMap fl)) (sA t 239 pre.length (nI x)) lm' (by simp; omega) (by omega) ?_ ?_ c2 ?_ ?_ ?_ e10 e9
        · obtain ⟨v, v1, v2, v3, v4⟩ := V
          refine ⟨(nI (x + 1), v), ⟨rfl, v2, ?_, fun i hi => ?_⟩, fun f => ?_⟩
          · rw [List.range_succ, List.flatMap_append, List.flatMap_singleton, efx, List.foldl_append]
            exact v3
          · have := v4 i (by simp; omega)
            rw [loo_l hi] at this
            exact this
          · dsimp only
            rw [f_M_orderOn_79.eq_2, q2.1.2.1, if_neg (npi (by omega) hx), pM_has, clS, hb, if_neg (by decide), wrI (by omega) (by decide), nI_1, c1]
            rw [show (pre ++ [x]).length = pre.length + 1 by simp] at v1
            rw [v1, cwS2, nI_1]
        · intro i hi
          show upd (t.2.1 239) pre.length (nI x) i = _
          rw [updI]
          by_cases e : i = pre.length
          · rw [if_pos e, e, loo_r]
          · have hi : i < pre.length + 1 := by simpa using hi
            rw [if_neg e, loo_l (by omega)]; exact q5 i (by omega)
        · intro y hy
          rw [c3 y (by omega), hbt y hy]
          simp [Bool.not_or]
          rfl
        · intro l hl
          exact ok l (List.mem_flatMap.mpr ⟨x, List.mem_range.mpr hx, by rw [efx]; exact hl⟩)
        · cases hB2 : List.foldl (vsB (hO z r law w)) B ((List.range x).flatMap fl) with
          | none => rw [hB2] at q3; exact q3
          | some b => rw [hB2] at q3; exact q3
        · exact ⟨HMfr q2.1 Ft, q2.2.1, FrT q2.2.2 Ft⟩
    · rintro ⟨e, t⟩ ⟨q1, q2, q3, q5⟩ f
      dsimp only at q1 q2 q3 q5
      subst q1
      dsimp only
      rw [f_M_orderOn_79.eq_2, q2.1.2.1, if_pos npp]
end XC
