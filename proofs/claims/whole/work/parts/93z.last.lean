/-! the pure part: two who change seats -/
def swS (h : Nat → Nat → Int32) (a i : Nat) (B : Int32 × Int32) : Int32 × Int32 := if lng (h a (a + 1 + i)) B.1 = true then (h a (a + 1 + i), nI (10 * a + (a + 1 + i))) else B
def swO (h : Nat → Nat → Int32) (p a : Nat) (B : Int32 × Int32) : Int32 × Int32 := fo (swS h a) B (p - (a + 1))
abbrev sO : List Nat := [213, 223, 228, 230, 239]
abbrev sH : List (Nat × Nat) := [(200, 11), (200, 24), (200, 25), (200, 31)]
def sI (z : zT) (w : wT) (s t : mb_T) : Prop := HM z w t ∧ (∀ x, x < 5 → t.2.1 223 x = nI x) ∧ Fr sH sO s t
section XE
variable {s t u : mb_T} {n p a b q m i c k x y j K d : Nat} {z : zT} {w : wT} {r : Bool} {law X : Int32} {o o1 o2 g : Nat → Nat} {fs : List (Nat × Nat)} {as : List Nat}
theorem xc_1 (h : ¬ a = b) : xc (fun x => x) a b i = swp a b i := by
  unfold xc updN swp
  by_cases c1 : i = a
  · by_cases c2 : i = b
    · exact absurd (c1.symm.trans c2) h
    · rw [if_neg c2, if_pos c1, if_pos c1]
  · rw [if_neg c1, if_neg c1]
theorem xc_2 (h : ¬ a = b) : xc (swp a b) a b i = i := by
  have e1 : swp a b b = a := by unfold swp; rw [if_neg (fun e => h e.symm), if_pos rfl]
  have e2 : swp a b a = b := by unfold swp; rw [if_pos rfl]
  unfold xc updN
  rw [e1, e2]
  by_cases c2 : i = b
  · rw [if_pos c2, c2]
  · rw [if_neg c2]
    by_cases c1 : i = a
    · rw [if_pos c1, c1]
    · rw [if_neg c1]
      unfold swp
      rw [if_neg c1, if_neg c2]
def hS (z : zT) (r : Bool) (law : Int32) (w : wT) (a b : Nat) : Int32 := hol (zo z r (swp a b)) law w 100
theorem hS_o : HO (hS z r law w a b) := hol_o (by decide)
theorem nI_ab : (10 : Int32) * nI a + nI b = nI (10 * a + b) := by
  rw [show (10 : Int32) = nI 10 from rfl, nI_mul, nI_add]
theorem pC_s43 (hn : 200 ≤ n) (H : Cav r z w law s) (h1 : 1 ≤ zP z) (ha : a < zP z) {B : Int32 × Int32} (h10 : ∀ i, i < 5 → t.2.1 10 i = nI i) (F : Fk bgF dA s t) : ∃ u, (∀ k0 : Int32 → Int32 → Int32 → mb_T → Option (Int32 × mb_T), f_C_swap_43 n k0 (nI a) n B.1 B.2 (nI (a + 1)) t = k0 (swO (hS z r law w) (zP z) a B).1 (swO (hS z r law w) (zP z) a B).2 (nI (zP z)) u) ∧ (∀ i, i < 5 → u.2.1 10 i = nI i) ∧ Fk bgF dA s u := by
  have h5 := Cav5 H
  have L := lpK (F := fun (k0 : Int32 → Int32 → Int32 → mb_T → Option (Int32 × mb_T)) f (t : (Int32 × Int32) × Int32 × mb_T) => f_C_swap_43 n k0 (nI a) f t.1.1 t.1.2 t.2.1 t.2.2) (R := fun k0 t => k0 t.1.1 t.1.2 t.2.1 t.2.2) (fun i (t : (Int32 × Int32) × Int32 × mb_T) => t.1 = fo (swS (hS z r law w) a) B i ∧ t.2.1 = nI (a + 1 + i) ∧ (∀ i, i < 5 → t.2.2.2.1 10 i = nI i) ∧ Fk bgF dA s t.2.2) (zP z - (a + 1)) ?_ ?_ (t0 := (B, nI (a + 1), t)) (f := n) ⟨rfl, rfl, h10, F⟩ (by omega)
  · obtain ⟨⟨e, e', c⟩, ⟨q1, q2, q3, q4⟩, q5⟩ := L
    dsimp only at q1 q2 q3 q4 q5
    subst q1 q2
    refine ⟨c, fun k0 => ?_, q3, q4⟩
    rw [q5 k0, show a + 1 + (zP z - (a + 1)) = zP z by omega]
    rfl
  · rintro i hi ⟨e, e', t⟩ ⟨q1, q2, q3, q4⟩
    dsimp only at q1 q2 q3 q4
    subst q1 q2
    have hb : a + 1 + i < zP z := by omega
    have hab : ¬ a = a + 1 + i := by omega
    obtain ⟨b, hbb⟩ : ∃ b, b = a + 1 + i := ⟨_, rfl⟩
    rw [← hbb] at hb hab ⊢
    obtain ⟨v, v1, v2, v3⟩ := pC_exch (n := n) (g := fun x => x) (show a < 5 by omega) (show b < 5 by omega) q3
    have v2 : ∀ i, i < 5 → v.2.1 10 i = nI (swp a b i) := fun i hi => by rw [v2 i hi, xc_1 hab]
    have Fv : Fk bgF dA s v := FkT q4 (FrQ v3)
    obtain ⟨y, y1, y2⟩ := pC_has (o := swp a b) hn H Fv h1 v2 (okS_d (zP z) (by omega) a ha b hb r)
    have y1 : f_C_holdingAsSeated n v = some (hS z r law w a b, y) := y1
    have Fy : Fk bgF dA s y := FkT Fv (FkI y2)
    obtain ⟨d, d1, d2, d3⟩ := pC_exch (n := n) (s := y) (g := swp a b) (show a < 5 by omega) (show b < 5 by omega) (fun i hi => by rw [y2.2.1 10 (by decide)]; exact v2 i hi)
    refine ⟨(fo (swS (hS z r law w) a) B (i + 1), nI (b + 1), d), ⟨rfl, by rw [hbb]; rfl, fun i hi => by rw [d2 i hi, xc_2 hab], FkT Fy (FrQ d3)⟩, fun c f => ?_⟩
    dsimp only
    have hp : t.1 100 0 = nI (zP z) := by rw [q4.1 100 0 (by decide)]; exact (CavP H).1
    rw [f_C_swap_43.eq_2, hp, if_neg (npi (by omega) hb), v1, cwS2, y1, clS, d1, cwS2, pC_lng, clS, nI_ab, nI_1, fo_s]
    generalize fo (swS (hS z r law w) a) B i = C
    unfold swS
    rw [← hbb]
    by_cases hL : lng (hS z r law w a b) C.1 = true
    · rw [if_pos hL, if_neg (by decide), if_pos hL]
    · rw [if_neg hL, if_pos rfl, if_neg hL]
  · rintro ⟨e, e', t⟩ ⟨q1, q2, q3, q4⟩ c f
    dsimp only at q1 q2 q3 q4
    subst q1 q2
    dsimp only
    have hp : t.1 100 0 = nI (zP z) := by rw [q4.1 100 0 (by decide)]; exact (CavP H).1
    rw [f_C_swap_43.eq_2, hp, if_pos (nI_le (by omega) (by omega))]
theorem pC_s27 (hn : 200 ≤ n) (H : Cav r z w law s) (h1 : 1 ≤ zP z) {B : Int32 × Int32} (h10 : ∀ i, i < 5 → t.2.1 10 i = nI i) (F : Fk bgF dA s t) {k0 : Int32 → Int32 → Int32 → mb_T → Option (Int32 × mb_T)} : ∃ u, f_C_swap_27 n k0 n B.1 B.2 0 t = k0 (fo (swO (hS z r law w) (zP z)) B (zP z)).1 (fo (swO (hS z r law w) (zP z)) B (zP z)).2 (nI (zP z)) u ∧ Fk bgF dA s u := by
  have h5 := Cav5 H
  have L := lpE (F := fun f (t : (Int32 × Int32) × Int32 × mb_T) => f_C_swap_27 n k0 f t.1.1 t.1.2 t.2.1 t.2.2) (R := fun t => k0 t.1.1 t.1.2 t.2.1 t.2.2) (fun i (t : (Int32 × Int32) × Int32 × mb_T) => t.1 = fo (swO (hS z r law w) (zP z)) B i ∧ t.2.1 = nI i ∧ (∀ i, i < 5 → t.2.2.2.1 10 i = nI i) ∧ Fk bgF dA s t.2.2) (zP z) ?_ ?_ (t0 := (B, nI 0, t)) (f := n) ⟨rfl, rfl, h10, F⟩ (by omega)
  · obtain ⟨⟨e, e', c⟩, ⟨q1, q2, q3, q4⟩, q5⟩ := L
    dsimp only at q1 q2 q3 q4 q5
    subst q1 q2
    exact ⟨c, q5, q4⟩
  · rintro a ha ⟨e, e', t⟩ ⟨q1, q2, q3, q4⟩
    dsimp only at q1 q2 q3 q4
    subst q1 q2
    obtain ⟨v, v1, v2, v3⟩ := pC_s43 (B := fo (swO (hS z r law w) (zP z)) B a) hn H h1 ha q3 q4
    refine ⟨(fo (swO (hS z r law w) (zP z)) B (a + 1), nI (a + 1), v), ⟨rfl, rfl, v2, v3⟩, fun f => ?_⟩
    dsimp only
    have hp : t.1 100 0 = nI (zP z) := by rw [q4.1 100 0 (by decide)]; exact (CavP H).1
    rw [f_C_swap_27.eq_2, hp, if_neg (npi (by omega) ha), nI_1, v1, fo_s]
  · rintro ⟨e, e', t⟩ ⟨q1, q2, q3, q4⟩ f
    dsimp only at q1 q2 q3 q4
    subst q1 q2
    dsimp only
    have hp : t.1 100 0 = nI (zP z) := by rw [q4.1 100 0 (by decide)]; exact (CavP H).1
    rw [f_C_swap_27.eq_2, hp, if_pos npp]
theorem pM_s49 (hn : 200 ≤ n) (hp : t.1 200 8 = nI p) (h5 : p ≤ 5) (ha : a < 5) (hb : b < 5) {Y V : Int32} : ∃ u, (∀ k0 : Int32 → mb_T → Option (Int32 × mb_T), f_M_swap_49 n k0 Y V (nI a) (nI b) n 0 t = k0 (nI p) u) ∧ Fr [] [239] t u ∧ ∀ i, i < p → u.2.1 239 i = nI (swp a b i) := by
  have L := lpK (F := fun (k0 : Int32 → mb_T → Option (Int32 × mb_T)) f (t : Int32 × mb_T) => f_M_swap_49 n k0 Y V (nI a) (nI b) f t.1 t.2) (R := fun k0 t => k0 t.1 t.2) (fun i (u : Int32 × mb_T) => u.1 = nI i ∧ Fr [] [239] t u.2 ∧ ∀ x, x < i → u.2.2.1 239 x = nI (swp a b x)) p ?_ ?_ (t0 := (0, t)) (f := n) ⟨rfl, FrR, fun x hx => by omega⟩ (by omega)
  · obtain ⟨⟨e, c⟩, ⟨q1, q2, q3⟩, q4⟩ := L
    dsimp only at q1 q2 q3 q4
    subst q1
    exact ⟨c, q4, q2, q3⟩
  · rintro i hi ⟨e, v⟩ ⟨q1, q2, q3⟩
    dsimp only at q1 q2 q3
    subst q1
    have ew : (if nI i = nI a then nI b else (if nI i = nI b then nI a else nI i : Int32) : Int32) = nI (swp a b i) := by
      unfold swp
      simp only [nI_eq (show i < 2 ^ 31 by omega) (show a < 2 ^ 31 by omega), nI_eq (show i < 2 ^ 31 by omega) (show b < 2 ^ 31 by omega)]
      by_cases c1 : i = a
      · rw [if_pos c1, if_pos c1]
      · rw [if_neg c1, if_neg c1]
        by_cases c2 : i = b
        · rw [if_pos c2, if_pos c2]
        · rw [if_neg c2, if_neg c2]
    refine ⟨(nI (i + 1), sA v 239 i (nI (swp a b i))), ⟨rfl, FrT q2 (FrA (q := 239)), fun x hx => ?_⟩, fun c f => ?_⟩
    · show upd (v.2.1 239) i (nI (swp a b i)) x = nI (swp a b x)
      rw [updI]
      by_cases e : x = i
      · rw [if_pos e, e]
      · rw [if_neg e]; exact q3 x (by omega)
    · dsimp only
      rw [f_M_swap_49.eq_2, q2.1 200 8 (by simp), hp, if_neg (npi (by omega) hi), ew, wrI (by omega) (by decide), nI_1]
  · rintro ⟨e, v⟩ ⟨q1, q2, q3⟩ c f
    dsimp only at q1 q2 q3
    subst q1
    dsimp only
    rw [f_M_swap_49.eq_2, q2.1 200 8 (by simp), hp, if_pos npp]
theorem pM_s37 (hn : 200 ≤ n) (H : Cav r z w law s) (h1 : 1 ≤ zP z) (ha : a < zP z) {B : Int32 × Int32} (hB : HO B.1) (I : sI z w s t) : ∃ u, (∀ k0 : Int32 → Int32 → Int32 → mb_T → Option (Int32 × mb_T), f_M_swap_37 n k0 (nI a) n B.2 B.1 (nI (a + 1)) t = k0 (swO (hS z r law w) (zP z) a B).2 (swO (hS z r law w) (zP z) a B).1 (nI (zP z)) u) ∧ HO (swO (hS z r law w) (zP z) a B).1 ∧ sI z w s u := by
  have h5 := Cav5 H
  have L := lpK (F := fun (k0 : Int32 → Int32 → Int32 → mb_T → Option (Int32 × mb_T)) f (t : (Int32 × Int32) × Int32 × mb_T) => f_M_swap_37 n k0 (nI a) f t.1.2 t.1.1 t.2.1 t.2.2) (R := fun k0 t => k0 t.1.2 t.1.1 t.2.1 t.2.2) (fun i (t : (Int32 × Int32) × Int32 × mb_T) => t.1 = fo (swS (hS z r law w) a) B i ∧ t.2.1 = nI (a + 1 + i) ∧ HO t.1.1 ∧ sI z w s t.2.2) (zP z - (a + 1)) ?_ ?_ (t0 := (B, nI (a + 1), t)) (f := n) ⟨rfl, rfl, hB, I⟩ (by omega)
  · obtain ⟨⟨e, e', c⟩, ⟨q1, q2, q3, q4⟩, q5⟩ := L
    dsimp only at q1 q2 q3 q4 q5
    subst q1 q2
    refine ⟨c, fun k0 => ?_, q3, q4⟩
    rw [q5 k0, show a + 1 + (zP z - (a + 1)) = zP z by omega]
    rfl
  · rintro i hi ⟨e, e', t⟩ ⟨q1, q2, q3, q4⟩
    dsimp only at q1 q2 q3 q4
    subst q1 q2
    have hb : a + 1 + i < zP z := by omega
    obtain ⟨b, hbb⟩ : ∃ b, b = a + 1 + i := ⟨_, rfl⟩
    rw [← hbb] at hb ⊢
    obtain ⟨I1, I2, I3⟩ := q4
    obtain ⟨v, v1, v2, v3⟩ := pM_s49 (n := n) (t := t) (a := a) (b := b) (Y := (fo (swS (hS z r law w) a) B i).2) (V := (fo (swS (hS z r law w) a) B i).1) hn I1.2.1 h5 (by omega) (by omega)
    obtain ⟨y, y1, y2, y3, y4⟩ := pM_hso (o := swp a b) (law := law) hn (HMfr I1 v2) H.1 (by rw [v2.1 200 9 (by simp), I3.1 200 9 (by decide)]; exact H.2.2.2.2.2.2.2.2.2 h1) (by rw [v2.1 200 10 (by simp), I3.1 200 10 (by decide)]; exact H.2.2.2.2.2.2.1 h1) (by rw [v2.2.1 223 (by decide)]; exact I2) v3 (okS_d (zP z) (by omega) a ha b hb r) h1 (CavW H) (CavO H) (CavL H).2
    have y1 : f_M_holdsSo n v = some (hS z r law w a b, y) := y1
    have Iy : sI z w s y := ⟨y2, y3, FrT (FrT I3 v2 (ks := sH) (cs := sO)) y4⟩
    refine ⟨(fo (swS (hS z r law w) a) B (i + 1), nI (b + 1), y), ⟨rfl, by rw [hbb]; rfl, ?_, Iy⟩, fun c f => ?_⟩
    · dsimp only
      rw [fo_s]
      unfold swS
      split
      · exact hS_o
      · exact q3
    · dsimp only
      rw [f_M_swap_37.eq_2, I1.2.1, if_neg (npi (by omega) hb), v1, y1, clS, pM_lb, clS, pM_lb, clS, nI_ab, nI_1, fo_s]
      simp only [lng_m (hS_o (z := z) (r := r) (law := law) (w := w) (a := a) (b := b)) q3]
      generalize fo (swS (hS z r law w) a) B i = C
      unfold swS
      rw [← hbb]
      by_cases hL : lng (hS z r law w a b) C.1 = true
      · rw [if_neg (by rw [hL]; decide), if_pos hL]
      · rw [if_pos (by simpa using hL), if_neg hL]
  · rintro ⟨e, e', t⟩ ⟨q1, q2, q3, q4⟩ c f
    dsimp only at q1 q2 q3 q4
    subst q1 q2
    dsimp only
    rw [f_M_swap_37.eq_2, q4.1.2.1, if_pos (nI_le (by omega) (by omega))]
theorem pM_s24 (hn : 200 ≤ n) (H : Cav r z w law s) (h1 : 1 ≤ zP z) {B : Int32 × Int32} (hB : HO B.1) (I : sI z w s t) {k0 : Int32 → Int32 → Int32 → mb_T → Option (Int32 × mb_T)} : ∃ u, f_M_swap_24 n k0 n B.2 B.1 0 t = k0 (fo (swO (hS z r law w) (zP z)) B (zP z)).2 (fo (swO (hS z r law w) (zP z)) B (zP z)).1 (nI (zP z)) u ∧ sI z w s u := by
  have h5 := Cav5 H
  have L := lpE (F := fun f (t : (Int32 × Int32) × Int32 × mb_T) => f_M_swap_24 n k0 f t.1.2 t.1.1 t.2.1 t.2.2) (R := fun t => k0 t.1.2 t.1.1 t.2.1 t.2.2) (fun i (t : (Int32 × Int32) × Int32 × mb_T) => t.1 = fo (swO (hS z r law w) (zP z)) B i ∧ t.2.1 = nI i ∧ HO t.1.1 ∧ sI z w s t.2.2) (zP z) ?_ ?_ (t0 := (B, nI 0, t)) (f := n) ⟨rfl, rfl, hB, I⟩ (by omega)
  · obtain ⟨⟨e, e', c⟩, ⟨q1, q2, q3, q4⟩, q5⟩ := L
    dsimp only at q1 q2 q3 q4 q5
    subst q1 q2
    exact ⟨c, q5, q4⟩
  · rintro a ha ⟨e, e', t⟩ ⟨q1, q2, q3, q4⟩
    dsimp only at q1 q2 q3 q4
    subst q1 q2
    obtain ⟨v, v1, v2, v3⟩ := pM_s37 (B := fo (swO (hS z r law w) (zP z)) B a) hn H h1 ha q3 q4
    refine ⟨(fo (swO (hS z r law w) (zP z)) B (a + 1), nI (a + 1), v), ⟨rfl, rfl, v2, v3⟩, fun f => ?_⟩
    dsimp only
    rw [f_M_swap_24.eq_2, q4.1.2.1, if_neg (npi (by omega) ha), nI_1, v1, fo_s]
  · rintro ⟨e, e', t⟩ ⟨q1, q2, q3, q4⟩ f
    dsimp only at q1 q2 q3 q4
    subst q1 q2
    dsimp only
    rw [f_M_swap_24.eq_2, q4.1.2.1, if_pos npp]
theorem swp_0 : swp 0 0 = id := by
  funext k
  unfold swp
  by_cases c : k = 0
  · rw [if_pos c, c]; rfl
  · rw [if_neg c, if_neg c]; rfl
theorem cs_swap (hn : 1000 ≤ n) : CS (f_C_swap n) (f_M_swap n) := by
  intro s R
  obtain ⟨-, -, -, r4, r, z, w, law, H⟩ := id R
  have h5 := Cav5 H
  obtain ⟨p1, p2⟩ := CavP H
  by_cases h0 : zP z = 0
  · refine ⟨-4, s, s, ?_, ?_, R⟩
    · unfold f_C_swap
      rw [p1, h0, if_pos (by decide)]
    · unfold f_M_swap
      rw [p2, h0, if_pos (by decide)]
  · have hne : ¬ nI (zP z) = 0 := by rw [p0 h5]; exact h0
    have h1 : 1 ≤ zP z := by omega
    have oki : okO (zP z) id r = true := by rw [← swp_0]; exact okS_d (zP z) (by omega) 0 (by omega) 0 (by omega) r
    obtain ⟨a, a1, a2, a3⟩ := pC_sbn (n := n) (s := s) (by omega)
    have Fa : Fk bgF dA s a := FrQ a2
    obtain ⟨b, b1, b2⟩ := pC_has (n := n) (o := id) (by omega) H Fa h1 a3 oki
    rw [zo_id H.1] at b1
    have Fb : Fk bgF dA s b := FkT Fa (FkI b2)
    have b10 : ∀ i, i < 5 → b.2.1 10 i = nI i := fun i hi => by rw [b2.2.1 10 (by decide)]; exact a3 i hi
    obtain ⟨E, hE⟩ : ∃ E, E = fo (swO (hS z r law w) (zP z)) (hol z law w 100, (-9 : Int32)) (zP z) := ⟨_, rfl⟩
    obtain ⟨u, u1, u2⟩ := pC_s27 (n := n) (B := (hol z law w 100, -9)) (k0 := fun x_24 x_25 x_26 s_27 => if x_25 = (-9) then some (x_25, s_27) else mb_bd (sF s_27 0 14 x_24) fun s_29 => some (x_25, s_29)) (by omega) H h1 b10 Fb
    rw [← hE] at u1
    have EC : f_C_swap n s = if E.2 = (-9) then some (E.2, u) else some (E.2, sF u 0 14 E.1) := by
      unfold f_C_swap
      rw [p1, if_neg hne, a1, cwS2, b1, clS, u1]
      rfl
    have EM : ∀ t, Fk cF dA s t → ∃ v, f_M_swap n t = (if E.2 = (-9) then some (-9, v) else some (E.2, sF v 200 2 E.1)) ∧ sI z w t v := by
      intro t Ft
      have Mt := HMfk (CavM H) Ft (by decide) (by decide)
      have t3 : ∀ i, i < 5 → t.2.1 223 i = nI i := by rw [Ft.2.1 223 (by decide)]; exact H.2.2.2.1
      have Ht : Cav r z w law t := Cav_q H (FkI Ft) Mt t3 (by rw [Ft.1 200 22 (by decide)]; exact H.2.2.2.2.1)
      obtain ⟨c, c1, c2, c3, -⟩ := pM_holdsOf (n := n) (by omega) Mt (CavZ H) (CavW H) (CavO H) h1 (CavL H).2
      obtain ⟨v, v1, v2⟩ := pM_s24 (n := n) (s := t) (t := c) (B := (hol z law w 100, -9)) (k0 := fun x_30 x_31 x_32 s_33 => if x_30 = (-9) then some ((-9), s_33) else mb_cl (f_M_ask n x_31 x_30 s_33) fun r_37 s_35 => some (r_37, s_35)) (by omega) Ht h1 (hol_o (by decide)) ⟨c3, by rw [c2.2.1 223 (by decide)]; exact t3, FrI c2⟩
      rw [← hE] at v1
      refine ⟨v, ?_, v2⟩
      unfold f_M_swap
      rw [Mt.2.1, if_neg hne, Ht.2.2.2.2.2.2.1 h1, c1, clS, v1]
      rfl
    by_cases h9 : E.2 = -9
    · obtain ⟨v, v1, v2, v3, v4⟩ := EM u (FkI u2)
      have Fv : Fk (bgF ++ sH) (dA ++ sO) s v := FkT (FkI u2) (FrQ v4)
      rw [if_pos h9] at v1 EC
      rw [h9] at EC
      refine ⟨-9, u, v, EC, v1, Rel_q R H (FkI Fv) v2 v3 ?_ ?_⟩
      · rw [Fv.1 200 22 (by decide)]; exact H.2.2.2.2.1
      · rw [Fv.1 0 14 (by decide), Fv.1 200 2 (by decide)]; exact r4
    · obtain ⟨v, v1, v2, v3, v4⟩ := EM (sF u 0 14 E.1) (FkT (FkI u2) (FrQ FrF))
      have Fv : Fk (cF ++ sH) (dA ++ sO) s v := FkT (FkT (FkI u2) (FrQ FrF)) (FrQ v4)
      rw [if_neg h9] at v1 EC
      refine ⟨E.2, _, _, EC, v1, Rel_q R H (FkT (FkI Fv) (FrQ FrF)) (HMfr v2 FrF) v3 ?_ ?_⟩
      · show v.1 200 22 = -9
        rw [Fv.1 200 22 (by decide)]; exact H.2.2.2.2.1
      · show v.1 0 14 = E.1
        rw [v4.1 0 14 (by decide)]; rfl
end XE
