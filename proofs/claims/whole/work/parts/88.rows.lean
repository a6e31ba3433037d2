/-! the pure part: findings; rows of numbers -/
def CS {α : Type} (f g : mb_T → Option (α × mb_T)) : Prop := ∀ s, Rel s → ∃ r s1 s2, f s = some (r, s1) ∧ g s1 = some (r, s2) ∧ Rel s2
def fC (k : Nat) (s : mb_T) : mb_T := sA (sF s 0 13 (nI k)) 12 k (s.2.1 12 k + 1)
def fM (k : Nat) (s : mb_T) : mb_T := sA (sF s 200 0 (nI k)) 201 k (s.2.1 201 k + 1)
abbrev cavF : List (Nat × Nat) := [(100, 0), (100, 1), (100, 2), (100, 3), (100, 4), (140, 0), (140, 1), (140, 2), (140, 3), (140, 4), (160, 0), (160, 1), (160, 2), (160, 3), (160, 4), (180, 0), (180, 1), (180, 2), (180, 3), (180, 4), (200, 8), (200, 9), (200, 10), (200, 11), (200, 22), (200, 24), (200, 25)]
abbrev cavA : List Nat := [100, 101, 102, 103, 104, 105, 106, 107, 108, 109, 110, 111, 112, 140, 141, 142, 143, 144, 145, 146, 147, 148, 149, 150, 151, 152, 160, 161, 162, 163, 164, 165, 166, 167, 168, 169, 170, 171, 172, 180, 181, 182, 183, 184, 185, 186, 187, 188, 189, 190, 191, 192, 212, 213, 214, 215, 216, 223, 226, 227, 229]
def inI (x a b : Int32) : Int32 := if x < a then 0 else (if b < x then 0 else 1 : Int32)
theorem bz_n {β : Type} {e : Option β} {p q : Prop} [Decidable p] [Decidable q] : mb_bz (if p then 0 else (if q then 0 else 1 : Int32) : Int32) e = e := by
  unfold mb_bz
  by_cases hp : p <;> by_cases hq : q <;> simp [hp, hq]
theorem nI_mul (a b : Nat) : nI a * nI b = nI (a * b) := (Int32.ofNat_mul a b).symm
theorem lt_le {a b : Nat} {x : Int32} (h : nI b ≤ x) (hab : a < b) (hb : b < 2 ^ 31) : nI a < x := Int32.lt_of_lt_of_le (nI_lt hab hb) h
theorem rngC {x : Int32} (N : Nat) (hN : N < 2 ^ 31 := by decide) : (∃ j, j < N ∧ x = nI j) ∨ (x < 0 ∨ nI N ≤ x) := by
  by_cases h : x < 0
  · exact Or.inr (Or.inl h)
  · obtain ⟨j, j1, j2⟩ := nI_of h
    by_cases c : j < N
    · exact Or.inl ⟨j, c, j2⟩
    · exact Or.inr (Or.inr (by rw [j2]; exact nI_le (by omega) j1))
/-- between two numbers -/
theorem inI_t {a b x : Nat} (h1 : a ≤ x) (h2 : x ≤ b) (hb : b < 2 ^ 31) : inI (nI x) (nI a) (nI b) = 1 := by
  unfold inI
  rw [if_neg (nI_nlt h1 (by omega)), if_neg (nI_nlt h2 hb)]
theorem inI_f {b : Nat} {x : Int32} (h : x < 0 ∨ nI (b + 1) ≤ x) (hb : b + 1 < 2 ^ 31) : inI x 0 (nI b) = 0 := by
  unfold inI
  rcases h with h | h
  · rw [if_pos h]
  · split
    · rfl
    · rw [if_pos (lt_le h (by omega) hb)]
theorem cpy_0 {f g : Nat → Int32} {sp dp : Nat} : va_cpy f g sp dp 0 = g := by
  funext k
  unfold va_cpy
  rw [if_neg (by omega)]
theorem cpy_s {f g : Nat → Int32} {sp dp i : Nat} : upd (va_cpy f g sp dp i) (dp + i) (f (sp + i)) = va_cpy f g sp dp (i + 1) := by
  funext k
  rw [updI]
  unfold va_cpy
  by_cases e : k = dp + i
  · rw [if_pos e, if_pos (by omega), show sp + (k - dp) = sp + i by omega]
  · rw [if_neg e]
    by_cases c : dp ≤ k ∧ k < dp + i
    · rw [if_pos c, if_pos (by omega)]
    · rw [if_neg c, if_neg (by omega)]
theorem cpy_i {f g : Nat → Int32} {sp dp i k : Nat} (h : k < i) : va_cpy f g sp dp i (dp + k) = f (sp + k) := by
  unfold va_cpy
  rw [if_pos (by omega), show sp + (dp + k - dp) = sp + k by omega]
theorem cpy_o {f g : Nat → Int32} {sp dp i k : Nat} (h : k < dp ∨ dp + i ≤ k) : va_cpy f g sp dp i k = g k := by
  unfold va_cpy
  rw [if_neg (by omega)]
section RB
variable {s t u : mb_T} {n p a b q m i c k x y : Nat} {v : Int32} {z : zT} {w w2 : wT} {r : Bool} {law X Y V : Int32} {fs gs ks : List (Nat × Nat)} {as bs cs : List Nat} {hM nM : Nat → Int32}
theorem HMfk (H : HM z w s) (h : Fk fs as s t) (hf : ∀ k ∈ [8, 9, 11, 22, 24, 25], (200, k) ∉ fs) (ha : ∀ q ∈ [212, 213, 214, 215, 216, 223], q ∉ as) : HM z w t := by
  obtain ⟨h5, hp, ho, hm, hl, he, hb, hz, hx⟩ := H
  have f : ∀ k ∈ [8, 9, 11, 22, 24, 25], t.1 200 k = s.1 200 k := fun k hk => h.1 200 k (hf k hk)
  have a : ∀ q ∈ [212, 213, 214, 215, 216, 223], t.2.1 q = s.2.1 q := fun q hq => h.2.1 q (ha q hq)
  refine ⟨h5, ?_, ?_, ?_, ?_, he, ?_, ?_, ?_⟩
  · rw [f 8 (by decide)]; exact hp
  · rw [f 11 (by decide)]; exact ho
  · rw [f 24 (by decide)]; exact hm
  · rw [f 25 (by decide)]; exact hl
  · rw [f 9 (by decide), a 223 (by decide)]; exact hb
  · rw [f 22 (by decide)]; exact hz
  · rw [a 212 (by decide), a 213 (by decide), a 214 (by decide), a 215 (by decide), a 216 (by decide)]; exact hx
theorem Cav_fr (H : Cav r z w law s) (h : Fk fs as s t) (hf : (∀ q ∈ cavF, q ∉ fs) := by decide) (ha : (∀ q ∈ cavA, q ∉ as) := by decide) : Cav r z w law t := by
  obtain ⟨a1, a2, a3, a4, a5, a6, a7, a8, a9, a10⟩ := H
  refine ⟨a1, a2, HMfk a3 h (fun k hk => hf _ ?_) (fun q hq => ha _ ?_), ?_, ?_, ?_, ?_, a8, ?_, by rw [h.1 200 9 (hf _ (by decide))]; exact a10⟩
  · revert hk; revert k; decide
  · revert hq; revert q; decide
  · rw [h.2.1 223 (ha _ (by decide))]; exact a4
  · rw [h.1 200 22 (hf _ (by decide))]; exact a5
  · have := CVv_fr a6 h (fun k hk => hf _ (by revert hk; revert k; decide)) (fun q hq => ha _ (by revert hq; revert q; decide))
    rw [h.2.1 226 (ha _ (by decide)), h.2.1 227 (ha _ (by decide))]
    exact this
  · rw [h.1 200 10 (hf _ (by decide))]; exact a7
  · intro k hk
    have : k = 0 ∨ k = 1 ∨ k = 2 := by omega
    refine Kp_fr (a9 k hk) h (fun j hj => hf _ ?_) (fun q hq => ha _ ?_) (ha _ (by decide))
    · rcases this with rfl | rfl | rfl <;> (revert hj; revert j; decide)
    · rcases this with rfl | rfl | rfl <;> (revert hq; revert q; decide)
theorem pC_found (h1 : 1 ≤ k) (h2 : k ≤ 5) : f_C_found n (nI k) s = some (-3, fC k s) := by
  unfold f_C_found fC
  rw [if_neg (show ¬ nI k < (1 : Int32) from nI_nlt (b := 1) h1 (by omega)), if_neg (show ¬ (5 : Int32) < nI k from nI_nlt (a := 5) h2 (by decide)), bdS, rdI (by omega) (by decide), wrI (by omega) (by decide)]
  rfl
theorem pM_meet (h1 : 1 ≤ k) (h2 : k ≤ 5) : f_M_meet n (nI k) s = some (-3, fM k s) := by
  unfold f_M_meet fM
  rw [bdS, rdI (by omega) (by decide), wrI (by omega) (by decide)]
  rfl
theorem fCM : Fk [(0, 13), (200, 0)] [12, 201] s (fM k (fC k s)) := by
  have h1 : Fr [(0, 13)] [12] s (fC k s) := FrT (FrF (i := 0) (k := 13)) (FrA (q := 12))
  have h2 : Fr [(200, 0)] [201] (fC k s) (fM k (fC k s)) := FrT (FrF (i := 200) (k := 0)) (FrA (q := 201))
  exact FkT (FrQ h1) (FrQ h2)
theorem Rel_found (R : Rel s) : Rel (fM k (fC k s)) := by
  obtain ⟨r1, r2, r3, r4, r, z, w, law, r5⟩ := R
  refine ⟨Rows_fr r1 fCM, Txts_fr r2 fCM, ?_, ?_, r, z, w, law, Cav_fr r5 fCM⟩
  · refine ⟨rfl, fun f hf => ?_⟩
    have e1 : (fM k (fC k s)).2.1 12 f = upd (s.2.1 12) k (s.2.1 12 k + 1) f := rfl
    have e2 : (fM k (fC k s)).2.1 201 f = upd (s.2.1 201) k (s.2.1 201 k + 1) f := rfl
    rw [e1, e2, updI, updI]
    by_cases c : f = k
    · rw [if_pos c, if_pos c, ← c, r3.2 f hf]
    · rw [if_neg c, if_neg c, r3.2 f hf]
  · exact r4
theorem pM_in : f_M_in n X Y V s = some (inI X Y V, s) := by
  unfold f_M_in inI
  rw [bz_n]
theorem bzin {β : Type} {e : Option β} : mb_bz (inI X Y V) e = e := by
  unfold inI
  exact bz_n
theorem pC_isRow_t (h : x < 6) : f_C_isRow n (nI x) s = some (1, s) := by
  unfold f_C_isRow
  rw [bz_n, if_neg (nI_pos (by omega)), if_neg (show ¬ (6 : Int32) ≤ nI x from npi (p := 6) (by decide) h)]
theorem pC_isRow_f (h : X < 0 ∨ (6 : Int32) ≤ X) : f_C_isRow n X s = some (0, s) := by
  unfold f_C_isRow
  rw [bz_n]
  rcases h with h | h
  · rw [if_pos h]
  · rw [if_pos h]; split <;> rfl
theorem pM_isRow_t (h : x < 6) : f_M_isRow n (nI x) s = some (1, s) := by
  unfold f_M_isRow
  rw [pM_in, clS, bzin, show (5 : Int32) = nI 5 from rfl, show (0 : Int32) = nI 0 from rfl, inI_t (by omega) (by omega) (by decide)]
theorem pM_isRow_f (h : X < 0 ∨ (6 : Int32) ≤ X) : f_M_isRow n X s = some (0, s) := by
  unfold f_M_isRow
  rw [pM_in, clS, bzin, show (5 : Int32) = nI 5 from rfl, inI_f (b := 5) h (by decide)]
theorem pC_isText_t (h : x < 4) : f_C_isText n (nI x) s = some (1, s) := by
  unfold f_C_isText
  rw [bz_n, if_neg (nI_pos (by omega)), if_neg (show ¬ (4 : Int32) ≤ nI x from npi (p := 4) (by decide) h)]
theorem pC_isText_f (h : X < 0 ∨ (4 : Int32) ≤ X) : f_C_isText n X s = some (0, s) := by
  unfold f_C_isText
  rw [bz_n]
  rcases h with h | h
  · rw [if_pos h]
  · rw [if_pos h]; split <;> rfl
theorem pM_isText_t (h : x < 4) : f_M_isText n (nI x) s = some (1, s) := by
  unfold f_M_isText
  rw [pM_in, clS, bzin, show (3 : Int32) = nI 3 from rfl, show (0 : Int32) = nI 0 from rfl, inI_t (by omega) (by omega) (by decide)]
theorem pM_isText_f (h : X < 0 ∨ (4 : Int32) ≤ X) : f_M_isText n X s = some (0, s) := by
  unfold f_M_isText
  rw [pM_in, clS, bzin, show (3 : Int32) = nI 3 from rfl, inI_f (b := 3) h (by decide)]
-- what refuses a row
theorem pC_rowR_f (h : X < 0 ∨ (6 : Int32) ≤ X) : f_C_rowRefusal n X s = some (-1, s) := by
  unfold f_C_rowRefusal
  rw [pC_isRow_f h, clS, if_pos rfl]
theorem pC_rowR_m (h : x < 6) (e : s.2.1 1 x = -1) : f_C_rowRefusal n (nI x) s = some (-3, fC 1 s) := by
  unfold f_C_rowRefusal
  rw [pC_isRow_t h, clS, if_neg (by decide), rdI h (by decide), e, if_neg (by decide), show (1 : Int32) = nI 1 from rfl, pC_found (by decide) (by decide), clS]
theorem pC_rowR_t (h : x < 6) (e : s.2.1 1 x = nI m) (hm : m ≤ 60) : f_C_rowRefusal n (nI x) s = some (0, s) := by
  unfold f_C_rowRefusal
  rw [pC_isRow_t h, clS, if_neg (by decide), rdI h (by decide), e, if_pos (nI_pos' (by omega))]
theorem pM_rowR_f (h : X < 0 ∨ (6 : Int32) ≤ X) : f_M_askedRow n X s = some (-1, s) := by
  unfold f_M_askedRow
  rw [pM_isRow_f h, clS, if_pos rfl]
theorem pM_rowR_m (h : x < 6) (e : s.2.1 203 x = -9) : f_M_askedRow n (nI x) s = some (-3, fM 1 s) := by
  unfold f_M_askedRow
  rw [pM_isRow_t h, clS, if_neg (by decide), rdI h (by decide), e, if_neg (by decide), show (1 : Int32) = nI 1 from rfl, pM_meet (by decide) (by decide), clS]
theorem pM_rowR_t (h : x < 6) (e : s.2.1 203 x = nI m) (hm : m ≤ 60) : f_M_askedRow n (nI x) s = some (0, s) := by
  unfold f_M_askedRow
  rw [pM_isRow_t h, clS, if_neg (by decide), rdI h (by decide), e, if_pos (nI_pos' (by omega))]
/-- one row set anew -/
theorem Rows_set (H : Rows s) (hr : x < 6) (e1 : ∀ r, r < 6 → r ≠ x → t.2.1 1 r = s.2.1 1 r ∧ t.2.1 203 r = s.2.1 203 r ∧ t.2.1 (20 + r) = s.2.1 (20 + r) ∧ ∀ i, i < 60 → t.2.1 204 (60 * r + i) = s.2.1 204 (60 * r + i)) (e2 : (∃ m, m ≤ 60 ∧ t.2.1 1 x = nI m ∧ t.2.1 203 x = nI m ∧ ∀ i, i < m → t.2.1 (20 + x) i = t.2.1 204 (60 * x + i)) ∨ (t.2.1 1 x = -1 ∧ t.2.1 203 x = -9)) : Rows t := by
  intro r hr2
  by_cases c : r = x
  · rw [c]; exact e2
  · obtain ⟨q1, q2, q3, q4⟩ := e1 r hr2 c
    rcases H r hr2 with ⟨m, m1, m2, m3, m4⟩ | ⟨m1, m2⟩
    · refine Or.inl ⟨m, m1, by rw [q1, m2], by rw [q2, m3], fun i hi => ?_⟩
      rw [q3, q4 i (by omega)]
      exact m4 i hi
    · exact Or.inr ⟨by rw [q1, m1], by rw [q2, m2]⟩
/-- a row with one size, in the class as in the model -/
def rowC (x m : Nat) (g : Nat → Int32) (s : mb_T) : mb_T := sA (sV s (20 + x) g) 1 x (nI m)
def rowM (x m : Nat) (g : Nat → Int32) (s : mb_T) : mb_T := sV (sA s 203 x (nI m)) 204 g
theorem rowC_fr : Fr [] [20 + x, 1] s (rowC x m hM s) := by
  unfold rowC
  refine FrT (FrV (q := 20 + x)) (FrA (q := 1)) (by decide) (by decide) ?_ ?_
  · intro q hq; simp at hq; simp [hq]
  · intro q hq; simp at hq; simp [hq]
theorem rowM_fr : Fr [] [203, 204] s (rowM x m hM s) := FrT (FrA (q := 203)) (FrV (q := 204))
theorem rowCM (hx : x < 6) : Fk [] [1, 20, 21, 22, 23, 24, 25, 203, 204] s (rowM x m nM (rowC x m hM s)) := by
  refine FkT (FrQ (rowC_fr (x := x) (m := m) (hM := hM)) (by decide) ?_) (FrQ rowM_fr)
  have : x = 0 ∨ x = 1 ∨ x = 2 ∨ x = 3 ∨ x = 4 ∨ x = 5 := by omega
  rcases this with rfl | rfl | rfl | rfl | rfl | rfl <;> decide
theorem Rows_w (H : Rows s) (hx : x < 6) (hm : m ≤ 60) (e : ∀ i, i < m → hM i = nM (60 * x + i)) (e2 : ∀ j, j < 60 * x ∨ 60 * x + 60 ≤ j → nM j = s.2.1 204 j) : Rows (rowM x m nM (rowC x m hM s)) := by
  refine Rows_set (x := x) (s := s) H hx ?_ (Or.inl ⟨m, hm, ?_, ?_, ?_⟩)
  · intro r hr hne
    refine ⟨?_, ?_, ?_, ?_⟩
    · show upd (if 1 = 20 + x then hM else s.2.1 1) x (nI m) r = s.2.1 1 r
      rw [updI, if_neg hne, if_neg (by omega)]
    · show upd (if 203 = 20 + x then hM else s.2.1 203) x (nI m) r = s.2.1 203 r
      rw [updI, if_neg hne, if_neg (by omega)]
    · unfold rowM rowC
      simp only [sV2, sA2]
      rw [if_neg (by omega), if_neg (by omega), if_neg (by omega), if_neg (by omega)]
    · intro i hi
      show nM (60 * r + i) = _
      refine e2 _ ?_
      rcases Nat.lt_or_gt_of_ne hne with l | l
      · exact Or.inl (by omega)
      · exact Or.inr (by omega)
  · show upd _ x (nI m) x = _
    rw [updI, if_pos rfl]
  · show upd _ x (nI m) x = _
    rw [updI, if_pos rfl]
  · intro i hi
    have e9 : (rowM x m nM (rowC x m hM s)).2.1 (20 + x) = hM := by
      unfold rowM rowC
      simp only [sV2, sA2]
      rw [if_neg (by omega), if_neg (by omega), if_neg (by omega), if_pos trivial]
    rw [e9]
    exact e i hi
end RB
