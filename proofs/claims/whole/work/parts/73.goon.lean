/-! the pure part: minutes by a law aside -/
/-- a loop that runs p times, with what holds at each -/
theorem lpE {α β : Type} {F : Nat → α → Option β} {R : α → Option β} (P : Nat → α → Prop) (p : Nat) (hs : ∀ i, i < p → ∀ t, P i t → ∃ t1, P (i + 1) t1 ∧ ∀ f, F (f + 1) t = F f t1) (hx : ∀ t, P p t → ∀ f, F (f + 1) t = R t) {t0 : α} (h0 : P 0 t0) {f : Nat} (hf : p < f) : ∃ t, P p t ∧ F f t0 = R t := by
  have key : ∀ (d i f : Nat) (t : α), i + d = p → d < f → P i t → ∃ u, P p u ∧ F f t = R u := by
    intro d
    induction d with
    | zero =>
      intro i f t hi hf ht
      have : i = p := by omega
      subst this
      obtain ⟨g, rfl⟩ : ∃ g, f = g + 1 := ⟨f - 1, by omega⟩
      exact ⟨t, ht, hx t ht g⟩
    | succ d ih =>
      intro i f t hi hf ht
      obtain ⟨g, rfl⟩ : ∃ g, f = g + 1 := ⟨f - 1, by omega⟩
      obtain ⟨t1, h1, h2⟩ := hs i (by omega) t ht
      rw [h2 g]
      exact ih (i + 1) g t1 (by omega) (by omega) h1
  exact key p 0 f t0 (by omega) hf h0
/-- the first k below m at which b is, or m -/
def sN (b : Nat → Bool) : Nat → Nat
  | 0 => 0
  | m + 1 => if sN b m < m then sN b m else if b m = true then m else m + 1
theorem sN_p {b : Nat → Bool} : ∀ {m : Nat}, sN b m ≤ m ∧ (∀ k, k < sN b m → b k = false) ∧ (sN b m < m → b (sN b m) = true)
  | 0 => ⟨Nat.le_refl _, fun k h => (by cases h), fun h => (by cases h)⟩
  | m + 1 => by
    obtain ⟨h1, h2, h3⟩ := @sN_p b m
    unfold sN
    by_cases l : sN b m < m
    · rw [if_pos l]
      exact ⟨by omega, h2, fun _ => h3 l⟩
    · rw [if_neg l]
      have e : sN b m = m := by omega
      rw [e] at h2
      cases hb : b m with
      | true => simp; exact ⟨h2, hb⟩
      | false =>
        simp
        intro k hk
        by_cases c : k = m
        · rw [c]; exact hb
        · exact h2 k (by omega)
def ovr (z : zT) (w : wT) : Bool := !decide (whoS w.1 (zS z) (zP z) = 0)
/-- k minutes by a law -/
def wi (z : zT) (law : Int32) (w : wT) : Nat → wT
  | 0 => w
  | k + 1 => stp z (nxt z law (wi z law w k)) (wi z law w k)
theorem wi_ok {z : zT} {law : Int32} {w : wT} (Z : zok z) (W : wok z w) (h1 : 1 ≤ zP z) : ∀ {k : Nat}, wok z (wi z law w k)
  | 0 => W
  | k + 1 => by
    intro h e
    have e2 : nxt z law (wi z law w k) = h := Option.some.inj e
    rw [← e2]
    exact nxt_lt Z (wi_ok Z W h1) h1
theorem whoS_c {f1 f2 g1 g2 : Nat → Int32} {p : Nat} (H : ∀ x, x < p → f1 x = f2 x ∧ g1 x = g2 x) : whoS f1 g1 p = whoS f2 g2 p := by
  unfold whoS
  refine fo_congr fun i hi c => ?_
  rw [(H i hi).1, (H i hi).2]
section PI
variable {s : mb_T} {n x h p m : Nat} {z : zT} {w : wT} {am law : Int32}
theorem qA_whoScream (hn : 200 ≤ n) (H : HA z w s) : f_A_whoScream n s = some (whoS w.1 (zS z) (zP z), s) := by
  rw [pA_whoScream hn H.2.1 H.1, whoS_c (fun x hx => ⟨(H.2.2.2.2.2.2.2 x hx).2.1, (H.2.2.2.2.2.2.2 x hx).2.2.2.2.1⟩)]
theorem qA_isOver (hn : 200 ≤ n) (H : HA z w s) : f_A_isOver n s = some ((if ovr z w = true then 1 else 0 : Int32), s) := by
  unfold f_A_isOver
  rw [qA_whoScream hn H, clS]
  have e : (if whoS w.1 (zS z) (zP z) = 0 then 0 else 1 : Int32) = if ovr z w = true then 1 else 0 := by
    unfold ovr
    by_cases c : whoS w.1 (zS z) (zP z) = 0 <;> simp [c]
  rw [e, bz10]
theorem HAfr {t : mb_T} {fs : List (Nat × Nat)} {as : List Nat} (H : HA z w s) (h : Fr fs as s t) (hf : ∀ k, k < 7 → (40, k) ∉ fs := by decide) (ha : (∀ q, q < 55 → 47 ≤ q → q ≠ 49 → q ∉ as) := by decide) : HA z w t := by
  obtain ⟨h5, hp, ho, he, hm, hl, hz, hx⟩ := H
  refine ⟨h5, ?_, ?_, ?_, ?_, ?_, ?_, ?_⟩
  · rw [h.1 40 0 (hf 0 (by decide))]; exact hp
  · rw [h.1 40 2 (hf 2 (by decide))]; exact ho
  · rw [h.1 40 3 (hf 3 (by decide))]; exact he
  · rw [h.1 40 4 (hf 4 (by decide))]; exact hm
  · rw [h.1 40 5 (hf 5 (by decide))]; exact hl
  · rw [h.1 40 6 (hf 6 (by decide))]; exact hz
  · rw [h.2.1 47 (ha 47 (by decide) (by decide) (by decide)), h.2.1 48 (ha 48 (by decide) (by decide) (by decide)), h.2.1 50 (ha 50 (by decide) (by decide) (by decide)), h.2.1 51 (ha 51 (by decide) (by decide) (by decide)), h.2.1 52 (ha 52 (by decide) (by decide) (by decide)), h.2.1 53 (ha 53 (by decide) (by decide) (by decide)), h.2.1 54 (ha 54 (by decide) (by decide) (by decide))]
    exact hx
theorem qA_goOn (hn : 200 ≤ n) (H : HA z w s) (Z : zok z) (W : wok z w) (h1 : 1 ≤ zP z) (hl : lawok law) (hm : m ≤ 100) : ∃ t, f_A_goOn n law (nI m) s = some (nI (sN (fun k => ovr z (wi z law w k)) m), t) ∧ Fr [(40, 2), (40, 4), (40, 5)] [48, 49, 55] s t ∧ HA z (wi z law w (sN (fun k => ovr z (wi z law w k)) m)) t ∧ ∀ j, j < sN (fun k => ovr z (wi z law w k)) m → t.2.1 55 j = nI (nxt z law (wi z law w j)) := by
  obtain ⟨q1, q2, q3⟩ := @sN_p (fun k => ovr z (wi z law w k)) m
  generalize hk : sN (fun k => ovr z (wi z law w k)) m = K at q1 q2 q3
  unfold f_A_goOn
  have L := lpE (F := fun f (t : Int32 × mb_T) => f_A_goOn_2 n (fun x_18 s_19 => some (x_18, s_19)) law (nI m) f t.1 t.2) (R := fun t => some (t.1, t.2)) (fun k (t : Int32 × mb_T) => t.1 = nI k ∧ HA z (wi z law w k) t.2 ∧ Fr [(40, 2), (40, 4), (40, 5)] [48, 49, 55] s t.2 ∧ ∀ j, j < k → t.2.2.1 55 j = nI (nxt z law (wi z law w j))) K ?_ ?_ (t0 := (0, s)) (f := n) ⟨rfl, H, FrR, fun j hj => by cases hj⟩ (by omega)
  · obtain ⟨⟨a, t⟩, ⟨p1, p2, p3, p4⟩, p5⟩ := L
    dsimp only at p1 p2 p3 p4 p5
    subst p1
    exact ⟨t, p5, p3, p2, p4⟩
  · rintro i hi ⟨a, t⟩ ⟨p1, p2, p3, p4⟩
    dsimp only at p1 p2 p3 p4
    subst p1
    have Wi : wok z (wi z law w i) := wi_ok Z W h1
    have hov : ovr z (wi z law w i) = false := q2 i hi
    have hlt := nxt_lt (law := law) Z Wi h1
    have f1 : Fr [] [55] t (sA t 55 i (nI (nxt z law (wi z law w i)))) := FrA
    obtain ⟨u, u1, u2, u3⟩ := pA_pass hn (HAfr p2 f1) hlt
    refine ⟨(nI (i + 1), u), ⟨rfl, u3, ?_, ?_⟩, ?_⟩
    · exact FrT p3 (FrT f1 u2 (ks := [(40, 2), (40, 4), (40, 5)]) (cs := [48, 49, 55]))
    · intro j hj
      show u.2.1 55 j = _
      rw [u2.2.1 55 (by decide), sA2, if_pos rfl, updI]
      by_cases e : j = i
      · rw [if_pos e, e]
      · rw [if_neg e]; exact p4 j (by omega)
    · intro f
      dsimp only
      have h100 : ¬ (100 : Int32) ≤ nI i := by
        have := npi (p := 100) (i := i) (by decide) (by omega)
        exact this
      rw [f_A_goOn_2.eq_2, if_neg (npi (by omega) (by omega)), if_neg h100, qA_isOver hn p2, clS, hov]
      rw [if_pos (by decide), pA_byLaw hn p2 Z Wi h1 hl, clS, wrI (by omega) (by decide), rdI (by omega) (by decide), sA2, if_pos rfl, updI, if_pos rfl, u1, cwS2, nI_1]
  · rintro ⟨a, t⟩ ⟨p1, p2, p3, p4⟩ f
    dsimp only at p1 p2 p3 p4
    subst p1
    dsimp only
    rw [f_A_goOn_2.eq_2]
    by_cases e : K = m
    · rw [e, if_pos npp]
    · have hov : ovr z (wi z law w K) = true := q3 (by omega)
      rw [if_neg (npi (by omega) (by omega))]
      have h100 : ¬ (100 : Int32) ≤ nI K := by
        have := npi (p := 100) (i := K) (by decide) (by omega)
        exact this
      rw [if_neg h100, qA_isOver hn p2, clS, hov, if_pos rfl, if_neg (by decide)]
end PI
