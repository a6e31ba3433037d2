/-! the pure part: all handings of some minutes -/
abbrev bT : Type := Int32 × Int32 × (Nat → Nat)
def fr (z : zT) (w : wT) : Int32 := w.1 (gW w.1 (zP z - 1))
def updN (g : Nat → Nat) (i x : Nat) : Nat → Nat := fun k => if k = i then x else g k
def vis (lf : Bool) (G k : Nat) (fe : Int32) (pa : Nat → Nat) (B : bT) : bT := if (if lf = true then (if nI k ≤ B.1 then 0 else 1 : Int32) else (if nI k = nI G then (if B.2.1 ≤ fe then 0 else 1 : Int32) else 0 : Int32) : Int32) = 0 then B else (nI k, fe, pa)
def srch (lf : Bool) (G : Nat) (z : zT) : Nat → Nat → wT → (Nat → Nat) → bT → bT
  | 0, k, w, pa, B => vis lf G k (fr z w) pa B
  | d + 1, k, w, pa, B => fo (fun x B => if ovr z (stp z x w) = true then B else srch lf G z d (k + 1) (stp z x w) (updN pa k x) B) (vis lf G k (fr z w) pa B) (zP z)
def stl (lf : Bool) (G : Nat) (B : bT) : Bool := if lf = true then decide (B.1 = nI G) else decide (B.1 = nI G) && decide (B.2.1 = 0)
theorem vis_stl {lf : Bool} {G k : Nat} {fe : Int32} {pa : Nat → Nat} {B : bT} (h : stl lf G B = true) (hk : k ≤ G) (hG : G ≤ 6) (hf : ∃ f, f ≤ 99 ∧ fe = nI f) : vis lf G k fe pa B = B := by
  obtain ⟨f, f1, rfl⟩ := hf
  unfold stl at h
  unfold vis
  cases lf with
  | true =>
    simp at h
    simp only [if_true]
    rw [h, if_pos (nI_le hk (by omega)), if_pos rfl]
  | false =>
    simp at h
    have : (0 : Int32) ≤ nI f := nI_pos' (by omega)
    simp only [Bool.false_eq_true, if_false]
    rw [h.2, if_pos this]
    by_cases c : nI k = nI G <;> simp [c]
theorem fr_r {z : zT} {w : wT} (h1 : 1 ≤ zP z) (R : wrg z w) : ∃ f, f ≤ 99 ∧ fr z w = nI f := by
  have := @gW_le w.1 (zP z - 1)
  exact R _ (by omega)
theorem fo_id {α : Type} {g : Nat → α → α} {a : α} : ∀ {p : Nat}, (∀ i, i < p → g i a = a) → fo g a p = a
  | 0, _ => rfl
  | p + 1, h => by rw [fo_s, fo_id (p := p) (fun i hi => h i (by omega)), h p (by omega)]
theorem srch_stl {lf : Bool} {G : Nat} {z : zT} (hG : G ≤ 6) (h1 : 1 ≤ zP z) : ∀ {d k : Nat} {w : wT} {pa : Nat → Nat} {B : bT}, k + d = G → wrg z w → stl lf G B = true → srch lf G z d k w pa B = B
  | 0, k, w, pa, B, hk, R, h => vis_stl h (by omega) hG (fr_r h1 R)
  | d + 1, k, w, pa, B, hk, R, h => by
    unfold srch
    rw [vis_stl h (by omega) hG (fr_r h1 R)]
    refine fo_id fun i hi => ?_
    split
    · rfl
    · exact srch_stl hG h1 (by omega) stp_r h
/-- the search's cells -/
def HSr (lf : Bool) (G : Nat) (B : bT) (s : mb_T) : Prop := s.1 60 1 = (if lf = true then 1 else 0) ∧ s.1 60 2 = nI G ∧ s.1 60 4 = B.1 ∧ s.1 60 5 = B.2.1 ∧ ∀ i, i < B.1.toNatClampNeg → s.2.1 64 i = nI (B.2.2 i)
section TA
variable {s t u : mb_T} {n p a b q m i c k x y j l h K d G : Nat} {z : zT} {w w2 : wT} {lf : Bool} {B : bT} {pa : Nat → Nat} {fs : List (Nat × Nat)} {as : List Nat}
theorem HSr_fr (H : HSr lf G B s) (h : Fr fs as s t) (hf : (∀ k ∈ [1, 2, 4, 5], (60, k) ∉ fs) := by decide) (ha : 64 ∉ as := by decide) : HSr lf G B t := by
  unfold HSr
  rw [h.1 60 1 (hf 1 (by decide)), h.1 60 2 (hf 2 (by decide)), h.1 60 4 (hf 4 (by decide)), h.1 60 5 (hf 5 (by decide)), h.2.1 64 ha]
  exact H
theorem HS_fr (H : HS z w d s) (h : Fr fs as s t) (ha : 56 ∉ as := by decide) : HS z w d t := by
  unfold HS
  rw [h.2.1 56 ha]
  exact H
theorem pS_weigh (hn : 200 ≤ n) (A : HA z w s) (h1 : 1 ≤ zP z) (S : HSr lf G B s) (hk : k ≤ 6) (P : ∀ i, i < k → s.2.1 61 i = nI (pa i)) : ∃ u, f_S_weigh n (nI k) s = some u ∧ HSr lf G (vis lf G k (fr z w) pa B) u ∧ Fr [(60, 4), (60, 5)] [64] s u := by
  obtain ⟨s1, s2, s3, s4, s5⟩ := S
  unfold f_S_weigh
  rw [show f_A_greatestFear n s = some (fr z w, s) from qA_greatestFear hn A h1, clS]
  have ec : (if (s.1 60 1) = 0 then (if nI k = (s.1 60 2) then (if (s.1 60 5) ≤ fr z w then 0 else 1 : Int32) else 0 : Int32) else (if nI k ≤ (s.1 60 4) then 0 else 1 : Int32) : Int32) = (if lf = true then (if nI k ≤ B.1 then 0 else 1 : Int32) else (if nI k = nI G then (if B.2.1 ≤ fr z w then 0 else 1 : Int32) else 0 : Int32) : Int32) := by
    rw [s1, s2, s3, s4]
    cases lf <;> rfl
  rw [ec]
  unfold vis
  by_cases c : (if lf = true then (if nI k ≤ B.1 then 0 else 1 : Int32) else (if nI k = nI G then (if B.2.1 ≤ fr z w then 0 else 1 : Int32) else 0 : Int32) : Int32) = 0
  · rw [if_pos c, if_pos c]
    exact ⟨s, rfl, ⟨s1, s2, s3, s4, s5⟩, FrR⟩
  · rw [if_neg c, if_neg c, bdS, bdS]
    have e := cpI (s := sF (sF s 60 4 (nI k)) 60 5 (fr z w)) (sp := 0) (dp := 0) (m := k) (n0 := 6) (n1 := 6) (a0 := 61) (a1 := 64) (k := fun s_14 => some s_14) (by omega) (by omega) (by decide) (by decide)
    refine ⟨_, e, ⟨s1, s2, rfl, rfl, fun i hi => ?_⟩, FrT (FrT (FrF (i := 60) (k := 4)) (FrF (i := 60) (k := 5)) (ks := [(60, 4), (60, 5)]) (cs := [])) (FrV (q := 64))⟩
    have hi2 : i < k := by rwa [nI_clamp (by omega)] at hi
    show va_cpy (s.2.1 61) (s.2.1 64) 0 0 k i = _
    rw [cpy00 hi2, P i hi2]
theorem pS_set (S : HSr lf G B s) : f_S_isSettled n s = some ((if stl lf G B = true then 1 else 0 : Int32), s) := by
  obtain ⟨s1, s2, s3, s4, s5⟩ := S
  unfold f_S_isSettled stl mb_bz
  rw [s1, s2, s3, s4]
  cases lf with
  | true => by_cases c : B.1 = nI G <;> simp [c]
  | false => by_cases c : B.1 = nI G <;> by_cases e : B.2.1 = 0 <;> simp [c, e]
theorem pS_hand (hn : 200 ≤ n) (h1 : 1 ≤ zP z) (hG : G ≤ 6) : ∀ (d q k : Nat) (w : wT) (pa : Nat → Nat) (B : bT) (s : mb_T), d < q → k + d = G → HA z w s → wrg z w → HSr lf G B s → (∀ i, i < k → s.2.1 61 i = nI (pa i)) → ∃ u, f_S_handFrom n q (nI k) s = some u ∧ HA z w u ∧ HSr lf G (srch lf G z d k w pa B) u ∧ Fr [(40, 2), (40, 4), (40, 5), (60, 4), (60, 5)] [48, 49, 56, 61, 64] s u ∧ (∀ i, i < k → u.2.1 61 i = s.2.1 61 i) ∧ ∀ j, j < 8 * k → u.2.1 56 j = s.2.1 56 j := by
  intro d
  induction d with
  | zero =>
    intro q k w pa B s hq hk A R S P
    obtain ⟨q, rfl⟩ : ∃ e, q = e + 1 := ⟨q - 1, by omega⟩
    have h5 := A.1
    obtain ⟨u, u1, u2, u3⟩ := pS_weigh hn A h1 S (by omega) P
    refine ⟨u, ?_, HAfr A u3, u2, FrI u3, fun i _ => by rw [u3.2.1 61 (by decide)], fun j _ => by rw [u3.2.1 56 (by decide)]⟩
    show f_S_handFrom_b n (f_S_handFrom n q) (nI k) s = some u
    unfold f_S_handFrom_b
    rw [u1, cwS2, u2.2.1, if_pos (nI_le (by omega) (by omega))]
  | succ d ih =>
    intro q k w pa B s hq hk A R S P
    obtain ⟨q, rfl⟩ : ∃ e, q = e + 1 := ⟨q - 1, by omega⟩
    have h5 := A.1
    obtain ⟨u, u1, u2, u3⟩ := pS_weigh hn A h1 S (by omega) P
    obtain ⟨v, v1, v2, v3, v4, v5⟩ := qA_save (n := n) (HAfr A u3) (show k < 6 by omega)
    obtain ⟨Bx, hBx⟩ : ∃ Bx : Nat → bT, Bx = fo (fun x B => if ovr z (stp z x w) = true then B else srch lf G z d (k + 1) (stp z x w) (updN pa k x) B) (vis lf G k (fr z w) pa B) := ⟨_, rfl⟩
    have Bs : ∀ x, Bx (x + 1) = if ovr z (stp z x w) = true then Bx x else srch lf G z d (k + 1) (stp z x w) (updN pa k x) (Bx x) := fun x => by rw [hBx]; rfl
    obtain ⟨q1, q2, q3⟩ := @sN_p (fun x => stl lf G (Bx x)) (zP z)
    generalize hK : sN (fun x => stl lf G (Bx x)) (zP z) = K at q1 q2 q3
    have stab : stl lf G (Bx K) = true → ∀ e, K + e ≤ zP z → Bx (K + e) = Bx K := by
      intro hs e
      induction e with
      | zero => intro _; rfl
      | succ e ihe =>
        intro he
        rw [← Nat.add_assoc, Bs, ihe (by omega)]
        split
        · rfl
        · exact srch_stl hG h1 (by omega) stp_r hs
    have fin : Bx K = Bx (zP z) := by
      by_cases c : K = zP z
      · rw [c]
      · have := stab (q3 (by omega)) (zP z - K) (by omega)
        rw [show K + (zP z - K) = zP z by omega] at this
        exact this.symm
    have L := lpE (F := fun f (t : Int32 × mb_T) => f_S_handFrom_28 n (f_S_handFrom n q) (fun x_28 s_29 => some s_29) (nI k) f t.1 t.2) (R := fun t => some t.2) (fun x (t : Int32 × mb_T) => t.1 = nI x ∧ HA z w t.2 ∧ HS z w k t.2 ∧ HSr lf G (Bx x) t.2 ∧ Fr [(40, 2), (40, 4), (40, 5), (60, 4), (60, 5)] [48, 49, 56, 61, 64] s t.2 ∧ (∀ i, i < k → t.2.2.1 61 i = s.2.1 61 i) ∧ ∀ j, j < 8 * k → t.2.2.1 56 j = s.2.1 56 j) K ?_ ?_ (t0 := (0, v)) (f := n) ⟨rfl, v3, v4, by rw [hBx]; exact HSr_fr u2 v2, FrT u3 v2, fun i _ => by rw [v2.2.1 61 (by decide), u3.2.1 61 (by decide)], fun j hj => by rw [v5 j (by omega), u3.2.1 56 (by decide)]⟩ (by omega)
    · obtain ⟨⟨a, t⟩, ⟨p1, p2, p3, p4, p5, p6, p7⟩, p8⟩ := L
      dsimp only at p1 p2 p3 p4 p5 p6 p7 p8
      refine ⟨t, ?_, p2, ?_, p5, p6, p7⟩
      · show f_S_handFrom_b n (f_S_handFrom n q) (nI k) s = some t
        unfold f_S_handFrom_b
        rw [u1, cwS2, u2.2.1, if_neg (npi (by omega) (by omega)), if_pos (show nI k < (6 : Int32) from nI_lt (b := 6) (by omega) (by decide)), v1, cwS2]
        exact p8
      · have : srch lf G z (d + 1) k w pa B = Bx (zP z) := by rw [hBx]; rfl
        rw [this, ← fin]; exact p4
    · rintro i hi ⟨a, t⟩ ⟨p1, p2, p3, p4, p5, p6, p7⟩
      dsimp only at p1 p2 p3 p4 p5 p6 p7
      subst p1
      have hst : stl lf G (Bx i) = false := q2 i hi
      have f1 : Fr [] [61] t (sA t 61 k (nI i)) := FrA
      obtain ⟨e, e1, e2, e3⟩ := pA_pass hn (HAfr p2 f1) (show i < zP z by omega)
      have S2 : HSr lf G (Bx i) e := HSr_fr (HSr_fr p4 f1) e2
      have P2 : ∀ j, j < k + 1 → e.2.1 61 j = nI (updN pa k i j) := by
        intro j hj
        rw [e2.2.1 61 (by decide), sA2, if_pos rfl, updI]
        unfold updN
        by_cases c : j = k
        · rw [if_pos c, if_pos c]
        · rw [if_neg c, if_neg c, p6 j (by omega), P j (by omega)]
      have H2 : HS z w k e := HS_fr (HS_fr p3 f1) e2
      have F2 : Fr [(40, 2), (40, 4), (40, 5), (60, 4), (60, 5)] [48, 49, 56, 61, 64] s e := FrT (FrT p5 f1 (ks := [(40, 2), (40, 4), (40, 5), (60, 4), (60, 5)]) (cs := [48, 49, 56, 61, 64])) e2
      have g61 : ∀ j, j < k → e.2.1 61 j = s.2.1 61 j := by
        intro j hj
        rw [e2.2.1 61 (by decide), sA2, if_pos rfl, updI, if_neg (by omega), p6 j hj]
      have g56 : ∀ j, j < 8 * k → e.2.1 56 j = s.2.1 56 j := by
        intro j hj
        rw [e2.2.1 56 (by decide), f1.2.1 56 (by decide), p7 j hj]
      cases ho : ovr z (stp z i w) with
      | true =>
        obtain ⟨o, o1, o2, o3⟩ := qA_restore (n := n) e3 H2 (show k < 6 by omega)
        refine ⟨(nI (i + 1), o), ⟨rfl, o3, HS_fr H2 o2, ?_, FrT F2 o2, fun j hj => by rw [o2.2.1 61 (by decide)]; exact g61 j hj, fun j hj => by rw [o2.2.1 56 (by decide)]; exact g56 j hj⟩, ?_⟩
        · rw [Bs, ho, if_pos rfl]; exact HSr_fr S2 o2
        · intro f
          dsimp only
          rw [f_S_handFrom_28.eq_2, p2.2.1, if_neg (npi (by omega) (by omega)), pS_set p4, clS, hst]
          rw [if_pos (by decide), wrI (by omega) (by decide), e1, cwS2, qA_o1 hn e3 ho, clS, mb_jn, if_neg (by decide)]
          show mb_cw (f_A_restore n (nI k) e) _ = _
          rw [o1, cwS2, nI_1]
      | false =>
        obtain ⟨y, y1, y2, y3, y4, y5, y6⟩ := ih q (k + 1) (stp z i w) (updN pa k i) (Bx i) e (by omega) (by omega) e3 stp_r S2 P2
        have H3 : HS z w k y := by
          obtain ⟨a1, a2, a3, a4⟩ := H2
          exact ⟨fun x hx => by rw [y6 _ (by omega)]; exact a1 x hx, by rw [y6 _ (by omega)]; exact a2, by rw [y6 _ (by omega)]; exact a3, by rw [y6 _ (by omega)]; exact a4⟩
        obtain ⟨o, o1, o2, o3⟩ := qA_restore (n := n) y2 H3 (show k < 6 by omega)
        refine ⟨(nI (i + 1), o), ⟨rfl, o3, HS_fr H3 o2, ?_, FrT (FrT F2 y4 (ks := [(40, 2), (40, 4), (40, 5), (60, 4), (60, 5)]) (cs := [48, 49, 56, 61, 64])) o2, fun j hj => by rw [o2.2.1 61 (by decide), y5 j (by omega)]; exact g61 j hj, fun j hj => by rw [o2.2.1 56 (by decide), y6 j (by omega)]; exact g56 j hj⟩, ?_⟩
        · rw [Bs, ho, if_neg (by decide)]; exact HSr_fr y3 o2
        · intro f
          dsimp only
          rw [f_S_handFrom_28.eq_2, p2.2.1, if_neg (npi (by omega) (by omega)), pS_set p4, clS, hst]
          rw [if_pos (by decide), wrI (by omega) (by decide), e1, cwS2, qA_o0 hn e3 ho, clS, mb_jn, if_pos rfl, nI_1, y1, cwS2]
          show mb_cw (f_A_restore n (nI k) y) _ = _
          rw [o1, cwS2, nI_1]
    · rintro ⟨a, t⟩ ⟨p1, p2, p3, p4, p5, p6, p7⟩ f
      dsimp only at p1 p2 p3 p4 p5 p6 p7
      subst p1
      dsimp only
      rw [f_S_handFrom_28.eq_2, p2.2.1]
      by_cases c : K = zP z
      · rw [if_pos (by rw [c]; exact npp)]
      · have hst : stl lf G (Bx K) = true := q3 (by omega)
        rw [if_neg (npi (by omega) (by omega)), pS_set p4, clS, hst, if_pos rfl, if_neg (by decide)]
end TA
