/-! the pure part: all handings, in the model -/
def HDp (z : zT) (w : wT) (d : Nat) (s : mb_T) : Prop := (∀ x, x < zP z → s.2.1 234 (8 * d + x) = w.1 x) ∧ s.2.1 234 (8 * d + 5) = w.2.1 ∧ s.2.1 234 (8 * d + 6) = oM w.2.2.2 ∧ s.2.1 234 (8 * d + 7) = w.2.2.1
def mBc (B : bT) (s : mb_T) : Prop := s.1 200 38 = (if B.1 = -1 then 1048576 else B.2.1) ∧ ∀ i, i < B.1.toNatClampNeg → s.2.1 236 i = nI (B.2.2 i)
def mBl (B : bT) (s : mb_T) : Prop := s.1 200 37 = B.1 ∧ ∀ i, i < B.1.toNatClampNeg → s.2.1 236 i = nI (B.2.2 i)
def okC (G : Nat) (B : bT) : Prop := (B.1 = -1 ∧ B.2.1 = 100) ∨ (B.1 = nI G ∧ ∃ f, f ≤ 99 ∧ B.2.1 = nI f)
def okL (B : bT) : Prop := ∃ L, L ≤ 6 ∧ B.1 = nI L
section TB
variable {s t u : mb_T} {n p a b q m i c k x y j l h K d G : Nat} {z : zT} {w w2 : wT} {lf : Bool} {B : bT} {pa : Nat → Nat} {fs : List (Nat × Nat)} {as : List Nat} {v : Int32}
theorem HDp_fr (H : HDp z w d s) (h : Fr fs as s t) (ha : 234 ∉ as := by decide) : HDp z w d t := by
  unfold HDp
  rw [h.2.1 234 ha]
  exact H
theorem mBc_fr (H : mBc B s) (h : Fr fs as s t) (hf : (200, 38) ∉ fs := by decide) (ha : 236 ∉ as := by decide) : mBc B t := by
  unfold mBc
  rw [h.1 200 38 hf, h.2.1 236 ha]
  exact H
theorem mBl_fr (H : mBl B s) (h : Fr fs as s t) (hf : (200, 37) ∉ fs := by decide) (ha : 236 ∉ as := by decide) : mBl B t := by
  unfold mBl
  rw [h.1 200 37 hf, h.2.1 236 ha]
  exact H
theorem nI_8m : (8 : Int32) * nI x = nI (8 * x) := nI_mul 8 x
theorem pM_putD (hn : 200 ≤ n) (H : HM z w s) (hd : d < 7) : ∃ t, f_M_putDepth n (nI d) s = some t ∧ Fr [] [234] s t ∧ HM z w t ∧ HDp z w d t ∧ ∀ j, j < 8 * d → t.2.1 234 j = s.2.1 234 j := by
  have h5 := H.1
  have e := lp (F := fun f (t : Int32 × mb_T) => f_M_putDepth_2 n (fun x_8 s_9 => mb_wr s_9 234 56 ((8 * nI d) + 5) (s_9.1 200 11) fun s_10 => mb_wr s_10 234 56 ((8 * nI d) + 6) (s_10.1 200 25) fun s_13 => mb_wr s_13 234 56 ((8 * nI d) + 7) (s_13.1 200 24) fun s_16 => some s_16) (nI d) f t.1 t.2) (R := some (sV s 234 (upd (upd (upd (va_cpy (s.2.1 213) (s.2.1 234) 0 (8 * d) 5) (8 * d + 5) (s.1 200 11)) (8 * d + 6) (s.1 200 25)) (8 * d + 7) (s.1 200 24)))) (fun i => (nI i, sV s 234 (va_cpy (s.2.1 213) (s.2.1 234) 0 (8 * d) i))) 5 ?_ ?_ n (by omega)
  · dsimp only at e
    rw [cpy_0, sVid] at e
    refine ⟨_, e, FrV, HMfr H FrV, ?_, ?_⟩
    · obtain ⟨q1, q2, q3, q4, q5, q6, q7, q8, q9⟩ := H
      refine ⟨fun x hx => ?_, ?_, ?_, ?_⟩
      · rw [sV2, if_pos rfl, updI, if_neg (by omega), updI, if_neg (by omega), updI, if_neg (by omega), cpy_i (by omega), show 0 + x = x by omega, (q9 x hx).2.1]
      · rw [sV2, if_pos rfl, updI, if_neg (by omega), updI, if_neg (by omega), updI, if_pos rfl]; exact q3
      · rw [sV2, if_pos rfl, updI, if_neg (by omega), updI, if_pos rfl]; exact q5
      · rw [sV2, if_pos rfl, updI, if_pos rfl]; exact q4
    · intro j hj
      rw [sV2, if_pos rfl, updI, if_neg (by omega), updI, if_neg (by omega), updI, if_neg (by omega), cpy_o (by omega)]
  · intro i hi f
    dsimp only
    have g : (sV s 234 (va_cpy (s.2.1 213) (s.2.1 234) 0 (8 * d) i)).2.1 213 i = s.2.1 213 (0 + i) := by rw [sV2, if_neg (by decide), show 0 + i = i by omega]
    rw [f_M_putDepth_2.eq_2, if_neg (show ¬ (5 : Int32) ≤ nI i from npi (p := 5) (by decide) hi), rdI (by omega) (by decide), nI_8m, nI_add, wrI (by omega) (by decide), g, sAV, nI_1, cpy_s]
  · intro f
    dsimp only
    rw [f_M_putDepth_2.eq_2, if_pos (show (5 : Int32) ≤ nI 5 by decide), nI_8m, nI_5, nI_6, nI_7, wrI (by omega) (by decide), wrI (by omega) (by decide), wrI (by omega) (by decide), sAV, sAV, sAV]
    rfl
theorem pM_back (hn : 200 ≤ n) (H : HM z w2 s) (P : HDp z w d s) (hd : d < 7) : ∃ t, f_M_backTo n (nI d) s = some t ∧ Fr [(200, 11), (200, 24), (200, 25)] [213] s t ∧ HM z w t := by
  have h5 := H.1
  have e := lp (F := fun f (t : Int32 × mb_T) => f_M_backTo_2 n (fun x_8 s_9 => mb_rd s_9 234 56 ((8 * nI d) + 5) fun x_10 => mb_bd (sF s_9 200 11 x_10) fun s_13 => mb_rd s_13 234 56 ((8 * nI d) + 6) fun x_15 => mb_bd (sF s_13 200 25 x_15) fun s_18 => mb_rd s_18 234 56 ((8 * nI d) + 7) fun x_20 => mb_bd (sF s_18 200 24 x_20) fun s_23 => some s_23) (nI d) f t.1 t.2) (R := some (sF (sF (sF (sV s 213 (foU (fun i => s.2.1 234 (8 * d + i)) (s.2.1 213) 5)) 200 11 (s.2.1 234 (8 * d + 5))) 200 25 (s.2.1 234 (8 * d + 6))) 200 24 (s.2.1 234 (8 * d + 7)))) (fun i => (nI i, sV s 213 (foU (fun i => s.2.1 234 (8 * d + i)) (s.2.1 213) i))) 5 ?_ ?_ n (by omega)
  · have e2 : sV s 213 (foU (fun i => s.2.1 234 (8 * d + i)) (s.2.1 213) 0) = s := sVid
    dsimp only at e
    rw [e2] at e
    refine ⟨_, e, FrT (FrT (FrT (FrV (q := 213)) (FrF (i := 200) (k := 11)) (ks := [(200, 11)]) (cs := [213])) (FrF (i := 200) (k := 25)) (ks := [(200, 11), (200, 25)]) (cs := [213])) (FrF (i := 200) (k := 24)), ?_⟩
    obtain ⟨q1, q2, q3, q4, q5, q6, q7, q8, q9⟩ := H
    refine ⟨q1, q2, P.2.1, P.2.2.2, P.2.2.1, q6, q7, q8, fun x hx => ?_⟩
    obtain ⟨x1, x2, x3, x4, x5⟩ := q9 x hx
    refine ⟨x1, ?_, x3, x4, x5⟩
    show foU (fun i => s.2.1 234 (8 * d + i)) (s.2.1 213) 5 x = _
    rw [foU_get, if_pos (by omega), P.1 x hx]
  · intro i hi f
    dsimp only
    have g : (sV s 213 (foU (fun i => s.2.1 234 (8 * d + i)) (s.2.1 213) i)).2.1 234 (8 * d + i) = s.2.1 234 (8 * d + i) := by rw [sV2, if_neg (by decide)]
    rw [f_M_backTo_2.eq_2, if_neg (show ¬ (5 : Int32) ≤ nI i from npi (p := 5) (by decide) hi), nI_8m, nI_add, rdI (by omega) (by decide), wrI (by omega) (by decide), g, sAV, nI_1, foU_s]
  · intro f
    dsimp only
    rw [f_M_backTo_2.eq_2, if_pos (show (5 : Int32) ≤ nI 5 by decide), nI_8m, nI_5, nI_6, nI_7, rdI (by omega) (by decide), bdS, rdI (by omega) (by decide), bdS, rdI (by omega) (by decide), bdS]
    rfl
theorem pM_copyL (hn : 200 ≤ n) (hk : k ≤ 6) : f_M_copyLaid n (nI k) s = some (sV s 236 (foU (s.2.1 235) (s.2.1 236) k)) := by
  unfold f_M_copyLaid
  have e := lp (F := fun f (t : Int32 × mb_T) => f_M_copyLaid_2 n (fun x_8 s_9 => some s_9) (nI k) f t.1 t.2) (R := some (sV s 236 (foU (s.2.1 235) (s.2.1 236) k))) (fun i => (nI i, sV s 236 (foU (s.2.1 235) (s.2.1 236) i))) k ?_ ?_ n (by omega)
  · have e2 : sV s 236 (foU (s.2.1 235) (s.2.1 236) 0) = s := sVid
    dsimp only at e
    rw [e2] at e
    exact e
  · intro i hi f
    dsimp only
    have g : (sV s 236 (foU (s.2.1 235) (s.2.1 236) i)).2.1 235 i = s.2.1 235 i := by rw [sV2, if_neg (by decide)]
    rw [f_M_copyLaid_2.eq_2, if_neg (npi (by omega) hi), rdI (by omega) (by decide), wrI (by omega) (by decide), g, sAV, nI_1, foU_s]
  · intro f
    dsimp only
    rw [f_M_copyLaid_2.eq_2, if_pos npp]
theorem vis_c (hk : k < G) (hG : G ≤ 6) : vis false G k v pa B = B := by
  unfold vis
  have : ¬ nI k = nI G := by rw [nI_eq (by omega) (by omega)]; omega
  simp [this]
theorem cal_over (hn : 200 ≤ n) (M : HM z w s) (ho : ovr z w = true) {X Y : Int32} : f_M_calmOn n (q + 1) X Y s = some s := by
  show f_M_calmOn_b n (f_M_calmOn n q) X Y s = some s
  unfold f_M_calmOn_b
  rw [qM_o1 hn M ho, clS, if_neg (by decide)]
theorem pM_calm (hn : 200 ≤ n) (Z : zok z) (h1 : 1 ≤ zP z) (hG : G ≤ 6) : ∀ (d q k : Nat) (w : wT) (pa : Nat → Nat) (B : bT) (s : mb_T), d < q → k + d = G → HM z w s → wrg z w → ovr z w = false → mBc B s → okC G B → (∀ i, i < k → s.2.1 235 i = nI (pa i)) → ∃ u, f_M_calmOn n q (nI k) (nI G) s = some u ∧ HM z w u ∧ mBc (srch false G z d k w pa B) u ∧ okC G (srch false G z d k w pa B) ∧ Fr [(200, 11), (200, 24), (200, 25), (200, 38)] [213, 228, 234, 235, 236] s u ∧ (∀ i, i < k → u.2.1 235 i = s.2.1 235 i) ∧ ∀ j, j < 8 * k → u.2.1 234 j = s.2.1 234 j := by
  intro d
  induction d with
  | zero =>
    intro q k w pa B s hq hk M R ho mB ok P
    obtain ⟨q, rfl⟩ : ∃ e, q = e + 1 := ⟨q - 1, by omega⟩
    have h5 := M.1
    have ek : k = G := by omega
    subst ek
    obtain ⟨f, f1, f2⟩ := fr_r h1 R
    have hl := @gW_le w.1 (zP z - 1)
    have ev : srch false k z 0 k w pa B = if B.2.1 ≤ fr z w then B else (nI k, fr z w, pa) := by
      show vis false k k (fr z w) pa B = _
      unfold vis
      by_cases c : B.2.1 ≤ fr z w <;> simp [c]
    have ec : ((s.1 200 38) ≤ fr z w) = (B.2.1 ≤ fr z w) := by
      rw [mB.1]
      rcases ok with ⟨o1, o2⟩ | ⟨o1, o2⟩
      · rw [if_pos o1, o2, f2]
        have a1 : ¬ (1048576 : Int32) ≤ nI f := nI_ge (b := 1048576) (by omega) (by decide)
        have a2 : ¬ (100 : Int32) ≤ nI f := nI_ge (b := 100) (by omega) (by decide)
        simp [a1, a2]
      · rw [if_neg (by rw [o1]; exact nI_m1 (by omega))]
    have E : f_M_calmOn n (q + 1) (nI k) (nI k) s = if B.2.1 ≤ fr z w then some s else some (sV (sF s 200 38 (fr z w)) 236 (foU (s.2.1 235) (s.2.1 236) k)) := by
      show f_M_calmOn_b n (f_M_calmOn n q) (nI k) (nI k) s = _
      unfold f_M_calmOn_b
      rw [qM_o0 hn M ho, clS, if_pos rfl, if_pos rfl, qM_greatest hn M h1, clS, qM_grFear M h1]
      show (if (s.1 200 38) ≤ fr z w then some s else mb_bd (sF s 200 38 (fr z w)) fun s_27 => mb_cw (f_M_copyLaid n (nI k) s_27) fun s_29 => some s_29) = _
      simp only [ec]
      by_cases c : B.2.1 ≤ fr z w
      · rw [if_pos c, if_pos c]
      · rw [if_neg c, if_neg c, bdS, pM_copyL hn hG, cwS2]
        rfl
    rw [ev, E]
    by_cases c : B.2.1 ≤ fr z w
    · rw [if_pos c, if_pos c]
      exact ⟨s, rfl, M, mB, ok, FrR, fun _ _ => rfl, fun _ _ => rfl⟩
    · rw [if_neg c, if_neg c]
      have F : Fr [(200, 38)] [236] s (sV (sF s 200 38 (fr z w)) 236 (foU (s.2.1 235) (s.2.1 236) k)) := FrT (FrF (i := 200) (k := 38)) (FrV (q := 236))
      refine ⟨_, rfl, HMfr M F, ⟨?_, fun i hi => ?_⟩, Or.inr ⟨rfl, f, f1, f2⟩, FrI F, fun i _ => by rw [F.2.1 235 (by decide)], fun j _ => by rw [F.2.1 234 (by decide)]⟩
      · show fr z w = if nI k = -1 then 1048576 else fr z w
        rw [if_neg (nI_m1 (by omega))]
      · have hi2 : i < k := by rwa [nI_clamp (by omega)] at hi
        show foU (s.2.1 235) (s.2.1 236) k i = _
        rw [foU_get, if_pos hi2, P i hi2]
  | succ d ih =>
    intro q k w pa B s hq hk M R ho mB ok P
    obtain ⟨q, rfl⟩ : ∃ e, q = e + 1 := ⟨q - 1, by omega⟩
    have h5 := M.1
    obtain ⟨v, v1, v2, v3, v4, v5⟩ := pM_putD hn M (show k < 7 by omega)
    obtain ⟨Bx, hBx⟩ : ∃ Bx : Nat → bT, Bx = fo (fun x B => if ovr z (stp z x w) = true then B else srch false G z d (k + 1) (stp z x w) (updN pa k x) B) (vis false G k (fr z w) pa B) := ⟨_, rfl⟩
    have B0 : Bx 0 = B := by rw [hBx]; exact vis_c (by omega) hG
    have Bs : ∀ x, Bx (x + 1) = if ovr z (stp z x w) = true then Bx x else srch false G z d (k + 1) (stp z x w) (updN pa k x) (Bx x) := fun x => by rw [hBx]; rfl
    have L := lpE (F := fun f (t : Int32 × mb_T) => f_M_calmOn_49 n (f_M_calmOn n q) (fun x_18 s_19 => some s_19) (nI k) (nI G) f t.1 t.2) (R := fun t => some t.2) (fun x (t : Int32 × mb_T) => t.1 = nI x ∧ HM z w t.2 ∧ HDp z w k t.2 ∧ mBc (Bx x) t.2 ∧ okC G (Bx x) ∧ Fr [(200, 11), (200, 24), (200, 25), (200, 38)] [213, 228, 234, 235, 236] s t.2 ∧ (∀ i, i < k → t.2.2.1 235 i = s.2.1 235 i) ∧ ∀ j, j < 8 * k → t.2.2.1 234 j = s.2.1 234 j) (zP z) ?_ ?_ (t0 := (0, v)) (f := n) ⟨rfl, v3, v4, by rw [B0]; exact mBc_fr mB v2, by rw [B0]; exact ok, FrI v2, fun i _ => by rw [v2.2.1 235 (by decide)], fun j hj => v5 j hj⟩ (by omega)
    · obtain ⟨⟨a, t⟩, ⟨p1, p2, p3, p4, p9, p5, p6, p7⟩, p8⟩ := L
      dsimp only at p1 p2 p3 p4 p5 p6 p7 p8 p9
      have eB : srch false G z (d + 1) k w pa B = Bx (zP z) := by rw [hBx]; rfl
      refine ⟨t, ?_, p2, by rw [eB]; exact p4, by rw [eB]; exact p9, p5, p6, p7⟩
      show f_M_calmOn_b n (f_M_calmOn n q) (nI k) (nI G) s = some t
      unfold f_M_calmOn_b
      rw [qM_o0 hn M ho, clS, if_pos rfl, if_neg (by rw [nI_eq (by omega) (by omega)]; omega), v1, cwS2]
      exact p8
    · rintro i hi ⟨a, t⟩ ⟨p1, p2, p3, p4, p9, p5, p6, p7⟩
      dsimp only at p1 p2 p3 p4 p5 p6 p7 p9
      subst p1
      have f1 : Fr [] [235] t (sA t 235 k (nI i)) := FrA
      obtain ⟨e, e1, e2, e3⟩ := pM_pass hn (HMfr p2 f1) Z hi
      have S2 : mBc (Bx i) e := mBc_fr (mBc_fr p4 f1) e2
      have P2 : ∀ j, j < k + 1 → e.2.1 235 j = nI (updN pa k i j) := by
        intro j hj
        rw [e2.2.1 235 (by decide), sA2, if_pos rfl, updI]
        unfold updN
        by_cases c : j = k
        · rw [if_pos c, if_pos c]
        · rw [if_neg c, if_neg c, p6 j (by omega), P j (by omega)]
      have H2 : HDp z w k e := HDp_fr (HDp_fr p3 f1) e2
      have F2 : Fr [(200, 11), (200, 24), (200, 25), (200, 38)] [213, 228, 234, 235, 236] s e := FrT (FrT p5 f1 (ks := [(200, 11), (200, 24), (200, 25), (200, 38)]) (cs := [213, 228, 234, 235, 236])) e2
      have g35 : ∀ j, j < k → e.2.1 235 j = s.2.1 235 j := by
        intro j hj
        rw [e2.2.1 235 (by decide), sA2, if_pos rfl, updI, if_neg (by omega), p6 j hj]
      have g34 : ∀ j, j < 8 * k → e.2.1 234 j = s.2.1 234 j := by
        intro j hj
        rw [e2.2.1 234 (by decide), f1.2.1 234 (by decide), p7 j hj]
      have key : ∃ y, f_M_calmOn n q (nI (k + 1)) (nI G) e = some y ∧ HM z (stp z i w) y ∧ mBc (Bx (i + 1)) y ∧ okC G (Bx (i + 1)) ∧ Fr [(200, 11), (200, 24), (200, 25), (200, 38)] [213, 228, 234, 235, 236] e y ∧ (∀ i, i < k + 1 → y.2.1 235 i = e.2.1 235 i) ∧ ∀ j, j < 8 * (k + 1) → y.2.1 234 j = e.2.1 234 j := by
        rw [Bs]
        cases ho2 : ovr z (stp z i w) with
        | true =>
          obtain ⟨q, rfl⟩ : ∃ e, q = e + 1 := ⟨q - 1, by omega⟩
          rw [if_pos rfl]
          exact ⟨e, cal_over hn e3 ho2, e3, S2, p9, FrR, fun _ _ => rfl, fun _ _ => rfl⟩
        | false =>
          rw [if_neg (by decide)]
          obtain ⟨y, y1, y2, y3, y4, y5, y6, y7⟩ := ih q (k + 1) (stp z i w) (updN pa k i) (Bx i) e (by omega) (by omega) e3 stp_r ho2 S2 p9 P2
          exact ⟨y, y1, y2, y3, y4, y5, y6, y7⟩
      obtain ⟨y, y1, y2, y3, y4, y5, y6, y7⟩ := key
      have H3 : HDp z w k y := by
        obtain ⟨a1, a2, a3, a4⟩ := H2
        exact ⟨fun x hx => by rw [y7 _ (by omega)]; exact a1 x hx, by rw [y7 _ (by omega)]; exact a2, by rw [y7 _ (by omega)]; exact a3, by rw [y7 _ (by omega)]; exact a4⟩
      obtain ⟨o, o1, o2, o3⟩ := pM_back hn y2 H3 (show k < 7 by omega)
      refine ⟨(nI (i + 1), o), ⟨rfl, o3, HDp_fr H3 o2, mBc_fr y3 o2, y4, FrT (FrT F2 y5 (ks := [(200, 11), (200, 24), (200, 25), (200, 38)]) (cs := [213, 228, 234, 235, 236])) o2, fun j hj => by rw [o2.2.1 235 (by decide), y6 j (by omega)]; exact g35 j hj, fun j hj => by rw [o2.2.1 234 (by decide), y7 j (by omega)]; exact g34 j hj⟩, ?_⟩
      intro f
      dsimp only
      rw [f_M_calmOn_49.eq_2, p2.2.1, if_neg (npi (by omega) (by omega)), wrI (by omega) (by decide), e1, cwS2, nI_1 k, y1, cwS2, o1, cwS2, nI_1]
    · rintro ⟨a, t⟩ ⟨p1, p2, p3, p4, p9, p5, p6, p7⟩ f
      dsimp only at p1 p2 p3 p4 p5 p6 p7 p9
      subst p1
      dsimp only
      rw [f_M_calmOn_49.eq_2, p2.2.1, if_pos npp]
theorem lon_over (hn : 200 ≤ n) (M : HM z w s) (ho : ovr z w = true) (hk : 1 ≤ k) (h6 : k ≤ 6) : f_M_longOn n (q + 1) (nI k) s = some s := by
  show f_M_longOn_b n (f_M_longOn n q) (nI k) s = some s
  unfold f_M_longOn_b
  rw [qM_o1 hn M ho, clS, mb_jn, if_neg (by decide), if_neg (nI_nle (by omega) (by omega))]
theorem pM_long (hn : 200 ≤ n) (Z : zok z) (h1 : 1 ≤ zP z) : ∀ (d q k : Nat) (w : wT) (pa : Nat → Nat) (B : bT) (s : mb_T), d < q → k + d = 6 → HM z w s → wrg z w → ovr z w = false → mBl B s → okL B → (∀ i, i < k → s.2.1 235 i = nI (pa i)) → ∃ u, f_M_longOn n q (nI k) s = some u ∧ HM z w u ∧ mBl (srch true 6 z d k w pa B) u ∧ okL (srch true 6 z d k w pa B) ∧ Fr [(200, 11), (200, 24), (200, 25), (200, 37)] [213, 228, 234, 235, 236] s u ∧ (∀ i, i < k → u.2.1 235 i = s.2.1 235 i) ∧ ∀ j, j < 8 * k → u.2.1 234 j = s.2.1 234 j := by
  intro d q k w pa B s hq hk M R ho mB ok P
  -- what is done at one place
  have wgh : ∀ (k : Nat) (w : wT) (pa : Nat → Nat) (B : bT) (s : mb_T), k ≤ 6 → HM z w s → mBl B s → okL B → (∀ i, i < k → s.2.1 235 i = nI (pa i)) → ∃ u, (∀ C : mb_T → Option mb_T, (if nI k ≤ (s.1 200 37) then C s else mb_bd (sF s 200 37 (nI k)) fun s_10 => mb_cw (f_M_copyLaid n (nI k) s_10) fun s_12 => C s_12) = C u) ∧ HM z w u ∧ mBl (vis true 6 k (fr z w) pa B) u ∧ okL (vis true 6 k (fr z w) pa B) ∧ Fr [(200, 37)] [236] s u := by
    intro k w pa B s hk M mB ok P
    have ev : vis true 6 k (fr z w) pa B = if nI k ≤ B.1 then B else (nI k, fr z w, pa) := by
      unfold vis
      by_cases c : nI k ≤ B.1 <;> simp [c]
    rw [ev, mB.1]
    by_cases c : nI k ≤ B.1
    · refine ⟨s, fun C => by rw [if_pos c], M, by rw [if_pos c]; exact mB, by rw [if_pos c]; exact ok, FrR⟩
    · have F : Fr [(200, 37)] [236] s (sV (sF s 200 37 (nI k)) 236 (foU (s.2.1 235) (s.2.1 236) k)) := FrT (FrF (i := 200) (k := 37)) (FrV (q := 236))
      refine ⟨sV (sF s 200 37 (nI k)) 236 (foU (s.2.1 235) (s.2.1 236) k), fun C => ?_, HMfr M F, ?_, ?_, F⟩
      · rw [if_neg c, bdS, pM_copyL hn hk, cwS2]
        rfl
      · rw [if_neg c]
        refine ⟨rfl, fun i hi => ?_⟩
        have hi2 : i < k := by rwa [nI_clamp (by omega)] at hi
        show foU (s.2.1 235) (s.2.1 236) k i = _
        rw [foU_get, if_pos hi2, P i hi2]
      · rw [if_neg c]; exact ⟨k, hk, rfl⟩
  have main : ∀ (d q k : Nat) (w : wT) (pa : Nat → Nat) (B : bT) (s : mb_T), d < q → k + d = 6 → HM z w s → ovr z w = false → mBl B s → okL B → (∀ i, i < k → s.2.1 235 i = nI (pa i)) → ∃ u, f_M_longOn n q (nI k) s = some u ∧ HM z w u ∧ mBl (srch true 6 z d k w pa B) u ∧ okL (srch true 6 z d k w pa B) ∧ Fr [(200, 11), (200, 24), (200, 25), (200, 37)] [213, 228, 234, 235, 236] s u ∧ (∀ i, i < k → u.2.1 235 i = s.2.1 235 i) ∧ ∀ j, j < 8 * k → u.2.1 234 j = s.2.1 234 j := by
    intro d
    induction d with
    | zero =>
      intro q k w pa B s hq hk M ho mB ok P
      obtain ⟨q, rfl⟩ : ∃ e, q = e + 1 := ⟨q - 1, by omega⟩
      have ek : k = 6 := by omega
      subst ek
      obtain ⟨u, u1, u2, u3, u4, u5⟩ := wgh 6 w pa B s (by omega) M mB ok P
      refine ⟨u, ?_, u2, u3, u4, FrI u5, fun i _ => by rw [u5.2.1 235 (by decide)], fun j _ => by rw [u5.2.1 234 (by decide)]⟩
      show f_M_longOn_b n (f_M_longOn n q) (nI 6) s = some u
      unfold f_M_longOn_b
      rw [qM_o0 hn M ho, clS]
      simp only [mb_jn, if_true]
      refine (u1 (fun s_14 => if nI 6 = 6 then some s_14 else mb_cl (f_M_isOver n s_14) fun r_18 s_16 => if r_18 = 0 then (mb_cw (f_M_putDepth n (nI 6) s_16) fun s_20 => f_M_longOn_51 n (f_M_longOn n q) (fun x_32 s_33 => some s_33) (nI 6) n 0 s_20) else some s_16)).trans ?_
      rw [if_pos (by decide)]
    | succ d ih =>
      intro q k w pa B s hq hk M ho mB ok P
      obtain ⟨q, rfl⟩ : ∃ e, q = e + 1 := ⟨q - 1, by omega⟩
      have h5 := M.1
      obtain ⟨u, u1, u2, u3, u4, u5⟩ := wgh k w pa B s (by omega) M mB ok P
      obtain ⟨v, v1, v2, v3, v4, v5⟩ := pM_putD hn u2 (show k < 7 by omega)
      obtain ⟨Bx, hBx⟩ : ∃ Bx : Nat → bT, Bx = fo (fun x B => if ovr z (stp z x w) = true then B else srch true 6 z d (k + 1) (stp z x w) (updN pa k x) B) (vis true 6 k (fr z w) pa B) := ⟨_, rfl⟩
      have B0 : Bx 0 = vis true 6 k (fr z w) pa B := by rw [hBx]; rfl
      have Bs : ∀ x, Bx (x + 1) = if ovr z (stp z x w) = true then Bx x else srch true 6 z d (k + 1) (stp z x w) (updN pa k x) (Bx x) := fun x => by rw [hBx]; rfl
      have L := lpE (F := fun f (t : Int32 × mb_T) => f_M_longOn_51 n (f_M_longOn n q) (fun x_18 s_19 => some s_19) (nI k) f t.1 t.2) (R := fun t => some t.2) (fun x (t : Int32 × mb_T) => t.1 = nI x ∧ HM z w t.2 ∧ HDp z w k t.2 ∧ mBl (Bx x) t.2 ∧ okL (Bx x) ∧ Fr [(200, 11), (200, 24), (200, 25), (200, 37)] [213, 228, 234, 235, 236] s t.2 ∧ (∀ i, i < k → t.2.2.1 235 i = s.2.1 235 i) ∧ ∀ j, j < 8 * k → t.2.2.1 234 j = s.2.1 234 j) (zP z) ?_ ?_ (t0 := (0, v)) (f := n) ⟨rfl, v3, v4, by rw [B0]; exact mBl_fr u3 v2, by rw [B0]; exact u4, FrT u5 v2, fun i _ => by rw [v2.2.1 235 (by decide), u5.2.1 235 (by decide)], fun j hj => by rw [v5 j hj, u5.2.1 234 (by decide)]⟩ (by omega)
      · obtain ⟨⟨a, t⟩, ⟨p1, p2, p3, p4, p9, p5, p6, p7⟩, p8⟩ := L
        dsimp only at p1 p2 p3 p4 p5 p6 p7 p8 p9
        have eB : srch true 6 z (d + 1) k w pa B = Bx (zP z) := by rw [hBx]; rfl
        refine ⟨t, ?_, p2, by rw [eB]; exact p4, by rw [eB]; exact p9, p5, p6, p7⟩
        show f_M_longOn_b n (f_M_longOn n q) (nI k) s = some t
        unfold f_M_longOn_b
        rw [qM_o0 hn M ho, clS]
        simp only [mb_jn, if_true]
        refine (u1 (fun s_14 => if nI k = 6 then some s_14 else mb_cl (f_M_isOver n s_14) fun r_18 s_16 => if r_18 = 0 then (mb_cw (f_M_putDepth n (nI k) s_16) fun s_20 => f_M_longOn_51 n (f_M_longOn n q) (fun x_32 s_33 => some s_33) (nI k) n 0 s_20) else some s_16)).trans ?_
        rw [if_neg (by rw [show (6 : Int32) = nI 6 from rfl, nI_eq (by omega) (by omega)]; omega), qM_o0 hn u2 ho, clS, if_pos rfl, v1, cwS2]
        exact p8
      · rintro i hi ⟨a, t⟩ ⟨p1, p2, p3, p4, p9, p5, p6, p7⟩
        dsimp only at p1 p2 p3 p4 p5 p6 p7 p9
        subst p1
        have f1 : Fr [] [235] t (sA t 235 k (nI i)) := FrA
        obtain ⟨e, e1, e2, e3⟩ := pM_pass hn (HMfr p2 f1) Z hi
        have S2 : mBl (Bx i) e := mBl_fr (mBl_fr p4 f1) e2
        have P2 : ∀ j, j < k + 1 → e.2.1 235 j = nI (updN pa k i j) := by
          intro j hj
          rw [e2.2.1 235 (by decide), sA2, if_pos rfl, updI]
          unfold updN
          by_cases c : j = k
          · rw [if_pos c, if_pos c]
          · rw [if_neg c, if_neg c, p6 j (by omega), P j (by omega)]
        have H2 : HDp z w k e := HDp_fr (HDp_fr p3 f1) e2
        have F2 : Fr [(200, 11), (200, 24), (200, 25), (200, 37)] [213, 228, 234, 235, 236] s e := FrT (FrT p5 f1 (ks := [(200, 11), (200, 24), (200, 25), (200, 37)]) (cs := [213, 228, 234, 235, 236])) e2
        have g35 : ∀ j, j < k → e.2.1 235 j = s.2.1 235 j := by
          intro j hj
          rw [e2.2.1 235 (by decide), sA2, if_pos rfl, updI, if_neg (by omega), p6 j hj]
        have g34 : ∀ j, j < 8 * k → e.2.1 234 j = s.2.1 234 j := by
          intro j hj
          rw [e2.2.1 234 (by decide), f1.2.1 234 (by decide), p7 j hj]
        have key : ∃ y, f_M_longOn n q (nI (k + 1)) e = some y ∧ HM z (stp z i w) y ∧ mBl (Bx (i + 1)) y ∧ okL (Bx (i + 1)) ∧ Fr [(200, 11), (200, 24), (200, 25), (200, 37)] [213, 228, 234, 235, 236] e y ∧ (∀ i, i < k + 1 → y.2.1 235 i = e.2.1 235 i) ∧ ∀ j, j < 8 * (k + 1) → y.2.1 234 j = e.2.1 234 j := by
          rw [Bs]
          cases ho2 : ovr z (stp z i w) with
          | true =>
            obtain ⟨q, rfl⟩ : ∃ e, q = e + 1 := ⟨q - 1, by omega⟩
            rw [if_pos rfl]
            exact ⟨e, lon_over hn e3 ho2 (by omega) (by omega), e3, S2, p9, FrR, fun _ _ => rfl, fun _ _ => rfl⟩
          | false =>
            rw [if_neg (by decide)]
            obtain ⟨y, y1, y2, y3, y4, y5, y6, y7⟩ := ih q (k + 1) (stp z i w) (updN pa k i) (Bx i) e (by omega) (by omega) e3 ho2 S2 p9 P2
            exact ⟨y, y1, y2, y3, y4, y5, y6, y7⟩
        obtain ⟨y, y1, y2, y3, y4, y5, y6, y7⟩ := key
        have H3 : HDp z w k y := by
          obtain ⟨a1, a2, a3, a4⟩ := H2
          exact ⟨fun x hx => by rw [y7 _ (by omega)]; exact a1 x hx, by rw [y7 _ (by omega)]; exact a2, by rw [y7 _ (by omega)]; exact a3, by rw [y7 _ (by omega)]; exact a4⟩
        obtain ⟨o, o1, o2, o3⟩ := pM_back hn y2 H3 (show k < 7 by omega)
        refine ⟨(nI (i + 1), o), ⟨rfl, o3, HDp_fr H3 o2, mBl_fr y3 o2, y4, FrT (FrT F2 y5 (ks := [(200, 11), (200, 24), (200, 25), (200, 37)]) (cs := [213, 228, 234, 235, 236])) o2, fun j hj => by rw [o2.2.1 235 (by decide), y6 j (by omega)]; exact g35 j hj, fun j hj => by rw [o2.2.1 234 (by decide), y7 j (by omega)]; exact g34 j hj⟩, ?_⟩
        intro f
        dsimp only
        rw [f_M_longOn_51.eq_2, p2.2.1, if_neg (npi (by omega) (by omega)), wrI (by omega) (by decide), e1, cwS2, nI_1 k, y1, cwS2, o1, cwS2, nI_1]
      · rintro ⟨a, t⟩ ⟨p1, p2, p3, p4, p9, p5, p6, p7⟩ f
        dsimp only at p1 p2 p3 p4 p5 p6 p7 p9
        subst p1
        dsimp only
        rw [f_M_longOn_51.eq_2, p2.2.1, if_pos npp]
  exact main d q k w pa B s hq hk M ho mB ok P
theorem pM_lay (hn : 200 ≤ n) (hx : x < 6) (hm : m ≤ 6) : f_M_layBest n (nI x) (nI m) s = some (rowM x m (va_cpy (s.2.1 236) (va_cpy (fun _ => 0) (s.2.1 204) 0 (60 * x) 60) 0 (60 * x) m) s) := by
  unfold f_M_layBest
  rw [pM_row hn hx (by omega), clS]
  obtain ⟨t, et⟩ : ∃ t, t = rowM x m (va_cpy (fun _ => 0) (s.2.1 204) 0 (60 * x) 60) s := ⟨_, rfl⟩
  have e := lp (F := fun f (t : Int32 × mb_T) => f_M_layBest_9 n (fun x_10 s_11 => some s_11) (nI x) (nI m) f t.1 t.2) (R := some (sV t 204 (va_cpy (t.2.1 236) (t.2.1 204) 0 (60 * x) m))) (fun i => (nI i, sV t 204 (va_cpy (t.2.1 236) (t.2.1 204) 0 (60 * x) i))) m ?_ ?_ n (by omega)
  · dsimp only at e
    rw [cpy_0, sVid] at e
    rw [← et]
    refine e.trans ?_
    rw [et]
    unfold rowM
    rw [sVV, sV2, if_neg (by decide), sV2, if_pos rfl, sA2, if_neg (by decide)]
  · intro i hi f
    dsimp only
    have g : (sV t 204 (va_cpy (t.2.1 236) (t.2.1 204) 0 (60 * x) i)).2.1 236 i = t.2.1 236 (0 + i) := by rw [sV2, if_neg (by decide), show 0 + i = i by omega]
    rw [f_M_layBest_9.eq_2, if_neg (npi (by omega) hi), rdI (by omega) (by decide), pM_setRow hx (by omega), cwS2, g, sAV, nI_1, cpy_s]
  · intro f
    dsimp only
    rw [f_M_layBest_9.eq_2, if_pos npp]
end TB
