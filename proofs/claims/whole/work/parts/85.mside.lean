/-! the pure part: what the model tells, and looks ahead put back -/
def mo2 (w : wT) : Prop := ∃ mi, mi ≤ 300 ∧ w.2.2.1 = nI mi
theorem wi_m {z : zT} {law : Int32} {w : wT} : ∀ {k : Nat}, (wi z law w k).2.2.1 = w.2.2.1 + nI k
  | 0 => by
    show w.2.2.1 = w.2.2.1 + nI 0
    rw [nI_0, Int32.add_zero]
  | k + 1 => by
    show (wi z law w k).2.2.1 + 1 = _
    rw [wi_m, Int32.add_assoc, nI_1]
theorem wi_mok {z : zT} {law : Int32} {w : wT} {k : Nat} (M : mo2 w) (hk : k ≤ 200) : mok (wi z law w k) := by
  obtain ⟨mi, m1, m2⟩ := M
  exact ⟨mi + k, by omega, by rw [wi_m, m2, nI_add]⟩
theorem mo2_mok {w : wT} (M : mo2 w) : mok w := by
  obtain ⟨mi, m1, m2⟩ := M
  exact ⟨mi, by omega, m2⟩
/-- put aside -/
def HP (z : zT) (w : wT) (s : mb_T) : Prop := (∀ x, x < zP z → s.2.1 230 x = w.1 x) ∧ s.2.1 230 5 = w.2.1 ∧ s.2.1 230 6 = oM w.2.2.2 ∧ s.2.1 230 7 = w.2.2.1
theorem HPfr {z : zT} {w : wT} {s t : mb_T} {fs : List (Nat × Nat)} {as : List Nat} (H : HP z w s) (h : Fr fs as s t) (ha : 230 ∉ as := by decide) : HP z w t := by
  unfold HP
  rw [h.2.1 230 ha]
  exact H
section MC
variable {s t : mb_T} {n x y h p i m : Nat} {z : zT} {w w2 : wT} {v am law : Int32}
theorem qM_screaming (hn : 200 ≤ n) (H : HM z w s) : f_M_screaming n s = some (whoS w.1 (zS z) (zP z), s) := by
  rw [pM_screaming hn H.2.1 H.1, whoS_c (fun x hx => ⟨(H.2.2.2.2.2.2.2.2 x hx).2.1, (H.2.2.2.2.2.2.2.2 x hx).2.2.2.2⟩)]
theorem qM_isOver (hn : 200 ≤ n) (H : HM z w s) : f_M_isOver n s = some ((if ovr z w = true then 1 else 0 : Int32), s) := by
  unfold f_M_isOver
  rw [qM_screaming hn H, clS]
  have e : (if whoS w.1 (zS z) (zP z) = 0 then 0 else 1 : Int32) = if ovr z w = true then 1 else 0 := by
    unfold ovr
    by_cases c : whoS w.1 (zS z) (zP z) = 0 <;> simp [c]
  rw [e, bz10]
theorem pM_greatest (hn : 200 ≤ n) (hp : s.1 200 8 = nI p) (h5 : p ≤ 5) : f_M_greatest n s = some (nI (gW (s.2.1 213) (p - 1)), s) := by
  unfold f_M_greatest
  refine lp (F := fun f (t : Int32 × Int32 × mb_T) => f_M_greatest_4 n (fun x_10 x_11 s_12 => some (x_10, s_12)) f t.1 t.2.1 t.2.2) (fun i => (nI (gW (s.2.1 213) i), nI (i + 1), s)) (p - 1) ?_ ?_ n (by omega)
  · intro i hi f
    dsimp only
    have l := @gW_le (s.2.1 213) i
    rw [f_M_greatest_4.eq_2, hp, if_neg (npi (by omega) (by omega)), rdI (by omega) (by decide), rdI (by omega) (by decide), nI_1 (i + 1)]
    show _ = f_M_greatest_4 n _ f (nI (if s.2.1 213 (i + 1) ≤ s.2.1 213 (gW (s.2.1 213) i) then gW (s.2.1 213) i else i + 1)) _ _
    split <;> rfl
  · intro f
    dsimp only
    rw [f_M_greatest_4.eq_2, hp, if_pos (nI_le (by omega) (by omega))]
theorem qM_greatest (hn : 200 ≤ n) (H : HM z w s) (h1 : 1 ≤ zP z) : f_M_greatest n s = some (nI (gW w.1 (zP z - 1)), s) := by
  rw [pM_greatest hn H.2.1 H.1, gW_c (fun x hx => (H.2.2.2.2.2.2.2.2 x (by omega)).2.1)]
theorem qM_grFear {β : Type} {c : Int32 → Option β} (H : HM z w s) (h1 : 1 ≤ zP z) : mb_rd s 213 10 (nI (gW w.1 (zP z - 1))) c = c (w.1 (gW w.1 (zP z - 1))) := by
  have l := @gW_le w.1 (zP z - 1)
  have h5 := H.1
  rw [rdI (by omega) (by decide), (H.2.2.2.2.2.2.2.2 _ (by omega)).2.1]
theorem qM_allFears (hn : 200 ≤ n) (H : HM z w s) : f_M_allFears n s = some (sumS w.1 (zP z), s) := by
  have h5 := H.1
  have hp := H.2.1
  rw [← sumS_c (fun x hx => (H.2.2.2.2.2.2.2.2 x hx).2.1)]
  unfold f_M_allFears
  refine lp (F := fun f (t : Int32 × Int32 × mb_T) => f_M_allFears_4 n (fun x_10 x_11 s_12 => some (x_10, s_12)) f t.1 t.2.1 t.2.2) (fun i => (sumS (s.2.1 213) i, nI i, s)) (zP z) ?_ ?_ n (by omega)
  · intro i hi f
    dsimp only
    rw [f_M_allFears_4.eq_2, hp, if_neg (npi (by omega) hi), rdI (by omega) (by decide), nI_1]
    rfl
  · intro f
    dsimp only
    rw [f_M_allFears_4.eq_2, hp, if_pos npp]
theorem qM_allScreams (hn : 200 ≤ n) (H : HM z w s) : f_M_allScreams n s = some (sumS (zS z) (zP z), s) := by
  have h5 := H.1
  have hp := H.2.1
  rw [← sumS_c (fun x hx => (H.2.2.2.2.2.2.2.2 x hx).2.2.2.2)]
  unfold f_M_allScreams
  refine lp (F := fun f (t : Int32 × Int32 × mb_T) => f_M_allScreams_4 n (fun x_10 x_11 s_12 => some (x_10, s_12)) f t.1 t.2.1 t.2.2) (fun i => (sumS (s.2.1 216) i, nI i, s)) (zP z) ?_ ?_ n (by omega)
  · intro i hi f
    dsimp only
    rw [f_M_allScreams_4.eq_2, hp, if_neg (npi (by omega) hi), rdI (by omega) (by decide), nI_1]
    rfl
  · intro f
    dsimp only
    rw [f_M_allScreams_4.eq_2, hp, if_pos npp]
theorem pM_putAside (hn : 200 ≤ n) (H : HM z w s) : ∃ t, f_M_putAside n s = some t ∧ Fr [] [230] s t ∧ HM z w t ∧ HP z w t := by
  have h5 := H.1
  have e := lp (F := fun f (t : Int32 × mb_T) => f_M_putAside_2 n (fun x_8 s_9 => mb_wr s_9 230 8 5 (s_9.1 200 11) fun s_10 => mb_wr s_10 230 8 6 (s_10.1 200 25) fun s_13 => mb_wr s_13 230 8 7 (s_13.1 200 24) fun s_16 => some s_16) f t.1 t.2) (R := some (sV s 230 (upd (upd (upd (foU (s.2.1 213) (s.2.1 230) 5) 5 (s.1 200 11)) 6 (s.1 200 25)) 7 (s.1 200 24)))) (fun i => (nI i, sV s 230 (foU (s.2.1 213) (s.2.1 230) i))) 5 ?_ ?_ n (by omega)
  · have e2 : sV s 230 (foU (s.2.1 213) (s.2.1 230) 0) = s := sVid
    dsimp only at e
    rw [e2] at e
    refine ⟨_, e, FrV, HMfr H FrV, ?_⟩
    obtain ⟨q1, q2, q3, q4, q5, q6, q7, q8, q9⟩ := H
    refine ⟨fun x hx => ?_, q3, q5, q4⟩
    show upd (upd (upd (foU (s.2.1 213) (s.2.1 230) 5) 5 _) 6 _) 7 _ x = _
    rw [updI, if_neg (by omega), updI, if_neg (by omega), updI, if_neg (by omega), foU_get, if_pos (by omega), (q9 x hx).2.1]
  · intro i hi f
    dsimp only
    have g : (sV s 230 (foU (s.2.1 213) (s.2.1 230) i)).2.1 213 i = s.2.1 213 i := by rw [sV2, if_neg (by decide)]
    rw [f_M_putAside_2.eq_2, if_neg (show ¬ (5 : Int32) ≤ nI i from npi (p := 5) (by decide) hi), rdI (by omega) (by decide), wrI (by omega) (by decide), g, sAV, nI_1, foU_s]
  · intro f
    dsimp only
    rw [f_M_putAside_2.eq_2, if_pos (show (5 : Int32) ≤ nI 5 by decide)]
    rw [show (5 : Int32) = nI 5 from rfl, show (6 : Int32) = nI 6 from rfl, show (7 : Int32) = nI 7 from rfl, wrI (by decide) (by decide), wrI (by decide) (by decide), wrI (by decide) (by decide), sAV, sAV, sAV]
    rfl
theorem pM_comeBack (hn : 200 ≤ n) (H : HM z w2 s) (P : HP z w s) : ∃ t, f_M_comeBack n s = some t ∧ Fr [(200, 11), (200, 24), (200, 25)] [213] s t ∧ HM z w t := by
  have h5 := H.1
  have e := lp (F := fun f (t : Int32 × mb_T) => f_M_comeBack_2 n (fun x_8 s_9 => mb_rd s_9 230 8 5 fun x_10 => mb_bd (sF s_9 200 11 x_10) fun s_13 => mb_rd s_13 230 8 6 fun x_15 => mb_bd (sF s_13 200 25 x_15) fun s_18 => mb_rd s_18 230 8 7 fun x_20 => mb_bd (sF s_18 200 24 x_20) fun s_23 => some s_23) f t.1 t.2) (R := some (sF (sF (sF (sV s 213 (foU (s.2.1 230) (s.2.1 213) 5)) 200 11 (s.2.1 230 5)) 200 25 (s.2.1 230 6)) 200 24 (s.2.1 230 7))) (fun i => (nI i, sV s 213 (foU (s.2.1 230) (s.2.1 213) i))) 5 ?_ ?_ n (by omega)
  · have e2 : sV s 213 (foU (s.2.1 230) (s.2.1 213) 0) = s := sVid
    dsimp only at e
    rw [e2] at e
    refine ⟨_, e, FrT (FrT (FrT (FrV (q := 213)) (FrF (i := 200) (k := 11)) (ks := [(200, 11)]) (cs := [213])) (FrF (i := 200) (k := 25)) (ks := [(200, 11), (200, 25)]) (cs := [213])) (FrF (i := 200) (k := 24)), ?_⟩
    obtain ⟨q1, q2, q3, q4, q5, q6, q7, q8, q9⟩ := H
    refine ⟨q1, q2, P.2.1, P.2.2.2, P.2.2.1, q6, q7, q8, fun x hx => ?_⟩
    obtain ⟨x1, x2, x3, x4, x5⟩ := q9 x hx
    refine ⟨x1, ?_, x3, x4, x5⟩
    show foU (s.2.1 230) (s.2.1 213) 5 x = _
    rw [foU_get, if_pos (by omega), P.1 x hx]
  · intro i hi f
    dsimp only
    have g : (sV s 213 (foU (s.2.1 230) (s.2.1 213) i)).2.1 230 i = s.2.1 230 i := by rw [sV2, if_neg (by decide)]
    rw [f_M_comeBack_2.eq_2, if_neg (show ¬ (5 : Int32) ≤ nI i from npi (p := 5) (by decide) hi), rdI (by omega) (by decide), wrI (by omega) (by decide), g, sAV, nI_1, foU_s]
  · intro f
    dsimp only
    rw [f_M_comeBack_2.eq_2, if_pos (show (5 : Int32) ≤ nI 5 by decide)]
    rw [show (5 : Int32) = nI 5 from rfl, show (6 : Int32) = nI 6 from rfl, show (7 : Int32) = nI 7 from rfl, rdI (by decide) (by decide), bdS, rdI (by decide) (by decide), bdS, rdI (by decide) (by decide), bdS]
    rfl
theorem pM_holdsOf (hn : 200 ≤ n) (H : HM z w s) (Z : zok z) (W : wok z w) (M : mo2 w) (h1 : 1 ≤ zP z) (hl : lawok law) : ∃ t, f_M_holdsOf n law s = some (hol z law w 100, t) ∧ Fr [(200, 11), (200, 24), (200, 25), (200, 31)] [213, 228, 230] s t ∧ HM z w t ∧ t.1 200 31 = whoS (wi z law w (sN (fun k => ovr z (wi z law w k)) 100)).1 (zS z) (zP z) := by
  obtain ⟨s1, e1, f1, H1, P1⟩ := pM_putAside hn H
  obtain ⟨q1, q2, q3⟩ := @sN_p (fun k => ovr z (wi z law w k)) 100
  unfold hol
  generalize hk : sN (fun k => ovr z (wi z law w k)) 100 = K at q1 q2 q3
  unfold f_M_holdsOf
  rw [e1, cwS2]
  have L := lpE (F := fun f (t : Int32 × mb_T) => f_M_holdsOf_6 n (fun x_13 s_14 => mb_cl (f_M_screaming n s_14) fun r_17 s_15 => mb_bd (sF s_15 200 31 r_17) fun s_18 => mb_cw (f_M_comeBack n s_18) fun s_20 => some ((if (s_20.1 200 31) = 0 then (-9) else x_13 : Int32), s_20)) law f t.1 t.2) (R := fun t => mb_cl (f_M_screaming n t.2) fun r_17 s_15 => mb_bd (sF s_15 200 31 r_17) fun s_18 => mb_cw (f_M_comeBack n s_18) fun s_20 => some ((if (s_20.1 200 31) = 0 then (-9) else t.1 : Int32), s_20)) (fun k (t : Int32 × mb_T) => t.1 = nI k ∧ HM z (wi z law w k) t.2 ∧ Fr [(200, 11), (200, 24), (200, 25)] [213, 228] s1 t.2) K ?_ ?_ (t0 := (0, s1)) (f := n) ⟨rfl, H1, FrR⟩ (by omega)
  · obtain ⟨⟨a, t⟩, ⟨p1, p2, p3⟩, p5⟩ := L
    dsimp only at p1 p2 p3 p5
    subst p1
    have H2 : HM z (wi z law w K) (sF t 200 31 (whoS (wi z law w K).1 (zS z) (zP z))) := HMfr p2 FrF
    obtain ⟨u, u1, u2, u3⟩ := pM_comeBack hn H2 (HPfr (HPfr P1 p3) FrF)
    have eu : u.1 200 31 = whoS (wi z law w K).1 (zS z) (zP z) := by
      rw [u2.1 200 31 (by decide)]; rfl
    refine ⟨u, ?_, ?_, u3, eu⟩
    · rw [show (0 : Int32) = nI 0 from rfl] at p5 ⊢
      rw [p5, qM_screaming hn p2, clS, bdS, u1, cwS2, eu]
      unfold ovr
      by_cases c : whoS (wi z law w K).1 (zS z) (zP z) = 0 <;> simp [c, nI_0]
    · exact FrT (FrT (FrT f1 p3 (ks := [(200, 11), (200, 24), (200, 25)]) (cs := [213, 228, 230])) (FrF (i := 200) (k := 31)) (ks := [(200, 11), (200, 24), (200, 25), (200, 31)]) (cs := [213, 228, 230])) u2
  · rintro i hi ⟨a, t⟩ ⟨p1, p2, p3⟩
    dsimp only at p1 p2 p3
    subst p1
    have Wi : wok z (wi z law w i) := wi_ok Z W h1
    have hov : ovr z (wi z law w i) = false := q2 i hi
    have hlt := nxt_lt (law := law) Z Wi h1
    obtain ⟨u, u1, u2, u3⟩ := pM_pass hn p2 Z hlt
    refine ⟨(nI (i + 1), u), ⟨rfl, u3, FrT p3 u2⟩, ?_⟩
    intro f
    dsimp only
    have h100 : ¬ (100 : Int32) ≤ nI i := npi (p := 100) (i := i) (by decide) (by omega)
    rw [f_M_holdsOf_6.eq_2, if_neg h100, qM_isOver hn p2, clS, hov]
    rw [if_pos (by decide), pM_nextBy hn p2 Z Wi (wi_mok M (by omega)) h1 hl, clS, u1, cwS2, nI_1]
  · rintro ⟨a, t⟩ ⟨p1, p2, p3⟩ f
    dsimp only at p1 p2 p3
    subst p1
    dsimp only
    rw [f_M_holdsOf_6.eq_2]
    by_cases e : K = 100
    · rw [e, if_pos (show (100 : Int32) ≤ nI 100 by decide)]
    · have hov : ovr z (wi z law w K) = true := q3 (by omega)
      have h100 : ¬ (100 : Int32) ≤ nI K := npi (p := 100) (i := K) (by decide) (by omega)
      rw [if_neg h100, qM_isOver hn p2, clS, hov, if_pos rfl, if_neg (by decide)]
/-- how often one has it -/
def cntH (z : zT) (law : Int32) (w : wT) (v : Int32) (K : Nat) : Int32 := fo (fun k c => c + if nI (nxt z law (wi z law w k)) = v then 1 else 0) 0 K
theorem cntH_s {k : Nat} : cntH z law w v (k + 1) = cntH z law w v k + (if nI (nxt z law (wi z law w k)) = v then 1 else 0) := rfl
theorem qM_pass (hn : 200 ≤ n) (H : HM z w s) (Z : zok z) (W : wok z w) (M : mo2 w) (h1 : 1 ≤ zP z) (hl : lawok law) (el : s.1 200 10 = law) (hm : m ≤ 100) : ∃ t, f_M_pass n (nI m) v s = some t ∧ Fr [(200, 11), (200, 24), (200, 25), (200, 33)] [213, 228] s t ∧ HM z (wi z law w (sN (fun k => ovr z (wi z law w k)) m)) t ∧ t.1 200 33 = cntH z law w v (sN (fun k => ovr z (wi z law w k)) m) := by
  obtain ⟨q1, q2, q3⟩ := @sN_p (fun k => ovr z (wi z law w k)) m
  generalize hk : sN (fun k => ovr z (wi z law w k)) m = K at q1 q2 q3
  unfold f_M_pass
  rw [bdS]
  have L := lpE (F := fun f (t : Int32 × mb_T) => f_M_pass_7 n (fun x_17 s_18 => some s_18) (nI m) v f t.1 t.2) (R := fun t => some t.2) (fun k (t : Int32 × mb_T) => t.1 = nI k ∧ HM z (wi z law w k) t.2 ∧ Fr [(200, 11), (200, 24), (200, 25), (200, 33)] [213, 228] s t.2 ∧ t.2.1 200 33 = cntH z law w v k) K ?_ ?_ (t0 := (0, sF s 200 33 0)) (f := n) ⟨rfl, HMfr H FrF, FrI FrF, rfl⟩ (by omega)
  · obtain ⟨⟨a, t⟩, ⟨p1, p2, p3, p4⟩, p5⟩ := L
    dsimp only at p1 p2 p3 p4 p5
    subst p1
    exact ⟨t, p5, p3, p2, p4⟩
  · rintro i hi ⟨a, t⟩ ⟨p1, p2, p3, p4⟩
    dsimp only at p1 p2 p3 p4
    subst p1
    have Wi : wok z (wi z law w i) := wi_ok Z W h1
    have hov : ovr z (wi z law w i) = false := q2 i hi
    have hlt := nxt_lt (law := law) Z Wi h1
    have el2 : t.1 200 10 = law := by rw [p3.1 200 10 (by decide)]; exact el
    obtain ⟨u, u1, u2, u3⟩ := pM_pass hn p2 Z hlt
    have e33 : u.1 200 33 = cntH z law w v i := by rw [u2.1 200 33 (by decide)]; exact p4
    have e25 : u.1 200 25 = nI (nxt z law (wi z law w i)) := u3.2.2.2.2.1
    refine ⟨(nI (i + 1), sF u 200 33 (cntH z law w v (i + 1))), ⟨rfl, HMfr u3 FrF, FrT (FrT p3 u2 (ks := [(200, 11), (200, 24), (200, 25), (200, 33)]) (cs := [213, 228])) FrF, rfl⟩, ?_⟩
    intro f
    dsimp only
    rw [f_M_pass_7.eq_2, if_neg (npi (by omega) (by omega)), qM_isOver hn p2, clS, hov]
    rw [if_pos (by decide), el2, pM_nextBy hn p2 Z Wi (wi_mok M (by omega)) h1 hl, clS, u1, cwS2, nI_1, e33, e25, bdS, cntH_s]
  · rintro ⟨a, t⟩ ⟨p1, p2, p3, p4⟩ f
    dsimp only at p1 p2 p3 p4
    subst p1
    dsimp only
    rw [f_M_pass_7.eq_2]
    by_cases e : K = m
    · rw [e, if_pos npp]
    · have hov : ovr z (wi z law w K) = true := q3 (by omega)
      rw [if_neg (npi (by omega) (by omega)), qM_isOver hn p2, clS, hov, if_pos rfl, if_neg (by decide)]
end MC
