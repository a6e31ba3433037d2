/-! the pure part: who has the lamp next, in the model -/
def mok (w : wT) : Prop := ∃ mi, mi < 512 ∧ w.2.2.1 = nI mi
theorem par_d : ∀ m, m < 512 → ((nI m - nI m / 2 * 2 = 1) ↔ (nI m &&& 1 = 1)) := by decide +kernel
def nbB (m h p : Nat) : Int32 := fo (fun i w => w ||| (if bt (nI m) i = true then (1 <<< (nI i &&& 31)) else 0 : Int32)) (1 <<< (nI h &&& 31)) p
theorem nbB_s {m h p : Nat} : nbB m h (p + 1) = nbB m h p ||| (if bt (nI m) p = true then (1 <<< (nI p &&& 31)) else 0 : Int32) := rfl
theorem nbB_d : ∀ m, m < 32 → ∀ h, h < 5 → ∀ p, p < 6 → ∀ x, x < p → bt (nbB m h p) x = bt (nI m ||| (1 <<< (nI h &&& 31))) x := by decide +kernel
theorem mostS_c {am am2 : Int32} {sh : Nat → Int32} {p : Nat} (H : ∀ x, x < p → bt am x = bt am2 x) : mostS am sh p = mostS am2 sh p := fo_congr fun i hi b => by rw [H i hi]
def calmI (z : zT) (x i : Nat) : Int32 := fo (fun y c => c + if (bt (zB z x) y && calmK (zK z y)) = true then 1 else 0) 0 i
theorem calmI_s {z : zT} {x i : Nat} : calmI z x (i + 1) = calmI z x i + (if (bt (zB z x) i && calmK (zK z i)) = true then 1 else 0) := rfl
theorem calmI_p {z : zT} {x : Nat} : calmI z x (zP z) = calmN z x := rfl
theorem moreN_s {i x : Nat} {am : Int32} {fe : Nat → Int32} : moreN (i + 1) am fe x = moreN i am fe x + (if bt am i = false then 0 else if fe i ≤ fe x then 0 else 1) := rfl
def chN (z : zT) (fe : Nat → Int32) (x i : Nat) : Int32 := if zK z x = 2 then moreN i (zB z x) fe x else 0
section MB
variable {s t : mb_T} {n x y h p i : Nat} {z : zT} {w : wT} {v am law : Int32}
theorem pM_nextBy (hn : 200 ≤ n) (H : HM z w s) (Z : zok z) (W : wok z w) (M : mok w) (h1 : 1 ≤ zP z) (hl : lawok law) : f_M_nextBy n law s = some (nI (nxt z law w), s) := by
  have h5 := Z.1
  have hp := H.2.1
  have hmi := H.2.2.2.1
  have hl5 := H.2.2.2.2.1
  obtain ⟨mi, mi1, mi2⟩ := M
  obtain ⟨ya, ea, la⟩ := mostS_get (sh := shw z w.1) (show 0 < zP z by omega) (allB_d (zP z) (by omega) 0 (by omega))
  have ga : f_M_mostOf n ((1 <<< (nI (zP z) &&& 31)) - 1) s = some (nI ya, s) := by
    have := pM_mostOf (am := allB (zP z)) hn H
    rw [ea] at this
    exact this
  unfold f_M_nextBy nxt
  simp only [hl5, hmi, hp, ga, clS, ea]
  rcases hl with e | e | e | e
  · subst e; rfl
  all_goals
    subst e
    simp only [show ¬ ((1 : Int32) = 0) by decide, show ¬ ((2 : Int32) = 0) by decide, show ¬ ((3 : Int32) = 0) by decide, show ¬ ((2 : Int32) = 1) by decide, show ¬ ((2 : Int32) = 3) by decide, show ¬ ((3 : Int32) = 1) by decide, show ¬ ((3 : Int32) = 2) by decide, if_false, if_true]
    cases ew : w.2.2.2 with
    | none => rfl
    | some h =>
      have hh := W h ew
      have hne : ¬ (oM (some h) = -9) := nI_m9 (by omega)
      rw [if_neg hne]
      first
      | (show some ((if nI h = nI (zP z) - 1 then 0 else nI h + 1 : Int32), s) = _
         have hs : nI (zP z) - 1 = nI (zP z - 1) := by
           have := nI_pred (zP z - 1)
           rwa [show zP z - 1 + 1 = zP z by omega] at this
         rw [nI_1, hs]
         simp only [nI_eq (show h < 2 ^ 31 by omega) (show zP z - 1 < 2 ^ 31 by omega)]
         by_cases l : h + 1 < zP z
         · rw [if_neg (by omega), if_pos l]
         · rw [if_pos (by omega), if_neg l]; rfl)
      | (rw [dvN (by decide), mi2]
         simp only [par_d mi mi1]
         split <;> rfl)
      | (obtain ⟨m, m1, m2⟩ := Z.2.1 h hh
         obtain ⟨yb, eb, lb⟩ := mostS_get (sh := shw z w.1) hh (am := zB z h ||| (1 <<< (nI h &&& 31))) (by rw [m2]; exact btor_d m m1 h (by omega))
         have e2 : f_M_mostOf n (nbB m h (zP z)) s = some (nI yb, s) := by
           rw [pM_mostOf hn H, mostS_c (am2 := zB z h ||| (1 <<< (nI h &&& 31))) (fun x hx => by rw [m2]; exact nbB_d m m1 h (by omega) (zP z) (by omega) x hx), eb]
           rfl
         show f_M_nextBy_97 n _ n (nbB m h 0) 0 s = some (nI ((mostS (zB z h ||| (1 <<< (nI h &&& 31))) (shw z w.1) (zP z)).getD 0), s)
         rw [eb]
         refine lp (F := fun f (t : Int32 × Int32 × mb_T) => f_M_nextBy_97 n (fun x_11 x_12 s_13 => mb_cl (f_M_mostOf n x_11 s_13) fun r_16 s_14 => some (r_16, s_14)) f t.1 t.2.1 t.2.2) (fun i => (nbB m h i, nI i, s)) (zP z) ?_ ?_ n (by omega)
         · intro i hi f
           dsimp only
           have hb : f_M_isBeside n (oM w.2.2.2) (nI i) s = some ((if bt (zB z h) i = true then 1 else 0 : Int32), s) := by
             rw [ew]; exact pM_isBeside H hh hi
           rw [f_M_nextBy_97.eq_2, hp, hl5, if_neg (npi (by omega) hi), hb, clS, nI_1, nbB_s, m2]
           cases bt (nI m) i <;> rfl
         · intro f
           dsimp only
           rw [f_M_nextBy_97.eq_2, hp, if_pos npp, e2, clS]
           rfl)
theorem pM_pass_58 (hn : 200 ≤ n) (H : HM z w s) (hx : x < zP z) {y1 y2 y4 : Int32} {k0 : Int32 → Int32 → Int32 → mb_T → Option mb_T} : f_M_passMinute_58 n k0 y1 y2 (nI x) y4 n 0 0 0 s = k0 (calmN z x) (chN z w.1 x (zP z)) (nI (zP z)) s := by
  have h5 := H.1
  have hp := H.2.1
  have hq := H.2.2.2.2.2.2.2.2
  have e0 : chN z w.1 x 0 = 0 := by unfold chN; split <;> rfl
  have e := lp (F := fun f (t : Int32 × Int32 × Int32 × mb_T) => f_M_passMinute_58 n k0 y1 y2 (nI x) y4 f t.1 t.2.1 t.2.2.1 t.2.2.2) (R := k0 (calmN z x) (chN z w.1 x (zP z)) (nI (zP z)) s) (fun i => (calmI z x i, chN z w.1 x i, nI i, s)) (zP z) ?_ ?_ n (by omega)
  · dsimp only at e
    rw [e0] at e
    exact e
  · intro i hi f
    dsimp only
    have fin : ∀ a b : Int32, a = calmI z x (i + 1) → b = chN z w.1 x (i + 1) → f_M_passMinute_58 n k0 y1 y2 (nI x) y4 f a b (nI (i + 1)) s = f_M_passMinute_58 n k0 y1 y2 (nI x) y4 f (calmI z x (i + 1)) (chN z w.1 x (i + 1)) (nI (i + 1)) s := by
      intro a b ha hb
      rw [ha, hb]
    rw [f_M_passMinute_58.eq_2, hp, if_neg (npi (by omega) hi), nI_1]
    simp only [mb_jn, pM_isBeside H hx hi, pM_isCalm H hi, clS, rdI (show i < 10 by omega) (show 10 < 2 ^ 31 by decide), rdI (show x < 10 by omega) (show 10 < 2 ^ 31 by decide), (hq i hi).2.1, (hq x hx).2.1, (hq x hx).1]
    cases hb : bt (zB z x) i with
    | false =>
      simp only [Bool.false_eq_true, if_false, if_true]
      refine fin _ _ ?_ ?_
      · rw [calmI_s, hb]; simp
      · unfold chN
        rw [moreN_s, hb]
        by_cases k : zK z x = 2 <;> simp [k]
    | true =>
      simp only [if_true, show ¬ ((1 : Int32) = 0) by decide, if_false]
      by_cases l : w.1 i ≤ w.1 x
      · simp only [if_pos l]
        refine fin _ _ ?_ ?_
        · rw [calmI_s, hb]
          cases calmK (zK z i) <;> simp
        · unfold chN
          rw [moreN_s, hb]
          by_cases k : zK z x = 2 <;> simp [k, l]
      · simp only [if_neg l]
        refine fin _ _ ?_ ?_
        · rw [calmI_s, hb]
          cases calmK (zK z i) <;> simp
        · unfold chN
          rw [moreN_s, hb]
          by_cases k : zK z x = 2 <;> simp [k, l]
  · intro f
    dsimp only
    rw [f_M_passMinute_58.eq_2, hp, if_pos npp, calmI_p]
theorem pM_pass_33 (hn : 200 ≤ n) (H : HM z w s) (Z : zok z) (hh : h < zP z) (li : Bool) (k0 : Int32 → mb_T → Option mb_T) : f_M_passMinute_33 n k0 (nI h) (if li = true then 1 else 0) n 0 s = k0 (nI (zP z)) (sV s 228 (foU (nf z li h w.1) (s.2.1 228) (zP z))) := by
  have h5 := H.1
  have e := lp (F := fun f (t : Int32 × mb_T) => f_M_passMinute_33 n k0 (nI h) (if li = true then 1 else 0) f t.1 t.2) (R := k0 (nI (zP z)) (sV s 228 (foU (nf z li h w.1) (s.2.1 228) (zP z)))) (fun i => (nI i, sV s 228 (foU (nf z li h w.1) (s.2.1 228) i))) (zP z) ?_ ?_ n (by omega)
  · have e2 : sV s 228 (foU (nf z li h w.1) (s.2.1 228) 0) = s := sVid
    dsimp only at e
    rw [e2] at e
    exact e
  · intro i hi f
    dsimp only
    have Hu : HM z w (sV s 228 (foU (nf z li h w.1) (s.2.1 228) i)) := HMfr H FrV
    have hp := Hu.2.1
    obtain ⟨x1, x2, x3, x4, x5⟩ := Hu.2.2.2.2.2.2.2.2 i hi
    have fin : ∀ v, v = nf z li h w.1 i → f_M_passMinute_33 n k0 (nI h) (if li = true then 1 else 0) f (nI (i + 1)) (sV s 228 (upd (foU (nf z li h w.1) (s.2.1 228) i) i v)) = f_M_passMinute_33 n k0 (nI h) (if li = true then 1 else 0) f (nI (i + 1)) (sV s 228 (foU (nf z li h w.1) (s.2.1 228) (i + 1))) := by
      intro v hv
      rw [hv]
      rfl
    rw [f_M_passMinute_33.eq_2, hp, if_neg (npi (by omega) hi), rdI (by omega) (by decide), x2, pM_pass_58 hn Hu hi]
    simp only [mb_jn, pM_isBeside Hu hh hi, clS, rdI (show i < 10 by omega) (show 10 < 2 ^ 31 by decide), wrI (show i < 5 by omega) (show 5 < 2 ^ 31 by decide), x3, x4, sAV, nI_1, nI_eq (show i < 2 ^ 31 by omega) (show h < 2 ^ 31 by omega), clampM, Z.2.2 h i hh hi]
    cases li
    · simp only [Bool.false_eq_true, if_false, if_true]
      refine fin _ ?_
      unfold nf chN
      rw [i_asc]
      simp
    · simp only [if_true, show ¬ ((1 : Int32) = 0) by decide, if_false]
      by_cases hi2 : i = h
      · rw [if_pos hi2]
        refine fin _ ?_
        unfold nf
        rw [if_pos ⟨rfl, hi2⟩, i_sub3]
      · rw [if_neg hi2]
        cases hb : bt (zB z i) h with
        | false =>
          simp only [Bool.false_eq_true, if_false, if_true]
          refine fin _ ?_
          unfold nf chN
          rw [i_asc]
          simp [hi2, hb]
        | true =>
          simp only [if_true, show ¬ ((1 : Int32) = 0) by decide, if_false]
          refine fin _ ?_
          unfold nf
          simp [hi2, hb]
  · intro f
    dsimp only
    have hp2 : (sV s 228 (foU (nf z li h w.1) (s.2.1 228) (zP z))).1 200 8 = nI (zP z) := H.2.1
    rw [f_M_passMinute_33.eq_2, hp2, if_pos npp]
theorem pM_pass_242 (hn : 200 ≤ n) (hp : s.1 200 8 = nI p) (h5 : p ≤ 5) {y1 : Int32} (k0 : Int32 → mb_T → Option mb_T) : f_M_passMinute_242 n k0 y1 n 0 s = k0 (nI p) (sV s 213 (foU (s.2.1 228) (s.2.1 213) p)) := by
  have e := lp (F := fun f (t : Int32 × mb_T) => f_M_passMinute_242 n k0 y1 f t.1 t.2) (R := k0 (nI p) (sV s 213 (foU (s.2.1 228) (s.2.1 213) p))) (fun i => (nI i, sV s 213 (foU (s.2.1 228) (s.2.1 213) i))) p ?_ ?_ n (by omega)
  · have e2 : sV s 213 (foU (s.2.1 228) (s.2.1 213) 0) = s := sVid
    dsimp only at e
    rw [e2] at e
    exact e
  · intro i hi f
    dsimp only
    have hp2 : (sV s 213 (foU (s.2.1 228) (s.2.1 213) i)).1 200 8 = nI p := hp
    have g : (sV s 213 (foU (s.2.1 228) (s.2.1 213) i)).2.1 228 i = s.2.1 228 i := by rw [sV2, if_neg (by decide)]
    rw [f_M_passMinute_242.eq_2, hp2, if_neg (npi (by omega) hi), rdI (by omega) (by decide), wrI (by omega) (by decide), g, sAV, nI_1, foU_s]
  · intro f
    dsimp only
    have hp2 : (sV s 213 (foU (s.2.1 228) (s.2.1 213) p)).1 200 8 = nI p := hp
    rw [f_M_passMinute_242.eq_2, hp2, if_pos npp]
theorem pM_pass (hn : 200 ≤ n) (H : HM z w s) (Z : zok z) (hh : h < zP z) : ∃ t, f_M_passMinute n (nI h) s = some t ∧ Fr [(200, 11), (200, 24), (200, 25)] [213, 228] s t ∧ HM z (stp z h w) t := by
  have h5 := H.1
  have ho := H.2.2.1
  have he := H.2.2.2.2.2.1
  have eo : (s.1 200 11) - (if (if (s.1 200 11) ≤ 0 then 0 else 1 : Int32) = 0 then 0 else 1 : Int32) = burn z w.2.1 := by
    rw [ho]
    unfold burn
    by_cases c : w.2.1 ≤ 0 <;> simp [c, he]
  have el : (if (s.1 200 11) ≤ 0 then 0 else 1 : Int32) = if lit z w.2.1 = true then 1 else 0 := by
    rw [ho]
    unfold lit
    by_cases c : w.2.1 ≤ 0 <;> simp [c, he]
  have H1 : HM z (w.1, burn z w.2.1, w.2.2) (sF s 200 11 (burn z w.2.1)) := by
    obtain ⟨q1, q2, q3, q4, q5, q6, q7, q8, q9⟩ := H
    exact ⟨q1, q2, rfl, q4, q5, q6, q7, q8, q9⟩
  unfold f_M_passMinute
  rw [eo, el, bdS, pM_pass_33 hn H1 Z hh, pM_pass_242 hn (show (sV (sF s 200 11 (burn z w.2.1)) 228 _).1 200 8 = nI (zP z) from H1.2.1) h5, bdS, bdS]
  refine ⟨_, rfl, ?_, ?_⟩
  · exact FrT (FrT (FrT (FrT (FrF (i := 200) (k := 11)) (FrV (q := 228)) (ks := [(200, 11)]) (cs := [228])) (FrV (q := 213)) (ks := [(200, 11)]) (cs := [213, 228])) (FrF (i := 200) (k := 25)) (ks := [(200, 11), (200, 25)]) (cs := [213, 228])) (FrF (i := 200) (k := 24))
  · obtain ⟨q1, q2, q3, q4, q5, q6, q7, q8, q9⟩ := H1
    refine ⟨q1, q2, q3, ?_, rfl, q6, q7, q8, fun x hx => ?_⟩
    · show s.1 200 24 + 1 = w.2.2.1 + 1
      rw [← H.2.2.2.1]
    · obtain ⟨x1, x2, x3, x4, x5⟩ := q9 x hx
      refine ⟨x1, ?_, x3, x4, x5⟩
      show foU (foU (nf z (lit z w.2.1) h w.1) (s.2.1 228) (zP z)) (s.2.1 213) (zP z) x = nf z (lit z w.2.1) h w.1 x
      rw [foU_get, if_pos hx, foU_get, if_pos hx]
end MB
