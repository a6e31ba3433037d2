/-! the pure part: marks -/
section RO
variable {s t u : mb_T} {n p a b q m i c c1 k x y j l h K mi na : Nat} {v : Int32} {z : zT} {w w2 : wT} {r : Bool} {law law2 X Y V U T : Int32} {g : Nat → Int32}
def sumF (g : Nat → Int32) (p : Nat) : Int32 := fo (fun y c => c + g y) 0 p
theorem sumF_s : sumF g (i + 1) = sumF g i + g i := rfl
/-- what one more of a kind counts -/
def mk1 (z : zT) (w : wT) (x y k : Nat) : Int32 := if k = 1 then (if bt (zB z x) y = true then 1 else 0) else if k = 2 then (if bt (zB z x) y = false then 0 else if w.1 y ≤ w.1 x then 0 else 1) else if k = 3 then (if w.1 y ≤ w.1 x then 0 else 1) else if k = 4 then (if y = x then 0 else if zK z y = 4 then 1 else 0) else 0
theorem pM_mk53 (hn : 200 ≤ n) (H : HM z w s) (hx : x < zP z) (hk : 1 ≤ k ∧ k ≤ 5) {k0 : Int32 → Int32 → mb_T → Option (Int32 × mb_T)} : f_M_mark_53 n k0 (nI x) (nI k) n 0 0 s = k0 (sumF (fun y => mk1 z w x y k) (zP z)) (nI (zP z)) s := by
  have h5 := H.1
  have hq := H.2.2.2.2.2.2.2.2
  refine lp (F := fun f (t : Int32 × Int32 × mb_T) => f_M_mark_53 n k0 (nI x) (nI k) f t.1 t.2.1 t.2.2) (fun i => (sumF (fun y => mk1 z w x y k) i, nI i, s)) (zP z) ?_ ?_ n (by omega)
  · intro i hi f
    dsimp only
    have fin : ∀ e : Int32, e = mk1 z w x i k → f_M_mark_53 n k0 (nI x) (nI k) f (sumF (fun y => mk1 z w x y k) i + e) (nI (i + 1)) s = f_M_mark_53 n k0 (nI x) (nI k) f (sumF (fun y => mk1 z w x y k) (i + 1)) (nI (i + 1)) s := by
      intro e he
      rw [he, sumF_s]
    rw [f_M_mark_53.eq_2, H.2.1, if_neg (npi (by omega) hi), pM_isBeside H hx hi, clS, rdI (by omega) (by decide), rdI (by omega) (by decide), (hq i hi).2.1, (hq x hx).2.1, nI_1]
    simp only [mb_jn, rdI (show i < 10 by omega) (show 10 < 2 ^ 31 by decide), (hq i hi).1, nI_eq (show i < 2 ^ 31 by omega) (show x < 2 ^ 31 by omega)]
    have : k = 1 ∨ k = 2 ∨ k = 3 ∨ k = 4 ∨ k = 5 := by omega
    rcases this with rfl | rfl | rfl | rfl | rfl
    · simp only [show nI 1 = 1 from rfl, show ¬ ((1 : Int32) = 4) by decide, show ¬ ((1 : Int32) = 3) by decide, show ¬ ((1 : Int32) = 2) by decide, if_false, if_true]
      cases hb : bt (zB z x) i with
      | false => exact fin 0 (by unfold mk1; rw [hb]; rfl)
      | true => exact fin 1 (by unfold mk1; rw [hb]; rfl)
    · simp only [show nI 2 = 2 from rfl, show ¬ ((2 : Int32) = 4) by decide, show ¬ ((2 : Int32) = 3) by decide, show ¬ ((2 : Int32) = 1) by decide, if_false, if_true]
      cases hb : bt (zB z x) i with
      | false => exact fin 0 (by unfold mk1; rw [hb]; rfl)
      | true =>
        by_cases l : w.1 i ≤ w.1 x
        · simp only [if_pos l, if_true, show ¬ ((1 : Int32) = 0) by decide, if_false]
          exact fin 0 (by unfold mk1; rw [hb, if_pos l]; rfl)
        · simp only [if_neg l, if_true, show ¬ ((1 : Int32) = 0) by decide, if_false]
          exact fin 1 (by unfold mk1; rw [hb, if_neg l]; rfl)
    · simp only [show nI 3 = 3 from rfl, show ¬ ((3 : Int32) = 4) by decide, show ¬ ((3 : Int32) = 2) by decide, show ¬ ((3 : Int32) = 1) by decide, if_false, if_true]
      by_cases l : w.1 i ≤ w.1 x
      · simp only [if_pos l, if_true]
        exact fin 0 (by unfold mk1; rw [if_pos l]; rfl)
      · simp only [if_neg l, show ¬ ((1 : Int32) = 0) by decide, if_false]
        exact fin 1 (by unfold mk1; rw [if_neg l]; rfl)
    · simp only [show nI 4 = 4 from rfl, show ¬ ((4 : Int32) = 3) by decide, show ¬ ((4 : Int32) = 2) by decide, show ¬ ((4 : Int32) = 1) by decide, if_false, if_true]
      by_cases l : i = x
      · rw [if_pos l]
        exact fin 0 (by unfold mk1; rw [if_pos l]; rfl)
      · rw [if_neg l]
        exact fin _ (by unfold mk1; rw [if_neg l]; rfl)
    · simp only [show nI 5 = 5 from rfl, show ¬ ((5 : Int32) = 4) by decide, show ¬ ((5 : Int32) = 3) by decide, show ¬ ((5 : Int32) = 2) by decide, show ¬ ((5 : Int32) = 1) by decide, if_false]
      exact fin 0 rfl
  · intro f
    dsimp only
    rw [f_M_mark_53.eq_2, H.2.1, if_pos npp]
theorem pM_mk168 (hn : 200 ≤ n) (hm : s.1 200 24 = nI mi) (h1 : mi ≤ 120) (hk : 1 ≤ k ∧ k ≤ 5) {k0 : Int32 → Int32 → mb_T → Option (Int32 × mb_T)} : ∃ e, f_M_mark_168 n k0 (nI x) (nI k) n V 0 s = k0 (if k = 5 then V + sumF (fun t => if s.2.1 226 t = nI x then 1 else 0) mi else V) e s := by
  by_cases c : k = 5
  · subst c
    refine ⟨nI mi, ?_⟩
    rw [if_pos rfl]
    have e := lp (F := fun f (t : Int32 × Int32 × mb_T) => f_M_mark_168 n k0 (nI x) (nI 5) f t.1 t.2.1 t.2.2) (R := k0 (V + sumF (fun t => if s.2.1 226 t = nI x then 1 else 0) mi) (nI mi) s) (fun i => (V + sumF (fun t => if s.2.1 226 t = nI x then 1 else 0) i, nI i, s)) mi ?_ ?_ n (by omega)
    · dsimp only at e
      rw [show sumF (fun t => if s.2.1 226 t = nI x then 1 else 0) 0 = 0 from rfl, Int32.add_zero] at e
      exact e
    · intro i hi f
      dsimp only
      rw [f_M_mark_168.eq_2, hm, if_neg (npi (by omega) hi), if_pos (by decide), rdI (by omega) (by decide), nI_1, sumF_s, Int32.add_assoc]
    · intro f
      dsimp only
      rw [f_M_mark_168.eq_2, hm, if_pos npp]
  · refine ⟨0, ?_⟩
    rw [if_neg c]
    obtain ⟨f, rfl⟩ : ∃ f, n = f + 1 := ⟨n - 1, by omega⟩
    have hc : ¬ nI k = (5 : Int32) := by
      rw [show (5 : Int32) = nI 5 from rfl, nI_eq (by omega) (by decide)]
      exact c
    rw [f_M_mark_168.eq_2, if_neg hc]
    split <;> rfl
theorem sg_1 {kd : Nat → Int32} (hx : kd x = 4) : ∀ {i : Nat}, (i ≤ x → sumF (fun y => if y = x then 0 else if kd y = 4 then 1 else 0) i = sgN kd i) ∧ (x < i → sumF (fun y => if y = x then 0 else if kd y = 4 then 1 else 0) i + 1 = sgN kd i)
  | 0 => ⟨fun _ => rfl, fun h => by omega⟩
  | i + 1 => by
    obtain ⟨h1, h2⟩ := @sg_1 kd hx i
    have e : sgN kd (i + 1) = sgN kd i + if kd i = 4 then 1 else 0 := rfl
    refine ⟨fun h => ?_, fun h => ?_⟩
    · rw [sumF_s, h1 (by omega), if_neg (by omega), e]
    · by_cases c : i = x
      · subst c
        rw [sumF_s, h1 (Nat.le_refl _), if_pos rfl, e, hx, if_pos rfl, Int32.add_zero]
      · rw [sumF_s, e, ← h2 (by omega), if_neg c, Int32.add_assoc, Int32.add_assoc, Int32.add_comm 1]
theorem pV_times (hn : 200 ≤ n) (hm : s.1 100 4 = nI mi) (h1 : mi ≤ 120) : f_V_timesHeld n 100 (nI x) s = some (sumF (fun t => if s.2.1 110 t = nI x then 1 else 0) mi, s) := by
  unfold f_V_timesHeld
  refine lp (F := fun f (t : Int32 × Int32 × mb_T) => f_V_timesHeld_4 n (fun x_7 x_8 s_9 => some (x_7, s_9)) 100 (nI x) f t.1 t.2.1 t.2.2) (fun i => (sumF (fun t => if s.2.1 110 t = nI x then 1 else 0) i, nI i, s)) mi ?_ ?_ n (by omega)
  · intro i hi f
    dsimp only
    rw [f_V_timesHeld_4.eq_2, hm, if_neg (npi (by omega) hi), rdI (by omega) (by decide), nI_1, sumF_s]
  · intro f
    dsimp only
    rw [f_V_timesHeld_4.eq_2, hm, if_pos npp]
theorem cs_mark (hn : 200 ≤ n) : CS (f_C_mark n X Y) (f_M_mark n X Y) := by
  intro s R
  obtain ⟨-, -, -, r4, r, z, w, law, H⟩ := id R
  have h5 := Cav5 H
  obtain ⟨p1, p2⟩ := CavP H
  obtain ⟨mi, m1, m2, m3, m4⟩ := Cav_m H
  rcases rngC (x := X) (zP z) (by omega) with ⟨x, hx, rfl⟩ | hX
  · by_cases a1 : Y < 1
    · refine ⟨-1, s, s, ?_, ?_, R⟩
      · unfold f_C_mark
        rw [pC_isOne_t p1 h5 hx, clS, if_neg (by decide), if_pos a1]
      · unfold f_M_mark
        rw [pM_isOne_t p2 h5 hx, clS, if_neg (by decide), pM_in, clS, inI, if_pos a1, if_pos rfl]
    · by_cases a2 : Y ≤ 5
      · obtain ⟨k, hk, rfl⟩ := nI_of2 (M := 5) (n := 5) rfl (fun q => a1 (Int32.lt_of_lt_of_le q (by decide))) a2
        have k1 : 1 ≤ k := by
          rcases Nat.eq_zero_or_pos k with c | c
          · exact absurd (by rw [c]; decide) a1
          · exact c
        have ei : inI (nI k) 1 5 = 1 := by rw [inI, if_neg a1, if_neg (Int32.not_lt.mpr a2)]
        have ec := (((CavV H).2.2.2.2.2.2 x hx)).1
        have cal : ∀ u, HM z w u → f_M_mark n (nI x) (nI k) u = if ofK (zK z x) (nI k) = true then f_M_mark_53 n (fun x_65 x_66 s_67 => f_M_mark_168 n (fun x_75 x_76 s_77 => some (x_75, s_77)) (nI x) (nI k) n x_65 0 s_67) (nI x) (nI k) n 0 0 u else some (-3, fM 3 u) := by
          intro u Mu
          unfold f_M_mark
          rw [pM_isOne_t Mu.2.1 h5 hx, clS, if_neg (by decide), pM_in, clS, ei, if_neg (by decide), rdI (by omega) (by decide), ((Mu.2.2.2.2.2.2.2.2 x hx)).1]
          simp only [mb_jn, pM_isCalm Mu hx, clS, pM_f3]
          unfold ofK calmK
          by_cases d1 : zK z x = nI k
          · simp [d1]
          · by_cases d2 : nI k = 1
            · have d3 : ¬ zK z x = 1 := by rw [← d2]; exact d1
              by_cases d4 : zK z x = 4
              · simp [d2, d4]
              · by_cases d5 : zK z x = 5 <;> simp [d2, d3, d4, d5]
            · simp [d1, d2]
        cases hk9 : ofK (zK z x) (nI k) with
        | false =>
          refine ⟨-3, fC 3 s, fM 3 (fC 3 s), ?_, ?_, Rel_found R⟩
          · have k0 : f_C_isOfKind n (zK z x) (nI k) s = some (0, s) := by rw [p_isOfKind, hk9]; rfl
            unfold f_C_mark
            rw [pC_isOne_t p1 h5 hx, clS, if_neg (by decide), if_neg a1, if_pos a2, rdI (by omega) (by decide), ec, k0, clS, if_pos rfl, pC_f3, clS]
          · rw [cal (fC 3 s) (HMfk (CavM H) (FkT (FrQ (FrF (i := 0) (k := 13))) (FrQ (FrA (q := 12))) : Fk [(0, 13)] [12] s (fC 3 s)) (by decide) (by decide)), hk9, if_neg (by decide)]
        | true =>
          obtain ⟨t, t1, t2, t3, t4⟩ := q_begin hn (CavV H) H.1
          have Mt : HM z w t := HMfr (CavM H) t2
          have Rt : Rel t := Rel_qs R H (Fk_of t2) Mt (by rw [t2.1 0 14 (by decide), t2.1 200 2 (by decide)]; exact r4)
          obtain ⟨e, he⟩ := pM_mk168 (s := t) (x := x) (k := k) (V := sumF (fun y => mk1 z w x y k) (zP z)) (k0 := fun x_75 x_76 s_77 => some (x_75, s_77)) hn (by rw [t2.1 200 24 (by decide)]; exact m4) m1 ⟨k1, hk⟩
          have EM : f_M_mark n (nI x) (nI k) t = some (if k = 5 then sumF (fun y => mk1 z w x y k) (zP z) + sumF (fun e => if t.2.1 226 e = nI x then 1 else 0) mi else sumF (fun y => mk1 z w x y k) (zP z), t) := by
            rw [cal t Mt, hk9, if_pos rfl, pM_mk53 hn Mt hx ⟨k1, hk⟩]
            exact he
          refine ⟨_, t, t, ?_, EM, Rt⟩
          have EC : f_C_mark n (nI x) (nI k) s = if nI k = 1 then (mb_cl (f_A_bitsBeside n (nI x) t) fun r_40 s_38 => mb_cl (f_I_bitCount n r_40 s_38) fun r_43 s_41 => some (r_43, s_41)) else if nI k = 2 then (mb_cl (f_A_bitsBeside n (nI x) t) fun r_34 s_32 => mb_cl (f_A_moreAfraid n (nI x) r_34 s_32) fun r_37 s_35 => some (r_37, s_35)) else if nI k = 3 then (mb_cl (f_A_bitsOfAll n t) fun r_28 s_26 => mb_cl (f_A_moreAfraid n (nI x) r_28 s_26) fun r_31 s_29 => some (r_31, s_29)) else if nI k = 4 then (mb_cl (f_A_singers n t) fun r_25 s_23 => some ((r_25 - 1), s_23)) else mb_cl (f_V_timesHeld n 100 (nI x) t) fun r_22 s_20 => some (r_22, s_20) := by
            unfold f_C_mark
            rw [pC_isOne_t p1 h5 hx, clS, if_neg (by decide), if_neg a1, if_pos a2, rdI (by omega) (by decide), ec, p_isOfKind, clS, hk9, if_pos rfl, if_neg (by decide), t1, cwS2]
          rw [EC]
          have hmo : moreN (zP z) (zB z x) (t.2.1 48) x = moreN (zP z) (zB z x) w.1 x := moreN_c hx (fun y hy => (t3.2.2.2.2.2.2.2 y hy).2.1)
          have hma : moreN (zP z) (allB (zP z)) (t.2.1 48) x = moreN (zP z) (allB (zP z)) w.1 x := moreN_c hx (fun y hy => (t3.2.2.2.2.2.2.2 y hy).2.1)
          have : k = 1 ∨ k = 2 ∨ k = 3 ∨ k = 4 ∨ k = 5 := by omega
          rcases this with rfl | rfl | rfl | rfl | rfl
          · obtain ⟨b, b1, b2⟩ := sitB_w (zP z) (by omega) r x hx
            rw [← H.1.1] at b2
            rw [if_pos (by decide), pA_bitsBeside t3 hx, clS, p_bitCount, clS, b2, bc_1 (zP z) (by omega) b b1, ← b2]
            rfl
          · rw [if_neg (by decide), if_pos (by decide), pA_bitsBeside t3 hx, clS, pA_moreAfraid hn t3.2.1 h5 (by omega), clS, hmo]
            rfl
          · rw [if_neg (by decide), if_neg (by decide), if_pos (by decide), pA_bitsOfAll t3.2.1, clS, pA_moreAfraid hn t3.2.1 h5 (by omega), clS, hma]
            have e3 : moreN (zP z) (allB (zP z)) w.1 x = sumF (fun y => mk1 z w x y 3) (zP z) := by
              refine fo_congr fun i hi c => ?_
              rw [allB_d (zP z) (by omega) i hi]
              rfl
            rw [e3]
            rfl
          · have e4 : zK z x = 4 := by
              unfold ofK at hk9
              have h41 : decide (nI 4 = (1 : Int32)) = false := by decide
              rw [h41] at hk9
              show zK z x = nI 4
              simpa using hk9
            have := (sg_1 (kd := zK z) e4 (i := zP z)).2 hx
            rw [if_neg (by decide), if_neg (by decide), if_neg (by decide), if_pos (by decide), qA_singers hn t3, clS, ← this, Int32.add_sub_cancel]
            rfl
          · have e5 : sumF (fun y => mk1 z w x y 5) (zP z) = 0 := by
              have : ∀ i, sumF (fun y => mk1 z w x y 5) i = 0 := by
                intro i
                induction i with
                | zero => rfl
                | succ i ih => rw [sumF_s, ih]; rfl
              exact this _
            rw [if_neg (by decide), if_neg (by decide), if_neg (by decide), if_neg (by decide), pV_times hn (by rw [t2.1 100 4 (by decide)]; exact m3) m1, clS, if_pos rfl, e5, Int32.zero_add]
            have e6 : sumF (fun e => if t.2.1 110 e = nI x then 1 else 0) mi = sumF (fun e => if t.2.1 226 e = nI x then 1 else 0) mi := by
              refine fo_congr fun i hi c => ?_
              show c + (if t.2.1 110 i = nI x then 1 else 0) = c + (if t.2.1 226 i = nI x then (1 : Int32) else 0)
              rw [t2.2.1 110 (by decide), t2.2.1 226 (by decide), (CavH H m1 m2 i hi).2.1]
            rw [e6]
      · refine ⟨-1, s, s, ?_, ?_, R⟩
        · unfold f_C_mark
          rw [pC_isOne_t p1 h5 hx, clS, if_neg (by decide), if_neg a1, if_neg a2]
        · unfold f_M_mark
          rw [pM_isOne_t p2 h5 hx, clS, if_neg (by decide), pM_in, clS, inI, if_neg a1, if_pos (Int32.not_le.mp a2), if_pos rfl]
  · refine ⟨-1, s, s, ?_, ?_, R⟩
    · unfold f_C_mark
      rw [pC_isOne_f p1 hX, clS, if_pos rfl]
    · unfold f_M_mark
      rw [pM_isOne_f p2 h5 hX, clS, if_pos rfl]
end RO
