/-! the pure part: a text read through, in the model -/
def MT (T m : Nat) (tx : Nat → Int32) (s : mb_T) : Prop := s.2.1 206 T = nI m ∧ ∀ i, i < m → s.2.1 207 (80 * T + i) = tx i
section VD
variable {s t u : mb_T} {n p a q m i k x y j l K d G T : Nat} {c : Nat × Bool} {tx : Nat → Int32} {fs : List (Nat × Nat)} {as : List Nat} {v X Y lo hi : Int32}
theorem MT_fr (H : MT T m tx s) (h : Fr fs as s t) (ha : (206 ∉ as ∧ 207 ∉ as) := by decide) : MT T m tx t := by
  unfold MT
  rw [h.2.1 206 ha.1, h.2.1 207 ha.2]
  exact H
theorem pM_here (H : MT T m tx s) (hT : T < 4) (hm : m ≤ 80) (hp : s.1 200 17 = nI p) (hpm : p ≤ m) : f_M_here n (nI T) s = some (if p < m then tx p else -9, s) := by
  unfold f_M_here
  rw [rdI (by omega) (by decide), H.1, hp]
  by_cases l : p < m
  · rw [if_neg (npi (by omega) l), if_pos l, nI_80, nI_add, rdI (by omega) (by decide), H.2 p l]
  · rw [if_pos (nI_le (by omega) (by omega)), if_neg l]
theorem pM_fig (H : MT T m tx s) (hT : T < 4) (hm : m ≤ 80) (hp : s.1 200 17 = nI p) (hpm : p ≤ m) (hl : -57 < lo) : f_M_figure n (nI T) lo hi s = if fgb tx m lo hi p = true then some (tx p - 48, sF s 200 17 (nI (p + 1))) else some (-9, s) := by
  unfold f_M_figure
  rw [pM_here H hT hm hp hpm, clS, pM_in, clS, hp, nI_1, bdS]
  unfold fgb inI
  by_cases l : p < m
  · rw [if_pos l]
    by_cases h1 : tx p - 48 < lo
    · rw [if_pos h1]; simp [h1]
    · rw [if_neg h1]
      by_cases h2 : hi < tx p - 48
      · rw [if_pos h2]; simp [h2]
      · rw [if_neg h2]; simp [l, h1, h2]
  · rw [if_neg l, if_pos (show (-9 : Int32) - 48 < lo from hl)]
    simp [l]
theorem atv_m {tx : Nat → Int32} {m p : Nat} {v : Int32} (hv : ¬ (-9 : Int32) = v) : ((if p < m then tx p else -9 : Int32) = v) = (atv tx m p v = true) := by
  unfold atv
  by_cases c : p < m <;> simp [c, hv]
theorem fgb_v (h : fgb tx m lo hi p = true) (h0 : 0 ≤ lo) : ¬ tx p - 48 = -9 := by
  unfold fgb at h
  simp at h
  intro e
  rw [e] at h
  exact absurd (Int32.le_trans h0 h.2.1) (by decide)
theorem pM_hd (H : MT T m tx s) (hT : T < 4) (hm : m ≤ 80) (hp : s.1 200 17 = nI p) (hpm : p ≤ m) : ∃ u, f_M_readsHead n (nI T) s = some ((if sN (fun j => !hb tx m p j) 4 = 4 then 1 else 0 : Int32), u) ∧ u.1 200 17 = nI (p + sN (fun j => !hb tx m p j) 4) ∧ (sN (fun j => !hb tx m p j) 4 = 4 → u.1 200 19 = (if tx (p + 1) = 111 then 1 else 0) ∧ u.1 200 20 = tx (p + 2) - 48 ∧ u.1 200 21 = 10 * (tx (p + 3) - 48)) ∧ (¬ sN (fun j => !hb tx m p j) 4 = 4 → u.1 200 19 = s.1 200 19) ∧ Fr [(200, 17), (200, 19), (200, 20), (200, 21)] [] s u := by
  unfold f_M_readsHead
  rw [pM_here H hT hm hp hpm, clS]
  simp only [atv_m (show ¬ (-9 : Int32) = 119 by decide)]
  by_cases h0 : atv tx m p 119 = true
  · rw [if_pos h0, bdS, hp, nI_1]
    have pl := atv_l h0
    have H1 : MT T m tx (sF s 200 17 (nI (p + 1))) := MT_fr H FrF
    have hp1 : (sF s 200 17 (nI (p + 1))).1 200 17 = nI (p + 1) := rfl
    rw [pM_here H1 hT hm hp1 (by omega), clS]
    simp only [mb_jn, if_true, pM_here H1 hT hm hp1 (show p + 1 ≤ m by omega), clS, atv_m (show ¬ (-9 : Int32) = 114 by decide), atv_m (show ¬ (-9 : Int32) = 111 by decide)]
    by_cases h1 : (atv tx m (p + 1) 114 || atv tx m (p + 1) 111) = true
    · have pl1 : p + 1 < m := by
        simp at h1
        rcases h1 with h1 | h1 <;> exact atv_l h1
      obtain ⟨r, hr⟩ : ∃ r, r = sF (sF s 200 17 (nI (p + 1))) 200 17 (nI (p + 2)) := ⟨_, rfl⟩
      have H2 : MT T m tx r := by rw [hr]; exact MT_fr H1 FrF
      have hp2 : r.1 200 17 = nI (p + 2) := by rw [hr]; rfl
      have Fr2 : Fr [(200, 17)] [] s r := by rw [hr]; exact FrT FrF FrF
      have r19 : r.1 200 19 = s.1 200 19 := by rw [hr]; rfl
      have e111 : (if atv tx m (p + 1) 111 = true then 1 else 0 : Int32) = if tx (p + 1) = 111 then 1 else 0 := by
        unfold atv
        simp [pl1]
      have body : ∀ C : Option (Int32 × mb_T), C = (mb_bd (sF (sF s 200 17 (nI (p + 1))) 200 17 ((sF s 200 17 (nI (p + 1))).1 200 17 + 1)) fun s_22 => mb_cl (f_M_figure n (nI T) 0 3 s_22) fun r_26 s_24 => if r_26 = (-9) then some ((0 : Int32), s_24) else mb_cl (f_M_figure n (nI T) 0 9 s_24) fun r_31 s_29 => if r_31 = (-9) then some (0, s_29) else mb_bd (sF s_29 200 19 (if atv tx m (p + 1) 111 = true then 1 else 0)) fun s_35 => mb_bd (sF s_35 200 20 r_26) fun s_37 => mb_bd (sF s_37 200 21 (10 * r_31)) fun s_39 => some (1, s_39)) → ∃ u, C = some ((if sN (fun j => !hb tx m p j) 4 = 4 then 1 else 0 : Int32), u) ∧ u.1 200 17 = nI (p + sN (fun j => !hb tx m p j) 4) ∧ (sN (fun j => !hb tx m p j) 4 = 4 → u.1 200 19 = (if tx (p + 1) = 111 then 1 else 0) ∧ u.1 200 20 = tx (p + 2) - 48 ∧ u.1 200 21 = 10 * (tx (p + 3) - 48)) ∧ (¬ sN (fun j => !hb tx m p j) 4 = 4 → u.1 200 19 = s.1 200 19) ∧ Fr [(200, 17), (200, 19), (200, 20), (200, 21)] [] s u := by
        intro C hC
        rw [hC, hp1, nI_1, bdS, ← hr, pM_fig H2 hT hm hp2 (by omega) (by decide), e111]
        by_cases h2 : fgb tx m 0 3 (p + 2) = true
        · have pl2 := fgb_l h2
          have H3 : MT T m tx (sF r 200 17 (nI (p + 3))) := MT_fr H2 FrF
          have hp3 : (sF r 200 17 (nI (p + 3))).1 200 17 = nI (p + 3) := rfl
          rw [if_pos h2, clS, if_neg (fgb_v h2 (by decide)), pM_fig H3 hT hm hp3 (by omega) (by decide)]
          by_cases h3 : fgb tx m 0 9 (p + 3) = true
          · have e4 : sN (fun j => !hb tx m p j) 4 = 4 := sN_all fun i hi => by
              have : i = 0 ∨ i = 1 ∨ i = 2 ∨ i = 3 := by omega
              rcases this with rfl | rfl | rfl | rfl
              · simp [hb, h0]
              · simp only [hb]; simp at h1 ⊢; rcases h1 with h1 | h1 <;> simp [h1]
              · simp [hb, h2]
              · simp [hb, h3]
            rw [if_pos h3, clS, if_neg (fgb_v h3 (by decide)), bdS, bdS, bdS, e4]
            refine ⟨_, rfl, rfl, fun _ => ⟨rfl, rfl, rfl⟩, fun q => absurd rfl q, ?_⟩
            exact FrT (FrT (FrT (FrT (FrT Fr2 (FrF (i := 200) (k := 17)) (ks := [(200, 17)]) (cs := [])) (FrF (i := 200) (k := 17)) (ks := [(200, 17)]) (cs := [])) (FrF (i := 200) (k := 19)) (ks := [(200, 17), (200, 19)]) (cs := [])) (FrF (i := 200) (k := 20)) (ks := [(200, 17), (200, 19), (200, 20)]) (cs := [])) (FrF (i := 200) (k := 21))
          · have e4 : sN (fun j => !hb tx m p j) 4 = 3 := sN_at (fun i hi => by
              have : i = 0 ∨ i = 1 ∨ i = 2 := by omega
              rcases this with rfl | rfl | rfl
              · simp [hb, h0]
              · simp only [hb]; simp at h1 ⊢; rcases h1 with h1 | h1 <;> simp [h1]
              · simp [hb, h2]) (by simp [hb, h3]) (by omega)
            rw [if_neg h3, clS, if_pos rfl, e4]
            exact ⟨_, rfl, rfl, fun q => by omega, fun _ => r19, FrT Fr2 (FrF (i := 200) (k := 17))⟩
        · have e4 : sN (fun j => !hb tx m p j) 4 = 2 := sN_at (fun i hi => by
            have : i = 0 ∨ i = 1 := by omega
            rcases this with rfl | rfl
            · simp [hb, h0]
            · simp only [hb]; simp at h1 ⊢; rcases h1 with h1 | h1 <;> simp [h1]) (by simp [hb, h2]) (by omega)
          rw [if_neg h2, clS, if_pos rfl, e4]
          exact ⟨r, rfl, hp2, fun q => by omega, fun _ => r19, FrI Fr2⟩
      refine body _ ?_
      simp at h1
      rcases h1 with h1 | h1
      · rw [if_pos h1]
      · by_cases h9 : atv tx m (p + 1) 114 = true
        · rw [if_pos h9]
        · rw [if_neg h9]; simp only [h1, if_true]
    · simp at h1
      have e4 : sN (fun j => !hb tx m p j) 4 = 1 := sN_at (fun i hi => by
        have : i = 0 := by omega
        rw [this]; simp [hb, h0]) (by simp [hb, h1]) (by omega)
      rw [if_neg (by rw [h1.1]; decide), if_neg (by rw [h1.2]; decide), e4]
      exact ⟨_, rfl, rfl, fun q => by omega, fun _ => rfl, FrI FrF⟩
  · have e4 : sN (fun j => !hb tx m p j) 4 = 0 := sN_at (fun i hi => by omega) (by simp [hb, h0]) (by omega)
    rw [if_neg h0, e4]
    exact ⟨s, rfl, hp, fun q => by omega, fun _ => rfl, FrR⟩
theorem pM_ps (H : MT T m tx s) (hT : T < 4) (hm : m ≤ 80) (hp : s.1 200 17 = nI p) (hpm : p ≤ m) (hx : s.1 200 18 = nI x) (h5 : x ≤ 5) : ∃ u, f_M_readsPerson n (nI T) s = some ((if sN (fun j => !pb tx m x p j) 5 = 5 then 1 else 0 : Int32), u) ∧ u.1 200 17 = nI (p + sN (fun j => !pb tx m x p j) 5) ∧ (sN (fun j => !pb tx m x p j) 5 = 5 → u.1 200 18 = nI (x + 1) ∧ (∀ i, i ≠ 5 + x → u.2.1 212 i = s.2.1 212 i ∧ u.2.1 213 i = s.2.1 213 i ∧ u.2.1 214 i = s.2.1 214 i ∧ u.2.1 215 i = s.2.1 215 i ∧ u.2.1 216 i = s.2.1 216 i) ∧ pD tx p (5 + x) (u.2.1 212) (u.2.1 213) (u.2.1 214) (u.2.1 215) (u.2.1 216)) ∧ (¬ sN (fun j => !pb tx m x p j) 5 = 5 → u.2.1 = s.2.1) ∧ Fr [(200, 17), (200, 18)] [212, 213, 214, 215, 216] s u := by
  unfold f_M_readsPerson
  have ekd : kdO (if p < m then tx p else -9) = kdv tx m p := by
    unfold kdv
    by_cases c : p < m
    · rw [if_pos c, if_pos c]
    · rw [if_neg c, if_neg c]; decide
  rw [pM_here H hT hm hp hpm, clS, show f_M_kindOf n (if p < m then tx p else -9) s = some (kdO (if p < m then tx p else -9), s) from rfl, clS, ekd]
  by_cases h0 : (decide (x < 5) && !decide (kdv tx m p = -9)) = true
  · have h0' : x < 5 ∧ ¬ kdv tx m p = -9 := by simpa using h0
    have pl : p < m := by
      have := pb_l (tx := tx) (m := m) (x := x) (p := p) (j := 0) (by omega) h0
      omega
    have eK : kdv tx m p = kdO (tx p) := by unfold kdv; rw [if_pos pl]
    rw [if_neg h0'.2, hx, if_neg (show ¬ nI x = (5 : Int32) by rw [show (5 : Int32) = nI 5 from rfl, nI_eq (by omega) (by decide)]; omega), bdS, hp, nI_1]
    have H1 : MT T m tx (sF s 200 17 (nI (p + 1))) := MT_fr H FrF
    have hp1 : (sF s 200 17 (nI (p + 1))).1 200 17 = nI (p + 1) := rfl
    have hx1 : (sF s 200 17 (nI (p + 1))).1 200 18 = nI x := hx
    rw [hx1, pM_fig H1 hT hm hp1 (by omega) (by decide)]
    simp only [mb_jn, if_true]
    by_cases h1 : fgb tx m 0 9 (p + 1) = true
    · have pl1 := fgb_l h1
      have H2 : MT T m tx (sF (sF s 200 17 (nI (p + 1))) 200 17 (nI (p + 2))) := MT_fr H1 FrF
      have hp2 : (sF (sF s 200 17 (nI (p + 1))) 200 17 (nI (p + 2))).1 200 17 = nI (p + 2) := rfl
      rw [if_pos h1, clS, if_neg (fgb_v h1 (by decide)), pM_fig H2 hT hm hp2 (by omega) (by decide)]
      by_cases h2 : fgb tx m 0 9 (p + 2) = true
      · have pl2 := fgb_l h2
        have H3 : MT T m tx (sF (sF (sF s 200 17 (nI (p + 1))) 200 17 (nI (p + 2))) 200 17 (nI (p + 3))) := MT_fr H2 FrF
        have hp3 : (sF (sF (sF s 200 17 (nI (p + 1))) 200 17 (nI (p + 2))) 200 17 (nI (p + 3))).1 200 17 = nI (p + 3) := rfl
        rw [if_pos h2, clS, if_neg (fgb_v h2 (by decide)), pM_fig H3 hT hm hp3 (by omega) (by decide)]
        by_cases h3 : fgb tx m 0 9 (p + 3) = true
        · have pl3 := fgb_l h3
          obtain ⟨r, hr⟩ : ∃ r, r = sF (sF (sF (sF s 200 17 (nI (p + 1))) 200 17 (nI (p + 2))) 200 17 (nI (p + 3))) 200 17 (nI (p + 4)) := ⟨_, rfl⟩
          have H4 : MT T m tx r := by rw [hr]; exact MT_fr H3 FrF
          have hp4 : r.1 200 17 = nI (p + 4) := by rw [hr]; rfl
          have F4 : Fr [(200, 17)] [] s r := by rw [hr]; exact FrT (FrT (FrT FrF FrF (ks := [(200, 17)]) (cs := [])) FrF (ks := [(200, 17)]) (cs := [])) FrF
          have r18 : r.1 200 18 = nI x := by rw [hr]; exact hx
          rw [if_pos h3, clS, if_neg (fgb_v h3 (by decide)), ← hr, pM_fig H4 hT hm hp4 (by omega) (by decide)]
          by_cases h4 : fgb tx m 1 9 (p + 4) = true
          · have e5 : sN (fun j => !pb tx m x p j) 5 = 5 := sN_all fun i hi => by
              have : i = 0 ∨ i = 1 ∨ i = 2 ∨ i = 3 ∨ i = 4 := by omega
              rcases this with rfl | rfl | rfl | rfl | rfl
              · show (!(decide (x < 5) && !decide (kdv tx m p = -9))) = false
                rw [h0]; rfl
              · simp [pb, h1]
              · simp [pb, h2]
              · simp [pb, h3]
              · simp [pb, h4]
            have hi5 : (5 : Int32) + nI x = nI (5 + x) := nI_add 5 x
            obtain ⟨w, hw⟩ : ∃ w, w = sF (sA (sA (sA (sA (sA (sF r 200 17 (nI (p + 5))) 212 (5 + x) (kdv tx m p)) 213 (5 + x) (tx (p + 1) - 48)) 214 (5 + x) (tx (p + 2) - 48)) 215 (5 + x) (tx (p + 3) - 48)) 216 (5 + x) (5 * (tx (p + 4) - 48))) 200 18 (nI (x + 1)) := ⟨_, rfl⟩
            have Fw : Fr [(200, 17), (200, 18)] [212, 213, 214, 215, 216] s w := by
              rw [hw]
              exact FrT (FrT (FrT (FrT (FrT (FrT (FrT F4 (FrF (i := 200) (k := 17)) (ks := [(200, 17)]) (cs := [])) (FrA (q := 212)) (ks := [(200, 17)]) (cs := [212])) (FrA (q := 213)) (ks := [(200, 17)]) (cs := [212, 213])) (FrA (q := 214)) (ks := [(200, 17)]) (cs := [212, 213, 214])) (FrA (q := 215)) (ks := [(200, 17)]) (cs := [212, 213, 214, 215])) (FrA (q := 216)) (ks := [(200, 17)]) (cs := [212, 213, 214, 215, 216])) (FrF (i := 200) (k := 18))
            refine ⟨w, ?_, by rw [e5, hw]; rfl, fun _ => ⟨by rw [hw]; rfl, fun i hi => ?_, ?_⟩, fun q => absurd e5 q, Fw⟩
            · rw [if_pos h4, clS, if_neg (fgb_v h4 (by decide)), hi5, wrI (by omega) (by decide), wrI (by omega) (by decide), wrI (by omega) (by decide), wrI (by omega) (by decide), wrI (by omega) (by decide), bdS, e5, hw]
              have : (sA (sA (sA (sA (sA (sF r 200 17 (nI (p + 4 + 1))) 212 (5 + x) (kdv tx m p)) 213 (5 + x) (tx (p + 1) - 48)) 214 (5 + x) (tx (p + 2) - 48)) 215 (5 + x) (tx (p + 3) - 48)) 216 (5 + x) (5 * (tx (p + 4) - 48))).1 200 18 = nI x := r18
              rw [this, nI_1]
              rfl
            · rw [hw]
              have g : ∀ q, r.2.1 q = s.2.1 q := fun q => F4.2.1 q (by simp)
              refine ⟨?_, ?_, ?_, ?_, ?_⟩
              · show upd (r.2.1 212) (5 + x) _ i = _
                rw [updI, if_neg hi, g]
              · show upd (r.2.1 213) (5 + x) _ i = _
                rw [updI, if_neg hi, g]
              · show upd (r.2.1 214) (5 + x) _ i = _
                rw [updI, if_neg hi, g]
              · show upd (r.2.1 215) (5 + x) _ i = _
                rw [updI, if_neg hi, g]
              · show upd (r.2.1 216) (5 + x) _ i = _
                rw [updI, if_neg hi, g]
            · rw [hw]
              refine ⟨?_, ?_, ?_, ?_, ?_⟩
              · show upd (r.2.1 212) (5 + x) (kdv tx m p) (5 + x) = _
                rw [updI, if_pos rfl, eK]
              · show upd (r.2.1 213) (5 + x) (tx (p + 1) - 48) (5 + x) = _
                rw [updI, if_pos rfl]
              · show upd (r.2.1 214) (5 + x) (tx (p + 2) - 48) (5 + x) = _
                rw [updI, if_pos rfl]
              · show upd (r.2.1 215) (5 + x) (tx (p + 3) - 48) (5 + x) = _
                rw [updI, if_pos rfl]
              · show upd (r.2.1 216) (5 + x) (5 * (tx (p + 4) - 48)) (5 + x) = _
                rw [updI, if_pos rfl]
          · have e5 : sN (fun j => !pb tx m x p j) 5 = 4 := sN_at (fun i hi => by
              have : i = 0 ∨ i = 1 ∨ i = 2 ∨ i = 3 := by omega
              rcases this with rfl | rfl | rfl | rfl
              · show (!(decide (x < 5) && !decide (kdv tx m p = -9))) = false
                rw [h0]; rfl
              · simp [pb, h1]
              · simp [pb, h2]
              · simp [pb, h3]) (by simp [pb, h4]) (by omega)
            rw [if_neg h4, clS, if_pos rfl, e5]
            exact ⟨r, rfl, hp4, fun q => by omega, fun _ => by rw [hr]; rfl, FrI F4⟩
        · have e5 : sN (fun j => !pb tx m x p j) 5 = 3 := sN_at (fun i hi => by
            have : i = 0 ∨ i = 1 ∨ i = 2 := by omega
            rcases this with rfl | rfl | rfl
            · show (!(decide (x < 5) && !decide (kdv tx m p = -9))) = false
              rw [h0]; rfl
            · simp [pb, h1]
            · simp [pb, h2]) (by simp [pb, h3]) (by omega)
          rw [if_neg h3, clS, if_pos rfl, e5]
          exact ⟨_, rfl, rfl, fun q => by omega, fun _ => rfl, FrI (FrT (FrT FrF FrF (ks := [(200, 17)]) (cs := [])) FrF (ks := [(200, 17)]) (cs := []))⟩
      · have e5 : sN (fun j => !pb tx m x p j) 5 = 2 := sN_at (fun i hi => by
          have : i = 0 ∨ i = 1 := by omega
          rcases this with rfl | rfl
          · show (!(decide (x < 5) && !decide (kdv tx m p = -9))) = false
            rw [h0]; rfl
          · simp [pb, h1]) (by simp [pb, h2]) (by omega)
        rw [if_neg h2, clS, if_pos rfl, e5]
        exact ⟨_, rfl, rfl, fun q => by omega, fun _ => rfl, FrI (FrT FrF FrF (ks := [(200, 17)]) (cs := []))⟩
    · have e5 : sN (fun j => !pb tx m x p j) 5 = 1 := sN_at (fun i hi => by
        have : i = 0 := by omega
        rw [this]
        show (!(decide (x < 5) && !decide (kdv tx m p = -9))) = false
        rw [h0]; rfl) (by simp [pb, h1]) (by omega)
      rw [if_neg h1, clS, if_pos rfl, e5]
      exact ⟨_, rfl, rfl, fun q => by omega, fun _ => rfl, FrI FrF⟩
  · have e5 : sN (fun j => !pb tx m x p j) 5 = 0 := sN_at (fun i hi => by omega) (by
      show (!(decide (x < 5) && !decide (kdv tx m p = -9))) = true
      cases hh : (decide (x < 5) && !decide (kdv tx m p = -9)) with
      | true => exact absurd hh h0
      | false => rfl) (by omega)
    rw [e5]
    refine ⟨s, ?_, hp, fun q => by omega, fun _ => rfl, FrR⟩
    by_cases c : kdv tx m p = -9
    · rw [if_pos c]; rfl
    · rw [if_neg c, hx, if_pos]
      · rfl
      · have : ¬ x < 5 := fun q => h0 (by simp [q, c])
        rw [show x = 5 by omega]; rfl
end VD
