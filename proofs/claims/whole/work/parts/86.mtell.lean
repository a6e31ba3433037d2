/-! the pure part: ranges, stories and songs in the model -/
def wrg (z : zT) (w : wT) : Prop := ∀ x, x < zP z → ∃ f, f ≤ 99 ∧ w.1 x = nI f
def zrg (z : zT) : Prop := ∀ x, x < zP z → ∃ c, 5 ≤ c ∧ c ≤ 45 ∧ zS z x = nI c
def zns (z : zT) : Prop := ∀ x, x < zP z → bt (zB z x) x = false
theorem clampS_r {v : Int32} : ∃ f, f ≤ 99 ∧ clampS v = nI f := by
  unfold clampS
  by_cases h : v < 0
  · exact ⟨0, by decide, by rw [if_pos h, if_neg (by decide)]; rfl⟩
  · rw [if_neg h]
    by_cases h2 : 99 < v
    · exact ⟨99, by decide, by rw [if_pos h2]; rfl⟩
    · rw [if_neg h2]
      exact nI_of2 (M := 99) rfl h (Int32.not_lt.mp h2)
theorem stp_r {z : zT} {h : Nat} {w : wT} : wrg z (stp z h w) := fun _ _ => clampS_r
theorem wi_r {z : zT} {law : Int32} {w : wT} (R : wrg z w) : ∀ {k : Nat}, wrg z (wi z law w k)
  | 0 => R
  | _ + 1 => stp_r
theorem st2_d : ∀ f, f < 100 → (if 2 ≤ nI f then nI f - 2 else 0 : Int32) = (if nI f - 2 < 0 then 0 else nI f - 2 : Int32) ∧ (∃ g, g < 100 ∧ (if nI f - 2 < 0 then 0 else nI f - 2 : Int32) = nI g) ∧ (∃ g, g < 100 ∧ (if 99 < nI f + 1 then 99 else nI f + 1 : Int32) = nI g) ∧ (f < 99 → (if 99 < nI f + 1 then 99 else nI f + 1 : Int32) = nI f + 1) := by decide +kernel
theorem sng_d : ∀ f, f < 100 → ∀ c, c < 6 → (if 1 + nI c ≤ nI f then nI f - (1 + nI c) else 0 : Int32) = (if nI f - (1 + nI c) < 0 then 0 else nI f - (1 + nI c) : Int32) ∧ ∃ g, g < 100 ∧ (if nI f - (1 + nI c) < 0 then 0 else nI f - (1 + nI c) : Int32) = nI g := by decide +kernel
theorem sgN_n {kd : Nat → Int32} : ∀ {p : Nat}, ∃ c, c ≤ p ∧ sgN kd p = nI c
  | 0 => ⟨0, Nat.le_refl _, rfl⟩
  | p + 1 => by
    obtain ⟨c, c1, c2⟩ := @sgN_n kd p
    have e : sgN kd (p + 1) = sgN kd p + if kd p = 4 then 1 else 0 := rfl
    rw [e, c2]
    split
    · exact ⟨c + 1, by omega, nI_1 c⟩
    · exact ⟨c, by omega, Int32.add_zero _⟩
theorem sto_r {z : zT} {h : Nat} {w : wT} (R : wrg z w) : wrg z (sto z h w.1, w.2) := by
  intro x hx
  obtain ⟨f, f1, f2⟩ := R x hx
  obtain ⟨-, ⟨g1, g2, g3⟩, ⟨g4, g5, g6⟩, -⟩ := st2_d f (by omega)
  show ∃ f, f ≤ 99 ∧ sto z h w.1 x = nI f
  unfold sto
  rw [f2]
  split
  · split
    · split
      · exact ⟨f, f1, rfl⟩
      · exact ⟨g4, by omega, g6⟩
    · exact ⟨f, f1, rfl⟩
  · exact ⟨g1, by omega, g3⟩
theorem sng_r {z : zT} {w : wT} (h5 : zP z ≤ 5) (R : wrg z w) : wrg z (sng z w.1, w.2) := by
  intro x hx
  obtain ⟨f, f1, f2⟩ := R x hx
  obtain ⟨c, c1, c2⟩ := @sgN_n (zK z) (zP z)
  obtain ⟨-, g, g1, g2⟩ := sng_d f (by omega) c (by omega)
  show ∃ f, f ≤ 99 ∧ sng z w.1 x = nI f
  unfold sng
  rw [f2, c2]
  exact ⟨g, by omega, g2⟩
theorem whoS_m {fe sc : Nat → Int32} {p : Nat} : whoS fe sc p = mkB (fun i => !decide (fe i < sc i)) p := fo_congr fun i _ v => by
  by_cases c : fe i < sc i <;> simp [c]
theorem whoS_0 {fe sc : Nat → Int32} {p x : Nat} (h5 : p ≤ 5) (h : whoS fe sc p = 0) (hx : x < p) : fe x < sc x := by
  rw [whoS_m] at h
  obtain ⟨k, k1, k2, k3⟩ := @mkB_k (fun i => !decide (fe i < sc i)) p h5
  have hk : k < 2 ^ 5 := Nat.lt_of_lt_of_le k1 (Nat.pow_le_pow_right (by decide) h5)
  rw [k2, show (0 : Int32) = nI 0 from rfl, nI_eq (by omega) (by decide)] at h
  subst h
  have := k3 x hx
  have e0 : ∀ y, y < 5 → bt (nI 0) y = false := by decide +kernel
  rw [e0 x (by omega)] at this
  simpa using this.symm
theorem ovr_f {z : zT} {w : wT} {x : Nat} (h5 : zP z ≤ 5) (h : ovr z w = false) (hx : x < zP z) : w.1 x < zS z x := by
  unfold ovr at h
  exact whoS_0 h5 (by simpa using h) hx
theorem i_le_t {a b c : Int32} (h1 : a ≤ b) (h2 : b ≤ c) : a ≤ c := Int32.le_trans h1 h2
theorem gW_x {fe : Nat → Int32} : ∀ {i x : Nat}, x ≤ i → fe x ≤ fe (gW fe i)
  | 0, x, h => by
    have : x = 0 := by omega
    subst this
    exact Int32.le_refl _
  | i + 1, x, h => by
    rw [gW_s]
    by_cases c : fe (i + 1) ≤ fe (gW fe i)
    · rw [if_pos c]
      by_cases e : x = i + 1
      · rw [e]; exact c
      · exact gW_x (by omega)
    · rw [if_neg c]
      by_cases e : x = i + 1
      · rw [e]; exact Int32.le_refl _
      · exact i_le_t (@gW_x fe i x (by omega)) (by
          have := Int32.not_le.mp c
          exact Int32.le_of_lt this)
section MD
variable {s t : mb_T} {n x y h p i m : Nat} {z : zT} {w w2 : wT} {v am law : Int32}
def stm (z : zT) (h : Nat) (fe : Nat → Int32) (x : Nat) : Int32 := if bt (zB z h) x = false then fe x else (if 2 ≤ fe x then fe x - 2 else 0 : Int32)
theorem pM_tellStory (hn : 200 ≤ n) (H : HM z w s) (N : zns z) (R : wrg z w) (C : zrg z) (ho : ovr z w = false) (hh : h < zP z) : ∃ t, f_M_tellStory n (nI h) s = some t ∧ Fr [] [213] s t ∧ HM z (sto z h w.1, w.2) t := by
  have h5 := H.1
  unfold f_M_tellStory
  have e := lp (F := fun f (t : Int32 × mb_T) => f_M_tellStory_2 n (fun x_19 s_20 => mb_rd s_20 213 10 (nI h) fun x_21 => mb_rd s_20 212 10 (nI h) fun x_24 => mb_wr s_20 213 10 (nI h) (x_21 + (if x_24 = 4 then 0 else 1 : Int32)) fun s_29 => some s_29) (nI h) f t.1 t.2) (R := some (sV s 213 (upd (foU (stm z h w.1) (s.2.1 213) (zP z)) h (w.1 h + (if zK z h = 4 then 0 else 1 : Int32))))) (fun i => (nI i, sV s 213 (foU (stm z h w.1) (s.2.1 213) i))) (zP z) ?_ ?_ n (by omega)
  · have e2 : sV s 213 (foU (stm z h w.1) (s.2.1 213) 0) = s := sVid
    dsimp only at e
    rw [e2] at e
    refine ⟨_, e, FrV, ?_⟩
    obtain ⟨q1, q2, q3, q4, q5, q6, q7, q8, q9⟩ := H
    refine ⟨q1, q2, q3, q4, q5, q6, q7, q8, fun x hx => ?_⟩
    obtain ⟨x1, x2, x3, x4, x5⟩ := q9 x hx
    refine ⟨x1, ?_, x3, x4, x5⟩
    show upd (foU (stm z h w.1) (s.2.1 213) (zP z)) h (w.1 h + (if zK z h = 4 then 0 else 1 : Int32)) x = sto z h w.1 x
    obtain ⟨f, f1, f2⟩ := R x hx
    obtain ⟨c, c1, c2, c3⟩ := C x hx
    have hlt := ovr_f h5 ho hx
    rw [f2, c3, nI_ltI (by omega) (by omega)] at hlt
    obtain ⟨d1, -, -, d4⟩ := st2_d f (by omega)
    rw [updI]
    unfold sto
    by_cases e : x = h
    · subst e
      rw [if_pos rfl, N x hx, if_pos rfl, if_pos rfl, f2, d4 (by omega)]
      by_cases k : zK z x = 4 <;> simp [k]
    · rw [if_neg e, foU_get, if_pos hx]
      unfold stm
      rw [f2, d1]
      by_cases b : bt (zB z h) x = false
      · rw [if_pos b, if_pos b, if_neg e]
      · rw [if_neg b, if_neg b]
  · intro i hi f
    dsimp only
    obtain ⟨x1, x2, x3, x4, x5⟩ := H.2.2.2.2.2.2.2.2 i hi
    have hp2 : (sV s 213 (foU (stm z h w.1) (s.2.1 213) i)).1 200 8 = nI (zP z) := H.2.1
    have g1 : (sV s 213 (foU (stm z h w.1) (s.2.1 213) i)).2.1 213 i = w.1 i := by
      rw [sV2, if_pos rfl, foU_get, if_neg (by omega), x2]
    have g3 : foU (stm z h w.1) (s.2.1 213) i i = w.1 i := by
      rw [foU_get, if_neg (by omega), x2]
    have hb : f_M_isBeside n (nI h) (nI i) (sV s 213 (foU (stm z h w.1) (s.2.1 213) i)) = some ((if bt (zB z h) i = true then 1 else 0 : Int32), sV s 213 (foU (stm z h w.1) (s.2.1 213) i)) := by
      have H2 : HM z (foU (stm z h w.1) (s.2.1 213) i, w.2) (sV s 213 (foU (stm z h w.1) (s.2.1 213) i)) := by
        obtain ⟨q1, q2, q3, q4, q5, q6, q7, q8, q9⟩ := H
        exact ⟨q1, q2, q3, q4, q5, q6, q7, q8, fun x hx => ⟨(q9 x hx).1, rfl, (q9 x hx).2.2.1, (q9 x hx).2.2.2.1, (q9 x hx).2.2.2.2⟩⟩
      exact pM_isBeside H2 hh hi
    rw [f_M_tellStory_2.eq_2, hp2, if_neg (npi (by omega) hi), hb, clS]
    simp only [rdI (show i < 10 by omega) (show 10 < 2 ^ 31 by decide), wrI (show i < 10 by omega) (show 10 < 2 ^ 31 by decide), g1, sAV, nI_1, foU_s]
    cases b : bt (zB z h) i with
    | false =>
      rw [if_pos (by decide), updid2]
      rw [g3]; unfold stm; rw [if_pos b]
    | true =>
      rw [if_neg (by decide)]
      have es : stm z h w.1 i = (if 2 ≤ w.1 i then w.1 i - 2 else 0 : Int32) := by unfold stm; rw [b, if_neg (by decide)]
      rw [es]
      split <;> rfl
  · intro f
    dsimp only
    obtain ⟨x1, x2, x3, x4, x5⟩ := H.2.2.2.2.2.2.2.2 h hh
    have hp2 : (sV s 213 (foU (stm z h w.1) (s.2.1 213) (zP z))).1 200 8 = nI (zP z) := H.2.1
    have g1 : (sV s 213 (foU (stm z h w.1) (s.2.1 213) (zP z))).2.1 213 h = w.1 h := by
      rw [sV2, if_pos rfl, foU_get, if_pos hh]
      unfold stm
      rw [N h hh, if_pos rfl]
    have g2 : (sV s 213 (foU (stm z h w.1) (s.2.1 213) (zP z))).2.1 212 h = zK z h := x1
    rw [f_M_tellStory_2.eq_2, hp2, if_pos npp, rdI (by omega) (by decide), rdI (by omega) (by decide), wrI (by omega) (by decide), g1, g2, sAV]
/-- all are less afraid than v -/
theorem gW_lt {fe : Nat → Int32} (h1 : 1 ≤ p) : fe (gW fe (p - 1)) < v ↔ ∀ x, x < p → fe x < v := by
  constructor
  · intro a x hx
    exact Int32.lt_of_le_of_lt (@gW_x fe (p - 1) x (by omega)) a
  · intro a
    have := @gW_le fe (p - 1)
    exact a _ (by omega)
theorem qM_song_f (hn : 200 ≤ n) (H : HM z w s) (x0 : x < zP z) (hx : ¬ w.1 x < v) {k0 k1 : Int32 → Int32 → mb_T → Option (Int32 × mb_T)} (hk : ∀ a b, k0 a b s = some (-4, s)) : f_M_song_33 n k0 k1 v n 1 0 s = some (-4, s) := by
  have h5 := H.1
  obtain ⟨q1, q2, q3⟩ := @sN_p (fun x => !decide (w.1 x < v)) (zP z)
  generalize sN (fun x => !decide (w.1 x < v)) (zP z) = K at q1 q2 q3
  have hK : K < zP z := by
    rcases Nat.lt_or_ge K (zP z) with l | l
    · exact l
    · have := q2 x (by omega)
      simp at this
      exact absurd this hx
  refine lp (F := fun f (t : Int32 × Int32 × mb_T) => f_M_song_33 n k0 k1 v f t.1 t.2.1 t.2.2) (fun i => (1 + sgN (zK z) i, nI i, s)) K ?_ ?_ n (by omega)
  · intro i hi f
    have e := q2 i hi
    simp at e
    dsimp only
    rw [f_M_song_33.eq_2, H.2.1, if_neg (npi (by omega) (by omega)), rdI (by omega) (by decide), rdI (by omega) (by decide), (H.2.2.2.2.2.2.2.2 i (by omega)).2.1, (H.2.2.2.2.2.2.2.2 i (by omega)).1, if_pos e, nI_1, Int32.add_assoc]
    rfl
  · intro f
    have e := q3 hK
    simp at e
    dsimp only
    rw [f_M_song_33.eq_2, H.2.1, if_neg (npi (by omega) (by omega)), rdI (by omega) (by decide), (H.2.2.2.2.2.2.2.2 K (by omega)).2.1, if_neg (Int32.not_lt.mpr e), hk]
theorem qM_song_t (hn : 200 ≤ n) (H : HM z w s) (R : wrg z w) (hx : ∀ x, x < zP z → w.1 x < v) {k0 : Int32 → Int32 → mb_T → Option (Int32 × mb_T)} {k1 : Int32 → mb_T → Option (Int32 × mb_T)} : ∃ t, f_M_song_33 n k0 (fun x_23 x_24 s_25 => f_M_song_80 n k1 x_23 n 0 s_25) v n 1 0 s = k1 (nI (zP z)) t ∧ Fr [] [213] s t ∧ HM z (sng z w.1, w.2) t := by
  have h5 := H.1
  have E1 : f_M_song_33 n k0 (fun x_23 x_24 s_25 => f_M_song_80 n k1 x_23 n 0 s_25) v n 1 0 s = f_M_song_80 n k1 (1 + sgN (zK z) (zP z)) n 0 s := by
    refine lp (F := fun f (t : Int32 × Int32 × mb_T) => f_M_song_33 n k0 (fun x_23 x_24 s_25 => f_M_song_80 n k1 x_23 n 0 s_25) v f t.1 t.2.1 t.2.2) (fun i => (1 + sgN (zK z) i, nI i, s)) (zP z) ?_ ?_ n (by omega)
    · intro i hi f
      dsimp only
      rw [f_M_song_33.eq_2, H.2.1, if_neg (npi (by omega) (by omega)), rdI (by omega) (by decide), rdI (by omega) (by decide), (H.2.2.2.2.2.2.2.2 i (by omega)).2.1, (H.2.2.2.2.2.2.2.2 i (by omega)).1, if_pos (hx i hi), nI_1, Int32.add_assoc]
      rfl
    · intro f
      dsimp only
      rw [f_M_song_33.eq_2, H.2.1, if_pos npp]
  rw [E1]
  have e := lp (F := fun f (t : Int32 × mb_T) => f_M_song_80 n k1 (1 + sgN (zK z) (zP z)) f t.1 t.2) (R := k1 (nI (zP z)) (sV s 213 (foU (sng z w.1) (s.2.1 213) (zP z)))) (fun i => (nI i, sV s 213 (foU (sng z w.1) (s.2.1 213) i))) (zP z) ?_ ?_ n (by omega)
  · have e2 : sV s 213 (foU (sng z w.1) (s.2.1 213) 0) = s := sVid
    dsimp only at e
    rw [e2] at e
    refine ⟨_, e, FrV, ?_⟩
    obtain ⟨q1, q2, q3, q4, q5, q6, q7, q8, q9⟩ := H
    refine ⟨q1, q2, q3, q4, q5, q6, q7, q8, fun x hx => ?_⟩
    obtain ⟨x1, x2, x3, x4, x5⟩ := q9 x hx
    refine ⟨x1, ?_, x3, x4, x5⟩
    show foU (sng z w.1) (s.2.1 213) (zP z) x = sng z w.1 x
    rw [foU_get, if_pos hx]
  · intro i hi f
    dsimp only
    obtain ⟨x1, x2, x3, x4, x5⟩ := H.2.2.2.2.2.2.2.2 i hi
    have hp2 : (sV s 213 (foU (sng z w.1) (s.2.1 213) i)).1 200 8 = nI (zP z) := H.2.1
    have g1 : (sV s 213 (foU (sng z w.1) (s.2.1 213) i)).2.1 213 i = w.1 i := by
      rw [sV2, if_pos rfl, foU_get, if_neg (by omega), x2]
    rw [f_M_song_80.eq_2, hp2, if_neg (npi (by omega) hi)]
    simp only [rdI (show i < 10 by omega) (show 10 < 2 ^ 31 by decide), wrI (show i < 10 by omega) (show 10 < 2 ^ 31 by decide), g1, sAV, nI_1, foU_s]
    obtain ⟨f9, f1, f2⟩ := R i hi
    obtain ⟨c, c1, c2⟩ := @sgN_n (zK z) (zP z)
    obtain ⟨d1, -⟩ := sng_d f9 (by omega) c (by omega)
    have es : sng z w.1 i = (if 1 + sgN (zK z) (zP z) ≤ w.1 i then w.1 i - (1 + sgN (zK z) (zP z)) else 0 : Int32) := by
      unfold sng
      rw [c2, f2, d1]
    rw [es]
    split <;> rfl
  · intro f
    dsimp only
    have hp2 : (sV s 213 (foU (sng z w.1) (s.2.1 213) (zP z))).1 200 8 = nI (zP z) := H.2.1
    rw [f_M_song_80.eq_2, hp2, if_pos npp]
end MD
