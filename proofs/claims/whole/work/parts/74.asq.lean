/-! the pure part: what aside tells -/
/-- the first of the most afraid of 0..i -/
def gW (fe : Nat → Int32) (i : Nat) : Nat := fo (fun j b => if fe (j + 1) ≤ fe b then b else j + 1) 0 i
def sumS (fe : Nat → Int32) (p : Nat) : Int32 := fo (fun x c => c + fe x) 0 p
def sgN (kd : Nat → Int32) (p : Nat) : Int32 := fo (fun x c => c + if kd x = 4 then 1 else 0) 0 p
theorem gW_le {fe : Nat → Int32} : ∀ {i : Nat}, gW fe i ≤ i
  | 0 => Nat.le_refl _
  | i + 1 => by
    show (if fe (i + 1) ≤ fe (gW fe i) then gW fe i else i + 1) ≤ i + 1
    have := @gW_le fe i
    split <;> omega
theorem gW_s {f : Nat → Int32} {i : Nat} : gW f (i + 1) = if f (i + 1) ≤ f (gW f i) then gW f i else i + 1 := rfl
theorem gW_0 {f : Nat → Int32} : gW f 0 = 0 := rfl
theorem gW_c {f g : Nat → Int32} {i : Nat} (H : ∀ x, x ≤ i → f x = g x) : gW f i = gW g i := by
  induction i with
  | zero => rw [gW_0, gW_0]
  | succ i ih =>
    have l := @gW_le g i
    have e := ih (fun x hx => H x (Nat.le_succ_of_le hx))
    have e1 := H (i + 1) (Nat.le_refl _)
    have e2 := H (gW g i) (Nat.le_succ_of_le l)
    rw [gW_s, gW_s, e]
    generalize gW g i = k at e2
    rw [e1, e2]
theorem sumS_c {f g : Nat → Int32} {p : Nat} (H : ∀ x, x < p → f x = g x) : sumS f p = sumS g p := fo_congr fun i hi c => by rw [H i hi]
theorem sgN_c {f g : Nat → Int32} {p : Nat} (H : ∀ x, x < p → f x = g x) : sgN f p = sgN g p := fo_congr fun i hi c => by rw [H i hi]
section PJ
variable {s : mb_T} {n x h p m : Nat} {z : zT} {w : wT} {am law : Int32}
theorem pA_mostAfraid (hn : 200 ≤ n) (hp : s.1 40 0 = nI p) (h5 : p ≤ 5) : f_A_mostAfraid n s = some (nI (gW (s.2.1 48) (p - 1)), s) := by
  unfold f_A_mostAfraid
  refine lp (F := fun f (t : Int32 × Int32 × mb_T) => f_A_mostAfraid_4 n (fun x_10 x_11 s_12 => some (x_10, s_12)) f t.1 t.2.1 t.2.2) (fun i => (nI (gW (s.2.1 48) i), nI (i + 1), s)) (p - 1) ?_ ?_ n (by omega)
  · intro i hi f
    dsimp only
    have l := @gW_le (s.2.1 48) i
    rw [f_A_mostAfraid_4.eq_2, hp, if_neg (npi (by omega) (by omega)), rdI (by omega) (by decide), rdI (by omega) (by decide), nI_1 (i + 1)]
    show _ = f_A_mostAfraid_4 n _ f (nI (if s.2.1 48 (i + 1) ≤ s.2.1 48 (gW (s.2.1 48) i) then gW (s.2.1 48) i else i + 1)) _ _
    split <;> rfl
  · intro f
    dsimp only
    rw [f_A_mostAfraid_4.eq_2, hp, if_pos (nI_le (by omega) (by omega))]
theorem qA_mostAfraid (hn : 200 ≤ n) (H : HA z w s) (h1 : 1 ≤ zP z) : f_A_mostAfraid n s = some (nI (gW w.1 (zP z - 1)), s) := by
  rw [pA_mostAfraid hn H.2.1 H.1, gW_c (fun x hx => (H.2.2.2.2.2.2.2 x (by omega)).2.1)]
theorem qA_greatestFear (hn : 200 ≤ n) (H : HA z w s) (h1 : 1 ≤ zP z) : f_A_greatestFear n s = some (w.1 (gW w.1 (zP z - 1)), s) := by
  have l := @gW_le w.1 (zP z - 1)
  have h5 := H.1
  unfold f_A_greatestFear
  rw [qA_mostAfraid hn H h1, clS, pA_isHere H.2.1 H.1 (by omega), clS, if_pos (show gW w.1 (zP z - 1) < zP z by omega), if_neg (by decide), rdI (by omega) (by decide), (H.2.2.2.2.2.2.2 _ (by omega)).2.1]
theorem qA_fearTogether (hn : 200 ≤ n) (H : HA z w s) : f_A_fearTogether n s = some (sumS w.1 (zP z), s) := by
  have h5 := H.1
  have hp := H.2.1
  rw [← sumS_c (fun x hx => (H.2.2.2.2.2.2.2 x hx).2.1)]
  unfold f_A_fearTogether
  refine lp (F := fun f (t : Int32 × Int32 × mb_T) => f_A_fearTogether_4 n (fun x_10 x_11 s_12 => some (x_10, s_12)) f t.1 t.2.1 t.2.2) (fun i => (sumS (s.2.1 48) i, nI i, s)) (zP z) ?_ ?_ n (by omega)
  · intro i hi f
    dsimp only
    rw [f_A_fearTogether_4.eq_2, hp, if_neg (npi (by omega) hi), rdI (by omega) (by decide), nI_1]
    rfl
  · intro f
    dsimp only
    rw [f_A_fearTogether_4.eq_2, hp, if_pos npp]
theorem qA_singers (hn : 200 ≤ n) (H : HA z w s) : f_A_singers n s = some (sgN (zK z) (zP z), s) := by
  have h5 := H.1
  have hp := H.2.1
  rw [← sgN_c (fun x hx => (H.2.2.2.2.2.2.2 x hx).1)]
  unfold f_A_singers
  refine lp (F := fun f (t : Int32 × Int32 × mb_T) => f_A_singers_4 n (fun x_10 x_11 s_12 => some (x_10, s_12)) f t.1 t.2.1 t.2.2) (fun i => (sgN (s.2.1 47) i, nI i, s)) (zP z) ?_ ?_ n (by omega)
  · intro i hi f
    dsimp only
    rw [f_A_singers_4.eq_2, hp, if_neg (npi (by omega) hi), rdI (by omega) (by decide), nI_1]
    rfl
  · intro f
    dsimp only
    rw [f_A_singers_4.eq_2, hp, if_pos npp]
/-- behind how many minutes it is over, or -9 -/
def hol (z : zT) (law : Int32) (w : wT) (m : Nat) : Int32 := if ovr z (wi z law w (sN (fun k => ovr z (wi z law w k)) m)) = true then nI (sN (fun k => ovr z (wi z law w k)) m) else -9
theorem qA_howLong (hn : 200 ≤ n) (H : HA z w s) (Z : zok z) (W : wok z w) (h1 : 1 ≤ zP z) (hl : lawok law) (hm : m ≤ 100) : ∃ t, f_A_howLong n law (nI m) s = some (hol z law w m, t) ∧ Fr [(40, 2), (40, 4), (40, 5)] [48, 49, 55] s t ∧ HA z (wi z law w (sN (fun k => ovr z (wi z law w k)) m)) t := by
  obtain ⟨t, t1, t2, t3, -⟩ := qA_goOn hn H Z W h1 hl hm
  refine ⟨t, ?_, t2, t3⟩
  unfold f_A_howLong hol
  rw [t1, clS, qA_isOver hn t3, clS]
  cases ovr z (wi z law w (sN (fun k => ovr z (wi z law w k)) m)) <;> rfl
/-- a story -/
def sto (z : zT) (h : Nat) (fe : Nat → Int32) (x : Nat) : Int32 := if bt (zB z h) x = false then (if x = h then (if zK z x = 4 then fe x else (if 99 < fe x + 1 then 99 else fe x + 1 : Int32)) else fe x) else (if fe x - 2 < 0 then 0 else fe x - 2 : Int32)
theorem foU_s {f g : Nat → Int32} {i : Nat} : foU f g (i + 1) = upd (foU f g i) i (f i) := rfl
theorem foU_c {f f2 g : Nat → Int32} {i : Nat} (H : ∀ x, x < i → f x = f2 x) : foU f g i = foU f2 g i := by
  funext y
  rw [foU_get, foU_get]
  split
  · exact H y (by assumption)
  · rfl
theorem updid {g : Nat → Int32} {i : Nat} : upd g i (g i) = g := by
  funext y
  rw [updI]
  split
  · next e => rw [e]
  · rfl
theorem updid2 {g : Nat → Int32} {i : Nat} {v : Int32} (h : v = g i) : upd g i v = g := by rw [h]; exact updid
theorem qA_tellStory (hn : 200 ≤ n) (H : HA z w s) (hh : h < zP z) : ∃ t, f_A_tellStory n (nI h) s = some t ∧ Fr [] [48] s t ∧ HA z (sto z h w.1, w.2) t := by
  have h5 := H.1
  unfold f_A_tellStory
  rw [pA_bitsBeside H hh, clS]
  obtain ⟨-, hp, ho, he, hm, hl, hz, hx⟩ := H
  have e := lp (F := fun f (t : Int32 × mb_T) => f_A_tellStory_8 n (fun x_23 s_24 => some s_24) (nI h) (zB z h) f t.1 t.2) (R := some (sV s 48 (foU (sto z h w.1) (s.2.1 48) (zP z)))) (fun i => (nI i, sV s 48 (foU (sto z h w.1) (s.2.1 48) i))) (zP z) ?_ ?_ n (by omega)
  · have e2 : sV s 48 (foU (sto z h w.1) (s.2.1 48) 0) = s := sVid
    dsimp only at e
    rw [e2] at e
    refine ⟨_, e, FrV, ⟨h5, hp, ho, he, hm, hl, hz, fun x hxp => ?_⟩⟩
    obtain ⟨x1, x2, x3, x4, x5, x6, x7⟩ := hx x hxp
    refine ⟨x1, ?_, x3, x4, x5, x6, x7⟩
    show foU (sto z h w.1) (s.2.1 48) (zP z) x = _
    rw [foU_get, if_pos hxp]
  · intro i hi f
    obtain ⟨x1, x2, x3, x4, x5, x6, x7⟩ := hx i hi
    dsimp only
    have hp2 : (sV s 48 (foU (sto z h w.1) (s.2.1 48) i)).1 40 0 = nI (zP z) := hp
    have g1 : (sV s 48 (foU (sto z h w.1) (s.2.1 48) i)).2.1 48 i = w.1 i := by
      rw [sV2, if_pos rfl, foU_get, if_neg (by omega), x2]
    have g2 : (sV s 48 (foU (sto z h w.1) (s.2.1 48) i)).2.1 47 i = zK z i := x1
    have g3 : foU (sto z h w.1) (s.2.1 48) i i = w.1 i := by
      rw [foU_get, if_neg (by omega), x2]
    rw [f_A_tellStory_8.eq_2, hp2, if_neg (npi (by omega) hi)]
    simp only [rdI (show i < 5 by omega) (show 5 < 2 ^ 31 by decide), wrI (show i < 5 by omega) (show 5 < 2 ^ 31 by decide), g1, g2, sAV, nI_1, bt0, nI_eq (show i < 2 ^ 31 by omega) (show h < 2 ^ 31 by omega), foU_s]
    by_cases hb : bt (zB z h) i = false
    · rw [if_pos hb]
      by_cases hi2 : i = h
      · rw [if_pos hi2]
        by_cases hk : zK z i = 4
        · rw [if_pos hk, updid2]
          rw [g3]; unfold sto; rw [if_pos hb, if_pos hi2, if_pos hk]
        · rw [if_neg hk]; unfold sto; rw [if_pos hb, if_pos hi2, if_neg hk]
      · rw [if_neg hi2, updid2]
        rw [g3]; unfold sto; rw [if_pos hb, if_neg hi2]
    · rw [if_neg hb]; 
      have es : sto z h w.1 i = (if w.1 i - 2 < 0 then 0 else w.1 i - 2 : Int32) := by unfold sto; rw [if_neg hb]
      rw [es]
  · intro f
    dsimp only
    have hp2 : (sV s 48 (foU (sto z h w.1) (s.2.1 48) (zP z))).1 40 0 = nI (zP z) := hp
    rw [f_A_tellStory_8.eq_2, hp2, if_pos npp]
end PJ
