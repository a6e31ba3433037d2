/-! the pure part: a minute aside -/
section PE
variable {β : Type} {s : mb_T} {n p x h a0 n0 a1 n1 sp dp m q i : Nat} {z : zT} {w : wT} {am v : Int32} {k : mb_T → Option β} {g : Nat → Int32}
theorem cpI (h0 : sp + m ≤ n0) (h1 : dp + m ≤ n1) (hn0 : n0 < 2 ^ 31) (hn1 : n1 < 2 ^ 31) : mb_cp s a0 n0 a1 n1 (nI sp) (nI dp) (nI m) k = k (sV s a1 (va_cpy (s.2.1 a0) (s.2.1 a1) sp dp m)) := by
  unfold mb_cp
  rw [nI_clamp (by omega), nI_clamp (by omega), nI_clamp (by omega), if_pos ⟨⟨nI_pos (by omega), nI_pos (by omega), nI_pos (by omega)⟩, h0, h1⟩]
theorem sVid : sV s q (s.2.1 q) = s := by
  obtain ⟨F, A, J⟩ := s
  refine Prod.ext rfl (Prod.ext (funext fun b => ?_) rfl)
  show (if b = q then A q else A b) = A b
  split
  · next e => rw [e]
  · rfl
theorem sVV {g2 : Nat → Int32} : sV (sV s q g) q g2 = sV s q g2 := by
  refine Prod.ext rfl (Prod.ext (funext fun b => ?_) rfl)
  show (if b = q then g2 else (if b = q then g else s.2.1 b)) = if b = q then g2 else s.2.1 b
  split <;> rfl
theorem sAV : sA (sV s q g) q i v = sV s q (upd g i v) := by
  unfold sA
  rw [sVV, sV2, if_pos rfl]
/-- an array, its first ones told -/
def foU (f : Nat → Int32) (g : Nat → Int32) (i : Nat) : Nat → Int32 := fo (fun x g => upd g x (f x)) g i
theorem foU_get {f g : Nat → Int32} : ∀ {i y : Nat}, foU f g i y = if y < i then f y else g y
  | 0, y => by rw [if_neg (by omega)]; rfl
  | i + 1, y => by
    show upd (foU f g i) i (f i) y = _
    rw [updI, foU_get]
    by_cases e : y = i
    · rw [if_pos e, if_pos (by omega), e]
    · rw [if_neg e]
      by_cases l : y < i
      · rw [if_pos l, if_pos (by omega)]
      · rw [if_neg l, if_neg (by omega)]
theorem moreN_c {f1 f2 : Nat → Int32} (hx : x < p) (H : ∀ y, y < p → f1 y = f2 y) : moreN p am f1 x = moreN p am f2 x := by
  unfold moreN
  refine fo_congr fun i hi c => ?_
  rw [H i hi, H x hx]
theorem pA_pass_46 (hn : 200 ≤ n) (H : HA z w s) (hh : h < zP z) (li : Bool) (k0 : Int32 → mb_T → Option mb_T) : f_A_pass_46 n k0 (nI h) (if li = true then 1 else 0) n 0 s = k0 (nI (zP z)) (sV s 49 (foU (nf z li h w.1) (s.2.1 49) (zP z))) := by
  obtain ⟨h5, hp, -, -, -, -, -, hx⟩ := H
  have e := lp (F := fun f (t : Int32 × mb_T) => f_A_pass_46 n k0 (nI h) (if li = true then 1 else 0) f t.1 t.2) (R := k0 (nI (zP z)) (sV s 49 (foU (nf z li h w.1) (s.2.1 49) (zP z)))) (fun i => (nI i, sV s 49 (foU (nf z li h w.1) (s.2.1 49) i))) (zP z) ?_ ?_ n (by omega)
  · have e2 : sV s 49 (foU (nf z li h w.1) (s.2.1 49) 0) = s := sVid
    dsimp only at e
    rw [e2] at e
    exact e
  · intro i hi f
    obtain ⟨x1, x2, x3, x4, x5, x6, x7⟩ := hx i hi
    dsimp only
    have hp2 : (sV s 49 (foU (nf z li h w.1) (s.2.1 49) i)).1 40 0 = nI (zP z) := hp
    rw [f_A_pass_46.eq_2, hp2, if_neg (npi (by omega) hi), rdI (by omega) (by decide), rdI (by omega) (by decide), jnS, jnS]
    have er : ∀ q, q ≠ 49 → (sV s 49 (foU (nf z li h w.1) (s.2.1 49) i)).2.1 q = s.2.1 q := fun q hq => by rw [sV2, if_neg hq]
    have em : f_A_moreAfraid n (nI i) (zB z i) (sV s 49 (foU (nf z li h w.1) (s.2.1 49) i)) = some (moreN (zP z) (zB z i) w.1 i, sV s 49 (foU (nf z li h w.1) (s.2.1 49) i)) := by
      rw [pA_moreAfraid hn hp2 h5 (by omega), er 48 (by decide), moreN_c hi (fun y hy => (hx y hy).2.1)]
    simp only [mb_jn, rdI (show i < 5 by omega) (show 5 < 2 ^ 31 by decide), wrI (show i < 5 by omega) (show 5 < 2 ^ 31 by decide), er 48 (by decide), er 54 (by decide), er 50 (by decide), er 47 (by decide), er 53 (by decide), er 51 (by decide), x1, x2, x3, x4, x6, x7, em, clS, sAV, nI_1, bt0, nI_eq (show i < 2 ^ 31 by omega) (show h < 2 ^ 31 by omega)]
    have fin : ∀ v, v = nf z li h w.1 i → f_A_pass_46 n k0 (nI h) (if li = true then 1 else 0) f (nI (i + 1)) (sV s 49 (upd (foU (nf z li h w.1) (s.2.1 49) i) i v)) = f_A_pass_46 n k0 (nI h) (if li = true then 1 else 0) f (nI (i + 1)) (sV s 49 (foU (nf z li h w.1) (s.2.1 49) (i + 1))) := by
      intro v hv
      rw [hv]
      rfl
    cases li
    · simp only [Bool.false_eq_true, if_false, if_true]
      by_cases hk : zK z i = 2
      · rw [if_pos hk]
        refine fin _ ?_
        simp [nf, clampS, hk]
      · rw [if_neg hk]
        refine fin _ ?_
        simp [nf, clampS, hk]
    · simp only [if_true, show ¬ ((1 : Int32) = 0) by decide, if_false]
      by_cases hi2 : i = h
      · rw [if_pos hi2]
        refine fin _ ?_
        simp [nf, clampS, hi2]
      · rw [if_neg hi2]
        by_cases hb : bt (zB z i) h = false
        · rw [if_pos hb]
          by_cases hk : zK z i = 2
          · rw [if_pos hk]
            refine fin _ ?_
            simp [nf, clampS, hk, hi2, hb]
          · rw [if_neg hk]
            refine fin _ ?_
            simp [nf, clampS, hk, hi2, hb]
        · rw [if_neg hb]
          refine fin _ ?_
          simp [nf, clampS, hi2, hb]
  · intro f
    dsimp only
    have hp2 : (sV s 49 (foU (nf z li h w.1) (s.2.1 49) (zP z))).1 40 0 = nI (zP z) := hp
    rw [f_A_pass_46.eq_2, hp2, if_pos npp]
end PE
