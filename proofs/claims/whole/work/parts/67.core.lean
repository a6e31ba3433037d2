/-! the pure part: folds, who screams -/
/-- a fold over numbers below i -/
def fo {α : Type} (g : Nat → α → α) (a : α) : Nat → α
  | 0 => a
  | i + 1 => g i (fo g a i)
theorem fo_0 {α : Type} {g : Nat → α → α} {a : α} : fo g a 0 = a := rfl
theorem fo_s {α : Type} {g : Nat → α → α} {a : α} {i : Nat} : fo g a (i + 1) = g i (fo g a i) := rfl
theorem fo_congr {α : Type} {g h : Nat → α → α} {a : α} : ∀ {p : Nat}, (∀ i, i < p → ∀ x, g i x = h i x) → fo g a p = fo h a p
  | 0, _ => rfl
  | p + 1, H => by
    rw [fo_s, fo_s, fo_congr (p := p) (fun i hi x => H i (by omega) x)]
    exact H p (by omega) _
theorem le31 {a b : Nat} (h : a ≤ b) (hb : b < 2 ^ 31 := by decide) : a < 2 ^ 31 := by omega
theorem npi {p i : Nat} (hp : p < 2 ^ 31) (hi : i < p) : ¬ nI p ≤ nI i := by
  rw [nI_leI hp (by omega)]; omega
theorem npp {p : Nat} : nI p ≤ nI p := Int32.le_refl _
/-- who screams -/
def whoS (fe sc : Nat → Int32) (p : Nat) : Int32 := fo (fun i w => w ||| (if fe i < sc i then 0 else (1 <<< (nI i &&& 31)) : Int32)) 0 p
section PC
variable {s : mb_T} {n p : Nat}
theorem pA_whoScream (hn : 200 ≤ n) (hp : s.1 40 0 = nI p) (h5 : p ≤ 5) : f_A_whoScream n s = some (whoS (s.2.1 48) (s.2.1 52) p, s) := by
  unfold f_A_whoScream
  refine lp (F := fun f (t : Int32 × Int32 × mb_T) => f_A_whoScream_4 n (fun x_10 x_11 s_12 => some (x_10, s_12)) f t.1 t.2.1 t.2.2) (fun i => (whoS (s.2.1 48) (s.2.1 52) i, nI i, s)) p ?_ ?_ n (by omega)
  · intro i hi f
    dsimp only
    rw [f_A_whoScream_4.eq_2, hp, if_neg (npi (by omega) hi), rdI (by omega) (by decide), rdI (by omega) (by decide), nI_1]
    rfl
  · intro f
    dsimp only
    rw [f_A_whoScream_4.eq_2, hp, if_pos npp]
theorem pM_screaming (hn : 200 ≤ n) (hp : s.1 200 8 = nI p) (h5 : p ≤ 5) : f_M_screaming n s = some (whoS (s.2.1 213) (s.2.1 216) p, s) := by
  unfold f_M_screaming
  refine lp (F := fun f (t : Int32 × Int32 × mb_T) => f_M_screaming_4 n (fun x_10 x_11 s_12 => some (x_10, s_12)) f t.1 t.2.1 t.2.2) (fun i => (whoS (s.2.1 213) (s.2.1 216) i, nI i, s)) p ?_ ?_ n (by omega)
  · intro i hi f
    dsimp only
    rw [f_M_screaming_4.eq_2, hp, if_neg (npi (by omega) hi), rdI (by omega) (by decide), rdI (by omega) (by decide), nI_1]
    rfl
  · intro f
    dsimp only
    rw [f_M_screaming_4.eq_2, hp, if_pos npp]
end PC
