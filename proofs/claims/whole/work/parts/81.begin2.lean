/-! the pure part: aside begins, whole -/
theorem st2_c {g h : Nat → Int32} {a b : Nat} (H : ∀ x, x < 5 → g x = h x) (ha : a < 5) (hb : b < 5) : ∀ x, x < 5 → st2 g a b x = st2 h a b x := by
  intro x hx
  unfold st2
  simp only [updI, H x hx, H a ha, H b hb]
theorem sitG_s {o : Nat → Nat} {g : Nat → Int32} {k : Nat} : sitG o g (k + 1) = st2 (sitG o g k) (o k) (o (k + 1)) := rfl
theorem sitG_0 {o : Nat → Nat} {g : Nat → Int32} : sitG o g 0 = g := rfl
theorem sitG_c {o : Nat → Nat} {g h : Nat → Int32} {k : Nat} (H : ∀ x, x < 5 → g x = h x) (ho : ∀ i, i ≤ k → o i < 5) : ∀ x, x < 5 → sitG o g k x = sitG o h k x := by
  induction k with
  | zero => rw [sitG_0, sitG_0]; exact H
  | succ k ih =>
    rw [sitG_s, sitG_s]
    exact st2_c (ih (fun i hi => ho i (by omega))) (ho k (by omega)) (ho (k + 1) (by omega))
/-- sat, from what array ever that is 0 below 5 -/
def sitX (o : Nat → Nat) (g : Nat → Int32) (p : Nat) (r : Bool) : Nat → Int32 := if r = true ∧ 2 < p then st2 (sitG o g (p - 1)) (o 0) (o (p - 1)) else sitG o g (p - 1)
theorem sitX_c {o : Nat → Nat} {g : Nat → Int32} {p : Nat} {r : Bool} (H : ∀ x, x < 5 → g x = 0) (ho : ∀ i, i ≤ p - 1 → o i < 5) : ∀ x, x < 5 → sitX o g p r x = sitB o p r x := by
  intro x hx
  unfold sitX sitB
  split
  · exact st2_c (sitG_c H ho) (ho 0 (by omega)) (ho (p - 1) (by omega)) x hx
  · exact sitG_c H ho x hx
section PP
variable {s : mb_T} {n p a b q m i c : Nat} {v : Int32} {z : zT} {w : wT} {r : Bool}
theorem p_begin_134 (hn : 200 ≤ n) (hp : s.1 40 0 = nI p) (h5 : p ≤ 5) (k0 : Int32 → mb_T → Option mb_T) : f_A_begin_134 n k0 n 1 s = k0 (nI (p - 1 + 1)) (sV s 53 (sitG id (s.2.1 53) (p - 1))) := by
  have e := lp (F := fun f (t : Int32 × mb_T) => f_A_begin_134 n k0 f t.1 t.2) (R := k0 (nI (p - 1 + 1)) (sV s 53 (sitG id (s.2.1 53) (p - 1)))) (fun i => (nI (i + 1), sV s 53 (sitG id (s.2.1 53) i))) (p - 1) ?_ ?_ n (by omega)
  · have e2 : sV s 53 (sitG id (s.2.1 53) 0) = s := sVid
    dsimp only at e
    rw [e2] at e
    exact e
  · intro i hi f
    dsimp only
    have hp2 : (sV s 53 (sitG id (s.2.1 53) i)).1 40 0 = nI p := hp
    rw [f_A_begin_134.eq_2, hp2, if_neg (npi (by omega) (by omega)), nI_pred, p_seat hp2 h5 (by omega) (by omega), cwS2, sVV, sV2, if_pos rfl, nI_1 (i + 1), sitG_s]
    rfl
  · intro f
    dsimp only
    have hp2 : (sV s 53 (sitG id (s.2.1 53) (p - 1))).1 40 0 = nI p := hp
    rw [f_A_begin_134.eq_2, hp2, if_pos (nI_le (by omega) (by omega))]
end PP
