/-! the pure part: who sits beside whom -/
def st2 (g : Nat → Int32) (a b : Nat) : Nat → Int32 := upd (upd g a (g a ||| (1 <<< (nI b &&& 31)))) b (upd g a (g a ||| (1 <<< (nI b &&& 31))) b ||| (1 <<< (nI a &&& 31)))
def sitG (o : Nat → Nat) (g : Nat → Int32) (k : Nat) : Nat → Int32 := fo (fun j g => st2 g (o j) (o (j + 1))) g k
/-- beside whom, in bits, in an order -/
def sitB (o : Nat → Nat) (p : Nat) (r : Bool) : Nat → Int32 := if r = true ∧ 2 < p then st2 (sitG o (fun _ => 0) (p - 1)) (o 0) (o (p - 1)) else sitG o (fun _ => 0) (p - 1)
section PM
variable {s : mb_T} {n p a b q m i : Nat} {v : Int32} {z : zT} {w : wT}
theorem p_fillI (hm : m < 2 ^ 31) (hn : m < n) : f_Y_fillI n q m v s = some (sV s q (foU (fun _ => v) (s.2.1 q) m)) := by
  unfold f_Y_fillI
  have e := lp (F := fun f (t : Int32 × mb_T) => f_Y_fillI_5 n (fun x_5 s_6 => some s_6) q m v (nI m) f t.1 t.2) (R := some (sV s q (foU (fun _ => v) (s.2.1 q) m))) (fun i => (nI i, sV s q (foU (fun _ => v) (s.2.1 q) i))) m ?_ ?_ n hn
  · have e2 : sV s q (foU (fun _ => v) (s.2.1 q) 0) = s := sVid
    dsimp only at e
    rw [e2] at e
    exact e
  · intro i hi f
    dsimp only
    rw [f_Y_fillI_5.eq_2, if_neg (npi hm hi), wrI hi hm, sAV, nI_1, foU_s]
  · intro f
    dsimp only
    rw [f_Y_fillI_5.eq_2, if_pos npp]
theorem p_seat (hp : s.1 40 0 = nI p) (h5 : p ≤ 5) (ha : a < p) (hb : b < p) : f_A_seatTogether n (nI a) (nI b) s = some (sV s 53 (st2 (s.2.1 53) a b)) := by
  unfold f_A_seatTogether
  rw [pA_isHere hp h5 (by omega), clS, if_pos ha, if_neg (by decide), pA_isHere hp h5 (by omega), clS, if_pos hb, if_neg (by decide), rdI (by omega) (by decide), wrI (by omega) (by decide), rdI (by omega) (by decide), wrI (by omega) (by decide)]
  unfold st2
  have e : sA (sA s 53 a (s.2.1 53 a ||| (1 <<< (nI b &&& 31)))) 53 b ((sA s 53 a (s.2.1 53 a ||| (1 <<< (nI b &&& 31)))).2.1 53 b ||| (1 <<< (nI a &&& 31))) = sV s 53 (upd (upd (s.2.1 53) a (s.2.1 53 a ||| (1 <<< (nI b &&& 31)))) b (upd (s.2.1 53) a (s.2.1 53 a ||| (1 <<< (nI b &&& 31))) b ||| (1 <<< (nI a &&& 31)))) := by
    rw [show sA s 53 a (s.2.1 53 a ||| (1 <<< (nI b &&& 31))) = sV s 53 (upd (s.2.1 53) a (s.2.1 53 a ||| (1 <<< (nI b &&& 31)))) from rfl, sAV, sV2, if_pos rfl]
  rw [e]
end PM
