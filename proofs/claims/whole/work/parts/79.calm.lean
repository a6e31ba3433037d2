/-! the pure part: how many calm ones are beside -/
theorem ofK1 {k : Int32} : ofK k 1 = calmK k := by
  unfold ofK calmK
  by_cases a : k = 1 <;> by_cases b : k = 4 <;> by_cases c : k = 5 <;> simp [a, b, c]
theorem calmN_e {z : zT} {x m : Nat} (h5 : zP z ≤ 5) (hm : m < 32) (hb : zB z x = nI m) : calmN z x = bcI (zB z x &&& mkB (fun y => calmK (zK z y)) (zP z)) := by
  obtain ⟨k, k1, k2, k3⟩ := @mkB_k (fun y => calmK (zK z y)) (zP z) h5
  rw [hb, k2, bc_d (zP z) (by omega) m hm k k1]
  unfold calmN cnt
  refine fo_congr fun i hi c => ?_
  simp only [hb, k3 i hi]
section PN
variable {s : mb_T} {n p a b q m i : Nat} {v : Int32} {z : zT} {w : wT}
theorem p_countCalm (hn : 200 ≤ n) (h5 : p ≤ 5) (hp : s.1 40 0 = nI p) : f_A_countCalmBeside n s = some (sV s 54 (foU (fun x => bcI (s.2.1 53 x &&& mkB (fun y => calmK (s.2.1 47 y)) p)) (s.2.1 54) p)) := by
  unfold f_A_countCalmBeside
  have e1 : ∀ {R : Option mb_T} (k0 : Int32 → Int32 → mb_T → Option mb_T), k0 (mkB (fun y => calmK (s.2.1 47 y)) p) (nI p) s = R → f_A_countCalmBeside_4 n k0 n 0 0 s = R := by
    intro R k0 hk
    refine lp (F := fun f (t : Int32 × Int32 × mb_T) => f_A_countCalmBeside_4 n k0 f t.1 t.2.1 t.2.2) (fun i => (mkB (fun y => calmK (s.2.1 47 y)) i, nI i, s)) p ?_ ?_ n (by omega)
    · intro i hi f
      dsimp only
      rw [f_A_countCalmBeside_4.eq_2, hp, if_neg (npi (by omega) hi), rdI (by omega) (by decide), p_isOfKind, clS, nI_1, mkB_s, ofK1]
      cases calmK (s.2.1 47 i) <;> rfl
    · intro f
      dsimp only
      rw [f_A_countCalmBeside_4.eq_2, hp, if_pos npp, hk]
  refine e1 _ ?_
  generalize mkB (fun y => calmK (s.2.1 47 y)) p = M
  have e := lp (F := fun f (t : Int32 × mb_T) => f_A_countCalmBeside_43 n (fun x_23 s_24 => some s_24) M f t.1 t.2) (R := some (sV s 54 (foU (fun x => bcI (s.2.1 53 x &&& M)) (s.2.1 54) p))) (fun i => (nI i, sV s 54 (foU (fun x => bcI (s.2.1 53 x &&& M)) (s.2.1 54) i))) p ?_ ?_ n (by omega)
  · have e2 : sV s 54 (foU (fun x => bcI (s.2.1 53 x &&& M)) (s.2.1 54) 0) = s := sVid
    dsimp only at e
    rw [e2] at e
    exact e
  · intro i hi f
    dsimp only
    have hp2 : (sV s 54 (foU (fun x => bcI (s.2.1 53 x &&& M)) (s.2.1 54) i)).1 40 0 = nI p := hp
    have g : (sV s 54 (foU (fun x => bcI (s.2.1 53 x &&& M)) (s.2.1 54) i)).2.1 53 i = s.2.1 53 i := by
      rw [sV2, if_neg (by decide)]
    rw [f_A_countCalmBeside_43.eq_2, hp2, if_neg (npi (by omega) hi), rdI (by omega) (by decide), p_bitCount, clS, wrI (by omega) (by decide), sAV, nI_1, foU_s, g]
  · intro f
    dsimp only
    have hp2 : (sV s 54 (foU (fun x => bcI (s.2.1 53 x &&& M)) (s.2.1 54) p)).1 40 0 = nI p := hp
    rw [f_A_countCalmBeside_43.eq_2, hp2, if_pos npp]
end PN
