/-! the pure part: sat in another order, in the model -/
section XB
variable {s t u : mb_T} {n p a b q m i c k x y j l K d : Nat} {z : zT} {w : wT} {r : Bool} {law : Int32} {o o1 o2 g : Nat → Nat} {fs : List (Nat × Nat)} {as : List Nat}
theorem zo_P : zP (zo z r o) = zP z := by unfold zo; rfl
theorem zo_K : zK (zo z r o) = zK z := by unfold zo; rfl
theorem zo_G : zG (zo z r o) = zG z := by unfold zo; rfl
theorem zo_L : zL (zo z r o) = zL z := by unfold zo; rfl
theorem zo_S : zS (zo z r o) = zS z := by unfold zo; rfl
theorem zo_B : zB (zo z r o) = sitB o (zP z) r := by unfold zo; rfl
theorem zo_M : zM (zo z r o) = zM z := by unfold zo; rfl
theorem zo_E : zE (zo z r o) = zE z := by unfold zo; rfl
theorem HM_sit {pl : Nat → Nat} (H : HM (zo z r o1) w t) (F : Fr [] [223] t u) (hp : ∀ x, x < zP z → u.2.1 223 x = nI (pl x) ∧ pl x < 5) (h9 : t.1 200 9 = if r = true then 1 else 0) (hb : ∀ x y, x < zP z → y < zP z → bt (sitB o2 (zP z) r x) y = besd (zP z) r (pl x) (pl y)) : HM (zo z r o2) w u := by
  unfold HM at H ⊢
  simp only [zo_P, zo_K, zo_G, zo_L, zo_S, zo_B, zo_M, zo_E] at H ⊢
  obtain ⟨b1, b2, b3, b4, b5, b6, -, b8, b9⟩ := H
  rw [F.1 200 8 (by simp), F.1 200 11 (by simp), F.1 200 24 (by simp), F.1 200 25 (by simp), F.1 200 9 (by simp), F.1 200 22 (by simp), F.2.1 212 (by decide), F.2.1 213 (by decide), F.2.1 214 (by decide), F.2.1 215 (by decide), F.2.1 216 (by decide)]
  exact ⟨b1, b2, b3, b4, b5, b6, ⟨pl, r, hp, fun _ => h9, hb⟩, b8, b9⟩
theorem pM_hso (hn : 200 ≤ n) (H : HM z w s) (C : zcv r z) (h9 : s.1 200 9 = if r = true then 1 else 0) (h10 : s.1 200 10 = law) (h3 : ∀ x, x < 5 → s.2.1 223 x = nI x) (hs : ∀ k, k < zP z → s.2.1 239 k = nI (o k)) (ok : okO (zP z) o r = true) (h1 : 1 ≤ zP z) (W : wok z w) (M : mo2 w) (hl : lawok law) : ∃ u, f_M_holdsSo n s = some (hol (zo z r o) law w 100, u) ∧ HM z w u ∧ (∀ x, x < 5 → u.2.1 223 x = nI x) ∧ Fr [(200, 11), (200, 24), (200, 25), (200, 31)] [213, 223, 228, 230] s u := by
  have h5 := H.1
  unfold f_M_holdsSo
  have L1 := lpK (F := fun (k0 : Int32 → mb_T → Option (Int32 × mb_T)) f (t : Int32 × mb_T) => f_M_holdsSo_2 n k0 f t.1 t.2) (R := fun k0 t => k0 t.1 t.2) (fun i (t : Int32 × mb_T) => t.1 = nI i ∧ Fr [] [223] s t.2 ∧ ∀ x, x < 5 → t.2.2.1 223 x = nI (pla o i x)) (zP z) ?_ ?_ (t0 := (0, s)) (f := n) ⟨rfl, FrR, h3⟩ (by omega)
  · obtain ⟨⟨e, a⟩, ⟨p1, p2, p3⟩, p4⟩ := L1
    dsimp only at p1 p2 p3 p4
    subst p1
    have H0 : HM (zo z r id) w s := by rw [zo_id C]; exact H
    have Ha : HM (zo z r o) w a := HM_sit (pl := pla o (zP z)) H0 p2 (fun x hx => ⟨p3 x (by omega), (okO_x ok hx).2.2.1⟩) h9 (fun x y hx hy => ((okO_x ok hx).2.2.2 y hy).2)
    obtain ⟨b, b1, b2, b3, -⟩ := pM_holdsOf hn Ha (zo_ok h5 ok) (show wok z w from W) M h1 hl
    have L2 := lpK (F := fun (k0 : Int32 → mb_T → Option (Int32 × mb_T)) f (t : Int32 × mb_T) => f_M_holdsSo_39 n k0 (hol (zo z r o) law w 100) f t.1 t.2) (R := fun k0 t => k0 t.1 t.2) (fun i (t : Int32 × mb_T) => t.1 = nI i ∧ Fr [] [223] b t.2 ∧ ∀ x, x < i → t.2.2.1 223 x = nI x) 5 ?_ ?_ (t0 := (0, b)) (f := n) ⟨rfl, FrR, fun x hx => by omega⟩ (by omega)
    · obtain ⟨⟨e, c⟩, ⟨q1, q2, q3⟩, q4⟩ := L2
      dsimp only at q1 q2 q3 q4
      subst q1
      have Hc : HM (zo z r id) w c := HM_sit (pl := fun x => x) b3 q2 (fun x hx => ⟨q3 x (by have : x < zP z := hx; omega), by have : x < zP z := hx; omega⟩) (by rw [b2.1 200 9 (by decide), p2.1 200 9 (by simp)]; exact h9) (fun x y hx hy => sitB_b (zP z) (by omega) r x hx y hy)
      rw [zo_id C] at Hc
      refine ⟨c, ?_, Hc, q3, FrT (FrT p2 b2 (ks := [(200, 11), (200, 24), (200, 25), (200, 31)]) (cs := [213, 223, 228, 230])) q2⟩
      rw [show (0 : Int32) = nI 0 from rfl] at p4 q4 ⊢
      rw [p4, p2.1 200 10 (by simp), h10, b1, clS]
      exact q4 _
    · rintro i hi ⟨e, t⟩ ⟨q1, q2, q3⟩
      dsimp only at q1 q2 q3
      subst q1
      refine ⟨(nI (i + 1), sA t 223 i (nI i)), ⟨rfl, FrT q2 (FrA (q := 223)), fun x hx => ?_⟩, fun c f => ?_⟩
      · show upd (t.2.1 223) i (nI i) x = nI x
        rw [updI]
        by_cases e : x = i
        · rw [if_pos e, e]
        · rw [if_neg e]; exact q3 x (by omega)
      · dsimp only
        rw [f_M_holdsSo_39.eq_2, if_neg (show ¬ (5 : Int32) ≤ nI i from npi (p := 5) (by decide) hi), wrI hi (by decide), nI_1]
    · rintro ⟨e, t⟩ ⟨q1, q2, q3⟩ c f
      dsimp only at q1 q2 q3
      subst q1
      dsimp only
      rw [f_M_holdsSo_39.eq_2, if_pos (show (5 : Int32) ≤ nI 5 by decide)]
  · rintro i hi ⟨e, t⟩ ⟨q1, q2, q3⟩
    dsimp only at q1 q2 q3
    subst q1
    have hoi := (okO_x ok hi).2.1
    refine ⟨(nI (i + 1), sA t 223 (o i) (nI i)), ⟨rfl, FrT q2 (FrA (q := 223)), fun x hx => ?_⟩, fun c f => ?_⟩
    · show upd (t.2.1 223) (o i) (nI i) x = nI (updN (pla o i) (o i) i x)
      unfold updN
      rw [updI]
      by_cases e : x = o i
      · rw [if_pos e, if_pos e]
      · rw [if_neg e, if_neg e]; exact q3 x hx
    · dsimp only
      rw [f_M_holdsSo_2.eq_2, q2.1 200 8 (by simp), H.2.1, if_neg (npi (by omega) hi), rdI (by omega) (by decide), q2.2.1 239 (by decide), hs i hi, wrI (by omega) (by decide), nI_1]
  · rintro ⟨e, t⟩ ⟨q1, q2, q3⟩ c f
    dsimp only at q1 q2 q3
    subst q1
    dsimp only
    rw [f_M_holdsSo_2.eq_2, q2.1 200 8 (by simp), H.2.1, if_pos npp]
end XB
