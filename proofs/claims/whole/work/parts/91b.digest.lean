/-! the pure part: the digest -/
def dg (h : Int64) (v : Int32) : Int64 := 31 * h + Int32.toInt64 v
/-- so many numbers mixed in -/
def dgF (g : Nat → Int32) (h : Int64) (p : Nat) : Int64 := fo (fun i h => dg h (g i)) h p
theorem dgF_s {g : Nat → Int32} {h : Int64} {p : Nat} : dgF g h (p + 1) = dg (dgF g h p) (g p) := rfl
theorem dgF_c {f g : Nat → Int32} {h : Int64} {p : Nat} (H : ∀ x, x < p → f x = g x) : dgF f h p = dgF g h p := fo_congr fun i hi c => by rw [H i hi]
/-- rows of numbers mixed in: first how many -/
def dgR (sz : Nat → Int32) (len : Nat → Nat) (g : Nat → Nat → Int32) (h : Int64) (p : Nat) : Int64 := fo (fun r h => dgF (g r) (dg h (sz r)) (len r)) h p
theorem dgR_s {sz : Nat → Int32} {len : Nat → Nat} {g : Nat → Nat → Int32} {h : Int64} {p : Nat} : dgR sz len g h (p + 1) = dgF (g p) (dg (dgR sz len g h p) (sz p)) (len p) := rfl
section UC
variable {s t u : mb_T} {n p a b q m i c k x y j l K d G mi : Nat} {z : zT} {w w2 : wT} {lf r : Bool} {fs : List (Nat × Nat)} {as : List Nat} {v X Y law : Int32} {g : Nat → Int32} {h : Int64}
theorem mixS {k : mb_T → Option mb_T} : mb_cw (f_M_mix n v (sJ s 200 h)) k = k (sJ s 200 (dg h v)) := by
  show k (sJ (sJ s 200 h) 200 (31 * (if (200 : Nat) = 200 then h else s.2.2.1 200) + Int32.toInt64 v)) = _
  rw [if_pos rfl]
  have : sJ (sJ s 200 h) 200 (31 * h + Int32.toInt64 v) = sJ s 200 (dg h v) := by
    unfold sJ dg
    refine Prod.ext rfl (Prod.ext rfl (Prod.ext (funext fun j => ?_) rfl))
    show (if j = 200 then _ else if j = 200 then _ else _) = (if j = 200 then _ else _)
    split <;> rfl
  rw [this]
theorem mixS2 {k : mb_T → Option (Int64 × mb_T)} : mb_cw (f_M_mix n v (sJ s 200 h)) k = k (sJ s 200 (dg h v)) := by
  show k (sJ (sJ s 200 h) 200 (31 * (if (200 : Nat) = 200 then h else s.2.2.1 200) + Int32.toInt64 v)) = _
  rw [if_pos rfl]
  have : sJ (sJ s 200 h) 200 (31 * h + Int32.toInt64 v) = sJ s 200 (dg h v) := by
    unfold sJ dg
    refine Prod.ext rfl (Prod.ext rfl (Prod.ext (funext fun j => ?_) rfl))
    show (if j = 200 then _ else if j = 200 then _ else _) = (if j = 200 then _ else _)
    split <;> rfl
  rw [this]
theorem HMJ (H : HM z w s) : HM z w (sJ s 200 h) := H
/-- how large a row is, for the digest -/
def rsz (a : Nat) (s : mb_T) (r : Nat) : Int32 := if 0 ≤ s.2.1 a r then s.2.1 a r else -1
-- the class
theorem pC_d6 (hn : 200 ≤ n) (R1 : Rows s) (R2 : Txts s) (H : Cav r z w law s) {k0 : Int64 → Int32 → mb_T → Option (Int64 × mb_T)} : ∃ t, f_C_digest_6 n k0 n h 0 s = k0 (dgF (tW z w s) h 8) (nI 8) t ∧ Fk bgF bgA s t := by
  have L := lpE (F := fun f (t : (Int64 × Int32) × mb_T) => f_C_digest_6 n k0 f t.1.1 t.1.2 t.2) (R := fun t => k0 t.1.1 t.1.2 t.2) (fun i (t : (Int64 × Int32) × mb_T) => t.1 = (dgF (tW z w s) h i, nI i) ∧ Fk bgF bgA s t.2) 8 ?_ ?_ (t0 := ((h, 0), s)) (f := n) ⟨rfl, FkR⟩ (by omega)
  · obtain ⟨⟨⟨c1, c2⟩, t⟩, ⟨q1, q2⟩, q5⟩ := L
    dsimp only at q1 q2 q5
    cases q1
    exact ⟨t, q5, q2⟩
  · rintro i hi ⟨⟨c1, c2⟩, t⟩ ⟨q1, q2⟩
    dsimp only at q1 q2
    cases q1
    obtain ⟨u, u1, u2⟩ := cntW (k := i) hn (Rows_fr R1 q2) (Txts_fr R2 q2) (Cav_fr H q2) hi
    refine ⟨((dgF (tW z w s) h (i + 1), nI (i + 1)), u), ⟨rfl, FkT q2 (Fk_of u2)⟩, ?_⟩
    intro f
    dsimp only
    rw [f_C_digest_6.eq_2, if_neg (show ¬ (7 : Int32) < nI i from nI_nlt (a := 7) (by omega) (by decide)), u1, clS, nI_1, dgF_s, tW_fk q2]
    rfl
  · rintro ⟨⟨c1, c2⟩, t⟩ ⟨q1, q2⟩ f
    dsimp only at q1 q2
    cases q1
    dsimp only
    rw [f_C_digest_6.eq_2, if_pos (show (7 : Int32) < nI 8 by decide)]
theorem pC_d77 (hn : 200 ≤ n) (H : Cav r z w law s) (hx : x < zP z) : ∃ t, (∀ k0 : Int64 → Int32 → mb_T → Option (Int64 × mb_T), f_C_digest_77 n k0 (nI x) n h 0 s = k0 (dgF (ofP z w x) h 6) (nI 6) t) ∧ Fk bgF bgA s t := by
  have L := lpK (F := fun (k0 : Int64 → Int32 → mb_T → Option (Int64 × mb_T)) f (t : (Int64 × Int32) × mb_T) => f_C_digest_77 n k0 (nI x) f t.1.1 t.1.2 t.2) (R := fun k0 t => k0 t.1.1 t.1.2 t.2) (fun i (t : (Int64 × Int32) × mb_T) => t.1 = (dgF (ofP z w x) h i, nI i) ∧ Fk bgF bgA s t.2) 6 ?_ ?_ (t0 := ((h, 0), s)) (f := n) ⟨rfl, FkR⟩ (by omega)
  · obtain ⟨⟨⟨c1, c2⟩, t⟩, ⟨q1, q2⟩, q5⟩ := L
    dsimp only at q1 q2 q5
    cases q1
    exact ⟨t, q5, q2⟩
  · rintro i hi ⟨⟨c1, c2⟩, t⟩ ⟨q1, q2⟩
    dsimp only at q1 q2
    cases q1
    obtain ⟨u, u1, u2⟩ := pC_ofP (k := i) hn (Cav_fr H q2) hx hi
    refine ⟨((dgF (ofP z w x) h (i + 1), nI (i + 1)), u), ⟨rfl, FkT q2 (Fk_of u2)⟩, ?_⟩
    intro c f
    dsimp only
    rw [f_C_digest_77.eq_2, if_neg (show ¬ (5 : Int32) < nI i from nI_nlt (a := 5) (by omega) (by decide)), u1, clS, nI_1, dgF_s]
    rfl
  · rintro ⟨⟨c1, c2⟩, t⟩ ⟨q1, q2⟩ c f
    dsimp only at q1 q2
    cases q1
    dsimp only
    rw [f_C_digest_77.eq_2, if_pos (show (5 : Int32) < nI 6 by decide)]
/-- all persons mixed in -/
def dgP (z : zT) (w : wT) (h : Int64) (p : Nat) : Int64 := fo (fun x h => dgF (ofP z w x) h 6) h p
theorem dgP_s : dgP z w h (p + 1) = dgF (ofP z w p) (dgP z w h p) 6 := rfl
theorem pC_d63 (hn : 200 ≤ n) (H : Cav r z w law s) {k0 : Int64 → Int32 → mb_T → Option (Int64 × mb_T)} : ∃ t, f_C_digest_63 n k0 n h 0 s = k0 (dgP z w h (zP z)) (nI (zP z)) t ∧ Fk bgF bgA s t := by
  have h5 := Cav5 H
  obtain ⟨p1, p2⟩ := CavP H
  have L := lpE (F := fun f (t : (Int64 × Int32) × mb_T) => f_C_digest_63 n k0 f t.1.1 t.1.2 t.2) (R := fun t => k0 t.1.1 t.1.2 t.2) (fun i (t : (Int64 × Int32) × mb_T) => t.1 = (dgP z w h i, nI i) ∧ Fk bgF bgA s t.2) (zP z) ?_ ?_ (t0 := ((h, 0), s)) (f := n) ⟨rfl, FkR⟩ (by omega)
  · obtain ⟨⟨⟨c1, c2⟩, t⟩, ⟨q1, q2⟩, q5⟩ := L
    dsimp only at q1 q2 q5
    cases q1
    exact ⟨t, q5, q2⟩
  · rintro i hi ⟨⟨c1, c2⟩, t⟩ ⟨q1, q2⟩
    dsimp only at q1 q2
    cases q1
    obtain ⟨u, u1, u2⟩ := pC_d77 (x := i) (h := dgP z w h i) hn (Cav_fr H q2) hi
    refine ⟨((dgP z w h (i + 1), nI (i + 1)), u), ⟨rfl, FkT q2 u2⟩, ?_⟩
    intro f
    dsimp only
    rw [f_C_digest_63.eq_2, q2.1 100 0 (by decide), p1, if_neg (npi (by omega) hi), u1, nI_1, dgP_s]
  · rintro ⟨⟨c1, c2⟩, t⟩ ⟨q1, q2⟩ f
    dsimp only at q1 q2
    cases q1
    dsimp only
    rw [f_C_digest_63.eq_2, q2.1 100 0 (by decide), p1, if_pos npp]
theorem pC_d112 (hn : 200 ≤ n) (hm : s.1 100 4 = nI mi) (h1 : mi ≤ 120) {k0 : Int64 → Int32 → mb_T → Option (Int64 × mb_T)} : f_C_digest_112 n k0 n h 0 s = k0 (dgF (s.2.1 110) h mi) (nI mi) s := by
  refine lp (F := fun f (t : Int64 × Int32 × mb_T) => f_C_digest_112 n k0 f t.1 t.2.1 t.2.2) (fun i => (dgF (s.2.1 110) h i, nI i, s)) mi ?_ ?_ n (by omega)
  · intro i hi f
    dsimp only
    rw [f_C_digest_112.eq_2, hm, if_neg (npi (by omega) hi), rdI (by omega) (by decide), nI_1, dgF_s]
    rfl
  · intro f
    dsimp only
    rw [f_C_digest_112.eq_2, hm, if_pos npp]
theorem pC_d148 (hn : 200 ≤ n) {k0 : Int64 → Int32 → mb_T → Option (Int64 × mb_T)} : f_C_digest_148 n k0 n h 0 s = k0 (dgF (kmn s) h 3) (nI 3) s := by
  refine lp (F := fun f (t : Int64 × Int32 × mb_T) => f_C_digest_148 n k0 f t.1 t.2.1 t.2.2) (fun i => (dgF (kmn s) h i, nI i, s)) 3 ?_ ?_ n (by omega)
  · intro i hi f
    dsimp only
    rw [f_C_digest_148.eq_2, if_neg (show ¬ (3 : Int32) ≤ nI i from npi (p := 3) (by decide) hi), pC_km hi, clS, nI_1, dgF_s]
    rfl
  · intro f
    dsimp only
    rw [f_C_digest_148.eq_2, if_pos (show (3 : Int32) ≤ nI 3 by decide)]
/-- how long a row is -/
def rln (a : Nat) (s : mb_T) (r : Nat) : Nat := (s.2.1 a r).toNatClampNeg
theorem pC_wr (hn : 200 ≤ n) (R1 : Rows s) : f_C_withRows n h s = some (dgR (s.2.1 1) (rln 1 s) (fun r => s.2.1 (20 + r)) h 6, s) := by
  unfold f_C_withRows
  refine lp (F := fun f (t : Int64 × Int32 × mb_T) => f_C_withRows_2 n (fun x_16 x_17 s_18 => some (x_16, s_18)) f t.1 t.2.1 t.2.2) (fun i => (dgR (s.2.1 1) (rln 1 s) (fun r => s.2.1 (20 + r)) h i, nI i, s)) 6 ?_ ?_ n (by omega)
  · intro i hi f
    dsimp only
    rw [f_C_withRows_2.eq_2, if_neg (show ¬ (6 : Int32) ≤ nI i from npi (p := 6) (by decide) hi), rdI hi (by decide), nI_1, dgR_s]
    obtain ⟨D, hD⟩ : ∃ D, D = dgR (s.2.1 1) (rln 1 s) (fun r => s.2.1 (20 + r)) h i := ⟨_, rfl⟩
    rw [← hD]
    have key : ∀ (M : Nat), M ≤ 60 → rln 1 s i = M → (∀ e, e < M → ¬ s.2.1 1 i ≤ nI e) → s.2.1 1 i ≤ nI M → f_C_withRows_25 n (fun x_13 x_14 s_15 => f_C_withRows_2 n (fun x_16 x_17 s_18 => some (x_16, s_18)) f x_13 (nI (i + 1)) s_15) (nI i) n (31 * D + Int32.toInt64 (s.2.1 1 i)) 0 s = f_C_withRows_2 n (fun x_16 x_17 s_18 => some (x_16, s_18)) f (dgF (s.2.1 (20 + i)) (dg D (s.2.1 1 i)) (rln 1 s i)) (nI (i + 1)) s := by
      intro M hM hr h1 h2
      rw [hr]
      refine lp (F := fun f2 (t : Int64 × Int32 × mb_T) => f_C_withRows_25 n (fun x_13 x_14 s_15 => f_C_withRows_2 n (fun x_16 x_17 s_18 => some (x_16, s_18)) f x_13 (nI (i + 1)) s_15) (nI i) f2 t.1 t.2.1 t.2.2) (fun e => (dgF (s.2.1 (20 + i)) (dg D (s.2.1 1 i)) e, nI e, s)) M ?_ ?_ n (by omega)
      · intro e he f2
        dsimp only
        rw [f_C_withRows_25.eq_2, rdI hi (by decide), if_neg (h1 e he), ixI hi (by decide), nI_clamp (by omega), rdI (by omega) (by decide), nI_1 e, dgF_s]
        rfl
      · intro f2
        dsimp only
        rw [f_C_withRows_25.eq_2, rdI hi (by decide), if_pos h2]
    rcases R1 i hi with ⟨m, m1, m2, m3, m4⟩ | ⟨m1, m2⟩
    · exact key m m1 (by unfold rln; rw [m2, nI_clamp (by omega)]) (fun e he => by rw [m2]; exact npi (by omega) he) (by rw [m2]; exact npp)
    · exact key 0 (by omega) (by unfold rln; rw [m1]; decide) (fun e he => by omega) (by rw [m1]; decide)
  · intro f
    dsimp only
    rw [f_C_withRows_2.eq_2, if_pos (show (6 : Int32) ≤ nI 6 by decide)]
theorem pC_wt (hn : 200 ≤ n) (R1 : Txts s) : f_C_withTexts n h s = some (dgR (s.2.1 3) (rln 3 s) (fun r => s.2.1 (30 + r)) h 4, s) := by
  unfold f_C_withTexts
  refine lp (F := fun f (t : Int64 × Int32 × mb_T) => f_C_withTexts_2 n (fun x_16 x_17 s_18 => some (x_16, s_18)) f t.1 t.2.1 t.2.2) (fun i => (dgR (s.2.1 3) (rln 3 s) (fun r => s.2.1 (30 + r)) h i, nI i, s)) 4 ?_ ?_ n (by omega)
  · intro i hi f
    dsimp only
    rw [f_C_withTexts_2.eq_2, if_neg (show ¬ (4 : Int32) ≤ nI i from npi (p := 4) (by decide) hi), rdI hi (by decide), nI_1, dgR_s]
    obtain ⟨D, hD⟩ : ∃ D, D = dgR (s.2.1 3) (rln 3 s) (fun r => s.2.1 (30 + r)) h i := ⟨_, rfl⟩
    rw [← hD]
    have key : ∀ (M : Nat), M ≤ 80 → rln 3 s i = M → (∀ e, e < M → ¬ s.2.1 3 i ≤ nI e) → s.2.1 3 i ≤ nI M → f_C_withTexts_24 n (fun x_13 x_14 s_15 => f_C_withTexts_2 n (fun x_16 x_17 s_18 => some (x_16, s_18)) f x_13 (nI (i + 1)) s_15) (nI i) n (31 * D + Int32.toInt64 (s.2.1 3 i)) 0 s = f_C_withTexts_2 n (fun x_16 x_17 s_18 => some (x_16, s_18)) f (dgF (s.2.1 (30 + i)) (dg D (s.2.1 3 i)) (rln 3 s i)) (nI (i + 1)) s := by
      intro M hM hr h1 h2
      rw [hr]
      refine lp (F := fun f2 (t : Int64 × Int32 × mb_T) => f_C_withTexts_24 n (fun x_13 x_14 s_15 => f_C_withTexts_2 n (fun x_16 x_17 s_18 => some (x_16, s_18)) f x_13 (nI (i + 1)) s_15) (nI i) f2 t.1 t.2.1 t.2.2) (fun e => (dgF (s.2.1 (30 + i)) (dg D (s.2.1 3 i)) e, nI e, s)) M ?_ ?_ n (by omega)
      · intro e he f2
        dsimp only
        rw [f_C_withTexts_24.eq_2, rdI hi (by decide), if_neg (h1 e he), ixI hi (by decide), nI_clamp (by omega), rdI (by omega) (by decide), nI_1 e, dgF_s]
        rfl
      · intro f2
        dsimp only
        rw [f_C_withTexts_24.eq_2, rdI hi (by decide), if_pos h2]
    rcases R1 i hi with ⟨m, m1, m2, m3, m4⟩ | ⟨m1, m2⟩
    · exact key m m1 (by unfold rln; rw [m2, nI_clamp (by omega)]) (fun e he => by rw [m2]; exact npi (by omega) he) (by rw [m2]; exact npp)
    · exact key 0 (by omega) (by unfold rln; rw [m1]; decide) (fun e he => by omega) (by rw [m1]; decide)
  · intro f
    dsimp only
    rw [f_C_withTexts_2.eq_2, if_pos (show (4 : Int32) ≤ nI 4 by decide)]
-- the model
theorem pM_d9 (hn : 200 ≤ n) (H : HM z w s) {k0 : Int32 → mb_T → Option (Int64 × mb_T)} : f_M_digest_9 n k0 n 0 (sJ s 200 h) = k0 (nI 8) (sJ s 200 (dgF (tW z w s) h 8)) := by
  refine lp (F := fun f (t : Int32 × mb_T) => f_M_digest_9 n k0 f t.1 t.2) (fun i => (nI i, sJ s 200 (dgF (tW z w s) h i))) 8 ?_ ?_ n (by omega)
  · intro i hi f
    dsimp only
    rw [f_M_digest_9.eq_2, if_neg (show ¬ (7 : Int32) < nI i from nI_nlt (a := 7) (by omega) (by decide)), pM_tells hn (HMJ H) hi, clS, mixS2, nI_1, dgF_s]
    rfl
  · intro f
    dsimp only
    rw [f_M_digest_9.eq_2, if_pos (show (7 : Int32) < nI 8 by decide)]
theorem pM_c50 (hn : 200 ≤ n) (H : HM z w s) (hx : x < zP z) {k0 : Int32 → mb_T → Option mb_T} : f_M_mixCave_50 n k0 (nI x) n 0 (sJ s 200 h) = k0 (nI 6) (sJ s 200 (dgF (ofP z w x) h 6)) := by
  refine lp (F := fun f (t : Int32 × mb_T) => f_M_mixCave_50 n k0 (nI x) f t.1 t.2) (fun i => (nI i, sJ s 200 (dgF (ofP z w x) h i))) 6 ?_ ?_ n (by omega)
  · intro i hi f
    dsimp only
    rw [f_M_mixCave_50.eq_2, if_neg (show ¬ (5 : Int32) < nI i from nI_nlt (a := 5) (by omega) (by decide)), pM_ofP (HMJ H) hx hi, clS, mixS, nI_1, dgF_s]
  · intro f
    dsimp only
    rw [f_M_mixCave_50.eq_2, if_pos (show (5 : Int32) < nI 6 by decide)]
theorem pM_c40 (hn : 200 ≤ n) (H : HM z w s) {k0 : Int32 → mb_T → Option mb_T} : f_M_mixCave_40 n k0 n 0 (sJ s 200 h) = k0 (nI (zP z)) (sJ s 200 (dgP z w h (zP z))) := by
  have h5 := H.1
  refine lp (F := fun f (t : Int32 × mb_T) => f_M_mixCave_40 n k0 f t.1 t.2) (fun i => (nI i, sJ s 200 (dgP z w h i))) (zP z) ?_ ?_ n (by omega)
  · intro i hi f
    dsimp only
    rw [f_M_mixCave_40.eq_2, show (sJ s 200 (dgP z w h i)).1 200 8 = nI (zP z) from H.2.1, if_neg (npi (by omega) hi), pM_c50 hn H hi, nI_1, dgP_s]
  · intro f
    dsimp only
    rw [f_M_mixCave_40.eq_2, show (sJ s 200 (dgP z w h (zP z))).1 200 8 = nI (zP z) from H.2.1, if_pos npp]
theorem pM_c79 (hn : 200 ≤ n) (hm : s.1 200 24 = nI mi) (h1 : mi ≤ 120) {k0 : Int32 → mb_T → Option mb_T} : f_M_mixCave_79 n k0 n 0 (sJ s 200 h) = k0 (nI mi) (sJ s 200 (dgF (s.2.1 226) h mi)) := by
  refine lp (F := fun f (t : Int32 × mb_T) => f_M_mixCave_79 n k0 f t.1 t.2) (fun i => (nI i, sJ s 200 (dgF (s.2.1 226) h i))) mi ?_ ?_ n (by omega)
  · intro i hi f
    dsimp only
    rw [f_M_mixCave_79.eq_2, show (sJ s 200 (dgF (s.2.1 226) h i)).1 200 24 = nI mi from hm, if_neg (npi (by omega) hi), rdI (by omega) (by decide), mixS, nI_1, dgF_s]
    rfl
  · intro f
    dsimp only
    rw [f_M_mixCave_79.eq_2, show (sJ s 200 (dgF (s.2.1 226) h mi)).1 200 24 = nI mi from hm, if_pos npp]
theorem pM_c105 (hn : 200 ≤ n) {k0 : Int32 → mb_T → Option mb_T} : f_M_mixCave_105 n k0 n 0 (sJ s 200 h) = k0 (nI 3) (sJ s 200 (dgF (fun k => if s.2.1 229 (850 * k) = -9 then -1 else s.2.1 229 (850 * k)) h 3)) := by
  refine lp (F := fun f (t : Int32 × mb_T) => f_M_mixCave_105 n k0 f t.1 t.2) (fun i => (nI i, sJ s 200 (dgF (fun k => if s.2.1 229 (850 * k) = -9 then -1 else s.2.1 229 (850 * k)) h i))) 3 ?_ ?_ n (by omega)
  · intro i hi f
    dsimp only
    obtain ⟨D, hD⟩ : ∃ D, D = dgF (fun k => if s.2.1 229 (850 * k) = -9 then -1 else s.2.1 229 (850 * k)) h i := ⟨_, rfl⟩
    rw [dgF_s, ← hD, f_M_mixCave_105.eq_2, if_neg (show ¬ (3 : Int32) ≤ nI i from npi (p := 3) (by decide) hi), nI_850, rdI (by omega) (by decide)]
    have e9 : (sJ s 200 D).2.1 229 (850 * i) = s.2.1 229 (850 * i) := rfl
    simp only [mb_jn, rdI (show 850 * i < 2550 by omega) (show 2550 < 2 ^ 31 by decide), e9, mixS, nI_1]
    by_cases c : s.2.1 229 (850 * i) = -9
    · rw [if_pos c, if_pos c]
    · rw [if_neg c, if_neg c]
  · intro f
    dsimp only
    rw [f_M_mixCave_105.eq_2, if_pos (show (3 : Int32) ≤ nI 3 by decide)]
theorem pM_d36 (hn : 200 ≤ n) (R1 : Rows s) {k0 : Int32 → mb_T → Option (Int64 × mb_T)} : f_M_digest_36 n k0 n 0 (sJ s 200 h) = k0 (nI 6) (sJ s 200 (dgR (rsz 203 s) (rln 203 s) (fun r i => s.2.1 204 (60 * r + i)) h 6)) := by
  refine lp (F := fun f (t : Int32 × mb_T) => f_M_digest_36 n k0 f t.1 t.2) (fun i => (nI i, sJ s 200 (dgR (rsz 203 s) (rln 203 s) (fun r i => s.2.1 204 (60 * r + i)) h i))) 6 ?_ ?_ n (by omega)
  · intro i hi f
    dsimp only
    rw [dgR_s]
    obtain ⟨D, hD⟩ : ∃ D, D = dgR (rsz 203 s) (rln 203 s) (fun r i => s.2.1 204 (60 * r + i)) h i := ⟨_, rfl⟩
    rw [← hD]
    have key : ∀ (M : Nat) (E : Int64), M ≤ 60 → rln 203 s i = M → (∀ e, e < M → ¬ s.2.1 203 i ≤ nI e) → s.2.1 203 i ≤ nI M → f_M_digest_67 n (fun x_35 s_36 => f_M_digest_36 n k0 f (nI (i + 1)) s_36) (nI i) n 0 (sJ s 200 E) = f_M_digest_36 n k0 f (nI (i + 1)) (sJ s 200 (dgF (fun e => s.2.1 204 (60 * i + e)) E (rln 203 s i))) := by
      intro M E hM hr h1 h2
      rw [hr]
      refine lp (F := fun f2 (t : Int32 × mb_T) => f_M_digest_67 n (fun x_35 s_36 => f_M_digest_36 n k0 f (nI (i + 1)) s_36) (nI i) f2 t.1 t.2) (fun e => (nI e, sJ s 200 (dgF (fun e => s.2.1 204 (60 * i + e)) E e))) M ?_ ?_ n (by omega)
      · intro e he f2
        dsimp only
        rw [f_M_digest_67.eq_2, rdI hi (by decide), if_neg (show ¬ (sJ s 200 (dgF (fun e => s.2.1 204 (60 * i + e)) E e)).2.1 203 i ≤ nI e from h1 e he), pM_rowAt hi (by omega), clS, mixS2, nI_1 e, dgF_s]
        rfl
      · intro f2
        dsimp only
        rw [f_M_digest_67.eq_2, rdI hi (by decide), if_pos (show (sJ s 200 (dgF (fun e => s.2.1 204 (60 * i + e)) E M)).2.1 203 i ≤ nI M from h2)]
    have e9 : (sJ s 200 D).2.1 203 i = s.2.1 203 i := rfl
    rw [f_M_digest_36.eq_2, if_neg (show ¬ (6 : Int32) ≤ nI i from npi (p := 6) (by decide) hi), rdI hi (by decide), e9]
    simp only [mb_jn, rdI hi (show 6 < 2 ^ 31 by decide), e9, mixS2, nI_1]
    have hz : (if 0 ≤ s.2.1 203 i then f_M_digest_67 n (fun x_35 s_36 => f_M_digest_36 n k0 f (nI (i + 1)) s_36) (nI i) n 0 (sJ s 200 (dg D (s.2.1 203 i))) else f_M_digest_67 n (fun x_35 s_36 => f_M_digest_36 n k0 f (nI (i + 1)) s_36) (nI i) n 0 (sJ s 200 (dg D (-1)))) = f_M_digest_67 n (fun x_35 s_36 => f_M_digest_36 n k0 f (nI (i + 1)) s_36) (nI i) n 0 (sJ s 200 (dg D (rsz 203 s i))) := by
      unfold rsz
      split <;> rfl
    rw [hz]
    rcases R1 i hi with ⟨m, m1, m2, m3, m4⟩ | ⟨m1, m2⟩
    · exact key m _ m1 (by unfold rln; rw [m3, nI_clamp (by omega)]) (fun e he => by rw [m3]; exact npi (by omega) he) (by rw [m3]; exact npp)
    · exact key 0 _ (by omega) (by unfold rln; rw [m2]; decide) (fun e he => by omega) (by rw [m2]; decide)
  · intro f
    dsimp only
    rw [f_M_digest_36.eq_2, if_pos (show (6 : Int32) ≤ nI 6 by decide)]
theorem pM_d101 (hn : 200 ≤ n) (R1 : Txts s) {k0 : Int32 → mb_T → Option (Int64 × mb_T)} : f_M_digest_101 n k0 n 0 (sJ s 200 h) = k0 (nI 4) (sJ s 200 (dgR (rsz 206 s) (rln 206 s) (fun r i => s.2.1 207 (80 * r + i)) h 4)) := by
  refine lp (F := fun f (t : Int32 × mb_T) => f_M_digest_101 n k0 f t.1 t.2) (fun i => (nI i, sJ s 200 (dgR (rsz 206 s) (rln 206 s) (fun r i => s.2.1 207 (80 * r + i)) h i))) 4 ?_ ?_ n (by omega)
  · intro i hi f
    dsimp only
    rw [dgR_s]
    obtain ⟨D, hD⟩ : ∃ D, D = dgR (rsz 206 s) (rln 206 s) (fun r i => s.2.1 207 (80 * r + i)) h i := ⟨_, rfl⟩
    rw [← hD]
    have key : ∀ (M : Nat) (E : Int64), M ≤ 80 → rln 206 s i = M → (∀ e, e < M → ¬ s.2.1 206 i ≤ nI e) → s.2.1 206 i ≤ nI M → f_M_digest_131 n (fun x_35 s_36 => f_M_digest_101 n k0 f (nI (i + 1)) s_36) (nI i) n 0 (sJ s 200 E) = f_M_digest_101 n k0 f (nI (i + 1)) (sJ s 200 (dgF (fun e => s.2.1 207 (80 * i + e)) E (rln 206 s i))) := by
      intro M E hM hr h1 h2
      rw [hr]
      refine lp (F := fun f2 (t : Int32 × mb_T) => f_M_digest_131 n (fun x_35 s_36 => f_M_digest_101 n k0 f (nI (i + 1)) s_36) (nI i) f2 t.1 t.2) (fun e => (nI e, sJ s 200 (dgF (fun e => s.2.1 207 (80 * i + e)) E e))) M ?_ ?_ n (by omega)
      · intro e he f2
        dsimp only
        rw [f_M_digest_131.eq_2, rdI hi (by decide), if_neg (show ¬ (sJ s 200 (dgF (fun e => s.2.1 207 (80 * i + e)) E e)).2.1 206 i ≤ nI e from h1 e he), nI_80, nI_add, rdI (by omega) (by decide), mixS2, nI_1 e, dgF_s]
        rfl
      · intro f2
        dsimp only
        rw [f_M_digest_131.eq_2, rdI hi (by decide), if_pos (show (sJ s 200 (dgF (fun e => s.2.1 207 (80 * i + e)) E M)).2.1 206 i ≤ nI M from h2)]
    have e9 : (sJ s 200 D).2.1 206 i = s.2.1 206 i := rfl
    rw [f_M_digest_101.eq_2, if_neg (show ¬ (4 : Int32) ≤ nI i from npi (p := 4) (by decide) hi), rdI hi (by decide), e9]
    simp only [mb_jn, rdI hi (show 4 < 2 ^ 31 by decide), e9, mixS2, nI_1]
    have hz : (if 0 ≤ s.2.1 206 i then f_M_digest_131 n (fun x_35 s_36 => f_M_digest_101 n k0 f (nI (i + 1)) s_36) (nI i) n 0 (sJ s 200 (dg D (s.2.1 206 i))) else f_M_digest_131 n (fun x_35 s_36 => f_M_digest_101 n k0 f (nI (i + 1)) s_36) (nI i) n 0 (sJ s 200 (dg D (-1)))) = f_M_digest_131 n (fun x_35 s_36 => f_M_digest_101 n k0 f (nI (i + 1)) s_36) (nI i) n 0 (sJ s 200 (dg D (rsz 206 s i))) := by
      unfold rsz
      split <;> rfl
    rw [hz]
    rcases R1 i hi with ⟨m, m1, m2, m3, m4⟩ | ⟨m1, m2⟩
    · exact key m _ m1 (by unfold rln; rw [m3, nI_clamp (by omega)]) (fun e he => by rw [m3]; exact npi (by omega) he) (by rw [m3]; exact npp)
    · exact key 0 _ (by omega) (by unfold rln; rw [m2]; decide) (fun e he => by omega) (by rw [m2]; decide)
  · intro f
    dsimp only
    rw [f_M_digest_101.eq_2, if_pos (show (4 : Int32) ≤ nI 4 by decide)]
theorem dgR_c {sz sz2 : Nat → Int32} {ln ln2 : Nat → Nat} {f g : Nat → Nat → Int32} (H : ∀ r, r < p → sz r = sz2 r ∧ ln r = ln2 r ∧ ∀ i, i < ln r → f r i = g r i) : dgR sz ln f h p = dgR sz2 ln2 g h p := fo_congr fun i hi c => by
  obtain ⟨h1, h2, h3⟩ := H i hi
  rw [h1, dgF_c h3, h2]
theorem cs_digest (hn : 200 ≤ n) : CS (f_C_digest n) (f_M_digest n) := by
  intro s R
  obtain ⟨-, -, -, r4, r, z, w, law, H⟩ := id R
  have h5 := Cav5 H
  obtain ⟨p1, p2⟩ := CavP H
  obtain ⟨mi, m1, m2, m3, m4⟩ := Cav_m H
  obtain ⟨t, t1, t2⟩ := pC_d6 (h := 17) (k0 := fun x_5 x_6 s_7 => f_C_digest_63 n (fun x_16 x_17 s_18 => f_C_digest_112 n (fun x_23 x_24 s_25 => f_C_digest_148 n (fun x_30 x_31 s_32 => mb_cl (f_C_withRows n x_30 s_32) fun r_35 s_33 => mb_cl (f_C_withTexts n r_35 s_33) fun r_38 s_36 => some (r_38, s_36)) n x_23 0 s_25) n x_16 0 s_18) n ((31 * ((31 * x_5) + (Int32.toInt64 (s_7.1 100 1)))) + (Int32.toInt64 (s_7.1 100 2))) 0 s_7) hn R.1 R.2.1 H
  obtain ⟨A1, hA1⟩ : ∃ A1, A1 = dgF (tW z w s) 17 8 := ⟨_, rfl⟩
  obtain ⟨A2, hA2⟩ : ∃ A2, A2 = dg (dg A1 (if r = true then 1 else 0)) law := ⟨_, rfl⟩
  have Ht := Cav_fr H t2
  obtain ⟨u, u1, u2⟩ := pC_d63 (h := A2) (k0 := fun x_16 x_17 s_18 => f_C_digest_112 n (fun x_23 x_24 s_25 => f_C_digest_148 n (fun x_30 x_31 s_32 => mb_cl (f_C_withRows n x_30 s_32) fun r_35 s_33 => mb_cl (f_C_withTexts n r_35 s_33) fun r_38 s_36 => some (r_38, s_36)) n x_23 0 s_25) n x_16 0 s_18) hn Ht
  have Fu : Fk bgF bgA s u := FkT t2 u2
  have Hu := Cav_fr H Fu
  have R1u := Rows_fr R.1 Fu
  have R2u := Txts_fr R.2.1 Fu
  obtain ⟨D3, hD3⟩ : ∃ D3, D3 = dgP z w A2 (zP z) := ⟨_, rfl⟩
  obtain ⟨D4, hD4⟩ : ∃ D4, D4 = dgF (u.2.1 110) D3 mi := ⟨_, rfl⟩
  obtain ⟨D5, hD5⟩ : ∃ D5, D5 = dgF (kmn u) D4 3 := ⟨_, rfl⟩
  obtain ⟨D6, hD6⟩ : ∃ D6, D6 = dgR (u.2.1 1) (rln 1 u) (fun r => u.2.1 (20 + r)) D5 6 := ⟨_, rfl⟩
  obtain ⟨D7, hD7⟩ : ∃ D7, D7 = dgR (u.2.1 3) (rln 3 u) (fun r => u.2.1 (30 + r)) D6 4 := ⟨_, rfl⟩
  have EC : f_C_digest n s = some (D7, u) := by
    unfold f_C_digest
    rw [t1, ← hA1, (CavV Ht).2.2.1, (CavL Ht).1]
    rw [show ((31 * ((31 * A1) + (Int32.toInt64 (if r = true then 1 else 0 : Int32)))) + (Int32.toInt64 law)) = A2 by rw [hA2]; rfl]
    rw [u1, ← hD3, pC_d112 hn (by rw [Fu.1 100 4 (by decide)]; exact m3) m1, ← hD4, pC_d148 hn, ← hD5, pC_wr hn R1u, clS, ← hD6, pC_wt hn R2u, clS, ← hD7]
  have Mu := CavM Hu
  have e4 : dgF (u.2.1 226) D3 mi = D4 := by
    rw [hD4]
    exact dgF_c fun i hi => (CavH Hu m1 m2 i hi).2.1
  have e5 : dgF (fun k => if u.2.1 229 (850 * k) = -9 then -1 else u.2.1 229 (850 * k)) D4 3 = D5 := by
    rw [hD5]
    refine dgF_c fun i hi => ?_
    rcases km_r Hu hi with ⟨a1, a2⟩ | ⟨mi, m1, a1, a2⟩
    · rw [a1, a2, if_pos rfl]
    · rw [a1, a2, if_neg (nI_m9 (by omega))]
  have e6 : dgR (rsz 203 u) (rln 203 u) (fun r i => u.2.1 204 (60 * r + i)) D5 6 = D6 := by
    rw [hD6]
    refine dgR_c fun r hr => ?_
    unfold rsz rln
    rcases R1u r hr with ⟨m, m1, m2, m3, m4⟩ | ⟨m1, m2⟩
    · rw [m2, m3, if_pos (nI_pos' (by omega)), nI_clamp (by omega)]
      exact ⟨rfl, rfl, fun i hi => (m4 i hi).symm⟩
    · rw [m1, m2]
      refine ⟨by decide, by decide, fun i hi => ?_⟩
      have : (-9 : Int32).toNatClampNeg = 0 := by decide
      omega
  have e7 : dgR (rsz 206 u) (rln 206 u) (fun r i => u.2.1 207 (80 * r + i)) D6 4 = D7 := by
    rw [hD7]
    refine dgR_c fun r hr => ?_
    unfold rsz rln
    rcases R2u r hr with ⟨m, m1, m2, m3, m4⟩ | ⟨m1, m2⟩
    · rw [m2, m3, if_pos (nI_pos' (by omega)), nI_clamp (by omega)]
      exact ⟨rfl, rfl, fun i hi => (m4 i hi).symm⟩
    · rw [m1, m2]
      refine ⟨by decide, by decide, fun i hi => ?_⟩
      have : (-9 : Int32).toNatClampNeg = 0 := by decide
      omega
  have ef : (if (u.1 200 8) = 0 then 0 else (u.1 200 9) : Int32) = (if r = true then 1 else 0 : Int32) := by
    rw [Mu.2.1]
    simp only [p0 h5]
    by_cases c : zP z = 0
    · rw [if_pos c, (H.2.2.2.2.2.2.2.1 c).1]; rfl
    · rw [if_neg c]; exact Hu.2.2.2.2.2.2.2.2.2 (by omega)
  have el : (if (u.1 200 8) = 0 then 0 else (u.1 200 10) : Int32) = law := by
    rw [Mu.2.1]
    simp only [p0 h5]
    by_cases c : zP z = 0
    · rw [if_pos c, (H.2.2.2.2.2.2.2.1 c).2.1]
    · rw [if_neg c]; exact Hu.2.2.2.2.2.2.1 (by omega)
  have EM : f_M_digest n u = some (D7, sJ u 200 D7) := by
    unfold f_M_digest f_M_mixCave
    have e1 : dgF (tW z w u) 17 8 = A1 := by rw [hA1]; exact dgF_c fun i _ => tW_fk Fu
    rw [bdS, pM_d9 hn Mu, e1]
    show mb_cw (mb_cw (f_M_mix n (if (u.1 200 8) = 0 then 0 else (u.1 200 9) : Int32) (sJ u 200 A1)) _) _ = _
    rw [ef, mixS]
    show mb_cw (mb_cw (f_M_mix n (if (u.1 200 8) = 0 then 0 else (u.1 200 10) : Int32) (sJ u 200 (dg A1 (if r = true then 1 else 0)))) _) _ = _
    rw [el, mixS, ← hA2, pM_c40 hn Mu, ← hD3, pM_c79 hn (by rw [Fu.1 200 24 (by decide)]; exact m4) m1, e4, pM_c105 hn, e5, cwS2, pM_d36 hn R1u, e6, pM_d101 hn R2u, e7]
    rfl
  refine ⟨D7, u, _, EC, EM, ?_⟩
  have FJ : Fk bgF bgA s (sJ u 200 D7) := Fu
  exact Rel_qs R H FJ Mu (by rw [FJ.1 0 14 (by decide), FJ.1 200 2 (by decide)]; exact r4)
end UC
