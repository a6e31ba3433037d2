/-! the pure part: caves kept, gone on from -/
def bec (c c1 : Nat) (s : mb_T) : mb_T := sV (sV (sV (sV (sV (sV (sV (sV (sF (sF (sF (sF (sF s c 0 (s.1 c1 0)) c 1 (s.1 c1 1)) c 2 (s.1 c1 2)) c 3 (s.1 c1 3)) c 4 (s.1 c1 4)) (c + 5) (va_cpy (s.2.1 (c1 + 5)) (s.2.1 (c + 5)) 0 0 5)) (c + 6) (va_cpy (s.2.1 (c1 + 6)) (s.2.1 (c + 6)) 0 0 5)) (c + 7) (va_cpy (s.2.1 (c1 + 7)) (s.2.1 (c + 7)) 0 0 5)) (c + 8) (va_cpy (s.2.1 (c1 + 8)) (s.2.1 (c + 8)) 0 0 5)) (c + 9) (va_cpy (s.2.1 (c1 + 9)) (s.2.1 (c + 9)) 0 0 5)) (c + 10) (va_cpy (s.2.1 (c1 + 10)) (s.2.1 (c + 10)) 0 0 120)) (c + 11) (va_cpy (s.2.1 (c1 + 11)) (s.2.1 (c + 11)) 0 0 120)) (c + 12) (va_cpy (s.2.1 (c1 + 12)) (s.2.1 (c + 12)) 0 0 600)
section RG
variable {s t u : mb_T} {n p a b q m i c c1 k x y j l : Nat} {v : Int32} {z : zT} {w w2 : wT} {r : Bool} {law law2 X Y V U T : Int32} {fs gs ks : List (Nat × Nat)} {as bs cs : List Nat} {hM nM hM2 nM2 : Nat → Int32}
theorem cp120 {β : Type} {k : mb_T → Option β} {a0 a1 : Nat} : mb_cp s a0 120 a1 120 0 0 120 k = k (sV s a1 (va_cpy (s.2.1 a0) (s.2.1 a1) 0 0 120)) := cpI (sp := 0) (dp := 0) (m := 120) (by omega) (by omega) (by decide) (by decide)
theorem cp600 {β : Type} {k : mb_T → Option β} {a0 a1 : Nat} : mb_cp s a0 600 a1 600 0 0 600 k = k (sV s a1 (va_cpy (s.2.1 a0) (s.2.1 a1) 0 0 600)) := cpI (sp := 0) (dp := 0) (m := 600) (by omega) (by omega) (by decide) (by decide)
theorem p_bec1 (hk : k < 3) : f_V_become n (140 + 20 * k) 100 s = some (bec (140 + 20 * k) 100 s) := by
  have : k = 0 ∨ k = 1 ∨ k = 2 := by omega
  rcases this with rfl | rfl | rfl <;>
  · unfold f_V_become
    simp only [mb_bd]
    rw [cp5, cp5, cp5, cp5, cp5, cp120, cp120, cp600]
    rfl
theorem p_bec2 (hk : k < 3) : f_V_become n 100 (140 + 20 * k) s = some (bec 100 (140 + 20 * k) s) := by
  have : k = 0 ∨ k = 1 ∨ k = 2 := by omega
  rcases this with rfl | rfl | rfl <;>
  · unfold f_V_become
    simp only [mb_bd]
    rw [cp5, cp5, cp5, cp5, cp5, cp120, cp120, cp600]
    rfl
theorem p_bec3 : f_V_become n 100 120 s = some (bec 100 120 s) := by
  unfold f_V_become
  simp only [mb_bd]
  rw [cp5, cp5, cp5, cp5, cp5, cp120, cp120, cp600]
  rfl
theorem bec_A : (bec c c1 s).2.1 a = if a = c + 12 then va_cpy (s.2.1 (c1 + 12)) (s.2.1 (c + 12)) 0 0 600 else if a = c + 11 then va_cpy (s.2.1 (c1 + 11)) (s.2.1 (c + 11)) 0 0 120 else if a = c + 10 then va_cpy (s.2.1 (c1 + 10)) (s.2.1 (c + 10)) 0 0 120 else if a = c + 9 then va_cpy (s.2.1 (c1 + 9)) (s.2.1 (c + 9)) 0 0 5 else if a = c + 8 then va_cpy (s.2.1 (c1 + 8)) (s.2.1 (c + 8)) 0 0 5 else if a = c + 7 then va_cpy (s.2.1 (c1 + 7)) (s.2.1 (c + 7)) 0 0 5 else if a = c + 6 then va_cpy (s.2.1 (c1 + 6)) (s.2.1 (c + 6)) 0 0 5 else if a = c + 5 then va_cpy (s.2.1 (c1 + 5)) (s.2.1 (c + 5)) 0 0 5 else s.2.1 a := rfl
theorem cpy00 {f g : Nat → Int32} (h : x < i) : va_cpy f g 0 0 i x = f x := by
  have := cpy_i (f := f) (g := g) (sp := 0) (dp := 0) (i := i) (k := x) h
  rwa [show 0 + x = x by omega] at this
theorem bec_o (h : a < c + 5 ∨ c + 12 < a) : (bec c c1 s).2.1 a = s.2.1 a := by
  rw [bec_A, if_neg (by omega), if_neg (by omega), if_neg (by omega), if_neg (by omega), if_neg (by omega), if_neg (by omega), if_neg (by omega), if_neg (by omega)]
theorem bec_5 (hq : 5 ≤ q ∧ q < 10) (hx : x < 5) : (bec c c1 s).2.1 (c + q) x = s.2.1 (c1 + q) x := by
  have : q = 5 ∨ q = 6 ∨ q = 7 ∨ q = 8 ∨ q = 9 := by omega
  rw [bec_A, if_neg (by omega), if_neg (by omega), if_neg (by omega)]
  rcases this with rfl | rfl | rfl | rfl | rfl
  · rw [if_neg (by omega), if_neg (by omega), if_neg (by omega), if_neg (by omega), if_pos rfl, cpy00 hx]
  · rw [if_neg (by omega), if_neg (by omega), if_neg (by omega), if_pos rfl, cpy00 hx]
  · rw [if_neg (by omega), if_neg (by omega), if_pos rfl, cpy00 hx]
  · rw [if_neg (by omega), if_pos rfl, cpy00 hx]
  · rw [if_pos rfl, cpy00 hx]
theorem bec_10 (hx : x < 120) : (bec c c1 s).2.1 (c + 10) x = s.2.1 (c1 + 10) x := by
  rw [bec_A, if_neg (by omega), if_neg (by omega), if_pos rfl, cpy00 hx]
theorem bec_11 (hx : x < 120) : (bec c c1 s).2.1 (c + 11) x = s.2.1 (c1 + 11) x := by
  rw [bec_A, if_neg (by omega), if_pos rfl, cpy00 hx]
theorem bec_12 (hx : x < 600) : (bec c c1 s).2.1 (c + 12) x = s.2.1 (c1 + 12) x := by
  rw [bec_A, if_pos rfl, cpy00 hx]
theorem bec_F (hj : j < 5) : (bec c c1 s).1 c j = s.1 c1 j := by
  have : j = 0 ∨ j = 1 ∨ j = 2 ∨ j = 3 ∨ j = 4 := by omega
  unfold bec
  simp only [sV1, sF1]
  rcases this with rfl | rfl | rfl | rfl | rfl <;> simp
theorem bec_G (ha : a ≠ c ∨ 5 ≤ j) : (bec c c1 s).1 a j = s.1 a j := by
  unfold bec
  simp only [sV1, sF1]
  by_cases h : a = c
  · have h5 : 5 ≤ j := by omega
    rw [if_neg (by omega), if_neg (by omega), if_neg (by omega), if_neg (by omega), if_neg (by omega)]
  · simp [h]
/-- a cave's cells moved -/
theorem CVv_mv (H : CVv c1 r z w law hM nM s) (e1 : ∀ j, j < 5 → t.1 c j = s.1 c1 j) (e2 : ∀ q, 5 ≤ q ∧ q < 10 → ∀ x, x < 5 → t.2.1 (c + q) x = s.2.1 (c1 + q) x) (e3 : ∀ x, x < 120 → t.2.1 (c + 10) x = s.2.1 (c1 + 10) x) (e4 : ∀ x, x < 120 → t.2.1 (c + 11) x = s.2.1 (c1 + 11) x) (e5 : ∀ x, x < 600 → t.2.1 (c + 12) x = s.2.1 (c1 + 12) x) (e6 : ∀ x, x < 120 → hM2 x = hM x) (e7 : ∀ x, x < 720 → nM2 x = nM x) : CVv c r z w law hM2 nM2 t := by
  obtain ⟨⟨h5, hp, hr, ho, hm, ⟨mi, m1, m2, m3, m4⟩, hx⟩, g2, g3, g4, g5⟩ := H
  refine ⟨⟨h5, by rw [e1 0 (by decide)]; exact hp, by rw [e1 1 (by decide)]; exact hr, by rw [e1 3 (by decide)]; exact ho, by rw [e1 4 (by decide)]; exact hm, ⟨mi, m1, m2, m3, fun h0 => ⟨by rw [e3 _ (by omega)]; exact (m4 h0).1, (m4 h0).2⟩⟩, fun x hxp => ?_⟩, g2, by rw [e1 2 (by decide)]; exact g3, g4, fun mi m1 m2 e he => ?_⟩
  · rw [e2 5 (by omega) x (by omega), e2 6 (by omega) x (by omega), e2 7 (by omega) x (by omega), e2 8 (by omega) x (by omega), e2 9 (by omega) x (by omega)]
    exact hx x hxp
  · obtain ⟨q1, q2, q3, q4⟩ := g5 mi m1 m2 e he
    rw [e3 e (by omega), e4 e (by omega), e6 e (by omega), e7 (6 * e) (by omega)]
    refine ⟨q1, q2, q3, fun x hx => ?_⟩
    rw [e7 _ (by omega), e5 _ (by omega)]
    exact q4 x hx
theorem Kp_mv (H : Kp r z s k) (e0 : t.2.2.2.2 k = s.2.2.2.2 k) (e1 : ∀ j, j < 5 → t.1 (140 + 20 * k) j = s.1 (140 + 20 * k) j) (e2 : ∀ q, q < 13 → t.2.1 (140 + 20 * k + q) = s.2.1 (140 + 20 * k + q)) (e3 : ∀ j, j < 850 → t.2.1 229 (850 * k + j) = s.2.1 229 (850 * k + j)) : Kp r z t k := by
  have e30 : t.2.1 229 (850 * k) = s.2.1 229 (850 * k) := e3 0 (by decide)
  unfold Kp
  rw [e0, e1 0 (by decide), e30, e3 1 (by decide), e3 2 (by decide), e3 3 (by decide)]
  rcases H with H | ⟨h1, h2, w, law, h3, h4, h5, h6, h7, h8⟩
  · exact Or.inl H
  · refine Or.inr ⟨h1, h2, w, law, CVv_mv h3 e1 (fun q hq x hx => by rw [e2 q (by omega)]) (fun x hx => by rw [e2 10 (by omega)]) (fun x hx => by rw [e2 11 (by omega)]) (fun x hx => by rw [e2 12 (by omega)]) (fun x hx => ?_) (fun x hx => ?_), h4, h5, h6, h7, fun x hx => ?_⟩
    · rw [Nat.add_assoc, e3 _ (by omega)]
    · rw [Nat.add_assoc, e3 _ (by omega)]
    · have := h3.1.1
      rw [← h8 x hx, Nat.add_assoc, e3 _ (by omega)]
theorem nI_850 : (850 : Int32) * nI x = nI (850 * x) := nI_mul 850 x
theorem nI_2a : nI x + 2 = nI (x + 2) := nI_add x 2
theorem nI_3a : nI x + 3 = nI (x + 3) := nI_add x 3
theorem nI_4a : nI x + 4 = nI (x + 4) := nI_add x 4
theorem nI_10a : nI x + 10 = nI (x + 10) := nI_add x 10
theorem nI_130a : nI x + 130 = nI (x + 130) := nI_add x 130
theorem pM_k75 (hn : 1000 ≤ n) (hk : k < 3) {k0 : Int32 → mb_T → Option (Int32 × mb_T)} : f_M_keep_75 n k0 (nI (850 * k)) n 0 s = k0 (nI 5) (sV s 229 (va_cpy (s.2.1 213) (s.2.1 229) 0 (850 * k + 4) 5)) := by
  have e := lp (F := fun f (t : Int32 × mb_T) => f_M_keep_75 n k0 (nI (850 * k)) f t.1 t.2) (R := k0 (nI 5) (sV s 229 (va_cpy (s.2.1 213) (s.2.1 229) 0 (850 * k + 4) 5))) (fun i => (nI i, sV s 229 (va_cpy (s.2.1 213) (s.2.1 229) 0 (850 * k + 4) i))) 5 ?_ ?_ n (by omega)
  · dsimp only at e
    rw [cpy_0, sVid] at e
    exact e
  · intro i hi f
    dsimp only
    have g : (sV s 229 (va_cpy (s.2.1 213) (s.2.1 229) 0 (850 * k + 4) i)).2.1 213 i = s.2.1 213 (0 + i) := by rw [sV2, if_neg (by decide), show 0 + i = i by omega]
    rw [f_M_keep_75.eq_2, if_neg (show ¬ (5 : Int32) ≤ nI i from npi (p := 5) (by decide) hi), rdI (by omega) (by decide), nI_4a, nI_add, wrI (by omega) (by decide), g, sAV, nI_1, cpy_s]
  · intro f
    dsimp only
    rw [f_M_keep_75.eq_2, if_pos (show (5 : Int32) ≤ nI 5 by decide)]
theorem pM_k104 (hn : 1000 ≤ n) (hk : k < 3) {k0 : Int32 → mb_T → Option (Int32 × mb_T)} : f_M_keep_104 n k0 (nI (850 * k)) n 0 s = k0 (nI 120) (sV s 229 (va_cpy (s.2.1 226) (s.2.1 229) 0 (850 * k + 10) 120)) := by
  have e := lp (F := fun f (t : Int32 × mb_T) => f_M_keep_104 n k0 (nI (850 * k)) f t.1 t.2) (R := k0 (nI 120) (sV s 229 (va_cpy (s.2.1 226) (s.2.1 229) 0 (850 * k + 10) 120))) (fun i => (nI i, sV s 229 (va_cpy (s.2.1 226) (s.2.1 229) 0 (850 * k + 10) i))) 120 ?_ ?_ n (by omega)
  · dsimp only at e
    rw [cpy_0, sVid] at e
    exact e
  · intro i hi f
    dsimp only
    have g : (sV s 229 (va_cpy (s.2.1 226) (s.2.1 229) 0 (850 * k + 10) i)).2.1 226 i = s.2.1 226 (0 + i) := by rw [sV2, if_neg (by decide), show 0 + i = i by omega]
    rw [f_M_keep_104.eq_2, if_neg (show ¬ (120 : Int32) ≤ nI i from npi (p := 120) (by decide) hi), rdI (by omega) (by decide), nI_10a, nI_add, wrI (by omega) (by decide), g, sAV, nI_1, cpy_s]
  · intro f
    dsimp only
    rw [f_M_keep_104.eq_2, if_pos (show (120 : Int32) ≤ nI 120 by decide)]
theorem pM_k135 (hn : 1000 ≤ n) (hk : k < 3) {k0 : Int32 → mb_T → Option (Int32 × mb_T)} : f_M_keep_135 n k0 (nI (850 * k)) n 0 s = k0 (nI 720) (sV s 229 (va_cpy (s.2.1 227) (s.2.1 229) 0 (850 * k + 130) 720)) := by
  have e := lp (F := fun f (t : Int32 × mb_T) => f_M_keep_135 n k0 (nI (850 * k)) f t.1 t.2) (R := k0 (nI 720) (sV s 229 (va_cpy (s.2.1 227) (s.2.1 229) 0 (850 * k + 130) 720))) (fun i => (nI i, sV s 229 (va_cpy (s.2.1 227) (s.2.1 229) 0 (850 * k + 130) i))) 720 ?_ ?_ n (by omega)
  · dsimp only at e
    rw [cpy_0, sVid] at e
    exact e
  · intro i hi f
    dsimp only
    have g : (sV s 229 (va_cpy (s.2.1 227) (s.2.1 229) 0 (850 * k + 130) i)).2.1 227 i = s.2.1 227 (0 + i) := by rw [sV2, if_neg (by decide), show 0 + i = i by omega]
    rw [f_M_keep_135.eq_2, if_neg (show ¬ (720 : Int32) ≤ nI i from npi (p := 720) (by decide) hi), rdI (by omega) (by decide), nI_130a, nI_add, wrI (by omega) (by decide), g, sAV, nI_1, cpy_s]
  · intro f
    dsimp only
    rw [f_M_keep_135.eq_2, if_pos (show (720 : Int32) ≤ nI 720 by decide)]
def kpM (k : Nat) (s : mb_T) : Nat → Int32 := va_cpy (s.2.1 227) (va_cpy (s.2.1 226) (va_cpy (s.2.1 213) (upd (upd (upd (upd (s.2.1 229) (850 * k) (s.1 200 24)) (850 * k + 1) (s.1 200 10)) (850 * k + 2) (s.1 200 11)) (850 * k + 3) (s.1 200 25)) 0 (850 * k + 4) 5) 0 (850 * k + 10) 120) 0 (850 * k + 130) 720
theorem pM_keep (hn : 1000 ≤ n) (hk : k < 3) (hp : ¬ s.1 200 8 = 0) : f_M_keep n (nI k) s = some (s.1 200 24, sV s 229 (kpM k s)) := by
  unfold f_M_keep
  rw [pM_in, clS, show (2 : Int32) = nI 2 from rfl, show (0 : Int32) = nI 0 from rfl, inI_t (by omega) (by omega) (by decide), if_neg (by decide), if_neg (show ¬ s.1 200 8 = nI 0 from hp), nI_850, wrI (by omega) (by decide), nI_1, wrI (by omega) (by decide), show nI (850 * k) + nI 2 = nI (850 * k + 2) from nI_add _ _, wrI (by omega) (by decide), nI_3a, wrI (by omega) (by decide)]
  rw [show ∀ (x : Int32) , sA s 229 (850 * k) x = sV s 229 (upd (s.2.1 229) (850 * k) x) from fun _ => rfl, sAV, sAV, sAV, show nI 0 = (0 : Int32) from rfl, pM_k75 hn hk, pM_k104 hn hk, pM_k135 hn hk, sVV, sVV, sVV]
  rfl
theorem kpM_o (h : j < 850 * k ∨ 850 * k + 850 ≤ j) : kpM k s j = s.2.1 229 j := by
  unfold kpM
  rw [cpy_o (by omega), cpy_o (by omega), cpy_o (by omega), updI, if_neg (by omega), updI, if_neg (by omega), updI, if_neg (by omega), updI, if_neg (by omega)]
theorem kpM_h (h : j < 120) : kpM k s (850 * k + 10 + j) = s.2.1 226 j := by
  unfold kpM
  rw [cpy_o (by omega), cpy_i h, show 0 + j = j by omega]
theorem kpM_n (h : j < 720) : kpM k s (850 * k + 130 + j) = s.2.1 227 j := by
  unfold kpM
  rw [cpy_i h, show 0 + j = j by omega]
theorem kpM_f (h : j < 5) : kpM k s (850 * k + 4 + j) = s.2.1 213 j := by
  unfold kpM
  rw [cpy_o (by omega), cpy_o (by omega), cpy_i h, show 0 + j = j by omega]
theorem kpM_d : kpM k s (850 * k) = s.1 200 24 ∧ kpM k s (850 * k + 1) = s.1 200 10 ∧ kpM k s (850 * k + 2) = s.1 200 11 ∧ kpM k s (850 * k + 3) = s.1 200 25 := by
  unfold kpM
  refine ⟨?_, ?_, ?_, ?_⟩
  · rw [cpy_o (by omega), cpy_o (by omega), cpy_o (by omega), updI, if_neg (by omega), updI, if_neg (by omega), updI, if_neg (by omega), updI, if_pos rfl]
  · rw [cpy_o (by omega), cpy_o (by omega), cpy_o (by omega), updI, if_neg (by omega), updI, if_neg (by omega), updI, if_pos rfl]
  · rw [cpy_o (by omega), cpy_o (by omega), cpy_o (by omega), updI, if_neg (by omega), updI, if_pos rfl]
  · rw [cpy_o (by omega), cpy_o (by omega), cpy_o (by omega), updI, if_pos rfl]
theorem keep_rel (R : Rel s) (H : Cav r z w law s) (h1 : 1 ≤ zP z) (hk : k < 3) (uF : ∀ a, a ≠ 140 + 20 * k → ∀ j, u.1 a j = s.1 a j) (uA : ∀ a, (a < 140 + 20 * k + 5 ∨ 140 + 20 * k + 12 < a) → u.2.1 a = s.2.1 a) (uK : u.2.2.2.2 k = true) (uQ : ∀ q, q ≠ k → u.2.2.2.2 q = s.2.2.2.2 q) : Rel (sV (bec (140 + 20 * k) 100 u) 229 (kpM k (bec (140 + 20 * k) 100 u))) := by
  have h5 := Cav5 H
  obtain ⟨t, et⟩ : ∃ t, t = bec (140 + 20 * k) 100 u := ⟨_, rfl⟩
  have tF : ∀ a, a ≠ 140 + 20 * k → ∀ j, t.1 a j = s.1 a j := fun a ha j => by rw [et, bec_G (Or.inl ha), uF a ha]
  have tA : ∀ a, (a < 140 + 20 * k + 5 ∨ 140 + 20 * k + 12 < a) → t.2.1 a = s.2.1 a := fun a ha => by rw [et, bec_o ha, uA a ha]
  rw [← et]
  have tA2 : ∀ a, (a < 140 + 20 * k + 5 ∨ 140 + 20 * k + 12 < a) → a ≠ 229 → (sV t 229 (kpM k t)).2.1 a = s.2.1 a := fun a ha h9 => by rw [sV2, if_neg h9, tA a ha]
  obtain ⟨r1, r2, r3, r4, -⟩ := R
  refine ⟨?_, ?_, ?_, ?_, r, z, w, law, ?_⟩
  · intro q hq
    rw [tA2 1 (by omega) (by decide), tA2 203 (by omega) (by decide), tA2 204 (by omega) (by decide), tA2 (20 + q) (by omega) (by omega)]
    exact r1 q hq
  · intro q hq
    rw [tA2 3 (by omega) (by decide), tA2 206 (by omega) (by decide), tA2 207 (by omega) (by decide), tA2 (30 + q) (by omega) (by omega)]
    exact r2 q hq
  · unfold Fnd
    rw [tA2 12 (by omega) (by decide), tA2 201 (by omega) (by decide), show (sV t 229 (kpM k t)).1 0 13 = s.1 0 13 from tF 0 (by omega) 13, show (sV t 229 (kpM k t)).1 200 0 = s.1 200 0 from tF 200 (by omega) 0]
    exact r3
  · rw [show (sV t 229 (kpM k t)).1 0 14 = s.1 0 14 from tF 0 (by omega) 14, show (sV t 229 (kpM k t)).1 200 2 = s.1 200 2 from tF 200 (by omega) 2]
    exact r4
  · obtain ⟨a1, a2, a3, a4, a5, a6, a7, a8, a9, a10⟩ := H
    have HMt : HM z w (sV t 229 (kpM k t)) := by
      obtain ⟨q1, q2, q3, q4, q5, q6, q7, q8, q9⟩ := a3
      have f : ∀ j, (sV t 229 (kpM k t)).1 200 j = s.1 200 j := fun j => tF 200 (by omega) j
      refine ⟨q1, by rw [f]; exact q2, by rw [f]; exact q3, by rw [f]; exact q4, by rw [f]; exact q5, q6, ?_, ?_, ?_⟩
      · rw [f, tA2 223 (by omega) (by decide)]; exact q7
      · rw [f]; exact q8
      · rw [tA2 212 (by omega) (by decide), tA2 213 (by omega) (by decide), tA2 214 (by omega) (by decide), tA2 215 (by omega) (by decide), tA2 216 (by omega) (by decide)]; exact q9
    refine ⟨a1, a2, HMt, by rw [tA2 223 (by omega) (by decide)]; exact a4, by rw [show (sV t 229 (kpM k t)).1 200 22 = s.1 200 22 from tF 200 (by omega) 22]; exact a5, ?_, fun h => by rw [show (sV t 229 (kpM k t)).1 200 10 = s.1 200 10 from tF 200 (by omega) 10]; exact a7 h, a8, ?_, fun h => by rw [show (sV t 229 (kpM k t)).1 200 9 = s.1 200 9 from tF 200 (by omega) 9]; exact a10 h⟩
    · rw [tA2 226 (by omega) (by decide), tA2 227 (by omega) (by decide)]
      exact CVv_mv a6 (fun j hj => tF 100 (by omega) j) (fun q hq x hx => by rw [tA2 _ (by omega) (by omega)]) (fun x hx => by rw [tA2 _ (by omega) (by omega)]) (fun x hx => by rw [tA2 _ (by omega) (by omega)]) (fun x hx => by rw [tA2 _ (by omega) (by omega)]) (fun _ _ => rfl) (fun _ _ => rfl)
    · intro e he
      by_cases c : e = k
      · subst c
        have g : (sV t 229 (kpM e t)).2.1 229 = kpM e t := by rw [sV2, if_pos rfl]
        have g213 : t.2.1 213 = s.2.1 213 := tA 213 (by omega)
        have g226 : t.2.1 226 = s.2.1 226 := tA 226 (by omega)
        have g227 : t.2.1 227 = s.2.1 227 := tA 227 (by omega)
        have f : ∀ j, t.1 200 j = s.1 200 j := fun j => tF 200 (by omega) j
        obtain ⟨d1, d2, d3, d4⟩ := kpM_d (k := e) (s := t)
        refine Or.inr ⟨by rw [et]; exact uK, h1, w, law, CVv_mv a6 ?_ ?_ ?_ ?_ ?_ ?_ ?_, ?_, ?_, ?_, ?_, ?_⟩
        · intro j hj
          show t.1 (140 + 20 * e) j = s.1 100 j
          rw [et, bec_F hj, uF 100 (by omega)]
        · intro q hq x hx
          rw [sV2, if_neg (by omega), et, bec_5 hq hx, uA _ (by omega)]
        · intro x hx
          rw [sV2, if_neg (by omega), et, bec_10 hx, uA _ (by omega)]
        · intro x hx
          rw [sV2, if_neg (by omega), et, bec_11 hx, uA _ (by omega)]
        · intro x hx
          rw [sV2, if_neg (by omega), et, bec_12 hx, uA _ (by omega)]
        · intro x hx
          rw [g, kpM_h hx, g226]
        · intro x hx
          rw [g, kpM_n hx, g227]
        · rw [g, d1, f, a3.2.2.2.1]
        · rw [g, d2, f, a7 h1]
        · rw [g, d3, f, a3.2.2.1]
        · rw [g, d4, f, a3.2.2.2.2.1]
        · intro x hx
          rw [g, kpM_f (by omega), g213, (a3.2.2.2.2.2.2.2.2 x hx).2.1]
      · refine Kp_mv (a9 e he) ?_ (fun j hj => tF _ (by omega) j) (fun q hq => tA2 _ (by omega) (by omega)) (fun j hj => ?_)
        · show t.2.2.2.2 e = _
          rw [et]; exact uQ e c
        · rw [sV2, if_pos rfl, kpM_o (by omega), tA 229 (by omega)]
theorem cs_keep (hn : 1000 ≤ n) : CS (f_C_keep n X) (f_M_keep n X) := by
  intro s R
  obtain ⟨-, -, -, r4, r, z, w, law, H⟩ := id R
  have h5 := Cav5 H
  obtain ⟨p1, p2⟩ := CavP H
  rcases rngC (x := X) 3 with ⟨k, hk, rfl⟩ | hX
  · have c1 : f_C_isKeepingPlace n (nI k) s = some (1, s) := by
      unfold f_C_isKeepingPlace
      rw [bz_n, if_neg (nI_pos (by omega)), if_neg (show ¬ (3 : Int32) ≤ nI k from npi (p := 3) (by decide) hk)]
    by_cases h0 : zP z = 0
    · refine ⟨-4, s, s, ?_, ?_, R⟩
      · unfold f_C_keep
        rw [c1, clS, if_neg (by decide), p1, h0, if_pos (by decide)]
      · unfold f_M_keep
        rw [pM_in, clS, show (2 : Int32) = nI 2 from rfl, show (0 : Int32) = nI 0 from rfl, inI_t (by omega) (by omega) (by decide), if_neg (by decide), p2, h0, if_pos rfl]
    · have hne : ¬ nI (zP z) = 0 := by rw [p0 h5]; exact h0
      have fin : ∀ u : mb_T, f_C_keep n (nI k) s = some ((bec (140 + 20 * k) 100 u).1 100 4, bec (140 + 20 * k) 100 u) → (∀ a, a ≠ 140 + 20 * k → ∀ j, u.1 a j = s.1 a j) → (∀ a, (a < 140 + 20 * k + 5 ∨ 140 + 20 * k + 12 < a) → u.2.1 a = s.2.1 a) → (u.2.2.2.2 k = true) → (∀ q, q ≠ k → u.2.2.2.2 q = s.2.2.2.2 q) → ∃ r s1 s2, f_C_keep n (nI k) s = some (r, s1) ∧ f_M_keep n (nI k) s1 = some (r, s2) ∧ Rel s2 := by
        intro u hu uF uA uK uQ
        refine ⟨_, _, _, hu, ?_, keep_rel R H (by omega) hk uF uA uK uQ⟩
        have e1 : (bec (140 + 20 * k) 100 u).1 100 4 = (bec (140 + 20 * k) 100 u).1 200 24 := by
          rw [bec_G (Or.inl (by omega)), bec_G (Or.inl (by omega)), uF 100 (by omega), uF 200 (by omega), (CavM H).2.2.2.1, (CavV H).2.2.2.2.1]
        rw [e1]
        exact pM_keep hn hk (by rw [bec_G (Or.inl (by omega)), uF 200 (by omega), p2]; exact hne)
      cases hb : s.2.2.2.2 k with
      | true =>
        refine fin s ?_ (fun _ _ _ => rfl) (fun _ _ => rfl) hb (fun _ _ => rfl)
        unfold f_C_keep
        rw [c1, clS, if_neg (by decide), p1, if_neg hne, ixI hk (by decide), nI_clamp (by omega), hb, if_pos rfl, p_bec1 hk, cwS2]
      | false =>
        refine fin (sK s k) ?_ (fun a ha j => if_neg ha) (fun a ha => if_neg (by omega)) (if_pos rfl) (fun q hq => if_neg hq)
        unfold f_C_keep
        rw [c1, clS, if_neg (by decide), p1, if_neg hne, ixI hk (by decide), nI_clamp (by omega), hb, if_neg (by decide), bdS, p_bec1 hk, cwS2]
  · refine ⟨-1, s, s, ?_, ?_, R⟩
    · unfold f_C_keep f_C_isKeepingPlace
      rw [bz_n, clS]
      rcases hX with h | h
      · rw [if_pos h, if_pos rfl]
      · rw [if_pos (show (3 : Int32) ≤ X from h)]; split <;> first | rfl | (split <;> first | rfl | contradiction)
    · unfold f_M_keep
      rw [pM_in, clS, show (2 : Int32) = nI 2 from rfl, inI_f (b := 2) hX (by decide), if_pos rfl]
end RG
