/-! the pure part: the class and the model tell the same -/
def Rows (s : mb_T) : Prop := ∀ r, r < 6 → (∃ m, m ≤ 60 ∧ s.2.1 1 r = nI m ∧ s.2.1 203 r = nI m ∧ ∀ i, i < m → s.2.1 (20 + r) i = s.2.1 204 (60 * r + i)) ∨ (s.2.1 1 r = -1 ∧ s.2.1 203 r = -9)
def Txts (s : mb_T) : Prop := ∀ r, r < 4 → (∃ m, m ≤ 80 ∧ s.2.1 3 r = nI m ∧ s.2.1 206 r = nI m ∧ ∀ i, i < m → s.2.1 (30 + r) i = s.2.1 207 (80 * r + i)) ∨ (s.2.1 3 r = -1 ∧ s.2.1 206 r = -9)
def Fnd (s : mb_T) : Prop := s.1 0 13 = s.1 200 0 ∧ ∀ f, f < 6 → s.2.1 12 f = s.2.1 201 f
/-- minutes gone by: in a cave's rows, in the model's -/
def HIS (p mi : Nat) (hC oC fC hM nM : Nat → Int32) : Prop := ∀ t, t < mi → (∃ y, y < p ∧ hC t = nI y) ∧ hM t = hC t ∧ nM (6 * t) = oC t ∧ ∀ x, x < p → nM (6 * t + 1 + x) = fC (5 * t + x) ∧ ∃ f, f ≤ 99 ∧ fC (5 * t + x) = nI f
def CVv (c : Nat) (r : Bool) (z : zT) (w : wT) (law : Int32) (hM nM : Nat → Int32) (s : mb_T) : Prop := HV c r z w s ∧ (wrg z w ∧ wok z w) ∧ s.1 c 2 = law ∧ lawok law ∧ ∀ mi, mi ≤ 120 → w.2.2.1 = nI mi → HIS (zP z) mi (s.2.1 (c + 10)) (s.2.1 (c + 11)) (s.2.1 (c + 12)) hM nM
def Kp (r : Bool) (z : zT) (s : mb_T) (k : Nat) : Prop := ((s.2.2.2.2 k = false ∨ s.1 (140 + 20 * k) 0 = 0) ∧ s.2.1 229 (850 * k) = -9) ∨ (s.2.2.2.2 k = true ∧ 1 ≤ zP z ∧ ∃ w law, CVv (140 + 20 * k) r z w law (fun t => s.2.1 229 (850 * k + 10 + t)) (fun t => s.2.1 229 (850 * k + 130 + t)) s ∧ s.2.1 229 (850 * k) = w.2.2.1 ∧ s.2.1 229 (850 * k + 1) = law ∧ s.2.1 229 (850 * k + 2) = w.2.1 ∧ s.2.1 229 (850 * k + 3) = oM w.2.2.2 ∧ ∀ x, x < zP z → s.2.1 229 (850 * k + 4 + x) = w.1 x)
def Cav (r : Bool) (z : zT) (w : wT) (law : Int32) (s : mb_T) : Prop := zcv r z ∧ zrg z ∧ HM z w s ∧ (∀ x, x < 5 → s.2.1 223 x = nI x) ∧ s.1 200 22 = -9 ∧ CVv 100 r z w law (s.2.1 226) (s.2.1 227) s ∧ (1 ≤ zP z → s.1 200 10 = law) ∧ (zP z = 0 → r = false ∧ law = 0 ∧ w.2.1 = 0 ∧ w.2.2.1 = 0) ∧ (∀ k, k < 3 → Kp r z s k) ∧ (1 ≤ zP z → s.1 200 9 = (if r = true then 1 else 0))
def Rel (s : mb_T) : Prop := Rows s ∧ Txts s ∧ Fnd s ∧ s.1 0 14 = s.1 200 2 ∧ ∃ r z w law, Cav r z w law s
/-- what a question may change -/
abbrev qF : List (Nat × Nat) := [(0, 14), (36, 1), (36, 2), (36, 3), (40, 0), (40, 1), (40, 2), (40, 3), (40, 4), (40, 5), (40, 6), (60, 1), (60, 2), (60, 4), (60, 5), (120, 0), (120, 1), (120, 2), (120, 3), (120, 4), (200, 2), (200, 11), (200, 17), (200, 18), (200, 19), (200, 20), (200, 21), (200, 22), (200, 24), (200, 25), (200, 31), (200, 33), (200, 37), (200, 38), (200, 41), (200, 42), (200, 43)]
abbrev qA : List Nat := [10, 11, 47, 48, 49, 50, 51, 52, 53, 54, 55, 56, 61, 64, 125, 126, 127, 128, 129, 205, 213, 214, 223, 228, 230, 232, 234, 235, 236, 239, 240]
/-- like Fr, kept places alone of the rest -/
def Fk (fs : List (Nat × Nat)) (as : List Nat) (s t : mb_T) : Prop := (∀ a k, (a, k) ∉ fs → t.1 a k = s.1 a k) ∧ (∀ a, a ∉ as → t.2.1 a = s.2.1 a) ∧ t.2.2.2.2 = s.2.2.2.2
section RA
variable {s t u : mb_T} {n p a b q m i c : Nat} {v : Int32} {z : zT} {w w2 : wT} {r : Bool} {law : Int32} {fs gs ks : List (Nat × Nat)} {as bs cs : List Nat} {hM nM : Nat → Int32}
theorem Fk_of (h : Fr fs as s t) : Fk fs as s t := ⟨h.1, h.2.1, by rw [h.2.2]⟩
theorem FkI (h1 : Fk fs as s t) (hf : fs ⊆ ks := by decide) (ha : as ⊆ cs := by decide) : Fk ks cs s t := ⟨fun a k h => h1.1 a k (fun q => h (hf q)), fun a h => h1.2.1 a (fun q => h (ha q)), h1.2.2⟩
theorem FkT (h1 : Fk ks cs s t) (h2 : Fk ks cs t u) : Fk ks cs s u := ⟨fun a k h => by rw [h2.1 a k h, h1.1 a k h], fun a h => by rw [h2.2.1 a h, h1.2.1 a h], by rw [h2.2.2, h1.2.2]⟩
theorem FrQ (h1 : Fr fs as s t) (hf : fs ⊆ ks := by decide) (ha : as ⊆ cs := by decide) : Fk ks cs s t := FkI (Fk_of h1) hf ha
theorem FkR : Fk ks cs s s := ⟨fun _ _ _ => rfl, fun _ _ => rfl, rfl⟩
theorem Rows_fr (H : Rows s) (h : Fk fs as s t) (ha : (∀ q ∈ [1, 20, 21, 22, 23, 24, 25, 203, 204], q ∉ as) := by decide) : Rows t := by
  intro r hr
  have e : ∀ q ∈ [1, 20, 21, 22, 23, 24, 25, 203, 204], t.2.1 q = s.2.1 q := fun q hq => h.2.1 q (ha q hq)
  have er : t.2.1 (20 + r) = s.2.1 (20 + r) := e _ (by
    have : r = 0 ∨ r = 1 ∨ r = 2 ∨ r = 3 ∨ r = 4 ∨ r = 5 := by omega
    rcases this with rfl | rfl | rfl | rfl | rfl | rfl <;> decide)
  rw [e 1 (by decide), e 203 (by decide), e 204 (by decide), er]
  exact H r hr
theorem Txts_fr (H : Txts s) (h : Fk fs as s t) (ha : (∀ q ∈ [3, 30, 31, 32, 33, 206, 207], q ∉ as) := by decide) : Txts t := by
  intro r hr
  have e : ∀ q ∈ [3, 30, 31, 32, 33, 206, 207], t.2.1 q = s.2.1 q := fun q hq => h.2.1 q (ha q hq)
  have er : t.2.1 (30 + r) = s.2.1 (30 + r) := e _ (by
    have : r = 0 ∨ r = 1 ∨ r = 2 ∨ r = 3 := by omega
    rcases this with rfl | rfl | rfl | rfl <;> decide)
  rw [e 3 (by decide), e 206 (by decide), e 207 (by decide), er]
  exact H r hr
theorem Fnd_fr (H : Fnd s) (h : Fk fs as s t) (hf : ((0, 13) ∉ fs ∧ (200, 0) ∉ fs) := by decide) (ha : (12 ∉ as ∧ 201 ∉ as) := by decide) : Fnd t := by
  unfold Fnd
  rw [h.1 0 13 hf.1, h.1 200 0 hf.2, h.2.1 12 ha.1, h.2.1 201 ha.2]
  exact H
theorem CVv_fr (H : CVv c r z w law hM nM s) (h : Fk fs as s t) (hf : ∀ k, k < 5 → (c, k) ∉ fs) (ha : ∀ q, q < 13 → (c + q) ∉ as) : CVv c r z w law hM nM t := by
  obtain ⟨⟨h5, hp, hr, ho, hm, hl, hx⟩, h2, h3, h4, h5'⟩ := H
  refine ⟨⟨h5, ?_, ?_, ?_, ?_, ?_, ?_⟩, h2, ?_, h4, ?_⟩
  · rw [h.1 c 0 (hf 0 (by decide))]; exact hp
  · rw [h.1 c 1 (hf 1 (by decide))]; exact hr
  · rw [h.1 c 3 (hf 3 (by decide))]; exact ho
  · rw [h.1 c 4 (hf 4 (by decide))]; exact hm
  · rw [h.2.1 (c + 10) (ha 10 (by decide))]; exact hl
  · rw [h.2.1 (c + 5) (ha 5 (by decide)), h.2.1 (c + 6) (ha 6 (by decide)), h.2.1 (c + 7) (ha 7 (by decide)), h.2.1 (c + 8) (ha 8 (by decide)), h.2.1 (c + 9) (ha 9 (by decide))]; exact hx
  · rw [h.1 c 2 (hf 2 (by decide))]; exact h3
  · rw [h.2.1 (c + 10) (ha 10 (by decide)), h.2.1 (c + 11) (ha 11 (by decide)), h.2.1 (c + 12) (ha 12 (by decide))]; exact h5'
theorem Kp_fr {k : Nat} (H : Kp r z s k) (h : Fk fs as s t) (hf : ∀ j, j < 5 → (140 + 20 * k, j) ∉ fs) (ha : ∀ q, q < 13 → (140 + 20 * k + q) ∉ as) (hm : 229 ∉ as) : Kp r z t k := by
  unfold Kp
  rw [h.2.2, h.1 _ 0 (hf 0 (by decide)), h.2.1 229 hm]
  rcases H with H | ⟨h1, h2, w, law, h3, h4⟩
  · exact Or.inl H
  · exact Or.inr ⟨h1, h2, w, law, CVv_fr h3 h hf ha, h4⟩
theorem Cav_q (H : Cav r z w law s) (h : Fk qF qA s t) (H2 : HM z w t) (h3 : ∀ x, x < 5 → t.2.1 223 x = nI x) (h4 : t.1 200 22 = -9) : Cav r z w law t := by
  obtain ⟨a1, a2, a3, a4, a5, a6, a7, a8, a9, a10⟩ := H
  refine ⟨a1, a2, H2, h3, h4, ?_, ?_, a8, ?_, by rw [h.1 200 9 (by decide)]; exact a10⟩
  · have := CVv_fr a6 h (by decide) (by decide)
    rw [h.2.1 226 (by decide), h.2.1 227 (by decide)]
    exact this
  · rw [h.1 200 10 (by decide)]; exact a7
  · intro k hk
    refine Kp_fr (a9 k hk) h ?_ ?_ (by decide)
    · have : k = 0 ∨ k = 1 ∨ k = 2 := by omega
      rcases this with rfl | rfl | rfl <;> decide
    · have : k = 0 ∨ k = 1 ∨ k = 2 := by omega
      rcases this with rfl | rfl | rfl <;> decide
theorem Rel_q (R : Rel s) (H : Cav r z w law s) (h : Fk qF qA s t) (H2 : HM z w t) (h3 : ∀ x, x < 5 → t.2.1 223 x = nI x) (h4 : t.1 200 22 = -9) (ha : t.1 0 14 = t.1 200 2) : Rel t := ⟨Rows_fr R.1 h, Txts_fr R.2.1 h, Fnd_fr R.2.2.1 h, ha, r, z, w, law, Cav_q H h H2 h3 h4⟩
/-- .. where neither who sits where nor who lies was touched -/
theorem Rel_qs (R : Rel s) (H : Cav r z w law s) (h : Fk fs as s t) (H2 : HM z w t) (ha : t.1 0 14 = t.1 200 2) (hf : fs ⊆ qF := by decide) (hs : as ⊆ qA := by decide) (h3 : 223 ∉ as := by decide) (h4 : (200, 22) ∉ fs := by decide) : Rel t := by
  refine Rel_q R H (FkI h hf hs) H2 ?_ ?_ ha
  · rw [h.2.1 223 h3]; exact H.2.2.2.1
  · rw [h.1 200 22 h4]; exact H.2.2.2.2.1
theorem CavM (H : Cav r z w law s) : HM z w s := H.2.2.1
theorem CavV (H : Cav r z w law s) : HV 100 r z w s := H.2.2.2.2.2.1.1
theorem CavR (H : Cav r z w law s) : wrg z w := H.2.2.2.2.2.1.2.1.1
theorem CavL (H : Cav r z w law s) : s.1 100 2 = law ∧ lawok law := ⟨H.2.2.2.2.2.1.2.2.1, H.2.2.2.2.2.1.2.2.2.1⟩
theorem Cav5 (H : Cav r z w law s) : zP z ≤ 5 := H.2.2.1.1
theorem CavZ (H : Cav r z w law s) : zok z := zcv_ok H.1 (Cav5 H)
theorem sitB_n : ∀ p, p < 6 → ∀ r : Bool, ∀ x, x < p → bt (sitB id p r x) x = false := by decide +kernel
theorem CavN (H : Cav r z w law s) : zns z := by
  have h5 := Cav5 H
  intro x hx
  rw [H.1.1]
  exact sitB_n (zP z) (by omega) r x hx
theorem Cav_m (H : Cav r z w law s) : ∃ mi, mi ≤ 120 ∧ w.2.2.1 = nI mi ∧ s.1 100 4 = nI mi ∧ s.1 200 24 = nI mi := by
  obtain ⟨h5, hp, hr, ho, hm, ⟨mi, m1, m2, m3, m4⟩, hx⟩ := CavV H
  exact ⟨mi, m1, m2, by rw [hm, m2], by rw [(CavM H).2.2.2.1, m2]⟩
theorem CavO (H : Cav r z w law s) : mo2 w := by
  obtain ⟨mi, m1, m2, -⟩ := Cav_m H
  exact ⟨mi, by omega, m2⟩
theorem CavW (H : Cav r z w law s) : wok z w := H.2.2.2.2.2.1.2.1.2
theorem CavP (H : Cav r z w law s) : s.1 100 0 = nI (zP z) ∧ s.1 200 8 = nI (zP z) := ⟨(CavV H).2.1, (CavM H).2.1⟩
end RA
