/-! heap rows of the small machine -/
theorem mj_cin {ci : Nat} {C : String} {T : u_T} {N : Nat} (h : mj_cl[ci]? = some (C, T, N)) : ∀ w ∈ u_ws C T N, w ∈ mj_ws := by
  match ci, h with
  | 0, h => cases h; exact uA_in
  | 1, h => cases h; exact uV_in
  | 2, h => cases h; exact uR_in
  | 3, h => cases h; exact uS_in
  | 4, h => cases h; exact uC_in
  | 5, h => cases h; exact uM_in
  | n + 6, h => simp at h
theorem mj_cty {ci : Nat} {C : String} {T : u_T} {N : Nat} (h : mj_cl[ci]? = some (C, T, N)) : (∃ ty : Nat → FieldType, ∀ k, k < N → parseFieldDescriptor (T k).2.2.1 = some (ty k)) ∧ ∀ a, a < N → ∀ b, b < N → a ≠ b → (T a).2.1 ≠ (T b).2.1 := by
  match ci, h with
  | 0, h => cases h; exact ⟨⟨_, tA_ok⟩, nA_ok⟩
  | 1, h => cases h; exact ⟨⟨_, tV_ok⟩, nV_ok⟩
  | 2, h => cases h; exact ⟨⟨_, tR_ok⟩, nR_ok⟩
  | 3, h => cases h; exact ⟨⟨_, tS_ok⟩, nS_ok⟩
  | 4, h => cases h; exact ⟨⟨_, tC_ok⟩, nC_ok⟩
  | 5, h => cases h; exact ⟨⟨_, tM_ok⟩, nM_ok⟩
  | n + 6, h => simp at h
theorem mj_H.up {s : State} {nL mc ms : Nat} {D : va_G} {cA : Nat → ClassId} {ad0 : Nat → Nat} {L0 : List Nat} {A : Nat → Prop} {u v : Nat} {lv st st' : List Value} {S : mj_S} {ad : Nat → Nat} {H H1 : Heap} {locs locs1 : List Loc} {ls : Array Slot} {i : Nat} {x : mj_E} (h : mj_H s nL mc ms D cA ad0 L0 A u v lv st S ad H locs ls) (hx : mj_re S.1 x) (hst : mj_rl S.1 st') (hP : va_P D mj_cl (mj_w ad cA (mj_up S i x)) H1) (hD : va_D A (mj_w ad cA (mj_up S i x))) (hS : va_S A s.heap H1 locs1) : mj_H s nL mc ms D cA ad0 L0 A u v lv st' (mj_up S i x) ad H1 locs1 ls := by
  refine ⟨h.1, h.2.1, ⟨h.hcs.1, fun j hj => ?_, h.hcs.2.2⟩, hst, h.hrl, hP, hD, hS, h.hls⟩
  show mj_re S.1 (if j = i then x else S.2 j)
  by_cases q : j = i
  · rw [if_pos q]; exact hx
  · rw [if_neg q]; exact h.hcs.2.1 j hj
/-- a field that may be written: not final, of a type -/
def mj_G (own : String) (idx ci k : Nat) (ty : FieldType) : Prop := ∃ (C : String) (T : u_T) (N : Nat), mj_cl[ci]? = some (C, T, N) ∧ k < N ∧ Cond.fieldLink own idx (T k).1 (T k).2.1 (T k).2.2.1 ∈ mj_ws ∧ (T k).2.2.2 = false ∧ parseFieldDescriptor (T k).2.2.1 = some ty
/-- a final field, in its own constructor -/
def mj_GF (own : String) (idx ci k : Nat) (ty : FieldType) : Prop := ∃ (C : String) (T : u_T) (N : Nat), mj_cl[ci]? = some (C, T, N) ∧ k < N ∧ Cond.fieldLink own idx (T k).1 (T k).2.1 (T k).2.2.1 ∈ mj_ws ∧ (T k).2.2.2 = true ∧ (T k).1 = own ∧ parseFieldDescriptor (T k).2.2.1 = some ty
section MJH
variable {d mc ms nL : Nat} {own mn : String} {cc : ByteArray} {K : mj_KT} {u v pc : Nat} {lv st : List Value} {S : mj_S}
theorem ro_get (hK : mj_C d mc ms own mn cc nL K) {i ci k idx : Nat} {fs : List Value} {x : Value} (hf : mj_F own idx ci k) (hS : S.2 i = .inr (ci, fs)) (hv : fs[k]? = some x) (dg : decode cc pc = .ok (.getfield idx, 3)) (kk : K u v (pc + 3) lv (x :: st) S) : K u v pc lv (.ref i :: st) S := by
  obtain ⟨p, l, e, R, s, m, args, below, meth, c, D, cA, ad0, L0, A, Q, hx, hb, hml, hown, hts, hU, hA, hmn, hR, rfl⟩ := hK
  intro ad H locs ls h
  obtain ⟨C, T, N, hc, hk, hw⟩ := hf
  have hi : i ∈ S.1 := mj_rl_h h.hrs i rfl
  obtain ⟨q0, h1, h2⟩ := mj_w_at (ad := ad) (cA := cA) hi
  have h3 := h.hcs.2.1 i hi
  rw [hS] at h2 h3
  exact va_get (D := D) (v := mj_v ad x) hx hb hts (mj_cin hc) hown hU.1 h.hP q0 h2 hc k hk (hts _ hw) (fun _ z => z) (by rw [List.getElem?_map, hv]; rfl) dg (kk ad H locs ls (h.re fun a b => mj_rl_c (h3 x (List.mem_of_getElem? hv)) (mj_rl_t a)))
theorem ro_put (hK : mj_C d mc ms own mn cc nL K) {i ci k idx : Nat} {fs : List Value} {x : Value} {ty : FieldType} (hf : mj_G own idx ci k ty) (hS : S.2 i = .inr (ci, fs)) (hl : k < fs.length) (hn : ∀ ad, narrow ty (mj_v ad x) = mj_v ad x) (hfit : ∀ ad, fits ty (mj_v ad x) = true) (dg : decode cc pc = .ok (.putfield idx, 3)) (kk : K u v (pc + 3) lv st (mj_up S i (.inr (ci, fs.set k x)))) : K u v pc lv (x :: .ref i :: st) S := by
  obtain ⟨p, l, e, R, s, m, args, below, meth, c, D, cA, ad0, L0, A, Q, hx, hb, hml, hown, hts, hU, hA, hmn, hR, rfl⟩ := hK
  intro ad H locs ls h
  obtain ⟨C, T, N, hc, hk, hw, hfin, hp⟩ := hf
  obtain ⟨⟨ty0, hty⟩, hnm⟩ := mj_cty hc
  have hi : i ∈ S.1 := mj_rl_h (mj_rl_t h.hrs) i rfl
  obtain ⟨q0, h1, h2⟩ := mj_w_at (ad := ad) (cA := cA) hi
  have h3 := h.hcs.2.1 i hi
  rw [hS] at h2 h3
  refine va_put (D := D) hx hb hts (mj_cin hc) ty0 hty hnm hown hU.1 h.hP h.hD h.hS q0 h2 hc k hk (hts _ hw) (fun _ z => z) hfin hp (hn ad) (hfit ad) (by rw [List.length_map]; exact hl) dg (fun H1 locs1 hP hD hS1 => ?_)
  have e1 : (ad i, (Sum.inr (ci, (fs.map (mj_v ad)).set k (mj_v ad x)) : va_E)) = (ad i, mj_e ad cA (.inr (ci, fs.set k x))) := by
    show (ad i, (Sum.inr (ci, (fs.map (mj_v ad)).set k (mj_v ad x)) : va_E)) = (ad i, Sum.inr (ci, (fs.set k x).map (mj_v ad)))
    rw [List.map_set]
  rw [e1, mj_w_set h.hcs.1 h1] at hP hD
  exact kk ad H1 locs1 ls (h.up (fun w hw => (List.mem_or_eq_of_mem_set hw).elim (fun q => h3 w q) (fun q => by rw [q]; exact mj_rl_h h.hrs)) (mj_rl_t (mj_rl_t h.hrs)) hP hD hS1)
theorem ro_putF (hK : mj_C d mc ms own "<init>" cc nL K) {i ci k idx : Nat} {fs : List Value} {x : Value} {ty : FieldType} (hf : mj_GF own idx ci k ty) (hS : S.2 i = .inr (ci, fs)) (hl : k < fs.length) (hn : ∀ ad, narrow ty (mj_v ad x) = mj_v ad x) (hfit : ∀ ad, fits ty (mj_v ad x) = true) (dg : decode cc pc = .ok (.putfield idx, 3)) (kk : K u v (pc + 3) lv st (mj_up S i (.inr (ci, fs.set k x)))) : K u v pc lv (x :: .ref i :: st) S := by
  obtain ⟨p, l, e, R, s, m, args, below, meth, c, D, cA, ad0, L0, A, Q, hx, hb, hml, hown, hts, hU, hA, hmn, hR, rfl⟩ := hK
  intro ad H locs ls h
  obtain ⟨C, T, N, hc, hk, hw, hfin, hdecl, hp⟩ := hf
  obtain ⟨⟨ty0, hty⟩, hnm⟩ := mj_cty hc
  have hi : i ∈ S.1 := mj_rl_h (mj_rl_t h.hrs) i rfl
  obtain ⟨q0, h1, h2⟩ := mj_w_at (ad := ad) (cA := cA) hi
  have h3 := h.hcs.2.1 i hi
  rw [hS] at h2 h3
  refine va_putF (D := D) hx hb hts (mj_cin hc) ty0 hty hnm hown hU.1 h.hP h.hD h.hS q0 h2 hc k hk (hts _ hw) (fun _ z => z) hfin hmn hdecl hp (hn ad) (hfit ad) (by rw [List.length_map]; exact hl) dg (fun H1 locs1 hP hD hS1 => ?_)
  have e1 : (ad i, (Sum.inr (ci, (fs.map (mj_v ad)).set k (mj_v ad x)) : va_E)) = (ad i, mj_e ad cA (.inr (ci, fs.set k x))) := by
    show (ad i, (Sum.inr (ci, (fs.map (mj_v ad)).set k (mj_v ad x)) : va_E)) = (ad i, Sum.inr (ci, (fs.set k x).map (mj_v ad)))
    rw [List.map_set]
  rw [e1, mj_w_set h.hcs.1 h1] at hP hD
  exact kk ad H1 locs1 ls (h.up (fun w hw => (List.mem_or_eq_of_mem_set hw).elim (fun q => h3 w q) (fun q => by rw [q]; exact mj_rl_h h.hrs)) (mj_rl_t (mj_rl_t h.hrs)) hP hD hS1)
theorem ro_iald (hK : mj_C d mc ms own mn cc nL K) {i n : Nat} {f : Nat → Int32} {j : Int32} (hS : S.2 i = .inl (0, n, .inl f)) (hin : vp_in j n) (dg : decode cc pc = .ok (.iaload, 1)) (kk : K u v (pc + 1) lv (.int (f j.toNatClampNeg) :: st) S) : K u v pc lv (.int j :: .ref i :: st) S := by
  obtain ⟨p, l, e, R, s, m, args, below, meth, c, D, cA, ad0, L0, A, Q, hx, hb, hml, hown, hts, hU, hA, hmn, hR, rfl⟩ := hK
  intro ad H locs ls h
  have hi : i ∈ S.1 := mj_rl_h (mj_rl_t h.hrs) i rfl
  obtain ⟨q0, h1, h2⟩ := mj_w_at (ad := ad) (cA := cA) hi
  rw [hS] at h2
  exact va_iald (D := D) hx hb hU.1 h.hP q0 0 h2 rfl hin dg (kk ad H locs ls (h.re fun a b => mj_rl_c mj_rv_i (mj_rl_t (mj_rl_t a))))
theorem ro_bald (hK : mj_C d mc ms own mn cc nL K) {i n : Nat} {f : Nat → Int32} {j : Int32} (hS : S.2 i = .inl (1, n, .inl f)) (hin : vp_in j n) (dg : decode cc pc = .ok (.baload, 1)) (kk : K u v (pc + 1) lv (.int (f j.toNatClampNeg) :: st) S) : K u v pc lv (.int j :: .ref i :: st) S := by
  obtain ⟨p, l, e, R, s, m, args, below, meth, c, D, cA, ad0, L0, A, Q, hx, hb, hml, hown, hts, hU, hA, hmn, hR, rfl⟩ := hK
  intro ad H locs ls h
  have hi : i ∈ S.1 := mj_rl_h (mj_rl_t h.hrs) i rfl
  obtain ⟨q0, h1, h2⟩ := mj_w_at (ad := ad) (cA := cA) hi
  rw [hS] at h2
  exact va_bald (D := D) hx hb hU.1 h.hP q0 1 h2 rfl hin dg (kk ad H locs ls (h.re fun a b => mj_rl_c mj_rv_i (mj_rl_t (mj_rl_t a))))
theorem ro_iast (hK : mj_C d mc ms own mn cc nL K) {i n : Nat} {f : Nat → Int32} {j x : Int32} (hS : S.2 i = .inl (0, n, .inl f)) (hin : vp_in j n) (dg : decode cc pc = .ok (.iastore, 1)) (kk : K u v (pc + 1) lv st (mj_up S i (.inl (0, n, .inl (upd f j.toNatClampNeg x))))) : K u v pc lv (.int x :: .int j :: .ref i :: st) S := by
  obtain ⟨p, l, e, R, s, m, args, below, meth, c, D, cA, ad0, L0, A, Q, hx, hb, hml, hown, hts, hU, hA, hmn, hR, rfl⟩ := hK
  intro ad H locs ls h
  have hi : i ∈ S.1 := mj_rl_h (mj_rl_t (mj_rl_t h.hrs)) i rfl
  obtain ⟨q0, h1, h2⟩ := mj_w_at (ad := ad) (cA := cA) hi
  rw [hS] at h2
  refine va_iast (D := D) hx hb hU.1 h.hP h.hD h.hS q0 0 h2 rfl hin dg (fun H1 locs1 hP hD hS1 => ?_)
  have e1 : (ad i, (Sum.inl (cA 0, n, .inl (upd f j.toNatClampNeg x)) : va_E)) = (ad i, mj_e ad cA (.inl (0, n, .inl (upd f j.toNatClampNeg x)))) := rfl
  rw [e1, mj_w_set h.hcs.1 h1] at hP hD
  exact kk ad H1 locs1 ls (h.up (fun a b z => by cases z) (mj_rl_t (mj_rl_t (mj_rl_t h.hrs))) hP hD hS1)
theorem ro_bast (hK : mj_C d mc ms own mn cc nL K) {i n : Nat} {f : Nat → Int32} {j x : Int32} (hS : S.2 i = .inl (1, n, .inl f)) (hin : vp_in j n) (dg : decode cc pc = .ok (.bastore, 1)) (kk : K u v (pc + 1) lv st (mj_up S i (.inl (1, n, .inl (upd f j.toNatClampNeg (vp_nar .byte x)))))) : K u v pc lv (.int x :: .int j :: .ref i :: st) S := by
  obtain ⟨p, l, e, R, s, m, args, below, meth, c, D, cA, ad0, L0, A, Q, hx, hb, hml, hown, hts, hU, hA, hmn, hR, rfl⟩ := hK
  intro ad H locs ls h
  have hi : i ∈ S.1 := mj_rl_h (mj_rl_t (mj_rl_t h.hrs)) i rfl
  obtain ⟨q0, h1, h2⟩ := mj_w_at (ad := ad) (cA := cA) hi
  rw [hS] at h2
  refine va_bast (D := D) hx hb hU.1 h.hP h.hD h.hS q0 1 h2 rfl hin dg (fun H1 locs1 hP hD hS1 => ?_)
  have e1 : (ad i, (Sum.inl (cA 1, n, .inl (upd f j.toNatClampNeg (vp_nar .byte x))) : va_E)) = (ad i, mj_e ad cA (.inl (1, n, .inl (upd f j.toNatClampNeg (vp_nar .byte x))))) := rfl
  rw [e1, mj_w_set h.hcs.1 h1] at hP hD
  exact kk ad H1 locs1 ls (h.up (fun a b z => by cases z) (mj_rl_t (mj_rl_t (mj_rl_t h.hrs))) hP hD hS1)
theorem ro_alenI (hK : mj_C d mc ms own mn cc nL K) {i n : Nat} {f : Nat → Int32} (hS : S.2 i = .inl (0, n, .inl f)) (dg : decode cc pc = .ok (.arraylength, 1)) (kk : K u v (pc + 1) lv (.int (Int32.ofNat n) :: st) S) : K u v pc lv (.ref i :: st) S := by
  obtain ⟨p, l, e, R, s, m, args, below, meth, c, D, cA, ad0, L0, A, Q, hx, hb, hml, hown, hts, hU, hA, hmn, hR, rfl⟩ := hK
  intro ad H locs ls h
  have hi : i ∈ S.1 := mj_rl_h h.hrs i rfl
  obtain ⟨q0, h1, h2⟩ := mj_w_at (ad := ad) (cA := cA) hi
  rw [hS] at h2
  exact va_alen (D := D) (ty := .int) (x := (n, .inl f)) hx hb hU.1 h.hP q0 0 h2 rfl rfl dg (kk ad H locs ls (h.re fun a b => mj_rl_c mj_rv_i (mj_rl_t a)))
theorem ro_alenB (hK : mj_C d mc ms own mn cc nL K) {i n : Nat} {f : Nat → Int32} (hS : S.2 i = .inl (1, n, .inl f)) (dg : decode cc pc = .ok (.arraylength, 1)) (kk : K u v (pc + 1) lv (.int (Int32.ofNat n) :: st) S) : K u v pc lv (.ref i :: st) S := by
  obtain ⟨p, l, e, R, s, m, args, below, meth, c, D, cA, ad0, L0, A, Q, hx, hb, hml, hown, hts, hU, hA, hmn, hR, rfl⟩ := hK
  intro ad H locs ls h
  have hi : i ∈ S.1 := mj_rl_h h.hrs i rfl
  obtain ⟨q0, h1, h2⟩ := mj_w_at (ad := ad) (cA := cA) hi
  rw [hS] at h2
  exact va_alen (D := D) (ty := .byte) (x := (n, .inl f)) hx hb hU.1 h.hP q0 1 h2 rfl rfl dg (kk ad H locs ls (h.re fun a b => mj_rl_c mj_rv_i (mj_rl_t a)))
/-- an array of references (2: of int[], 3: of byte[], 4: of caves) -/
theorem ro_aald (hK : mj_C d mc ms own mn cc nL K) {i n t : Nat} {f : Nat → Option Nat} {j : Int32} (ht : t = 2 ∨ t = 3 ∨ t = 4) (hS : S.2 i = .inl (t, n, .inr (.inr (.inr (.inr f))))) (hin : vp_in j n) (dg : decode cc pc = .ok (.aaload, 1)) (kk : K u v (pc + 1) lv (va_rf (f j.toNatClampNeg) :: st) S) : K u v pc lv (.int j :: .ref i :: st) S := by
  obtain ⟨p, l, e, R, s, m, args, below, meth, c, D, cA, ad0, L0, A, Q, hx, hb, hml, hown, hts, hU, hA, hmn, hR, rfl⟩ := hK
  intro ad H locs ls h
  have hi : i ∈ S.1 := mj_rl_h (mj_rl_t h.hrs) i rfl
  obtain ⟨q0, h1, h2⟩ := mj_w_at (ad := ad) (cA := cA) hi
  have h3 := h.hcs.2.1 i hi
  rw [hS] at h2 h3
  have h2 : (mj_w ad cA S)[q0]? = some (ad i, .inl (cA t, n, .inr (.inr (.inr (.inr (fun q => (f q).map ad)))))) := h2
  have hlt : j.toNatClampNeg < n := Nat.not_le.mp fun q => hin (Or.inr q)
  have hrv : mj_rv S.1 (va_rf (f j.toNatClampNeg)) := by
    intro a ha
    cases hf : f j.toNatClampNeg with
    | none => rw [hf] at ha; cases ha
    | some b => rw [hf] at ha; cases ha; exact h3 n f rfl _ _ hf
  have k1 := kk ad H locs ls (h.re fun a b => mj_rl_c hrv (mj_rl_t (mj_rl_t a)))
  have e1 : mj_v ad (va_rf (f j.toNatClampNeg)) = va_rf ((f j.toNatClampNeg).map ad) := by cases f j.toNatClampNeg <;> rfl
  rw [List.map_cons, e1] at k1
  have go : ∀ (ty : FieldType), (mj_tys cA)[t]? = some (cA t, ty) → ty.isReference = true → W p l e R s m args below meth c H locs u v Q (F0 m pc ls (.int j :: .ref (ad i) :: st.map (mj_v ad))) := by
    intro ty hty hr
    exact W.aald (v := va_rf ((f j.toNatClampNeg).map ad)) (ty := ty) hx hb (h.hP q0 _ h2) ((hU.1.2 t _ hty).1 n (fun q => va_rf ((f q).map ad))) hr (fun q => by cases q) (by show ¬ (j < 0 ∨ (arrV _ _ _).slots.size ≤ _); rw [arrV_size]; exact hin) (by show (arrV _ _ _).slots[_]? = _; rw [arrV_read _ _ hlt]) rfl rfl dg k1
  rcases ht with rfl | rfl | rfl
  · exact go (.array .int) rfl rfl
  · exact go (.array .byte) rfl rfl
  · exact go (.object "LampCave$Cave") rfl rfl
/-- a cave into a place of an array of caves -/
theorem ro_aast (hK : mj_C d mc ms own mn cc nL K) {i n a : Nat} {f : Nat → Option Nat} {fs : List Value} {j : Int32} (hS : S.2 i = .inl (4, n, .inr (.inr (.inr (.inr f))))) (ha : S.2 a = .inr (1, fs)) (hin : vp_in j n) (dg : decode cc pc = .ok (.aastore, 1)) (kk : K u v (pc + 1) lv st (mj_up S i (.inl (4, n, .inr (.inr (.inr (.inr (va_up f j.toNatClampNeg (some a))))))))) : K u v pc lv (.ref a :: .int j :: .ref i :: st) S := by
  obtain ⟨p, l, e, R, s, m, args, below, meth, c, D, cA, ad0, L0, A, Q, hx, hb, hml, hown, hts, hU, hA, hmn, hR, rfl⟩ := hK
  intro ad H locs ls h
  have hi : i ∈ S.1 := mj_rl_h (mj_rl_t (mj_rl_t h.hrs)) i rfl
  have hia : a ∈ S.1 := mj_rl_h h.hrs a rfl
  obtain ⟨q0, h1, h2⟩ := mj_w_at (ad := ad) (cA := cA) hi
  obtain ⟨qk, g1, g2⟩ := mj_w_at (ad := ad) (cA := cA) hia
  have h3 := h.hcs.2.1 i hi
  rw [hS] at h2 h3
  rw [ha] at g2
  refine va_astq (D := D) (r := (RV_c, TV_c, 13)) hx hb hU.1 h.hP h.hD h.hS q0 4 qk 1 h2 rfl g2 rfl hin dg (fun H1 locs1 hP hD hS1 => ?_)
  have e1 : (ad i, (Sum.inl (cA 4, n, .inr (.inr (.inr (.inr (va_up (fun q => (f q).map ad) j.toNatClampNeg (some (ad a))))))) : va_E)) = (ad i, mj_e ad cA (.inl (4, n, .inr (.inr (.inr (.inr (va_up f j.toNatClampNeg (some a)))))))) := by
    show _ = (ad i, (Sum.inl (cA 4, n, .inr (.inr (.inr (.inr (fun q => (va_up f j.toNatClampNeg (some a) q).map ad))))) : va_E))
    have : (va_up (fun q => (f q).map ad) j.toNatClampNeg (some (ad a))) = (fun q => (va_up f j.toNatClampNeg (some a) q).map ad) := by
      funext q
      unfold va_up
      by_cases hq : q = j.toNatClampNeg
      · simp [hq]
      · simp [hq]
    rw [this]
  rw [e1, mj_w_set h.hcs.1 h1] at hP hD
  refine kk ad H1 locs1 ls (h.up ?_ (mj_rl_t (mj_rl_t (mj_rl_t h.hrs))) hP hD hS1)
  intro n2 f2 e2 j2 i2 hj2
  cases e2
  unfold va_up at hj2
  by_cases hq : j2 = j.toNatClampNeg
  · rw [if_pos hq] at hj2; cases hj2; exact hia
  · rw [if_neg hq] at hj2; exact h3 n f rfl j2 i2 hj2
/-- System.arraycopy of ints -/
theorem ro_copy (hK : mj_C d mc ms own mn cc nL K) {idx i0 i1 n0 n1 : Nat} {f g : Nat → Int32} {sp dp n : Int32} (hw : Cond.methodLink own idx arraycopyName ∈ mj_ws) (hd : 1 ≤ d) (hs : (st.map fun q => q.category).sum ≤ 8) (hS0 : S.2 i0 = .inl (0, n0, .inl f)) (hS1 : S.2 i1 = .inl (0, n1, .inl g)) (h1 : ¬ sp < 0) (h2 : ¬ dp < 0) (h3 : ¬ n < 0) (h4 : sp.toNatClampNeg + n.toNatClampNeg ≤ n0) (h5 : dp.toNatClampNeg + n.toNatClampNeg ≤ n1) (dg : decode cc pc = .ok (.invokestatic idx, 3)) (kk : K u v (pc + 3) lv st (mj_up S i1 (.inl (0, n1, .inl (va_cpy f g sp.toNatClampNeg dp.toNatClampNeg n.toNatClampNeg))))) : K u v pc lv (.int n :: .int dp :: .ref i1 :: .int sp :: .ref i0 :: st) S := by
  obtain ⟨p, l, e, R, s, m, args, below, meth, c, D, cA, ad0, L0, A, Q, hx, hb, hml, hown, hts, hU, hA, hmn, hR, rfl⟩ := hK
  intro ad H locs ls h
  have hi1 : i1 ∈ S.1 := mj_rl_h (mj_rl_t (mj_rl_t h.hrs)) i1 rfl
  have hi0 : i0 ∈ S.1 := mj_rl_h (mj_rl_t (mj_rl_t (mj_rl_t (mj_rl_t h.hrs)))) i0 rfl
  obtain ⟨q1, a1, a2⟩ := mj_w_at (ad := ad) (cA := cA) hi1
  obtain ⟨q0, b1, b2⟩ := mj_w_at (ad := ad) (cA := cA) hi0
  rw [hS1] at a2
  rw [hS0] at b2
  have hs2 : ((st.map (mj_v ad)).map fun q => q.category).sum ≤ 8 := by rw [mj_cats]; exact hs
  have hnw : nativeFrameWords "java/lang/System" "arraycopy" 5 = 7 := by decide +kernel
  refine va_copyi (D := D) (ty := .int) hx hb (hml.trans h.hls.1.symm) hown (hts _ hw) (hts _ mj_acw.1) (hts _ mj_acw.2.1) (hts _ mj_acw.2.2) hU.1 h.hP h.hD h.hS q0 q1 0 0 b2 a2 rfl rfl rfl h1 h2 h3 h4 h5 (fun _ _ => rfl) (by omega) (by rw [hnw]; omega) dg (fun H1 locs1 hP hD hS2 => ?_)
  have e1 : (ad i1, (Sum.inl (cA 0, n1, .inl (va_cpy f g sp.toNatClampNeg dp.toNatClampNeg n.toNatClampNeg)) : va_E)) = (ad i1, mj_e ad cA (.inl (0, n1, .inl (va_cpy f g sp.toNatClampNeg dp.toNatClampNeg n.toNatClampNeg)))) := rfl
  rw [e1, mj_w_set h.hcs.1 a1] at hP hD
  exact kk ad H1 locs1 ls (h.up (fun a b z => by cases z) (mj_rl_t (mj_rl_t (mj_rl_t (mj_rl_t (mj_rl_t h.hrs))))) hP hD hS2)
end MJH
