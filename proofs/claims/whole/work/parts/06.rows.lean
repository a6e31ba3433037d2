section MJA
variable {s : State} {nL mc ms : Nat} {D : va_G} {cA : Nat → ClassId} {ad0 : Nat → Nat} {L0 : List Nat} {A : Nat → Prop} {u v : Nat} {lv st : List Value} {S : mj_S} {ad : Nat → Nat} {H : Heap} {locs : List Loc} {ls : Array Slot}
theorem mj_H.hcs (h : mj_H s nL mc ms D cA ad0 L0 A u v lv st S ad H locs ls) : mj_cs S := h.2.2.1
theorem mj_H.hrs (h : mj_H s nL mc ms D cA ad0 L0 A u v lv st S ad H locs ls) : mj_rl S.1 st := h.2.2.2.1
theorem mj_H.hrl (h : mj_H s nL mc ms D cA ad0 L0 A u v lv st S ad H locs ls) : mj_rl S.1 lv := h.2.2.2.2.1
theorem mj_H.hP (h : mj_H s nL mc ms D cA ad0 L0 A u v lv st S ad H locs ls) : va_P D mj_cl (mj_w ad cA S) H := h.2.2.2.2.2.1
theorem mj_H.hD (h : mj_H s nL mc ms D cA ad0 L0 A u v lv st S ad H locs ls) : va_D A (mj_w ad cA S) := h.2.2.2.2.2.2.1
theorem mj_H.hS (h : mj_H s nL mc ms D cA ad0 L0 A u v lv st S ad H locs ls) : va_S A s.heap H locs := h.2.2.2.2.2.2.2.1
theorem mj_H.hls (h : mj_H s nL mc ms D cA ad0 L0 A u v lv st S ad H locs ls) : mj_ls ad ls nL lv := h.2.2.2.2.2.2.2.2
end MJA
theorem mj_cats (ad : Nat → Nat) (st : List Value) : ((st.map (mj_v ad)).map fun q => q.category).sum = (st.map fun q => q.category).sum := by
  rw [List.map_map]
  congr 1
  apply List.map_congr_left
  intro a _
  exact mj_cat ad a
section MJR
variable {d mc ms nL : Nat} {own mn : String} {cc : ByteArray} {K : mj_KT} {u v pc : Nat} {lv st : List Value} {S : mj_S}
theorem ro_iconst (hK : mj_C d mc ms own mn cc nL K) {n : Int} {x : Int32} (hv : Int32.ofInt n = x) (dg : decode cc pc = .ok (.iconst n, 1)) (k : K u v (pc + 1) lv (.int x :: st) S) : K u v pc lv st S := by
  obtain ⟨p, l, e, R, s, m, args, below, meth, c, D, cA, ad0, L0, A, Q, hx, hb, hml, hown, hts, hU, hA, hmn, hR, rfl⟩ := hK
  intro ad H locs ls h
  exact lv_iconst hx hb dg hv (k ad H locs ls (h.re fun a b => mj_rl_c mj_rv_i a))
theorem ro_bipush (hK : mj_C d mc ms own mn cc nL K) {n : Int} {x : Int32} (hv : (Int8.ofInt n).toInt32 = x) (dg : decode cc pc = .ok (.bipush n, 2)) (k : K u v (pc + 2) lv (.int x :: st) S) : K u v pc lv st S := by
  obtain ⟨p, l, e, R, s, m, args, below, meth, c, D, cA, ad0, L0, A, Q, hx, hb, hml, hown, hts, hU, hA, hmn, hR, rfl⟩ := hK
  intro ad H locs ls h
  exact lv_bipush hx hb dg hv (k ad H locs ls (h.re fun a b => mj_rl_c mj_rv_i a))
theorem ro_sipush (hK : mj_C d mc ms own mn cc nL K) {n : Int} {x : Int32} (hv : (Int16.ofInt n).toInt32 = x) (dg : decode cc pc = .ok (.sipush n, 3)) (k : K u v (pc + 3) lv (.int x :: st) S) : K u v pc lv st S := by
  obtain ⟨p, l, e, R, s, m, args, below, meth, c, D, cA, ad0, L0, A, Q, hx, hb, hml, hown, hts, hU, hA, hmn, hR, rfl⟩ := hK
  intro ad H locs ls h
  exact lv_sipush hx hb dg hv (k ad H locs ls (h.re fun a b => mj_rl_c mj_rv_i a))
theorem ro_lconst (hK : mj_C d mc ms own mn cc nL K) {n : Fin 2} {x : Int64} (hv : Int64.ofNat (n : Nat) = x) (dg : decode cc pc = .ok (.lconst n, 1)) (k : K u v (pc + 1) lv (.long x :: st) S) : K u v pc lv st S := by
  obtain ⟨p, l, e, R, s, m, args, below, meth, c, D, cA, ad0, L0, A, Q, hx, hb, hml, hown, hts, hU, hA, hmn, hR, rfl⟩ := hK
  intro ad H locs ls h
  exact lv_lconst hx hb dg hv (k ad H locs ls (h.re fun a b => mj_rl_c mj_rv_j a))
theorem ro_ldc (hK : mj_C d mc ms own mn cc nL K) {idx : Nat} {x : Int32} (hw : Cond.constant own idx x ∈ mj_ws) (dg : decode cc pc = .ok (.ldc idx, 2)) (k : K u v (pc + 2) lv (.int x :: st) S) : K u v pc lv st S := by
  obtain ⟨p, l, e, R, s, m, args, below, meth, c, D, cA, ad0, L0, A, Q, hx, hb, hml, hown, hts, hU, hA, hmn, hR, rfl⟩ := hK
  intro ad H locs ls h
  exact lv_ldc hx hb hown (hts _ hw) dg (k ad H locs ls (h.re fun a b => mj_rl_c mj_rv_i a))
theorem ro_ldcw (hK : mj_C d mc ms own mn cc nL K) {idx : Nat} {x : Int32} (hw : Cond.constant own idx x ∈ mj_ws) (dg : decode cc pc = .ok (.ldc_w idx, 3)) (k : K u v (pc + 3) lv (.int x :: st) S) : K u v pc lv st S := by
  obtain ⟨p, l, e, R, s, m, args, below, meth, c, D, cA, ad0, L0, A, Q, hx, hb, hml, hown, hts, hU, hA, hmn, hR, rfl⟩ := hK
  intro ad H locs ls h
  exact lv_ldcw hx hb hown (hts _ hw) dg (k ad H locs ls (h.re fun a b => mj_rl_c mj_rv_i a))
theorem ro_ldc2 (hK : mj_C d mc ms own mn cc nL K) {idx : Nat} {x : Int64} (hw : Cond.constantLong own idx x ∈ mj_ws) (dg : decode cc pc = .ok (.ldc2_w idx, 3)) (k : K u v (pc + 3) lv (.long x :: st) S) : K u v pc lv st S := by
  obtain ⟨p, l, e, R, s, m, args, below, meth, c, D, cA, ad0, L0, A, Q, hx, hb, hml, hown, hts, hU, hA, hmn, hR, rfl⟩ := hK
  intro ad H locs ls h
  exact lv_ldc2 hx hb hown (hts _ hw) dg (k ad H locs ls (h.re fun a b => mj_rl_c mj_rv_j a))
theorem ro_iload_n (hK : mj_C d mc ms own mn cc nL K) {kf : Fin 4} {x : Int32} (dg : decode cc pc = .ok (.iload_n kf, 1)) (hl : lv[(kf : Nat)]? = some (.int x)) (k : K u v (pc + 1) lv (.int x :: st) S) : K u v pc lv st S := by
  obtain ⟨p, l, e, R, s, m, args, below, meth, c, D, cA, ad0, L0, A, Q, hx, hb, hml, hown, hts, hU, hA, hmn, hR, rfl⟩ := hK
  intro ad H locs ls h
  exact lv_iload_n hx hb dg rfl (h.hls.2.2 _ _ hl rfl) (k ad H locs ls (h.re fun a b => mj_rl_c (mj_rl_at b hl) a))
theorem ro_iload (hK : mj_C d mc ms own mn cc nL K) {i : Nat} {x : Int32} (dg : decode cc pc = .ok (.iload i, 2)) (hl : lv[i]? = some (.int x)) (k : K u v (pc + 2) lv (.int x :: st) S) : K u v pc lv st S := by
  obtain ⟨p, l, e, R, s, m, args, below, meth, c, D, cA, ad0, L0, A, Q, hx, hb, hml, hown, hts, hU, hA, hmn, hR, rfl⟩ := hK
  intro ad H locs ls h
  exact lv_iload hx hb dg (h.hls.2.2 _ _ hl rfl) (k ad H locs ls (h.re fun a b => mj_rl_c (mj_rl_at b hl) a))
theorem ro_lload_n (hK : mj_C d mc ms own mn cc nL K) {kf : Fin 4} {x : Int64} (dg : decode cc pc = .ok (.lload_n kf, 1)) (hl : lv[(kf : Nat)]? = some (.long x)) (k : K u v (pc + 1) lv (.long x :: st) S) : K u v pc lv st S := by
  obtain ⟨p, l, e, R, s, m, args, below, meth, c, D, cA, ad0, L0, A, Q, hx, hb, hml, hown, hts, hU, hA, hmn, hR, rfl⟩ := hK
  intro ad H locs ls h
  exact lv_lload_n hx hb dg rfl (h.hls.2.2 _ _ hl rfl) (k ad H locs ls (h.re fun a b => mj_rl_c (mj_rl_at b hl) a))
theorem ro_lload (hK : mj_C d mc ms own mn cc nL K) {i : Nat} {x : Int64} (dg : decode cc pc = .ok (.lload i, 2)) (hl : lv[i]? = some (.long x)) (k : K u v (pc + 2) lv (.long x :: st) S) : K u v pc lv st S := by
  obtain ⟨p, l, e, R, s, m, args, below, meth, c, D, cA, ad0, L0, A, Q, hx, hb, hml, hown, hts, hU, hA, hmn, hR, rfl⟩ := hK
  intro ad H locs ls h
  exact lv_lload hx hb dg (h.hls.2.2 _ _ hl rfl) (k ad H locs ls (h.re fun a b => mj_rl_c (mj_rl_at b hl) a))
theorem ro_aload_n (hK : mj_C d mc ms own mn cc nL K) {kf : Fin 4} {x : Nat} (dg : decode cc pc = .ok (.aload_n kf, 1)) (hl : lv[(kf : Nat)]? = some (.ref x)) (k : K u v (pc + 1) lv (.ref x :: st) S) : K u v pc lv st S := by
  obtain ⟨p, l, e, R, s, m, args, below, meth, c, D, cA, ad0, L0, A, Q, hx, hb, hml, hown, hts, hU, hA, hmn, hR, rfl⟩ := hK
  intro ad H locs ls h
  exact lv_aload_n hx hb dg rfl (h.hls.2.2 _ _ hl rfl) (k ad H locs ls (h.re fun a b => mj_rl_c (mj_rl_at b hl) a))
theorem ro_aload (hK : mj_C d mc ms own mn cc nL K) {i : Nat} {x : Nat} (dg : decode cc pc = .ok (.aload i, 2)) (hl : lv[i]? = some (.ref x)) (k : K u v (pc + 2) lv (.ref x :: st) S) : K u v pc lv st S := by
  obtain ⟨p, l, e, R, s, m, args, below, meth, c, D, cA, ad0, L0, A, Q, hx, hb, hml, hown, hts, hU, hA, hmn, hR, rfl⟩ := hK
  intro ad H locs ls h
  exact lv_aload hx hb dg (h.hls.2.2 _ _ hl rfl) (k ad H locs ls (h.re fun a b => mj_rl_c (mj_rl_at b hl) a))
theorem ro_aload_nN (hK : mj_C d mc ms own mn cc nL K) {kf : Fin 4} (dg : decode cc pc = .ok (.aload_n kf, 1)) (hl : lv[(kf : Nat)]? = some .null) (k : K u v (pc + 1) lv (.null :: st) S) : K u v pc lv st S := by
  obtain ⟨p, l, e, R, s, m, args, below, meth, c, D, cA, ad0, L0, A, Q, hx, hb, hml, hown, hts, hU, hA, hmn, hR, rfl⟩ := hK
  intro ad H locs ls h
  exact lv_aload_nN hx hb dg rfl (h.hls.2.2 _ _ hl rfl) (k ad H locs ls (h.re fun a b => mj_rl_c mj_rv_n a))
theorem ro_aload_nF (hK : mj_C d mc ms own mn cc nL K) {kf : Fin 4} {w : UInt32} (dg : decode cc pc = .ok (.aload_n kf, 1)) (hl : lv[(kf : Nat)]? = some (.float w)) (k : K u v (pc + 1) lv (.float w :: st) S) : K u v pc lv st S := by
  obtain ⟨p, l, e, R, s, m, args, below, meth, c, D, cA, ad0, L0, A, Q, hx, hb, hml, hown, hts, hU, hA, hmn, hR, rfl⟩ := hK
  intro ad H locs ls h
  exact lv_aload_n hx hb dg rfl (h.hls.2.2 _ _ hl rfl) (k ad H locs ls (h.re fun a b => mj_rl_c mj_rv_f a))
theorem ro_istore_n (hK : mj_C d mc ms own mn cc nL K) {kf : Fin 4} {x : Int32} (dg : decode cc pc = .ok (.istore_n kf, 1)) (hn : (kf : Nat) < nL) (k : K u v (pc + 1) (mj_st1 lv (kf : Nat) (.int x)) st S) : K u v pc lv (.int x :: st) S := by
  obtain ⟨p, l, e, R, s, m, args, below, meth, c, D, cA, ad0, L0, A, Q, hx, hb, hml, hown, hts, hU, hA, hmn, hR, rfl⟩ := hK
  intro ad H locs ls h
  exact lv_istore_n hx hb dg rfl (mj_ls_has h.hls) hn rfl (fun ls' hl' => k ad H locs ls' (h.lo (fun a b => ⟨mj_rl_t a, mj_rl_st1 b (mj_rl_h a)⟩) (mj_ls_st1 rfl hl')))
theorem ro_istore (hK : mj_C d mc ms own mn cc nL K) {i : Nat} {x : Int32} (dg : decode cc pc = .ok (.istore i, 2)) (hn : i < nL) (k : K u v (pc + 2) (mj_st1 lv i (.int x)) st S) : K u v pc lv (.int x :: st) S := by
  obtain ⟨p, l, e, R, s, m, args, below, meth, c, D, cA, ad0, L0, A, Q, hx, hb, hml, hown, hts, hU, hA, hmn, hR, rfl⟩ := hK
  intro ad H locs ls h
  exact lv_istore hx hb dg (mj_ls_has h.hls) hn rfl (fun ls' hl' => k ad H locs ls' (h.lo (fun a b => ⟨mj_rl_t a, mj_rl_st1 b (mj_rl_h a)⟩) (mj_ls_st1 rfl hl')))
theorem ro_lstore_n (hK : mj_C d mc ms own mn cc nL K) {kf : Fin 4} {x : Int64} (dg : decode cc pc = .ok (.lstore_n kf, 1)) (hn : (kf : Nat) + 1 < nL) (k : K u v (pc + 1) (mj_st2 lv (kf : Nat) (.long x)) st S) : K u v pc lv (.long x :: st) S := by
  obtain ⟨p, l, e, R, s, m, args, below, meth, c, D, cA, ad0, L0, A, Q, hx, hb, hml, hown, hts, hU, hA, hmn, hR, rfl⟩ := hK
  intro ad H locs ls h
  exact lv_lstore_n hx hb dg rfl (mj_ls_has h.hls) hn rfl (fun ls' hl' => k ad H locs ls' (h.lo (fun a b => ⟨mj_rl_t a, mj_rl_st2 b (mj_rl_h a)⟩) (mj_ls_st2 rfl hl')))
theorem ro_lstore (hK : mj_C d mc ms own mn cc nL K) {i : Nat} {x : Int64} (dg : decode cc pc = .ok (.lstore i, 2)) (hn : i + 1 < nL) (k : K u v (pc + 2) (mj_st2 lv i (.long x)) st S) : K u v pc lv (.long x :: st) S := by
  obtain ⟨p, l, e, R, s, m, args, below, meth, c, D, cA, ad0, L0, A, Q, hx, hb, hml, hown, hts, hU, hA, hmn, hR, rfl⟩ := hK
  intro ad H locs ls h
  exact lv_lstore hx hb dg (mj_ls_has h.hls) hn rfl (fun ls' hl' => k ad H locs ls' (h.lo (fun a b => ⟨mj_rl_t a, mj_rl_st2 b (mj_rl_h a)⟩) (mj_ls_st2 rfl hl')))
theorem ro_astore_n (hK : mj_C d mc ms own mn cc nL K) {kf : Fin 4} {x : Nat} (dg : decode cc pc = .ok (.astore_n kf, 1)) (hn : (kf : Nat) < nL) (k : K u v (pc + 1) (mj_st1 lv (kf : Nat) (.ref x)) st S) : K u v pc lv (.ref x :: st) S := by
  obtain ⟨p, l, e, R, s, m, args, below, meth, c, D, cA, ad0, L0, A, Q, hx, hb, hml, hown, hts, hU, hA, hmn, hR, rfl⟩ := hK
  intro ad H locs ls h
  exact lv_astore_n hx hb dg rfl (mj_ls_has h.hls) hn rfl (fun ls' hl' => k ad H locs ls' (h.lo (fun a b => ⟨mj_rl_t a, mj_rl_st1 b (mj_rl_h a)⟩) (mj_ls_st1 rfl hl')))
theorem ro_astore (hK : mj_C d mc ms own mn cc nL K) {i : Nat} {x : Nat} (dg : decode cc pc = .ok (.astore i, 2)) (hn : i < nL) (k : K u v (pc + 2) (mj_st1 lv i (.ref x)) st S) : K u v pc lv (.ref x :: st) S := by
  obtain ⟨p, l, e, R, s, m, args, below, meth, c, D, cA, ad0, L0, A, Q, hx, hb, hml, hown, hts, hU, hA, hmn, hR, rfl⟩ := hK
  intro ad H locs ls h
  exact lv_astore hx hb dg (mj_ls_has h.hls) hn rfl (fun ls' hl' => k ad H locs ls' (h.lo (fun a b => ⟨mj_rl_t a, mj_rl_st1 b (mj_rl_h a)⟩) (mj_ls_st1 rfl hl')))
theorem ro_astore_nN (hK : mj_C d mc ms own mn cc nL K) {kf : Fin 4} (dg : decode cc pc = .ok (.astore_n kf, 1)) (hn : (kf : Nat) < nL) (k : K u v (pc + 1) (mj_st1 lv (kf : Nat) .null) st S) : K u v pc lv (.null :: st) S := by
  obtain ⟨p, l, e, R, s, m, args, below, meth, c, D, cA, ad0, L0, A, Q, hx, hb, hml, hown, hts, hU, hA, hmn, hR, rfl⟩ := hK
  intro ad H locs ls h
  exact lv_astore_nN hx hb dg rfl (mj_ls_has h.hls) hn rfl (fun ls' hl' => k ad H locs ls' (h.lo (fun a b => ⟨mj_rl_t a, mj_rl_st1 b mj_rv_n⟩) (mj_ls_st1 rfl hl')))
theorem ro_iinc (hK : mj_C d mc ms own mn cc nL K) {i : Nat} {n : Int} {x : Int32} (dg : decode cc pc = .ok (.iinc i n, 3)) (hl : lv[i]? = some (.int x)) (hn : i < nL) (k : K u v (pc + 3) (mj_st1 lv i (.int (x + Int32.ofInt n))) st S) : K u v pc lv st S := by
  obtain ⟨p, l, e, R, s, m, args, below, meth, c, D, cA, ad0, L0, A, Q, hx, hb, hml, hown, hts, hU, hA, hmn, hR, rfl⟩ := hK
  intro ad H locs ls h
  obtain ⟨q, hq⟩ := List.getElem?_of_mem (mj_as_mem (ad := ad) hl rfl)
  exact lv_iinc hx hb dg (mj_ls_has h.hls) hq rfl hn rfl (fun ls' hl' => k ad H locs ls' (h.lo (fun a b => ⟨a, mj_rl_st1 b mj_rv_i⟩) (mj_ls_st1 rfl hl')))
theorem ro_iadd (hK : mj_C d mc ms own mn cc nL K) {x y : Int32} (dg : decode cc pc = .ok (.iadd, 1)) (k : K u v (pc + 1) lv (.int (x + y) :: st) S) : K u v pc lv (.int y :: .int x :: st) S := by
  obtain ⟨p, l, e, R, s, m, args, below, meth, c, D, cA, ad0, L0, A, Q, hx, hb, hml, hown, hts, hU, hA, hmn, hR, rfl⟩ := hK
  intro ad H locs ls h
  exact lv_iadd hx hb dg (k ad H locs ls (h.re fun a b => mj_rl_c mj_rv_i (mj_rl_t (mj_rl_t a))))
theorem ro_isub (hK : mj_C d mc ms own mn cc nL K) {x y : Int32} (dg : decode cc pc = .ok (.isub, 1)) (k : K u v (pc + 1) lv (.int (x - y) :: st) S) : K u v pc lv (.int y :: .int x :: st) S := by
  obtain ⟨p, l, e, R, s, m, args, below, meth, c, D, cA, ad0, L0, A, Q, hx, hb, hml, hown, hts, hU, hA, hmn, hR, rfl⟩ := hK
  intro ad H locs ls h
  exact lv_isub hx hb dg (k ad H locs ls (h.re fun a b => mj_rl_c mj_rv_i (mj_rl_t (mj_rl_t a))))
theorem ro_imul (hK : mj_C d mc ms own mn cc nL K) {x y : Int32} (dg : decode cc pc = .ok (.imul, 1)) (k : K u v (pc + 1) lv (.int (x * y) :: st) S) : K u v pc lv (.int y :: .int x :: st) S := by
  obtain ⟨p, l, e, R, s, m, args, below, meth, c, D, cA, ad0, L0, A, Q, hx, hb, hml, hown, hts, hU, hA, hmn, hR, rfl⟩ := hK
  intro ad H locs ls h
  exact lv_imul hx hb dg (k ad H locs ls (h.re fun a b => mj_rl_c mj_rv_i (mj_rl_t (mj_rl_t a))))
theorem ro_iand (hK : mj_C d mc ms own mn cc nL K) {x y : Int32} (dg : decode cc pc = .ok (.iand, 1)) (k : K u v (pc + 1) lv (.int (x &&& y) :: st) S) : K u v pc lv (.int y :: .int x :: st) S := by
  obtain ⟨p, l, e, R, s, m, args, below, meth, c, D, cA, ad0, L0, A, Q, hx, hb, hml, hown, hts, hU, hA, hmn, hR, rfl⟩ := hK
  intro ad H locs ls h
  exact lv_iand hx hb dg (k ad H locs ls (h.re fun a b => mj_rl_c mj_rv_i (mj_rl_t (mj_rl_t a))))
theorem ro_ior (hK : mj_C d mc ms own mn cc nL K) {x y : Int32} (dg : decode cc pc = .ok (.ior, 1)) (k : K u v (pc + 1) lv (.int (x ||| y) :: st) S) : K u v pc lv (.int y :: .int x :: st) S := by
  obtain ⟨p, l, e, R, s, m, args, below, meth, c, D, cA, ad0, L0, A, Q, hx, hb, hml, hown, hts, hU, hA, hmn, hR, rfl⟩ := hK
  intro ad H locs ls h
  exact lv_ior hx hb dg (k ad H locs ls (h.re fun a b => mj_rl_c mj_rv_i (mj_rl_t (mj_rl_t a))))
theorem ro_ixor (hK : mj_C d mc ms own mn cc nL K) {x y : Int32} (dg : decode cc pc = .ok (.ixor, 1)) (k : K u v (pc + 1) lv (.int (x ^^^ y) :: st) S) : K u v pc lv (.int y :: .int x :: st) S := by
  obtain ⟨p, l, e, R, s, m, args, below, meth, c, D, cA, ad0, L0, A, Q, hx, hb, hml, hown, hts, hU, hA, hmn, hR, rfl⟩ := hK
  intro ad H locs ls h
  exact lv_ixor hx hb dg (k ad H locs ls (h.re fun a b => mj_rl_c mj_rv_i (mj_rl_t (mj_rl_t a))))
theorem ro_ishl (hK : mj_C d mc ms own mn cc nL K) {x y : Int32} (dg : decode cc pc = .ok (.ishl, 1)) (k : K u v (pc + 1) lv (.int (x <<< (y &&& 31)) :: st) S) : K u v pc lv (.int y :: .int x :: st) S := by
  obtain ⟨p, l, e, R, s, m, args, below, meth, c, D, cA, ad0, L0, A, Q, hx, hb, hml, hown, hts, hU, hA, hmn, hR, rfl⟩ := hK
  intro ad H locs ls h
  exact lv_ishl hx hb dg (k ad H locs ls (h.re fun a b => mj_rl_c mj_rv_i (mj_rl_t (mj_rl_t a))))
theorem ro_ishr (hK : mj_C d mc ms own mn cc nL K) {x y : Int32} (dg : decode cc pc = .ok (.ishr, 1)) (k : K u v (pc + 1) lv (.int (x >>> (y &&& 31)) :: st) S) : K u v pc lv (.int y :: .int x :: st) S := by
  obtain ⟨p, l, e, R, s, m, args, below, meth, c, D, cA, ad0, L0, A, Q, hx, hb, hml, hown, hts, hU, hA, hmn, hR, rfl⟩ := hK
  intro ad H locs ls h
  exact lv_ishr hx hb dg (k ad H locs ls (h.re fun a b => mj_rl_c mj_rv_i (mj_rl_t (mj_rl_t a))))
theorem ro_iushr (hK : mj_C d mc ms own mn cc nL K) {x y : Int32} (dg : decode cc pc = .ok (.iushr, 1)) (k : K u v (pc + 1) lv (.int ((x.toUInt32 >>> (y.toUInt32 &&& Int32.toUInt32 31)).toInt32) :: st) S) : K u v pc lv (.int y :: .int x :: st) S := by
  obtain ⟨p, l, e, R, s, m, args, below, meth, c, D, cA, ad0, L0, A, Q, hx, hb, hml, hown, hts, hU, hA, hmn, hR, rfl⟩ := hK
  intro ad H locs ls h
  exact lv_iushr hx hb dg rfl (k ad H locs ls (h.re fun a b => mj_rl_c mj_rv_i (mj_rl_t (mj_rl_t a))))
theorem ro_idiv (hK : mj_C d mc ms own mn cc nL K) {x y : Int32} (dg : decode cc pc = .ok (.idiv, 1)) (hne : ¬ y = 0) (k : K u v (pc + 1) lv (.int (x / y) :: st) S) : K u v pc lv (.int y :: .int x :: st) S := by
  obtain ⟨p, l, e, R, s, m, args, below, meth, c, D, cA, ad0, L0, A, Q, hx, hb, hml, hown, hts, hU, hA, hmn, hR, rfl⟩ := hK
  intro ad H locs ls h
  exact lv_idiv hx hb dg hne (k ad H locs ls (h.re fun a b => mj_rl_c mj_rv_i (mj_rl_t (mj_rl_t a))))
theorem ro_irem (hK : mj_C d mc ms own mn cc nL K) {x y : Int32} (dg : decode cc pc = .ok (.irem, 1)) (hne : ¬ y = 0) (k : K u v (pc + 1) lv (.int (x - x / y * y) :: st) S) : K u v pc lv (.int y :: .int x :: st) S := by
  obtain ⟨p, l, e, R, s, m, args, below, meth, c, D, cA, ad0, L0, A, Q, hx, hb, hml, hown, hts, hU, hA, hmn, hR, rfl⟩ := hK
  intro ad H locs ls h
  exact lv_irem hx hb dg hne (k ad H locs ls (h.re fun a b => mj_rl_c mj_rv_i (mj_rl_t (mj_rl_t a))))
theorem ro_ladd (hK : mj_C d mc ms own mn cc nL K) {x y : Int64} (dg : decode cc pc = .ok (.ladd, 1)) (k : K u v (pc + 1) lv (.long (x + y) :: st) S) : K u v pc lv (.long y :: .long x :: st) S := by
  obtain ⟨p, l, e, R, s, m, args, below, meth, c, D, cA, ad0, L0, A, Q, hx, hb, hml, hown, hts, hU, hA, hmn, hR, rfl⟩ := hK
  intro ad H locs ls h
  exact lv_ladd hx hb dg (k ad H locs ls (h.re fun a b => mj_rl_c mj_rv_j (mj_rl_t (mj_rl_t a))))
theorem ro_lmul (hK : mj_C d mc ms own mn cc nL K) {x y : Int64} (dg : decode cc pc = .ok (.lmul, 1)) (k : K u v (pc + 1) lv (.long (x * y) :: st) S) : K u v pc lv (.long y :: .long x :: st) S := by
  obtain ⟨p, l, e, R, s, m, args, below, meth, c, D, cA, ad0, L0, A, Q, hx, hb, hml, hown, hts, hU, hA, hmn, hR, rfl⟩ := hK
  intro ad H locs ls h
  exact lv_lmul hx hb dg (k ad H locs ls (h.re fun a b => mj_rl_c mj_rv_j (mj_rl_t (mj_rl_t a))))
theorem ro_ldiv (hK : mj_C d mc ms own mn cc nL K) {x y : Int64} (dg : decode cc pc = .ok (.ldiv, 1)) (hne : ¬ y = 0) (k : K u v (pc + 1) lv (.long (x / y) :: st) S) : K u v pc lv (.long y :: .long x :: st) S := by
  obtain ⟨p, l, e, R, s, m, args, below, meth, c, D, cA, ad0, L0, A, Q, hx, hb, hml, hown, hts, hU, hA, hmn, hR, rfl⟩ := hK
  intro ad H locs ls h
  exact lv_ldiv hx hb dg hne (k ad H locs ls (h.re fun a b => mj_rl_c mj_rv_j (mj_rl_t (mj_rl_t a))))
theorem ro_lrem (hK : mj_C d mc ms own mn cc nL K) {x y : Int64} (dg : decode cc pc = .ok (.lrem, 1)) (hne : ¬ y = 0) (k : K u v (pc + 1) lv (.long (x - x / y * y) :: st) S) : K u v pc lv (.long y :: .long x :: st) S := by
  obtain ⟨p, l, e, R, s, m, args, below, meth, c, D, cA, ad0, L0, A, Q, hx, hb, hml, hown, hts, hU, hA, hmn, hR, rfl⟩ := hK
  intro ad H locs ls h
  exact lv_lrem hx hb dg hne (k ad H locs ls (h.re fun a b => mj_rl_c mj_rv_j (mj_rl_t (mj_rl_t a))))
theorem ro_lcmp (hK : mj_C d mc ms own mn cc nL K) {x y : Int64} (dg : decode cc pc = .ok (.lcmp, 1)) (k : K u v (pc + 1) lv (.int (lg_cmp x y) :: st) S) : K u v pc lv (.long y :: .long x :: st) S := by
  obtain ⟨p, l, e, R, s, m, args, below, meth, c, D, cA, ad0, L0, A, Q, hx, hb, hml, hown, hts, hU, hA, hmn, hR, rfl⟩ := hK
  intro ad H locs ls h
  exact W.lcmp hx hb dg (k ad H locs ls (h.re fun a b => mj_rl_c mj_rv_i (mj_rl_t (mj_rl_t a))))
theorem ro_i2l (hK : mj_C d mc ms own mn cc nL K) {x : Int32} (dg : decode cc pc = .ok (.i2l, 1)) (k : K u v (pc + 1) lv (.long x.toInt64 :: st) S) : K u v pc lv (.int x :: st) S := by
  obtain ⟨p, l, e, R, s, m, args, below, meth, c, D, cA, ad0, L0, A, Q, hx, hb, hml, hown, hts, hU, hA, hmn, hR, rfl⟩ := hK
  intro ad H locs ls h
  exact lv_i2l hx hb dg rfl (k ad H locs ls (h.re fun a b => mj_rl_c mj_rv_j (mj_rl_t a)))
theorem ro_l2i (hK : mj_C d mc ms own mn cc nL K) {x : Int64} (dg : decode cc pc = .ok (.l2i, 1)) (k : K u v (pc + 1) lv (.int x.toInt32 :: st) S) : K u v pc lv (.long x :: st) S := by
  obtain ⟨p, l, e, R, s, m, args, below, meth, c, D, cA, ad0, L0, A, Q, hx, hb, hml, hown, hts, hU, hA, hmn, hR, rfl⟩ := hK
  intro ad H locs ls h
  exact lv_l2i hx hb dg rfl (k ad H locs ls (h.re fun a b => mj_rl_c mj_rv_i (mj_rl_t a)))
theorem ro_i2b (hK : mj_C d mc ms own mn cc nL K) {x : Int32} (dg : decode cc pc = .ok (.i2b, 1)) (k : K u v (pc + 1) lv (.int x.toInt8.toInt32 :: st) S) : K u v pc lv (.int x :: st) S := by
  obtain ⟨p, l, e, R, s, m, args, below, meth, c, D, cA, ad0, L0, A, Q, hx, hb, hml, hown, hts, hU, hA, hmn, hR, rfl⟩ := hK
  intro ad H locs ls h
  exact lv_i2b hx hb dg rfl (k ad H locs ls (h.re fun a b => mj_rl_c mj_rv_i (mj_rl_t a)))
theorem ro_dup (hK : mj_C d mc ms own mn cc nL K) {x : Value} (dg : decode cc pc = .ok (.dup, 1)) (hc : x.category = 1) (k : K u v (pc + 1) lv (x :: x :: st) S) : K u v pc lv (x :: st) S := by
  obtain ⟨p, l, e, R, s, m, args, below, meth, c, D, cA, ad0, L0, A, Q, hx, hb, hml, hown, hts, hU, hA, hmn, hR, rfl⟩ := hK
  intro ad H locs ls h
  exact lv_dup hx hb dg (by rw [mj_cat]; exact hc) (k ad H locs ls (h.re fun a b => mj_rl_c (mj_rl_h a) a))
theorem ro_dup2 (hK : mj_C d mc ms own mn cc nL K) {x y : Value} (dg : decode cc pc = .ok (.dup2, 1)) (hc : x.category = 1) (hd : y.category = 1) (k : K u v (pc + 1) lv (x :: y :: x :: y :: st) S) : K u v pc lv (x :: y :: st) S := by
  obtain ⟨p, l, e, R, s, m, args, below, meth, c, D, cA, ad0, L0, A, Q, hx, hb, hml, hown, hts, hU, hA, hmn, hR, rfl⟩ := hK
  intro ad H locs ls h
  exact lv_dup2_11 hx hb dg (by rw [mj_cat]; exact hc) (by rw [mj_cat]; exact hd) (k ad H locs ls (h.re fun a b => mj_rl_c (mj_rl_h a) (mj_rl_c (mj_rl_h (mj_rl_t a)) a)))
theorem ro_pop (hK : mj_C d mc ms own mn cc nL K) {x : Value} (dg : decode cc pc = .ok (.pop, 1)) (hc : x.category = 1) (k : K u v (pc + 1) lv st S) : K u v pc lv (x :: st) S := by
  obtain ⟨p, l, e, R, s, m, args, below, meth, c, D, cA, ad0, L0, A, Q, hx, hb, hml, hown, hts, hU, hA, hmn, hR, rfl⟩ := hK
  intro ad H locs ls h
  exact lv_pop hx hb dg (by rw [mj_cat]; exact hc) (k ad H locs ls (h.re fun a b => mj_rl_t a))
theorem ro_if_eq (hK : mj_C d mc ms own mn cc nL K) {x : Int32} {off : Int} {tgt : Nat} (dg : decode cc pc = .ok (.ifCond .eq off, 3)) (ht : (pc : Int) + off = (tgt : Int)) (kt : x = 0 → K u v tgt lv st S) (kf : ¬ x = 0 → K u v (pc + 3) lv st S) : K u v pc lv (.int x :: st) S := by
  obtain ⟨p, l, e, R, s, m, args, below, meth, c, D, cA, ad0, L0, A, Q, hx, hb, hml, hown, hts, hU, hA, hmn, hR, rfl⟩ := hK
  intro ad H locs ls h
  exact lv_if_eq hx hb dg ht (fun z => kt z ad H locs ls (h.re fun a b => mj_rl_t a)) (fun z => kf z ad H locs ls (h.re fun a b => mj_rl_t a))
theorem ro_icmp_eq (hK : mj_C d mc ms own mn cc nL K) {x y : Int32} {off : Int} {tgt : Nat} (dg : decode cc pc = .ok (.if_icmp .eq off, 3)) (ht : (pc : Int) + off = (tgt : Int)) (kt : x = y → K u v tgt lv st S) (kf : ¬ x = y → K u v (pc + 3) lv st S) : K u v pc lv (.int y :: .int x :: st) S := by
  obtain ⟨p, l, e, R, s, m, args, below, meth, c, D, cA, ad0, L0, A, Q, hx, hb, hml, hown, hts, hU, hA, hmn, hR, rfl⟩ := hK
  intro ad H locs ls h
  exact lv_icmp_eq hx hb dg ht (fun z => kt z ad H locs ls (h.re fun a b => mj_rl_t (mj_rl_t a))) (fun z => kf z ad H locs ls (h.re fun a b => mj_rl_t (mj_rl_t a)))
theorem ro_if_ne (hK : mj_C d mc ms own mn cc nL K) {x : Int32} {off : Int} {tgt : Nat} (dg : decode cc pc = .ok (.ifCond .ne off, 3)) (ht : (pc : Int) + off = (tgt : Int)) (kt : ¬ x = 0 → K u v tgt lv st S) (kf : x = 0 → K u v (pc + 3) lv st S) : K u v pc lv (.int x :: st) S := by
  obtain ⟨p, l, e, R, s, m, args, below, meth, c, D, cA, ad0, L0, A, Q, hx, hb, hml, hown, hts, hU, hA, hmn, hR, rfl⟩ := hK
  intro ad H locs ls h
  exact lv_if_ne hx hb dg ht (fun z => kt z ad H locs ls (h.re fun a b => mj_rl_t a)) (fun z => kf z ad H locs ls (h.re fun a b => mj_rl_t a))
theorem ro_icmp_ne (hK : mj_C d mc ms own mn cc nL K) {x y : Int32} {off : Int} {tgt : Nat} (dg : decode cc pc = .ok (.if_icmp .ne off, 3)) (ht : (pc : Int) + off = (tgt : Int)) (kt : ¬ x = y → K u v tgt lv st S) (kf : x = y → K u v (pc + 3) lv st S) : K u v pc lv (.int y :: .int x :: st) S := by
  obtain ⟨p, l, e, R, s, m, args, below, meth, c, D, cA, ad0, L0, A, Q, hx, hb, hml, hown, hts, hU, hA, hmn, hR, rfl⟩ := hK
  intro ad H locs ls h
  exact lv_icmp_ne hx hb dg ht (fun z => kt z ad H locs ls (h.re fun a b => mj_rl_t (mj_rl_t a))) (fun z => kf z ad H locs ls (h.re fun a b => mj_rl_t (mj_rl_t a)))
theorem ro_if_lt (hK : mj_C d mc ms own mn cc nL K) {x : Int32} {off : Int} {tgt : Nat} (dg : decode cc pc = .ok (.ifCond .lt off, 3)) (ht : (pc : Int) + off = (tgt : Int)) (kt : x < 0 → K u v tgt lv st S) (kf : ¬ x < 0 → K u v (pc + 3) lv st S) : K u v pc lv (.int x :: st) S := by
  obtain ⟨p, l, e, R, s, m, args, below, meth, c, D, cA, ad0, L0, A, Q, hx, hb, hml, hown, hts, hU, hA, hmn, hR, rfl⟩ := hK
  intro ad H locs ls h
  exact lv_if_lt hx hb dg ht (fun z => kt z ad H locs ls (h.re fun a b => mj_rl_t a)) (fun z => kf z ad H locs ls (h.re fun a b => mj_rl_t a))
theorem ro_icmp_lt (hK : mj_C d mc ms own mn cc nL K) {x y : Int32} {off : Int} {tgt : Nat} (dg : decode cc pc = .ok (.if_icmp .lt off, 3)) (ht : (pc : Int) + off = (tgt : Int)) (kt : x < y → K u v tgt lv st S) (kf : ¬ x < y → K u v (pc + 3) lv st S) : K u v pc lv (.int y :: .int x :: st) S := by
  obtain ⟨p, l, e, R, s, m, args, below, meth, c, D, cA, ad0, L0, A, Q, hx, hb, hml, hown, hts, hU, hA, hmn, hR, rfl⟩ := hK
  intro ad H locs ls h
  exact lv_icmp_lt hx hb dg ht (fun z => kt z ad H locs ls (h.re fun a b => mj_rl_t (mj_rl_t a))) (fun z => kf z ad H locs ls (h.re fun a b => mj_rl_t (mj_rl_t a)))
theorem ro_if_ge (hK : mj_C d mc ms own mn cc nL K) {x : Int32} {off : Int} {tgt : Nat} (dg : decode cc pc = .ok (.ifCond .ge off, 3)) (ht : (pc : Int) + off = (tgt : Int)) (kt : 0 ≤ x → K u v tgt lv st S) (kf : ¬ 0 ≤ x → K u v (pc + 3) lv st S) : K u v pc lv (.int x :: st) S := by
  obtain ⟨p, l, e, R, s, m, args, below, meth, c, D, cA, ad0, L0, A, Q, hx, hb, hml, hown, hts, hU, hA, hmn, hR, rfl⟩ := hK
  intro ad H locs ls h
  exact lv_if_ge hx hb dg ht (fun z => kt z ad H locs ls (h.re fun a b => mj_rl_t a)) (fun z => kf z ad H locs ls (h.re fun a b => mj_rl_t a))
theorem ro_icmp_ge (hK : mj_C d mc ms own mn cc nL K) {x y : Int32} {off : Int} {tgt : Nat} (dg : decode cc pc = .ok (.if_icmp .ge off, 3)) (ht : (pc : Int) + off = (tgt : Int)) (kt : y ≤ x → K u v tgt lv st S) (kf : ¬ y ≤ x → K u v (pc + 3) lv st S) : K u v pc lv (.int y :: .int x :: st) S := by
  obtain ⟨p, l, e, R, s, m, args, below, meth, c, D, cA, ad0, L0, A, Q, hx, hb, hml, hown, hts, hU, hA, hmn, hR, rfl⟩ := hK
  intro ad H locs ls h
  exact lv_icmp_ge hx hb dg ht (fun z => kt z ad H locs ls (h.re fun a b => mj_rl_t (mj_rl_t a))) (fun z => kf z ad H locs ls (h.re fun a b => mj_rl_t (mj_rl_t a)))
theorem ro_if_gt (hK : mj_C d mc ms own mn cc nL K) {x : Int32} {off : Int} {tgt : Nat} (dg : decode cc pc = .ok (.ifCond .gt off, 3)) (ht : (pc : Int) + off = (tgt : Int)) (kt : 0 < x → K u v tgt lv st S) (kf : ¬ 0 < x → K u v (pc + 3) lv st S) : K u v pc lv (.int x :: st) S := by
  obtain ⟨p, l, e, R, s, m, args, below, meth, c, D, cA, ad0, L0, A, Q, hx, hb, hml, hown, hts, hU, hA, hmn, hR, rfl⟩ := hK
  intro ad H locs ls h
  exact lv_if_gt hx hb dg ht (fun z => kt z ad H locs ls (h.re fun a b => mj_rl_t a)) (fun z => kf z ad H locs ls (h.re fun a b => mj_rl_t a))
theorem ro_icmp_gt (hK : mj_C d mc ms own mn cc nL K) {x y : Int32} {off : Int} {tgt : Nat} (dg : decode cc pc = .ok (.if_icmp .gt off, 3)) (ht : (pc : Int) + off = (tgt : Int)) (kt : y < x → K u v tgt lv st S) (kf : ¬ y < x → K u v (pc + 3) lv st S) : K u v pc lv (.int y :: .int x :: st) S := by
  obtain ⟨p, l, e, R, s, m, args, below, meth, c, D, cA, ad0, L0, A, Q, hx, hb, hml, hown, hts, hU, hA, hmn, hR, rfl⟩ := hK
  intro ad H locs ls h
  exact lv_icmp_gt hx hb dg ht (fun z => kt z ad H locs ls (h.re fun a b => mj_rl_t (mj_rl_t a))) (fun z => kf z ad H locs ls (h.re fun a b => mj_rl_t (mj_rl_t a)))
theorem ro_if_le (hK : mj_C d mc ms own mn cc nL K) {x : Int32} {off : Int} {tgt : Nat} (dg : decode cc pc = .ok (.ifCond .le off, 3)) (ht : (pc : Int) + off = (tgt : Int)) (kt : x ≤ 0 → K u v tgt lv st S) (kf : ¬ x ≤ 0 → K u v (pc + 3) lv st S) : K u v pc lv (.int x :: st) S := by
  obtain ⟨p, l, e, R, s, m, args, below, meth, c, D, cA, ad0, L0, A, Q, hx, hb, hml, hown, hts, hU, hA, hmn, hR, rfl⟩ := hK
  intro ad H locs ls h
  exact lv_if_le hx hb dg ht (fun z => kt z ad H locs ls (h.re fun a b => mj_rl_t a)) (fun z => kf z ad H locs ls (h.re fun a b => mj_rl_t a))
theorem ro_icmp_le (hK : mj_C d mc ms own mn cc nL K) {x y : Int32} {off : Int} {tgt : Nat} (dg : decode cc pc = .ok (.if_icmp .le off, 3)) (ht : (pc : Int) + off = (tgt : Int)) (kt : x ≤ y → K u v tgt lv st S) (kf : ¬ x ≤ y → K u v (pc + 3) lv st S) : K u v pc lv (.int y :: .int x :: st) S := by
  obtain ⟨p, l, e, R, s, m, args, below, meth, c, D, cA, ad0, L0, A, Q, hx, hb, hml, hown, hts, hU, hA, hmn, hR, rfl⟩ := hK
  intro ad H locs ls h
  exact lv_icmp_le hx hb dg ht (fun z => kt z ad H locs ls (h.re fun a b => mj_rl_t (mj_rl_t a))) (fun z => kf z ad H locs ls (h.re fun a b => mj_rl_t (mj_rl_t a)))
theorem ro_goto (hK : mj_C d mc ms own mn cc nL K) {off : Int} {tgt : Nat} (dg : decode cc pc = .ok (.goto off, 3)) (ht : (pc : Int) + off = (tgt : Int)) (k : K u v tgt lv st S) : K u v pc lv st S := by
  obtain ⟨p, l, e, R, s, m, args, below, meth, c, D, cA, ad0, L0, A, Q, hx, hb, hml, hown, hts, hU, hA, hmn, hR, rfl⟩ := hK
  intro ad H locs ls h
  exact lv_goto hx hb dg ht (k ad H locs ls h)
theorem ro_tabOut (hK : mj_C d mc ms own mn cc nL K) {dflt lo hi : Int} {offs : Array Int} {len : Nat} {x : Int32} {tgt : Nat} (dg : decode cc pc = .ok (.tableswitch dflt lo hi offs, len)) (hh : x.toInt < lo ∨ hi < x.toInt) (ht : (pc : Int) + dflt = (tgt : Int)) (k : K u v tgt lv st S) : K u v pc lv (.int x :: st) S := by
  obtain ⟨p, l, e, R, s, m, args, below, meth, c, D, cA, ad0, L0, A, Q, hx, hb, hml, hown, hts, hU, hA, hmn, hR, rfl⟩ := hK
  intro ad H locs ls h
  exact lv_tableOut hx hb dg hh ht (k ad H locs ls (h.re fun a b => mj_rl_t a))
theorem ro_tabIn (hK : mj_C d mc ms own mn cc nL K) {dflt lo hi : Int} {offs : Array Int} {len : Nat} {x : Int32} {off : Int} {tgt : Nat} (dg : decode cc pc = .ok (.tableswitch dflt lo hi offs, len)) (h1 : ¬ x.toInt < lo) (h2 : ¬ hi < x.toInt) (ho : offs[(x.toInt - lo).toNat]? = some off) (ht : (pc : Int) + off = (tgt : Int)) (k : K u v tgt lv st S) : K u v pc lv (.int x :: st) S := by
  obtain ⟨p, l, e, R, s, m, args, below, meth, c, D, cA, ad0, L0, A, Q, hx, hb, hml, hown, hts, hU, hA, hmn, hR, rfl⟩ := hK
  intro ad H locs ls h
  exact lv_tableIn hx hb dg h1 h2 ho ht (k ad H locs ls (h.re fun a b => mj_rl_t a))
theorem ro_lookup (hK : mj_C d mc ms own mn cc nL K) {dflt : Int} {ps : Array (Int × Int)} {len : Nat} {x : Int32} {off : Int} {tgt : Nat} (dg : decode cc pc = .ok (.lookupswitch dflt ps, len)) (hp : (ps.toList.zip (ps.toList.drop 1)).all (fun (a, next) => a.1 < next.1) = true) (ho : Op.lookupswitch.offset ps.toList dflt x.toInt = off) (ht : (pc : Int) + off = (tgt : Int)) (k : K u v tgt lv st S) : K u v pc lv (.int x :: st) S := by
  obtain ⟨p, l, e, R, s, m, args, below, meth, c, D, cA, ad0, L0, A, Q, hx, hb, hml, hown, hts, hU, hA, hmn, hR, rfl⟩ := hK
  intro ad H locs ls h
  exact lv_lookup hx hb dg hp ho ht (k ad H locs ls (h.re fun a b => mj_rl_t a))
theorem ro_ifnull (hK : mj_C d mc ms own mn cc nL K) {x : Nat} {off : Int} (dg : decode cc pc = .ok (.ifnull off, 3)) (k : K u v (pc + 3) lv st S) : K u v pc lv (.ref x :: st) S := by
  obtain ⟨p, l, e, R, s, m, args, below, meth, c, D, cA, ad0, L0, A, Q, hx, hb, hml, hown, hts, hU, hA, hmn, hR, rfl⟩ := hK
  intro ad H locs ls h
  exact lv_ifnull hx hb dg (k ad H locs ls (h.re fun a b => mj_rl_t a))
theorem ro_ifnonnull (hK : mj_C d mc ms own mn cc nL K) {x : Nat} {off : Int} {tgt : Nat} (dg : decode cc pc = .ok (.ifnonnull off, 3)) (ht : (pc : Int) + off = (tgt : Int)) (k : K u v tgt lv st S) : K u v pc lv (.ref x :: st) S := by
  obtain ⟨p, l, e, R, s, m, args, below, meth, c, D, cA, ad0, L0, A, Q, hx, hb, hml, hown, hts, hU, hA, hmn, hR, rfl⟩ := hK
  intro ad H locs ls h
  exact lv_ifnonnull hx hb dg ht (k ad H locs ls (h.re fun a b => mj_rl_t a))
theorem ro_ifnullN (hK : mj_C d mc ms own mn cc nL K)  {off : Int} {tgt : Nat} (dg : decode cc pc = .ok (.ifnull off, 3)) (ht : (pc : Int) + off = (tgt : Int)) (k : K u v tgt lv st S) : K u v pc lv (.null :: st) S := by
  obtain ⟨p, l, e, R, s, m, args, below, meth, c, D, cA, ad0, L0, A, Q, hx, hb, hml, hown, hts, hU, hA, hmn, hR, rfl⟩ := hK
  intro ad H locs ls h
  exact lv_ifnullN hx hb dg ht (k ad H locs ls (h.re fun a b => mj_rl_t a))
theorem ro_ifnonnullN (hK : mj_C d mc ms own mn cc nL K)  {off : Int} (dg : decode cc pc = .ok (.ifnonnull off, 3)) (k : K u v (pc + 3) lv st S) : K u v pc lv (.null :: st) S := by
  obtain ⟨p, l, e, R, s, m, args, below, meth, c, D, cA, ad0, L0, A, Q, hx, hb, hml, hown, hts, hU, hA, hmn, hR, rfl⟩ := hK
  intro ad H locs ls h
  exact lv_ifnonnullN hx hb dg (k ad H locs ls (h.re fun a b => mj_rl_t a))
theorem ro_mmax (hK : mj_C d mc ms own mn cc nL K) {idx : Nat} {x y : Int32} (hw : mj_T own idx Lib.Math.max.name) (hd : 1 ≤ d) (hs : (st.map fun q => q.category).sum ≤ 8) (dg : decode cc pc = .ok (.invokestatic idx, 3)) (k : K u v (pc + 3) lv (.int (if x < y then y else x) :: st) S) : K u v pc lv (.int y :: .int x :: st) S := by
  obtain ⟨p, l, e, R, s, m, args, below, meth, c, D, cA, ad0, L0, A, Q, hx, hb, hml, hown, hts, hU, hA, hmn, hR, rfl⟩ := hK
  intro ad H locs ls h
  have hs2 : ((st.map (mj_v ad)).map fun q => q.category).sum ≤ 8 := by rw [mj_cats]; exact hs
  exact va_mmax hx hb (hml.trans h.hls.1.symm) hown (hts _ hw.1) (hts _ hw.2) (hts _ mH_max.2) (hts _ mH_max.1) (by omega) (by omega) (Nat.le_trans h.1.1 hR.2.2.1) (Nat.le_trans h.1.2 hR.2.2.2) dg (k ad H locs ls (h.re fun a b => mj_rl_c mj_rv_i (mj_rl_t (mj_rl_t a))))
theorem ro_mmin (hK : mj_C d mc ms own mn cc nL K) {idx : Nat} {x y : Int32} (hw : mj_T own idx Lib.Math.min.name) (hd : 1 ≤ d) (hs : (st.map fun q => q.category).sum ≤ 8) (dg : decode cc pc = .ok (.invokestatic idx, 3)) (k : K u v (pc + 3) lv (.int (if y < x then y else x) :: st) S) : K u v pc lv (.int y :: .int x :: st) S := by
  obtain ⟨p, l, e, R, s, m, args, below, meth, c, D, cA, ad0, L0, A, Q, hx, hb, hml, hown, hts, hU, hA, hmn, hR, rfl⟩ := hK
  intro ad H locs ls h
  have hs2 : ((st.map (mj_v ad)).map fun q => q.category).sum ≤ 8 := by rw [mj_cats]; exact hs
  exact va_mmin hx hb (hml.trans h.hls.1.symm) hown (hts _ hw.1) (hts _ hw.2) (hts _ mH_min.2) (hts _ mH_min.1) (by omega) (by omega) (Nat.le_trans h.1.1 hR.2.2.1) (Nat.le_trans h.1.2 hR.2.2.2) dg (k ad H locs ls (h.re fun a b => mj_rl_c mj_rv_i (mj_rl_t (mj_rl_t a))))
end MJR
