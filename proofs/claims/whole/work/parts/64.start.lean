-- ===== end of PART A; then your names; then what follows =====
/-! THE CLAIM OUT OF ONE WALK OF THE LAW'S BODY. Your part is whole_start (and what it stands on); all else here is the same for every law, but numbers. -/
def R_law : String := "LampCaveLaw"
def lw_P (b : Addr) (xs : List Int32) (args : Array Value) (s : State) : Prop := args = #[.ref b] ∧ s.IntsAt b xs ∧ xs.length ≤ 3072 ∧ (Jvm.Cond.and given_1 narrow_1).before args s = true
def lw_Q (_ : Array Value) (s : State) (o : Outcome) (t : State) : Prop := o = .returned (some (.int 1)) ∧ Framed s o t [] 600000 7302249
def lw_Z (below : List Frame) (a : Array Value) (s : State) : State → Prop := fun t => ∃ o, t.status = .running ∧ Ended t below o ∧ lw_Q a s o t
/-- the law's own end, with 1 on the stack, nothing written that was there before, its room as the claim has it -/
theorem lw_ret {p : Program} {l : Launch} {e : Env} {s : State} {m : MethodId} {below : List Frame} {meth : Method} {c : Code} {b : Nat} (hx : p.tables.exec = Jvm.exec) (hb : c.code = code) (hr : meth.sig.returnType = ret) (hlocks : meth.locks = false) {pc : Nat} {H : Heap} {ls : Array Slot} (hdg : decode code pc = .ok (.ireturn, 1)) : W p l e room_1 s m #[Value.ref b] below meth c H [] 600000 7302249 (lw_Z below #[Value.ref b] s) (F0 m pc ls [.int 1]) := by
  intro T hT X
  obtain ⟨fs, hret, hrun, hended, hW, hframe⟩ := X.leave (v := some (.int 1)) (hlocks := hlocks) (fun h => by rw [hr] at h; cases h)
  have hmeth' : T.vm.method? m = some meth := X.method'
  refine ⟨T.setFrames fs, ?_, .returned (some (.int 1)), hrun, hended, rfl, ⟨_, rfl⟩, hW, hframe⟩
  jvm_step X.here [X.here.top, hx, hb, hdg, hmeth', hr, ret, narrow_b1]
  (try refine ⟨rfl, ?_⟩); (try refine ⟨rfl, ?_⟩)
  first | (intro acts; rw [hret _ acts rfl rfl rfl]) | rw [hret _ _ rfl rfl rfl]
  exact Steps.refl _
/-- what holds at the law's entry: the machine, the code, the tables' words (any of lw_tbl by 'hts w (by decide +kernel)'), the script of L ints xs at the cell b, what the Statement gives of the start (any of its parts by flat_of_before) -/
def lw_At (p : Program) (s : State) (m : MethodId) (meth : Method) (c : Code) (b L : Nat) (xs : Nat → Int32) : Prop :=
  p.tables.exec = Jvm.exec ∧ c.code = code ∧ meth.sig.returnType = ret ∧ c.maxLocals = 4 ∧ s.vm.findClass R_law = some m.cls ∧ (∀ w ∈ lw_tbl, w.before #[Value.ref b] s = true) ∧ va_X b L xs s s.heap ∧ b < s.heap.size ∧ meth.locks = false ∧ (Jvm.Cond.and given_1 narrow_1).before #[Value.ref b] s = true

theorem lw_ctx {args : Array Value} {s : State} (hts : ∀ w ∈ lw_tbl, w.before args s = true) : ∃ (D : va_G) (cA : Nat → ClassId), mj_U D cA s := by
  obtain ⟨c0, i0, h0⟩ := u_known (C := RA_c) (T := TA_c) (N := 17) (n := 17) hts (fun w h => (mj_of (uA_in w h)).1) (hts _ (mj_of nwC_47.2.1).1)
  obtain ⟨c1, i1, h1⟩ := u_known (C := RV_c) (T := TV_c) (N := 13) (n := 13) hts (fun w h => (mj_of (uV_in w h)).1) (hts _ (mj_of nwC_26.2.1).1)
  obtain ⟨c2, i2, h2⟩ := u_known (C := RR_c) (T := TR_c) (N := 4) (n := 4) hts (fun w h => (mj_of (uR_in w h)).1) (hts _ (mj_of nwC_40.2.1).1)
  obtain ⟨c3, i3, h3⟩ := u_known (C := RS_c) (T := TS_c) (N := 6) (n := 6) hts (fun w h => (mj_of (uS_in w h)).1) (hts _ (mj_of nwC_54.2.1).1)
  obtain ⟨c4, i4, h4⟩ := u_known (C := RC_c) (T := TC_c) (N := 15) (n := 15) hts (fun w h => (mj_of (uC_in w h)).1) (hts _ (mj_of nwL_7.2.1).1)
  obtain ⟨c5, i5, h5⟩ := u_known (C := RM_c) (T := TM_c) (N := 45) (n := 45) hts (fun w h => (mj_of (uM_in w h)).1) (hts _ (mj_of nwL_10.2.1).1)
  obtain ⟨a0, k0, m0, g01, g02, g03⟩ := Cond.arrayClass_spec (hts (.arrayClass .int) (mj_of mj_acI).1)
  obtain ⟨a1, k1, m1, g11, g12, g13⟩ := Cond.arrayClass_spec (hts (.arrayClass .byte) (mj_of mj_acB).1)
  have hoI := hts (.arrayOver (.array .int)) (List.mem_of_getElem? (i := 100) (by decide +kernel))
  have hoB := hts (.arrayOver (.array .byte)) (List.mem_of_getElem? (i := 102) (by decide +kernel))
  have hoC := hts (.arrayOver (.object "LampCave$Cave")) (List.mem_of_getElem? (i := 180) (by decide +kernel))
  obtain ⟨m2, a2, k2, g21, -, g22, g23, g24⟩ := Jvm.Stand.arrayOver_specB hoI
  obtain ⟨m3, a3, k3, g31, -, g32, g33, g34⟩ := Jvm.Stand.arrayOver_specB hoB
  obtain ⟨m4, a4, k4, g41, -, g42, g43, g44⟩ := Cond.arrayOver_spec hoC
  refine ⟨(fun k => if k = 0 then c0 else if k = 1 then c1 else if k = 2 then c2 else if k = 3 then c3 else if k = 4 then c4 else c5, fun k => if k = 0 then i0 else if k = 1 then i1 else if k = 2 then i2 else if k = 3 then i3 else if k = 4 then i4 else i5), fun k => if k = 0 then a0 else if k = 1 then a1 else if k = 2 then a2 else if k = 3 then a3 else a4, ⟨?_, ?_⟩, ?_, va_AO.of hoC, hoI, hoB⟩
  · intro k q hq
    match k, hq with
    | 0, hq => cases hq; exact h0
    | 1, hq => cases hq; exact h1
    | 2, hq => cases hq; exact h2
    | 3, hq => cases hq; exact h3
    | 4, hq => cases hq; exact h4
    | 5, hq => cases hq; exact h5
    | k + 6, hq => simp at hq
  · intro k q hq
    match k, hq with
    | 0, hq => cases hq; exact ⟨fun n z => ⟨fun k h => (by cases h), k0, g02, m0, g03⟩, g01⟩
    | 1, hq => cases hq; exact ⟨fun n z => ⟨fun k h => (by cases h), k1, g12, m1, g13⟩, g11⟩
    | 2, hq => cases hq; exact ⟨fun n z => ⟨fun k h => (by cases h), k2, g22, m2, g23⟩, g24⟩
    | 3, hq => cases hq; exact ⟨fun n z => ⟨fun k h => (by cases h), k3, g32, m3, g33⟩, g34⟩
    | 4, hq => cases hq; exact ⟨fun n z => ⟨fun k h => (by cases h), k4, g42, m4, g43⟩, ⟨k4, m4, g42, g43, g41, g44⟩⟩
    | k + 5, hq => simp at hq
  · intro q hq
    simp only [mj_nest, List.mem_cons, List.not_mem_nil, or_false] at hq
    rcases hq with rfl | rfl | rfl | rfl | rfl | rfl
    · exact va_Nw.of rfl (hts _ (List.mem_of_getElem? (i := 105) (by decide +kernel)))
    · exact va_Nw.of rfl (hts _ (List.mem_of_getElem? (i := 183) (by decide +kernel)))
    · exact va_Nw.of rfl (hts _ (List.mem_of_getElem? (i := 202) (by decide +kernel)))
    · exact va_Nw.of rfl (hts _ (List.mem_of_getElem? (i := 270) (by decide +kernel)))
    · exact va_Nw.of rfl (hts _ (List.mem_of_getElem? (i := 505) (by decide +kernel)))
    · exact va_Nw.of rfl (hts _ (List.mem_of_getElem? (i := 488) (by decide +kernel)))
set_option maxHeartbeats 4000000 in
set_option maxRecDepth 100000 in
/-- THE LAW, from its entry, where the functions say so -/
theorem ws_pure {p : Program} {e : Env} {s : State} {m : MethodId} {below : List Frame} {meth : Method} {c : Code} (l : Launch) {b L : Nat} {xs : Nat → Int32} (C0 : lw_At p s m meth c b L xs) (hpure : ∃ (n : Nat) (s1 sM : mb_T), f_C_init n mz_0 = some s1 ∧ s1.2.2.2.2 = (fun _ => false) ∧ f_M_init n (mz_M s1) = some sM ∧ f_L_loop n L xs 600 0 sM = some ()) : W p l e room_1 s m #[Value.ref b] below meth c s.heap [] 0 0 (lw_Z below #[Value.ref b] s) (entryFrame m ([Value.ref b] : List Value).toArray 4) := by
  obtain ⟨hx, hb, hr, hml, hown, hts, hX, hbl, hlocks, hgv⟩ := id C0
  obtain ⟨D, cA, hU⟩ := lw_ctx hts
  obtain ⟨n, s1, sM, p1, p2, p3, p4⟩ := hpure
  obtain ⟨K, hKe⟩ : ∃ K, K = mj_K p l e room_1 s m #[Value.ref b] below meth c 4 600000 7302249 D cA (fun _ => b) [] (fun q => s.heap.size ≤ q) (lw_Z below #[Value.ref b] s) := ⟨_, rfl⟩
  have hX1 : mj_X 1000 600000 7302249 RL_c meth.name code 4 L xs K := ⟨p, l, e, room_1, s, m, #[Value.ref b], below, meth, c, D, cA, fun _ => b, [], fun q => s.heap.size ≤ q, lw_Z below #[Value.ref b] s, ⟨hx, hb, hml, hown, fun w hw => hts w (mj_of hw).1, hU, fun q h => h, rfl, ⟨Nat.le_of_ble_eq_true rfl, Nat.le_of_ble_eq_true rfl, Nat.le_of_ble_eq_true rfl, Nat.le_of_ble_eq_true rfl⟩, hKe⟩, hX, hbl, Nat.not_le.mpr hbl⟩
  have hret : ∀ (u v pc : Nat) (lv : List Value) (S : mj_S), decode code pc = .ok (.ireturn, 1) → K u v pc lv [.int 1] S := by
    intro u v pc lv S dg
    rw [hKe]
    intro ad H locs ls h
    refine va_forget (fun q hq => h.hS.2.2 q hq) ?_
    refine W.widen (k := 600000) (n := 7302249) h.1.1 h.1.2 ?_
    exact lw_ret hx hb hr hlocks dg
  have hK := hX1.C
  have key : K 0 0 0 [.float 0, .retAddr 0, .retAddr 0, .retAddr 0] [] mj_S0 := by
    refine ro_newO (i := 0) (ci := 4) (fs := [.null, .null, .null, .null, .null, .null, .null, .null, .null, .null, .null, .null, .null, .int 0, .int 0]) hK rfl nwL_7 tC_ok (by decide) (fun _ => rfl) (mj_nrefs rfl) (fun h => by cases h) (by decide) ⟨by decide, by decide⟩ dL_law_0 ?_
    refine ro_dup hK dL_law_3 rfl ?_
    refine ro_callI hK mC_init inC rfl (ti_C (dd := 997) p1) rfl (Nat.le_of_ble_eq_true rfl) ⟨by decide, by decide⟩ dL_law_4 rfl (fun r S2 q9 => ?_)
    obtain ⟨rfl, rfl⟩ := q9
    show K _ _ 7 _ [.ref 0] (mb_s s1)
    refine ro_astore_n hK dL_law_7 (by decide) ?_
    show K _ _ 8 [.float 0, .ref 0, .retAddr 0, .retAddr 0] [] (mb_s s1)
    refine ro_newO (i := 200) (ci := 5) (fs := [.int 0, .null, .int 0, .null, .null, .null, .null, .null, .int 0, .int 0, .int 0, .int 0, .null, .null, .null, .null, .null, .int 0, .int 0, .int 0, .int 0, .int 0, .int 0, .null, .int 0, .int 0, .null, .null, .null, .null, .null, .int 0, .null, .int 0, .null, .null, .null, .int 0, .int 0, .null, .null, .int 0, .int 0, .int 0, .long 0]) hK rfl nwL_10 tM_ok (by decide) (fun _ => rfl) (mj_nrefs rfl) (by show 200 ∉ mb_L s1; unfold mb_L; rw [p2]; decide) (by decide) ⟨by decide, by decide⟩ dL_law_8 ?_
    refine ro_dup hK dL_law_11 rfl ?_
    refine ro_callI hK mM_init inM rfl (ti_M (dd := 998) p2 p3) rfl (Nat.le_of_ble_eq_true rfl) ⟨by decide, by decide⟩ dL_law_12 rfl (fun r S2 q9 => ?_)
    obtain ⟨rfl, rfl⟩ := q9
    show K _ _ 15 _ [.ref 200] (mb_s sM)
    refine ro_astore_n hK dL_law_15 (by decide) ?_
    show K _ _ 16 [.float 0, .ref 0, .ref 200, .retAddr 0] [] (mb_s sM)
    refine ro_iconst (x := 0) hK (by decide) dL_law_16 ?_
    refine ro_istore_n hK dL_law_17 (by decide) ?_
    show K _ _ 18 [.float 0, .ref 0, .ref 200, .int 0] [] (mb_s sM)
    exact tl_L (dd := 981) hX1 hret 600 0 sM _ _ (by decide) (by decide) p4
  rw [hKe] at key
  have hl := lv_entry ([.ref b]) (n := 4) (Nat.le_of_ble_eq_true rfl)
  rw [lg_entry_eq]
  generalize (lg_sl ([.ref b]) ++ List.replicate (4 - (lg_sl ([.ref b])).length) Slot.unset).toArray = ls at hl ⊢
  have hl : lv_has ls 4 [(0, .ref b)] := hl
  refine key (fun _ => b) s.heap [] ls ⟨⟨Nat.zero_le _, Nat.zero_le _⟩, ⟨fun _ _ => rfl, fun i h => (by cases h)⟩, ⟨List.nodup_nil, fun i h => (by cases h), fun h => (by cases h)⟩, mj_rl_n, mj_rl_c mj_rv_f (mj_rl_c mj_rv_u (mj_rl_c mj_rv_u (mj_rl_c mj_rv_u mj_rl_n))), fun k q h => (by simp [mj_w, mj_S0] at h), ⟨fun i j p q h => (by simp [mj_w, mj_S0] at h), fun k q h => (by simp [mj_w, mj_S0] at h)⟩, va_S.rf, hl.1, hl.2.1, fun i x hi hu => ?_⟩
  match i, hi with
  | 0, hi => cases hi; exact hl.2.2 (0, .ref b) List.mem_cons_self
  | 1, hi => cases hi; cases hu
  | 2, hi => cases hi; cases hu
  | 3, hi => cases hi; cases hu
  | i + 4, hi => simp at hi
