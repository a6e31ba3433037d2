/-! contracts of the small machine, calls and ends -/
def mj_rm (d mc ms : Nat) : Room := { frames := d, cells := mc, slots := ms, locals := 60 * d }
/-- the words of a method: its own code, and all of the tables that last -/
def mj_wy (y : MethodName) (b : ByteArray) (mL : Nat) (ret : Option FieldType) : List Cond := Cond.code y b mL ret :: mj_ws
def mj_Pre (D : va_G) (cA : Nat → ClassId) (ad : Nat → Nat) (S : mj_S) (sz : Nat) (U : State) : Prop := U.heap.size = sz ∧ va_P D mj_cl (mj_w ad cA S) U.heap ∧ mj_U D cA U ∧ va_D (fun _ => True) (mj_w ad cA S)
/-- an answer is a number, or none -/
def mj_num (r : Option Value) : Prop := r = none ∨ (∃ a, r = some (.int a)) ∨ ∃ a, r = some (.long a)
def mj_Q (D : va_G) (cA : Nat → ClassId) (ad : Nat → Nat) (S : mj_S) (A : Nat → Prop) (Fin : Option Value → mj_S → Prop) : Array Value → State → Outcome → State → Prop := fun _ st oc t =>
  (∃ (r : Option Value) (S' : mj_S) (ad' : Nat → Nat), oc = .returned r ∧ Fin r S' ∧ mj_num r ∧ (∀ i, (i ∈ S.1 ∨ i ∉ S'.1) → ad' i = ad i) ∧ (∀ i ∈ S.1, i ∈ S'.1) ∧ mj_cs S' ∧ va_P D mj_cl (mj_w ad' cA S') t.heap ∧ va_D A (mj_w ad' cA S')) ∧ va_F A st t
/-- y, called with these values in the state S, returns, and Fin holds of its answer and of the state then -/
def mj_MC (d mc ms : Nat) (y : MethodName) (b : ByteArray) (mL : Nat) (ret : Option FieldType) (as : List Value) (S : mj_S) (Fin : Option Value → mj_S → Prop) : Prop :=
  ∀ (l : Launch) (D : va_G) (cA : Nat → ClassId) (ad : Nat → Nat) (sz : Nat), mj_cs S → mj_rl S.1 as → Met l y (mj_wy y b mL ret) (mj_rm d mc ms) (va_Pc (as.map (mj_v ad)) (mj_Pre D cA ad S sz)) (mj_Q D cA ad S (va_A (mj_w ad cA S) sz) Fin) mc ms (va_A (mj_w ad cA S) sz)
/-- a method's end, over K -/
def mj_R (cc : ByteArray) (ret : Option FieldType) (Fin : Option Value → mj_S → Prop) (K : mj_KT) : Prop :=
  (∀ (u v pc : Nat) (lv : List Value) (x : Int32) (ty : FieldType) (S : mj_S), ret = some ty → narrow ty (.int x) = .int x → decode cc pc = .ok (.ireturn, 1) → Fin (some (.int x)) S → K u v pc lv [.int x] S) ∧
  (∀ (u v pc : Nat) (lv : List Value) (x : Int64) (S : mj_S), ret = some .long → decode cc pc = .ok (.lreturn, 1) → Fin (some (.long x)) S → K u v pc lv [.long x] S) ∧
  (∀ (u v pc : Nat) (lv : List Value) (S : mj_S), ret = none → decode cc pc = .ok (.return_, 1) → Fin none S → K u v pc lv [] S)
theorem mj_U.moved {D : va_G} {cA : Nat → ClassId} {s U : State} (hW : s.WarmedH U.vm) (h : mj_U D cA s) : mj_U D cA U := ⟨va_K.moved hW.alike h.1, fun q hq => va_Nw.warmM hW (h.2.1 q hq), h.2.2.1.moved hW.alike, h.2.2.2.1.moved hW.alike, h.2.2.2.2.moved hW.alike⟩
theorem mj_U.same {D : va_G} {cA : Nat → ClassId} {s U : State} (e : s.vm = U.vm) (h : mj_U D cA s) : mj_U D cA U := ⟨va_K.moved (by rw [e]; exact Vm.Alike.refl _) h.1, fun q hq => va_Nw.same rfl e (h.2.1 q hq), h.2.2.1.moved (by rw [e]; exact Vm.Alike.refl _), h.2.2.2.1.moved (by rw [e]; exact Vm.Alike.refl _), h.2.2.2.2.moved (by rw [e]; exact Vm.Alike.refl _)⟩
theorem mj_blind {D : va_G} {cA : Nat → ClassId} {ad : Nat → Nat} {S : mj_S} {sz : Nat} {as : List Value} : FrameBlind (va_Pc as (mj_Pre D cA ad S sz)) := by
  intro a U g mk h
  obtain ⟨h1, h2, h3, h4, h5⟩ := h
  exact ⟨h1, h2, h3, mj_U.same (U := U.calling g mk a) rfl h4, h5⟩
theorem mj_good {y y2 : MethodName} {b b2 : ByteArray} {mL mL2 : Nat} {ret ret2 : Option FieldType} (h : Cond.code y2 b2 mL2 ret2 ∈ mj_ws) : GoodIn mj_ws (mj_wy y2 b2 mL2 ret2) := by
  intro w hw
  rcases List.mem_cons.mp hw with rfl | hw
  · exact ⟨h, good_of_word (mj_of h).2⟩
  · exact ⟨hw, good_of_word (mj_of hw).2⟩
/-- locals at the entry -/
def mj_in2 (as : List Value) : List Value := match as with
  | [] => []
  | .long a :: t => .long a :: .retAddr 0 :: mj_in2 t
  | x :: t => x :: mj_in2 t
theorem mj_lv_args {ad : Nat → Nat} : ∀ (as : List Value) (k i : Nat) (x : Value), (∀ w ∈ as, ∀ a, w ≠ .double a) → (∀ w ∈ as, mj_u w = false) → (mj_in2 as)[i]? = some x → mj_u x = false → (k + i, mj_v ad x) ∈ lv_args k (as.map (mj_v ad))
  | [], k, i, x, _, _, h, _ => by simp [mj_in2] at h
  | .long a :: t, k, i, x, hd, hz, h, hu => by
    show (k + i, mj_v ad x) ∈ (k, Value.long a) :: lv_args (k + 2) (t.map (mj_v ad))
    match i, h with
    | 0, h => cases h; exact List.mem_cons_self
    | 1, h => cases h; cases hu
    | i + 2, h =>
      have h : (mj_in2 t)[i]? = some x := h
      have := mj_lv_args (ad := ad) t (k + 2) i x (fun w hw => hd w (List.mem_cons_of_mem _ hw)) (fun w hw => hz w (List.mem_cons_of_mem _ hw)) h hu
      rw [show k + (i + 2) = k + 2 + i by omega]
      exact List.mem_cons_of_mem _ this
  | .int a :: t, k, i, x, hd, hz, h, hu => by
    show (k + i, mj_v ad x) ∈ (k, Value.int a) :: lv_args (k + 1) (t.map (mj_v ad))
    match i, h with
    | 0, h => cases h; exact List.mem_cons_self
    | i + 1, h =>
      have := mj_lv_args (ad := ad) t (k + 1) i x (fun w hw => hd w (List.mem_cons_of_mem _ hw)) (fun w hw => hz w (List.mem_cons_of_mem _ hw)) h hu
      rw [show k + (i + 1) = k + 1 + i by omega]
      exact List.mem_cons_of_mem _ this
  | .ref a :: t, k, i, x, hd, hz, h, hu => by
    show (k + i, mj_v ad x) ∈ (k, Value.ref (ad a)) :: lv_args (k + 1) (t.map (mj_v ad))
    match i, h with
    | 0, h => cases h; exact List.mem_cons_self
    | i + 1, h =>
      have := mj_lv_args (ad := ad) t (k + 1) i x (fun w hw => hd w (List.mem_cons_of_mem _ hw)) (fun w hw => hz w (List.mem_cons_of_mem _ hw)) h hu
      rw [show k + (i + 1) = k + 1 + i by omega]
      exact List.mem_cons_of_mem _ this
  | .null :: t, k, i, x, hd, hz, h, hu => by
    show (k + i, mj_v ad x) ∈ (k, Value.null) :: lv_args (k + 1) (t.map (mj_v ad))
    match i, h with
    | 0, h => cases h; exact List.mem_cons_self
    | i + 1, h =>
      have := mj_lv_args (ad := ad) t (k + 1) i x (fun w hw => hd w (List.mem_cons_of_mem _ hw)) (fun w hw => hz w (List.mem_cons_of_mem _ hw)) h hu
      rw [show k + (i + 1) = k + 1 + i by omega]
      exact List.mem_cons_of_mem _ this
  | .float a :: t, k, i, x, hd, hz, h, hu => by
    show (k + i, mj_v ad x) ∈ (k, Value.ref (ad 999)) :: lv_args (k + 1) (t.map (mj_v ad))
    match i, h with
    | 0, h => cases h; exact List.mem_cons_self
    | i + 1, h =>
      have := mj_lv_args (ad := ad) t (k + 1) i x (fun w hw => hd w (List.mem_cons_of_mem _ hw)) (fun w hw => hz w (List.mem_cons_of_mem _ hw)) h hu
      rw [show k + (i + 1) = k + 1 + i by omega]
      exact List.mem_cons_of_mem _ this
  | .double a :: t, k, i, x, hd, hz, h, hu => absurd rfl (hd _ List.mem_cons_self a)
  | .retAddr a :: t, k, i, x, hd, hz, h, hu => absurd (hz _ List.mem_cons_self) (fun q => by cases q)
theorem mj_in2_len {ad : Nat → Nat} : ∀ (as : List Value), (∀ w ∈ as, ∀ a, w ≠ .double a) → (lg_sl (as.map (mj_v ad))).length = (mj_in2 as).length
  | [], _ => rfl
  | .long a :: t, hd => by
    have ih := mj_in2_len (ad := ad) t (fun w hw => hd w (List.mem_cons_of_mem _ hw))
    have e : lg_sl ((Value.long a :: t).map (mj_v ad)) = [.val (.long a), .second] ++ lg_sl (t.map (mj_v ad)) := by
      show lg_sl (Value.long a :: t.map (mj_v ad)) = _
      simp [lg_sl, Value.category]
    rw [e, List.length_append, ih]
    simp only [mj_in2, List.length_cons, List.length_nil]
    omega
  | .int a :: t, hd => by
    have ih := mj_in2_len (ad := ad) t (fun w hw => hd w (List.mem_cons_of_mem _ hw))
    have e : lg_sl ((Value.int a :: t).map (mj_v ad)) = [.val (.int a)] ++ lg_sl (t.map (mj_v ad)) := by
      show lg_sl (Value.int a :: t.map (mj_v ad)) = _
      simp [lg_sl, Value.category]
    rw [e, List.length_append, ih]
    simp only [mj_in2, List.length_cons, List.length_nil]
    omega
  | .ref a :: t, hd => by
    have ih := mj_in2_len (ad := ad) t (fun w hw => hd w (List.mem_cons_of_mem _ hw))
    have e : lg_sl ((Value.ref a :: t).map (mj_v ad)) = [.val (.ref (ad a))] ++ lg_sl (t.map (mj_v ad)) := by
      show lg_sl (Value.ref (ad a) :: t.map (mj_v ad)) = _
      simp [lg_sl, Value.category]
    rw [e, List.length_append, ih]
    simp only [mj_in2, List.length_cons, List.length_nil]
    omega
  | .null :: t, hd => by
    have ih := mj_in2_len (ad := ad) t (fun w hw => hd w (List.mem_cons_of_mem _ hw))
    have e : lg_sl ((Value.null :: t).map (mj_v ad)) = [.val .null] ++ lg_sl (t.map (mj_v ad)) := by
      show lg_sl (Value.null :: t.map (mj_v ad)) = _
      simp [lg_sl, Value.category]
    rw [e, List.length_append, ih]
    simp only [mj_in2, List.length_cons, List.length_nil]
    omega
  | .float a :: t, hd => by
    have ih := mj_in2_len (ad := ad) t (fun w hw => hd w (List.mem_cons_of_mem _ hw))
    have e : lg_sl ((Value.float a :: t).map (mj_v ad)) = [.val (.ref (ad 999))] ++ lg_sl (t.map (mj_v ad)) := by
      show lg_sl (Value.ref (ad 999) :: t.map (mj_v ad)) = _
      simp [lg_sl, Value.category]
    rw [e, List.length_append, ih]
    simp only [mj_in2, List.length_cons, List.length_nil]
    omega
  | .retAddr a :: t, hd => by
    have ih := mj_in2_len (ad := ad) t (fun w hw => hd w (List.mem_cons_of_mem _ hw))
    have e : lg_sl ((Value.retAddr a :: t).map (mj_v ad)) = [.val (.retAddr a)] ++ lg_sl (t.map (mj_v ad)) := by
      show lg_sl (Value.retAddr a :: t.map (mj_v ad)) = _
      simp [lg_sl, Value.category]
    rw [e, List.length_append, ih]
    simp only [mj_in2, List.length_cons, List.length_nil]
    omega
  | .double a :: t, hd => absurd rfl (hd _ List.mem_cons_self a)
theorem mj_in2_rl {L : List Nat} : ∀ (as : List Value), mj_rl L as → mj_rl L (mj_in2 as)
  | [], h => h
  | .long a :: t, h => mj_rl_c mj_rv_j (mj_rl_c mj_rv_u (mj_in2_rl t (mj_rl_t h)))
  | .int a :: t, h => mj_rl_c mj_rv_i (mj_in2_rl t (mj_rl_t h))
  | .ref a :: t, h => mj_rl_c (mj_rl_h h) (mj_in2_rl t (mj_rl_t h))
  | .null :: t, h => mj_rl_c (mj_rl_h h) (mj_in2_rl t (mj_rl_t h))
  | .float a :: t, h => mj_rl_c (mj_rl_h h) (mj_in2_rl t (mj_rl_t h))
  | .double a :: t, h => mj_rl_c (mj_rl_h h) (mj_in2_rl t (mj_rl_t h))
  | .retAddr a :: t, h => mj_rl_c (mj_rl_h h) (mj_in2_rl t (mj_rl_t h))
/-- what stands in as: ints, longs, references -/
def mj_ok (as : List Value) : Bool := as.all (fun w => match w with | .int _ => true | .long _ => true | .ref _ => true | _ => false)
theorem mj_ok_spec {as : List Value} (h : mj_ok as = true) : (∀ w ∈ as, ∀ a, w ≠ .double a) ∧ ∀ w ∈ as, mj_u w = false := by
  have h1 := List.all_eq_true.mp h
  constructor
  · intro w hw a e
    have := h1 w hw
    rw [e] at this
    cases this
  · intro w hw
    have := h1 w hw
    cases w <;> first | rfl | cases this
theorem mj_mc {d mc ms : Nat} {y : MethodName} {b : ByteArray} {mL n : Nat} {ret : Option FieldType} {as lv : List Value} {S : mj_S} {Fin : Option Value → mj_S → Prop} (hM : mj_M y b mL n ret) (hlv : mj_in2 as ++ List.replicate (mL - (mj_in2 as).length) (.retAddr 0) = lv) (hok : mj_ok as = true) (hlen : (mj_in2 as).length ≤ mL)
    (h : ∀ K, mj_C d mc ms y.cls y.name b mL K → mj_R b ret Fin K → K 0 0 0 lv [] S) : mj_MC d mc ms y b mL ret as S Fin := by
  intro l D cA ad sz hcs hcl
  refine Met.ofW (cc := b) (maxL := mL) (ret := ret) hM.2.2.2.1 rfl ?_
  intro p e s m args below meth c s₁ B hml hv
  obtain ⟨rfl, hsz, hP, hU, hD0⟩ := hv
  have hx := B.exec
  have hb := B.bytes
  have hr := B.returns
  have hts0 := atoms_spec (ws := mj_wy y b mL ret) B.pre
  have hts : ∀ w ∈ mj_ws, w.before (as.map (mj_v ad)).toArray s = true := fun w hw => hts0 w (List.mem_cons_of_mem _ hw)
  have hown : s.vm.findClass y.cls = some m.cls := findClass_of_methodNamed B.named
  have hlocks := B.notSynchronized
  have hin : meth.name = y.name := (name_of_methodNamed B.named B.method).1
  subst hsz
  have hD := hD0.self (sz := s.heap.size)
  have hA : ∀ q : Nat, s.heap.size ≤ q → va_A (mj_w ad cA S) s.heap.size q := fun q h => Or.inr h
  have hl := lv_entry (as.map (mj_v ad)) (n := mL) (by rw [mj_in2_len as (mj_ok_spec hok).1]; exact hlen)
  rw [lg_entry_eq]
  generalize (lg_sl (as.map (mj_v ad)) ++ List.replicate (mL - (lg_sl (as.map (mj_v ad))).length) Slot.unset).toArray = ls at hl ⊢
  have key := h (mj_K p l e (headSpec (mj_wy y b mL ret) (mj_rm d mc ms)).room s m (as.map (mj_v ad)).toArray below meth c mL mc ms D cA ad S.1 (va_A (mj_w ad cA S) s.heap.size) (MQ below (mj_Q D cA ad S (va_A (mj_w ad cA S) s.heap.size) Fin) (as.map (mj_v ad)).toArray s mc ms (va_A (mj_w ad cA S) s.heap.size)))
    ⟨p, l, e, _, s, m, _, below, meth, c, D, cA, ad, S.1, _, _, hx, hb, hml, hown, hts, hU, hA, hin, ⟨Nat.le_refl _, Nat.le_refl _, Nat.le_refl _, Nat.le_refl _⟩, rfl⟩
    ⟨fun u v pc lv x ty S' e1 hn dg hf => by
      intro ad' H locs ls hh
      refine W.widen (k := mc) (n := ms) hh.1.1 hh.1.2 ?_
      exact W.zret hx hb (hr.trans e1) hn (fun t ht hW => ⟨⟨some (.int x), S', ad', rfl, hf, Or.inr (Or.inl ⟨x, rfl⟩), hh.2.1.1, hh.2.1.2, hh.hcs, by rw [ht]; exact hh.hP, hh.hD⟩, hh.hS.F ht⟩) hh.hS.2.2 dg,
     fun u v pc lv x S' e1 dg hf => by
      intro ad' H locs ls hh
      refine W.widen (k := mc) (n := ms) hh.1.1 hh.1.2 ?_
      exact W.lret hx hb (hr.trans e1) (fun t ht hW => ⟨⟨some (.long x), S', ad', rfl, hf, Or.inr (Or.inr ⟨x, rfl⟩), hh.2.1.1, hh.2.1.2, hh.hcs, by rw [ht]; exact hh.hP, hh.hD⟩, hh.hS.F ht⟩) hh.hS.2.2 dg,
     fun u v pc lv S' e1 dg hf => by
      intro ad' H locs ls hh
      refine W.widen (k := mc) (n := ms) hh.1.1 hh.1.2 ?_
      exact W.vret hx hb (hr.trans e1) (fun t ht hW => ⟨⟨none, S', ad', rfl, hf, Or.inl rfl, hh.2.1.1, hh.2.1.2, hh.hcs, by rw [ht]; exact hh.hP, hh.hD⟩, hh.hS.F ht⟩) hh.hS.2.2 dg⟩
  refine key ad s.heap [] ls ⟨⟨Nat.zero_le _, Nat.zero_le _⟩, ⟨fun _ _ => rfl, fun _ h => h⟩, hcs, mj_rl_n, ?_, hP, hD, va_S.rf, hl.1, hl.2.1, ?_⟩
  · rw [← hlv]
    refine mj_rl_app (mj_in2_rl as hcl) (fun w hw => ?_)
    rw [(List.mem_replicate.mp hw).2]
    exact mj_rv_u
  · intro i x hi hu
    rw [← hlv] at hi
    by_cases hq : i < (mj_in2 as).length
    · rw [List.getElem?_append_left hq] at hi
      have := hl.2.2 _ (mj_lv_args (ad := ad) as 0 i x (mj_ok_spec hok).1 (mj_ok_spec hok).2 hi hu)
      simpa using this
    · rw [List.getElem?_append_right (by omega)] at hi
      have := (List.mem_replicate.mp (List.mem_of_getElem? hi)).2
      rw [this] at hu
      cases hu
theorem mj_v_agree {ad ad' : Nat → Nat} {L : List Nat} (ha : ∀ i ∈ L, ad' i = ad i) (h9 : ad' 999 = ad 999) {x : Value} (hx : mj_rv L x) : mj_v ad' x = mj_v ad x := by
  cases x with
  | ref i => show Value.ref (ad' i) = Value.ref (ad i); rw [ha i (hx i rfl)]
  | float a => show Value.ref (ad' 999) = Value.ref (ad 999); rw [h9]
  | _ => rfl
section MJF
variable {p : Program} {l : Launch} {e : Env} {R : Room} {s : State} {m : MethodId} {args : Array Value} {below : List Frame} {meth : Method} {c : Code} {nL mc ms : Nat} {D : va_G} {cA : Nat → ClassId} {ad0 : Nat → Nat} {L0 : List Nat} {A : Nat → Prop} {Q : State → Prop} {u v pc : Nat} {lv st st0 : List Value} {S : mj_S} {ad : Nat → Nat} {H : Heap} {locs : List Loc} {ls : Array Slot}
theorem mj_fin {mc2 ms2 : Nat} {Fin : Option Value → mj_S → Prop} {a : Array Value} {sv : List Value} (hA : ∀ q, s.heap.size ≤ q → A q) (h : mj_H s nL mc ms D cA ad0 L0 A u v lv sv S ad H locs ls) (hst : mj_rl S.1 st) (hf : u + mc2 ≤ mc ∧ v + ms2 ≤ ms)
    (run : va_Run p l e R s m args below meth c H locs u v mc2 ms2 (F0 m pc ls st0) (st.map (mj_v ad)) (mj_Q D cA ad S (va_A (mj_w ad cA S) H.size) Fin a) (va_A (mj_w ad cA S) H.size))
    (kk : ∀ r S', Fin r S' → mj_K p l e R s m args below meth c nL mc ms D cA ad0 L0 A Q (u + mc2) (v + ms2) (pc + 3) lv (r.toList ++ st) S') : W p l e R s m args below meth c H locs u v Q (F0 m pc ls st0) := by
  intro T hT X
  obtain ⟨rr, st₀, t, T', L, h0, X', hL, e1, e2, ⟨⟨r0, S', ad', hv, hF, hnum, ha1, ha2, hcs', hP', hD'⟩, hz, hk⟩, stp⟩ := run T hT X
  cases hv
  rw [h0] at hz hk
  have hAA : ∀ q, va_A (mj_w ad cA S) H.size q → A q := by
    intro q hq
    rcases hq with ⟨k, x, hk2⟩ | hq
    · exact h.hD.2 k (q, x) hk2
    · exact hA q (Nat.le_trans h.hS.1 hq)
  have h9 : ad' 999 = ad 999 := ha1 999 (Or.inr hcs'.2.2)
  have hag : ∀ i ∈ S.1, ad' i = ad i := fun i hi => ha1 i (Or.inl hi)
  have hrl : mj_rl S'.1 (rr.toList ++ st) := by
    refine mj_rl_app (fun w hw => ?_) (mj_rl_mono hst ha2)
    rcases hnum with rfl | ⟨z, rfl⟩ | ⟨z, rfl⟩
    · cases hw
    · rw [show w = .int z by simpa using hw]; exact mj_rv_i
    · rw [show w = .long z by simpa using hw]; exact mj_rv_j
  have hmap : (rr.toList ++ st).map (mj_v ad') = rr.toList ++ st.map (mj_v ad) := by
    rw [List.map_append]
    congr 1
    · rcases hnum with rfl | ⟨z, rfl⟩ | ⟨z, rfl⟩ <;> rfl
    · exact List.map_congr_left fun w hw => mj_v_agree hag h9 (hst w hw)
  have k1 := kk rr S' hF ad' T'.heap (locs ++ L) ls ⟨hf, ⟨fun i hi => ?_, fun i hi => ha2 i (h.2.1.2 i hi)⟩, hcs', hrl, mj_rl_mono h.hrl ha2, by rw [e1]; exact hP', hD'.weaken (fun k q _ hq => hAA q.1 hq), ⟨Nat.le_trans h.hS.1 (by rw [e1]; exact hz), fun q h1 h2 => by rw [e1, hk q (Nat.lt_of_lt_of_le h1 h.hS.1) (fun z => h2 (hAA q z))]; exact h.hS.2.1 q h1 h2, fun q hq => by
      rcases List.mem_append.mp hq with hq | hq
      · exact h.hS.2.2 q hq
      · exact hAA _ (hL q hq)⟩, h.hls.1, h.hls.2.1, fun i x hi hu => by rw [mj_v_agree hag h9 (mj_rl_at h.hrl hi)]; exact h.hls.2.2 i x hi hu⟩ T' rfl X'
  · obtain ⟨t2, a1, b1⟩ := k1
    rw [hmap] at a1
    exact ⟨t2, stp t2 a1, b1⟩
  · rcases hi with hi | hi
    · rw [hag i (h.2.1.2 i hi)]; exact h.2.1.1 i (Or.inl hi)
    · have hi2 : i ∉ S.1 := fun z => hi (ha2 i z)
      rw [ha1 i (Or.inr hi)]; exact h.2.1.1 i (Or.inr hi2)
end MJF
section MJV
variable {d mc ms nL : Nat} {own mn : String} {cc : ByteArray} {K : mj_KT} {u v pc : Nat} {lv st as : List Value} {S : mj_S} {mc2 ms2 idx mL n : Nat} {y : MethodName} {b : ByteArray} {ret : Option FieldType} {Fin : Option Value → mj_S → Prop}
theorem ro_callV (hK : mj_C (d + 1) mc ms own mn cc nL K) {i ci : Nat} {fs : List Value} {T : u_T} {N : Nat} (hM : mj_M y b mL n ret) (hV : mj_V own idx y) (hC : mj_MC d mc2 ms2 y b mL ret (.ref i :: as) S Fin) (hcl : mj_cl[ci]? = some (y.cls, T, N)) (hi : S.2 i = .inr (ci, fs)) (hn : as.length = n) (hs : (st.map fun q => q.category).sum ≤ 8) (hf : u + mc2 ≤ mc ∧ v + ms2 ≤ ms) (dg : decode cc pc = .ok (.invokevirtual idx, 3)) {sv : List Value} (hsv : as.reverse ++ .ref i :: st = sv)
    (kk : ∀ r S', Fin r S' → K (u + mc2) (v + ms2) (pc + 3) lv (r.toList ++ st) S') : K u v pc lv sv S := by
  subst hsv
  obtain ⟨p, l, e, R, s, m, args, below, meth, c, D, cA, ad0, L0, A, Q, hx, hb, hml, hown, hts, hU, hA, hmn, hR, rfl⟩ := hK
  intro ad H locs ls h
  have hst : mj_rl S.1 st := fun w hw => h.hrs w (List.mem_append_right _ (List.mem_cons_of_mem _ hw))
  have hii : i ∈ S.1 := h.hrs (.ref i) (List.mem_append_right _ List.mem_cons_self) i rfl
  obtain ⟨q0, h1, h2⟩ := mj_w_at (ad := ad) (cA := cA) hii
  rw [hi] at h2
  have hs2 : ((st.map (mj_v ad)).map fun q => q.category).sum ≤ 8 := by rw [mj_cats]; exact hs
  have hfr := hR.1
  have hlo := hR.2.1
  have hmL := hM.2.2.2.2
  have hG : GoodIn mj_ws (wsV own idx y.cls y (mj_wy y b mL ret)) := by
    intro w hw
    rcases List.mem_append.mp hw with hw | hw
    · simp only [List.mem_cons, List.not_mem_nil, or_false] at hw
      rcases hw with rfl | rfl | rfl | rfl
      · exact ⟨hV.1, good_of_word (mj_of hV.1).2⟩
      · exact ⟨hV.2.1, good_of_word (mj_of hV.2.1).2⟩
      · exact ⟨hV.2.2, good_of_word (mj_of hV.2.2).2⟩
      · exact ⟨hM.2.1, good_of_word (mj_of hM.2.1).2⟩
    · exact mj_good (y := y) (b := b) (mL := mL) (ret := ret) hM.1 w hw
  refine mj_fin (st := st) (mc2 := mc2) (ms2 := ms2) (Fin := Fin) (a := (Value.ref (ad i) :: as.map (mj_v ad)).toArray) hA h hst hf ?_ kk
  exact va_runV (As := as.map (mj_v ad)) (b := ad i) ⟨hx, hb, hml, hown, hts⟩ (hC l D cA ad H.size h.hcs (fun w hw => h.hrs w ((List.mem_cons.mp hw).elim (fun q => by rw [q]; exact List.mem_append_right _ List.mem_cons_self) (fun q => List.mem_append_left _ (List.mem_reverse.mpr q)))))
    (cwV n hts hG rfl rfl rfl ⟨rfl, hM.2.2.1.1, hM.2.2.1.2.1, hM.2.2.1.2.2⟩ ⟨hfr, by show 8 + (mL + 11) + 60 * d ≤ R.locals; omega⟩)
    ⟨mj_blind, va_recv hU.1 h.hP hcl h2, fun U hU1 hW => ⟨rfl, by rw [hU1], by rw [hU1]; exact h.hP, mj_U.moved hW hU, h.hD.weaken (fun _ _ _ _ => trivial)⟩⟩
    rfl (by rw [List.length_map]; exact hn) h.hls.1 (by show (as.reverse ++ .ref i :: st).map (mj_v ad) = _; rw [List.map_append, List.map_reverse]; rfl) (lv_room hs2) dg ⟨Nat.le_trans hf.1 hR.2.2.1, Nat.le_trans hf.2 hR.2.2.2⟩
theorem ro_callS (hK : mj_C (d + 1) mc ms own mn cc nL K) (hM : mj_M y b mL n ret) (hV : mj_T own idx y) (hC : mj_MC d mc2 ms2 y b mL ret as S Fin) (hn : as.length = n) (hs : (st.map fun q => q.category).sum ≤ 8) (hf : u + mc2 ≤ mc ∧ v + ms2 ≤ ms) (dg : decode cc pc = .ok (.invokestatic idx, 3)) {sv : List Value} (hsv : as.reverse ++ st = sv)
    (kk : ∀ r S', Fin r S' → K (u + mc2) (v + ms2) (pc + 3) lv (r.toList ++ st) S') : K u v pc lv sv S := by
  subst hsv
  obtain ⟨p, l, e, R, s, m, args, below, meth, c, D, cA, ad0, L0, A, Q, hx, hb, hml, hown, hts, hU, hA, hmn, hR, rfl⟩ := hK
  intro ad H locs ls h
  have hst : mj_rl S.1 st := fun w hw => h.hrs w (List.mem_append_right _ hw)
  have hs2 : ((st.map (mj_v ad)).map fun q => q.category).sum ≤ 8 := by rw [mj_cats]; exact hs
  have hfr := hR.1
  have hlo := hR.2.1
  have hmL := hM.2.2.2.2
  refine mj_fin (st := st) (mc2 := mc2) (ms2 := ms2) (Fin := Fin) (a := (as.map (mj_v ad)).toArray) hA h hst hf ?_ kk
  exact va_runS (As := as.map (mj_v ad)) ⟨hx, hb, hml, hown, hts⟩ (hC l D cA ad H.size h.hcs (fun w hw => h.hrs w (List.mem_append_left _ (List.mem_reverse.mpr hw))))
    ⟨callB_of n hts (mj_good (y := y) (b := b) (mL := mL) (ret := ret) hM.1) rfl rfl rfl (hts _ hM.2.1) (hts _ hV.1) hM.2.2.1 ⟨hfr, by show 8 + (mL + 11) + 60 * d ≤ R.locals; omega⟩, hts _ hV.2⟩
    ⟨mj_blind, fun U hU1 hW => ⟨rfl, by rw [hU1], by rw [hU1]; exact h.hP, mj_U.moved hW hU, h.hD.weaken (fun _ _ _ _ => trivial)⟩⟩
    rfl (by rw [List.length_map]; exact hn) h.hls.1 (by show (as.reverse ++ st).map (mj_v ad) = _; rw [List.map_append, List.map_reverse]) (lv_room hs2) dg ⟨Nat.le_trans hf.1 hR.2.2.1, Nat.le_trans hf.2 hR.2.2.2⟩
/-- a private static method of a nest mate -/
theorem ro_callSN (hK : mj_C (d + 1) mc ms own mn cc nL K) {host : String} (hM : mj_M y b mL n ret) (hV : (own, idx, y, host) ∈ mj_nest) (hst1 : Cond.static y ∈ mj_ws) (hC : mj_MC d mc2 ms2 y b mL ret as S Fin) (hn : as.length = n) (hs : (st.map fun q => q.category).sum ≤ 8) (hf : u + mc2 ≤ mc ∧ v + ms2 ≤ ms) (dg : decode cc pc = .ok (.invokestatic idx, 3)) {sv : List Value} (hsv : as.reverse ++ st = sv)
    (kk : ∀ r S', Fin r S' → K (u + mc2) (v + ms2) (pc + 3) lv (r.toList ++ st) S') : K u v pc lv sv S := by
  subst hsv
  obtain ⟨p, l, e, R, s, m, args, below, meth, c, D, cA, ad0, L0, A, Q, hx, hb, hml, hown, hts, hU, hA, hmn, hR, rfl⟩ := hK
  intro ad H locs ls h
  have hst : mj_rl S.1 st := fun w hw => h.hrs w (List.mem_append_right _ hw)
  have hs2 : ((st.map (mj_v ad)).map fun q => q.category).sum ≤ 8 := by rw [mj_cats]; exact hs
  have hfr := hR.1
  have hlo := hR.2.1
  have hmL := hM.2.2.2.2
  refine mj_fin (st := st) (mc2 := mc2) (ms2 := ms2) (Fin := Fin) (a := (as.map (mj_v ad)).toArray) hA h hst hf ?_ kk
  exact va_runSN (As := as.map (mj_v ad)) (host := host) ⟨hx, hb, hml, hown, hts⟩ (hC l D cA ad H.size h.hcs (fun w hw => h.hrs w (List.mem_append_left _ (List.mem_reverse.mpr hw))))
    ⟨va_cnB n hts (mj_good (y := y) (b := b) (mL := mL) (ret := ret) hM.1) rfl rfl rfl (hU.2.1 _ hV) (hts _ hM.2.1) hM.2.2.1 ⟨hfr, by show 8 + (mL + 11) + 60 * d ≤ R.locals; omega⟩, hts _ hst1, trivial⟩
    ⟨mj_blind, fun U hU1 hW => ⟨rfl, by rw [hU1], by rw [hU1]; exact h.hP, mj_U.moved hW hU, h.hD.weaken (fun _ _ _ _ => trivial)⟩⟩
    rfl (by rw [List.length_map]; exact hn) h.hls.1 (by show (as.reverse ++ st).map (mj_v ad) = _; rw [List.map_append, List.map_reverse]) (lv_room hs2) dg ⟨Nat.le_trans hf.1 hR.2.2.1, Nat.le_trans hf.2 hR.2.2.2⟩
end MJV
