/-! the small machine: cells by numbers ('ids'); ad says where each one lies -/
abbrev mj_E : Type := (Nat × vp_A) ⊕ (Nat × List Value)
abbrev mj_S : Type := List Nat × (Nat → mj_E)
/-- a value of the small machine, as the machine has it (a float stands for the law's script) -/
def mj_v (ad : Nat → Nat) (x : Value) : Value := match x with
  | .ref i => .ref (ad i)
  | .int a => .int a
  | .long a => .long a
  | .float _ => .ref (ad 999)
  | .double a => .double a
  | .null => .null
  | .retAddr a => .retAddr a
def mj_a (ad : Nat → Nat) (a : vp_A) : vp_A := match a with
  | (n, .inl f) => (n, .inl f)
  | (n, .inr (.inl f)) => (n, .inr (.inl f))
  | (n, .inr (.inr (.inl f))) => (n, .inr (.inr (.inl f)))
  | (n, .inr (.inr (.inr (.inl f)))) => (n, .inr (.inr (.inr (.inl f))))
  | (n, .inr (.inr (.inr (.inr f)))) => (n, .inr (.inr (.inr (.inr (fun j => (f j).map ad)))))
def mj_e (ad : Nat → Nat) (cA : Nat → ClassId) (x : mj_E) : va_E := match x with
  | .inl (t, a) => .inl (cA t, mj_a ad a)
  | .inr (c, fs) => .inr (c, fs.map (mj_v ad))
def mj_w (ad : Nat → Nat) (cA : Nat → ClassId) (S : mj_S) : va_W := S.1.map (fun i => (ad i, mj_e ad cA (S.2 i)))
def mj_up (S : mj_S) (i : Nat) (x : mj_E) : mj_S := (S.1, fun j => if j = i then x else S.2 j)
theorem mj_w_at {ad : Nat → Nat} {cA : Nat → ClassId} {S : mj_S} {i : Nat} (h : i ∈ S.1) : ∃ k : Nat, S.1[k]? = some i ∧ (mj_w ad cA S)[k]? = some (ad i, mj_e ad cA (S.2 i)) := by
  obtain ⟨k, hk⟩ := List.getElem?_of_mem h
  exact ⟨k, hk, by unfold mj_w; rw [List.getElem?_map, hk]; rfl⟩
theorem mj_nd {L : List Nat} (hn : L.Nodup) {i j x : Nat} (h1 : L[i]? = some x) (h2 : L[j]? = some x) : i = j := by
  have hl := (List.getElem?_eq_some_iff.mp h1).1
  exact (List.getElem?_inj hl hn).mp (h1.trans h2.symm)
theorem mj_w_set {ad : Nat → Nat} {cA : Nat → ClassId} {S : mj_S} {i k : Nat} {x : mj_E} (hn : S.1.Nodup) (hk : S.1[k]? = some i) : (mj_w ad cA S).set k (ad i, mj_e ad cA x) = mj_w ad cA (mj_up S i x) := by
  have hl := (List.getElem?_eq_some_iff.mp hk).1
  apply List.ext_getElem?
  intro j
  unfold mj_w mj_up
  by_cases hj : j = k
  · subst hj
    rw [List.getElem?_set_self (by rw [List.length_map]; exact hl), List.getElem?_map, hk]
    simp
  · rw [List.getElem?_set_ne (fun q => hj q.symm), List.getElem?_map, List.getElem?_map]
    cases hS : S.1[j]? with
    | none => rfl
    | some y =>
      have hy : y ≠ i := fun q => hj (mj_nd hn hS (by rw [hk, q]))
      simp [hy]
def mj_rv (L : List Nat) (x : Value) : Prop := ∀ i, x = .ref i → i ∈ L
def mj_re (L : List Nat) (x : mj_E) : Prop := match x with
  | .inl (_, a) => ∀ (n : Nat) (f : Nat → Option Nat), a = (n, .inr (.inr (.inr (.inr f)))) → ∀ j i, f j = some i → i ∈ L
  | .inr (_, fs) => ∀ w ∈ fs, mj_rv L w
def mj_cs (S : mj_S) : Prop := S.1.Nodup ∧ (∀ i ∈ S.1, mj_re S.1 (S.2 i)) ∧ 999 ∉ S.1
def mj_rl (L : List Nat) (st : List Value) : Prop := ∀ w ∈ st, mj_rv L w
section MJ1
variable {L : List Nat} {st : List Value} {x y : Value}
theorem mj_rl_t (h : mj_rl L (x :: st)) : mj_rl L st := fun w hw => h w (List.mem_cons_of_mem _ hw)
theorem mj_rl_h (h : mj_rl L (x :: st)) : mj_rv L x := h x List.mem_cons_self
theorem mj_rl_c (hx : mj_rv L x) (h : mj_rl L st) : mj_rl L (x :: st) := fun w hw => (List.mem_cons.mp hw).elim (fun q => by rw [q]; exact hx) (fun q => h w q)
theorem mj_rv_i {a : Int32} : mj_rv L (.int a) := fun i h => by cases h
theorem mj_rv_j {a : Int64} : mj_rv L (.long a) := fun i h => by cases h
theorem mj_rv_n : mj_rv L .null := fun i h => by cases h
theorem mj_rv_u {a : Nat} : mj_rv L (.retAddr a) := fun i h => by cases h
theorem mj_rv_f {a : UInt32} : mj_rv L (.float a) := fun i h => by cases h
theorem mj_rl_n : mj_rl L [] := fun w hw => by cases hw
theorem mj_rl_at {k : Nat} (h : mj_rl L st) (hk : st[k]? = some x) : mj_rv L x := h x (List.mem_of_getElem? hk)
theorem mj_rl_set {k : Nat} (h : mj_rl L st) (hx : mj_rv L x) : mj_rl L (st.set k x) := fun w hw => (List.mem_or_eq_of_mem_set hw).elim (fun q => h w q) (fun q => by rw [q]; exact hx)
theorem mj_rl_app {s2 : List Value} (h : mj_rl L st) (h2 : mj_rl L s2) : mj_rl L (st ++ s2) := fun w hw => (List.mem_append.mp hw).elim (h w) (h2 w)
theorem mj_rl_mono {L2 : List Nat} (h : mj_rl L st) (hL : ∀ i ∈ L, i ∈ L2) : mj_rl L2 st := fun w hw i hi => hL i (h w hw i hi)
end MJ1
/-! locals: a list by places; retAddr marks a place that is not known -/
def mj_u (x : Value) : Bool := match x with
  | .retAddr _ => true
  | _ => false
def mj_al (k : Nat) (lv : List Value) : List (Nat × Value) := match lv with
  | [] => []
  | x :: t => if mj_u x = true then mj_al (k + 1) t else (k, x) :: mj_al (k + 1) t
theorem mj_al_mem {i : Nat} {x : Value} : ∀ (lv : List Value) (k : Nat), (i, x) ∈ mj_al k lv ↔ ∃ j, i = k + j ∧ lv[j]? = some x ∧ mj_u x = false
  | [], k => by simp [mj_al]
  | y :: t, k => by
    unfold mj_al
    constructor
    · intro h
      by_cases hy : mj_u y = true
      · rw [if_pos hy] at h
        obtain ⟨j, h1, h2, h3⟩ := (mj_al_mem t (k + 1)).mp h
        exact ⟨j + 1, by omega, by simpa using h2, h3⟩
      · rw [if_neg hy] at h
        rcases List.mem_cons.mp h with h | h
        · cases h
          exact ⟨0, rfl, rfl, by simpa using hy⟩
        · obtain ⟨j, h1, h2, h3⟩ := (mj_al_mem t (k + 1)).mp h
          exact ⟨j + 1, by omega, by simpa using h2, h3⟩
    · rintro ⟨j, h1, h2, h3⟩
      cases j with
      | zero =>
        simp at h2
        subst h2
        rw [if_neg (by rw [h3]; decide), h1]
        exact List.mem_cons_self
      | succ j =>
        have h4 : (i, x) ∈ mj_al (k + 1) t := (mj_al_mem t (k + 1)).mpr ⟨j, by omega, by simpa using h2, h3⟩
        by_cases hy : mj_u y = true
        · rw [if_pos hy]; exact h4
        · rw [if_neg hy]; exact List.mem_cons_of_mem _ h4
def mj_ls (ad : Nat → Nat) (ls : Array Slot) (nL : Nat) (lv : List Value) : Prop := ls.size = nL ∧ lv_wf ls ∧ ∀ (i : Nat) (x : Value), lv[i]? = some x → mj_u x = false → ls[i]? = some (.val (mj_v ad x))
def mj_as (ad : Nat → Nat) (lv : List Value) : List (Nat × Value) := (mj_al 0 lv).map (fun q => (q.1, mj_v ad q.2))
theorem mj_as_mem {ad : Nat → Nat} {lv : List Value} {j : Nat} {w : Value} (h : lv[j]? = some w) (hu : mj_u w = false) : (j, mj_v ad w) ∈ mj_as ad lv := List.mem_map.mpr ⟨(j, w), (mj_al_mem lv 0).mpr ⟨j, by omega, h, hu⟩, rfl⟩
theorem mj_ls_has {ad : Nat → Nat} {ls : Array Slot} {nL : Nat} {lv : List Value} (h : mj_ls ad ls nL lv) : lv_has ls nL (mj_as ad lv) := by
  refine ⟨h.1, h.2.1, fun q hq => ?_⟩
  obtain ⟨⟨i, x⟩, hx, rfl⟩ := List.mem_map.mp hq
  obtain ⟨j, h1, h2, h3⟩ := (mj_al_mem lv 0).mp hx
  have : i = j := by omega
  subst this
  exact h.2.2 i x h2 h3
def mj_clr (lv : List Value) (i : Nat) : List Value := match i with
  | 0 => lv
  | j + 1 => match lv[j]? with
    | some (.long _) => lv.set j (.retAddr 0)
    | some (.double _) => lv.set j (.retAddr 0)
    | _ => lv
def mj_st1 (lv : List Value) (i : Nat) (x : Value) : List Value := (mj_clr lv i).set i x
def mj_st2 (lv : List Value) (i : Nat) (x : Value) : List Value := ((mj_clr lv i).set i x).set (i + 1) (.retAddr 0)
theorem mj_clr_at {lv : List Value} {i j : Nat} {w : Value} (h : (mj_clr lv i)[j]? = some w) (hu : mj_u w = false) : lv[j]? = some w ∧ ¬ (j + 1 = i ∧ w.category = 2) := by
  cases i with
  | zero => exact ⟨h, fun q => by omega⟩
  | succ i =>
    unfold mj_clr at h
    dsimp only at h
    have key : ∀ (hh : (lv.set i (.retAddr 0))[j]? = some w), lv[j]? = some w ∧ ¬ (j + 1 = i + 1 ∧ w.category = 2) := by
      intro hh
      by_cases hij : i = j
      · subst hij
        by_cases hl : i < lv.length
        · rw [List.getElem?_set_self hl] at hh
          cases hh
          cases hu
        · rw [List.getElem?_eq_none (by simpa using hl)] at hh
          cases hh
      · rw [List.getElem?_set_ne hij] at hh
        exact ⟨hh, fun q => hij (by omega)⟩
    split at h
    · exact key h
    · exact key h
    · next h1 h2 =>
      refine ⟨h, fun q => ?_⟩
      have hij : j = i := by omega
      subst hij
      cases w with
      | long a => exact h1 a h
      | double a => exact h2 a h
      | _ => cases q.2
theorem mj_st1_at {lv : List Value} {i j : Nat} {x w : Value} (h : (mj_st1 lv i x)[j]? = some w) (hu : mj_u w = false) : (j = i ∧ w = x) ∨ (j ≠ i ∧ lv[j]? = some w ∧ ¬ (j + 1 = i ∧ w.category = 2)) := by
  unfold mj_st1 at h
  by_cases hij : i = j
  · subst hij
    by_cases hl : i < (mj_clr lv i).length
    · rw [List.getElem?_set_self hl] at h
      cases h
      exact Or.inl ⟨rfl, rfl⟩
    · rw [List.getElem?_eq_none (by simpa using hl)] at h
      cases h
  · rw [List.getElem?_set_ne hij] at h
    exact Or.inr ⟨fun q => hij q.symm, mj_clr_at h hu⟩
theorem mj_st2_at {lv : List Value} {i j : Nat} {x w : Value} (h : (mj_st2 lv i x)[j]? = some w) (hu : mj_u w = false) : (j = i ∧ w = x) ∨ (j ≠ i ∧ j ≠ i + 1 ∧ lv[j]? = some w ∧ ¬ (j + 1 = i ∧ w.category = 2)) := by
  unfold mj_st2 at h
  by_cases hij : i + 1 = j
  · subst hij
    by_cases hl : i + 1 < ((mj_clr lv i).set i x).length
    · rw [List.getElem?_set_self hl] at h
      cases h
      cases hu
    · rw [List.getElem?_eq_none (by simpa using hl)] at h
      cases h
  · rw [List.getElem?_set_ne hij] at h
    rcases mj_st1_at (lv := lv) (i := i) (x := x) h hu with q | q
    · exact Or.inl q
    · exact Or.inr ⟨q.1, fun z => hij z.symm, q.2⟩
theorem mj_cat (ad : Nat → Nat) (w : Value) : (mj_v ad w).category = w.category := by cases w <;> rfl
theorem mj_ls_st1 {ad : Nat → Nat} {ls' : Array Slot} {nL i : Nat} {lv : List Value} {x y : Value} (e : mj_v ad x = y) (h : lv_has ls' nL ((i, y) :: (mj_as ad lv).filter (fun q => !(q.1 == i) && !(q.1 + 1 == i && q.2.category == 2)))) : mj_ls ad ls' nL (mj_st1 lv i x) := by
  subst e
  refine ⟨h.1, h.2.1, fun j w hj hu => ?_⟩
  rcases mj_st1_at hj hu with ⟨rfl, rfl⟩ | ⟨h1, h2, h3⟩
  · exact h.2.2 _ List.mem_cons_self
  · refine h.2.2 (j, mj_v ad w) (List.mem_cons_of_mem _ (List.mem_filter.mpr ⟨mj_as_mem h2 hu, ?_⟩))
    simp only [mj_cat]
    simp only [Bool.and_eq_true, Bool.not_eq_true', beq_eq_false_iff_ne, Bool.and_eq_false_iff]
    refine ⟨h1, ?_⟩
    by_cases q : j + 1 = i
    · exact Or.inr (fun z => h3 ⟨q, z⟩)
    · exact Or.inl q
theorem mj_ls_st2 {ad : Nat → Nat} {ls' : Array Slot} {nL i : Nat} {lv : List Value} {x y : Value} (e : mj_v ad x = y) (h : lv_has ls' nL ((i, y) :: (mj_as ad lv).filter (fun q => !(q.1 == i) && (!(q.1 == i + 1) && !(q.1 + 1 == i && q.2.category == 2))))) : mj_ls ad ls' nL (mj_st2 lv i x) := by
  subst e
  refine ⟨h.1, h.2.1, fun j w hj hu => ?_⟩
  rcases mj_st2_at hj hu with ⟨rfl, rfl⟩ | ⟨h1, h1b, h2, h3⟩
  · exact h.2.2 _ List.mem_cons_self
  · refine h.2.2 (j, mj_v ad w) (List.mem_cons_of_mem _ (List.mem_filter.mpr ⟨mj_as_mem h2 hu, ?_⟩))
    simp only [mj_cat]
    simp only [Bool.and_eq_true, Bool.not_eq_true', beq_eq_false_iff_ne, Bool.and_eq_false_iff]
    refine ⟨h1, h1b, ?_⟩
    by_cases q : j + 1 = i
    · exact Or.inr (fun z => h3 ⟨q, z⟩)
    · exact Or.inl q
theorem mj_rl_clr {L : List Nat} {lv : List Value} {i : Nat} (h : mj_rl L lv) : mj_rl L (mj_clr lv i) := by
  cases i with
  | zero => exact h
  | succ j =>
    unfold mj_clr
    dsimp only
    split
    · exact mj_rl_set h mj_rv_u
    · exact mj_rl_set h mj_rv_u
    · exact h
theorem mj_rl_st1 {L : List Nat} {lv : List Value} {i : Nat} {x : Value} (h : mj_rl L lv) (hx : mj_rv L x) : mj_rl L (mj_st1 lv i x) := mj_rl_set (mj_rl_clr h) hx
theorem mj_rl_st2 {L : List Nat} {lv : List Value} {i : Nat} {x : Value} (h : mj_rl L lv) (hx : mj_rv L x) : mj_rl L (mj_st2 lv i x) := mj_rl_set (mj_rl_set (mj_rl_clr h) hx) mj_rv_u
/-! what the tables say -/
abbrev mj_tys (cA : Nat → ClassId) : List (ClassId × FieldType) := [(cA 0, .int), (cA 1, .byte), (cA 2, .array .int), (cA 3, .array .byte), (cA 4, .object "LampCave$Cave")]
def mj_nest : List (String × Nat × MethodName × String) := [(RC_c, 28, yV_init, RC_c), (RC_c, 42, yR_init, RC_c), (RC_c, 49, yA_init, RC_c), (RC_c, 56, yS_init, RC_c), (RA_c, 107, yC_isOfKind, RC_c), (RV_c, 63, yC_isOfKind, RC_c)]
/-- an array class over an array class, by the tables -/
def va_AOA (t : FieldType) (U : State) : Prop := (Cond.arrayOver (.array t)).before #[] U = true
theorem va_AOA.use {t : FieldType} {A : Array Value} {U : State} (h : va_AOA t U) : (Cond.arrayOver (.array t)).before A U = true := h
theorem va_AOA.moved {t : FieldType} {u U : State} (hvm : u.vm.Alike U.vm) (h : va_AOA t u) : va_AOA t U := Jvm.Stand.arrayOver_alikeB hvm h
def mj_U (D : va_G) (cA : Nat → ClassId) (U : State) : Prop := va_K D mj_cl (mj_tys cA) U ∧ (∀ q ∈ mj_nest, va_Nw (.methodLinkNest q.1 q.2.1 q.2.2.1 q.2.2.2) U) ∧ va_AO "LampCave$Cave" U ∧ va_AOA .int U ∧ va_AOA .byte U
/-! the judgement -/
abbrev mj_KT : Type := Nat → Nat → Nat → List Value → List Value → mj_S → Prop
def mj_H (s : State) (nL mc ms : Nat) (D : va_G) (cA : Nat → ClassId) (ad0 : Nat → Nat) (L0 : List Nat) (A : Nat → Prop) (u v : Nat) (lv st : List Value) (S : mj_S) (ad : Nat → Nat) (H : Heap) (locs : List Loc) (ls : Array Slot) : Prop :=
  (u ≤ mc ∧ v ≤ ms) ∧ ((∀ i, (i ∈ L0 ∨ i ∉ S.1) → ad i = ad0 i) ∧ ∀ i ∈ L0, i ∈ S.1) ∧ mj_cs S ∧ mj_rl S.1 st ∧ mj_rl S.1 lv ∧ va_P D mj_cl (mj_w ad cA S) H ∧ va_D A (mj_w ad cA S) ∧ va_S A s.heap H locs ∧ mj_ls ad ls nL lv
def mj_K (p : Program) (l : Launch) (e : Env) (R : Room) (s : State) (m : MethodId) (args : Array Value) (below : List Frame) (meth : Method) (c : Code) (nL mc ms : Nat) (D : va_G) (cA : Nat → ClassId) (ad0 : Nat → Nat) (L0 : List Nat) (A : Nat → Prop) (Q : State → Prop) : mj_KT := fun u v pc lv st S =>
  ∀ (ad : Nat → Nat) (H : Heap) (locs : List Loc) (ls : Array Slot), mj_H s nL mc ms D cA ad0 L0 A u v lv st S ad H locs ls → W p l e R s m args below meth c H locs u v Q (F0 m pc ls (st.map (mj_v ad)))
/-- K is the judgement of some run of a method of 'own', named mn, with the bytes cc -/
def mj_C (d mc ms : Nat) (own mn : String) (cc : ByteArray) (nL : Nat) (K : mj_KT) : Prop :=
  ∃ (p : Program) (l : Launch) (e : Env) (R : Room) (s : State) (m : MethodId) (args : Array Value) (below : List Frame) (meth : Method) (c : Code) (D : va_G) (cA : Nat → ClassId) (ad0 : Nat → Nat) (L0 : List Nat) (A : Nat → Prop) (Q : State → Prop),
    p.tables.exec = Jvm.exec ∧ c.code = cc ∧ c.maxLocals = nL ∧ s.vm.findClass own = some m.cls ∧ (∀ w ∈ mj_ws, w.before args s = true) ∧ mj_U D cA s ∧ (∀ q, s.heap.size ≤ q → A q) ∧ meth.name = mn ∧ (d ≤ R.frames ∧ 60 * d ≤ R.locals ∧ mc ≤ R.cells ∧ ms ≤ R.slots) ∧ K = mj_K p l e R s m args below meth c nL mc ms D cA ad0 L0 A Q
theorem mj_H.re {s : State} {nL mc ms : Nat} {D : va_G} {cA : Nat → ClassId} {ad0 : Nat → Nat} {L0 : List Nat} {A : Nat → Prop} {u v : Nat} {lv st st' : List Value} {S : mj_S} {ad : Nat → Nat} {H : Heap} {locs : List Loc} {ls : Array Slot} (h : mj_H s nL mc ms D cA ad0 L0 A u v lv st S ad H locs ls) (f : mj_rl S.1 st → mj_rl S.1 lv → mj_rl S.1 st') : mj_H s nL mc ms D cA ad0 L0 A u v lv st' S ad H locs ls :=
  ⟨h.1, h.2.1, h.2.2.1, f h.2.2.2.1 h.2.2.2.2.1, h.2.2.2.2⟩
theorem mj_H.lo {s : State} {nL mc ms : Nat} {D : va_G} {cA : Nat → ClassId} {ad0 : Nat → Nat} {L0 : List Nat} {A : Nat → Prop} {u v : Nat} {lv lv' st st' : List Value} {S : mj_S} {ad : Nat → Nat} {H : Heap} {locs : List Loc} {ls ls' : Array Slot} (h : mj_H s nL mc ms D cA ad0 L0 A u v lv st S ad H locs ls) (f : mj_rl S.1 st → mj_rl S.1 lv → mj_rl S.1 st' ∧ mj_rl S.1 lv') (g : mj_ls ad ls' nL lv') : mj_H s nL mc ms D cA ad0 L0 A u v lv' st' S ad H locs ls' :=
  ⟨h.1, h.2.1, h.2.2.1, (f h.2.2.2.1 h.2.2.2.2.1).1, (f h.2.2.2.1 h.2.2.2.2.1).2, h.2.2.2.2.2.1, h.2.2.2.2.2.2.1, h.2.2.2.2.2.2.2.1, g⟩
