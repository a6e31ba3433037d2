/-! the flat state: fields, arrays, the one long, which text is read, which caves are kept -/
abbrev mb_T : Type := (Nat → Nat → Int32) × (Nat → Nat → Int32) × (Nat → Int64) × (Nat → Nat) × (Nat → Bool)
def mb_t0 : List (Nat × Nat) := [(14, 0), (0, 6), (99, 0), (0, 4), (99, 0), (99, 0), (4, 3), (99, 0), (99, 0), (99, 0), (0, 5), (0, 5), (0, 6), (99, 0), (99, 0), (99, 0), (2, 6), (3, 4), (99, 0), (99, 0), (0, 60), (0, 60), (0, 60), (0, 60), (0, 60), (0, 60), (99, 0), (99, 0), (99, 0), (99, 0), (1, 80), (1, 80), (1, 80), (1, 80), (99, 0), (99, 0), (12, 0), (1, 0), (99, 0), (99, 0), (10, 0), (99, 0), (99, 0), (99, 0), (99, 0), (99, 0), (99, 0), (0, 5), (0, 5), (0, 5), (0, 5), (0, 5), (0, 5), (0, 5), (0, 5), (0, 100), (0, 48), (99, 0), (99, 0), (99, 0), (13, 0), (0, 6), (99, 0), (99, 0), (0, 6)]
def mb_t1 : List (Nat × Nat) := [(11, 0), (99, 0), (99, 0), (99, 0), (99, 0), (0, 5), (0, 5), (0, 5), (0, 5), (0, 5), (0, 120), (0, 120), (0, 600)]
def mb_t2 : List (Nat × Nat) := [(15, 0), (0, 6), (99, 0), (0, 6), (0, 360), (0, 60), (0, 4), (0, 320), (99, 0), (99, 0), (99, 0), (99, 0), (0, 10), (0, 10), (0, 10), (0, 10), (0, 10), (99, 0), (99, 0), (99, 0), (99, 0), (99, 0), (99, 0), (0, 5), (99, 0), (99, 0), (0, 120), (0, 720), (0, 5), (0, 2550), (0, 8), (99, 0), (0, 18), (99, 0), (0, 56), (0, 6), (0, 6), (99, 0), (99, 0), (0, 5), (0, 5), (99, 0), (99, 0), (99, 0), (99, 0)]
def mb_k (i : Nat) : Nat × Nat := if i < 100 then mb_t0.getD i (99, 0) else if i < 200 then mb_t1.getD ((i - 100) % 20) (99, 0) else mb_t2.getD (i - 200) (99, 0)
/-- the text that the reader has (31: the empty one) -/
def mb_sg (s : Nat) : Nat := if 30 ≤ s ∧ s ≤ 33 then s else 37
def mb_sn (s : Nat) : Nat := if 30 ≤ s ∧ s ≤ 33 then 80 else 0
def mb_fA (σ : mb_T) (i : Nat) : List Value := [.int (σ.1 i 0), .int (σ.1 i 1), .int (σ.1 i 2), .int (σ.1 i 3), .int (σ.1 i 4), .int (σ.1 i 5), .int (σ.1 i 6), .ref 47, .ref 48, .ref 49, .ref 50, .ref 51, .ref 52, .ref 53, .ref 54, .ref 55, .ref 56]
def mb_fV (σ : mb_T) (i : Nat) : List Value := [.int (σ.1 i 0), .int (σ.1 i 1), .int (σ.1 i 2), .int (σ.1 i 3), .int (σ.1 i 4), .ref (i + 5), .ref (i + 6), .ref (i + 7), .ref (i + 8), .ref (i + 9), .ref (i + 10), .ref (i + 11), .ref (i + 12)]
def mb_fR (σ : mb_T) (i : Nat) : List Value := [.ref (mb_sg (σ.2.2.2.1 i)), .int (σ.1 i 1), .int (σ.1 i 2), .int (σ.1 i 3)]
def mb_fS (σ : mb_T) (i : Nat) : List Value := [.ref 61, .int (σ.1 i 1), .int (σ.1 i 2), .ref 64, .int (σ.1 i 4), .int (σ.1 i 5)]
def mb_fC (σ : mb_T) (i : Nat) : List Value := [.ref 16, .ref 1, .ref 17, .ref 3, .ref 100, .ref 120, .ref 6, .ref 36, .ref 40, .ref 60, .ref 10, .ref 11, .ref 12, .int (σ.1 i 13), .int (σ.1 i 14)]
def mb_fM (σ : mb_T) (i : Nat) : List Value := [.int (σ.1 i 0), .ref 201, .int (σ.1 i 2), .ref 203, .ref 204, .ref 205, .ref 206, .ref 207, .int (σ.1 i 8), .int (σ.1 i 9), .int (σ.1 i 10), .int (σ.1 i 11), .ref 212, .ref 213, .ref 214, .ref 215, .ref 216, .int (σ.1 i 17), .int (σ.1 i 18), .int (σ.1 i 19), .int (σ.1 i 20), .int (σ.1 i 21), .int (σ.1 i 22), .ref 223, .int (σ.1 i 24), .int (σ.1 i 25), .ref 226, .ref 227, .ref 228, .ref 229, .ref 230, .int (σ.1 i 31), .ref 232, .int (σ.1 i 33), .ref 234, .ref 235, .ref 236, .int (σ.1 i 37), .int (σ.1 i 38), .ref 239, .ref 240, .int (σ.1 i 41), .int (σ.1 i 42), .int (σ.1 i 43), .long (σ.2.2.1 i)]
def mb_f (ci : Nat) (σ : mb_T) (i : Nat) : List Value := match ci with
  | 0 => mb_fA σ i
  | 1 => mb_fV σ i
  | 2 => mb_fR σ i
  | 3 => mb_fS σ i
  | 4 => mb_fC σ i
  | 5 => mb_fM σ i
  | _ => []
def mb_c (σ : mb_T) (i : Nat) : mj_E := match mb_k i with
  | (0, n) => .inl (0, n, .inl (σ.2.1 i))
  | (1, n) => .inl (1, n, .inl (σ.2.1 i))
  | (2, _) => .inl (2, 6, .inr (.inr (.inr (.inr (fun j => if j < 6 then some (20 + j) else none)))))
  | (3, _) => .inl (3, 4, .inr (.inr (.inr (.inr (fun j => if j < 4 then some (30 + j) else none)))))
  | (4, _) => .inl (4, 3, .inr (.inr (.inr (.inr (fun j => if j < 3 ∧ σ.2.2.2.2 j = true then some (140 + 20 * j) else none)))))
  | (10, _) => .inr (0, mb_f 0 σ i)
  | (11, _) => .inr (1, mb_f 1 σ i)
  | (12, _) => .inr (2, mb_f 2 σ i)
  | (13, _) => .inr (3, mb_f 3 σ i)
  | (14, _) => .inr (4, mb_f 4 σ i)
  | (15, _) => .inr (5, mb_f 5 σ i)
  | _ => .inr (9, [])
def mb_st : List Nat := [0, 1, 3, 6, 10, 11, 12, 16, 17, 20, 21, 22, 23, 24, 25, 30, 31, 32, 33, 36, 37, 40, 47, 48, 49, 50, 51, 52, 53, 54, 55, 56, 60, 61, 64, 100, 105, 106, 107, 108, 109, 110, 111, 112, 120, 125, 126, 127, 128, 129, 130, 131, 132]
def mb_sm : List Nat := [200, 201, 203, 204, 205, 206, 207, 212, 213, 214, 215, 216, 223, 226, 227, 228, 229, 230, 232, 234, 235, 236, 239, 240]
def mb_kc (c : Nat) : List Nat := [c, c + 5, c + 6, c + 7, c + 8, c + 9, c + 10, c + 11, c + 12]
def mb_L (σ : mb_T) : List Nat := mb_st ++ ((if σ.2.2.2.2 3 = true then mb_sm else []) ++ ((if σ.2.2.2.2 0 = true then mb_kc 140 else []) ++ ((if σ.2.2.2.2 1 = true then mb_kc 160 else []) ++ (if σ.2.2.2.2 2 = true then mb_kc 180 else []))))
def mb_s (σ : mb_T) : mj_S := (mb_L σ, mb_c σ)
/-! changes -/
def sF (σ : mb_T) (i k : Nat) (x : Int32) : mb_T := (fun a b => if b = k then (if a = i then x else σ.1 a b) else σ.1 a b, σ.2)
def sV (σ : mb_T) (a : Nat) (g : Nat → Int32) : mb_T := (σ.1, fun b => if b = a then g else σ.2.1 b, σ.2.2)
def sA (σ : mb_T) (a j : Nat) (x : Int32) : mb_T := sV σ a (upd (σ.2.1 a) j x)
def sJ (σ : mb_T) (i : Nat) (x : Int64) : mb_T := (σ.1, σ.2.1, fun j => if j = i then x else σ.2.2.1 j, σ.2.2.2)
def sG (σ : mb_T) (i a : Nat) : mb_T := (σ.1, σ.2.1, σ.2.2.1, fun j => if j = i then a else σ.2.2.2.1 j, σ.2.2.2.2)
def mb_o (i ci : Nat) : Prop := ∀ σ, mb_c σ i = .inr (ci, mb_f ci σ i)
def mb_ai (a n : Nat) : Prop := ∀ σ, mb_c σ a = .inl (0, n, .inl (σ.2.1 a))
def mb_ab (a n : Nat) : Prop := ∀ σ, mb_c σ a = .inl (1, n, .inl (σ.2.1 a))
theorem mb_c_F {σ : mb_T} {i k j : Nat} {x : Int32} (h : j ≠ i) : mb_c (sF σ i k x) j = mb_c σ j := by
  have e : ∀ b, (sF σ i k x).1 j b = σ.1 j b := by
    intro b
    show (if b = k then (if j = i then x else σ.1 j b) else σ.1 j b) = σ.1 j b
    rw [if_neg h]
    split <;> rfl
  unfold mb_c
  simp only [mb_f, mb_fA, mb_fV, mb_fR, mb_fS, mb_fC, mb_fM, e]
  rfl
theorem mb_c_V {σ : mb_T} {a j : Nat} {g : Nat → Int32} (h : j ≠ a) : mb_c (sV σ a g) j = mb_c σ j := by
  have e : (sV σ a g).2.1 j = σ.2.1 j := if_neg h
  unfold mb_c
  simp only [mb_f, mb_fA, mb_fV, mb_fR, mb_fS, mb_fC, mb_fM, e]
  rfl
theorem mb_up_F {σ : mb_T} {i ci k : Nat} {x : Int32} (ho : mb_o i ci) (hs : (mb_f ci σ i).set k (.int x) = mb_f ci (sF σ i k x) i) : mj_up (mb_s σ) i (.inr (ci, (mb_f ci σ i).set k (.int x))) = mb_s (sF σ i k x) := by
  refine Prod.ext rfl (funext fun j => ?_)
  show (if j = i then _ else mb_c σ j) = mb_c (sF σ i k x) j
  by_cases h : j = i
  · rw [if_pos h, h, hs]; exact (ho _).symm
  · rw [if_neg h]; exact (mb_c_F h).symm
theorem mb_up_V {σ : mb_T} {a n : Nat} {g : Nat → Int32} (ha : mb_ai a n) : mj_up (mb_s σ) a (.inl (0, n, .inl g)) = mb_s (sV σ a g) := by
  refine Prod.ext rfl (funext fun j => ?_)
  show (if j = a then _ else mb_c σ j) = mb_c (sV σ a g) j
  by_cases h : j = a
  · rw [if_pos h, h, ha]
    have e : (sV σ a g).2.1 a = g := if_pos rfl
    rw [e]
  · rw [if_neg h]; exact (mb_c_V h).symm
theorem mb_up_B {σ : mb_T} {a n : Nat} {g : Nat → Int32} (ha : mb_ab a n) : mj_up (mb_s σ) a (.inl (1, n, .inl g)) = mb_s (sV σ a g) := by
  refine Prod.ext rfl (funext fun j => ?_)
  show (if j = a then _ else mb_c σ j) = mb_c (sV σ a g) j
  by_cases h : j = a
  · rw [if_pos h, h, ha]
    have e : (sV σ a g).2.1 a = g := if_pos rfl
    rw [e]
  · rw [if_neg h]; exact (mb_c_V h).symm
theorem mb_o36 : mb_o 36 2 := fun _ => rfl
theorem mb_o200 : mb_o 200 5 := fun _ => rfl
theorem mb_up_J {σ : mb_T} {x : Int64} : mj_up (mb_s σ) 200 (.inr (5, (mb_f 5 σ 200).set 44 (.long x))) = mb_s (sJ σ 200 x) := by
  refine Prod.ext rfl (funext fun j => ?_)
  show (if j = 200 then _ else mb_c σ j) = mb_c (sJ σ 200 x) j
  by_cases h : j = 200
  · rw [if_pos h, h]; rfl
  · rw [if_neg h]
    have e : (sJ σ 200 x).2.2.1 j = σ.2.2.1 j := if_neg h
    unfold mb_c
    simp only [mb_f, mb_fA, mb_fV, mb_fR, mb_fS, mb_fC, mb_fM, e]
    rfl
theorem mb_up_G {σ : mb_T} {a : Nat} (h1 : 30 ≤ a ∧ a ≤ 33) : mj_up (mb_s σ) 36 (.inr (2, (mb_f 2 σ 36).set 0 (.ref a))) = mb_s (sG σ 36 a) := by
  refine Prod.ext rfl (funext fun j => ?_)
  show (if j = 36 then _ else mb_c σ j) = mb_c (sG σ 36 a) j
  have e : mb_sg a = a := if_pos h1
  by_cases h : j = 36
  · rw [if_pos h, h, mb_o36]
    show Sum.inr (2, [Value.ref a, .int (σ.1 36 1), .int (σ.1 36 2), .int (σ.1 36 3)]) = Sum.inr (2, [Value.ref (mb_sg a), .int (σ.1 36 1), .int (σ.1 36 2), .int (σ.1 36 3)])
    rw [e]
  · rw [if_neg h]
    have e2 : (sG σ 36 a).2.2.2.1 j = σ.2.2.2.1 j := if_neg h
    unfold mb_c
    simp only [mb_f, mb_fA, mb_fV, mb_fR, mb_fS, mb_fC, mb_fM, e2]
    rfl
/-! rows over the flat state -/
section MBR
variable {d mc ms nL : Nat} {own mn : String} {cc : ByteArray} {K : mj_KT} {u v pc : Nat} {lv st : List Value} {σ : mb_T}
theorem rb_get (hK : mj_C d mc ms own mn cc nL K) {i ci k idx : Nat} {x : Value} (hf : mj_F own idx ci k) (ho : mb_o i ci) (hv : (mb_f ci σ i)[k]? = some x) (dg : decode cc pc = .ok (.getfield idx, 3)) (kk : K u v (pc + 3) lv (x :: st) (mb_s σ)) : K u v pc lv (.ref i :: st) (mb_s σ) := ro_get hK hf (ho σ) hv dg kk
theorem rb_put (hK : mj_C d mc ms own mn cc nL K) {i ci k idx : Nat} {x : Int32} {ty : FieldType} {σ1 : mb_T} (hf : mj_G own idx ci k ty) (ho : mb_o i ci) (hs : (mb_f ci σ i).set k (.int x) = mb_f ci (sF σ i k x) i) (hl : k < (mb_f ci σ i).length) (hn : narrow ty (.int x) = .int x) (hfit : fits ty (.int x) = true) (e : σ1 = sF σ i k x) (dg : decode cc pc = .ok (.putfield idx, 3)) (kk : K u v (pc + 3) lv st (mb_s σ1)) : K u v pc lv (.int x :: .ref i :: st) (mb_s σ) :=
  ro_put hK hf (ho σ) hl (fun _ => hn) (fun _ => hfit) dg (by rw [mb_up_F ho hs, ← e]; exact kk)
theorem rb_putJ (hK : mj_C d mc ms own mn cc nL K) {idx : Nat} {x : Int64} {σ1 : mb_T} (hf : mj_G own idx 5 44 .long) (e : σ1 = sJ σ 200 x) (dg : decode cc pc = .ok (.putfield idx, 3)) (kk : K u v (pc + 3) lv st (mb_s σ1)) : K u v pc lv (.long x :: .ref 200 :: st) (mb_s σ) :=
  ro_put hK hf (mb_o200 σ) (show 44 < 45 by decide) (fun _ => rfl) (fun _ => rfl) dg (by rw [mb_up_J, ← e]; exact kk)
theorem rb_putG (hK : mj_C d mc ms own mn cc nL K) {idx a : Nat} {σ1 : mb_T} (hf : mj_G own idx 2 0 (.array .byte)) (h1 : 30 ≤ a ∧ a ≤ 33) (e : σ1 = sG σ 36 a) (dg : decode cc pc = .ok (.putfield idx, 3)) (kk : K u v (pc + 3) lv st (mb_s σ1)) : K u v pc lv (.ref a :: .ref 36 :: st) (mb_s σ) :=
  ro_put hK hf (mb_o36 σ) (show 0 < 4 by decide) (fun _ => rfl) (fun _ => rfl) dg (by rw [mb_up_G h1, ← e]; exact kk)
theorem rb_iald (hK : mj_C d mc ms own mn cc nL K) {a n : Nat} {j x : Int32} (ha : mb_ai a n) (hin : vp_in j n) (e : x = σ.2.1 a j.toNatClampNeg) (dg : decode cc pc = .ok (.iaload, 1)) (kk : K u v (pc + 1) lv (.int x :: st) (mb_s σ)) : K u v pc lv (.int j :: .ref a :: st) (mb_s σ) := by
  subst e
  exact ro_iald hK (ha σ) hin dg kk
theorem rb_bald (hK : mj_C d mc ms own mn cc nL K) {a n : Nat} {j x : Int32} (ha : mb_ab a n) (hin : vp_in j n) (e : x = σ.2.1 a j.toNatClampNeg) (dg : decode cc pc = .ok (.baload, 1)) (kk : K u v (pc + 1) lv (.int x :: st) (mb_s σ)) : K u v pc lv (.int j :: .ref a :: st) (mb_s σ) := by
  subst e
  exact ro_bald hK (ha σ) hin dg kk
theorem rb_iast (hK : mj_C d mc ms own mn cc nL K) {a n : Nat} {j x : Int32} {σ1 : mb_T} (ha : mb_ai a n) (hin : vp_in j n) (e : σ1 = sA σ a j.toNatClampNeg x) (dg : decode cc pc = .ok (.iastore, 1)) (kk : K u v (pc + 1) lv st (mb_s σ1)) : K u v pc lv (.int x :: .int j :: .ref a :: st) (mb_s σ) :=
  ro_iast hK (ha σ) hin dg (by rw [mb_up_V ha]; rw [e] at kk; exact kk)
theorem rb_bast (hK : mj_C d mc ms own mn cc nL K) {a n : Nat} {j x : Int32} {σ1 : mb_T} (ha : mb_ab a n) (hin : vp_in j n) (e : σ1 = sA σ a j.toNatClampNeg x.toInt8.toInt32) (dg : decode cc pc = .ok (.bastore, 1)) (kk : K u v (pc + 1) lv st (mb_s σ1)) : K u v pc lv (.int x :: .int j :: .ref a :: st) (mb_s σ) :=
  ro_bast hK (ha σ) hin dg (by rw [mb_up_B ha, vp_nar_byte]; rw [e] at kk; exact kk)
theorem rb_alenI (hK : mj_C d mc ms own mn cc nL K) {a n : Nat} (ha : mb_ai a n) (dg : decode cc pc = .ok (.arraylength, 1)) (kk : K u v (pc + 1) lv (.int (Int32.ofNat n) :: st) (mb_s σ)) : K u v pc lv (.ref a :: st) (mb_s σ) := ro_alenI hK (ha σ) dg kk
theorem rb_alenB (hK : mj_C d mc ms own mn cc nL K) {a n : Nat} (ha : mb_ab a n) (dg : decode cc pc = .ok (.arraylength, 1)) (kk : K u v (pc + 1) lv (.int (Int32.ofNat n) :: st) (mb_s σ)) : K u v pc lv (.ref a :: st) (mb_s σ) := ro_alenB hK (ha σ) dg kk
theorem rb_rows (hK : mj_C d mc ms own mn cc nL K) {j : Int32} (hin : vp_in j 6) (dg : decode cc pc = .ok (.aaload, 1)) (kk : K u v (pc + 1) lv (.ref (20 + j.toNatClampNeg) :: st) (mb_s σ)) : K u v pc lv (.int j :: .ref 16 :: st) (mb_s σ) := by
  have hlt : j.toNatClampNeg < 6 := Nat.not_le.mp fun q => hin (Or.inr q)
  refine ro_aald (t := 2) (n := 6) (f := fun j => if j < 6 then some (20 + j) else none) hK (Or.inl rfl) rfl hin dg ?_
  rw [if_pos hlt]
  exact kk
theorem rb_texts (hK : mj_C d mc ms own mn cc nL K) {j : Int32} (hin : vp_in j 4) (dg : decode cc pc = .ok (.aaload, 1)) (kk : K u v (pc + 1) lv (.ref (30 + j.toNatClampNeg) :: st) (mb_s σ)) : K u v pc lv (.int j :: .ref 17 :: st) (mb_s σ) := by
  have hlt : j.toNatClampNeg < 4 := Nat.not_le.mp fun q => hin (Or.inr q)
  refine ro_aald (t := 3) (n := 4) (f := fun j => if j < 4 then some (30 + j) else none) hK (Or.inr (Or.inl rfl)) rfl hin dg ?_
  rw [if_pos hlt]
  exact kk
theorem rb_kept (hK : mj_C d mc ms own mn cc nL K) {j : Int32} (hin : vp_in j 3) (dg : decode cc pc = .ok (.aaload, 1)) (k1 : σ.2.2.2.2 j.toNatClampNeg = true → K u v (pc + 1) lv (.ref (140 + 20 * j.toNatClampNeg) :: st) (mb_s σ)) (k2 : ¬ σ.2.2.2.2 j.toNatClampNeg = true → K u v (pc + 1) lv (.null :: st) (mb_s σ)) : K u v pc lv (.int j :: .ref 6 :: st) (mb_s σ) := by
  have hlt : j.toNatClampNeg < 3 := Nat.not_le.mp fun q => hin (Or.inr q)
  refine ro_aald (t := 4) (n := 3) (f := fun j => if j < 3 ∧ σ.2.2.2.2 j = true then some (140 + 20 * j) else none) hK (Or.inr (Or.inr rfl)) rfl hin dg ?_
  by_cases h : σ.2.2.2.2 j.toNatClampNeg = true
  · rw [if_pos ⟨hlt, h⟩]; exact k1 h
  · rw [if_neg (fun q => h q.2)]; exact k2 h
theorem rb_copy (hK : mj_C d mc ms own mn cc nL K) {idx a0 a1 n0 n1 : Nat} {sp dp n : Int32} {σ1 : mb_T} (hw : Cond.methodLink own idx arraycopyName ∈ mj_ws) (hd : 1 ≤ d) (hs : (st.map fun q => q.category).sum ≤ 8) (h0 : mb_ai a0 n0) (h1 : mb_ai a1 n1) (hc : (¬ sp < 0 ∧ ¬ dp < 0 ∧ ¬ n < 0) ∧ sp.toNatClampNeg + n.toNatClampNeg ≤ n0 ∧ dp.toNatClampNeg + n.toNatClampNeg ≤ n1) (e : σ1 = sV σ a1 (va_cpy (σ.2.1 a0) (σ.2.1 a1) sp.toNatClampNeg dp.toNatClampNeg n.toNatClampNeg)) (dg : decode cc pc = .ok (.invokestatic idx, 3)) (kk : K u v (pc + 3) lv st (mb_s σ1)) : K u v pc lv (.int n :: .int dp :: .ref a1 :: .int sp :: .ref a0 :: st) (mb_s σ) :=
  ro_copy hK hw hd hs (h0 σ) (h1 σ) hc.1.1 hc.1.2.1 hc.1.2.2 hc.2.1 hc.2.2 dg (by rw [mb_up_V h1, ← e]; exact kk)
end MBR
theorem mb_rw {j : Int32} (h : vp_in j 6) : mb_ai (20 + j.toNatClampNeg) 60 := by
  have hlt : j.toNatClampNeg < 6 := Nat.not_le.mp fun q => h (Or.inr q)
  generalize j.toNatClampNeg = q at hlt
  intro σ
  match q, hlt with
  | 0, _ => rfl
  | 1, _ => rfl
  | 2, _ => rfl
  | 3, _ => rfl
  | 4, _ => rfl
  | 5, _ => rfl
  | n + 6, h => exact absurd h (by omega)
theorem mb_tx {j : Int32} (h : vp_in j 4) : 30 ≤ 30 + j.toNatClampNeg ∧ 30 + j.toNatClampNeg ≤ 33 := by
  have hlt : j.toNatClampNeg < 4 := Nat.not_le.mp fun q => h (Or.inr q)
  omega
theorem mb_tb {a : Nat} (h : 30 ≤ a ∧ a ≤ 33) : mb_ab a 80 := by
  intro σ
  have : a = 30 ∨ a = 31 ∨ a = 32 ∨ a = 33 := by omega
  rcases this with rfl | rfl | rfl | rfl <;> rfl
theorem mb_sgb (s : Nat) : mb_ab (mb_sg s) (mb_sn s) := by
  by_cases h : 30 ≤ s ∧ s ≤ 33
  · unfold mb_sg mb_sn
    rw [if_pos h, if_pos h]
    exact mb_tb h
  · unfold mb_sg mb_sn
    rw [if_neg h, if_neg h]
    exact fun _ => rfl
/-- a cave: the one that is, the draft, a kept one -/
def mb_cv (c : Nat) : Prop := c = 100 ∨ c = 120 ∨ c = 140 ∨ c = 160 ∨ c = 180
theorem mb_cvo {c : Nat} (h : mb_cv c) : mb_o c 1 := by
  rcases h with rfl | rfl | rfl | rfl | rfl <;> exact fun _ => rfl
theorem mb_cv5 {c : Nat} (h : mb_cv c) : mb_ai (c + 5) 5 := by
  rcases h with rfl | rfl | rfl | rfl | rfl <;> exact fun _ => rfl
theorem mb_cv6 {c : Nat} (h : mb_cv c) : mb_ai (c + 6) 5 := by
  rcases h with rfl | rfl | rfl | rfl | rfl <;> exact fun _ => rfl
theorem mb_cv7 {c : Nat} (h : mb_cv c) : mb_ai (c + 7) 5 := by
  rcases h with rfl | rfl | rfl | rfl | rfl <;> exact fun _ => rfl
theorem mb_cv8 {c : Nat} (h : mb_cv c) : mb_ai (c + 8) 5 := by
  rcases h with rfl | rfl | rfl | rfl | rfl <;> exact fun _ => rfl
theorem mb_cv9 {c : Nat} (h : mb_cv c) : mb_ai (c + 9) 5 := by
  rcases h with rfl | rfl | rfl | rfl | rfl <;> exact fun _ => rfl
theorem mb_cv10 {c : Nat} (h : mb_cv c) : mb_ai (c + 10) 120 := by
  rcases h with rfl | rfl | rfl | rfl | rfl <;> exact fun _ => rfl
theorem mb_cv11 {c : Nat} (h : mb_cv c) : mb_ai (c + 11) 120 := by
  rcases h with rfl | rfl | rfl | rfl | rfl <;> exact fun _ => rfl
theorem mb_cv12 {c : Nat} (h : mb_cv c) : mb_ai (c + 12) 600 := by
  rcases h with rfl | rfl | rfl | rfl | rfl <;> exact fun _ => rfl
theorem mb_kcv {j : Int32} (h : vp_in j 3) : mb_cv (140 + 20 * j.toNatClampNeg) := by
  have hlt : j.toNatClampNeg < 3 := Nat.not_le.mp fun q => h (Or.inr q)
  unfold mb_cv
  omega
theorem mb_cvs {c k : Nat} {x : Int32} {σ : mb_T} (hk : k < 5) : (mb_f 1 σ c).set k (.int x) = mb_f 1 (sF σ c k x) c := by
  match k, hk with
  | 0, _ => simp [mb_f, mb_fV, sF]
  | 1, _ => simp [mb_f, mb_fV, sF]
  | 2, _ => simp [mb_f, mb_fV, sF]
  | 3, _ => simp [mb_f, mb_fV, sF]
  | 4, _ => simp [mb_f, mb_fV, sF]
  | n + 5, h => exact absurd h (by omega)
/-! pieces that the functions are made of -/
section MBF
variable {α β : Type}
def mb_bd (s : mb_T) (k : mb_T → Option β) : Option β := k s
def mb_rd (σ : mb_T) (a n : Nat) (j : Int32) (k : Int32 → Option β) : Option β := if j < 0 ∨ n ≤ j.toNatClampNeg then none else k (σ.2.1 a j.toNatClampNeg)
def mb_wr (σ : mb_T) (a n : Nat) (j x : Int32) (k : mb_T → Option β) : Option β := if j < 0 ∨ n ≤ j.toNatClampNeg then none else k (sA σ a j.toNatClampNeg x)
def mb_ix (j : Int32) (n : Nat) (k : Option β) : Option β := if j < 0 ∨ n ≤ j.toNatClampNeg then none else k
def mb_dv (y : Int32) (k : Option β) : Option β := if y = 0 then none else k
def mb_dl (y : Int64) (k : Option β) : Option β := if y = 0 then none else k
def mb_cl (o : Option (α × mb_T)) (k : α → mb_T → Option β) : Option β := match o with
  | none => none
  | some p => k p.1 p.2
def mb_cw (o : Option mb_T) (k : mb_T → Option β) : Option β := match o with
  | none => none
  | some p => k p
def mb_cp (σ : mb_T) (a0 n0 a1 n1 : Nat) (sp dp n : Int32) (k : mb_T → Option β) : Option β := if (¬ sp < 0 ∧ ¬ dp < 0 ∧ ¬ n < 0) ∧ sp.toNatClampNeg + n.toNatClampNeg ≤ n0 ∧ dp.toNatClampNeg + n.toNatClampNeg ≤ n1 then k (sV σ a1 (va_cpy (σ.2.1 a0) (σ.2.1 a1) sp.toNatClampNeg dp.toNatClampNeg n.toNatClampNeg)) else none
variable {out : β}
theorem mb_bd_e {s : mb_T} {k : mb_T → Option β} (h : mb_bd s k = some out) : ∃ s1, s1 = s ∧ k s1 = some out := ⟨s, rfl, h⟩
theorem mb_rd_e {σ : mb_T} {a n : Nat} {j : Int32} {k : Int32 → Option β} (h : mb_rd σ a n j k = some out) : ∃ x, x = σ.2.1 a j.toNatClampNeg ∧ vp_in j n ∧ k x = some out := by
  unfold mb_rd at h
  split at h
  · cases h
  · next q => exact ⟨_, rfl, q, h⟩
theorem mb_wr_e {σ : mb_T} {a n : Nat} {j x : Int32} {k : mb_T → Option β} (h : mb_wr σ a n j x k = some out) : ∃ s1, s1 = sA σ a j.toNatClampNeg x ∧ vp_in j n ∧ k s1 = some out := by
  unfold mb_wr at h
  split at h
  · cases h
  · next q => exact ⟨_, rfl, q, h⟩
theorem mb_ix_e {j : Int32} {n : Nat} {k : Option β} (h : mb_ix j n k = some out) : vp_in j n ∧ k = some out := by
  unfold mb_ix at h
  split at h
  · cases h
  · next q => exact ⟨q, h⟩
theorem mb_dv_e {y : Int32} {k : Option β} (h : mb_dv y k = some out) : ¬ y = 0 ∧ k = some out := by
  unfold mb_dv at h
  split at h
  · cases h
  · next q => exact ⟨q, h⟩
theorem mb_dl_e {y : Int64} {k : Option β} (h : mb_dl y k = some out) : ¬ y = 0 ∧ k = some out := by
  unfold mb_dl at h
  split at h
  · cases h
  · next q => exact ⟨q, h⟩
theorem mb_cl_e {o : Option (α × mb_T)} {k : α → mb_T → Option β} (h : mb_cl o k = some out) : ∃ r s, o = some (r, s) ∧ k r s = some out := by
  cases o with
  | none => cases h
  | some p => exact ⟨p.1, p.2, rfl, h⟩
theorem mb_cw_e {o : Option mb_T} {k : mb_T → Option β} (h : mb_cw o k = some out) : ∃ s, o = some s ∧ k s = some out := by
  cases o with
  | none => cases h
  | some p => exact ⟨p, rfl, h⟩
theorem mb_cp_e {σ : mb_T} {a0 n0 a1 n1 : Nat} {sp dp n : Int32} {k : mb_T → Option β} (h : mb_cp σ a0 n0 a1 n1 sp dp n k = some out) : ∃ s1, s1 = sV σ a1 (va_cpy (σ.2.1 a0) (σ.2.1 a1) sp.toNatClampNeg dp.toNatClampNeg n.toNatClampNeg) ∧ ((¬ sp < 0 ∧ ¬ dp < 0 ∧ ¬ n < 0) ∧ sp.toNatClampNeg + n.toNatClampNeg ≤ n0 ∧ dp.toNatClampNeg + n.toNatClampNeg ≤ n1) ∧ k s1 = some out := by
  unfold mb_cp at h
  split at h
  · next q => exact ⟨_, rfl, q, h⟩
  · cases h
end MBF
/-! a method by its function -/
def mb_MC (d : Nat) (y : MethodName) (b : ByteArray) (mL : Nat) (ret : Option FieldType) (as : List Value) (σ : mb_T) (r : Option Value) (σ1 : mb_T) : Prop := mj_MC d 0 0 y b mL ret as (mb_s σ) (fun r2 S2 => r2 = r ∧ S2 = mb_s σ1)
section MBC
variable {d mc ms nL : Nat} {own mn : String} {cc : ByteArray} {K : mj_KT} {u v pc : Nat} {lv st as : List Value} {σ σ1 : mb_T} {idx mL n : Nat} {y : MethodName} {b : ByteArray} {ret : Option FieldType} {r : Option Value}
theorem rb_callV (hK : mj_C (d + 1) mc ms own mn cc nL K) {i ci : Nat} {T : u_T} {N : Nat} (hM : mj_M y b mL n ret) (hV : mj_V own idx y) (hC : mb_MC d y b mL ret (.ref i :: as) σ r σ1) (hcl : mj_cl[ci]? = some (y.cls, T, N)) (ho : mb_o i ci) (hn : as.length = n) (hs : (st.map fun q => q.category).sum ≤ 8) (dg : decode cc pc = .ok (.invokevirtual idx, 3)) {sv : List Value} (hsv : as.reverse ++ .ref i :: st = sv) (hb : u ≤ mc ∧ v ≤ ms) (kk : K u v (pc + 3) lv (r.toList ++ st) (mb_s σ1)) : K u v pc lv sv (mb_s σ) :=
  ro_callV hK hM hV hC hcl (ho σ) hn hs hb dg hsv (fun r2 S2 q => by obtain ⟨rfl, rfl⟩ := q; exact kk)
theorem rb_callS (hK : mj_C (d + 1) mc ms own mn cc nL K) (hM : mj_M y b mL n ret) (hV : mj_T own idx y) (hC : mb_MC d y b mL ret as σ r σ1) (hn : as.length = n) (hs : (st.map fun q => q.category).sum ≤ 8) (dg : decode cc pc = .ok (.invokestatic idx, 3)) {sv : List Value} (hsv : as.reverse ++ st = sv) (hb : u ≤ mc ∧ v ≤ ms) (kk : K u v (pc + 3) lv (r.toList ++ st) (mb_s σ1)) : K u v pc lv sv (mb_s σ) :=
  ro_callS hK hM hV hC hn hs hb dg hsv (fun r2 S2 q => by obtain ⟨rfl, rfl⟩ := q; exact kk)
theorem rb_callSN (hK : mj_C (d + 1) mc ms own mn cc nL K) {host : String} (hM : mj_M y b mL n ret) (hV : (own, idx, y, host) ∈ mj_nest) (hst1 : Cond.static y ∈ mj_ws) (hC : mb_MC d y b mL ret as σ r σ1) (hn : as.length = n) (hs : (st.map fun q => q.category).sum ≤ 8) (dg : decode cc pc = .ok (.invokestatic idx, 3)) {sv : List Value} (hsv : as.reverse ++ st = sv) (hb : u ≤ mc ∧ v ≤ ms) (kk : K u v (pc + 3) lv (r.toList ++ st) (mb_s σ1)) : K u v pc lv sv (mb_s σ) :=
  ro_callSN hK hM hV hst1 hC hn hs hb dg hsv (fun r2 S2 q => by obtain ⟨rfl, rfl⟩ := q; exact kk)
end MBC

