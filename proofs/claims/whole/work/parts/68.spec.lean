/-! the pure part: the cave as numbers -/
/-- people, kinds, grows, falls, screams, beside (bits), who lies (bits), endless oil -/
abbrev zT : Type := Nat × (Nat → Int32) × (Nat → Int32) × (Nat → Int32) × (Nat → Int32) × (Nat → Int32) × Int32 × Int32
def zP (z : zT) : Nat := z.1
def zK (z : zT) : Nat → Int32 := z.2.1
def zG (z : zT) : Nat → Int32 := z.2.2.1
def zL (z : zT) : Nat → Int32 := z.2.2.2.1
def zS (z : zT) : Nat → Int32 := z.2.2.2.2.1
def zB (z : zT) : Nat → Int32 := z.2.2.2.2.2.1
def zM (z : zT) : Int32 := z.2.2.2.2.2.2.1
def zE (z : zT) : Int32 := z.2.2.2.2.2.2.2
/-- fears, oil, minute, last -/
abbrev wT : Type := (Nat → Int32) × Int32 × Int32 × Option Nat
/-- nobody or one: in the class, in the model -/
def oC : Option Nat → Int32
  | none => -1
  | some h => nI h
def oM : Option Nat → Int32
  | none => -9
  | some h => nI h
/-- a bit -/
def bt (v : Int32) (i : Nat) : Bool := !decide (((v >>> (nI i &&& 31)) &&& 1) = 0)
theorem bt0 {v : Int32} {i : Nat} : (((v >>> (nI i &&& 31)) &&& 1) = 0) = (bt v i = false) := by
  unfold bt; simp
theorem and1 (v : Int32) : v &&& 1 = 0 ∨ v &&& 1 = 1 := by
  have h : (v &&& 1).toBitVec = 0#32 ∨ (v &&& 1).toBitVec = 1#32 := by
    rw [Int32.toBitVec_and]
    show v.toBitVec &&& 1#32 = 0#32 ∨ v.toBitVec &&& 1#32 = 1#32
    rw [← BitVec.toNat_inj, ← BitVec.toNat_inj, BitVec.toNat_and]
    show v.toBitVec.toNat &&& 1 = 0 ∨ v.toBitVec.toNat &&& 1 = 1
    rw [Nat.and_one_is_mod]; omega
  rcases h with h | h
  · exact Or.inl (Int32.toBitVec_inj.mp h)
  · exact Or.inr (Int32.toBitVec_inj.mp h)
theorem bt1 {v : Int32} {i : Nat} : (((v >>> (nI i &&& 31)) &&& 1) = 1) = (bt v i = true) := by
  unfold bt
  rcases and1 (v >>> (nI i &&& 31)) with h | h <;> rw [h] <;> decide
def calmK (k : Int32) : Bool := decide (k = 1) || decide (k = 4) || decide (k = 5)
def calmN (z : zT) (x : Nat) : Int32 := fo (fun y c => c + if (bt (zB z x) y && calmK (zK z y)) = true then 1 else 0) 0 (zP z)
def moreN (p : Nat) (am : Int32) (fe : Nat → Int32) (x : Nat) : Int32 := fo (fun y c => c + if bt am y = false then 0 else if fe y ≤ fe x then 0 else 1) 0 p
def clampS (f : Int32) : Int32 := if 99 < (if f < 0 then 0 else f : Int32) then 99 else (if f < 0 then 0 else f : Int32)
/-- fear behind a minute -/
def nf (z : zT) (li : Bool) (h : Nat) (fe : Nat → Int32) (x : Nat) : Int32 := clampS (if li = true ∧ x = h then fe x - calmN z x - zL z x else if li = true ∧ bt (zB z x) h = true then fe x - calmN z x else fe x - calmN z x + (zG z x + if zK z x = 2 then moreN (zP z) (zB z x) fe x else 0))
def lit (z : zT) (oil : Int32) : Bool := !decide (zE z = 0) || !decide (oil ≤ 0)
def burn (z : zT) (oil : Int32) : Int32 := if oil ≤ 0 then oil else if zE z = 0 then oil - 1 else oil
def stp (z : zT) (h : Nat) (w : wT) : wT := (nf z (lit z w.2.1) h w.1, burn z w.2.1, w.2.2.1 + 1, some h)
/-- changed but in those -/
def Fr (fs : List (Nat × Nat)) (as : List Nat) (s t : mb_T) : Prop := (∀ a k, (a, k) ∉ fs → t.1 a k = s.1 a k) ∧ (∀ a, a ∉ as → t.2.1 a = s.2.1 a) ∧ t.2.2 = s.2.2
theorem FrR {fs : List (Nat × Nat)} {as : List Nat} {s : mb_T} : Fr fs as s s := ⟨fun _ _ _ => rfl, fun _ _ => rfl, rfl⟩
theorem FrT {fs gs ks : List (Nat × Nat)} {as bs cs : List Nat} {s t u : mb_T} (h1 : Fr fs as s t) (h2 : Fr gs bs t u) (hf : fs ⊆ ks := by decide) (hg : gs ⊆ ks := by decide) (ha : as ⊆ cs := by decide) (hb : bs ⊆ cs := by decide) : Fr ks cs s u := by
  refine ⟨fun a k h => ?_, fun a h => ?_, ?_⟩
  · rw [h2.1 a k (fun q => h (hg q)), h1.1 a k (fun q => h (hf q))]
  · rw [h2.2.1 a (fun q => h (hb q)), h1.2.1 a (fun q => h (ha q))]
  · rw [h2.2.2, h1.2.2]
theorem FrI {fs ks : List (Nat × Nat)} {as cs : List Nat} {s t : mb_T} (h1 : Fr fs as s t) (hf : fs ⊆ ks := by decide) (ha : as ⊆ cs := by decide) : Fr ks cs s t := ⟨fun a k h => h1.1 a k (fun q => h (hf q)), fun a h => h1.2.1 a (fun q => h (ha q)), h1.2.2⟩
theorem FrF {s : mb_T} {i k : Nat} {x : Int32} : Fr [(i, k)] [] s (sF s i k x) := by
  refine ⟨fun a b h => ?_, fun _ _ => rfl, rfl⟩
  rw [sF1]
  by_cases hb : b = k
  · by_cases ha : a = i
    · subst hb; subst ha; simp at h
    · rw [if_pos hb, if_neg ha]
  · rw [if_neg hb]
theorem FrV {s : mb_T} {q : Nat} {g : Nat → Int32} : Fr [] [q] s (sV s q g) := by
  refine ⟨fun _ _ _ => rfl, fun a h => ?_, rfl⟩
  rw [sV2, if_neg (by simpa using h)]
theorem FrA {s : mb_T} {q i : Nat} {x : Int32} : Fr [] [q] s (sA s q i x) := FrV
/-- the aside holds it -/
def HA (z : zT) (w : wT) (s : mb_T) : Prop := zP z ≤ 5 ∧ s.1 40 0 = nI (zP z) ∧ s.1 40 2 = w.2.1 ∧ s.1 40 3 = zE z ∧ s.1 40 4 = w.2.2.1 ∧ s.1 40 5 = oC w.2.2.2 ∧ s.1 40 6 = zM z ∧ ∀ x, x < zP z → s.2.1 47 x = zK z x ∧ s.2.1 48 x = w.1 x ∧ s.2.1 50 x = zG z x ∧ s.2.1 51 x = zL z x ∧ s.2.1 52 x = zS z x ∧ s.2.1 53 x = zB z x ∧ s.2.1 54 x = calmN z x
section PD
variable {s : mb_T} {n p x : Nat} {z : zT} {w : wT} {am : Int32}
theorem pA_moreAfraid (hn : 200 ≤ n) (hp : s.1 40 0 = nI p) (h5 : p ≤ 5) (hx : x < 5) : f_A_moreAfraid n (nI x) am s = some (moreN p am (s.2.1 48) x, s) := by
  unfold f_A_moreAfraid
  refine lp (F := fun f (t : Int32 × Int32 × mb_T) => f_A_moreAfraid_5 n (fun x_10 x_11 s_12 => some (x_10, s_12)) (nI x) am f t.1 t.2.1 t.2.2) (fun i => (moreN i am (s.2.1 48) x, nI i, s)) p ?_ ?_ n (by omega)
  · intro i hi f
    dsimp only
    rw [f_A_moreAfraid_5.eq_2, hp, if_neg (npi (by omega) hi), jnS]
    simp only [bt0, nI_1]
    rw [rdI (by omega) (by decide), rdI (by omega) (by decide)]
    show _ = f_A_moreAfraid_5 n _ _ _ f (moreN i am (s.2.1 48) x + _) _ _
    split <;> rfl
  · intro f
    dsimp only
    rw [f_A_moreAfraid_5.eq_2, hp, if_pos npp]
end PD
