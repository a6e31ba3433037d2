/-! the pure part: sets as bits -/
def mkB (b : Nat → Bool) (p : Nat) : Int32 := fo (fun i w => w ||| (if b i = true then (1 <<< (nI i &&& 31)) else 0 : Int32)) 0 p
theorem mkB_0 {b : Nat → Bool} : mkB b 0 = 0 := rfl
theorem mkB_s {b : Nat → Bool} {p : Nat} : mkB b (p + 1) = mkB b p ||| (if b p = true then (1 <<< (nI p &&& 31)) else 0 : Int32) := rfl
theorem mk_d : ∀ p, p < 5 → ∀ k, k < 2 ^ p → (nI k ||| (1 <<< (nI p &&& 31))) = nI (k + 2 ^ p) ∧ (nI k ||| 0) = nI k ∧ bt (nI k) p = false ∧ bt (nI (k + 2 ^ p)) p = true ∧ ∀ y, y < p → bt (nI (k + 2 ^ p)) y = bt (nI k) y := by decide +kernel
theorem mkB_k {b : Nat → Bool} {p : Nat} (h5 : p ≤ 5) : ∃ k, k < 2 ^ p ∧ mkB b p = nI k ∧ ∀ y, y < p → bt (nI k) y = b y := by
  induction p with
  | zero => exact ⟨0, by decide, rfl, fun y hy => by omega⟩
  | succ p ih =>
    obtain ⟨k, k1, k2, k3⟩ := ih (by omega)
    obtain ⟨d1, d2, d3, d4, d5⟩ := mk_d p (by omega) k k1
    rw [mkB_s, k2]
    cases hb : b p with
    | true =>
      refine ⟨k + 2 ^ p, by rw [Nat.pow_succ]; omega, by rw [if_pos rfl, d1], fun y hy => ?_⟩
      by_cases e : y = p
      · rw [e, d4, hb]
      · rw [d5 y (by omega), k3 y (by omega)]
    | false =>
      refine ⟨k, by rw [Nat.pow_succ]; omega, by rw [if_neg (by decide), d2], fun y hy => ?_⟩
      by_cases e : y = p
      · rw [e, d3, hb]
      · exact k3 y (by omega)
theorem mkB_c {b c : Nat → Bool} {p : Nat} (H : ∀ i, i < p → b i = c i) : mkB b p = mkB c p := fo_congr fun i hi w => by rw [H i hi]
def sZ : mb_T := (fun _ _ => 0, fun _ _ => 0, fun _ => 0, fun _ => 0, fun _ => false)
def bcI (v : Int32) : Int32 := ((f_I_bitCount 0 v sZ).map Prod.fst).getD 0
theorem p_bitCount {n : Nat} {v : Int32} {s : mb_T} : f_I_bitCount n v s = some (bcI v, s) := rfl
def cnt (b : Nat → Bool) (p : Nat) : Int32 := fo (fun y c => c + if b y = true then 1 else 0) 0 p
theorem cnt_c {b c : Nat → Bool} {p : Nat} (H : ∀ i, i < p → b i = c i) : cnt b p = cnt c p := fo_congr fun i hi w => by rw [H i hi]
theorem bc_d : ∀ p, p < 6 → ∀ m, m < 32 → ∀ k, k < 2 ^ p → bcI (nI m &&& nI k) = cnt (fun y => bt (nI m) y && bt (nI k) y) p := by decide +kernel
theorem bc_1 : ∀ p, p < 6 → ∀ k, k < 2 ^ p → bcI (nI k) = cnt (fun y => bt (nI k) y) p := by decide +kernel
def ofK (k v : Int32) : Bool := decide (k = v) || (decide (v = 1) && (decide (k = 4) || decide (k = 5)))
theorem p_isOfKind {n : Nat} {k v : Int32} {s : mb_T} : f_C_isOfKind n k v s = some ((if ofK k v = true then 1 else 0 : Int32), s) := by
  unfold f_C_isOfKind
  have e : (if k = v then 1 else (if v = 1 then (if k = 4 then 1 else (if k = 5 then 1 else 0 : Int32) : Int32) else 0 : Int32) : Int32) = if ofK k v = true then 1 else 0 := by
    unfold ofK
    by_cases a : k = v
    · simp [a]
    · by_cases b : v = 1
      · by_cases c : k = 4
        · simp [a, b, c]
        · by_cases d : k = 5 <;> simp [a, b, c, d]
      · simp [a, b]
  rw [e, bz10]
