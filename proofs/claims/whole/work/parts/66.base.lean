/-! the pure part: base -/
/-- a loop that runs p times along tr -/
theorem lp {α β : Type} {F : Nat → α → Option β} {R : Option β} (tr : Nat → α) (p : Nat) (hs : ∀ i, i < p → ∀ f, F (f + 1) (tr i) = F f (tr (i + 1))) (hx : ∀ f, F (f + 1) (tr p) = R) : ∀ f, p < f → F f (tr 0) = R := by
  have key : ∀ (d i f : Nat), i + d = p → d < f → F f (tr i) = R := by
    intro d
    induction d with
    | zero =>
      intro i f hi hf
      have : i = p := by omega
      subst this
      obtain ⟨g, rfl⟩ : ∃ g, f = g + 1 := ⟨f - 1, by omega⟩
      exact hx g
    | succ d ih =>
      intro i f hi hf
      obtain ⟨g, rfl⟩ : ∃ g, f = g + 1 := ⟨f - 1, by omega⟩
      rw [hs i (by omega) g]
      exact ih (i + 1) g (by omega) (by omega)
  intro f hf
  exact key p 0 f (by omega) hf
section PB
variable {β : Type} {s : mb_T} {a b i k n q : Nat} {x y : Int32} {g : Nat → Int32} {c : Int32 → Option β} {d : mb_T → Option β} {e : Option β}
theorem nIin (h : i < n) (hn : n < 2 ^ 31) : ¬ (nI i < 0 ∨ n ≤ (nI i).toNatClampNeg) := nI_in h hn
theorem rdI (h : i < n) (hn : n < 2 ^ 31) : mb_rd s a n (nI i) c = c (s.2.1 a i) := by
  unfold mb_rd
  rw [if_neg (nI_in h hn), nI_clamp (by omega)]
theorem wrI (h : i < n) (hn : n < 2 ^ 31) : mb_wr s a n (nI i) x d = d (sA s a i x) := by
  unfold mb_wr
  rw [if_neg (nI_in h hn), nI_clamp (by omega)]
theorem ixI (h : i < n) (hn : n < 2 ^ 31) : mb_ix (nI i) n e = e := by
  unfold mb_ix
  rw [if_neg (nI_in h hn)]
theorem clS {α : Type} {r : α} {f : α → mb_T → Option β} : mb_cl (some (r, s)) f = f r s := rfl
theorem cwS2 {f : mb_T → Option β} : mb_cw (some s) f = f s := rfl
theorem bdS {f : mb_T → Option β} : mb_bd s f = f s := rfl
theorem jnS {α : Type} {u : α} {f : α → Option β} : mb_jn u f = f u := rfl
theorem bz01 {p : Prop} [Decidable p] : mb_bz (if p then 0 else 1) e = e := by
  unfold mb_bz
  split <;> simp
theorem bz10 {p : Prop} [Decidable p] : mb_bz (if p then 1 else 0) e = e := by
  unfold mb_bz
  split <;> simp
theorem bzO (h : x = 0 ∨ x = 1) : mb_bz x e = e := if_pos h
theorem dvN (h : ¬ x = 0) : mb_dv x e = e := if_neg h
-- reading behind writing
theorem sF1 : (sF s i k x).1 a b = if b = k then (if a = i then x else s.1 a b) else s.1 a b := rfl
theorem sF2 : (sF s i k x).2 = s.2 := rfl
theorem sV1 : (sV s q g).1 = s.1 := rfl
theorem sV2 : (sV s q g).2.1 a = if a = q then g else s.2.1 a := rfl
theorem sV3 : (sV s q g).2.2 = s.2.2 := rfl
theorem sA1 : (sA s q i x).1 = s.1 := rfl
theorem sA2 : (sA s q i x).2.1 a = if a = q then upd (s.2.1 q) i x else s.2.1 a := rfl
theorem sA3 : (sA s q i x).2.2 = s.2.2 := rfl
theorem updI : upd g i x k = if k = i then x else g k := rfl
end PB
