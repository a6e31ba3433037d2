/-! the pure part: orders -/
def pmF (p : Nat) : Nat → List Nat → List (List Nat)
  | 0, pre => [pre]
  | d + 1, pre => (List.range p).flatMap (fun x => if pre.contains x then [] else pmF p d (pre ++ [x]))
def perms (p : Nat) : List (List Nat) := pmF p p []
def loo (l : List Nat) (i : Nat) : Nat := l.getD i i
def pla (o : Nat → Nat) (p : Nat) : Nat → Nat := fo (fun k g => updN g (o k) k) (fun x => x) p
def okO (p : Nat) (o : Nat → Nat) (r : Bool) : Bool := (List.range p).all fun x => decide (sitB o p r x = nI (sitB o p r x).toNatClampNeg) && decide ((sitB o p r x).toNatClampNeg < 32) && decide (o x < p) && decide (pla o p x < 5) && (List.range p).all fun y => (bt (sitB o p r x) y == bt (sitB o p r y) x) && (bt (sitB o p r x) y == besd p r (pla o p x) (pla o p y))
def swp (a b k : Nat) : Nat := if k = a then b else if k = b then a else k
theorem okP_d : ∀ p, p < 6 → ∀ r : Bool, ((perms p).all fun l => okO p (loo l) r) = true := by decide +kernel
theorem okS_d : ∀ p, p < 6 → ∀ a, a < p → ∀ b, b < p → ∀ r : Bool, okO p (swp a b) r = true := by decide +kernel
/-- the next order, by numbers -/
def rsO (g : Nat → Nat) : Nat → Option Nat
  | 0 => none
  | k + 1 => if g k ≤ g (k + 1) then some k else rsO g k
def grO (g : Nat → Nat) (i : Nat) : Nat → Nat
  | 0 => 0
  | k + 1 => if k + 1 ≤ i then k + 1 else if g i ≤ g (k + 1) then k + 1 else grO g i k
def xc (g : Nat → Nat) (a b : Nat) : Nat → Nat := updN (updN g a (g b)) b (g a)
def rvO : Nat → Nat → Nat → (Nat → Nat) → Nat → Nat
  | 0, _, _, g => g
  | f + 1, a, b, g => if b ≤ a then g else rvO f (a + 1) (b - 1) (xc g a b)
def nxO (p : Nat) (g : Nat → Nat) : Option (Nat → Nat) := match rsO g (p - 1) with
  | none => none
  | some i => some (rvO 5 (i + 1) (p - 1) (xc g i (grO g i (p - 1))))
def sameO (g h : Nat → Nat) : Bool := (List.range 5).all fun i => g i == h i
/-- one order behind the other -/
def chn (p : Nat) : List (List Nat) → Bool
  | [] => false
  | [l] => (nxO p (loo l)).isNone
  | l :: l2 :: ls => (match nxO p (loo l) with | none => false | some g => sameO g (loo l2)) && chn p (l2 :: ls)
theorem chn_d : ∀ p, p < 6 → 1 ≤ p → chn p (perms p) = true := by decide +kernel
theorem perms_h : ∀ p, p < 6 → (perms p).length ≤ 120 ∧ (match perms p with | [] => false | l :: _ => sameO (loo l) (fun x => x)) = true := by decide +kernel
