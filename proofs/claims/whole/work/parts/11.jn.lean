/-- code that several ways come to -/
def mb_jn {α β : Type} (k : α) (b : α → Option β) : Option β := b k
theorem mb_jn_e {α β : Type} {k : α} {b : α → Option β} {out : β} (h : mb_jn k b = some out) : ∃ j, j = k ∧ b j = some out := ⟨k, rfl, h⟩
theorem vC_isOfKind_st : Cond.static yC_isOfKind ∈ mj_ws := mj_in (i := 489) (by decide +kernel) (by decide +kernel)
