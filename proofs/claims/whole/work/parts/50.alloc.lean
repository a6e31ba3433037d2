/-! rows that make cells -/
/-! ===== BEGIN new T[n][m]: the outer array a place, the inner ones among the pooled ===== -/
/-- f, but v at every address of l -/
def vr_up {α : Type} (f : Nat → α) (l : List Nat) (v : α) : Nat → α := fun a => if a ∈ l then v else f a
theorem vr_up_in {α : Type} {f : Nat → α} {l : List Nat} {v : α} {a : Nat} (h : a ∈ l) : vr_up f l v a = v := if_pos h
theorem vr_up_ne {α : Type} {f : Nat → α} {l : List Nat} {v : α} {a : Nat} (h : a ∉ l) : vr_up f l v a = f a := if_neg h
theorem vr_rows {L l : List Nat} {f : Nat → va_E} {e : va_E} (h : ∀ a, a ∈ l → a ∉ L) : va_pl L f ++ l.map (fun a => (a, e)) = va_pl (L ++ l) (vr_up f l e) := by
  unfold va_pl
  rw [List.map_append]
  congr 1
  · apply List.map_congr_left
    intro a ha
    rw [vr_up_ne (fun q => h a q ha)]
  · apply List.map_congr_left
    intro a ha
    rw [vr_up_in ha]
theorem vr_lay {X rows : va_W} {x : Nat × va_E} {pl : va_W} {D : va_G} {cl : List vw_C} {H : Heap} (hP : va_P D cl (((X ++ pl) ++ [x]) ++ rows) H) : va_P D cl ((X ++ [x]) ++ (pl ++ rows)) H := by
  rw [List.append_assoc (X ++ pl)] at hP
  have h := va_P.swap hP
  rw [← List.append_assoc X] at h
  have h2 := va_P.swap h
  rw [List.append_assoc (X ++ [x])] at h2
  exact h2
theorem vr_layD {X rows : va_W} {x : Nat × va_E} {pl : va_W} {A : Nat → Prop} (hD : va_D A (((X ++ pl) ++ [x]) ++ rows)) : va_D A ((X ++ [x]) ++ (pl ++ rows)) := by
  rw [List.append_assoc (X ++ pl)] at hD
  have h := va_D.swap hD
  rw [← List.append_assoc X] at h
  have h2 := va_D.swap h
  rw [List.append_assoc (X ++ [x])] at h2
  exact h2
theorem vr_outer (c : ClassId) (N h0 : Nat) : ∀ i : Nat, Jvm.Free.Multi.outerC c N h0 i = arrV c N (fun j => va_rf (if j < i then some (h0 + 1 + j) else none))
  | 0 => by
    show ({ cls := c, slots := Array.replicate N .null, vm := .none } : Cell) = _
    rw [arrV_new]
    refine congrArg (arrV c N) (funext fun j => ?_)
    simp [va_rf]
  | i + 1 => by
    show (Jvm.Free.Multi.outerC c N h0 i).setSlot i (.ref (h0 + 1 + i)) = _
    rw [vr_outer c N h0 i, arrV_store]
    refine congrArg (arrV c N) (funext fun j => ?_)
    by_cases e : j = i
    · subst e
      simp [updV, va_rf]
    · by_cases h : j < i
      · simp [updV, e, h, Nat.lt_succ_of_lt h]
      · simp [updV, e, h, show ¬ j < i + 1 by omega]
section VGM
variable {p : Program} {l : Launch} {e : Env} {R : Room} {s : State} {m : MethodId} {args : Array Value} {below : List Frame} {meth : Method} {c : Code} {H : Heap} {locs : List Loc} {cells slots : Nat} {Q : State → Prop}
variable {cc : ByteArray} {pc : Nat} {ls : Array Slot} {rest : List Value} {D : va_G} {cl : List vw_C} {A : Nat → Prop} {a : Nat} {tys : List (ClassId × FieldType)} {ws : va_W} {H0 : Heap}
theorem va_mna {X : va_W} {L : List Nat} {f : Nat → va_E} {cc : ByteArray} (hexec : p.tables.exec = Jvm.exec) (hb : c.code = cc) {own : String} {index : Nat} {ty : FieldType} {cy : ClassId} (hown : s.vm.findClass own = some m.cls) (hclink : (Cond.classLink own index ("[" ++ (FieldType.array ty).toString)).before args s = true) (hover : va_AOA ty s) (harr : (Cond.arrayClass ty).before args s = true) (hcy : s.vm.findClass (FieldType.array ty).toString = some cy)
    (hK : va_K D cl tys s) (hP : va_P D cl (X ++ va_pl L f) H) (hD : va_D A (X ++ va_pl L f)) (hS : va_S A H0 H locs) (hA : ∀ q, H0.size ≤ q → A q) {n k : Int32} {N' K' : Nat} {z : vp_A} (hn : ¬ n < 0) (hk : ¬ k < 0) (hN : n.toNatClampNeg = N') (hM : k.toNatClampNeg = K')
    (hb1 : N' * 4 ≤ 536870912) (hb2 : K' * componentBytes ty ≤ 536870912) (hb3 : K' ≤ 536870912) (hdf : fits ty (defaultValue ty) = true) (hdd : (defaultValue ty).isDefault = true) (hcells : cells + (1 + N') ≤ R.cells) (hslots : slots + (N' + N' * K') ≤ R.slots) (hz : ∀ c : ClassId, Jvm.Free.Multi.innerC c K' (defaultValue ty) = vp_cell c z) (hdg : decode cc pc = .ok (.multianewarray index 2, 4))
    (kk : ∀ (q : Nat) (r : Nat → Nat) (cA : ClassId) (H1 : Heap), (∀ i j : Nat, i < N' → j < N' → r i = r j → i = j) → (∀ i : Nat, i < N' → r i ∉ L) → va_K D cl (tys ++ [(cA, .array ty)]) s →
      va_P D cl ((X ++ [(q, .inl (cA, N', .inr (.inr (.inr (.inr (fun i => if i < N' then some (r i) else none))))))]) ++ va_pl (L ++ (List.range N').map r) (vr_up f ((List.range N').map r) (.inl (cy, z)))) H1 → va_D A ((X ++ [(q, .inl (cA, N', .inr (.inr (.inr (.inr (fun i => if i < N' then some (r i) else none))))))]) ++ va_pl (L ++ (List.range N').map r) (vr_up f ((List.range N').map r) (.inl (cy, z)))) → va_S A H0 H1 locs →
      W p l e R s m args below meth c H1 locs (cells + 1 + N') (slots + N' + N' * K') Q (F0 m (pc + 4) ls (.ref q :: rest))) : W p l e R s m args below meth c H locs cells slots Q (F0 m pc ls (.int k :: .int n :: rest)) := by
  subst hN
  subst hM
  intro T hT Xs
  obtain ⟨vm₁, cA, comp, -, fA, fC, hO, -, X', step⟩ := Xs.multianewarray2F hexec hown hclink (va_AOA.use hover) harr (g := F0 m pc ls (.int k :: .int n :: rest)) rfl (by rw [hb]; exact hdg) rfl hn hk hb1 hb2 hb3 hdf hdd hcells hslots
  have ec : some cy = some comp := hcy.symm.trans fC
  cases ec
  generalize hF : Jvm.Free.Multi.fill (T.setVm vm₁) cA cy n.toNatClampNeg k.toNatClampNeg (defaultValue ty) n.toNatClampNeg = F at X' step
  have hTh : (T.setVm vm₁).heap = H := hT
  obtain ⟨f1, f2, -, -⟩ := Jvm.Free.Multi.fill_facts (T.setVm vm₁) cA cy n.toNatClampNeg k.toNatClampNeg (defaultValue ty) n.toNatClampNeg
  rw [hF, hTh] at f1 f2
  have hold : ∀ x : Nat, x < H.size → F.heap[x]? = H[x]? := fun x hx => by
    have := Jvm.Free.Multi.fill_old (T.setVm vm₁) cA cy n.toNatClampNeg k.toNatClampNeg (defaultValue ty) (a := x) (by rw [hTh]; exact hx) n.toNatClampNeg
    rw [hF, hTh] at this
    exact this
  have hrow : ∀ j : Nat, j < n.toNatClampNeg → F.heap[H.size + 1 + j]? = some (vp_cell cy z) := fun j hj => by
    have := Jvm.Free.Multi.fill_inner (T.setVm vm₁) cA cy n.toNatClampNeg k.toNatClampNeg (defaultValue ty) n.toNatClampNeg j hj
    rw [hF, hTh, hz] at this
    exact this
  have hout : Jvm.Free.Multi.outerC cA n.toNatClampNeg H.size n.toNatClampNeg = vp_cell cA (n.toNatClampNeg, .inr (.inr (.inr (.inr (fun i => if i < n.toNatClampNeg then some (H.size + 1 + i) else none))))) := by
    rw [vp_cell_q]
    exact vr_outer cA n.toNatClampNeg H.size n.toNatClampNeg
  rw [hout] at f2
  have hlt : ∀ a, a ∈ L → a < H.size := fun a ha => by
    obtain ⟨k9, hk9⟩ := va_pl_get (X := X) (f := f) ha
    exact (hP k9 _ hk9).lt
  have hnl : ∀ i : Nat, i < n.toNatClampNeg → H.size + 1 + i ∉ L := fun i _ h => by
    have := hlt _ h
    omega
  have hnm : ∀ a, a ∈ (List.range n.toNatClampNeg).map (fun i => H.size + 1 + i) → a ∉ L := fun a ha h => by
    obtain ⟨i, -, rfl⟩ := List.mem_map.mp ha
    have := hlt _ h
    omega
  have hP0 : va_P D cl (X ++ va_pl L f) F.heap := hP.kept (fun k9 x hx => hold x.1 ((hP k9 x hx).lt))
  have hP1 : va_P D cl ((X ++ va_pl L f) ++ [(H.size, .inl (cA, n.toNatClampNeg, .inr (.inr (.inr (.inr (fun i => if i < n.toNatClampNeg then some (H.size + 1 + i) else none))))))]) F.heap := hP0.app (fun k9 x hx => by
    have h0 : k9 < 1 := (List.getElem?_eq_some_iff.mp hx).1
    rw [show k9 = 0 by omega] at hx
    cases hx
    exact f2)
  have hP2 : va_P D cl (((X ++ va_pl L f) ++ [(H.size, .inl (cA, n.toNatClampNeg, .inr (.inr (.inr (.inr (fun i => if i < n.toNatClampNeg then some (H.size + 1 + i) else none))))))]) ++ ((List.range n.toNatClampNeg).map (fun i => H.size + 1 + i)).map (fun a => (a, .inl (cy, z)))) F.heap := hP1.app (fun k9 x hx => by
    obtain ⟨a, ha, rfl⟩ := List.mem_map.mp (List.mem_of_getElem? hx)
    obtain ⟨i, hi, rfl⟩ := List.mem_map.mp ha
    exact hrow i (List.mem_range.mp hi))
  have hD2 : va_D A (((X ++ va_pl L f) ++ [(H.size, .inl (cA, n.toNatClampNeg, .inr (.inr (.inr (.inr (fun i => if i < n.toNatClampNeg then some (H.size + 1 + i) else none))))))]) ++ ((List.range n.toNatClampNeg).map (fun i => H.size + 1 + i)).map (fun a => (a, .inl (cy, z)))) := by
    have hD1 := hD.push (e := .inl (cA, n.toNatClampNeg, .inr (.inr (.inr (.inr (fun i => if i < n.toNatClampNeg then some (H.size + 1 + i) else none)))))) hP rfl (hA _ hS.1)
    generalize hW1 : (X ++ va_pl L f) ++ [(H.size, .inl (cA, n.toNatClampNeg, .inr (.inr (.inr (.inr (fun i => if i < n.toNatClampNeg then some (H.size + 1 + i) else none))))))] = W1 at hD1 hP1 ⊢
    have hle : ∀ (k9 : Nat) (x : Nat × va_E), W1[k9]? = some x → x.1 ≤ H.size := fun k9 x hx => by
      rw [← hW1] at hx
      by_cases hl : k9 < (X ++ va_pl L f).length
      · rw [List.getElem?_append_left hl] at hx
        exact Nat.le_of_lt ((hP k9 x hx).lt)
      · rw [List.getElem?_append_right (by omega)] at hx
        have h0 : k9 - (X ++ va_pl L f).length < 1 := (List.getElem?_eq_some_iff.mp hx).1
        rw [show k9 - (X ++ va_pl L f).length = 0 by omega] at hx
        cases hx
        exact Nat.le_refl _
    have hr : ∀ (k9 : Nat) (x : Nat × va_E), (((List.range n.toNatClampNeg).map (fun i => H.size + 1 + i)).map (fun a => ((a, .inl (cy, z)) : Nat × va_E)))[k9]? = some x → x.1 = H.size + 1 + k9 := fun k9 x hx => by
      rw [List.getElem?_map, List.getElem?_map] at hx
      by_cases h9 : k9 < n.toNatClampNeg
      · rw [List.getElem?_range h9] at hx
        cases hx
        rfl
      · have hn0 : (List.range n.toNatClampNeg)[k9]? = none := List.getElem?_eq_none (by rw [List.length_range]; omega)
        rw [hn0] at hx
        cases hx
    refine ⟨fun i j x y hi hj hxy => ?_, fun k9 x hx => ?_⟩
    · by_cases h1 : i < W1.length <;> by_cases h2 : j < W1.length
      · rw [List.getElem?_append_left h1] at hi
        rw [List.getElem?_append_left h2] at hj
        exact hD1.1 i j x y hi hj hxy
      · rw [List.getElem?_append_left h1] at hi
        rw [List.getElem?_append_right (by omega)] at hj
        have := hle _ _ hi
        have := hr _ _ hj
        omega
      · rw [List.getElem?_append_right (by omega)] at hi
        rw [List.getElem?_append_left h2] at hj
        have := hle _ _ hj
        have := hr _ _ hi
        omega
      · rw [List.getElem?_append_right (by omega)] at hi hj
        have := hr _ _ hi
        have := hr _ _ hj
        omega
    · by_cases h1 : k9 < W1.length
      · rw [List.getElem?_append_left h1] at hx
        exact hD1.2 k9 x hx
      · rw [List.getElem?_append_right (by omega)] at hx
        have := hr _ _ hx
        exact hA _ (by have := hS.1; omega)
  have hAr : ArrOfT s cA (.array ty) := fun N9 z9 => by
    obtain ⟨-, k9, hk9, cm9, hkk9⟩ := (hO 0 0 0).1
    exact ⟨(fun q hq => by cases hq), k9, hk9, cm9, hkk9⟩
  have hK2 : va_K D cl (tys ++ [(cA, .array ty)]) s := ⟨hK.1, fun k9 x hx => by
    by_cases hl : k9 < tys.length
    · rw [List.getElem?_append_left hl] at hx
      exact hK.2 k9 x hx
    · rw [List.getElem?_append_right (by omega)] at hx
      have h0 : k9 - tys.length < 1 := (List.getElem?_eq_some_iff.mp hx).1
      rw [show k9 - tys.length = 0 by omega] at hx
      cases hx
      exact ⟨hAr, fA⟩⟩
  obtain ⟨t, a1, b1⟩ := kk H.size (fun i => H.size + 1 + i) cA F.heap (fun i j _ _ h => by have h9 : H.size + 1 + i = H.size + 1 + j := h; omega) hnl hK2 (by rw [← vr_rows hnm]; exact vr_lay hP2) (by rw [← vr_rows hnm]; exact vr_layD hD2) ⟨by rw [f1]; have := hS.1; omega, fun x h1 h2 => (hold x (Nat.lt_of_lt_of_le h1 hS.1)).trans (hS.2.1 x h1 h2), hS.2.2⟩ F rfl X'
  refine ⟨t, step t ?_, b1⟩
  have e : T.heap.size = H.size := by rw [hT]
  rw [e]
  exact a1
end VGM
/-! ===== END ===== -/
theorem mj_acI : Cond.arrayClass .int ∈ mj_ws := mj_in (i := 178) (by decide +kernel) (by decide +kernel)
theorem mj_acB : Cond.arrayClass .byte ∈ mj_ws := mj_in (i := 179) (by decide +kernel) (by decide +kernel)
theorem mj_oi : Cond.instanceMethod Lib.objectInit ∈ mj_ws ∧ Cond.code Lib.objectInit ⟨#[0xb1]⟩ 1 none ∈ mj_ws := ⟨mj_in (i := 97) (by decide +kernel) (by decide +kernel), mj_in (i := 98) (by decide +kernel) (by decide +kernel)⟩
theorem oi_C : Cond.methodLink RC_c 1 Lib.objectInit ∈ mj_ws := mj_in (i := 96) (by decide +kernel) (by decide +kernel)
theorem oi_V : Cond.methodLink RV_c 3 Lib.objectInit ∈ mj_ws := mj_in (i := 108) (by decide +kernel) (by decide +kernel)
theorem oi_R : Cond.methodLink RR_c 3 Lib.objectInit ∈ mj_ws := mj_in (i := 186) (by decide +kernel) (by decide +kernel)
theorem oi_A : Cond.methodLink RA_c 3 Lib.objectInit ∈ mj_ws := mj_in (i := 205) (by decide +kernel) (by decide +kernel)
theorem oi_S : Cond.methodLink RS_c 3 Lib.objectInit ∈ mj_ws := mj_in (i := 273) (by decide +kernel) (by decide +kernel)
theorem oi_M : Cond.methodLink RM_c 1 Lib.objectInit ∈ mj_ws := mj_in (i := 901) (by decide +kernel) (by decide +kernel)
theorem nwL_7 : Cond.classLink RL_c 7 RC_c ∈ mj_ws ∧ Cond.instantiable RC_c 15 ∈ mj_ws ∧ Cond.initialized RC_c ∈ mj_ws := ⟨mj_in (i := 91) (by decide +kernel) (by decide +kernel), mj_in (i := 92) (by decide +kernel) (by decide +kernel), mj_in (i := 81) (by decide +kernel) (by decide +kernel)⟩
theorem nwL_10 : Cond.classLink RL_c 10 RM_c ∈ mj_ws ∧ Cond.instantiable RM_c 45 ∈ mj_ws ∧ Cond.initialized RM_c ∈ mj_ws := ⟨mj_in (i := 896) (by decide +kernel) (by decide +kernel), mj_in (i := 897) (by decide +kernel) (by decide +kernel), mj_in (i := 87) (by decide +kernel) (by decide +kernel)⟩
theorem nwC_26 : Cond.classLink RC_c 26 RV_c ∈ mj_ws ∧ Cond.instantiable RV_c 13 ∈ mj_ws ∧ Cond.initialized RV_c ∈ mj_ws := ⟨mj_in (i := 103) (by decide +kernel) (by decide +kernel), mj_in (i := 104) (by decide +kernel) (by decide +kernel), mj_in (i := 82) (by decide +kernel) (by decide +kernel)⟩
theorem nwC_40 : Cond.classLink RC_c 40 RR_c ∈ mj_ws ∧ Cond.instantiable RR_c 4 ∈ mj_ws ∧ Cond.initialized RR_c ∈ mj_ws := ⟨mj_in (i := 181) (by decide +kernel) (by decide +kernel), mj_in (i := 182) (by decide +kernel) (by decide +kernel), mj_in (i := 83) (by decide +kernel) (by decide +kernel)⟩
theorem nwC_47 : Cond.classLink RC_c 47 RA_c ∈ mj_ws ∧ Cond.instantiable RA_c 17 ∈ mj_ws ∧ Cond.initialized RA_c ∈ mj_ws := ⟨mj_in (i := 200) (by decide +kernel) (by decide +kernel), mj_in (i := 201) (by decide +kernel) (by decide +kernel), mj_in (i := 84) (by decide +kernel) (by decide +kernel)⟩
theorem nwC_54 : Cond.classLink RC_c 54 RS_c ∈ mj_ws ∧ Cond.instantiable RS_c 6 ∈ mj_ws ∧ Cond.initialized RS_c ∈ mj_ws := ⟨mj_in (i := 268) (by decide +kernel) (by decide +kernel), mj_in (i := 269) (by decide +kernel) (by decide +kernel), mj_in (i := 85) (by decide +kernel) (by decide +kernel)⟩
theorem cl_9 : Cond.classLink RC_c 9 "[[I" ∈ mj_ws := mj_in (i := 99) (by decide +kernel) (by decide +kernel)
theorem cl_18 : Cond.classLink RC_c 18 "[[B" ∈ mj_ws := mj_in (i := 101) (by decide +kernel) (by decide +kernel)
theorem cl_26 : Cond.classLink RC_c 26 "LampCave$Cave" ∈ mj_ws := mj_in (i := 103) (by decide +kernel) (by decide +kernel)
theorem inC : Cond.methodLink RL_c 9 yC_init ∈ mj_ws ∧ Cond.instanceMethod yC_init ∈ mj_ws := ⟨mj_in (i := 93) (by decide +kernel) (by decide +kernel), mj_in (i := 94) (by decide +kernel) (by decide +kernel)⟩
theorem inM : Cond.methodLink RL_c 12 yM_init ∈ mj_ws ∧ Cond.instanceMethod yM_init ∈ mj_ws := ⟨mj_in (i := 898) (by decide +kernel) (by decide +kernel), mj_in (i := 899) (by decide +kernel) (by decide +kernel)⟩
theorem inV : Cond.instanceMethod yV_init ∈ mj_ws := mj_in (i := 106) (by decide +kernel) (by decide +kernel)
theorem inR : Cond.instanceMethod yR_init ∈ mj_ws := mj_in (i := 184) (by decide +kernel) (by decide +kernel)
theorem inA : Cond.instanceMethod yA_init ∈ mj_ws := mj_in (i := 203) (by decide +kernel) (by decide +kernel)
theorem inS : Cond.instanceMethod yS_init ∈ mj_ws := mj_in (i := 271) (by decide +kernel) (by decide +kernel)
def df_A : List Value := [.int 0, .int 0, .int 0, .int 0, .int 0, .int 0, .int 0, .null, .null, .null, .null, .null, .null, .null, .null, .null, .null]
def df_V : List Value := [.int 0, .int 0, .int 0, .int 0, .int 0, .null, .null, .null, .null, .null, .null, .null, .null]
def df_R : List Value := [.null, .int 0, .int 0, .int 0]
def df_S : List Value := [.null, .int 0, .int 0, .null, .int 0, .int 0]
def df_C : List Value := [.null, .null, .null, .null, .null, .null, .null, .null, .null, .null, .null, .null, .null, .int 0, .int 0]
def df_M : List Value := [.int 0, .null, .int 0, .null, .null, .null, .null, .null, .int 0, .int 0, .int 0, .int 0, .null, .null, .null, .null, .null, .int 0, .int 0, .int 0, .int 0, .int 0, .int 0, .null, .int 0, .int 0, .null, .null, .null, .null, .null, .int 0, .null, .int 0, .null, .null, .null, .int 0, .int 0, .null, .null, .int 0, .int 0, .int 0, .long 0]
theorem mj_e_agree {ad ad' : Nat → Nat} {cA : Nat → ClassId} {L : List Nat} (ha : ∀ i ∈ L, ad' i = ad i) (h9 : ad' 999 = ad 999) {x : mj_E} (hx : mj_re L x) : mj_e ad' cA x = mj_e ad cA x := by
  match x, hx with
  | .inr (c, fs), hx =>
    show Sum.inr (c, fs.map (mj_v ad')) = Sum.inr (c, fs.map (mj_v ad))
    rw [List.map_congr_left (fun w hw => mj_v_agree ha h9 (hx w hw))]
  | .inl (t, (n, .inl f)), _ => rfl
  | .inl (t, (n, .inr (.inl f))), _ => rfl
  | .inl (t, (n, .inr (.inr (.inl f)))), _ => rfl
  | .inl (t, (n, .inr (.inr (.inr (.inl f))))), _ => rfl
  | .inl (t, (n, .inr (.inr (.inr (.inr f))))), hx =>
    show (Sum.inl (cA t, n, .inr (.inr (.inr (.inr (fun j => (f j).map ad'))))) : va_E) = Sum.inl (cA t, n, .inr (.inr (.inr (.inr (fun j => (f j).map ad)))))
    have : (fun j => (f j).map ad') = (fun j => (f j).map ad) := by
      funext j
      cases hf : f j with
      | none => rfl
      | some i => show some (ad' i) = some (ad i); rw [ha i (hx n f rfl j i hf)]
    rw [this]
theorem mj_re_mono {L L2 : List Nat} (hL : ∀ i ∈ L, i ∈ L2) {x : mj_E} (hx : mj_re L x) : mj_re L2 x := by
  match x, hx with
  | .inr (c, fs), hx => exact fun w hw i hi => hL i (hx w hw i hi)
  | .inl (t, a), hx => exact fun n f e j i hi => hL i (hx n f e j i hi)
/-- the state with one cell more -/
def mj_nw (S : mj_S) (i : Nat) (x : mj_E) : mj_S := (S.1 ++ [i], fun j => if j = i then x else S.2 j)
def mj_ad (ad : Nat → Nat) (i q : Nat) : Nat → Nat := fun j => if j = i then q else ad j
theorem mj_w_nw {ad : Nat → Nat} {cA : Nat → ClassId} {S : mj_S} {i q : Nat} {x : mj_E} (hcs : mj_cs S) (hi : i ∉ S.1) (h9 : i ≠ 999) (hx : mj_re S.1 x) : mj_w (mj_ad ad i q) cA (mj_nw S i x) = mj_w ad cA S ++ [(q, mj_e ad cA x)] := by
  have hag : ∀ j ∈ S.1, mj_ad ad i q j = ad j := fun j hj => if_neg (fun (e : j = i) => hi (e ▸ hj))
  have hag9 : mj_ad ad i q 999 = ad 999 := if_neg (fun e => h9 e.symm)
  unfold mj_w mj_nw
  rw [List.map_append]
  congr 1
  · apply List.map_congr_left
    intro j hj
    have hji : j ≠ i := fun e => hi (e ▸ hj)
    show (mj_ad ad i q j, mj_e (mj_ad ad i q) cA (if j = i then x else S.2 j)) = _
    rw [if_neg hji, hag j hj, mj_e_agree hag hag9 (hcs.2.1 j hj)]
  · show [(mj_ad ad i q i, mj_e (mj_ad ad i q) cA (if i = i then x else S.2 i))] = _
    rw [if_pos rfl, mj_e_agree hag hag9 hx]
    show [((if i = i then q else ad i), mj_e ad cA x)] = _
    rw [if_pos rfl]
theorem mj_H.nw {s : State} {nL mc ms : Nat} {D : va_G} {cA : Nat → ClassId} {ad0 : Nat → Nat} {L0 : List Nat} {A : Nat → Prop} {u v u2 v2 : Nat} {lv st st' : List Value} {S : mj_S} {ad : Nat → Nat} {H H1 : Heap} {locs : List Loc} {ls : Array Slot} {i q : Nat} {x : mj_E} (h : mj_H s nL mc ms D cA ad0 L0 A u v lv st S ad H locs ls) (hi : i ∉ S.1) (h9 : i ≠ 999) (hx : mj_re S.1 x) (hb : u2 ≤ mc ∧ v2 ≤ ms) (hst : mj_rl S.1 st') (hP : va_P D mj_cl (mj_w ad cA S ++ [(q, mj_e ad cA x)]) H1) (hD : va_D A (mj_w ad cA S ++ [(q, mj_e ad cA x)])) (hS : va_S A s.heap H1 locs) : mj_H s nL mc ms D cA ad0 L0 A u2 v2 lv (.ref i :: st') (mj_nw S i x) (mj_ad ad i q) H1 locs ls ∧ (Value.ref i :: st').map (mj_v (mj_ad ad i q)) = .ref q :: st'.map (mj_v ad) := by
  have hag : ∀ j ∈ S.1, mj_ad ad i q j = ad j := fun j hj => if_neg (fun (e : j = i) => hi (e ▸ hj))
  have hag9 : mj_ad ad i q 999 = ad 999 := if_neg (fun e => h9 e.symm)
  have hsub : ∀ j ∈ S.1, j ∈ (mj_nw S i x).1 := fun j hj => List.mem_append_left _ hj
  refine ⟨⟨hb, ⟨fun j hj => ?_, fun j hj => hsub j (h.2.1.2 j hj)⟩, ⟨?_, fun j hj => ?_, ?_⟩, mj_rl_c (fun k hk => by cases hk; exact List.mem_append_right _ List.mem_cons_self) (mj_rl_mono hst hsub), mj_rl_mono h.hrl hsub, ?_, ?_, hS, h.hls.1, h.hls.2.1, fun k y hk hu => ?_⟩, ?_⟩
  · rcases hj with hj | hj
    · rw [hag j (h.2.1.2 j hj)]; exact h.2.1.1 j (Or.inl hj)
    · have h1 : j ≠ i := fun e => hj (by rw [e]; exact List.mem_append_right _ List.mem_cons_self)
      have h2 : j ∉ S.1 := fun e => hj (hsub j e)
      show (if j = i then q else ad j) = ad0 j
      rw [if_neg h1]; exact h.2.1.1 j (Or.inr h2)
  · show (S.1 ++ [i]).Nodup
    rw [List.nodup_append]
    refine ⟨h.hcs.1, by simp, fun a ha b hb e => ?_⟩
    rw [List.mem_singleton] at hb
    exact hi (by rw [← hb, ← e]; exact ha)
  · show mj_re (S.1 ++ [i]) (if j = i then x else S.2 j)
    by_cases e : j = i
    · rw [if_pos e]; exact mj_re_mono (fun k hk => List.mem_append_left _ hk) hx
    · rw [if_neg e]
      rcases List.mem_append.mp hj with hj | hj
      · exact mj_re_mono (fun k hk => List.mem_append_left _ hk) (h.hcs.2.1 j hj)
      · exact absurd (List.mem_singleton.mp hj) e
  · intro e
    rcases List.mem_append.mp e with e | e
    · exact h.hcs.2.2 e
    · exact h9 (List.mem_singleton.mp e).symm
  · rw [mj_w_nw h.hcs hi h9 hx]; exact hP
  · rw [mj_w_nw h.hcs hi h9 hx]; exact hD
  · rw [mj_v_agree hag hag9 (mj_rl_at h.hrl hk)]; exact h.hls.2.2 k y hk hu
  · rw [List.map_cons]
    congr 1
    · show Value.ref (if i = i then q else ad i) = _
      rw [if_pos rfl]
    · exact List.map_congr_left fun w hw => mj_v_agree hag hag9 (hst w hw)
section MJN
variable {d mc ms nL : Nat} {own mn : String} {cc : ByteArray} {K : mj_KT} {u v pc : Nat} {lv st : List Value} {S : mj_S}
theorem ro_newI (hK : mj_C d mc ms own mn cc nL K) {i N : Nat} {n : Int32} (hn : ¬ n < 0) (hN : n.toNatClampNeg = N) (hb4 : N * 4 ≤ 536870912) (hi : i ∉ S.1) (h9 : i ≠ 999) (hf : u + 1 ≤ mc ∧ v + N ≤ ms) (dg : decode cc pc = .ok (.newarray .int, 2)) (k : K (u + 1) (v + N) (pc + 2) lv (.ref i :: st) (mj_nw S i (.inl (0, N, .inl (fun _ => 0))))) : K u v pc lv (.int n :: st) S := by
  obtain ⟨p, l, e, R, s, m, args, below, meth, c, D, cA, ad0, L0, A, Q, hx, hb, hml, hown, hts, hU, hA, hmn, hR, rfl⟩ := hK
  intro ad H locs ls h
  refine va_newa (D := D) (atype := .int) (ty := .int) (a0 := (N, .inl (fun _ => 0))) hx hb (hts _ mj_acI) rfl hU.1 h.hP h.hD h.hS hA (fun _ => rfl) hn hN hb4 (Nat.le_trans hf.1 hR.2.2.1) (Nat.le_trans hf.2 hR.2.2.2) dg (fun q cB H1 hK1 hP1 hD1 hS1 => ?_)
  have ec : cB = cA 0 := by
    have e1 : s.vm.findClass ("[" ++ FieldType.int.toString) = some cB := (hK1.2 5 (cB, .int) rfl).2
    have e2 : s.vm.findClass ("[" ++ FieldType.int.toString) = some (cA 0) := (hU.1.2 0 (cA 0, .int) rfl).2
    exact Option.some.inj (e1.symm.trans e2)
  subst ec
  obtain ⟨g1, g2⟩ := h.nw (x := .inl (0, N, .inl (fun _ => 0))) (q := q) (st' := st) (u2 := u + 1) (v2 := v + N) hi h9 (fun a b z => by cases z) hf (mj_rl_t h.hrs) hP1 hD1 hS1
  have := k _ _ _ _ g1
  rw [g2] at this
  exact this
theorem ro_newB (hK : mj_C d mc ms own mn cc nL K) {i N : Nat} {n : Int32} (hn : ¬ n < 0) (hN : n.toNatClampNeg = N) (hb4 : N * 1 ≤ 536870912) (hi : i ∉ S.1) (h9 : i ≠ 999) (hf : u + 1 ≤ mc ∧ v + N ≤ ms) (dg : decode cc pc = .ok (.newarray .byte, 2)) (k : K (u + 1) (v + N) (pc + 2) lv (.ref i :: st) (mj_nw S i (.inl (1, N, .inl (fun _ => 0))))) : K u v pc lv (.int n :: st) S := by
  obtain ⟨p, l, e, R, s, m, args, below, meth, c, D, cA, ad0, L0, A, Q, hx, hb, hml, hown, hts, hU, hA, hmn, hR, rfl⟩ := hK
  intro ad H locs ls h
  refine va_newa (D := D) (atype := .byte) (ty := .byte) (a0 := (N, .inl (fun _ => 0))) hx hb (hts _ mj_acB) rfl hU.1 h.hP h.hD h.hS hA (fun _ => rfl) hn hN hb4 (Nat.le_trans hf.1 hR.2.2.1) (Nat.le_trans hf.2 hR.2.2.2) dg (fun q cB H1 hK1 hP1 hD1 hS1 => ?_)
  have ec : cB = cA 1 := by
    have e1 : s.vm.findClass ("[" ++ FieldType.byte.toString) = some cB := (hK1.2 5 (cB, .byte) rfl).2
    have e2 : s.vm.findClass ("[" ++ FieldType.byte.toString) = some (cA 1) := (hU.1.2 1 (cA 1, .byte) rfl).2
    exact Option.some.inj (e1.symm.trans e2)
  subst ec
  obtain ⟨g1, g2⟩ := h.nw (x := .inl (1, N, .inl (fun _ => 0))) (q := q) (st' := st) (u2 := u + 1) (v2 := v + N) hi h9 (fun a b z => by cases z) hf (mj_rl_t h.hrs) hP1 hD1 hS1
  have := k _ _ _ _ g1
  rw [g2] at this
  exact this
/-- new caves' array, of nulls -/
theorem ro_newQ (hK : mj_C d mc ms RC_c mn cc nL K) {i N : Nat} {n : Int32} (hn : ¬ n < 0) (hN : n.toNatClampNeg = N) (hb4 : N * 4 ≤ 536870912) (hi : i ∉ S.1) (h9 : i ≠ 999) (hf : u + 1 ≤ mc ∧ v + N ≤ ms) (dg : decode cc pc = .ok (.anewarray 26, 3)) (k : K (u + 1) (v + N) (pc + 3) lv (.ref i :: st) (mj_nw S i (.inl (4, N, .inr (.inr (.inr (.inr (fun _ => none)))))))) : K u v pc lv (.int n :: st) S := by
  obtain ⟨p, l, e, R, s, m, args, below, meth, c, D, cA, ad0, L0, A, Q, hx, hb, hml, hown, hts, hU, hA, hmn, hR, rfl⟩ := hK
  intro ad H locs ls h
  refine va_newq (D := D) (C := "LampCave$Cave") hx hb hown (hts _ cl_26) hU.2.2.1 hU.1 h.hP h.hD h.hS hA hn hN hb4 (Nat.le_trans hf.1 hR.2.2.1) (Nat.le_trans hf.2 hR.2.2.2) dg (fun q cB H1 hK1 hP1 hD1 hS1 => ?_)
  have ec : cB = cA 4 := by
    obtain ⟨_, _, _, _, _, e1⟩ := (hK1.2 5 (cB, .object "LampCave$Cave") rfl).2
    obtain ⟨_, _, _, _, _, e2⟩ := (hU.1.2 4 (cA 4, .object "LampCave$Cave") rfl).2
    exact Option.some.inj (e1.symm.trans e2)
  subst ec
  obtain ⟨g1, g2⟩ := h.nw (x := .inl (4, N, .inr (.inr (.inr (.inr (fun _ => none)))))) (q := q) (st' := st) (u2 := u + 1) (v2 := v + N) hi h9 (fun a b z j t hj => by cases z; cases hj) hf (mj_rl_t h.hrs) hP1 hD1 hS1
  have := k _ _ _ _ g1
  rw [g2] at this
  exact this
/-- a new object, its fields at their defaults -/
theorem ro_newO (hK : mj_C d mc ms own mn cc nL K) {i ci idx N : Nat} {C : String} {T : u_T} {ty : Nat → FieldType} {fs : List Value} (hcl : mj_cl[ci]? = some (C, T, N)) (hw : Cond.classLink own idx C ∈ mj_ws ∧ Cond.instantiable C N ∈ mj_ws ∧ Cond.initialized C ∈ mj_ws) (hty : ∀ k, k < N → parseFieldDescriptor (T k).2.2.1 = some (ty k)) (hfs : ∀ j, j < N → defaultValue (ty j) = vp_V fs j) (hfv : ∀ ad, fs.map (mj_v ad) = fs) (hfr : ∀ w ∈ fs, mj_rv [] w) (hi : i ∉ S.1) (h9 : i ≠ 999) (hf : u + 1 ≤ mc ∧ v + N ≤ ms) (dg : decode cc pc = .ok (.new idx, 3)) (k : K (u + 1) (v + N) (pc + 3) lv (.ref i :: st) (mj_nw S i (.inr (ci, fs)))) : K u v pc lv st S := by
  obtain ⟨p, l, e, R, s, m, args, below, meth, c, D, cA, ad0, L0, A, Q, hx, hb, hml, hown, hts, hU, hA, hmn, hR, rfl⟩ := hK
  intro ad H locs ls h
  refine va_new (D := D) (ci := ci) (fs := fs) hx hb hts (mj_cin hcl) ty hty hown (hts _ hw.1) (hts _ hw.2.1) (hts _ hw.2.2) hU.1 h.hP h.hD h.hS hA hcl hfs (Nat.le_trans hf.1 hR.2.2.1) (Nat.le_trans hf.2 hR.2.2.2) dg (fun q H1 hP1 hD1 hS1 => ?_)
  have e1 : mj_e ad cA (.inr (ci, fs)) = .inr (ci, fs) := by show Sum.inr (ci, fs.map (mj_v ad)) = _; rw [hfv]
  obtain ⟨g1, g2⟩ := h.nw (x := .inr (ci, fs)) (q := q) (st' := st) (u2 := u + 1) (v2 := v + N) hi h9 (fun w hw j hj => absurd (hfr w hw j hj) List.not_mem_nil) hf h.hrs (by rw [e1]; exact hP1) (by rw [e1]; exact hD1) hS1
  have := k _ _ _ _ g1
  rw [g2] at this
  exact this
/-- Object() -/
theorem ro_oi (hK : mj_C d mc ms own mn cc nL K) {i idx : Nat} (hw : Cond.methodLink own idx Lib.objectInit ∈ mj_ws) (hd : 1 ≤ d) (hs : (st.map fun q => q.category).sum ≤ 8) (dg : decode cc pc = .ok (.invokespecial idx, 3)) (k : K u v (pc + 3) lv st S) : K u v pc lv (.ref i :: st) S := by
  obtain ⟨p, l, e, R, s, m, args, below, meth, c, D, cA, ad0, L0, A, Q, hx, hb, hml, hown, hts, hU, hA, hmn, hR, rfl⟩ := hK
  intro ad H locs ls h
  have hs2 : ((st.map (mj_v ad)).map fun q => q.category).sum ≤ 8 := by rw [mj_cats]; exact hs
  have hlo := hR.2.1
  have hr2 := lv_room (m := m) (pc := pc) (ls := ls) (rest := st.map (mj_v ad)) hs2
  refine W.objInit hx hb hown (hts _ hw) (hts _ mj_oi.1) (hts _ mj_oi.2) (g := F0 m pc ls (.ref (ad i) :: st.map (mj_v ad))) rfl (h.hls.1.trans hml.symm) rfl dg (Nat.le_trans hd hR.1) ?_ (k ad H locs ls (h.re fun a b => mj_rl_t a))
  show 2 * 0 + _ + 12 ≤ R.locals
  omega
variable {as : List Value} {mc2 ms2 idx mL n : Nat} {y : MethodName} {b : ByteArray} {Fin : Option Value → mj_S → Prop}
theorem ro_callI (hK : mj_C (d + 1) mc ms own mn cc nL K) {i : Nat} (hM : mj_M y b mL n none) (hV : Cond.methodLink own idx y ∈ mj_ws ∧ Cond.instanceMethod y ∈ mj_ws) (hy : y.name = "<init>") (hC : mj_MC d mc2 ms2 y b mL none (.ref i :: as) S Fin) (hn : as.length = n) (hs : (st.map fun q => q.category).sum ≤ 8) (hf : u + mc2 ≤ mc ∧ v + ms2 ≤ ms) (dg : decode cc pc = .ok (.invokespecial idx, 3)) {sv : List Value} (hsv : as.reverse ++ .ref i :: st = sv)
    (kk : ∀ r S', Fin r S' → K (u + mc2) (v + ms2) (pc + 3) lv (r.toList ++ st) S') : K u v pc lv sv S := by
  subst hsv
  obtain ⟨p, l, e, R, s, m, args, below, meth, c, D, cA, ad0, L0, A, Q, hx, hb, hml, hown, hts, hU, hA, hmn, hR, rfl⟩ := hK
  intro ad H locs ls h
  have hst : mj_rl S.1 st := fun w hw => h.hrs w (List.mem_append_right _ (List.mem_cons_of_mem _ hw))
  have hs2 : ((st.map (mj_v ad)).map fun q => q.category).sum ≤ 8 := by rw [mj_cats]; exact hs
  have hfr := hR.1
  have hlo := hR.2.1
  have hmL := hM.2.2.2.2
  refine mj_fin (st := st) (mc2 := mc2) (ms2 := ms2) (Fin := Fin) (a := (Value.ref (ad i) :: as.map (mj_v ad)).toArray) hA h hst hf ?_ kk
  exact va_runI (As := as.map (mj_v ad)) (b := ad i) ⟨hx, hb, hml, hown, hts⟩ (hC l D cA ad H.size h.hcs (fun w hw => h.hrs w ((List.mem_cons.mp hw).elim (fun q => by rw [q]; exact List.mem_append_right _ List.mem_cons_self) (fun q => List.mem_append_left _ (List.mem_reverse.mpr q)))))
    ⟨callB_of n hts (mj_good (y := y) (b := b) (mL := mL) (ret := none) hM.1) rfl rfl rfl (hts _ hM.2.1) (hts _ hV.1) hM.2.2.1 ⟨hfr, by show 8 + (mL + 11) + 60 * d ≤ R.locals; omega⟩, hy, hts _ hV.2⟩
    ⟨mj_blind, fun U hU1 hW => ⟨rfl, by rw [hU1], by rw [hU1]; exact h.hP, mj_U.moved hW hU, h.hD.weaken (fun _ _ _ _ => trivial)⟩⟩
    rfl (by rw [List.length_map]; exact hn) h.hls.1 (by show (as.reverse ++ .ref i :: st).map (mj_v ad) = _; rw [List.map_append, List.map_reverse]; rfl) (lv_room hs2) dg ⟨Nat.le_trans hf.1 hR.2.2.1, Nat.le_trans hf.2 hR.2.2.2⟩
theorem ro_callIN (hK : mj_C (d + 1) mc ms own mn cc nL K) {i : Nat} {host : String} (hM : mj_M y b mL n none) (hV : (own, idx, y, host) ∈ mj_nest) (hin : Cond.instanceMethod y ∈ mj_ws) (hy : y.name = "<init>") (hC : mj_MC d mc2 ms2 y b mL none (.ref i :: as) S Fin) (hn : as.length = n) (hs : (st.map fun q => q.category).sum ≤ 8) (hf : u + mc2 ≤ mc ∧ v + ms2 ≤ ms) (dg : decode cc pc = .ok (.invokespecial idx, 3)) {sv : List Value} (hsv : as.reverse ++ .ref i :: st = sv)
    (kk : ∀ r S', Fin r S' → K (u + mc2) (v + ms2) (pc + 3) lv (r.toList ++ st) S') : K u v pc lv sv S := by
  subst hsv
  obtain ⟨p, l, e, R, s, m, args, below, meth, c, D, cA, ad0, L0, A, Q, hx, hb, hml, hown, hts, hU, hA, hmn, hR, rfl⟩ := hK
  intro ad H locs ls h
  have hst : mj_rl S.1 st := fun w hw => h.hrs w (List.mem_append_right _ (List.mem_cons_of_mem _ hw))
  have hs2 : ((st.map (mj_v ad)).map fun q => q.category).sum ≤ 8 := by rw [mj_cats]; exact hs
  have hfr := hR.1
  have hlo := hR.2.1
  have hmL := hM.2.2.2.2
  refine mj_fin (st := st) (mc2 := mc2) (ms2 := ms2) (Fin := Fin) (a := (Value.ref (ad i) :: as.map (mj_v ad)).toArray) hA h hst hf ?_ kk
  exact va_runIN (As := as.map (mj_v ad)) (b := ad i) (host := host) ⟨hx, hb, hml, hown, hts⟩ (hC l D cA ad H.size h.hcs (fun w hw => h.hrs w ((List.mem_cons.mp hw).elim (fun q => by rw [q]; exact List.mem_append_right _ List.mem_cons_self) (fun q => List.mem_append_left _ (List.mem_reverse.mpr q)))))
    ⟨va_cnB n hts (mj_good (y := y) (b := b) (mL := mL) (ret := none) hM.1) rfl rfl rfl (hU.2.1 _ hV) (hts _ hM.2.1) hM.2.2.1 ⟨hfr, by show 8 + (mL + 11) + 60 * d ≤ R.locals; omega⟩, hy, hts _ hin⟩
    ⟨mj_blind, fun U hU1 hW => ⟨rfl, by rw [hU1], by rw [hU1]; exact h.hP, mj_U.moved hW hU, h.hD.weaken (fun _ _ _ _ => trivial)⟩⟩
    rfl (by rw [List.length_map]; exact hn) h.hls.1 (by show (as.reverse ++ .ref i :: st).map (mj_v ad) = _; rw [List.map_append, List.map_reverse]; rfl) (lv_room hs2) dg ⟨Nat.le_trans hf.1 hR.2.2.1, Nat.le_trans hf.2 hR.2.2.2⟩
/-- the same cells, said in another order -/
theorem ro_eqv (hK : mj_C d mc ms own mn cc nL K) {S' : mj_S} (hn : S'.1.Nodup) (hL : ∀ i, i ∈ S'.1 ↔ i ∈ S.1) (hc : ∀ i, i ∈ S'.1 → S'.2 i = S.2 i) (k : K u v pc lv st S') : K u v pc lv st S := by
  obtain ⟨p, l, e, R, s, m, args, below, meth, c, D, cA, ad0, L0, A, Q, hx, hb, hml, hown, hts, hU, hA, hmn, hR, rfl⟩ := hK
  intro ad H locs ls h
  have at' : ∀ (k : Nat) (q : Nat × va_E), (mj_w ad cA S')[k]? = some q → ∃ i, S'.1[k]? = some i ∧ q = (ad i, mj_e ad cA (S.2 i)) := by
    intro k q hq
    unfold mj_w at hq
    rw [List.getElem?_map] at hq
    cases hS : S'.1[k]? with
    | none => rw [hS] at hq; cases hq
    | some i =>
      rw [hS] at hq
      cases hq
      exact ⟨i, rfl, by show (ad i, mj_e ad cA (S'.2 i)) = _; rw [hc i (List.mem_of_getElem? hS)]⟩
  refine k ad H locs ls ⟨h.1, ⟨fun i hi => h.2.1.1 i (hi.elim Or.inl (fun z => Or.inr (fun w => z ((hL i).mpr w)))), fun i hi => (hL i).mpr (h.2.1.2 i hi)⟩, ⟨hn, fun i hi => ?_, fun z => h.hcs.2.2 ((hL _).mp z)⟩, mj_rl_mono h.hrs (fun i hi => (hL i).mpr hi), mj_rl_mono h.hrl (fun i hi => (hL i).mpr hi), ?_, ⟨?_, ?_⟩, h.hS, h.hls⟩
  · rw [hc i hi]; exact mj_re_mono (fun j hj => (hL j).mpr hj) (h.hcs.2.1 i ((hL i).mp hi))
  · intro k q hq
    obtain ⟨i, h1, rfl⟩ := at' k q hq
    obtain ⟨k2, -, h3⟩ := mj_w_at (ad := ad) (cA := cA) ((hL i).mp (List.mem_of_getElem? h1))
    exact h.hP k2 _ h3
  · intro i j x y hi hj hxy
    obtain ⟨a, h1, rfl⟩ := at' i x hi
    obtain ⟨b, h2, rfl⟩ := at' j y hj
    obtain ⟨ka, g1, g2⟩ := mj_w_at (ad := ad) (cA := cA) ((hL a).mp (List.mem_of_getElem? h1))
    obtain ⟨kb, g3, g4⟩ := mj_w_at (ad := ad) (cA := cA) ((hL b).mp (List.mem_of_getElem? h2))
    have := h.hD.1 ka kb _ _ g2 g4 hxy
    subst this
    have hab : a = b := Option.some.inj (g1.symm.trans g3)
    subst hab
    exact mj_nd hn h1 h2
  · intro k q hq
    obtain ⟨i, h1, rfl⟩ := at' k q hq
    obtain ⟨k2, -, h3⟩ := mj_w_at (ad := ad) (cA := cA) ((hL i).mp (List.mem_of_getElem? h1))
    exact h.hD.2 k2 _ h3
end MJN
/-- new T[N][M]: the outer array at o, the inner ones at base, base + 1 .. -/
def mj_nm (S : mj_S) (o base N : Nat) (x : mj_E) (t : Nat) : mj_S := ((S.1 ++ [o]) ++ (List.range N).map (fun i => base + i), fun j => if j = o then .inl (t, N, .inr (.inr (.inr (.inr (fun i => if i < N then some (base + i) else none))))) else if base ≤ j ∧ j < base + N then x else S.2 j)
def mj_am (ad : Nat → Nat) (o base N q : Nat) (r : Nat → Nat) : Nat → Nat := fun j => if j = o then q else if base ≤ j ∧ j < base + N then r (j - base) else ad j
theorem mj_am_old {ad : Nat → Nat} {o base N q : Nat} {r : Nat → Nat} {j : Nat} (h1 : j ≠ o) (h2 : ¬ (base ≤ j ∧ j < base + N)) : mj_am ad o base N q r j = ad j := by
  unfold mj_am
  rw [if_neg h1, if_neg h2]
theorem mj_am_in {ad : Nat → Nat} {o base N q : Nat} {r : Nat → Nat} {i : Nat} (ho : ¬ (base ≤ o ∧ o < base + N)) (hi : i < N) : mj_am ad o base N q r (base + i) = r i := by
  unfold mj_am
  rw [if_neg (fun e => ho (by omega)), if_pos (by omega), Nat.add_sub_cancel_left]
theorem mj_w_nm {ad : Nat → Nat} {cA : Nat → ClassId} {S : mj_S} {o base N q M t t1 : Nat} {r : Nat → Nat} {f : Nat → va_E} (hcs : mj_cs S) (ho : o ∉ S.1) (hb : ∀ j ∈ S.1, ¬ (base ≤ j ∧ j < base + N)) (hob : ¬ (base ≤ o ∧ o < base + N)) (h9 : o ≠ 999) (hb9 : ¬ (base ≤ 999 ∧ 999 < base + N)) :
    mj_w (mj_am ad o base N q r) cA (mj_nm S o base N (.inl (t1, M, .inl (fun _ => 0))) t) = (mj_w ad cA S ++ [(q, .inl (cA t, N, .inr (.inr (.inr (.inr (fun i => if i < N then some (r i) else none))))))]) ++ va_pl ([] ++ (List.range N).map r) (vr_up f ((List.range N).map r) (.inl (cA t1, M, .inl (fun _ => 0)))) := by
  have hag : ∀ j ∈ S.1, mj_am ad o base N q r j = ad j := fun j hj => mj_am_old (fun (e : j = o) => ho (e ▸ hj)) (hb j hj)
  have hag9 : mj_am ad o base N q r 999 = ad 999 := mj_am_old (fun e => h9 e.symm) hb9
  unfold mj_w mj_nm
  rw [List.map_append, List.map_append]
  congr 1
  · congr 1
    · apply List.map_congr_left
      intro j hj
      have h1 : j ≠ o := fun (e : j = o) => ho (e ▸ hj)
      show (mj_am ad o base N q r j, mj_e (mj_am ad o base N q r) cA (if j = o then _ else if base ≤ j ∧ j < base + N then _ else S.2 j)) = _
      rw [if_neg h1, if_neg (hb j hj), hag j hj, mj_e_agree hag hag9 (hcs.2.1 j hj)]
    · show [(mj_am ad o base N q r o, mj_e (mj_am ad o base N q r) cA (if o = o then _ else _))] = _
      rw [if_pos rfl]
      have e1 : mj_am ad o base N q r o = q := by unfold mj_am; rw [if_pos rfl]
      rw [e1]
      show [(q, (Sum.inl (cA t, N, .inr (.inr (.inr (.inr (fun i => (if i < N then some (base + i) else none).map (mj_am ad o base N q r)))))) : va_E))] = _
      have e2 : (fun i => (if i < N then some (base + i) else none).map (mj_am ad o base N q r)) = (fun i => if i < N then some (r i) else none) := by
        funext i
        by_cases hi : i < N
        · rw [if_pos hi, if_pos hi]; show some (mj_am ad o base N q r (base + i)) = _; rw [mj_am_in hob hi]
        · rw [if_neg hi, if_neg hi]; rfl
      rw [e2]
  · unfold va_pl
    rw [List.nil_append, List.map_map, List.map_map]
    apply List.map_congr_left
    intro i hi
    have hi := List.mem_range.mp hi
    show (mj_am ad o base N q r (base + i), mj_e (mj_am ad o base N q r) cA (if base + i = o then _ else if base ≤ base + i ∧ base + i < base + N then _ else S.2 (base + i))) = (r i, vr_up f ((List.range N).map r) _ (r i))
    rw [if_neg (fun e => hob (by omega)), if_pos (by omega), mj_am_in hob hi, vr_up_in (List.mem_map.mpr ⟨i, List.mem_range.mpr hi, rfl⟩)]
    rfl
theorem mj_H.nm {s : State} {nL mc ms : Nat} {D : va_G} {cA : Nat → ClassId} {ad0 : Nat → Nat} {L0 : List Nat} {A : Nat → Prop} {u v u2 v2 : Nat} {lv st st' : List Value} {S : mj_S} {ad : Nat → Nat} {H H1 : Heap} {locs : List Loc} {ls : Array Slot} {o base N q M t t1 : Nat} {r : Nat → Nat} (h : mj_H s nL mc ms D cA ad0 L0 A u v lv st S ad H locs ls) (ho : o ∉ S.1) (hbs : ∀ j ∈ S.1, ¬ (base ≤ j ∧ j < base + N)) (hob : ¬ (base ≤ o ∧ o < base + N)) (h9 : o ≠ 999) (hb9 : ¬ (base ≤ 999 ∧ 999 < base + N)) (hb : u2 ≤ mc ∧ v2 ≤ ms) (hst : mj_rl S.1 st')
    (hP : va_P D mj_cl (mj_w (mj_am ad o base N q r) cA (mj_nm S o base N (.inl (t1, M, .inl (fun _ => 0))) t)) H1) (hD : va_D A (mj_w (mj_am ad o base N q r) cA (mj_nm S o base N (.inl (t1, M, .inl (fun _ => 0))) t))) (hS : va_S A s.heap H1 locs) : mj_H s nL mc ms D cA ad0 L0 A u2 v2 lv (.ref o :: st') (mj_nm S o base N (.inl (t1, M, .inl (fun _ => 0))) t) (mj_am ad o base N q r) H1 locs ls ∧ (Value.ref o :: st').map (mj_v (mj_am ad o base N q r)) = .ref q :: st'.map (mj_v ad) := by
  have hag : ∀ j ∈ S.1, mj_am ad o base N q r j = ad j := fun j hj => mj_am_old (fun (e : j = o) => ho (e ▸ hj)) (hbs j hj)
  have hag9 : mj_am ad o base N q r 999 = ad 999 := mj_am_old (fun e => h9 e.symm) hb9
  have hmem : ∀ j, j ∈ ((S.1 ++ [o]) ++ (List.range N).map (fun i => base + i)) ↔ (j ∈ S.1 ∨ j = o ∨ (base ≤ j ∧ j < base + N)) := by
    intro j
    simp only [List.mem_append, List.mem_singleton, List.mem_map, List.mem_range]
    constructor
    · rintro ((h | h) | ⟨i, h1, h2⟩)
      · exact Or.inl h
      · exact Or.inr (Or.inl h)
      · exact Or.inr (Or.inr (by omega))
    · rintro (h | h | h)
      · exact Or.inl (Or.inl h)
      · exact Or.inl (Or.inr h)
      · exact Or.inr ⟨j - base, by omega, by omega⟩
  have hsub : ∀ j ∈ S.1, j ∈ ((S.1 ++ [o]) ++ (List.range N).map (fun i => base + i)) := fun j hj => (hmem j).mpr (Or.inl hj)
  refine ⟨⟨hb, ⟨fun j hj => ?_, fun j hj => hsub j (h.2.1.2 j hj)⟩, ⟨?_, fun j hj => ?_, ?_⟩, mj_rl_c (fun k hk => by cases hk; exact (hmem o).mpr (Or.inr (Or.inl rfl))) (mj_rl_mono hst hsub), mj_rl_mono h.hrl hsub, hP, hD, hS, h.hls.1, h.hls.2.1, fun k y hk hu => ?_⟩, ?_⟩
  · rcases hj with hj | hj
    · rw [hag j (h.2.1.2 j hj)]; exact h.2.1.1 j (Or.inl hj)
    · have hj2 : ¬ (j ∈ S.1 ∨ j = o ∨ (base ≤ j ∧ j < base + N)) := fun z => hj ((hmem j).mpr z)
      rw [mj_am_old (fun e => hj2 (Or.inr (Or.inl e))) (fun e => hj2 (Or.inr (Or.inr e)))]
      exact h.2.1.1 j (Or.inr (fun e => hj2 (Or.inl e)))
  · show ((S.1 ++ [o]) ++ (List.range N).map (fun i => base + i)).Nodup
    rw [List.nodup_append, List.nodup_append]
    refine ⟨⟨h.hcs.1, by simp, fun a ha b hb e => ?_⟩, ?_, fun a ha b hb e => ?_⟩
    · rw [List.mem_singleton] at hb
      exact ho (by rw [← hb, ← e]; exact ha)
    · exact List.Pairwise.map _ (fun a b hab e => hab (by omega)) List.nodup_range
    · obtain ⟨i, hi, rfl⟩ := List.mem_map.mp hb
      have hi := List.mem_range.mp hi
      rcases List.mem_append.mp ha with ha | ha
      · exact hbs a ha (by omega)
      · rw [List.mem_singleton] at ha
        exact hob (by omega)
  · show mj_re ((S.1 ++ [o]) ++ (List.range N).map (fun i => base + i)) (if j = o then _ else if base ≤ j ∧ j < base + N then _ else S.2 j)
    by_cases e : j = o
    · rw [if_pos e]
      intro n2 f2 e2 j2 i2 hi2
      cases e2
      have hi2 : (if j2 < N then some (base + j2) else none) = some i2 := hi2
      by_cases hj2 : j2 < N
      · rw [if_pos hj2] at hi2; cases hi2; exact (hmem _).mpr (Or.inr (Or.inr (by omega)))
      · rw [if_neg hj2] at hi2; cases hi2
    · rw [if_neg e]
      by_cases e2 : base ≤ j ∧ j < base + N
      · rw [if_pos e2]; exact fun a b z => by cases z
      · rw [if_neg e2]
        rcases (hmem j).mp hj with hj | hj | hj
        · exact mj_re_mono hsub (h.hcs.2.1 j hj)
        · exact absurd hj e
        · exact absurd hj e2
  · intro e
    rcases (hmem 999).mp e with e | e | e
    · exact h.hcs.2.2 e
    · exact h9 e.symm
    · exact hb9 e
  · rw [mj_v_agree hag hag9 (mj_rl_at h.hrl hk)]; exact h.hls.2.2 k y hk hu
  · rw [List.map_cons]
    congr 1
    · show Value.ref (mj_am ad o base N q r o) = _
      unfold mj_am
      rw [if_pos rfl]
    · exact List.map_congr_left fun w hw => mj_v_agree hag hag9 (hst w hw)
theorem ro_mnI {d mc ms nL : Nat} {mn : String} {cc : ByteArray} {K : mj_KT} {u v pc : Nat} {lv st : List Value} {S : mj_S} (hK : mj_C d mc ms RC_c mn cc nL K) {o base N M : Nat} {n k : Int32} (hn : ¬ n < 0) (hk : ¬ k < 0) (hN : n.toNatClampNeg = N) (hM : k.toNatClampNeg = M) (hb1 : N * 4 ≤ 536870912) (hb2 : M * componentBytes .int ≤ 536870912) (hb3 : M ≤ 536870912) (ho : o ∉ S.1) (hbs : ∀ j ∈ S.1, ¬ (base ≤ j ∧ j < base + N)) (hob : ¬ (base ≤ o ∧ o < base + N)) (h9 : o ≠ 999) (hb9 : ¬ (base ≤ 999 ∧ 999 < base + N)) (hf : u + (1 + N) ≤ mc ∧ v + (N + N * M) ≤ ms) (dg : decode cc pc = .ok (.multianewarray 9 2, 4)) (kk : K (u + 1 + N) (v + N + N * M) (pc + 4) lv (.ref o :: st) (mj_nm S o base N (.inl (0, M, .inl (fun _ => 0))) 2)) : K u v pc lv (.int k :: .int n :: st) S := by
  obtain ⟨p, l, e, R, s, m, args, below, meth, c, D, cA, ad0, L0, A, Q, hx, hb, hml, hown, hts, hU, hA, hmn, hR, rfl⟩ := hK
  intro ad H locs ls h
  have hlk : (Cond.classLink RC_c 9 ("[" ++ (FieldType.array .int).toString)).before args s = true := by
    have e1 : ("[" ++ (FieldType.array .int).toString) = "[[I" := by decide
    rw [e1]; exact hts _ cl_9
  have hcy : s.vm.findClass (FieldType.array .int).toString = some (cA 0) := (hU.1.2 0 (cA 0, .int) rfl).2
  refine va_mna (D := D) (X := mj_w ad cA S) (L := []) (f := fun _ => .inl (cA 0, 0, .inl (fun _ => 0))) (ty := .int) (cy := cA 0) (z := (M, .inl (fun _ => 0))) hx hb hown hlk hU.2.2.2.1 (hts _ mj_acI) hcy hU.1 (by rw [show va_pl [] _ = [] from rfl, List.append_nil]; exact h.hP) (by rw [show va_pl [] _ = [] from rfl, List.append_nil]; exact h.hD) h.hS hA hn hk hN hM hb1 hb2 hb3 rfl rfl (Nat.le_trans hf.1 hR.2.2.1) (Nat.le_trans hf.2 hR.2.2.2) (fun c9 => arrV_new _ _ _) dg (fun q r cB H1 hr1 hr2 hK1 hP1 hD1 hS1 => ?_)
  have ec : cB = cA 2 := by
    have e1 : s.vm.findClass ("[" ++ (FieldType.array .int).toString) = some cB := (hK1.2 5 (cB, .array .int) rfl).2
    have e2 : s.vm.findClass ("[" ++ (FieldType.array .int).toString) = some (cA 2) := (hU.1.2 2 (cA 2, .array .int) rfl).2
    exact Option.some.inj (e1.symm.trans e2)
  subst ec
  rw [← mj_w_nm h.hcs ho hbs hob h9 hb9] at hP1 hD1
  obtain ⟨g1, g2⟩ := h.nm (st' := st) (u2 := u + 1 + N) (v2 := v + N + N * M) ho hbs hob h9 hb9 ⟨by omega, by omega⟩ (mj_rl_t (mj_rl_t h.hrs)) hP1 hD1 hS1
  have k1 := kk _ _ _ _ g1
  rw [g2] at k1
  exact k1
theorem ro_mnB {d mc ms nL : Nat} {mn : String} {cc : ByteArray} {K : mj_KT} {u v pc : Nat} {lv st : List Value} {S : mj_S} (hK : mj_C d mc ms RC_c mn cc nL K) {o base N M : Nat} {n k : Int32} (hn : ¬ n < 0) (hk : ¬ k < 0) (hN : n.toNatClampNeg = N) (hM : k.toNatClampNeg = M) (hb1 : N * 4 ≤ 536870912) (hb2 : M * componentBytes .byte ≤ 536870912) (hb3 : M ≤ 536870912) (ho : o ∉ S.1) (hbs : ∀ j ∈ S.1, ¬ (base ≤ j ∧ j < base + N)) (hob : ¬ (base ≤ o ∧ o < base + N)) (h9 : o ≠ 999) (hb9 : ¬ (base ≤ 999 ∧ 999 < base + N)) (hf : u + (1 + N) ≤ mc ∧ v + (N + N * M) ≤ ms) (dg : decode cc pc = .ok (.multianewarray 18 2, 4)) (kk : K (u + 1 + N) (v + N + N * M) (pc + 4) lv (.ref o :: st) (mj_nm S o base N (.inl (1, M, .inl (fun _ => 0))) 3)) : K u v pc lv (.int k :: .int n :: st) S := by
  obtain ⟨p, l, e, R, s, m, args, below, meth, c, D, cA, ad0, L0, A, Q, hx, hb, hml, hown, hts, hU, hA, hmn, hR, rfl⟩ := hK
  intro ad H locs ls h
  have hlk : (Cond.classLink RC_c 18 ("[" ++ (FieldType.array .byte).toString)).before args s = true := by
    have e1 : ("[" ++ (FieldType.array .byte).toString) = "[[B" := by decide
    rw [e1]; exact hts _ cl_18
  have hcy : s.vm.findClass (FieldType.array .byte).toString = some (cA 1) := (hU.1.2 1 (cA 1, .byte) rfl).2
  refine va_mna (D := D) (X := mj_w ad cA S) (L := []) (f := fun _ => .inl (cA 0, 0, .inl (fun _ => 0))) (ty := .byte) (cy := cA 1) (z := (M, .inl (fun _ => 0))) hx hb hown hlk hU.2.2.2.2 (hts _ mj_acB) hcy hU.1 (by rw [show va_pl [] _ = [] from rfl, List.append_nil]; exact h.hP) (by rw [show va_pl [] _ = [] from rfl, List.append_nil]; exact h.hD) h.hS hA hn hk hN hM hb1 hb2 hb3 rfl rfl (Nat.le_trans hf.1 hR.2.2.1) (Nat.le_trans hf.2 hR.2.2.2) (fun c9 => arrV_new _ _ _) dg (fun q r cB H1 hr1 hr2 hK1 hP1 hD1 hS1 => ?_)
  have ec : cB = cA 3 := by
    have e1 : s.vm.findClass ("[" ++ (FieldType.array .byte).toString) = some cB := (hK1.2 5 (cB, .array .byte) rfl).2
    have e2 : s.vm.findClass ("[" ++ (FieldType.array .byte).toString) = some (cA 3) := (hU.1.2 3 (cA 3, .array .byte) rfl).2
    exact Option.some.inj (e1.symm.trans e2)
  subst ec
  rw [← mj_w_nm h.hcs ho hbs hob h9 hb9] at hP1 hD1
  obtain ⟨g1, g2⟩ := h.nm (st' := st) (u2 := u + 1 + N) (v2 := v + N + N * M) ho hbs hob h9 hb9 ⟨by omega, by omega⟩ (mj_rl_t (mj_rl_t h.hrs)) hP1 hD1 hS1
  have k1 := kk _ _ _ _ g1
  rw [g2] at k1
  exact k1

