def RA_c : String := "LampCave$Aside"
def TA_c : u_T := fun k => match k with
  | 0 => ("LampCave$Aside", "people", "I", false)
  | 1 => ("LampCave$Aside", "form", "I", false)
  | 2 => ("LampCave$Aside", "oil", "I", false)
  | 3 => ("LampCave$Aside", "endlessOil", "Z", false)
  | 4 => ("LampCave$Aside", "minute", "I", false)
  | 5 => ("LampCave$Aside", "last", "I", false)
  | 6 => ("LampCave$Aside", "liars", "I", false)
  | 7 => ("LampCave$Aside", "kind", "[I", true)
  | 8 => ("LampCave$Aside", "fear", "[I", true)
  | 9 => ("LampCave$Aside", "fearThen", "[I", true)
  | 10 => ("LampCave$Aside", "grows", "[I", true)
  | 11 => ("LampCave$Aside", "falls", "[I", true)
  | 12 => ("LampCave$Aside", "screams", "[I", true)
  | 13 => ("LampCave$Aside", "beside", "[I", true)
  | 14 => ("LampCave$Aside", "calmBeside", "[I", true)
  | 15 => ("LampCave$Aside", "holders", "[I", true)
  | _ => ("LampCave$Aside", "saved", "[I", true)
def tA_c : Nat → FieldType := fun k => match k with
  | 0 => .int
  | 1 => .int
  | 2 => .int
  | 3 => .boolean
  | 4 => .int
  | 5 => .int
  | 6 => .int
  | 7 => .array .int
  | 8 => .array .int
  | 9 => .array .int
  | 10 => .array .int
  | 11 => .array .int
  | 12 => .array .int
  | 13 => .array .int
  | 14 => .array .int
  | 15 => .array .int
  | _ => .array .int
theorem tA_ok : ∀ k, k < 17 → parseFieldDescriptor (TA_c k).2.2.1 = some (tA_c k) := by decide +kernel
theorem nA_ok : ∀ a, a < 17 → ∀ b, b < 17 → a ≠ b → (TA_c a).2.1 ≠ (TA_c b).2.1 := by decide +kernel
def RV_c : String := "LampCave$Cave"
def TV_c : u_T := fun k => match k with
  | 0 => ("LampCave$Cave", "people", "I", false)
  | 1 => ("LampCave$Cave", "form", "I", false)
  | 2 => ("LampCave$Cave", "law", "I", false)
  | 3 => ("LampCave$Cave", "oil", "I", false)
  | 4 => ("LampCave$Cave", "minute", "I", false)
  | 5 => ("LampCave$Cave", "kind", "[I", true)
  | 6 => ("LampCave$Cave", "fear", "[I", true)
  | 7 => ("LampCave$Cave", "grows", "[I", true)
  | 8 => ("LampCave$Cave", "falls", "[I", true)
  | 9 => ("LampCave$Cave", "screams", "[I", true)
  | 10 => ("LampCave$Cave", "holder", "[I", true)
  | 11 => ("LampCave$Cave", "oilAhead", "[I", true)
  | _ => ("LampCave$Cave", "fearAhead", "[I", true)
def tV_c : Nat → FieldType := fun k => match k with
  | 0 => .int
  | 1 => .int
  | 2 => .int
  | 3 => .int
  | 4 => .int
  | 5 => .array .int
  | 6 => .array .int
  | 7 => .array .int
  | 8 => .array .int
  | 9 => .array .int
  | 10 => .array .int
  | 11 => .array .int
  | _ => .array .int
theorem tV_ok : ∀ k, k < 13 → parseFieldDescriptor (TV_c k).2.2.1 = some (tV_c k) := by decide +kernel
theorem nV_ok : ∀ a, a < 13 → ∀ b, b < 13 → a ≠ b → (TV_c a).2.1 ≠ (TV_c b).2.1 := by decide +kernel
def RR_c : String := "LampCave$Reader"
def TR_c : u_T := fun k => match k with
  | 0 => ("LampCave$Reader", "signs", "[B", false)
  | 1 => ("LampCave$Reader", "size", "I", false)
  | 2 => ("LampCave$Reader", "place", "I", false)
  | _ => ("LampCave$Reader", "faultPlace", "I", false)
def tR_c : Nat → FieldType := fun k => match k with
  | 0 => .array .byte
  | 1 => .int
  | 2 => .int
  | _ => .int
theorem tR_ok : ∀ k, k < 4 → parseFieldDescriptor (TR_c k).2.2.1 = some (tR_c k) := by decide +kernel
theorem nR_ok : ∀ a, a < 4 → ∀ b, b < 4 → a ≠ b → (TR_c a).2.1 ≠ (TR_c b).2.1 := by decide +kernel
def RS_c : String := "LampCave$Search"
def TS_c : u_T := fun k => match k with
  | 0 => ("LampCave$Search", "path", "[I", true)
  | 1 => ("LampCave$Search", "forLength", "Z", false)
  | 2 => ("LampCave$Search", "goal", "I", false)
  | 3 => ("LampCave$Search", "best", "[I", true)
  | 4 => ("LampCave$Search", "bestLength", "I", false)
  | _ => ("LampCave$Search", "leastFear", "I", false)
def tS_c : Nat → FieldType := fun k => match k with
  | 0 => .array .int
  | 1 => .boolean
  | 2 => .int
  | 3 => .array .int
  | 4 => .int
  | _ => .int
theorem tS_ok : ∀ k, k < 6 → parseFieldDescriptor (TS_c k).2.2.1 = some (tS_c k) := by decide +kernel
theorem nS_ok : ∀ a, a < 6 → ∀ b, b < 6 → a ≠ b → (TS_c a).2.1 ≠ (TS_c b).2.1 := by decide +kernel
def RC_c : String := "LampCave"
def TC_c : u_T := fun k => match k with
  | 0 => ("LampCave", "rows", "[[I", true)
  | 1 => ("LampCave", "rowSize", "[I", true)
  | 2 => ("LampCave", "texts", "[[B", true)
  | 3 => ("LampCave", "textSize", "[I", true)
  | 4 => ("LampCave", "now", "LLampCave$Cave;", true)
  | 5 => ("LampCave", "draft", "LLampCave$Cave;", true)
  | 6 => ("LampCave", "kept", "[LLampCave$Cave;", true)
  | 7 => ("LampCave", "reader", "LLampCave$Reader;", true)
  | 8 => ("LampCave", "aside", "LLampCave$Aside;", true)
  | 9 => ("LampCave", "search", "LLampCave$Search;", true)
  | 10 => ("LampCave", "seats", "[I", true)
  | 11 => ("LampCave", "bestSeats", "[I", true)
  | 12 => ("LampCave", "findingTimes", "[I", true)
  | 13 => ("LampCave", "latestFinding", "I", false)
  | _ => ("LampCave", "told", "I", false)
def tC_c : Nat → FieldType := fun k => match k with
  | 0 => .array (.array .int)
  | 1 => .array .int
  | 2 => .array (.array .byte)
  | 3 => .array .int
  | 4 => .object "LampCave$Cave"
  | 5 => .object "LampCave$Cave"
  | 6 => .array (.object "LampCave$Cave")
  | 7 => .object "LampCave$Reader"
  | 8 => .object "LampCave$Aside"
  | 9 => .object "LampCave$Search"
  | 10 => .array .int
  | 11 => .array .int
  | 12 => .array .int
  | 13 => .int
  | _ => .int
theorem tC_ok : ∀ k, k < 15 → parseFieldDescriptor (TC_c k).2.2.1 = some (tC_c k) := by decide +kernel
theorem nC_ok : ∀ a, a < 15 → ∀ b, b < 15 → a ≠ b → (TC_c a).2.1 ≠ (TC_c b).2.1 := by decide +kernel
def RM_c : String := "LampCaveModel"
def TM_c : u_T := fun k => match k with
  | 0 => ("LampCaveModel", "finding", "I", false)
  | 1 => ("LampCaveModel", "findings", "[I", true)
  | 2 => ("LampCaveModel", "asked", "I", false)
  | 3 => ("LampCaveModel", "sizes", "[I", true)
  | 4 => ("LampCaveModel", "rows", "[I", true)
  | 5 => ("LampCaveModel", "moving", "[I", true)
  | 6 => ("LampCaveModel", "lengths", "[I", true)
  | 7 => ("LampCaveModel", "texts", "[I", true)
  | 8 => ("LampCaveModel", "many", "I", false)
  | 9 => ("LampCaveModel", "form", "I", false)
  | 10 => ("LampCaveModel", "law", "I", false)
  | 11 => ("LampCaveModel", "oil", "I", false)
  | 12 => ("LampCaveModel", "kinds", "[I", true)
  | 13 => ("LampCaveModel", "fears", "[I", true)
  | 14 => ("LampCaveModel", "grow", "[I", true)
  | 15 => ("LampCaveModel", "fall", "[I", true)
  | 16 => ("LampCaveModel", "scream", "[I", true)
  | 17 => ("LampCaveModel", "readAt", "I", false)
  | 18 => ("LampCaveModel", "readMany", "I", false)
  | 19 => ("LampCaveModel", "readForm", "I", false)
  | 20 => ("LampCaveModel", "readLaw", "I", false)
  | 21 => ("LampCaveModel", "readOil", "I", false)
  | 22 => ("LampCaveModel", "lying", "I", false)
  | 23 => ("LampCaveModel", "place", "[I", true)
  | 24 => ("LampCaveModel", "minute", "I", false)
  | 25 => ("LampCaveModel", "holder", "I", false)
  | 26 => ("LampCaveModel", "had", "[I", true)
  | 27 => ("LampCaveModel", "notes", "[I", true)
  | 28 => ("LampCaveModel", "then", "[I", true)
  | 29 => ("LampCaveModel", "kept", "[I", true)
  | 30 => ("LampCaveModel", "aside", "[I", true)
  | 31 => ("LampCaveModel", "screamed", "I", false)
  | 32 => ("LampCaveModel", "past", "[I", true)
  | 33 => ("LampCaveModel", "oftenMany", "I", false)
  | 34 => ("LampCaveModel", "depth", "[I", true)
  | 35 => ("LampCaveModel", "laid", "[I", true)
  | 36 => ("LampCaveModel", "bestLaid", "[I", true)
  | 37 => ("LampCaveModel", "bestMany", "I", false)
  | 38 => ("LampCaveModel", "bestFear", "I", false)
  | 39 => ("LampCaveModel", "seats", "[I", true)
  | 40 => ("LampCaveModel", "bestSeats", "[I", true)
  | 41 => ("LampCaveModel", "orderMost", "I", false)
  | 42 => ("LampCaveModel", "isAny", "Z", false)
  | 43 => ("LampCaveModel", "overAt", "I", false)
  | _ => ("LampCaveModel", "h0", "J", false)
def tM_c : Nat → FieldType := fun k => match k with
  | 0 => .int
  | 1 => .array .int
  | 2 => .int
  | 3 => .array .int
  | 4 => .array .int
  | 5 => .array .int
  | 6 => .array .int
  | 7 => .array .int
  | 8 => .int
  | 9 => .int
  | 10 => .int
  | 11 => .int
  | 12 => .array .int
  | 13 => .array .int
  | 14 => .array .int
  | 15 => .array .int
  | 16 => .array .int
  | 17 => .int
  | 18 => .int
  | 19 => .int
  | 20 => .int
  | 21 => .int
  | 22 => .int
  | 23 => .array .int
  | 24 => .int
  | 25 => .int
  | 26 => .array .int
  | 27 => .array .int
  | 28 => .array .int
  | 29 => .array .int
  | 30 => .array .int
  | 31 => .int
  | 32 => .array .int
  | 33 => .int
  | 34 => .array .int
  | 35 => .array .int
  | 36 => .array .int
  | 37 => .int
  | 38 => .int
  | 39 => .array .int
  | 40 => .array .int
  | 41 => .int
  | 42 => .boolean
  | 43 => .int
  | _ => .long
theorem tM_ok : ∀ k, k < 45 → parseFieldDescriptor (TM_c k).2.2.1 = some (tM_c k) := by decide +kernel
theorem nM_ok : ∀ a, a < 45 → ∀ b, b < 45 → a ≠ b → (TM_c a).2.1 ≠ (TM_c b).2.1 := by decide +kernel
def RL_c : String := "LampCaveLaw"
def RI_c : String := "java/lang/Integer"
def RH_c : String := "java/lang/Math"
def RY_c : String := "java/util/Arrays"
def RZ_c : String := "java/lang/System"
abbrev mj_cl : List vw_C := [(RA_c, TA_c, 17), (RV_c, TV_c, 13), (RR_c, TR_c, 4), (RS_c, TS_c, 6), (RC_c, TC_c, 15), (RM_c, TM_c, 45)]
def mj_ws : List Cond := lw_tbl.filter goodWord
theorem mj_in {w : Cond} {i : Nat} (h : lw_tbl[i]? = some w) (g : goodWord w = true) : w ∈ mj_ws := List.mem_filter.mpr ⟨List.mem_of_getElem? h, g⟩
theorem mj_of {w : Cond} (h : w ∈ mj_ws) : w ∈ lw_tbl ∧ goodWord w = true := List.mem_filter.mp h
theorem uA_in : ∀ w ∈ u_ws RA_c TA_c 17, w ∈ mj_ws := by
  have e : u_ws RA_c TA_c 17 = [233, 235, 237, 239, 241, 243, 245, 247, 249, 251, 253, 255, 257, 259, 261, 263, 265].filterMap (fun i => lw_tbl[i]?) := by decide +kernel
  have g : (u_ws RA_c TA_c 17).all goodWord = true := by decide +kernel
  intro w hw
  have hg := List.all_eq_true.mp g w hw
  rw [e] at hw
  obtain ⟨i, -, hi⟩ := List.mem_filterMap.mp hw
  exact mj_in hi hg
theorem uV_in : ∀ w ∈ u_ws RV_c TV_c 13, w ∈ mj_ws := by
  have e : u_ws RV_c TV_c 13 = [151, 153, 155, 157, 159, 161, 163, 165, 167, 169, 171, 173, 175].filterMap (fun i => lw_tbl[i]?) := by decide +kernel
  have g : (u_ws RV_c TV_c 13).all goodWord = true := by decide +kernel
  intro w hw
  have hg := List.all_eq_true.mp g w hw
  rw [e] at hw
  obtain ⟨i, -, hi⟩ := List.mem_filterMap.mp hw
  exact mj_in hi hg
theorem uR_in : ∀ w ∈ u_ws RR_c TR_c 4, w ∈ mj_ws := by
  have e : u_ws RR_c TR_c 4 = [191, 193, 195, 197].filterMap (fun i => lw_tbl[i]?) := by decide +kernel
  have g : (u_ws RR_c TR_c 4).all goodWord = true := by decide +kernel
  intro w hw
  have hg := List.all_eq_true.mp g w hw
  rw [e] at hw
  obtain ⟨i, -, hi⟩ := List.mem_filterMap.mp hw
  exact mj_in hi hg
theorem uS_in : ∀ w ∈ u_ws RS_c TS_c 6, w ∈ mj_ws := by
  have e : u_ws RS_c TS_c 6 = [283, 285, 287, 289, 291, 293].filterMap (fun i => lw_tbl[i]?) := by decide +kernel
  have g : (u_ws RS_c TS_c 6).all goodWord = true := by decide +kernel
  intro w hw
  have hg := List.all_eq_true.mp g w hw
  rw [e] at hw
  obtain ⟨i, -, hi⟩ := List.mem_filterMap.mp hw
  exact mj_in hi hg
theorem uC_in : ∀ w ∈ u_ws RC_c TC_c 15, w ∈ mj_ws := by
  have e : u_ws RC_c TC_c 15 = [314, 316, 318, 320, 322, 324, 326, 328, 330, 332, 334, 336, 338, 340, 342].filterMap (fun i => lw_tbl[i]?) := by decide +kernel
  have g : (u_ws RC_c TC_c 15).all goodWord = true := by decide +kernel
  intro w hw
  have hg := List.all_eq_true.mp g w hw
  rw [e] at hw
  obtain ⟨i, -, hi⟩ := List.mem_filterMap.mp hw
  exact mj_in hi hg
theorem uM_in : ∀ w ∈ u_ws RM_c TM_c 45, w ∈ mj_ws := by
  have e : u_ws RM_c TM_c 45 = [947, 949, 951, 953, 955, 957, 959, 961, 963, 965, 967, 969, 971, 973, 975, 977, 979, 981, 983, 985, 987, 989, 991, 993, 995, 997, 999, 1001, 1003, 1005, 1007, 1009, 1011, 1013, 1015, 1017, 1019, 1021, 1023, 1025, 1027, 1029, 1031, 1033, 1035].filterMap (fun i => lw_tbl[i]?) := by decide +kernel
  have g : (u_ws RM_c TM_c 45).all goodWord = true := by decide +kernel
  intro w hw
  have hg := List.all_eq_true.mp g w hw
  rw [e] at hw
  obtain ⟨i, -, hi⟩ := List.mem_filterMap.mp hw
  exact mj_in hi hg
def mj_M (y : MethodName) (b : ByteArray) (mL n : Nat) (ret : Option FieldType) : Prop := Cond.code y b mL ret ∈ mj_ws ∧ Cond.initialized y.cls ∈ mj_ws ∧ (y.cls ≠ "java/lang/invoke/MethodHandle" ∧ y.cls ≠ "java/lang/invoke/VarHandle" ∧ (parseMethodDescriptor y.desc).map (fun d => d.parameters.length) = some n) ∧ plainName y.cls = true ∧ mL ≤ 41
abbrev bC_init : ByteArray := prog_1_method_1_code
def yC_init : MethodName := ⟨RC_c, "<init>", "()V"⟩
theorem mC_init : mj_M yC_init bC_init 1 0 none := ⟨mj_in (i := 95) (by decide +kernel) (by decide +kernel), mj_in (i := 81) (by decide +kernel) (by decide +kernel), ⟨by decide +kernel, by decide +kernel, by decide +kernel⟩, by decide +kernel, by decide +kernel⟩
abbrev bV_init : ByteArray := prog_3_method_1_code
def yV_init : MethodName := ⟨RV_c, "<init>", "()V"⟩
theorem mV_init : mj_M yV_init bV_init 1 0 none := ⟨mj_in (i := 107) (by decide +kernel) (by decide +kernel), mj_in (i := 82) (by decide +kernel) (by decide +kernel), ⟨by decide +kernel, by decide +kernel, by decide +kernel⟩, by decide +kernel, by decide +kernel⟩
abbrev bR_init : ByteArray := prog_4_method_1_code
def yR_init : MethodName := ⟨RR_c, "<init>", "()V"⟩
theorem mR_init : mj_M yR_init bR_init 1 0 none := ⟨mj_in (i := 185) (by decide +kernel) (by decide +kernel), mj_in (i := 83) (by decide +kernel) (by decide +kernel), ⟨by decide +kernel, by decide +kernel, by decide +kernel⟩, by decide +kernel, by decide +kernel⟩
abbrev bA_init : ByteArray := prog_2_method_1_code
def yA_init : MethodName := ⟨RA_c, "<init>", "()V"⟩
theorem mA_init : mj_M yA_init bA_init 1 0 none := ⟨mj_in (i := 204) (by decide +kernel) (by decide +kernel), mj_in (i := 84) (by decide +kernel) (by decide +kernel), ⟨by decide +kernel, by decide +kernel, by decide +kernel⟩, by decide +kernel, by decide +kernel⟩
abbrev bS_init : ByteArray := prog_5_method_1_code
def yS_init : MethodName := ⟨RS_c, "<init>", "()V"⟩
theorem mS_init : mj_M yS_init bS_init 1 0 none := ⟨mj_in (i := 272) (by decide +kernel) (by decide +kernel), mj_in (i := 85) (by decide +kernel) (by decide +kernel), ⟨by decide +kernel, by decide +kernel, by decide +kernel⟩, by decide +kernel, by decide +kernel⟩
abbrev bY_fillI : ByteArray := prog_11_method_103_code
def yY_fillI : MethodName := ⟨RY_c, "fill", "([II)V"⟩
theorem mY_fillI : mj_M yY_fillI bY_fillI 4 2 none := ⟨mj_in (i := 298) (by decide +kernel) (by decide +kernel), mj_in (i := 86) (by decide +kernel) (by decide +kernel), ⟨by decide +kernel, by decide +kernel, by decide +kernel⟩, by decide +kernel, by decide +kernel⟩
abbrev bC_row : ByteArray := prog_1_method_2_code
def yC_row : MethodName := ⟨RC_c, "row", "(II)I"⟩
theorem mC_row : mj_M yC_row bC_row 3 2 (some .int) := ⟨mj_in (i := 348) (by decide +kernel) (by decide +kernel), mj_in (i := 81) (by decide +kernel) (by decide +kernel), ⟨by decide +kernel, by decide +kernel, by decide +kernel⟩, by decide +kernel, by decide +kernel⟩
abbrev bC_isRow : ByteArray := prog_1_method_51_code
def yC_isRow : MethodName := ⟨RC_c, "isRow", "(I)Z"⟩
theorem mC_isRow : mj_M yC_isRow bC_isRow 1 1 (some .boolean) := ⟨mj_in (i := 351) (by decide +kernel) (by decide +kernel), mj_in (i := 81) (by decide +kernel) (by decide +kernel), ⟨by decide +kernel, by decide +kernel, by decide +kernel⟩, by decide +kernel, by decide +kernel⟩
abbrev bC_found : ByteArray := prog_1_method_59_code
def yC_found : MethodName := ⟨RC_c, "found", "(I)I"⟩
theorem mC_found : mj_M yC_found bC_found 2 1 (some .int) := ⟨mj_in (i := 355) (by decide +kernel) (by decide +kernel), mj_in (i := 81) (by decide +kernel) (by decide +kernel), ⟨by decide +kernel, by decide +kernel, by decide +kernel⟩, by decide +kernel, by decide +kernel⟩
abbrev bC_lay : ByteArray := prog_1_method_3_code
def yC_lay : MethodName := ⟨RC_c, "lay", "(III)I"⟩
theorem mC_lay : mj_M yC_lay bC_lay 5 3 (some .int) := ⟨mj_in (i := 359) (by decide +kernel) (by decide +kernel), mj_in (i := 81) (by decide +kernel) (by decide +kernel), ⟨by decide +kernel, by decide +kernel, by decide +kernel⟩, by decide +kernel, by decide +kernel⟩
abbrev bC_placeRefusal : ByteArray := prog_1_method_61_code
def yC_placeRefusal : MethodName := ⟨RC_c, "placeRefusal", "(II)I"⟩
theorem mC_placeRefusal : mj_M yC_placeRefusal bC_placeRefusal 4 2 (some .int) := ⟨mj_in (i := 363) (by decide +kernel) (by decide +kernel), mj_in (i := 81) (by decide +kernel) (by decide +kernel), ⟨by decide +kernel, by decide +kernel, by decide +kernel⟩, by decide +kernel, by decide +kernel⟩
abbrev bC_rowRefusal : ByteArray := prog_1_method_60_code
def yC_rowRefusal : MethodName := ⟨RC_c, "rowRefusal", "(I)I"⟩
theorem mC_rowRefusal : mj_M yC_rowRefusal bC_rowRefusal 2 1 (some .int) := ⟨mj_in (i := 367) (by decide +kernel) (by decide +kernel), mj_in (i := 81) (by decide +kernel) (by decide +kernel), ⟨by decide +kernel, by decide +kernel, by decide +kernel⟩, by decide +kernel, by decide +kernel⟩
abbrev bC_at : ByteArray := prog_1_method_4_code
def yC_at : MethodName := ⟨RC_c, "at", "(II)I"⟩
theorem mC_at : mj_M yC_at bC_at 4 2 (some .int) := ⟨mj_in (i := 371) (by decide +kernel) (by decide +kernel), mj_in (i := 81) (by decide +kernel) (by decide +kernel), ⟨by decide +kernel, by decide +kernel, by decide +kernel⟩, by decide +kernel, by decide +kernel⟩
abbrev bC_tear : ByteArray := prog_1_method_5_code
def yC_tear : MethodName := ⟨RC_c, "tear", "(I)I"⟩
theorem mC_tear : mj_M yC_tear bC_tear 3 1 (some .int) := ⟨mj_in (i := 375) (by decide +kernel) (by decide +kernel), mj_in (i := 81) (by decide +kernel) (by decide +kernel), ⟨by decide +kernel, by decide +kernel, by decide +kernel⟩, by decide +kernel, by decide +kernel⟩
abbrev bC_copy : ByteArray := prog_1_method_6_code
def yC_copy : MethodName := ⟨RC_c, "copy", "(IIIII)I"⟩
theorem mC_copy : mj_M yC_copy bC_copy 6 5 (some .int) := ⟨mj_in (i := 379) (by decide +kernel) (by decide +kernel), mj_in (i := 81) (by decide +kernel) (by decide +kernel), ⟨by decide +kernel, by decide +kernel, by decide +kernel⟩, by decide +kernel, by decide +kernel⟩
abbrev bC_hasPlaces : ByteArray := prog_1_method_58_code
def yC_hasPlaces : MethodName := ⟨RC_c, "hasPlaces", "(III)Z"⟩
theorem mC_hasPlaces : mj_M yC_hasPlaces bC_hasPlaces 3 3 (some .boolean) := ⟨mj_in (i := 382) (by decide +kernel) (by decide +kernel), mj_in (i := 81) (by decide +kernel) (by decide +kernel), ⟨by decide +kernel, by decide +kernel, by decide +kernel⟩, by decide +kernel, by decide +kernel⟩
abbrev bC_mean : ByteArray := prog_1_method_7_code
def yC_mean : MethodName := ⟨RC_c, "mean", "(I)I"⟩
theorem mC_mean : mj_M yC_mean bC_mean 7 1 (some .int) := ⟨mj_in (i := 389) (by decide +kernel) (by decide +kernel), mj_in (i := 81) (by decide +kernel) (by decide +kernel), ⟨by decide +kernel, by decide +kernel, by decide +kernel⟩, by decide +kernel, by decide +kernel⟩
abbrev bC_text : ByteArray := prog_1_method_8_code
def yC_text : MethodName := ⟨RC_c, "text", "(II)I"⟩
theorem mC_text : mj_M yC_text bC_text 3 2 (some .int) := ⟨mj_in (i := 393) (by decide +kernel) (by decide +kernel), mj_in (i := 81) (by decide +kernel) (by decide +kernel), ⟨by decide +kernel, by decide +kernel, by decide +kernel⟩, by decide +kernel, by decide +kernel⟩
abbrev bC_isText : ByteArray := prog_1_method_52_code
def yC_isText : MethodName := ⟨RC_c, "isText", "(I)Z"⟩
theorem mC_isText : mj_M yC_isText bC_isText 1 1 (some .boolean) := ⟨mj_in (i := 396) (by decide +kernel) (by decide +kernel), mj_in (i := 81) (by decide +kernel) (by decide +kernel), ⟨by decide +kernel, by decide +kernel, by decide +kernel⟩, by decide +kernel, by decide +kernel⟩
abbrev bY_fillB : ByteArray := prog_11_method_109_code
def yY_fillB : MethodName := ⟨RY_c, "fill", "([BB)V"⟩
theorem mY_fillB : mj_M yY_fillB bY_fillB 4 2 none := ⟨mj_in (i := 399) (by decide +kernel) (by decide +kernel), mj_in (i := 86) (by decide +kernel) (by decide +kernel), ⟨by decide +kernel, by decide +kernel, by decide +kernel⟩, by decide +kernel, by decide +kernel⟩
abbrev bC_put : ByteArray := prog_1_method_9_code
def yC_put : MethodName := ⟨RC_c, "put", "(III)I"⟩
theorem mC_put : mj_M yC_put bC_put 6 3 (some .int) := ⟨mj_in (i := 403) (by decide +kernel) (by decide +kernel), mj_in (i := 81) (by decide +kernel) (by decide +kernel), ⟨by decide +kernel, by decide +kernel, by decide +kernel⟩, by decide +kernel, by decide +kernel⟩
abbrev bC_textRefusal : ByteArray := prog_1_method_62_code
def yC_textRefusal : MethodName := ⟨RC_c, "textRefusal", "(I)I"⟩
theorem mC_textRefusal : mj_M yC_textRefusal bC_textRefusal 2 1 (some .int) := ⟨mj_in (i := 407) (by decide +kernel) (by decide +kernel), mj_in (i := 81) (by decide +kernel) (by decide +kernel), ⟨by decide +kernel, by decide +kernel, by decide +kernel⟩, by decide +kernel, by decide +kernel⟩
abbrev bC_fault : ByteArray := prog_1_method_10_code
def yC_fault : MethodName := ⟨RC_c, "fault", "(I)I"⟩
theorem mC_fault : mj_M yC_fault bC_fault 3 1 (some .int) := ⟨mj_in (i := 411) (by decide +kernel) (by decide +kernel), mj_in (i := 81) (by decide +kernel) (by decide +kernel), ⟨by decide +kernel, by decide +kernel, by decide +kernel⟩, by decide +kernel, by decide +kernel⟩
abbrev bR_read : ByteArray := prog_4_method_2_code
def yR_read : MethodName := ⟨RR_c, "read", "([BILLampCave$Cave;)I"⟩
theorem mR_read : mj_M yR_read bR_read 5 3 (some .int) := ⟨mj_in (i := 415) (by decide +kernel) (by decide +kernel), mj_in (i := 83) (by decide +kernel) (by decide +kernel), ⟨by decide +kernel, by decide +kernel, by decide +kernel⟩, by decide +kernel, by decide +kernel⟩
theorem mH_min : Cond.code Lib.Math.min.name Lib.Math.min.code 2 (some .int) ∈ mj_ws ∧ Cond.initialized "java/lang/Math" ∈ mj_ws := ⟨mj_in (i := 418) (by decide +kernel) (by decide +kernel), mj_in (i := 89) (by decide +kernel) (by decide +kernel)⟩
abbrev bV_clear : ByteArray := prog_3_method_2_code
def yV_clear : MethodName := ⟨RV_c, "clear", "()V"⟩
theorem mV_clear : mj_M yV_clear bV_clear 1 0 none := ⟨mj_in (i := 422) (by decide +kernel) (by decide +kernel), mj_in (i := 82) (by decide +kernel) (by decide +kernel), ⟨by decide +kernel, by decide +kernel, by decide +kernel⟩, by decide +kernel, by decide +kernel⟩
abbrev bR_readHead : ByteArray := prog_4_method_3_code
def yR_readHead : MethodName := ⟨RR_c, "readHead", "(LLampCave$Cave;)V"⟩
theorem mR_readHead : mj_M yR_readHead bR_readHead 3 1 none := ⟨mj_in (i := 426) (by decide +kernel) (by decide +kernel), mj_in (i := 83) (by decide +kernel) (by decide +kernel), ⟨by decide +kernel, by decide +kernel, by decide +kernel⟩, by decide +kernel, by decide +kernel⟩
abbrev bR_skipBlanks : ByteArray := prog_4_method_8_code
def yR_skipBlanks : MethodName := ⟨RR_c, "skipBlanks", "()V"⟩
theorem mR_skipBlanks : mj_M yR_skipBlanks bR_skipBlanks 1 0 none := ⟨mj_in (i := 430) (by decide +kernel) (by decide +kernel), mj_in (i := 83) (by decide +kernel) (by decide +kernel), ⟨by decide +kernel, by decide +kernel, by decide +kernel⟩, by decide +kernel, by decide +kernel⟩
abbrev bR_sign : ByteArray := prog_4_method_5_code
def yR_sign : MethodName := ⟨RR_c, "sign", "()I"⟩
theorem mR_sign : mj_M yR_sign bR_sign 1 0 (some .int) := ⟨mj_in (i := 434) (by decide +kernel) (by decide +kernel), mj_in (i := 83) (by decide +kernel) (by decide +kernel), ⟨by decide +kernel, by decide +kernel, by decide +kernel⟩, by decide +kernel, by decide +kernel⟩
abbrev bR_take : ByteArray := prog_4_method_6_code
def yR_take : MethodName := ⟨RR_c, "take", "(Z)V"⟩
theorem mR_take : mj_M yR_take bR_take 2 1 none := ⟨mj_in (i := 438) (by decide +kernel) (by decide +kernel), mj_in (i := 83) (by decide +kernel) (by decide +kernel), ⟨by decide +kernel, by decide +kernel, by decide +kernel⟩, by decide +kernel, by decide +kernel⟩
abbrev bR_figure : ByteArray := prog_4_method_7_code
def yR_figure : MethodName := ⟨RR_c, "figure", "(II)I"⟩
theorem mR_figure : mj_M yR_figure bR_figure 5 2 (some .int) := ⟨mj_in (i := 442) (by decide +kernel) (by decide +kernel), mj_in (i := 83) (by decide +kernel) (by decide +kernel), ⟨by decide +kernel, by decide +kernel, by decide +kernel⟩, by decide +kernel, by decide +kernel⟩
abbrev bR_readOne : ByteArray := prog_4_method_4_code
def yR_readOne : MethodName := ⟨RR_c, "readOne", "(LLampCave$Cave;I)V"⟩
theorem mR_readOne : mj_M yR_readOne bR_readOne 8 2 none := ⟨mj_in (i := 446) (by decide +kernel) (by decide +kernel), mj_in (i := 83) (by decide +kernel) (by decide +kernel), ⟨by decide +kernel, by decide +kernel, by decide +kernel⟩, by decide +kernel, by decide +kernel⟩
abbrev bR_kindOf : ByteArray := prog_4_method_9_code
def yR_kindOf : MethodName := ⟨RR_c, "kindOf", "(I)I"⟩
theorem mR_kindOf : mj_M yR_kindOf bR_kindOf 1 1 (some .int) := ⟨mj_in (i := 449) (by decide +kernel) (by decide +kernel), mj_in (i := 83) (by decide +kernel) (by decide +kernel), ⟨by decide +kernel, by decide +kernel, by decide +kernel⟩, by decide +kernel, by decide +kernel⟩
abbrev bC_cave : ByteArray := prog_1_method_11_code
def yC_cave : MethodName := ⟨RC_c, "cave", "(I)I"⟩
theorem mC_cave : mj_M yC_cave bC_cave 3 1 (some .int) := ⟨mj_in (i := 453) (by decide +kernel) (by decide +kernel), mj_in (i := 81) (by decide +kernel) (by decide +kernel), ⟨by decide +kernel, by decide +kernel, by decide +kernel⟩, by decide +kernel, by decide +kernel⟩
abbrev bV_become : ByteArray := prog_3_method_3_code
def yV_become : MethodName := ⟨RV_c, "become", "(LLampCave$Cave;)V"⟩
theorem mV_become : mj_M yV_become bV_become 2 1 none := ⟨mj_in (i := 457) (by decide +kernel) (by decide +kernel), mj_in (i := 82) (by decide +kernel) (by decide +kernel), ⟨by decide +kernel, by decide +kernel, by decide +kernel⟩, by decide +kernel, by decide +kernel⟩
abbrev bC_forgetKept : ByteArray := prog_1_method_69_code
def yC_forgetKept : MethodName := ⟨RC_c, "forgetKept", "()V"⟩
theorem mC_forgetKept : mj_M yC_forgetKept bC_forgetKept 3 0 none := ⟨mj_in (i := 462) (by decide +kernel) (by decide +kernel), mj_in (i := 81) (by decide +kernel) (by decide +kernel), ⟨by decide +kernel, by decide +kernel, by decide +kernel⟩, by decide +kernel, by decide +kernel⟩
abbrev bC_person : ByteArray := prog_1_method_12_code
def yC_person : MethodName := ⟨RC_c, "person", "(II)I"⟩
theorem mC_person : mj_M yC_person bC_person 3 2 (some .int) := ⟨mj_in (i := 467) (by decide +kernel) (by decide +kernel), mj_in (i := 81) (by decide +kernel) (by decide +kernel), ⟨by decide +kernel, by decide +kernel, by decide +kernel⟩, by decide +kernel, by decide +kernel⟩
abbrev bC_isOne : ByteArray := prog_1_method_56_code
def yC_isOne : MethodName := ⟨RC_c, "isOne", "(I)Z"⟩
theorem mC_isOne : mj_M yC_isOne bC_isOne 2 1 (some .boolean) := ⟨mj_in (i := 471) (by decide +kernel) (by decide +kernel), mj_in (i := 81) (by decide +kernel) (by decide +kernel), ⟨by decide +kernel, by decide +kernel, by decide +kernel⟩, by decide +kernel, by decide +kernel⟩
abbrev bC_ofPerson : ByteArray := prog_1_method_65_code
def yC_ofPerson : MethodName := ⟨RC_c, "ofPerson", "(II)I"⟩
theorem mC_ofPerson : mj_M yC_ofPerson bC_ofPerson 3 2 (some .int) := ⟨mj_in (i := 475) (by decide +kernel) (by decide +kernel), mj_in (i := 81) (by decide +kernel) (by decide +kernel), ⟨by decide +kernel, by decide +kernel, by decide +kernel⟩, by decide +kernel, by decide +kernel⟩
abbrev bA_begin : ByteArray := prog_2_method_2_code
def yA_begin : MethodName := ⟨RA_c, "begin", "(LLampCave$Cave;)V"⟩
theorem mA_begin : mj_M yA_begin bA_begin 3 1 none := ⟨mj_in (i := 479) (by decide +kernel) (by decide +kernel), mj_in (i := 84) (by decide +kernel) (by decide +kernel), ⟨by decide +kernel, by decide +kernel, by decide +kernel⟩, by decide +kernel, by decide +kernel⟩
abbrev bV_lastHolder : ByteArray := prog_3_method_7_code
def yV_lastHolder : MethodName := ⟨RV_c, "lastHolder", "()I"⟩
theorem mV_lastHolder : mj_M yV_lastHolder bV_lastHolder 1 0 (some .int) := ⟨mj_in (i := 483) (by decide +kernel) (by decide +kernel), mj_in (i := 82) (by decide +kernel) (by decide +kernel), ⟨by decide +kernel, by decide +kernel, by decide +kernel⟩, by decide +kernel, by decide +kernel⟩
abbrev bV_bitsOfKind : ByteArray := prog_3_method_9_code
def yV_bitsOfKind : MethodName := ⟨RV_c, "bitsOfKind", "(I)I"⟩
theorem mV_bitsOfKind : mj_M yV_bitsOfKind bV_bitsOfKind 4 1 (some .int) := ⟨mj_in (i := 487) (by decide +kernel) (by decide +kernel), mj_in (i := 82) (by decide +kernel) (by decide +kernel), ⟨by decide +kernel, by decide +kernel, by decide +kernel⟩, by decide +kernel, by decide +kernel⟩
abbrev bC_isOfKind : ByteArray := prog_1_method_57_code
def yC_isOfKind : MethodName := ⟨RC_c, "isOfKind", "(II)Z"⟩
theorem mC_isOfKind : mj_M yC_isOfKind bC_isOfKind 2 2 (some .boolean) := ⟨mj_in (i := 490) (by decide +kernel) (by decide +kernel), mj_in (i := 81) (by decide +kernel) (by decide +kernel), ⟨by decide +kernel, by decide +kernel, by decide +kernel⟩, by decide +kernel, by decide +kernel⟩
abbrev bA_seatTogether : ByteArray := prog_2_method_4_code
def yA_seatTogether : MethodName := ⟨RA_c, "seatTogether", "(II)V"⟩
theorem mA_seatTogether : mj_M yA_seatTogether bA_seatTogether 3 2 none := ⟨mj_in (i := 496) (by decide +kernel) (by decide +kernel), mj_in (i := 84) (by decide +kernel) (by decide +kernel), ⟨by decide +kernel, by decide +kernel, by decide +kernel⟩, by decide +kernel, by decide +kernel⟩
abbrev bA_isHere : ByteArray := prog_2_method_6_code
def yA_isHere : MethodName := ⟨RA_c, "isHere", "(I)Z"⟩
theorem mA_isHere : mj_M yA_isHere bA_isHere 2 1 (some .boolean) := ⟨mj_in (i := 500) (by decide +kernel) (by decide +kernel), mj_in (i := 84) (by decide +kernel) (by decide +kernel), ⟨by decide +kernel, by decide +kernel, by decide +kernel⟩, by decide +kernel, by decide +kernel⟩
abbrev bA_countCalmBeside : ByteArray := prog_2_method_5_code
def yA_countCalmBeside : MethodName := ⟨RA_c, "countCalmBeside", "()V"⟩
theorem mA_countCalmBeside : mj_M yA_countCalmBeside bA_countCalmBeside 3 0 none := ⟨mj_in (i := 504) (by decide +kernel) (by decide +kernel), mj_in (i := 84) (by decide +kernel) (by decide +kernel), ⟨by decide +kernel, by decide +kernel, by decide +kernel⟩, by decide +kernel, by decide +kernel⟩
abbrev bI_bitCount : ByteArray := prog_8_method_49_code
def yI_bitCount : MethodName := ⟨RI_c, "bitCount", "(I)I"⟩
theorem mI_bitCount : mj_M yI_bitCount bI_bitCount 1 1 (some .int) := ⟨mj_in (i := 508) (by decide +kernel) (by decide +kernel), mj_in (i := 90) (by decide +kernel) (by decide +kernel), ⟨by decide +kernel, by decide +kernel, by decide +kernel⟩, by decide +kernel, by decide +kernel⟩
abbrev bA_shows : ByteArray := prog_2_method_9_code
def yA_shows : MethodName := ⟨RA_c, "shows", "(I)I"⟩
theorem mA_shows : mj_M yA_shows bA_shows 2 1 (some .int) := ⟨mj_in (i := 515) (by decide +kernel) (by decide +kernel), mj_in (i := 84) (by decide +kernel) (by decide +kernel), ⟨by decide +kernel, by decide +kernel, by decide +kernel⟩, by decide +kernel, by decide +kernel⟩
abbrev bC_mark : ByteArray := prog_1_method_13_code
def yC_mark : MethodName := ⟨RC_c, "mark", "(II)I"⟩
theorem mC_mark : mj_M yC_mark bC_mark 3 2 (some .int) := ⟨mj_in (i := 519) (by decide +kernel) (by decide +kernel), mj_in (i := 81) (by decide +kernel) (by decide +kernel), ⟨by decide +kernel, by decide +kernel, by decide +kernel⟩, by decide +kernel, by decide +kernel⟩
abbrev bA_bitsBeside : ByteArray := prog_2_method_8_code
def yA_bitsBeside : MethodName := ⟨RA_c, "bitsBeside", "(I)I"⟩
theorem mA_bitsBeside : mj_M yA_bitsBeside bA_bitsBeside 2 1 (some .int) := ⟨mj_in (i := 524) (by decide +kernel) (by decide +kernel), mj_in (i := 84) (by decide +kernel) (by decide +kernel), ⟨by decide +kernel, by decide +kernel, by decide +kernel⟩, by decide +kernel, by decide +kernel⟩
abbrev bA_moreAfraid : ByteArray := prog_2_method_13_code
def yA_moreAfraid : MethodName := ⟨RA_c, "moreAfraid", "(II)I"⟩
theorem mA_moreAfraid : mj_M yA_moreAfraid bA_moreAfraid 5 2 (some .int) := ⟨mj_in (i := 529) (by decide +kernel) (by decide +kernel), mj_in (i := 84) (by decide +kernel) (by decide +kernel), ⟨by decide +kernel, by decide +kernel, by decide +kernel⟩, by decide +kernel, by decide +kernel⟩
abbrev bA_bitsOfAll : ByteArray := prog_2_method_7_code
def yA_bitsOfAll : MethodName := ⟨RA_c, "bitsOfAll", "()I"⟩
theorem mA_bitsOfAll : mj_M yA_bitsOfAll bA_bitsOfAll 1 0 (some .int) := ⟨mj_in (i := 533) (by decide +kernel) (by decide +kernel), mj_in (i := 84) (by decide +kernel) (by decide +kernel), ⟨by decide +kernel, by decide +kernel, by decide +kernel⟩, by decide +kernel, by decide +kernel⟩
abbrev bA_singers : ByteArray := prog_2_method_21_code
def yA_singers : MethodName := ⟨RA_c, "singers", "()I"⟩
theorem mA_singers : mj_M yA_singers bA_singers 3 0 (some .int) := ⟨mj_in (i := 537) (by decide +kernel) (by decide +kernel), mj_in (i := 84) (by decide +kernel) (by decide +kernel), ⟨by decide +kernel, by decide +kernel, by decide +kernel⟩, by decide +kernel, by decide +kernel⟩
abbrev bV_timesHeld : ByteArray := prog_3_method_8_code
def yV_timesHeld : MethodName := ⟨RV_c, "timesHeld", "(I)I"⟩
theorem mV_timesHeld : mj_M yV_timesHeld bV_timesHeld 4 1 (some .int) := ⟨mj_in (i := 541) (by decide +kernel) (by decide +kernel), mj_in (i := 82) (by decide +kernel) (by decide +kernel), ⟨by decide +kernel, by decide +kernel, by decide +kernel⟩, by decide +kernel, by decide +kernel⟩
abbrev bC_law : ByteArray := prog_1_method_14_code
def yC_law : MethodName := ⟨RC_c, "law", "(I)I"⟩
theorem mC_law : mj_M yC_law bC_law 3 1 (some .int) := ⟨mj_in (i := 545) (by decide +kernel) (by decide +kernel), mj_in (i := 81) (by decide +kernel) (by decide +kernel), ⟨by decide +kernel, by decide +kernel, by decide +kernel⟩, by decide +kernel, by decide +kernel⟩
abbrev bC_isLaw : ByteArray := prog_1_method_53_code
def yC_isLaw : MethodName := ⟨RC_c, "isLaw", "(I)Z"⟩
theorem mC_isLaw : mj_M yC_isLaw bC_isLaw 1 1 (some .boolean) := ⟨mj_in (i := 548) (by decide +kernel) (by decide +kernel), mj_in (i := 81) (by decide +kernel) (by decide +kernel), ⟨by decide +kernel, by decide +kernel, by decide +kernel⟩, by decide +kernel, by decide +kernel⟩
abbrev bC_oil : ByteArray := prog_1_method_15_code
def yC_oil : MethodName := ⟨RC_c, "oil", "(I)I"⟩
theorem mC_oil : mj_M yC_oil bC_oil 3 1 (some .int) := ⟨mj_in (i := 552) (by decide +kernel) (by decide +kernel), mj_in (i := 81) (by decide +kernel) (by decide +kernel), ⟨by decide +kernel, by decide +kernel, by decide +kernel⟩, by decide +kernel, by decide +kernel⟩
abbrev bC_fear : ByteArray := prog_1_method_16_code
def yC_fear : MethodName := ⟨RC_c, "fear", "(II)I"⟩
theorem mC_fear : mj_M yC_fear bC_fear 4 2 (some .int) := ⟨mj_in (i := 556) (by decide +kernel) (by decide +kernel), mj_in (i := 81) (by decide +kernel) (by decide +kernel), ⟨by decide +kernel, by decide +kernel, by decide +kernel⟩, by decide +kernel, by decide +kernel⟩
abbrev bC_minutes : ByteArray := prog_1_method_17_code
def yC_minutes : MethodName := ⟨RC_c, "minutes", "(I)I"⟩
theorem mC_minutes : mj_M yC_minutes bC_minutes 3 1 (some .int) := ⟨mj_in (i := 560) (by decide +kernel) (by decide +kernel), mj_in (i := 81) (by decide +kernel) (by decide +kernel), ⟨by decide +kernel, by decide +kernel, by decide +kernel⟩, by decide +kernel, by decide +kernel⟩
abbrev bC_isSpan : ByteArray := prog_1_method_54_code
def yC_isSpan : MethodName := ⟨RC_c, "isSpan", "(I)Z"⟩
theorem mC_isSpan : mj_M yC_isSpan bC_isSpan 1 1 (some .boolean) := ⟨mj_in (i := 563) (by decide +kernel) (by decide +kernel), mj_in (i := 81) (by decide +kernel) (by decide +kernel), ⟨by decide +kernel, by decide +kernel, by decide +kernel⟩, by decide +kernel, by decide +kernel⟩
abbrev bA_isOver : ByteArray := prog_2_method_15_code
def yA_isOver : MethodName := ⟨RA_c, "isOver", "()Z"⟩
theorem mA_isOver : mj_M yA_isOver bA_isOver 1 0 (some .boolean) := ⟨mj_in (i := 567) (by decide +kernel) (by decide +kernel), mj_in (i := 84) (by decide +kernel) (by decide +kernel), ⟨by decide +kernel, by decide +kernel, by decide +kernel⟩, by decide +kernel, by decide +kernel⟩
abbrev bA_whoScream : ByteArray := prog_2_method_14_code
def yA_whoScream : MethodName := ⟨RA_c, "whoScream", "()I"⟩
theorem mA_whoScream : mj_M yA_whoScream bA_whoScream 3 0 (some .int) := ⟨mj_in (i := 571) (by decide +kernel) (by decide +kernel), mj_in (i := 84) (by decide +kernel) (by decide +kernel), ⟨by decide +kernel, by decide +kernel, by decide +kernel⟩, by decide +kernel, by decide +kernel⟩
abbrev bA_byLaw : ByteArray := prog_2_method_10_code
def yA_byLaw : MethodName := ⟨RA_c, "byLaw", "(I)I"⟩
theorem mA_byLaw : mj_M yA_byLaw bA_byLaw 2 1 (some .int) := ⟨mj_in (i := 575) (by decide +kernel) (by decide +kernel), mj_in (i := 84) (by decide +kernel) (by decide +kernel), ⟨by decide +kernel, by decide +kernel, by decide +kernel⟩, by decide +kernel, by decide +kernel⟩
abbrev bA_showsMost : ByteArray := prog_2_method_11_code
def yA_showsMost : MethodName := ⟨RA_c, "showsMost", "(I)I"⟩
theorem mA_showsMost : mj_M yA_showsMost bA_showsMost 5 1 (some .int) := ⟨mj_in (i := 580) (by decide +kernel) (by decide +kernel), mj_in (i := 84) (by decide +kernel) (by decide +kernel), ⟨by decide +kernel, by decide +kernel, by decide +kernel⟩, by decide +kernel, by decide +kernel⟩
abbrev bC_passMinute : ByteArray := prog_1_method_74_code
def yC_passMinute : MethodName := ⟨RC_c, "passMinute", "(I)V"⟩
theorem mC_passMinute : mj_M yC_passMinute bC_passMinute 2 1 none := ⟨mj_in (i := 586) (by decide +kernel) (by decide +kernel), mj_in (i := 81) (by decide +kernel) (by decide +kernel), ⟨by decide +kernel, by decide +kernel, by decide +kernel⟩, by decide +kernel, by decide +kernel⟩
abbrev bV_remember : ByteArray := prog_3_method_4_code
def yV_remember : MethodName := ⟨RV_c, "remember", "(I)V"⟩
theorem mV_remember : mj_M yV_remember bV_remember 2 1 none := ⟨mj_in (i := 590) (by decide +kernel) (by decide +kernel), mj_in (i := 82) (by decide +kernel) (by decide +kernel), ⟨by decide +kernel, by decide +kernel, by decide +kernel⟩, by decide +kernel, by decide +kernel⟩
abbrev bA_pass : ByteArray := prog_2_method_12_code
def yA_pass : MethodName := ⟨RA_c, "pass", "(I)V"⟩
theorem mA_pass : mj_M yA_pass bA_pass 5 1 none := ⟨mj_in (i := 594) (by decide +kernel) (by decide +kernel), mj_in (i := 84) (by decide +kernel) (by decide +kernel), ⟨by decide +kernel, by decide +kernel, by decide +kernel⟩, by decide +kernel, by decide +kernel⟩
theorem mH_max : Cond.code Lib.Math.max.name Lib.Math.max.code 2 (some .int) ∈ mj_ws ∧ Cond.initialized "java/lang/Math" ∈ mj_ws := ⟨mj_in (i := 598) (by decide +kernel) (by decide +kernel), mj_in (i := 89) (by decide +kernel) (by decide +kernel)⟩
abbrev bV_take : ByteArray := prog_3_method_6_code
def yV_take : MethodName := ⟨RV_c, "take", "(LLampCave$Aside;)V"⟩
theorem mV_take : mj_M yV_take bV_take 2 1 none := ⟨mj_in (i := 603) (by decide +kernel) (by decide +kernel), mj_in (i := 82) (by decide +kernel) (by decide +kernel), ⟨by decide +kernel, by decide +kernel, by decide +kernel⟩, by decide +kernel, by decide +kernel⟩
abbrev bC_hand : ByteArray := prog_1_method_18_code
def yC_hand : MethodName := ⟨RC_c, "hand", "(I)I"⟩
theorem mC_hand : mj_M yC_hand bC_hand 2 1 (some .int) := ⟨mj_in (i := 607) (by decide +kernel) (by decide +kernel), mj_in (i := 81) (by decide +kernel) (by decide +kernel), ⟨by decide +kernel, by decide +kernel, by decide +kernel⟩, by decide +kernel, by decide +kernel⟩
abbrev bC_next : ByteArray := prog_1_method_19_code
def yC_next : MethodName := ⟨RC_c, "next", "()I"⟩
theorem mC_next : mj_M yC_next bC_next 1 0 (some .int) := ⟨mj_in (i := 611) (by decide +kernel) (by decide +kernel), mj_in (i := 81) (by decide +kernel) (by decide +kernel), ⟨by decide +kernel, by decide +kernel, by decide +kernel⟩, by decide +kernel, by decide +kernel⟩
abbrev bC_had : ByteArray := prog_1_method_20_code
def yC_had : MethodName := ⟨RC_c, "had", "(I)I"⟩
theorem mC_had : mj_M yC_had bC_had 2 1 (some .int) := ⟨mj_in (i := 615) (by decide +kernel) (by decide +kernel), mj_in (i := 81) (by decide +kernel) (by decide +kernel), ⟨by decide +kernel, by decide +kernel, by decide +kernel⟩, by decide +kernel, by decide +kernel⟩
abbrev bC_undo : ByteArray := prog_1_method_21_code
def yC_undo : MethodName := ⟨RC_c, "undo", "(I)I"⟩
theorem mC_undo : mj_M yC_undo bC_undo 3 1 (some .int) := ⟨mj_in (i := 619) (by decide +kernel) (by decide +kernel), mj_in (i := 81) (by decide +kernel) (by decide +kernel), ⟨by decide +kernel, by decide +kernel, by decide +kernel⟩, by decide +kernel, by decide +kernel⟩
abbrev bV_backTo : ByteArray := prog_3_method_5_code
def yV_backTo : MethodName := ⟨RV_c, "backTo", "(I)V"⟩
theorem mV_backTo : mj_M yV_backTo bV_backTo 2 1 none := ⟨mj_in (i := 623) (by decide +kernel) (by decide +kernel), mj_in (i := 82) (by decide +kernel) (by decide +kernel), ⟨by decide +kernel, by decide +kernel, by decide +kernel⟩, by decide +kernel, by decide +kernel⟩
abbrev bC_over : ByteArray := prog_1_method_22_code
def yC_over : MethodName := ⟨RC_c, "over", "()I"⟩
theorem mC_over : mj_M yC_over bC_over 1 0 (some .int) := ⟨mj_in (i := 627) (by decide +kernel) (by decide +kernel), mj_in (i := 81) (by decide +kernel) (by decide +kernel), ⟨by decide +kernel, by decide +kernel, by decide +kernel⟩, by decide +kernel, by decide +kernel⟩
abbrev bC_story : ByteArray := prog_1_method_23_code
def yC_story : MethodName := ⟨RC_c, "story", "(I)I"⟩
theorem mC_story : mj_M yC_story bC_story 2 1 (some .int) := ⟨mj_in (i := 632) (by decide +kernel) (by decide +kernel), mj_in (i := 81) (by decide +kernel) (by decide +kernel), ⟨by decide +kernel, by decide +kernel, by decide +kernel⟩, by decide +kernel, by decide +kernel⟩
abbrev bA_tellStory : ByteArray := prog_2_method_22_code
def yA_tellStory : MethodName := ⟨RA_c, "tellStory", "(I)V"⟩
theorem mA_tellStory : mj_M yA_tellStory bA_tellStory 4 1 none := ⟨mj_in (i := 636) (by decide +kernel) (by decide +kernel), mj_in (i := 84) (by decide +kernel) (by decide +kernel), ⟨by decide +kernel, by decide +kernel, by decide +kernel⟩, by decide +kernel, by decide +kernel⟩
abbrev bA_fearTogether : ByteArray := prog_2_method_20_code
def yA_fearTogether : MethodName := ⟨RA_c, "fearTogether", "()I"⟩
theorem mA_fearTogether : mj_M yA_fearTogether bA_fearTogether 3 0 (some .int) := ⟨mj_in (i := 640) (by decide +kernel) (by decide +kernel), mj_in (i := 84) (by decide +kernel) (by decide +kernel), ⟨by decide +kernel, by decide +kernel, by decide +kernel⟩, by decide +kernel, by decide +kernel⟩
abbrev bC_song : ByteArray := prog_1_method_24_code
def yC_song : MethodName := ⟨RC_c, "song", "(I)I"⟩
theorem mC_song : mj_M yC_song bC_song 2 1 (some .int) := ⟨mj_in (i := 644) (by decide +kernel) (by decide +kernel), mj_in (i := 81) (by decide +kernel) (by decide +kernel), ⟨by decide +kernel, by decide +kernel, by decide +kernel⟩, by decide +kernel, by decide +kernel⟩
abbrev bA_greatestFear : ByteArray := prog_2_method_18_code
def yA_greatestFear : MethodName := ⟨RA_c, "greatestFear", "()I"⟩
theorem mA_greatestFear : mj_M yA_greatestFear bA_greatestFear 2 0 (some .int) := ⟨mj_in (i := 648) (by decide +kernel) (by decide +kernel), mj_in (i := 84) (by decide +kernel) (by decide +kernel), ⟨by decide +kernel, by decide +kernel, by decide +kernel⟩, by decide +kernel, by decide +kernel⟩
abbrev bA_mostAfraid : ByteArray := prog_2_method_19_code
def yA_mostAfraid : MethodName := ⟨RA_c, "mostAfraid", "()I"⟩
theorem mA_mostAfraid : mj_M yA_mostAfraid bA_mostAfraid 3 0 (some .int) := ⟨mj_in (i := 652) (by decide +kernel) (by decide +kernel), mj_in (i := 84) (by decide +kernel) (by decide +kernel), ⟨by decide +kernel, by decide +kernel, by decide +kernel⟩, by decide +kernel, by decide +kernel⟩
abbrev bA_sing : ByteArray := prog_2_method_23_code
def yA_sing : MethodName := ⟨RA_c, "sing", "()V"⟩
theorem mA_sing : mj_M yA_sing bA_sing 3 0 none := ⟨mj_in (i := 656) (by decide +kernel) (by decide +kernel), mj_in (i := 84) (by decide +kernel) (by decide +kernel), ⟨by decide +kernel, by decide +kernel, by decide +kernel⟩, by decide +kernel, by decide +kernel⟩
abbrev bC_keep : ByteArray := prog_1_method_25_code
def yC_keep : MethodName := ⟨RC_c, "keep", "(I)I"⟩
theorem mC_keep : mj_M yC_keep bC_keep 3 1 (some .int) := ⟨mj_in (i := 661) (by decide +kernel) (by decide +kernel), mj_in (i := 81) (by decide +kernel) (by decide +kernel), ⟨by decide +kernel, by decide +kernel, by decide +kernel⟩, by decide +kernel, by decide +kernel⟩
abbrev bC_isKeepingPlace : ByteArray := prog_1_method_55_code
def yC_isKeepingPlace : MethodName := ⟨RC_c, "isKeepingPlace", "(I)Z"⟩
theorem mC_isKeepingPlace : mj_M yC_isKeepingPlace bC_isKeepingPlace 1 1 (some .boolean) := ⟨mj_in (i := 664) (by decide +kernel) (by decide +kernel), mj_in (i := 81) (by decide +kernel) (by decide +kernel), ⟨by decide +kernel, by decide +kernel, by decide +kernel⟩, by decide +kernel, by decide +kernel⟩
abbrev bC_on : ByteArray := prog_1_method_26_code
def yC_on : MethodName := ⟨RC_c, "on", "(I)I"⟩
theorem mC_on : mj_M yC_on bC_on 3 1 (some .int) := ⟨mj_in (i := 668) (by decide +kernel) (by decide +kernel), mj_in (i := 81) (by decide +kernel) (by decide +kernel), ⟨by decide +kernel, by decide +kernel, by decide +kernel⟩, by decide +kernel, by decide +kernel⟩
abbrev bC_holds : ByteArray := prog_1_method_27_code
def yC_holds : MethodName := ⟨RC_c, "holds", "(I)I"⟩
theorem mC_holds : mj_M yC_holds bC_holds 3 1 (some .int) := ⟨mj_in (i := 672) (by decide +kernel) (by decide +kernel), mj_in (i := 81) (by decide +kernel) (by decide +kernel), ⟨by decide +kernel, by decide +kernel, by decide +kernel⟩, by decide +kernel, by decide +kernel⟩
abbrev bA_howLong : ByteArray := prog_2_method_17_code
def yA_howLong : MethodName := ⟨RA_c, "howLong", "(II)I"⟩
theorem mA_howLong : mj_M yA_howLong bA_howLong 4 2 (some .int) := ⟨mj_in (i := 676) (by decide +kernel) (by decide +kernel), mj_in (i := 84) (by decide +kernel) (by decide +kernel), ⟨by decide +kernel, by decide +kernel, by decide +kernel⟩, by decide +kernel, by decide +kernel⟩
abbrev bA_goOn : ByteArray := prog_2_method_16_code
def yA_goOn : MethodName := ⟨RA_c, "goOn", "(II)I"⟩
theorem mA_goOn : mj_M yA_goOn bA_goOn 4 2 (some .int) := ⟨mj_in (i := 680) (by decide +kernel) (by decide +kernel), mj_in (i := 84) (by decide +kernel) (by decide +kernel), ⟨by decide +kernel, by decide +kernel, by decide +kernel⟩, by decide +kernel, by decide +kernel⟩
abbrev bC_best : ByteArray := prog_1_method_28_code
def yC_best : MethodName := ⟨RC_c, "best", "()I"⟩
theorem mC_best : mj_M yC_best bC_best 5 0 (some .int) := ⟨mj_in (i := 687) (by decide +kernel) (by decide +kernel), mj_in (i := 81) (by decide +kernel) (by decide +kernel), ⟨by decide +kernel, by decide +kernel, by decide +kernel⟩, by decide +kernel, by decide +kernel⟩
abbrev bC_isLonger : ByteArray := prog_1_method_75_code
def yC_isLonger : MethodName := ⟨RC_c, "isLonger", "(II)Z"⟩
theorem mC_isLonger : mj_M yC_isLonger bC_isLonger 2 2 (some .boolean) := ⟨mj_in (i := 690) (by decide +kernel) (by decide +kernel), mj_in (i := 81) (by decide +kernel) (by decide +kernel), ⟨by decide +kernel, by decide +kernel, by decide +kernel⟩, by decide +kernel, by decide +kernel⟩
abbrev bC_rest : ByteArray := prog_1_method_29_code
def yC_rest : MethodName := ⟨RC_c, "rest", "()I"⟩
theorem mC_rest : mj_M yC_rest bC_rest 2 0 (some .int) := ⟨mj_in (i := 694) (by decide +kernel) (by decide +kernel), mj_in (i := 81) (by decide +kernel) (by decide +kernel), ⟨by decide +kernel, by decide +kernel, by decide +kernel⟩, by decide +kernel, by decide +kernel⟩
abbrev bA_isAsSaved : ByteArray := prog_2_method_26_code
def yA_isAsSaved : MethodName := ⟨RA_c, "isAsSaved", "(I)Z"⟩
theorem mA_isAsSaved : mj_M yA_isAsSaved bA_isAsSaved 4 1 (some .boolean) := ⟨mj_in (i := 698) (by decide +kernel) (by decide +kernel), mj_in (i := 84) (by decide +kernel) (by decide +kernel), ⟨by decide +kernel, by decide +kernel, by decide +kernel⟩, by decide +kernel, by decide +kernel⟩
abbrev bA_save : ByteArray := prog_2_method_24_code
def yA_save : MethodName := ⟨RA_c, "save", "(I)V"⟩
theorem mA_save : mj_M yA_save bA_save 3 1 none := ⟨mj_in (i := 702) (by decide +kernel) (by decide +kernel), mj_in (i := 84) (by decide +kernel) (by decide +kernel), ⟨by decide +kernel, by decide +kernel, by decide +kernel⟩, by decide +kernel, by decide +kernel⟩
abbrev bC_worst : ByteArray := prog_1_method_30_code
def yC_worst : MethodName := ⟨RC_c, "worst", "(I)I"⟩
theorem mC_worst : mj_M yC_worst bC_worst 2 1 (some .int) := ⟨mj_in (i := 706) (by decide +kernel) (by decide +kernel), mj_in (i := 81) (by decide +kernel) (by decide +kernel), ⟨by decide +kernel, by decide +kernel, by decide +kernel⟩, by decide +kernel, by decide +kernel⟩
abbrev bC_often : ByteArray := prog_1_method_31_code
def yC_often : MethodName := ⟨RC_c, "often", "(II)I"⟩
theorem mC_often : mj_M yC_often bC_often 6 2 (some .int) := ⟨mj_in (i := 712) (by decide +kernel) (by decide +kernel), mj_in (i := 81) (by decide +kernel) (by decide +kernel), ⟨by decide +kernel, by decide +kernel, by decide +kernel⟩, by decide +kernel, by decide +kernel⟩
abbrev bC_longest : ByteArray := prog_1_method_32_code
def yC_longest : MethodName := ⟨RC_c, "longest", "(I)I"⟩
theorem mC_longest : mj_M yC_longest bC_longest 2 1 (some .int) := ⟨mj_in (i := 716) (by decide +kernel) (by decide +kernel), mj_in (i := 81) (by decide +kernel) (by decide +kernel), ⟨by decide +kernel, by decide +kernel, by decide +kernel⟩, by decide +kernel, by decide +kernel⟩
abbrev bS_findLongest : ByteArray := prog_5_method_2_code
def yS_findLongest : MethodName := ⟨RS_c, "findLongest", "(LLampCave$Aside;)V"⟩
theorem mS_findLongest : mj_M yS_findLongest bS_findLongest 2 1 none := ⟨mj_in (i := 720) (by decide +kernel) (by decide +kernel), mj_in (i := 85) (by decide +kernel) (by decide +kernel), ⟨by decide +kernel, by decide +kernel, by decide +kernel⟩, by decide +kernel, by decide +kernel⟩
abbrev bS_start : ByteArray := prog_5_method_4_code
def yS_start : MethodName := ⟨RS_c, "start", "(LLampCave$Aside;)V"⟩
theorem mS_start : mj_M yS_start bS_start 2 1 none := ⟨mj_in (i := 724) (by decide +kernel) (by decide +kernel), mj_in (i := 85) (by decide +kernel) (by decide +kernel), ⟨by decide +kernel, by decide +kernel, by decide +kernel⟩, by decide +kernel, by decide +kernel⟩
abbrev bS_handFrom : ByteArray := prog_5_method_5_code
def yS_handFrom : MethodName := ⟨RS_c, "handFrom", "(LLampCave$Aside;I)V"⟩
theorem mS_handFrom : mj_M yS_handFrom bS_handFrom 4 2 none := ⟨mj_in (i := 729) (by decide +kernel) (by decide +kernel), mj_in (i := 85) (by decide +kernel) (by decide +kernel), ⟨by decide +kernel, by decide +kernel, by decide +kernel⟩, by decide +kernel, by decide +kernel⟩
abbrev bS_weigh : ByteArray := prog_5_method_7_code
def yS_weigh : MethodName := ⟨RS_c, "weigh", "(LLampCave$Aside;I)V"⟩
theorem mS_weigh : mj_M yS_weigh bS_weigh 5 2 none := ⟨mj_in (i := 733) (by decide +kernel) (by decide +kernel), mj_in (i := 85) (by decide +kernel) (by decide +kernel), ⟨by decide +kernel, by decide +kernel, by decide +kernel⟩, by decide +kernel, by decide +kernel⟩
abbrev bS_isSettled : ByteArray := prog_5_method_6_code
def yS_isSettled : MethodName := ⟨RS_c, "isSettled", "()Z"⟩
theorem mS_isSettled : mj_M yS_isSettled bS_isSettled 1 0 (some .boolean) := ⟨mj_in (i := 740) (by decide +kernel) (by decide +kernel), mj_in (i := 85) (by decide +kernel) (by decide +kernel), ⟨by decide +kernel, by decide +kernel, by decide +kernel⟩, by decide +kernel, by decide +kernel⟩
abbrev bA_restore : ByteArray := prog_2_method_25_code
def yA_restore : MethodName := ⟨RA_c, "restore", "(I)V"⟩
theorem mA_restore : mj_M yA_restore bA_restore 3 1 none := ⟨mj_in (i := 745) (by decide +kernel) (by decide +kernel), mj_in (i := 84) (by decide +kernel) (by decide +kernel), ⟨by decide +kernel, by decide +kernel, by decide +kernel⟩, by decide +kernel, by decide +kernel⟩
abbrev bC_fillRow : ByteArray := prog_1_method_64_code
def yC_fillRow : MethodName := ⟨RC_c, "fillRow", "(I[II)V"⟩
theorem mC_fillRow : mj_M yC_fillRow bC_fillRow 5 3 none := ⟨mj_in (i := 749) (by decide +kernel) (by decide +kernel), mj_in (i := 81) (by decide +kernel) (by decide +kernel), ⟨by decide +kernel, by decide +kernel, by decide +kernel⟩, by decide +kernel, by decide +kernel⟩
abbrev bC_calmest : ByteArray := prog_1_method_33_code
def yC_calmest : MethodName := ⟨RC_c, "calmest", "(II)I"⟩
theorem mC_calmest : mj_M yC_calmest bC_calmest 3 2 (some .int) := ⟨mj_in (i := 755) (by decide +kernel) (by decide +kernel), mj_in (i := 81) (by decide +kernel) (by decide +kernel), ⟨by decide +kernel, by decide +kernel, by decide +kernel⟩, by decide +kernel, by decide +kernel⟩
abbrev bS_findCalmest : ByteArray := prog_5_method_3_code
def yS_findCalmest : MethodName := ⟨RS_c, "findCalmest", "(LLampCave$Aside;I)V"⟩
theorem mS_findCalmest : mj_M yS_findCalmest bS_findCalmest 3 2 none := ⟨mj_in (i := 759) (by decide +kernel) (by decide +kernel), mj_in (i := 85) (by decide +kernel) (by decide +kernel), ⟨by decide +kernel, by decide +kernel, by decide +kernel⟩, by decide +kernel, by decide +kernel⟩
abbrev bC_order : ByteArray := prog_1_method_34_code
def yC_order : MethodName := ⟨RC_c, "order", "(I)I"⟩
theorem mC_order : mj_M yC_order bC_order 5 1 (some .int) := ⟨mj_in (i := 764) (by decide +kernel) (by decide +kernel), mj_in (i := 81) (by decide +kernel) (by decide +kernel), ⟨by decide +kernel, by decide +kernel, by decide +kernel⟩, by decide +kernel, by decide +kernel⟩
abbrev bC_sitByNumbers : ByteArray := prog_1_method_78_code
def yC_sitByNumbers : MethodName := ⟨RC_c, "sitByNumbers", "()V"⟩
theorem mC_sitByNumbers : mj_M yC_sitByNumbers bC_sitByNumbers 2 0 none := ⟨mj_in (i := 768) (by decide +kernel) (by decide +kernel), mj_in (i := 81) (by decide +kernel) (by decide +kernel), ⟨by decide +kernel, by decide +kernel, by decide +kernel⟩, by decide +kernel, by decide +kernel⟩
abbrev bC_holdingAsSeated : ByteArray := prog_1_method_80_code
def yC_holdingAsSeated : MethodName := ⟨RC_c, "holdingAsSeated", "()I"⟩
theorem mC_holdingAsSeated : mj_M yC_holdingAsSeated bC_holdingAsSeated 1 0 (some .int) := ⟨mj_in (i := 772) (by decide +kernel) (by decide +kernel), mj_in (i := 81) (by decide +kernel) (by decide +kernel), ⟨by decide +kernel, by decide +kernel, by decide +kernel⟩, by decide +kernel, by decide +kernel⟩
abbrev bA_sit : ByteArray := prog_2_method_3_code
def yA_sit : MethodName := ⟨RA_c, "sit", "([I)V"⟩
theorem mA_sit : mj_M yA_sit bA_sit 3 1 none := ⟨mj_in (i := 776) (by decide +kernel) (by decide +kernel), mj_in (i := 84) (by decide +kernel) (by decide +kernel), ⟨by decide +kernel, by decide +kernel, by decide +kernel⟩, by decide +kernel, by decide +kernel⟩
abbrev bC_nextSeating : ByteArray := prog_1_method_81_code
def yC_nextSeating : MethodName := ⟨RC_c, "nextSeating", "()Z"⟩
theorem mC_nextSeating : mj_M yC_nextSeating bC_nextSeating 5 0 (some .boolean) := ⟨mj_in (i := 780) (by decide +kernel) (by decide +kernel), mj_in (i := 81) (by decide +kernel) (by decide +kernel), ⟨by decide +kernel, by decide +kernel, by decide +kernel⟩, by decide +kernel, by decide +kernel⟩
abbrev bC_exchangeSeats : ByteArray := prog_1_method_79_code
def yC_exchangeSeats : MethodName := ⟨RC_c, "exchangeSeats", "(II)V"⟩
theorem mC_exchangeSeats : mj_M yC_exchangeSeats bC_exchangeSeats 4 2 none := ⟨mj_in (i := 784) (by decide +kernel) (by decide +kernel), mj_in (i := 81) (by decide +kernel) (by decide +kernel), ⟨by decide +kernel, by decide +kernel, by decide +kernel⟩, by decide +kernel, by decide +kernel⟩
abbrev bC_swap : ByteArray := prog_1_method_35_code
def yC_swap : MethodName := ⟨RC_c, "swap", "()I"⟩
theorem mC_swap : mj_M yC_swap bC_swap 6 0 (some .int) := ⟨mj_in (i := 788) (by decide +kernel) (by decide +kernel), mj_in (i := 81) (by decide +kernel) (by decide +kernel), ⟨by decide +kernel, by decide +kernel, by decide +kernel⟩, by decide +kernel, by decide +kernel⟩
abbrev bC_spare : ByteArray := prog_1_method_36_code
def yC_spare : MethodName := ⟨RC_c, "spare", "(I)I"⟩
theorem mC_spare : mj_M yC_spare bC_spare 3 1 (some .int) := ⟨mj_in (i := 792) (by decide +kernel) (by decide +kernel), mj_in (i := 81) (by decide +kernel) (by decide +kernel), ⟨by decide +kernel, by decide +kernel, by decide +kernel⟩, by decide +kernel, by decide +kernel⟩
abbrev bC_teller : ByteArray := prog_1_method_37_code
def yC_teller : MethodName := ⟨RC_c, "teller", "()I"⟩
theorem mC_teller : mj_M yC_teller bC_teller 5 0 (some .int) := ⟨mj_in (i := 796) (by decide +kernel) (by decide +kernel), mj_in (i := 81) (by decide +kernel) (by decide +kernel), ⟨by decide +kernel, by decide +kernel, by decide +kernel⟩, by decide +kernel, by decide +kernel⟩
abbrev bC_judge : ByteArray := prog_1_method_38_code
def yC_judge : MethodName := ⟨RC_c, "judge", "(I)I"⟩
theorem mC_judge : mj_M yC_judge bC_judge 8 1 (some .int) := ⟨mj_in (i := 800) (by decide +kernel) (by decide +kernel), mj_in (i := 81) (by decide +kernel) (by decide +kernel), ⟨by decide +kernel, by decide +kernel, by decide +kernel⟩, by decide +kernel, by decide +kernel⟩
abbrev bC_handingsRefusal : ByteArray := prog_1_method_63_code
def yC_handingsRefusal : MethodName := ⟨RC_c, "handingsRefusal", "(I)I"⟩
theorem mC_handingsRefusal : mj_M yC_handingsRefusal bC_handingsRefusal 3 1 (some .int) := ⟨mj_in (i := 804) (by decide +kernel) (by decide +kernel), mj_in (i := 81) (by decide +kernel) (by decide +kernel), ⟨by decide +kernel, by decide +kernel, by decide +kernel⟩, by decide +kernel, by decide +kernel⟩
abbrev bC_liars : ByteArray := prog_1_method_39_code
def yC_liars : MethodName := ⟨RC_c, "liars", "(I)I"⟩
theorem mC_liars : mj_M yC_liars bC_liars 7 1 (some .int) := ⟨mj_in (i := 808) (by decide +kernel) (by decide +kernel), mj_in (i := 81) (by decide +kernel) (by decide +kernel), ⟨by decide +kernel, by decide +kernel, by decide +kernel⟩, by decide +kernel, by decide +kernel⟩
abbrev bC_allByLaw : ByteArray := prog_1_method_77_code
def yC_allByLaw : MethodName := ⟨RC_c, "allByLaw", "(I)Z"⟩
theorem mC_allByLaw : mj_M yC_allByLaw bC_allByLaw 3 1 (some .boolean) := ⟨mj_in (i := 813) (by decide +kernel) (by decide +kernel), mj_in (i := 81) (by decide +kernel) (by decide +kernel), ⟨by decide +kernel, by decide +kernel, by decide +kernel⟩, by decide +kernel, by decide +kernel⟩
abbrev bC_grows : ByteArray := prog_1_method_40_code
def yC_grows : MethodName := ⟨RC_c, "grows", "(II)I"⟩
theorem mC_grows : mj_M yC_grows bC_grows 3 2 (some .int) := ⟨mj_in (i := 817) (by decide +kernel) (by decide +kernel), mj_in (i := 81) (by decide +kernel) (by decide +kernel), ⟨by decide +kernel, by decide +kernel, by decide +kernel⟩, by decide +kernel, by decide +kernel⟩
abbrev bC_figuresThatFit : ByteArray := prog_1_method_76_code
def yC_figuresThatFit : MethodName := ⟨RC_c, "figuresThatFit", "(II[I)I"⟩
theorem mC_figuresThatFit : mj_M yC_figuresThatFit bC_figuresThatFit 7 3 (some .int) := ⟨mj_in (i := 821) (by decide +kernel) (by decide +kernel), mj_in (i := 81) (by decide +kernel) (by decide +kernel), ⟨by decide +kernel, by decide +kernel, by decide +kernel⟩, by decide +kernel, by decide +kernel⟩
abbrev bC_fears : ByteArray := prog_1_method_41_code
def yC_fears : MethodName := ⟨RC_c, "fears", "(II)I"⟩
theorem mC_fears : mj_M yC_fears bC_fears 3 2 (some .int) := ⟨mj_in (i := 825) (by decide +kernel) (by decide +kernel), mj_in (i := 81) (by decide +kernel) (by decide +kernel), ⟨by decide +kernel, by decide +kernel, by decide +kernel⟩, by decide +kernel, by decide +kernel⟩
abbrev bC_tell : ByteArray := prog_1_method_42_code
def yC_tell : MethodName := ⟨RC_c, "tell", "(III)I"⟩
theorem mC_tell : mj_M yC_tell bC_tell 5 3 (some .int) := ⟨mj_in (i := 829) (by decide +kernel) (by decide +kernel), mj_in (i := 81) (by decide +kernel) (by decide +kernel), ⟨by decide +kernel, by decide +kernel, by decide +kernel⟩, by decide +kernel, by decide +kernel⟩
abbrev bC_visit : ByteArray := prog_1_method_43_code
def yC_visit : MethodName := ⟨RC_c, "visit", "(II)I"⟩
theorem mC_visit : mj_M yC_visit bC_visit 7 2 (some .int) := ⟨mj_in (i := 833) (by decide +kernel) (by decide +kernel), mj_in (i := 81) (by decide +kernel) (by decide +kernel), ⟨by decide +kernel, by decide +kernel, by decide +kernel⟩, by decide +kernel, by decide +kernel⟩
abbrev bC_asked : ByteArray := prog_1_method_44_code
def yC_asked : MethodName := ⟨RC_c, "asked", "()I"⟩
theorem mC_asked : mj_M yC_asked bC_asked 1 0 (some .int) := ⟨mj_in (i := 839) (by decide +kernel) (by decide +kernel), mj_in (i := 81) (by decide +kernel) (by decide +kernel), ⟨by decide +kernel, by decide +kernel, by decide +kernel⟩, by decide +kernel, by decide +kernel⟩
abbrev bC_upper : ByteArray := prog_1_method_45_code
def yC_upper : MethodName := ⟨RC_c, "upper", "()J"⟩
theorem mC_upper : mj_M yC_upper bC_upper 3 0 (some .long) := ⟨mj_in (i := 843) (by decide +kernel) (by decide +kernel), mj_in (i := 81) (by decide +kernel) (by decide +kernel), ⟨by decide +kernel, by decide +kernel, by decide +kernel⟩, by decide +kernel, by decide +kernel⟩
abbrev bV_sumOf : ByteArray := prog_3_method_10_code
def yV_sumOf : MethodName := ⟨RV_c, "sumOf", "([I)I"⟩
theorem mV_sumOf : mj_M yV_sumOf bV_sumOf 4 1 (some .int) := ⟨mj_in (i := 847) (by decide +kernel) (by decide +kernel), mj_in (i := 82) (by decide +kernel) (by decide +kernel), ⟨by decide +kernel, by decide +kernel, by decide +kernel⟩, by decide +kernel, by decide +kernel⟩
abbrev bC_greatestDivisor : ByteArray := prog_1_method_73_code
def yC_greatestDivisor : MethodName := ⟨RC_c, "greatestDivisor", "(II)I"⟩
theorem mC_greatestDivisor : mj_M yC_greatestDivisor bC_greatestDivisor 4 2 (some .int) := ⟨mj_in (i := 850) (by decide +kernel) (by decide +kernel), mj_in (i := 81) (by decide +kernel) (by decide +kernel), ⟨by decide +kernel, by decide +kernel, by decide +kernel⟩, by decide +kernel, by decide +kernel⟩
abbrev bC_lower : ByteArray := prog_1_method_46_code
def yC_lower : MethodName := ⟨RC_c, "lower", "()J"⟩
theorem mC_lower : mj_M yC_lower bC_lower 3 0 (some .long) := ⟨mj_in (i := 854) (by decide +kernel) (by decide +kernel), mj_in (i := 81) (by decide +kernel) (by decide +kernel), ⟨by decide +kernel, by decide +kernel, by decide +kernel⟩, by decide +kernel, by decide +kernel⟩
abbrev bC_count : ByteArray := prog_1_method_47_code
def yC_count : MethodName := ⟨RC_c, "count", "(I)I"⟩
theorem mC_count : mj_M yC_count bC_count 2 1 (some .int) := ⟨mj_in (i := 858) (by decide +kernel) (by decide +kernel), mj_in (i := 81) (by decide +kernel) (by decide +kernel), ⟨by decide +kernel, by decide +kernel, by decide +kernel⟩, by decide +kernel, by decide +kernel⟩
abbrev bC_howMany : ByteArray := prog_1_method_66_code
def yC_howMany : MethodName := ⟨RC_c, "howMany", "(I)I"⟩
theorem mC_howMany : mj_M yC_howMany bC_howMany 2 1 (some .int) := ⟨mj_in (i := 862) (by decide +kernel) (by decide +kernel), mj_in (i := 81) (by decide +kernel) (by decide +kernel), ⟨by decide +kernel, by decide +kernel, by decide +kernel⟩, by decide +kernel, by decide +kernel⟩
abbrev bC_keptCaves : ByteArray := prog_1_method_67_code
def yC_keptCaves : MethodName := ⟨RC_c, "keptCaves", "()I"⟩
theorem mC_keptCaves : mj_M yC_keptCaves bC_keptCaves 3 0 (some .int) := ⟨mj_in (i := 866) (by decide +kernel) (by decide +kernel), mj_in (i := 81) (by decide +kernel) (by decide +kernel), ⟨by decide +kernel, by decide +kernel, by decide +kernel⟩, by decide +kernel, by decide +kernel⟩
abbrev bC_keptMinute : ByteArray := prog_1_method_68_code
def yC_keptMinute : MethodName := ⟨RC_c, "keptMinute", "(I)I"⟩
theorem mC_keptMinute : mj_M yC_keptMinute bC_keptMinute 3 1 (some .int) := ⟨mj_in (i := 870) (by decide +kernel) (by decide +kernel), mj_in (i := 81) (by decide +kernel) (by decide +kernel), ⟨by decide +kernel, by decide +kernel, by decide +kernel⟩, by decide +kernel, by decide +kernel⟩
abbrev bC_thereOf : ByteArray := prog_1_method_70_code
def yC_thereOf : MethodName := ⟨RC_c, "thereOf", "([I)I"⟩
theorem mC_thereOf : mj_M yC_thereOf bC_thereOf 6 1 (some .int) := ⟨mj_in (i := 873) (by decide +kernel) (by decide +kernel), mj_in (i := 81) (by decide +kernel) (by decide +kernel), ⟨by decide +kernel, by decide +kernel, by decide +kernel⟩, by decide +kernel, by decide +kernel⟩
abbrev bC_finding : ByteArray := prog_1_method_48_code
def yC_finding : MethodName := ⟨RC_c, "finding", "()I"⟩
theorem mC_finding : mj_M yC_finding bC_finding 1 0 (some .int) := ⟨mj_in (i := 877) (by decide +kernel) (by decide +kernel), mj_in (i := 81) (by decide +kernel) (by decide +kernel), ⟨by decide +kernel, by decide +kernel, by decide +kernel⟩, by decide +kernel, by decide +kernel⟩
abbrev bC_findings : ByteArray := prog_1_method_49_code
def yC_findings : MethodName := ⟨RC_c, "findings", "(I)I"⟩
theorem mC_findings : mj_M yC_findings bC_findings 2 1 (some .int) := ⟨mj_in (i := 881) (by decide +kernel) (by decide +kernel), mj_in (i := 81) (by decide +kernel) (by decide +kernel), ⟨by decide +kernel, by decide +kernel, by decide +kernel⟩, by decide +kernel, by decide +kernel⟩
abbrev bC_digest : ByteArray := prog_1_method_50_code
def yC_digest : MethodName := ⟨RC_c, "digest", "()J"⟩
theorem mC_digest : mj_M yC_digest bC_digest 5 0 (some .long) := ⟨mj_in (i := 885) (by decide +kernel) (by decide +kernel), mj_in (i := 81) (by decide +kernel) (by decide +kernel), ⟨by decide +kernel, by decide +kernel, by decide +kernel⟩, by decide +kernel, by decide +kernel⟩
abbrev bC_withRows : ByteArray := prog_1_method_71_code
def yC_withRows : MethodName := ⟨RC_c, "withRows", "(J)J"⟩
theorem mC_withRows : mj_M yC_withRows bC_withRows 5 1 (some .long) := ⟨mj_in (i := 891) (by decide +kernel) (by decide +kernel), mj_in (i := 81) (by decide +kernel) (by decide +kernel), ⟨by decide +kernel, by decide +kernel, by decide +kernel⟩, by decide +kernel, by decide +kernel⟩
abbrev bC_withTexts : ByteArray := prog_1_method_72_code
def yC_withTexts : MethodName := ⟨RC_c, "withTexts", "(J)J"⟩
theorem mC_withTexts : mj_M yC_withTexts bC_withTexts 5 1 (some .long) := ⟨mj_in (i := 895) (by decide +kernel) (by decide +kernel), mj_in (i := 81) (by decide +kernel) (by decide +kernel), ⟨by decide +kernel, by decide +kernel, by decide +kernel⟩, by decide +kernel, by decide +kernel⟩
abbrev bM_init : ByteArray := prog_7_method_1_code
def yM_init : MethodName := ⟨RM_c, "<init>", "()V"⟩
theorem mM_init : mj_M yM_init bM_init 2 0 none := ⟨mj_in (i := 900) (by decide +kernel) (by decide +kernel), mj_in (i := 87) (by decide +kernel) (by decide +kernel), ⟨by decide +kernel, by decide +kernel, by decide +kernel⟩, by decide +kernel, by decide +kernel⟩
abbrev bM_row : ByteArray := prog_7_method_13_code
def yM_row : MethodName := ⟨RM_c, "row", "(II)I"⟩
theorem mM_row : mj_M yM_row bM_row 4 2 (some .int) := ⟨mj_in (i := 1041) (by decide +kernel) (by decide +kernel), mj_in (i := 87) (by decide +kernel) (by decide +kernel), ⟨by decide +kernel, by decide +kernel, by decide +kernel⟩, by decide +kernel, by decide +kernel⟩
abbrev bM_isRow : ByteArray := prog_7_method_7_code
def yM_isRow : MethodName := ⟨RM_c, "isRow", "(I)Z"⟩
theorem mM_isRow : mj_M yM_isRow bM_isRow 1 1 (some .boolean) := ⟨mj_in (i := 1044) (by decide +kernel) (by decide +kernel), mj_in (i := 87) (by decide +kernel) (by decide +kernel), ⟨by decide +kernel, by decide +kernel, by decide +kernel⟩, by decide +kernel, by decide +kernel⟩
abbrev bM_in : ByteArray := prog_7_method_3_code
def yM_in : MethodName := ⟨RM_c, "in", "(III)Z"⟩
theorem mM_in : mj_M yM_in bM_in 3 3 (some .boolean) := ⟨mj_in (i := 1047) (by decide +kernel) (by decide +kernel), mj_in (i := 87) (by decide +kernel) (by decide +kernel), ⟨by decide +kernel, by decide +kernel, by decide +kernel⟩, by decide +kernel, by decide +kernel⟩
abbrev bM_meet : ByteArray := prog_7_method_4_code
def yM_meet : MethodName := ⟨RM_c, "meet", "(I)I"⟩
theorem mM_meet : mj_M yM_meet bM_meet 2 1 (some .int) := ⟨mj_in (i := 1051) (by decide +kernel) (by decide +kernel), mj_in (i := 87) (by decide +kernel) (by decide +kernel), ⟨by decide +kernel, by decide +kernel, by decide +kernel⟩, by decide +kernel, by decide +kernel⟩
abbrev bM_setRow : ByteArray := prog_7_method_12_code
def yM_setRow : MethodName := ⟨RM_c, "setRow", "(III)V"⟩
theorem mM_setRow : mj_M yM_setRow bM_setRow 4 3 none := ⟨mj_in (i := 1055) (by decide +kernel) (by decide +kernel), mj_in (i := 87) (by decide +kernel) (by decide +kernel), ⟨by decide +kernel, by decide +kernel, by decide +kernel⟩, by decide +kernel, by decide +kernel⟩
abbrev bM_at : ByteArray := prog_7_method_14_code
def yM_at : MethodName := ⟨RM_c, "at", "(II)I"⟩
theorem mM_at : mj_M yM_at bM_at 4 2 (some .int) := ⟨mj_in (i := 1059) (by decide +kernel) (by decide +kernel), mj_in (i := 87) (by decide +kernel) (by decide +kernel), ⟨by decide +kernel, by decide +kernel, by decide +kernel⟩, by decide +kernel, by decide +kernel⟩
abbrev bM_askedRow : ByteArray := prog_7_method_9_code
def yM_askedRow : MethodName := ⟨RM_c, "askedRow", "(I)I"⟩
theorem mM_askedRow : mj_M yM_askedRow bM_askedRow 2 1 (some .int) := ⟨mj_in (i := 1063) (by decide +kernel) (by decide +kernel), mj_in (i := 87) (by decide +kernel) (by decide +kernel), ⟨by decide +kernel, by decide +kernel, by decide +kernel⟩, by decide +kernel, by decide +kernel⟩
abbrev bM_rowAt : ByteArray := prog_7_method_11_code
def yM_rowAt : MethodName := ⟨RM_c, "rowAt", "(II)I"⟩
theorem mM_rowAt : mj_M yM_rowAt bM_rowAt 3 2 (some .int) := ⟨mj_in (i := 1067) (by decide +kernel) (by decide +kernel), mj_in (i := 87) (by decide +kernel) (by decide +kernel), ⟨by decide +kernel, by decide +kernel, by decide +kernel⟩, by decide +kernel, by decide +kernel⟩
abbrev bM_ask : ByteArray := prog_7_method_5_code
def yM_ask : MethodName := ⟨RM_c, "ask", "(II)I"⟩
theorem mM_ask : mj_M yM_ask bM_ask 3 2 (some .int) := ⟨mj_in (i := 1071) (by decide +kernel) (by decide +kernel), mj_in (i := 87) (by decide +kernel) (by decide +kernel), ⟨by decide +kernel, by decide +kernel, by decide +kernel⟩, by decide +kernel, by decide +kernel⟩
abbrev bM_lay : ByteArray := prog_7_method_15_code
def yM_lay : MethodName := ⟨RM_c, "lay", "(III)I"⟩
theorem mM_lay : mj_M yM_lay bM_lay 5 3 (some .int) := ⟨mj_in (i := 1075) (by decide +kernel) (by decide +kernel), mj_in (i := 87) (by decide +kernel) (by decide +kernel), ⟨by decide +kernel, by decide +kernel, by decide +kernel⟩, by decide +kernel, by decide +kernel⟩
abbrev bM_tear : ByteArray := prog_7_method_16_code
def yM_tear : MethodName := ⟨RM_c, "tear", "(I)I"⟩
theorem mM_tear : mj_M yM_tear bM_tear 3 1 (some .int) := ⟨mj_in (i := 1080) (by decide +kernel) (by decide +kernel), mj_in (i := 87) (by decide +kernel) (by decide +kernel), ⟨by decide +kernel, by decide +kernel, by decide +kernel⟩, by decide +kernel, by decide +kernel⟩
abbrev bM_copy : ByteArray := prog_7_method_17_code
def yM_copy : MethodName := ⟨RM_c, "copy", "(IIIII)I"⟩
theorem mM_copy : mj_M yM_copy bM_copy 7 5 (some .int) := ⟨mj_in (i := 1084) (by decide +kernel) (by decide +kernel), mj_in (i := 87) (by decide +kernel) (by decide +kernel), ⟨by decide +kernel, by decide +kernel, by decide +kernel⟩, by decide +kernel, by decide +kernel⟩
abbrev bM_mean : ByteArray := prog_7_method_18_code
def yM_mean : MethodName := ⟨RM_c, "mean", "(I)I"⟩
theorem mM_mean : mj_M yM_mean bM_mean 6 1 (some .int) := ⟨mj_in (i := 1088) (by decide +kernel) (by decide +kernel), mj_in (i := 87) (by decide +kernel) (by decide +kernel), ⟨by decide +kernel, by decide +kernel, by decide +kernel⟩, by decide +kernel, by decide +kernel⟩
abbrev bM_text : ByteArray := prog_7_method_19_code
def yM_text : MethodName := ⟨RM_c, "text", "(II)I"⟩
theorem mM_text : mj_M yM_text bM_text 4 2 (some .int) := ⟨mj_in (i := 1092) (by decide +kernel) (by decide +kernel), mj_in (i := 87) (by decide +kernel) (by decide +kernel), ⟨by decide +kernel, by decide +kernel, by decide +kernel⟩, by decide +kernel, by decide +kernel⟩
abbrev bM_isText : ByteArray := prog_7_method_8_code
def yM_isText : MethodName := ⟨RM_c, "isText", "(I)Z"⟩
theorem mM_isText : mj_M yM_isText bM_isText 1 1 (some .boolean) := ⟨mj_in (i := 1095) (by decide +kernel) (by decide +kernel), mj_in (i := 87) (by decide +kernel) (by decide +kernel), ⟨by decide +kernel, by decide +kernel, by decide +kernel⟩, by decide +kernel, by decide +kernel⟩
abbrev bM_put : ByteArray := prog_7_method_20_code
def yM_put : MethodName := ⟨RM_c, "put", "(III)I"⟩
theorem mM_put : mj_M yM_put bM_put 6 3 (some .int) := ⟨mj_in (i := 1099) (by decide +kernel) (by decide +kernel), mj_in (i := 87) (by decide +kernel) (by decide +kernel), ⟨by decide +kernel, by decide +kernel, by decide +kernel⟩, by decide +kernel, by decide +kernel⟩
abbrev bM_askedText : ByteArray := prog_7_method_10_code
def yM_askedText : MethodName := ⟨RM_c, "askedText", "(I)I"⟩
theorem mM_askedText : mj_M yM_askedText bM_askedText 2 1 (some .int) := ⟨mj_in (i := 1103) (by decide +kernel) (by decide +kernel), mj_in (i := 87) (by decide +kernel) (by decide +kernel), ⟨by decide +kernel, by decide +kernel, by decide +kernel⟩, by decide +kernel, by decide +kernel⟩
abbrev bM_fault : ByteArray := prog_7_method_27_code
def yM_fault : MethodName := ⟨RM_c, "fault", "(I)I"⟩
theorem mM_fault : mj_M yM_fault bM_fault 3 1 (some .int) := ⟨mj_in (i := 1107) (by decide +kernel) (by decide +kernel), mj_in (i := 87) (by decide +kernel) (by decide +kernel), ⟨by decide +kernel, by decide +kernel, by decide +kernel⟩, by decide +kernel, by decide +kernel⟩
abbrev bM_goesOn : ByteArray := prog_7_method_26_code
def yM_goesOn : MethodName := ⟨RM_c, "goesOn", "(I)I"⟩
theorem mM_goesOn : mj_M yM_goesOn bM_goesOn 2 1 (some .int) := ⟨mj_in (i := 1111) (by decide +kernel) (by decide +kernel), mj_in (i := 87) (by decide +kernel) (by decide +kernel), ⟨by decide +kernel, by decide +kernel, by decide +kernel⟩, by decide +kernel, by decide +kernel⟩
abbrev bM_here : ByteArray := prog_7_method_21_code
def yM_here : MethodName := ⟨RM_c, "here", "(I)I"⟩
theorem mM_here : mj_M yM_here bM_here 2 1 (some .int) := ⟨mj_in (i := 1115) (by decide +kernel) (by decide +kernel), mj_in (i := 87) (by decide +kernel) (by decide +kernel), ⟨by decide +kernel, by decide +kernel, by decide +kernel⟩, by decide +kernel, by decide +kernel⟩
abbrev bM_readsHead : ByteArray := prog_7_method_24_code
def yM_readsHead : MethodName := ⟨RM_c, "readsHead", "(I)Z"⟩
theorem mM_readsHead : mj_M yM_readsHead bM_readsHead 5 1 (some .boolean) := ⟨mj_in (i := 1119) (by decide +kernel) (by decide +kernel), mj_in (i := 87) (by decide +kernel) (by decide +kernel), ⟨by decide +kernel, by decide +kernel, by decide +kernel⟩, by decide +kernel, by decide +kernel⟩
abbrev bM_figure : ByteArray := prog_7_method_23_code
def yM_figure : MethodName := ⟨RM_c, "figure", "(III)I"⟩
theorem mM_figure : mj_M yM_figure bM_figure 5 3 (some .int) := ⟨mj_in (i := 1123) (by decide +kernel) (by decide +kernel), mj_in (i := 87) (by decide +kernel) (by decide +kernel), ⟨by decide +kernel, by decide +kernel, by decide +kernel⟩, by decide +kernel, by decide +kernel⟩
abbrev bM_readsPerson : ByteArray := prog_7_method_25_code
def yM_readsPerson : MethodName := ⟨RM_c, "readsPerson", "(I)Z"⟩
theorem mM_readsPerson : mj_M yM_readsPerson bM_readsPerson 8 1 (some .boolean) := ⟨mj_in (i := 1127) (by decide +kernel) (by decide +kernel), mj_in (i := 87) (by decide +kernel) (by decide +kernel), ⟨by decide +kernel, by decide +kernel, by decide +kernel⟩, by decide +kernel, by decide +kernel⟩
abbrev bM_kindOf : ByteArray := prog_7_method_22_code
def yM_kindOf : MethodName := ⟨RM_c, "kindOf", "(I)I"⟩
theorem mM_kindOf : mj_M yM_kindOf bM_kindOf 1 1 (some .int) := ⟨mj_in (i := 1130) (by decide +kernel) (by decide +kernel), mj_in (i := 87) (by decide +kernel) (by decide +kernel), ⟨by decide +kernel, by decide +kernel, by decide +kernel⟩, by decide +kernel, by decide +kernel⟩
abbrev bM_cave : ByteArray := prog_7_method_28_code
def yM_cave : MethodName := ⟨RM_c, "cave", "(I)I"⟩
theorem mM_cave : mj_M yM_cave bM_cave 4 1 (some .int) := ⟨mj_in (i := 1134) (by decide +kernel) (by decide +kernel), mj_in (i := 87) (by decide +kernel) (by decide +kernel), ⟨by decide +kernel, by decide +kernel, by decide +kernel⟩, by decide +kernel, by decide +kernel⟩
abbrev bM_person : ByteArray := prog_7_method_34_code
def yM_person : MethodName := ⟨RM_c, "person", "(II)I"⟩
theorem mM_person : mj_M yM_person bM_person 3 2 (some .int) := ⟨mj_in (i := 1138) (by decide +kernel) (by decide +kernel), mj_in (i := 87) (by decide +kernel) (by decide +kernel), ⟨by decide +kernel, by decide +kernel, by decide +kernel⟩, by decide +kernel, by decide +kernel⟩
abbrev bM_isOne : ByteArray := prog_7_method_29_code
def yM_isOne : MethodName := ⟨RM_c, "isOne", "(I)Z"⟩
theorem mM_isOne : mj_M yM_isOne bM_isOne 2 1 (some .boolean) := ⟨mj_in (i := 1142) (by decide +kernel) (by decide +kernel), mj_in (i := 87) (by decide +kernel) (by decide +kernel), ⟨by decide +kernel, by decide +kernel, by decide +kernel⟩, by decide +kernel, by decide +kernel⟩
abbrev bM_personOf : ByteArray := prog_7_method_33_code
def yM_personOf : MethodName := ⟨RM_c, "personOf", "(II)I"⟩
theorem mM_personOf : mj_M yM_personOf bM_personOf 3 2 (some .int) := ⟨mj_in (i := 1146) (by decide +kernel) (by decide +kernel), mj_in (i := 87) (by decide +kernel) (by decide +kernel), ⟨by decide +kernel, by decide +kernel, by decide +kernel⟩, by decide +kernel, by decide +kernel⟩
abbrev bM_showsOf : ByteArray := prog_7_method_31_code
def yM_showsOf : MethodName := ⟨RM_c, "showsOf", "(I)I"⟩
theorem mM_showsOf : mj_M yM_showsOf bM_showsOf 3 1 (some .int) := ⟨mj_in (i := 1150) (by decide +kernel) (by decide +kernel), mj_in (i := 87) (by decide +kernel) (by decide +kernel), ⟨by decide +kernel, by decide +kernel, by decide +kernel⟩, by decide +kernel, by decide +kernel⟩
abbrev bM_has : ByteArray := prog_7_method_6_code
def yM_has : MethodName := ⟨RM_c, "has", "(II)Z"⟩
theorem mM_has : mj_M yM_has bM_has 2 2 (some .boolean) := ⟨mj_in (i := 1153) (by decide +kernel) (by decide +kernel), mj_in (i := 87) (by decide +kernel) (by decide +kernel), ⟨by decide +kernel, by decide +kernel, by decide +kernel⟩, by decide +kernel, by decide +kernel⟩
abbrev bM_mark : ByteArray := prog_7_method_35_code
def yM_mark : MethodName := ⟨RM_c, "mark", "(II)I"⟩
theorem mM_mark : mj_M yM_mark bM_mark 7 2 (some .int) := ⟨mj_in (i := 1157) (by decide +kernel) (by decide +kernel), mj_in (i := 87) (by decide +kernel) (by decide +kernel), ⟨by decide +kernel, by decide +kernel, by decide +kernel⟩, by decide +kernel, by decide +kernel⟩
abbrev bM_isCalm : ByteArray := prog_7_method_30_code
def yM_isCalm : MethodName := ⟨RM_c, "isCalm", "(I)Z"⟩
theorem mM_isCalm : mj_M yM_isCalm bM_isCalm 2 1 (some .boolean) := ⟨mj_in (i := 1161) (by decide +kernel) (by decide +kernel), mj_in (i := 87) (by decide +kernel) (by decide +kernel), ⟨by decide +kernel, by decide +kernel, by decide +kernel⟩, by decide +kernel, by decide +kernel⟩
abbrev bM_isBeside : ByteArray := prog_7_method_32_code
def yM_isBeside : MethodName := ⟨RM_c, "isBeside", "(II)Z"⟩
theorem mM_isBeside : mj_M yM_isBeside bM_isBeside 4 2 (some .boolean) := ⟨mj_in (i := 1165) (by decide +kernel) (by decide +kernel), mj_in (i := 87) (by decide +kernel) (by decide +kernel), ⟨by decide +kernel, by decide +kernel, by decide +kernel⟩, by decide +kernel, by decide +kernel⟩
abbrev bM_law : ByteArray := prog_7_method_36_code
def yM_law : MethodName := ⟨RM_c, "law", "(I)I"⟩
theorem mM_law : mj_M yM_law bM_law 3 1 (some .int) := ⟨mj_in (i := 1169) (by decide +kernel) (by decide +kernel), mj_in (i := 87) (by decide +kernel) (by decide +kernel), ⟨by decide +kernel, by decide +kernel, by decide +kernel⟩, by decide +kernel, by decide +kernel⟩
abbrev bM_oil : ByteArray := prog_7_method_37_code
def yM_oil : MethodName := ⟨RM_c, "oil", "(I)I"⟩
theorem mM_oil : mj_M yM_oil bM_oil 3 1 (some .int) := ⟨mj_in (i := 1173) (by decide +kernel) (by decide +kernel), mj_in (i := 87) (by decide +kernel) (by decide +kernel), ⟨by decide +kernel, by decide +kernel, by decide +kernel⟩, by decide +kernel, by decide +kernel⟩
abbrev bM_fear : ByteArray := prog_7_method_38_code
def yM_fear : MethodName := ⟨RM_c, "fear", "(II)I"⟩
theorem mM_fear : mj_M yM_fear bM_fear 4 2 (some .int) := ⟨mj_in (i := 1177) (by decide +kernel) (by decide +kernel), mj_in (i := 87) (by decide +kernel) (by decide +kernel), ⟨by decide +kernel, by decide +kernel, by decide +kernel⟩, by decide +kernel, by decide +kernel⟩
abbrev bM_minutes : ByteArray := prog_7_method_45_code
def yM_minutes : MethodName := ⟨RM_c, "minutes", "(I)I"⟩
theorem mM_minutes : mj_M yM_minutes bM_minutes 3 1 (some .int) := ⟨mj_in (i := 1181) (by decide +kernel) (by decide +kernel), mj_in (i := 87) (by decide +kernel) (by decide +kernel), ⟨by decide +kernel, by decide +kernel, by decide +kernel⟩, by decide +kernel, by decide +kernel⟩
abbrev bM_isOver : ByteArray := prog_7_method_43_code
def yM_isOver : MethodName := ⟨RM_c, "isOver", "()Z"⟩
theorem mM_isOver : mj_M yM_isOver bM_isOver 1 0 (some .boolean) := ⟨mj_in (i := 1185) (by decide +kernel) (by decide +kernel), mj_in (i := 87) (by decide +kernel) (by decide +kernel), ⟨by decide +kernel, by decide +kernel, by decide +kernel⟩, by decide +kernel, by decide +kernel⟩
abbrev bM_screaming : ByteArray := prog_7_method_42_code
def yM_screaming : MethodName := ⟨RM_c, "screaming", "()I"⟩
theorem mM_screaming : mj_M yM_screaming bM_screaming 3 0 (some .int) := ⟨mj_in (i := 1189) (by decide +kernel) (by decide +kernel), mj_in (i := 87) (by decide +kernel) (by decide +kernel), ⟨by decide +kernel, by decide +kernel, by decide +kernel⟩, by decide +kernel, by decide +kernel⟩
abbrev bM_nextBy : ByteArray := prog_7_method_40_code
def yM_nextBy : MethodName := ⟨RM_c, "nextBy", "(I)I"⟩
theorem mM_nextBy : mj_M yM_nextBy bM_nextBy 5 1 (some .int) := ⟨mj_in (i := 1193) (by decide +kernel) (by decide +kernel), mj_in (i := 87) (by decide +kernel) (by decide +kernel), ⟨by decide +kernel, by decide +kernel, by decide +kernel⟩, by decide +kernel, by decide +kernel⟩
abbrev bM_mostOf : ByteArray := prog_7_method_39_code
def yM_mostOf : MethodName := ⟨RM_c, "mostOf", "(I)I"⟩
theorem mM_mostOf : mj_M yM_mostOf bM_mostOf 4 1 (some .int) := ⟨mj_in (i := 1197) (by decide +kernel) (by decide +kernel), mj_in (i := 87) (by decide +kernel) (by decide +kernel), ⟨by decide +kernel, by decide +kernel, by decide +kernel⟩, by decide +kernel, by decide +kernel⟩
abbrev bM_goMinute : ByteArray := prog_7_method_44_code
def yM_goMinute : MethodName := ⟨RM_c, "goMinute", "(I)V"⟩
theorem mM_goMinute : mj_M yM_goMinute bM_goMinute 3 1 none := ⟨mj_in (i := 1201) (by decide +kernel) (by decide +kernel), mj_in (i := 87) (by decide +kernel) (by decide +kernel), ⟨by decide +kernel, by decide +kernel, by decide +kernel⟩, by decide +kernel, by decide +kernel⟩
abbrev bM_passMinute : ByteArray := prog_7_method_41_code
def yM_passMinute : MethodName := ⟨RM_c, "passMinute", "(I)V"⟩
theorem mM_passMinute : mj_M yM_passMinute bM_passMinute 8 1 none := ⟨mj_in (i := 1205) (by decide +kernel) (by decide +kernel), mj_in (i := 87) (by decide +kernel) (by decide +kernel), ⟨by decide +kernel, by decide +kernel, by decide +kernel⟩, by decide +kernel, by decide +kernel⟩
abbrev bM_hand : ByteArray := prog_7_method_46_code
def yM_hand : MethodName := ⟨RM_c, "hand", "(I)I"⟩
theorem mM_hand : mj_M yM_hand bM_hand 2 1 (some .int) := ⟨mj_in (i := 1209) (by decide +kernel) (by decide +kernel), mj_in (i := 87) (by decide +kernel) (by decide +kernel), ⟨by decide +kernel, by decide +kernel, by decide +kernel⟩, by decide +kernel, by decide +kernel⟩
abbrev bM_next : ByteArray := prog_7_method_47_code
def yM_next : MethodName := ⟨RM_c, "next", "()I"⟩
theorem mM_next : mj_M yM_next bM_next 1 0 (some .int) := ⟨mj_in (i := 1213) (by decide +kernel) (by decide +kernel), mj_in (i := 87) (by decide +kernel) (by decide +kernel), ⟨by decide +kernel, by decide +kernel, by decide +kernel⟩, by decide +kernel, by decide +kernel⟩
abbrev bM_had : ByteArray := prog_7_method_48_code
def yM_had : MethodName := ⟨RM_c, "had", "(I)I"⟩
theorem mM_had : mj_M yM_had bM_had 2 1 (some .int) := ⟨mj_in (i := 1217) (by decide +kernel) (by decide +kernel), mj_in (i := 87) (by decide +kernel) (by decide +kernel), ⟨by decide +kernel, by decide +kernel, by decide +kernel⟩, by decide +kernel, by decide +kernel⟩
abbrev bM_undo : ByteArray := prog_7_method_49_code
def yM_undo : MethodName := ⟨RM_c, "undo", "(I)I"⟩
theorem mM_undo : mj_M yM_undo bM_undo 4 1 (some .int) := ⟨mj_in (i := 1221) (by decide +kernel) (by decide +kernel), mj_in (i := 87) (by decide +kernel) (by decide +kernel), ⟨by decide +kernel, by decide +kernel, by decide +kernel⟩, by decide +kernel, by decide +kernel⟩
abbrev bM_over : ByteArray := prog_7_method_50_code
def yM_over : MethodName := ⟨RM_c, "over", "()I"⟩
theorem mM_over : mj_M yM_over bM_over 1 0 (some .int) := ⟨mj_in (i := 1225) (by decide +kernel) (by decide +kernel), mj_in (i := 87) (by decide +kernel) (by decide +kernel), ⟨by decide +kernel, by decide +kernel, by decide +kernel⟩, by decide +kernel, by decide +kernel⟩
abbrev bM_story : ByteArray := prog_7_method_53_code
def yM_story : MethodName := ⟨RM_c, "story", "(I)I"⟩
theorem mM_story : mj_M yM_story bM_story 2 1 (some .int) := ⟨mj_in (i := 1229) (by decide +kernel) (by decide +kernel), mj_in (i := 87) (by decide +kernel) (by decide +kernel), ⟨by decide +kernel, by decide +kernel, by decide +kernel⟩, by decide +kernel, by decide +kernel⟩
abbrev bM_tellStory : ByteArray := prog_7_method_52_code
def yM_tellStory : MethodName := ⟨RM_c, "tellStory", "(I)V"⟩
theorem mM_tellStory : mj_M yM_tellStory bM_tellStory 3 1 none := ⟨mj_in (i := 1233) (by decide +kernel) (by decide +kernel), mj_in (i := 87) (by decide +kernel) (by decide +kernel), ⟨by decide +kernel, by decide +kernel, by decide +kernel⟩, by decide +kernel, by decide +kernel⟩
abbrev bM_allFears : ByteArray := prog_7_method_51_code
def yM_allFears : MethodName := ⟨RM_c, "allFears", "()I"⟩
theorem mM_allFears : mj_M yM_allFears bM_allFears 3 0 (some .int) := ⟨mj_in (i := 1237) (by decide +kernel) (by decide +kernel), mj_in (i := 87) (by decide +kernel) (by decide +kernel), ⟨by decide +kernel, by decide +kernel, by decide +kernel⟩, by decide +kernel, by decide +kernel⟩
abbrev bM_song : ByteArray := prog_7_method_54_code
def yM_song : MethodName := ⟨RM_c, "song", "(I)I"⟩
theorem mM_song : mj_M yM_song bM_song 4 1 (some .int) := ⟨mj_in (i := 1241) (by decide +kernel) (by decide +kernel), mj_in (i := 87) (by decide +kernel) (by decide +kernel), ⟨by decide +kernel, by decide +kernel, by decide +kernel⟩, by decide +kernel, by decide +kernel⟩
abbrev bM_keep : ByteArray := prog_7_method_55_code
def yM_keep : MethodName := ⟨RM_c, "keep", "(I)I"⟩
theorem mM_keep : mj_M yM_keep bM_keep 4 1 (some .int) := ⟨mj_in (i := 1245) (by decide +kernel) (by decide +kernel), mj_in (i := 87) (by decide +kernel) (by decide +kernel), ⟨by decide +kernel, by decide +kernel, by decide +kernel⟩, by decide +kernel, by decide +kernel⟩
abbrev bM_on : ByteArray := prog_7_method_56_code
def yM_on : MethodName := ⟨RM_c, "on", "(I)I"⟩
theorem mM_on : mj_M yM_on bM_on 4 1 (some .int) := ⟨mj_in (i := 1249) (by decide +kernel) (by decide +kernel), mj_in (i := 87) (by decide +kernel) (by decide +kernel), ⟨by decide +kernel, by decide +kernel, by decide +kernel⟩, by decide +kernel, by decide +kernel⟩
abbrev bM_holds : ByteArray := prog_7_method_60_code
def yM_holds : MethodName := ⟨RM_c, "holds", "(I)I"⟩
theorem mM_holds : mj_M yM_holds bM_holds 3 1 (some .int) := ⟨mj_in (i := 1253) (by decide +kernel) (by decide +kernel), mj_in (i := 87) (by decide +kernel) (by decide +kernel), ⟨by decide +kernel, by decide +kernel, by decide +kernel⟩, by decide +kernel, by decide +kernel⟩
abbrev bM_holdsOf : ByteArray := prog_7_method_59_code
def yM_holdsOf : MethodName := ⟨RM_c, "holdsOf", "(I)I"⟩
theorem mM_holdsOf : mj_M yM_holdsOf bM_holdsOf 3 1 (some .int) := ⟨mj_in (i := 1257) (by decide +kernel) (by decide +kernel), mj_in (i := 87) (by decide +kernel) (by decide +kernel), ⟨by decide +kernel, by decide +kernel, by decide +kernel⟩, by decide +kernel, by decide +kernel⟩
abbrev bM_putAside : ByteArray := prog_7_method_57_code
def yM_putAside : MethodName := ⟨RM_c, "putAside", "()V"⟩
theorem mM_putAside : mj_M yM_putAside bM_putAside 2 0 none := ⟨mj_in (i := 1261) (by decide +kernel) (by decide +kernel), mj_in (i := 87) (by decide +kernel) (by decide +kernel), ⟨by decide +kernel, by decide +kernel, by decide +kernel⟩, by decide +kernel, by decide +kernel⟩
abbrev bM_comeBack : ByteArray := prog_7_method_58_code
def yM_comeBack : MethodName := ⟨RM_c, "comeBack", "()V"⟩
theorem mM_comeBack : mj_M yM_comeBack bM_comeBack 2 0 none := ⟨mj_in (i := 1265) (by decide +kernel) (by decide +kernel), mj_in (i := 87) (by decide +kernel) (by decide +kernel), ⟨by decide +kernel, by decide +kernel, by decide +kernel⟩, by decide +kernel, by decide +kernel⟩
abbrev bM_best : ByteArray := prog_7_method_62_code
def yM_best : MethodName := ⟨RM_c, "best", "()I"⟩
theorem mM_best : mj_M yM_best bM_best 5 0 (some .int) := ⟨mj_in (i := 1269) (by decide +kernel) (by decide +kernel), mj_in (i := 87) (by decide +kernel) (by decide +kernel), ⟨by decide +kernel, by decide +kernel, by decide +kernel⟩, by decide +kernel, by decide +kernel⟩
abbrev bM_longBy : ByteArray := prog_7_method_61_code
def yM_longBy : MethodName := ⟨RM_c, "longBy", "(I)I"⟩
theorem mM_longBy : mj_M yM_longBy bM_longBy 1 1 (some .int) := ⟨mj_in (i := 1272) (by decide +kernel) (by decide +kernel), mj_in (i := 87) (by decide +kernel) (by decide +kernel), ⟨by decide +kernel, by decide +kernel, by decide +kernel⟩, by decide +kernel, by decide +kernel⟩
abbrev bM_rest : ByteArray := prog_7_method_65_code
def yM_rest : MethodName := ⟨RM_c, "rest", "()I"⟩
theorem mM_rest : mj_M yM_rest bM_rest 3 0 (some .int) := ⟨mj_in (i := 1277) (by decide +kernel) (by decide +kernel), mj_in (i := 87) (by decide +kernel) (by decide +kernel), ⟨by decide +kernel, by decide +kernel, by decide +kernel⟩, by decide +kernel, by decide +kernel⟩
abbrev bM_setPast : ByteArray := prog_7_method_63_code
def yM_setPast : MethodName := ⟨RM_c, "setPast", "(I)V"⟩
theorem mM_setPast : mj_M yM_setPast bM_setPast 4 1 none := ⟨mj_in (i := 1281) (by decide +kernel) (by decide +kernel), mj_in (i := 87) (by decide +kernel) (by decide +kernel), ⟨by decide +kernel, by decide +kernel, by decide +kernel⟩, by decide +kernel, by decide +kernel⟩
abbrev bM_isPast : ByteArray := prog_7_method_64_code
def yM_isPast : MethodName := ⟨RM_c, "isPast", "(I)Z"⟩
theorem mM_isPast : mj_M yM_isPast bM_isPast 5 1 (some .boolean) := ⟨mj_in (i := 1285) (by decide +kernel) (by decide +kernel), mj_in (i := 87) (by decide +kernel) (by decide +kernel), ⟨by decide +kernel, by decide +kernel, by decide +kernel⟩, by decide +kernel, by decide +kernel⟩
abbrev bM_worst : ByteArray := prog_7_method_69_code
def yM_worst : MethodName := ⟨RM_c, "worst", "(I)I"⟩
theorem mM_worst : mj_M yM_worst bM_worst 4 1 (some .int) := ⟨mj_in (i := 1289) (by decide +kernel) (by decide +kernel), mj_in (i := 87) (by decide +kernel) (by decide +kernel), ⟨by decide +kernel, by decide +kernel, by decide +kernel⟩, by decide +kernel, by decide +kernel⟩
abbrev bM_isSpan : ByteArray := prog_7_method_67_code
def yM_isSpan : MethodName := ⟨RM_c, "isSpan", "(I)Z"⟩
theorem mM_isSpan : mj_M yM_isSpan bM_isSpan 1 1 (some .boolean) := ⟨mj_in (i := 1292) (by decide +kernel) (by decide +kernel), mj_in (i := 87) (by decide +kernel) (by decide +kernel), ⟨by decide +kernel, by decide +kernel, by decide +kernel⟩, by decide +kernel, by decide +kernel⟩
abbrev bM_pass : ByteArray := prog_7_method_68_code
def yM_pass : MethodName := ⟨RM_c, "pass", "(II)V"⟩
theorem mM_pass : mj_M yM_pass bM_pass 4 2 none := ⟨mj_in (i := 1296) (by decide +kernel) (by decide +kernel), mj_in (i := 87) (by decide +kernel) (by decide +kernel), ⟨by decide +kernel, by decide +kernel, by decide +kernel⟩, by decide +kernel, by decide +kernel⟩
abbrev bM_greatest : ByteArray := prog_7_method_66_code
def yM_greatest : MethodName := ⟨RM_c, "greatest", "()I"⟩
theorem mM_greatest : mj_M yM_greatest bM_greatest 3 0 (some .int) := ⟨mj_in (i := 1300) (by decide +kernel) (by decide +kernel), mj_in (i := 87) (by decide +kernel) (by decide +kernel), ⟨by decide +kernel, by decide +kernel, by decide +kernel⟩, by decide +kernel, by decide +kernel⟩
abbrev bM_often : ByteArray := prog_7_method_70_code
def yM_often : MethodName := ⟨RM_c, "often", "(II)I"⟩
theorem mM_often : mj_M yM_often bM_often 3 2 (some .int) := ⟨mj_in (i := 1304) (by decide +kernel) (by decide +kernel), mj_in (i := 87) (by decide +kernel) (by decide +kernel), ⟨by decide +kernel, by decide +kernel, by decide +kernel⟩, by decide +kernel, by decide +kernel⟩
abbrev bM_longest : ByteArray := prog_7_method_76_code
def yM_longest : MethodName := ⟨RM_c, "longest", "(I)I"⟩
theorem mM_longest : mj_M yM_longest bM_longest 2 1 (some .int) := ⟨mj_in (i := 1308) (by decide +kernel) (by decide +kernel), mj_in (i := 87) (by decide +kernel) (by decide +kernel), ⟨by decide +kernel, by decide +kernel, by decide +kernel⟩, by decide +kernel, by decide +kernel⟩
abbrev bM_longOn : ByteArray := prog_7_method_74_code
def yM_longOn : MethodName := ⟨RM_c, "longOn", "(I)V"⟩
theorem mM_longOn : mj_M yM_longOn bM_longOn 3 1 none := ⟨mj_in (i := 1312) (by decide +kernel) (by decide +kernel), mj_in (i := 87) (by decide +kernel) (by decide +kernel), ⟨by decide +kernel, by decide +kernel, by decide +kernel⟩, by decide +kernel, by decide +kernel⟩
abbrev bM_copyLaid : ByteArray := prog_7_method_73_code
def yM_copyLaid : MethodName := ⟨RM_c, "copyLaid", "(I)V"⟩
theorem mM_copyLaid : mj_M yM_copyLaid bM_copyLaid 3 1 none := ⟨mj_in (i := 1316) (by decide +kernel) (by decide +kernel), mj_in (i := 87) (by decide +kernel) (by decide +kernel), ⟨by decide +kernel, by decide +kernel, by decide +kernel⟩, by decide +kernel, by decide +kernel⟩
abbrev bM_putDepth : ByteArray := prog_7_method_71_code
def yM_putDepth : MethodName := ⟨RM_c, "putDepth", "(I)V"⟩
theorem mM_putDepth : mj_M yM_putDepth bM_putDepth 3 1 none := ⟨mj_in (i := 1320) (by decide +kernel) (by decide +kernel), mj_in (i := 87) (by decide +kernel) (by decide +kernel), ⟨by decide +kernel, by decide +kernel, by decide +kernel⟩, by decide +kernel, by decide +kernel⟩
abbrev bM_backTo : ByteArray := prog_7_method_72_code
def yM_backTo : MethodName := ⟨RM_c, "backTo", "(I)V"⟩
theorem mM_backTo : mj_M yM_backTo bM_backTo 3 1 none := ⟨mj_in (i := 1324) (by decide +kernel) (by decide +kernel), mj_in (i := 87) (by decide +kernel) (by decide +kernel), ⟨by decide +kernel, by decide +kernel, by decide +kernel⟩, by decide +kernel, by decide +kernel⟩
abbrev bM_layBest : ByteArray := prog_7_method_75_code
def yM_layBest : MethodName := ⟨RM_c, "layBest", "(II)V"⟩
theorem mM_layBest : mj_M yM_layBest bM_layBest 4 2 none := ⟨mj_in (i := 1328) (by decide +kernel) (by decide +kernel), mj_in (i := 87) (by decide +kernel) (by decide +kernel), ⟨by decide +kernel, by decide +kernel, by decide +kernel⟩, by decide +kernel, by decide +kernel⟩
abbrev bM_calmest : ByteArray := prog_7_method_78_code
def yM_calmest : MethodName := ⟨RM_c, "calmest", "(II)I"⟩
theorem mM_calmest : mj_M yM_calmest bM_calmest 3 2 (some .int) := ⟨mj_in (i := 1333) (by decide +kernel) (by decide +kernel), mj_in (i := 87) (by decide +kernel) (by decide +kernel), ⟨by decide +kernel, by decide +kernel, by decide +kernel⟩, by decide +kernel, by decide +kernel⟩
abbrev bM_calmOn : ByteArray := prog_7_method_77_code
def yM_calmOn : MethodName := ⟨RM_c, "calmOn", "(II)V"⟩
theorem mM_calmOn : mj_M yM_calmOn bM_calmOn 4 2 none := ⟨mj_in (i := 1337) (by decide +kernel) (by decide +kernel), mj_in (i := 87) (by decide +kernel) (by decide +kernel), ⟨by decide +kernel, by decide +kernel, by decide +kernel⟩, by decide +kernel, by decide +kernel⟩
abbrev bM_order : ByteArray := prog_7_method_81_code
def yM_order : MethodName := ⟨RM_c, "order", "(I)I"⟩
theorem mM_order : mj_M yM_order bM_order 3 1 (some .int) := ⟨mj_in (i := 1341) (by decide +kernel) (by decide +kernel), mj_in (i := 87) (by decide +kernel) (by decide +kernel), ⟨by decide +kernel, by decide +kernel, by decide +kernel⟩, by decide +kernel, by decide +kernel⟩
abbrev bM_orderOn : ByteArray := prog_7_method_80_code
def yM_orderOn : MethodName := ⟨RM_c, "orderOn", "(II)V"⟩
theorem mM_orderOn : mj_M yM_orderOn bM_orderOn 5 2 none := ⟨mj_in (i := 1345) (by decide +kernel) (by decide +kernel), mj_in (i := 87) (by decide +kernel) (by decide +kernel), ⟨by decide +kernel, by decide +kernel, by decide +kernel⟩, by decide +kernel, by decide +kernel⟩
abbrev bM_holdsSo : ByteArray := prog_7_method_79_code
def yM_holdsSo : MethodName := ⟨RM_c, "holdsSo", "()I"⟩
theorem mM_holdsSo : mj_M yM_holdsSo bM_holdsSo 3 0 (some .int) := ⟨mj_in (i := 1349) (by decide +kernel) (by decide +kernel), mj_in (i := 87) (by decide +kernel) (by decide +kernel), ⟨by decide +kernel, by decide +kernel, by decide +kernel⟩, by decide +kernel, by decide +kernel⟩
abbrev bM_swap : ByteArray := prog_7_method_82_code
def yM_swap : MethodName := ⟨RM_c, "swap", "()I"⟩
theorem mM_swap : mj_M yM_swap bM_swap 6 0 (some .int) := ⟨mj_in (i := 1353) (by decide +kernel) (by decide +kernel), mj_in (i := 87) (by decide +kernel) (by decide +kernel), ⟨by decide +kernel, by decide +kernel, by decide +kernel⟩, by decide +kernel, by decide +kernel⟩
abbrev bM_spare : ByteArray := prog_7_method_83_code
def yM_spare : MethodName := ⟨RM_c, "spare", "(I)I"⟩
theorem mM_spare : mj_M yM_spare bM_spare 5 1 (some .int) := ⟨mj_in (i := 1357) (by decide +kernel) (by decide +kernel), mj_in (i := 87) (by decide +kernel) (by decide +kernel), ⟨by decide +kernel, by decide +kernel, by decide +kernel⟩, by decide +kernel, by decide +kernel⟩
abbrev bM_teller : ByteArray := prog_7_method_84_code
def yM_teller : MethodName := ⟨RM_c, "teller", "()I"⟩
theorem mM_teller : mj_M yM_teller bM_teller 5 0 (some .int) := ⟨mj_in (i := 1361) (by decide +kernel) (by decide +kernel), mj_in (i := 87) (by decide +kernel) (by decide +kernel), ⟨by decide +kernel, by decide +kernel, by decide +kernel⟩, by decide +kernel, by decide +kernel⟩
abbrev bM_judge : ByteArray := prog_7_method_87_code
def yM_judge : MethodName := ⟨RM_c, "judge", "(I)I"⟩
theorem mM_judge : mj_M yM_judge bM_judge 4 1 (some .int) := ⟨mj_in (i := 1365) (by decide +kernel) (by decide +kernel), mj_in (i := 87) (by decide +kernel) (by decide +kernel), ⟨by decide +kernel, by decide +kernel, by decide +kernel⟩, by decide +kernel, by decide +kernel⟩
abbrev bM_askedHandings : ByteArray := prog_7_method_85_code
def yM_askedHandings : MethodName := ⟨RM_c, "askedHandings", "(I)I"⟩
theorem mM_askedHandings : mj_M yM_askedHandings bM_askedHandings 4 1 (some .int) := ⟨mj_in (i := 1369) (by decide +kernel) (by decide +kernel), mj_in (i := 87) (by decide +kernel) (by decide +kernel), ⟨by decide +kernel, by decide +kernel, by decide +kernel⟩, by decide +kernel, by decide +kernel⟩
abbrev bM_judged : ByteArray := prog_7_method_86_code
def yM_judged : MethodName := ⟨RM_c, "judged", "(I)I"⟩
theorem mM_judged : mj_M yM_judged bM_judged 5 1 (some .int) := ⟨mj_in (i := 1373) (by decide +kernel) (by decide +kernel), mj_in (i := 87) (by decide +kernel) (by decide +kernel), ⟨by decide +kernel, by decide +kernel, by decide +kernel⟩, by decide +kernel, by decide +kernel⟩
abbrev bM_liars : ByteArray := prog_7_method_88_code
def yM_liars : MethodName := ⟨RM_c, "liars", "(I)I"⟩
theorem mM_liars : mj_M yM_liars bM_liars 8 1 (some .int) := ⟨mj_in (i := 1377) (by decide +kernel) (by decide +kernel), mj_in (i := 87) (by decide +kernel) (by decide +kernel), ⟨by decide +kernel, by decide +kernel, by decide +kernel⟩, by decide +kernel, by decide +kernel⟩
abbrev bM_grows : ByteArray := prog_7_method_90_code
def yM_grows : MethodName := ⟨RM_c, "grows", "(II)I"⟩
theorem mM_grows : mj_M yM_grows bM_grows 7 2 (some .int) := ⟨mj_in (i := 1381) (by decide +kernel) (by decide +kernel), mj_in (i := 87) (by decide +kernel) (by decide +kernel), ⟨by decide +kernel, by decide +kernel, by decide +kernel⟩, by decide +kernel, by decide +kernel⟩
abbrev bM_askedOf : ByteArray := prog_7_method_89_code
def yM_askedOf : MethodName := ⟨RM_c, "askedOf", "(II)I"⟩
theorem mM_askedOf : mj_M yM_askedOf bM_askedOf 3 2 (some .int) := ⟨mj_in (i := 1385) (by decide +kernel) (by decide +kernel), mj_in (i := 87) (by decide +kernel) (by decide +kernel), ⟨by decide +kernel, by decide +kernel, by decide +kernel⟩, by decide +kernel, by decide +kernel⟩
abbrev bM_fears : ByteArray := prog_7_method_91_code
def yM_fears : MethodName := ⟨RM_c, "fears", "(II)I"⟩
theorem mM_fears : mj_M yM_fears bM_fears 7 2 (some .int) := ⟨mj_in (i := 1389) (by decide +kernel) (by decide +kernel), mj_in (i := 87) (by decide +kernel) (by decide +kernel), ⟨by decide +kernel, by decide +kernel, by decide +kernel⟩, by decide +kernel, by decide +kernel⟩
abbrev bM_tell : ByteArray := prog_7_method_92_code
def yM_tell : MethodName := ⟨RM_c, "tell", "(III)I"⟩
theorem mM_tell : mj_M yM_tell bM_tell 6 3 (some .int) := ⟨mj_in (i := 1393) (by decide +kernel) (by decide +kernel), mj_in (i := 87) (by decide +kernel) (by decide +kernel), ⟨by decide +kernel, by decide +kernel, by decide +kernel⟩, by decide +kernel, by decide +kernel⟩
abbrev bM_visit : ByteArray := prog_7_method_93_code
def yM_visit : MethodName := ⟨RM_c, "visit", "(II)I"⟩
theorem mM_visit : mj_M yM_visit bM_visit 7 2 (some .int) := ⟨mj_in (i := 1397) (by decide +kernel) (by decide +kernel), mj_in (i := 87) (by decide +kernel) (by decide +kernel), ⟨by decide +kernel, by decide +kernel, by decide +kernel⟩, by decide +kernel, by decide +kernel⟩
abbrev bM_asked : ByteArray := prog_7_method_94_code
def yM_asked : MethodName := ⟨RM_c, "asked", "()I"⟩
theorem mM_asked : mj_M yM_asked bM_asked 1 0 (some .int) := ⟨mj_in (i := 1404) (by decide +kernel) (by decide +kernel), mj_in (i := 87) (by decide +kernel) (by decide +kernel), ⟨by decide +kernel, by decide +kernel, by decide +kernel⟩, by decide +kernel, by decide +kernel⟩
abbrev bM_upper : ByteArray := prog_7_method_97_code
def yM_upper : MethodName := ⟨RM_c, "upper", "()J"⟩
theorem mM_upper : mj_M yM_upper bM_upper 1 0 (some .long) := ⟨mj_in (i := 1408) (by decide +kernel) (by decide +kernel), mj_in (i := 87) (by decide +kernel) (by decide +kernel), ⟨by decide +kernel, by decide +kernel, by decide +kernel⟩, by decide +kernel, by decide +kernel⟩
abbrev bM_allScreams : ByteArray := prog_7_method_95_code
def yM_allScreams : MethodName := ⟨RM_c, "allScreams", "()I"⟩
theorem mM_allScreams : mj_M yM_allScreams bM_allScreams 3 0 (some .int) := ⟨mj_in (i := 1412) (by decide +kernel) (by decide +kernel), mj_in (i := 87) (by decide +kernel) (by decide +kernel), ⟨by decide +kernel, by decide +kernel, by decide +kernel⟩, by decide +kernel, by decide +kernel⟩
abbrev bM_divisor : ByteArray := prog_7_method_96_code
def yM_divisor : MethodName := ⟨RM_c, "divisor", "(II)I"⟩
theorem mM_divisor : mj_M yM_divisor bM_divisor 5 2 (some .int) := ⟨mj_in (i := 1415) (by decide +kernel) (by decide +kernel), mj_in (i := 87) (by decide +kernel) (by decide +kernel), ⟨by decide +kernel, by decide +kernel, by decide +kernel⟩, by decide +kernel, by decide +kernel⟩
abbrev bM_lower : ByteArray := prog_7_method_98_code
def yM_lower : MethodName := ⟨RM_c, "lower", "()J"⟩
theorem mM_lower : mj_M yM_lower bM_lower 1 0 (some .long) := ⟨mj_in (i := 1419) (by decide +kernel) (by decide +kernel), mj_in (i := 87) (by decide +kernel) (by decide +kernel), ⟨by decide +kernel, by decide +kernel, by decide +kernel⟩, by decide +kernel, by decide +kernel⟩
abbrev bM_count : ByteArray := prog_7_method_100_code
def yM_count : MethodName := ⟨RM_c, "count", "(I)I"⟩
theorem mM_count : mj_M yM_count bM_count 2 1 (some .int) := ⟨mj_in (i := 1423) (by decide +kernel) (by decide +kernel), mj_in (i := 87) (by decide +kernel) (by decide +kernel), ⟨by decide +kernel, by decide +kernel, by decide +kernel⟩, by decide +kernel, by decide +kernel⟩
abbrev bM_tells : ByteArray := prog_7_method_99_code
def yM_tells : MethodName := ⟨RM_c, "tells", "(I)I"⟩
theorem mM_tells : mj_M yM_tells bM_tells 4 1 (some .int) := ⟨mj_in (i := 1427) (by decide +kernel) (by decide +kernel), mj_in (i := 87) (by decide +kernel) (by decide +kernel), ⟨by decide +kernel, by decide +kernel, by decide +kernel⟩, by decide +kernel, by decide +kernel⟩
abbrev bM_finding : ByteArray := prog_7_method_101_code
def yM_finding : MethodName := ⟨RM_c, "finding", "()I"⟩
theorem mM_finding : mj_M yM_finding bM_finding 1 0 (some .int) := ⟨mj_in (i := 1431) (by decide +kernel) (by decide +kernel), mj_in (i := 87) (by decide +kernel) (by decide +kernel), ⟨by decide +kernel, by decide +kernel, by decide +kernel⟩, by decide +kernel, by decide +kernel⟩
abbrev bM_findings : ByteArray := prog_7_method_102_code
def yM_findings : MethodName := ⟨RM_c, "findings", "(I)I"⟩
theorem mM_findings : mj_M yM_findings bM_findings 2 1 (some .int) := ⟨mj_in (i := 1435) (by decide +kernel) (by decide +kernel), mj_in (i := 87) (by decide +kernel) (by decide +kernel), ⟨by decide +kernel, by decide +kernel, by decide +kernel⟩, by decide +kernel, by decide +kernel⟩
abbrev bM_digest : ByteArray := prog_7_method_105_code
def yM_digest : MethodName := ⟨RM_c, "digest", "()J"⟩
theorem mM_digest : mj_M yM_digest bM_digest 3 0 (some .long) := ⟨mj_in (i := 1439) (by decide +kernel) (by decide +kernel), mj_in (i := 87) (by decide +kernel) (by decide +kernel), ⟨by decide +kernel, by decide +kernel, by decide +kernel⟩, by decide +kernel, by decide +kernel⟩
abbrev bM_mix : ByteArray := prog_7_method_103_code
def yM_mix : MethodName := ⟨RM_c, "mix", "(I)V"⟩
theorem mM_mix : mj_M yM_mix bM_mix 2 1 none := ⟨mj_in (i := 1444) (by decide +kernel) (by decide +kernel), mj_in (i := 87) (by decide +kernel) (by decide +kernel), ⟨by decide +kernel, by decide +kernel, by decide +kernel⟩, by decide +kernel, by decide +kernel⟩
abbrev bM_mixCave : ByteArray := prog_7_method_104_code
def yM_mixCave : MethodName := ⟨RM_c, "mixCave", "()V"⟩
theorem mM_mixCave : mj_M yM_mixCave bM_mixCave 3 0 none := ⟨mj_in (i := 1449) (by decide +kernel) (by decide +kernel), mj_in (i := 87) (by decide +kernel) (by decide +kernel), ⟨by decide +kernel, by decide +kernel, by decide +kernel⟩, by decide +kernel, by decide +kernel⟩
