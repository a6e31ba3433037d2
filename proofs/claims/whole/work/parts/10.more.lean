/-! more rows: forgetting locals, counting on, guards -/
def mj_sub (a b : List Value) : Prop := match a, b with
  | [], _ => True
  | x :: t, y :: t2 => (mj_u x = true ∨ x = y) ∧ mj_sub t t2
  | _ :: _, [] => False
theorem mj_sub_at : ∀ (a b : List Value), mj_sub a b → ∀ (i : Nat) (x : Value), a[i]? = some x → mj_u x = false → b[i]? = some x
  | [], _, _, i, x, h, _ => by simp at h
  | y :: t, [], h, _, _, _, _ => absurd h (fun q => q)
  | y :: t, z :: t2, h, 0, x, hx, hu => by
    simp at hx
    subst hx
    rcases h.1 with q | q
    · rw [q] at hu; cases hu
    · simp [q]
  | y :: t, z :: t2, h, i + 1, x, hx, hu => by
    have := mj_sub_at t t2 h.2 i x (by simpa using hx) hu
    simpa using this
theorem mj_sub_rl {L : List Nat} : ∀ (a b : List Value), mj_sub a b → mj_rl L b → mj_rl L a
  | [], _, _, _ => mj_rl_n
  | y :: t, [], h, _ => absurd h (fun q => q)
  | y :: t, z :: t2, h, hb => by
    refine mj_rl_c ?_ (mj_sub_rl t t2 h.2 (mj_rl_t hb))
    rcases h.1 with q | q
    · cases y <;> first | exact mj_rv_u | cases q
    · rw [q]; exact mj_rl_h hb
section MJG
variable {d mc ms nL : Nat} {own mn : String} {cc : ByteArray} {K : mj_KT} {u v pc : Nat} {lv lv' st : List Value} {S : mj_S}
theorem ro_fg (hK : mj_C d mc ms own mn cc nL K) (hs : mj_sub lv' lv) (k : K u v pc lv' st S) : K u v pc lv st S := by
  obtain ⟨p, l, e, R, s, m, args, below, meth, c, D, cA, ad0, L0, A, Q, hx, hb, hml, hown, hts, hU, hA, hmn, hR, rfl⟩ := hK
  intro ad H locs ls h
  exact k ad H locs ls (h.lo (fun a b => ⟨a, mj_sub_rl _ _ hs b⟩) ⟨h.hls.1, h.hls.2.1, fun i x hi hu => h.hls.2.2 i x (mj_sub_at _ _ hs i x hi hu) hu⟩)
theorem ro_iincv (hK : mj_C d mc ms own mn cc nL K) {i : Nat} {n : Int} {x c : Int32} (hc : Int32.ofInt n = c) (dg : decode cc pc = .ok (.iinc i n, 3)) (hl : lv[i]? = some (.int x)) (hn : i < nL) (k : K u v (pc + 3) (mj_st1 lv i (.int (x + c))) st S) : K u v pc lv st S := by
  subst hc
  exact ro_iinc hK dg hl hn k
end MJG
theorem mb_ift {β : Type} {c : Prop} [Decidable c] {a b : Option β} {out : β} (hc : c) (h : (if c then a else b) = some out) : a = some out := by rwa [if_pos hc] at h
theorem mb_iff {β : Type} {c : Prop} [Decidable c] {a b : Option β} {out : β} (hc : ¬ c) (h : (if c then a else b) = some out) : b = some out := by rwa [if_neg hc] at h
/-- the answer of a boolean method is 0 or 1 -/
def mb_bz {β : Type} (x : Int32) (k : Option β) : Option β := if x = 0 ∨ x = 1 then k else none
theorem mb_bz_e {β : Type} {x : Int32} {k : Option β} {out : β} (h : mb_bz x k = some out) : (x = 0 ∨ x = 1) ∧ k = some out := by
  unfold mb_bz at h
  split at h
  · next q => exact ⟨q, h⟩
  · cases h
theorem mb_nz {x : Int32} (h : x = 0 ∨ x = 1) : narrow .boolean (.int x) = .int x := by
  rcases h with rfl | rfl <;> rfl
theorem mb_oA : mb_o 40 0 := fun _ => rfl
theorem mb_oS : mb_o 60 3 := fun _ => rfl
theorem mb_oC : mb_o 0 4 := fun _ => rfl
theorem mb_oR : mb_o 36 2 := fun _ => rfl
theorem mb_oM : mb_o 200 5 := fun _ => rfl
theorem ai_1 : mb_ai 1 6 := fun _ => rfl
theorem ai_3 : mb_ai 3 4 := fun _ => rfl
theorem ai_10 : mb_ai 10 5 := fun _ => rfl
theorem ai_11 : mb_ai 11 5 := fun _ => rfl
theorem ai_12 : mb_ai 12 6 := fun _ => rfl
theorem ai_20 : mb_ai 20 60 := fun _ => rfl
theorem ai_21 : mb_ai 21 60 := fun _ => rfl
theorem ai_22 : mb_ai 22 60 := fun _ => rfl
theorem ai_23 : mb_ai 23 60 := fun _ => rfl
theorem ai_24 : mb_ai 24 60 := fun _ => rfl
theorem ai_25 : mb_ai 25 60 := fun _ => rfl
theorem ai_47 : mb_ai 47 5 := fun _ => rfl
theorem ai_48 : mb_ai 48 5 := fun _ => rfl
theorem ai_49 : mb_ai 49 5 := fun _ => rfl
theorem ai_50 : mb_ai 50 5 := fun _ => rfl
theorem ai_51 : mb_ai 51 5 := fun _ => rfl
theorem ai_52 : mb_ai 52 5 := fun _ => rfl
theorem ai_53 : mb_ai 53 5 := fun _ => rfl
theorem ai_54 : mb_ai 54 5 := fun _ => rfl
theorem ai_55 : mb_ai 55 100 := fun _ => rfl
theorem ai_56 : mb_ai 56 48 := fun _ => rfl
theorem ai_61 : mb_ai 61 6 := fun _ => rfl
theorem ai_64 : mb_ai 64 6 := fun _ => rfl
theorem ai_201 : mb_ai 201 6 := fun _ => rfl
theorem ai_203 : mb_ai 203 6 := fun _ => rfl
theorem ai_204 : mb_ai 204 360 := fun _ => rfl
theorem ai_205 : mb_ai 205 60 := fun _ => rfl
theorem ai_206 : mb_ai 206 4 := fun _ => rfl
theorem ai_207 : mb_ai 207 320 := fun _ => rfl
theorem ai_212 : mb_ai 212 10 := fun _ => rfl
theorem ai_213 : mb_ai 213 10 := fun _ => rfl
theorem ai_214 : mb_ai 214 10 := fun _ => rfl
theorem ai_215 : mb_ai 215 10 := fun _ => rfl
theorem ai_216 : mb_ai 216 10 := fun _ => rfl
theorem ai_223 : mb_ai 223 5 := fun _ => rfl
theorem ai_226 : mb_ai 226 120 := fun _ => rfl
theorem ai_227 : mb_ai 227 720 := fun _ => rfl
theorem ai_228 : mb_ai 228 5 := fun _ => rfl
theorem ai_229 : mb_ai 229 2550 := fun _ => rfl
theorem ai_230 : mb_ai 230 8 := fun _ => rfl
theorem ai_232 : mb_ai 232 18 := fun _ => rfl
theorem ai_234 : mb_ai 234 56 := fun _ => rfl
theorem ai_235 : mb_ai 235 6 := fun _ => rfl
theorem ai_236 : mb_ai 236 6 := fun _ => rfl
theorem ai_239 : mb_ai 239 5 := fun _ => rfl
theorem ai_240 : mb_ai 240 5 := fun _ => rfl
theorem gV_36 : mj_G RV_c 36 1 0 (.int) := ⟨RV_c, TV_c, 13, rfl, by decide, mj_in (i := 109) (by decide +kernel) (by decide +kernel), rfl, by decide +kernel⟩
theorem gR_47 : mj_G RR_c 47 1 0 (.int) := ⟨RV_c, TV_c, 13, rfl, by decide, mj_in (i := 111) (by decide +kernel) (by decide +kernel), rfl, by decide +kernel⟩
theorem gV_40 : mj_G RV_c 40 1 1 (.int) := ⟨RV_c, TV_c, 13, rfl, by decide, mj_in (i := 113) (by decide +kernel) (by decide +kernel), rfl, by decide +kernel⟩
theorem gR_58 : mj_G RR_c 58 1 1 (.int) := ⟨RV_c, TV_c, 13, rfl, by decide, mj_in (i := 115) (by decide +kernel) (by decide +kernel), rfl, by decide +kernel⟩
theorem gV_43 : mj_G RV_c 43 1 2 (.int) := ⟨RV_c, TV_c, 13, rfl, by decide, mj_in (i := 117) (by decide +kernel) (by decide +kernel), rfl, by decide +kernel⟩
theorem gR_64 : mj_G RR_c 64 1 2 (.int) := ⟨RV_c, TV_c, 13, rfl, by decide, mj_in (i := 118) (by decide +kernel) (by decide +kernel), rfl, by decide +kernel⟩
theorem gC_171 : mj_G RC_c 171 1 2 (.int) := ⟨RV_c, TV_c, 13, rfl, by decide, mj_in (i := 119) (by decide +kernel) (by decide +kernel), rfl, by decide +kernel⟩
theorem gV_46 : mj_G RV_c 46 1 3 (.int) := ⟨RV_c, TV_c, 13, rfl, by decide, mj_in (i := 120) (by decide +kernel) (by decide +kernel), rfl, by decide +kernel⟩
theorem gR_67 : mj_G RR_c 67 1 3 (.int) := ⟨RV_c, TV_c, 13, rfl, by decide, mj_in (i := 122) (by decide +kernel) (by decide +kernel), rfl, by decide +kernel⟩
theorem gC_174 : mj_G RC_c 174 1 3 (.int) := ⟨RV_c, TV_c, 13, rfl, by decide, mj_in (i := 123) (by decide +kernel) (by decide +kernel), rfl, by decide +kernel⟩
theorem gV_49 : mj_G RV_c 49 1 4 (.int) := ⟨RV_c, TV_c, 13, rfl, by decide, mj_in (i := 124) (by decide +kernel) (by decide +kernel), rfl, by decide +kernel⟩
theorem gV_9 : mj_GF RV_c 9 1 5 (.array .int) := ⟨RV_c, TV_c, 13, rfl, by decide, mj_in (i := 127) (by decide +kernel) (by decide +kernel), rfl, rfl, by decide +kernel⟩
theorem gV_15 : mj_GF RV_c 15 1 6 (.array .int) := ⟨RV_c, TV_c, 13, rfl, by decide, mj_in (i := 131) (by decide +kernel) (by decide +kernel), rfl, rfl, by decide +kernel⟩
theorem gV_18 : mj_GF RV_c 18 1 7 (.array .int) := ⟨RV_c, TV_c, 13, rfl, by decide, mj_in (i := 135) (by decide +kernel) (by decide +kernel), rfl, rfl, by decide +kernel⟩
theorem gV_21 : mj_GF RV_c 21 1 8 (.array .int) := ⟨RV_c, TV_c, 13, rfl, by decide, mj_in (i := 139) (by decide +kernel) (by decide +kernel), rfl, rfl, by decide +kernel⟩
theorem gV_24 : mj_GF RV_c 24 1 9 (.array .int) := ⟨RV_c, TV_c, 13, rfl, by decide, mj_in (i := 143) (by decide +kernel) (by decide +kernel), rfl, rfl, by decide +kernel⟩
theorem gV_27 : mj_GF RV_c 27 1 10 (.array .int) := ⟨RV_c, TV_c, 13, rfl, by decide, mj_in (i := 147) (by decide +kernel) (by decide +kernel), rfl, rfl, by decide +kernel⟩
theorem gV_30 : mj_GF RV_c 30 1 11 (.array .int) := ⟨RV_c, TV_c, 13, rfl, by decide, mj_in (i := 149) (by decide +kernel) (by decide +kernel), rfl, rfl, by decide +kernel⟩
theorem gV_33 : mj_GF RV_c 33 1 12 (.array .int) := ⟨RV_c, TV_c, 13, rfl, by decide, mj_in (i := 150) (by decide +kernel) (by decide +kernel), rfl, rfl, by decide +kernel⟩
theorem gR_9 : mj_G RR_c 9 2 0 (.array .byte) := ⟨RR_c, TR_c, 4, rfl, by decide, mj_in (i := 187) (by decide +kernel) (by decide +kernel), rfl, by decide +kernel⟩
theorem gR_21 : mj_G RR_c 21 2 1 (.int) := ⟨RR_c, TR_c, 4, rfl, by decide, mj_in (i := 188) (by decide +kernel) (by decide +kernel), rfl, by decide +kernel⟩
theorem gR_25 : mj_G RR_c 25 2 2 (.int) := ⟨RR_c, TR_c, 4, rfl, by decide, mj_in (i := 189) (by decide +kernel) (by decide +kernel), rfl, by decide +kernel⟩
theorem gR_28 : mj_G RR_c 28 2 3 (.int) := ⟨RR_c, TR_c, 4, rfl, by decide, mj_in (i := 190) (by decide +kernel) (by decide +kernel), rfl, by decide +kernel⟩
theorem gA_48 : mj_G RA_c 48 0 0 (.int) := ⟨RA_c, TA_c, 17, rfl, by decide, mj_in (i := 206) (by decide +kernel) (by decide +kernel), rfl, by decide +kernel⟩
theorem gA_52 : mj_G RA_c 52 0 1 (.int) := ⟨RA_c, TA_c, 17, rfl, by decide, mj_in (i := 208) (by decide +kernel) (by decide +kernel), rfl, by decide +kernel⟩
theorem gA_56 : mj_G RA_c 56 0 2 (.int) := ⟨RA_c, TA_c, 17, rfl, by decide, mj_in (i := 209) (by decide +kernel) (by decide +kernel), rfl, by decide +kernel⟩
theorem gC_286 : mj_G RC_c 286 0 2 (.int) := ⟨RA_c, TA_c, 17, rfl, by decide, mj_in (i := 211) (by decide +kernel) (by decide +kernel), rfl, by decide +kernel⟩
theorem gA_57 : mj_G RA_c 57 0 3 (.boolean) := ⟨RA_c, TA_c, 17, rfl, by decide, mj_in (i := 212) (by decide +kernel) (by decide +kernel), rfl, by decide +kernel⟩
theorem gC_231 : mj_G RC_c 231 0 3 (.boolean) := ⟨RA_c, TA_c, 17, rfl, by decide, mj_in (i := 213) (by decide +kernel) (by decide +kernel), rfl, by decide +kernel⟩
theorem gA_64 : mj_G RA_c 64 0 4 (.int) := ⟨RA_c, TA_c, 17, rfl, by decide, mj_in (i := 214) (by decide +kernel) (by decide +kernel), rfl, by decide +kernel⟩
theorem gA_69 : mj_G RA_c 69 0 5 (.int) := ⟨RA_c, TA_c, 17, rfl, by decide, mj_in (i := 216) (by decide +kernel) (by decide +kernel), rfl, by decide +kernel⟩
theorem gA_76 : mj_G RA_c 76 0 6 (.int) := ⟨RA_c, TA_c, 17, rfl, by decide, mj_in (i := 217) (by decide +kernel) (by decide +kernel), rfl, by decide +kernel⟩
theorem gC_293 : mj_G RC_c 293 0 6 (.int) := ⟨RA_c, TA_c, 17, rfl, by decide, mj_in (i := 218) (by decide +kernel) (by decide +kernel), rfl, by decide +kernel⟩
theorem gA_9 : mj_GF RA_c 9 0 7 (.array .int) := ⟨RA_c, TA_c, 17, rfl, by decide, mj_in (i := 219) (by decide +kernel) (by decide +kernel), rfl, rfl, by decide +kernel⟩
theorem gA_15 : mj_GF RA_c 15 0 8 (.array .int) := ⟨RA_c, TA_c, 17, rfl, by decide, mj_in (i := 220) (by decide +kernel) (by decide +kernel), rfl, rfl, by decide +kernel⟩
theorem gA_18 : mj_GF RA_c 18 0 9 (.array .int) := ⟨RA_c, TA_c, 17, rfl, by decide, mj_in (i := 223) (by decide +kernel) (by decide +kernel), rfl, rfl, by decide +kernel⟩
theorem gA_21 : mj_GF RA_c 21 0 10 (.array .int) := ⟨RA_c, TA_c, 17, rfl, by decide, mj_in (i := 224) (by decide +kernel) (by decide +kernel), rfl, rfl, by decide +kernel⟩
theorem gA_24 : mj_GF RA_c 24 0 11 (.array .int) := ⟨RA_c, TA_c, 17, rfl, by decide, mj_in (i := 226) (by decide +kernel) (by decide +kernel), rfl, rfl, by decide +kernel⟩
theorem gA_27 : mj_GF RA_c 27 0 12 (.array .int) := ⟨RA_c, TA_c, 17, rfl, by decide, mj_in (i := 227) (by decide +kernel) (by decide +kernel), rfl, rfl, by decide +kernel⟩
theorem gA_30 : mj_GF RA_c 30 0 13 (.array .int) := ⟨RA_c, TA_c, 17, rfl, by decide, mj_in (i := 228) (by decide +kernel) (by decide +kernel), rfl, rfl, by decide +kernel⟩
theorem gA_33 : mj_GF RA_c 33 0 14 (.array .int) := ⟨RA_c, TA_c, 17, rfl, by decide, mj_in (i := 229) (by decide +kernel) (by decide +kernel), rfl, rfl, by decide +kernel⟩
theorem gA_36 : mj_GF RA_c 36 0 15 (.array .int) := ⟨RA_c, TA_c, 17, rfl, by decide, mj_in (i := 230) (by decide +kernel) (by decide +kernel), rfl, rfl, by decide +kernel⟩
theorem gA_39 : mj_GF RA_c 39 0 16 (.array .int) := ⟨RA_c, TA_c, 17, rfl, by decide, mj_in (i := 232) (by decide +kernel) (by decide +kernel), rfl, rfl, by decide +kernel⟩
theorem gS_9 : mj_GF RS_c 9 3 0 (.array .int) := ⟨RS_c, TS_c, 6, rfl, by decide, mj_in (i := 274) (by decide +kernel) (by decide +kernel), rfl, rfl, by decide +kernel⟩
theorem gS_18 : mj_G RS_c 18 3 1 (.boolean) := ⟨RS_c, TS_c, 6, rfl, by decide, mj_in (i := 275) (by decide +kernel) (by decide +kernel), rfl, by decide +kernel⟩
theorem gS_22 : mj_G RS_c 22 3 2 (.int) := ⟨RS_c, TS_c, 6, rfl, by decide, mj_in (i := 276) (by decide +kernel) (by decide +kernel), rfl, by decide +kernel⟩
theorem gS_15 : mj_GF RS_c 15 3 3 (.array .int) := ⟨RS_c, TS_c, 6, rfl, by decide, mj_in (i := 277) (by decide +kernel) (by decide +kernel), rfl, rfl, by decide +kernel⟩
theorem gS_26 : mj_G RS_c 26 3 4 (.int) := ⟨RS_c, TS_c, 6, rfl, by decide, mj_in (i := 279) (by decide +kernel) (by decide +kernel), rfl, by decide +kernel⟩
theorem gS_39 : mj_G RS_c 39 3 5 (.int) := ⟨RS_c, TS_c, 6, rfl, by decide, mj_in (i := 281) (by decide +kernel) (by decide +kernel), rfl, by decide +kernel⟩
theorem gC_11 : mj_GF RC_c 11 4 0 (.array (.array .int)) := ⟨RC_c, TC_c, 15, rfl, by decide, mj_in (i := 299) (by decide +kernel) (by decide +kernel), rfl, rfl, by decide +kernel⟩
theorem gC_14 : mj_GF RC_c 14 4 1 (.array .int) := ⟨RC_c, TC_c, 15, rfl, by decide, mj_in (i := 300) (by decide +kernel) (by decide +kernel), rfl, rfl, by decide +kernel⟩
theorem gC_20 : mj_GF RC_c 20 4 2 (.array (.array .byte)) := ⟨RC_c, TC_c, 15, rfl, by decide, mj_in (i := 301) (by decide +kernel) (by decide +kernel), rfl, rfl, by decide +kernel⟩
theorem gC_23 : mj_GF RC_c 23 4 3 (.array .int) := ⟨RC_c, TC_c, 15, rfl, by decide, mj_in (i := 302) (by decide +kernel) (by decide +kernel), rfl, rfl, by decide +kernel⟩
theorem gC_29 : mj_GF RC_c 29 4 4 (.object "LampCave$Cave") := ⟨RC_c, TC_c, 15, rfl, by decide, mj_in (i := 303) (by decide +kernel) (by decide +kernel), rfl, rfl, by decide +kernel⟩
theorem gC_33 : mj_GF RC_c 33 4 5 (.object "LampCave$Cave") := ⟨RC_c, TC_c, 15, rfl, by decide, mj_in (i := 304) (by decide +kernel) (by decide +kernel), rfl, rfl, by decide +kernel⟩
theorem gC_36 : mj_GF RC_c 36 4 6 (.array (.object "LampCave$Cave")) := ⟨RC_c, TC_c, 15, rfl, by decide, mj_in (i := 305) (by decide +kernel) (by decide +kernel), rfl, rfl, by decide +kernel⟩
theorem gC_43 : mj_GF RC_c 43 4 7 (.object "LampCave$Reader") := ⟨RC_c, TC_c, 15, rfl, by decide, mj_in (i := 306) (by decide +kernel) (by decide +kernel), rfl, rfl, by decide +kernel⟩
theorem gC_50 : mj_GF RC_c 50 4 8 (.object "LampCave$Aside") := ⟨RC_c, TC_c, 15, rfl, by decide, mj_in (i := 307) (by decide +kernel) (by decide +kernel), rfl, rfl, by decide +kernel⟩
theorem gC_57 : mj_GF RC_c 57 4 9 (.object "LampCave$Search") := ⟨RC_c, TC_c, 15, rfl, by decide, mj_in (i := 308) (by decide +kernel) (by decide +kernel), rfl, rfl, by decide +kernel⟩
theorem gC_61 : mj_GF RC_c 61 4 10 (.array .int) := ⟨RC_c, TC_c, 15, rfl, by decide, mj_in (i := 309) (by decide +kernel) (by decide +kernel), rfl, rfl, by decide +kernel⟩
theorem gC_64 : mj_GF RC_c 64 4 11 (.array .int) := ⟨RC_c, TC_c, 15, rfl, by decide, mj_in (i := 310) (by decide +kernel) (by decide +kernel), rfl, rfl, by decide +kernel⟩
theorem gC_67 : mj_GF RC_c 67 4 12 (.array .int) := ⟨RC_c, TC_c, 15, rfl, by decide, mj_in (i := 311) (by decide +kernel) (by decide +kernel), rfl, rfl, by decide +kernel⟩
theorem gC_70 : mj_G RC_c 70 4 13 (.int) := ⟨RC_c, TC_c, 15, rfl, by decide, mj_in (i := 312) (by decide +kernel) (by decide +kernel), rfl, by decide +kernel⟩
theorem gC_74 : mj_G RC_c 74 4 14 (.int) := ⟨RC_c, TC_c, 15, rfl, by decide, mj_in (i := 313) (by decide +kernel) (by decide +kernel), rfl, by decide +kernel⟩
theorem gM_86 : mj_G RM_c 86 5 0 (.int) := ⟨RM_c, TM_c, 45, rfl, by decide, mj_in (i := 902) (by decide +kernel) (by decide +kernel), rfl, by decide +kernel⟩
theorem gM_7 : mj_GF RM_c 7 5 1 (.array .int) := ⟨RM_c, TM_c, 45, rfl, by decide, mj_in (i := 903) (by decide +kernel) (by decide +kernel), rfl, rfl, by decide +kernel⟩
theorem gM_89 : mj_G RM_c 89 5 2 (.int) := ⟨RM_c, TM_c, 45, rfl, by decide, mj_in (i := 904) (by decide +kernel) (by decide +kernel), rfl, by decide +kernel⟩
theorem gM_13 : mj_GF RM_c 13 5 3 (.array .int) := ⟨RM_c, TM_c, 45, rfl, by decide, mj_in (i := 905) (by decide +kernel) (by decide +kernel), rfl, rfl, by decide +kernel⟩
theorem gM_16 : mj_GF RM_c 16 5 4 (.array .int) := ⟨RM_c, TM_c, 45, rfl, by decide, mj_in (i := 906) (by decide +kernel) (by decide +kernel), rfl, rfl, by decide +kernel⟩
theorem gM_19 : mj_GF RM_c 19 5 5 (.array .int) := ⟨RM_c, TM_c, 45, rfl, by decide, mj_in (i := 907) (by decide +kernel) (by decide +kernel), rfl, rfl, by decide +kernel⟩
theorem gM_22 : mj_GF RM_c 22 5 6 (.array .int) := ⟨RM_c, TM_c, 45, rfl, by decide, mj_in (i := 908) (by decide +kernel) (by decide +kernel), rfl, rfl, by decide +kernel⟩
theorem gM_25 : mj_GF RM_c 25 5 7 (.array .int) := ⟨RM_c, TM_c, 45, rfl, by decide, mj_in (i := 909) (by decide +kernel) (by decide +kernel), rfl, rfl, by decide +kernel⟩
theorem gM_161 : mj_G RM_c 161 5 8 (.int) := ⟨RM_c, TM_c, 45, rfl, by decide, mj_in (i := 910) (by decide +kernel) (by decide +kernel), rfl, by decide +kernel⟩
theorem gM_164 : mj_G RM_c 164 5 9 (.int) := ⟨RM_c, TM_c, 45, rfl, by decide, mj_in (i := 911) (by decide +kernel) (by decide +kernel), rfl, by decide +kernel⟩
theorem gM_167 : mj_G RM_c 167 5 10 (.int) := ⟨RM_c, TM_c, 45, rfl, by decide, mj_in (i := 912) (by decide +kernel) (by decide +kernel), rfl, by decide +kernel⟩
theorem gM_170 : mj_G RM_c 170 5 11 (.int) := ⟨RM_c, TM_c, 45, rfl, by decide, mj_in (i := 913) (by decide +kernel) (by decide +kernel), rfl, by decide +kernel⟩
theorem gM_28 : mj_GF RM_c 28 5 12 (.array .int) := ⟨RM_c, TM_c, 45, rfl, by decide, mj_in (i := 914) (by decide +kernel) (by decide +kernel), rfl, rfl, by decide +kernel⟩
theorem gM_31 : mj_GF RM_c 31 5 13 (.array .int) := ⟨RM_c, TM_c, 45, rfl, by decide, mj_in (i := 915) (by decide +kernel) (by decide +kernel), rfl, rfl, by decide +kernel⟩
theorem gM_34 : mj_GF RM_c 34 5 14 (.array .int) := ⟨RM_c, TM_c, 45, rfl, by decide, mj_in (i := 916) (by decide +kernel) (by decide +kernel), rfl, rfl, by decide +kernel⟩
theorem gM_37 : mj_GF RM_c 37 5 15 (.array .int) := ⟨RM_c, TM_c, 45, rfl, by decide, mj_in (i := 917) (by decide +kernel) (by decide +kernel), rfl, rfl, by decide +kernel⟩
theorem gM_40 : mj_GF RM_c 40 5 16 (.array .int) := ⟨RM_c, TM_c, 45, rfl, by decide, mj_in (i := 918) (by decide +kernel) (by decide +kernel), rfl, rfl, by decide +kernel⟩
theorem gM_127 : mj_G RM_c 127 5 17 (.int) := ⟨RM_c, TM_c, 45, rfl, by decide, mj_in (i := 919) (by decide +kernel) (by decide +kernel), rfl, by decide +kernel⟩
theorem gM_149 : mj_G RM_c 149 5 18 (.int) := ⟨RM_c, TM_c, 45, rfl, by decide, mj_in (i := 920) (by decide +kernel) (by decide +kernel), rfl, by decide +kernel⟩
theorem gM_137 : mj_G RM_c 137 5 19 (.int) := ⟨RM_c, TM_c, 45, rfl, by decide, mj_in (i := 921) (by decide +kernel) (by decide +kernel), rfl, by decide +kernel⟩
theorem gM_140 : mj_G RM_c 140 5 20 (.int) := ⟨RM_c, TM_c, 45, rfl, by decide, mj_in (i := 922) (by decide +kernel) (by decide +kernel), rfl, by decide +kernel⟩
theorem gM_143 : mj_G RM_c 143 5 21 (.int) := ⟨RM_c, TM_c, 45, rfl, by decide, mj_in (i := 923) (by decide +kernel) (by decide +kernel), rfl, by decide +kernel⟩
theorem gM_43 : mj_G RM_c 43 5 22 (.int) := ⟨RM_c, TM_c, 45, rfl, by decide, mj_in (i := 924) (by decide +kernel) (by decide +kernel), rfl, by decide +kernel⟩
theorem gM_47 : mj_GF RM_c 47 5 23 (.array .int) := ⟨RM_c, TM_c, 45, rfl, by decide, mj_in (i := 925) (by decide +kernel) (by decide +kernel), rfl, rfl, by decide +kernel⟩
theorem gM_173 : mj_G RM_c 173 5 24 (.int) := ⟨RM_c, TM_c, 45, rfl, by decide, mj_in (i := 926) (by decide +kernel) (by decide +kernel), rfl, by decide +kernel⟩
theorem gM_50 : mj_G RM_c 50 5 25 (.int) := ⟨RM_c, TM_c, 45, rfl, by decide, mj_in (i := 927) (by decide +kernel) (by decide +kernel), rfl, by decide +kernel⟩
theorem gM_53 : mj_GF RM_c 53 5 26 (.array .int) := ⟨RM_c, TM_c, 45, rfl, by decide, mj_in (i := 928) (by decide +kernel) (by decide +kernel), rfl, rfl, by decide +kernel⟩
theorem gM_56 : mj_GF RM_c 56 5 27 (.array .int) := ⟨RM_c, TM_c, 45, rfl, by decide, mj_in (i := 929) (by decide +kernel) (by decide +kernel), rfl, rfl, by decide +kernel⟩
theorem gM_59 : mj_GF RM_c 59 5 28 (.array .int) := ⟨RM_c, TM_c, 45, rfl, by decide, mj_in (i := 930) (by decide +kernel) (by decide +kernel), rfl, rfl, by decide +kernel⟩
theorem gM_62 : mj_GF RM_c 62 5 29 (.array .int) := ⟨RM_c, TM_c, 45, rfl, by decide, mj_in (i := 931) (by decide +kernel) (by decide +kernel), rfl, rfl, by decide +kernel⟩
theorem gM_65 : mj_GF RM_c 65 5 30 (.array .int) := ⟨RM_c, TM_c, 45, rfl, by decide, mj_in (i := 932) (by decide +kernel) (by decide +kernel), rfl, rfl, by decide +kernel⟩
theorem gM_225 : mj_G RM_c 225 5 31 (.int) := ⟨RM_c, TM_c, 45, rfl, by decide, mj_in (i := 933) (by decide +kernel) (by decide +kernel), rfl, by decide +kernel⟩
theorem gM_68 : mj_GF RM_c 68 5 32 (.array .int) := ⟨RM_c, TM_c, 45, rfl, by decide, mj_in (i := 934) (by decide +kernel) (by decide +kernel), rfl, rfl, by decide +kernel⟩
theorem gM_244 : mj_G RM_c 244 5 33 (.int) := ⟨RM_c, TM_c, 45, rfl, by decide, mj_in (i := 935) (by decide +kernel) (by decide +kernel), rfl, by decide +kernel⟩
theorem gM_71 : mj_GF RM_c 71 5 34 (.array .int) := ⟨RM_c, TM_c, 45, rfl, by decide, mj_in (i := 936) (by decide +kernel) (by decide +kernel), rfl, rfl, by decide +kernel⟩
theorem gM_74 : mj_GF RM_c 74 5 35 (.array .int) := ⟨RM_c, TM_c, 45, rfl, by decide, mj_in (i := 937) (by decide +kernel) (by decide +kernel), rfl, rfl, by decide +kernel⟩
theorem gM_77 : mj_GF RM_c 77 5 36 (.array .int) := ⟨RM_c, TM_c, 45, rfl, by decide, mj_in (i := 938) (by decide +kernel) (by decide +kernel), rfl, rfl, by decide +kernel⟩
theorem gM_257 : mj_G RM_c 257 5 37 (.int) := ⟨RM_c, TM_c, 45, rfl, by decide, mj_in (i := 939) (by decide +kernel) (by decide +kernel), rfl, by decide +kernel⟩
theorem gM_278 : mj_G RM_c 278 5 38 (.int) := ⟨RM_c, TM_c, 45, rfl, by decide, mj_in (i := 940) (by decide +kernel) (by decide +kernel), rfl, by decide +kernel⟩
theorem gM_80 : mj_GF RM_c 80 5 39 (.array .int) := ⟨RM_c, TM_c, 45, rfl, by decide, mj_in (i := 941) (by decide +kernel) (by decide +kernel), rfl, rfl, by decide +kernel⟩
theorem gM_83 : mj_GF RM_c 83 5 40 (.array .int) := ⟨RM_c, TM_c, 45, rfl, by decide, mj_in (i := 942) (by decide +kernel) (by decide +kernel), rfl, rfl, by decide +kernel⟩
theorem gM_291 : mj_G RM_c 291 5 41 (.int) := ⟨RM_c, TM_c, 45, rfl, by decide, mj_in (i := 943) (by decide +kernel) (by decide +kernel), rfl, by decide +kernel⟩
theorem gM_287 : mj_G RM_c 287 5 42 (.boolean) := ⟨RM_c, TM_c, 45, rfl, by decide, mj_in (i := 944) (by decide +kernel) (by decide +kernel), rfl, by decide +kernel⟩
theorem gM_297 : mj_G RM_c 297 5 43 (.int) := ⟨RM_c, TM_c, 45, rfl, by decide, mj_in (i := 945) (by decide +kernel) (by decide +kernel), rfl, by decide +kernel⟩
theorem gM_325 : mj_G RM_c 325 5 44 (.long) := ⟨RM_c, TM_c, 45, rfl, by decide, mj_in (i := 946) (by decide +kernel) (by decide +kernel), rfl, by decide +kernel⟩
