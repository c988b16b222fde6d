/-! THE CLAIM OUT OF ONE WALK OF THE LAW'S BODY. Your part is whole_start (and what it stands on); all else here is the same for every law, but numbers. -/
def R_law : String := "ArmCountsLaw"
def lw_P (b : Addr) (xs : List Int32) (args : Array Value) (s : State) : Prop := args = #[.ref b] ∧ s.IntsAt b xs ∧ xs.length ≤ 3072 ∧ (Jvm.Cond.and given_1 narrow_1).before args s = true
def lw_Q (_ : Array Value) (s : State) (o : Outcome) (t : State) : Prop := o = .returned (some (.int 1)) ∧ Framed s o t [] 600000 7302250
def lw_Z (below : List Frame) (a : Array Value) (s : State) : State → Prop := fun t => ∃ o, t.status = .running ∧ Ended t below o ∧ lw_Q a s o t
/-- the law's own end, with 1 on the stack, nothing written that was there before, its room as the claim has it -/
theorem lw_ret {p : Program} {l : Launch} {e : Env} {s : State} {m : MethodId} {below : List Frame} {meth : Method} {c : Code} {b : Nat} (hx : p.tables.exec = Jvm.exec) (hb : c.code = code) (hr : meth.sig.returnType = ret) (hlocks : meth.locks = false) {pc : Nat} {H : Heap} {ls : Array Slot} (hdg : decode code pc = .ok (.ireturn, 1)) : W p l e room_1 s m #[Value.ref b] below meth c H [] 600000 7302250 (lw_Z below #[Value.ref b] s) (F0 m pc ls [.int 1]) := by
  intro T hT X
  obtain ⟨fs, hret, hrun, hended, hW, hframe⟩ := X.leave (v := some (.int 1)) (hlocks := hlocks) (fun h => by rw [hr] at h; cases h)
  have hmeth' : T.vm.method? m = some meth := X.method'
  refine ⟨T.setFrames fs, ?_, .returned (some (.int 1)), hrun, hended, rfl, ⟨_, rfl⟩, hW, hframe⟩
  jvm_step X.here [X.here.top, hx, hb, hdg, hmeth', hr, ret, narrow_b1]
  (try refine ⟨rfl, ?_⟩); (try refine ⟨rfl, ?_⟩)
  first | (intro acts; rw [hret _ acts rfl rfl rfl]) | rw [hret _ _ rfl rfl rfl]
  exact Steps.refl _
/-- what holds at the law's entry: the machine, the code, the tables' words (any of lw_tbl by 'hts w (by decide +kernel)'), the script of L ints xs at the cell b, what the Statement gives of the start (any of its parts by flat_of_before) -/
def lw_At (p : Program) (s : State) (m : MethodId) (meth : Method) (c : Code) (b L : Nat) (xs : Nat → Int32) : Prop :=
  p.tables.exec = Jvm.exec ∧ c.code = code ∧ meth.sig.returnType = ret ∧ c.maxLocals = 4 ∧ s.vm.findClass R_law = some m.cls ∧ (∀ w ∈ lw_tbl, w.before #[Value.ref b] s = true) ∧ va_X b L xs s s.heap ∧ b < s.heap.size ∧ meth.locks = false ∧ (Jvm.Cond.and given_1 narrow_1).before #[Value.ref b] s = true
/-- κ is the law's own walk: it wants the law's end -/
def xRL (κ : xK) : Prop := match κ with
  | (_, _, _, R, s, _, args, below, _, _, cells, slots, QQ, A, G) => R = room_1 ∧ args = #[Value.ref (G.2.1 9999)] ∧ cells ≤ 600000 ∧ slots ≤ 7302250 ∧ QQ = lw_Z below args s ∧ ∀ q, A q → s.heap.size ≤ q
theorem X_lawret {κ : xK} {d pc : Nat} {L : List (Nat × Value)} {st : xSt} (C : Cx κ (yL_law, cL_law, 4, some .boolean) d) (Z : xRL κ) (hd : decode cL_law pc = .ok (.ireturn, 1)) : X κ pc L [.int 1] st := by
  obtain ⟨pg, l, e, R, s, m, args, below, meth, c, cells, slots, QQ, A, G⟩ := κ
  obtain ⟨hx, hb, hml, hr, hlk, hown, hts, hR, hK, hD⟩ := C
  obtain ⟨rfl, rfl, hc1, hc2, rfl, hA⟩ := Z
  intro H locs ls hP hS hl
  refine va_forget (fun q hq => hA _ (hS.2.2 q hq)) ?_
  refine W.widen (k := 600000) (n := 7302250) hc1 hc2 ?_
  exact lw_ret hx hb hr hlk hd
abbrev M_L_law : xM := (yL_law, cL_law, 4, some .boolean)
theorem u_266 : Cond.methodLink RL 13 yX6_countBy ∈ lw_use := use_of (k := 266) (by decide +kernel) rfl
theorem u_269 : Cond.code yX6_countBy cX6_countBy 5 (some .int) ∈ lw_use := use_of (k := 269) (by decide +kernel) rfl
theorem u_267 : Cond.instanceMethod yX6_countBy ∈ lw_use := use_of (k := 267) (by decide +kernel) rfl
theorem u_268 : Cond.selects RX6 yX6_countBy yX6_countBy ∈ lw_use := use_of (k := 268) (by decide +kernel) rfl
theorem pw_RL_13 : xCV RL 13 M_X6_countBy 3 := ⟨⟨u_266, u_77, u_269, ⟨by decide +kernel, by decide +kernel, by decide +kernel⟩, by decide⟩, u_267, u_268⟩
theorem u_1127 : Cond.methodLink RL 17 yX7_countBy ∈ lw_use := use_of (k := 1127) (by decide +kernel) rfl
theorem u_1130 : Cond.code yX7_countBy cX7_countBy 9 (some .int) ∈ lw_use := use_of (k := 1130) (by decide +kernel) rfl
theorem u_1128 : Cond.instanceMethod yX7_countBy ∈ lw_use := use_of (k := 1128) (by decide +kernel) rfl
theorem u_1129 : Cond.selects RX7 yX7_countBy yX7_countBy ∈ lw_use := use_of (k := 1129) (by decide +kernel) rfl
theorem pw_RL_17 : xCV RL 17 M_X7_countBy 3 := ⟨⟨u_1127, u_85, u_1130, ⟨by decide +kernel, by decide +kernel, by decide +kernel⟩, by decide⟩, u_1128, u_1129⟩
theorem u_319 : Cond.methodLink RL 18 yX6_begins ∈ lw_use := use_of (k := 319) (by decide +kernel) rfl
theorem u_322 : Cond.code yX6_begins cX6_begins 3 (some .int) ∈ lw_use := use_of (k := 322) (by decide +kernel) rfl
theorem u_320 : Cond.instanceMethod yX6_begins ∈ lw_use := use_of (k := 320) (by decide +kernel) rfl
theorem u_321 : Cond.selects RX6 yX6_begins yX6_begins ∈ lw_use := use_of (k := 321) (by decide +kernel) rfl
theorem pw_RL_18 : xCV RL 18 M_X6_begins 2 := ⟨⟨u_319, u_77, u_322, ⟨by decide +kernel, by decide +kernel, by decide +kernel⟩, by decide⟩, u_320, u_321⟩
theorem u_1144 : Cond.methodLink RL 22 yX7_begins ∈ lw_use := use_of (k := 1144) (by decide +kernel) rfl
theorem u_1147 : Cond.code yX7_begins cX7_begins 4 (some .int) ∈ lw_use := use_of (k := 1147) (by decide +kernel) rfl
theorem u_1145 : Cond.instanceMethod yX7_begins ∈ lw_use := use_of (k := 1145) (by decide +kernel) rfl
theorem u_1146 : Cond.selects RX7 yX7_begins yX7_begins ∈ lw_use := use_of (k := 1146) (by decide +kernel) rfl
theorem pw_RL_22 : xCV RL 22 M_X7_begins 2 := ⟨⟨u_1144, u_85, u_1147, ⟨by decide +kernel, by decide +kernel, by decide +kernel⟩, by decide⟩, u_1145, u_1146⟩
theorem u_332 : Cond.methodLink RL 23 yX6_about ∈ lw_use := use_of (k := 332) (by decide +kernel) rfl
theorem pw_RL_23 : xCV RL 23 M_X6_about 2 := ⟨⟨u_332, u_77, u_335, ⟨by decide +kernel, by decide +kernel, by decide +kernel⟩, by decide⟩, u_333, u_334⟩
theorem u_1152 : Cond.methodLink RL 26 yX7_about ∈ lw_use := use_of (k := 1152) (by decide +kernel) rfl
theorem u_1155 : Cond.code yX7_about cX7_about 3 (some .int) ∈ lw_use := use_of (k := 1155) (by decide +kernel) rfl
theorem u_1153 : Cond.instanceMethod yX7_about ∈ lw_use := use_of (k := 1153) (by decide +kernel) rfl
theorem u_1154 : Cond.selects RX7 yX7_about yX7_about ∈ lw_use := use_of (k := 1154) (by decide +kernel) rfl
theorem pw_RL_26 : xCV RL 26 M_X7_about 2 := ⟨⟨u_1152, u_85, u_1155, ⟨by decide +kernel, by decide +kernel, by decide +kernel⟩, by decide⟩, u_1153, u_1154⟩
theorem u_352 : Cond.methodLink RL 27 yX6_place ∈ lw_use := use_of (k := 352) (by decide +kernel) rfl
theorem u_355 : Cond.code yX6_place cX6_place 4 (some .int) ∈ lw_use := use_of (k := 355) (by decide +kernel) rfl
theorem u_353 : Cond.instanceMethod yX6_place ∈ lw_use := use_of (k := 353) (by decide +kernel) rfl
theorem u_354 : Cond.selects RX6 yX6_place yX6_place ∈ lw_use := use_of (k := 354) (by decide +kernel) rfl
theorem pw_RL_27 : xCV RL 27 M_X6_place 3 := ⟨⟨u_352, u_77, u_355, ⟨by decide +kernel, by decide +kernel, by decide +kernel⟩, by decide⟩, u_353, u_354⟩
theorem u_1164 : Cond.methodLink RL 31 yX7_place ∈ lw_use := use_of (k := 1164) (by decide +kernel) rfl
theorem u_1167 : Cond.code yX7_place cX7_place 4 (some .int) ∈ lw_use := use_of (k := 1167) (by decide +kernel) rfl
theorem u_1165 : Cond.instanceMethod yX7_place ∈ lw_use := use_of (k := 1165) (by decide +kernel) rfl
theorem u_1166 : Cond.selects RX7 yX7_place yX7_place ∈ lw_use := use_of (k := 1166) (by decide +kernel) rfl
theorem pw_RL_31 : xCV RL 31 M_X7_place 3 := ⟨⟨u_1164, u_85, u_1167, ⟨by decide +kernel, by decide +kernel, by decide +kernel⟩, by decide⟩, u_1165, u_1166⟩
theorem u_371 : Cond.methodLink RL 32 yX6_number ∈ lw_use := use_of (k := 371) (by decide +kernel) rfl
theorem u_374 : Cond.code yX6_number cX6_number 5 (some .int) ∈ lw_use := use_of (k := 374) (by decide +kernel) rfl
theorem u_372 : Cond.instanceMethod yX6_number ∈ lw_use := use_of (k := 372) (by decide +kernel) rfl
theorem u_373 : Cond.selects RX6 yX6_number yX6_number ∈ lw_use := use_of (k := 373) (by decide +kernel) rfl
theorem pw_RL_32 : xCV RL 32 M_X6_number 3 := ⟨⟨u_371, u_77, u_374, ⟨by decide +kernel, by decide +kernel, by decide +kernel⟩, by decide⟩, u_372, u_373⟩
theorem u_1180 : Cond.methodLink RL 35 yX7_number ∈ lw_use := use_of (k := 1180) (by decide +kernel) rfl
theorem u_1183 : Cond.code yX7_number cX7_number 5 (some .int) ∈ lw_use := use_of (k := 1183) (by decide +kernel) rfl
theorem u_1181 : Cond.instanceMethod yX7_number ∈ lw_use := use_of (k := 1181) (by decide +kernel) rfl
theorem u_1182 : Cond.selects RX7 yX7_number yX7_number ∈ lw_use := use_of (k := 1182) (by decide +kernel) rfl
theorem pw_RL_35 : xCV RL 35 M_X7_number 3 := ⟨⟨u_1180, u_85, u_1183, ⟨by decide +kernel, by decide +kernel, by decide +kernel⟩, by decide⟩, u_1181, u_1182⟩
theorem u_383 : Cond.methodLink RL 36 yX6_value ∈ lw_use := use_of (k := 383) (by decide +kernel) rfl
theorem u_386 : Cond.code yX6_value cX6_value 4 (some .int) ∈ lw_use := use_of (k := 386) (by decide +kernel) rfl
theorem u_384 : Cond.instanceMethod yX6_value ∈ lw_use := use_of (k := 384) (by decide +kernel) rfl
theorem u_385 : Cond.selects RX6 yX6_value yX6_value ∈ lw_use := use_of (k := 385) (by decide +kernel) rfl
theorem pw_RL_36 : xCV RL 36 M_X6_value 3 := ⟨⟨u_383, u_77, u_386, ⟨by decide +kernel, by decide +kernel, by decide +kernel⟩, by decide⟩, u_384, u_385⟩
theorem u_1192 : Cond.methodLink RL 39 yX7_value ∈ lw_use := use_of (k := 1192) (by decide +kernel) rfl
theorem u_1195 : Cond.code yX7_value cX7_value 4 (some .int) ∈ lw_use := use_of (k := 1195) (by decide +kernel) rfl
theorem u_1193 : Cond.instanceMethod yX7_value ∈ lw_use := use_of (k := 1193) (by decide +kernel) rfl
theorem u_1194 : Cond.selects RX7 yX7_value yX7_value ∈ lw_use := use_of (k := 1194) (by decide +kernel) rfl
theorem pw_RL_39 : xCV RL 39 M_X7_value 3 := ⟨⟨u_1192, u_85, u_1195, ⟨by decide +kernel, by decide +kernel, by decide +kernel⟩, by decide⟩, u_1193, u_1194⟩
theorem u_387 : Cond.methodLink RL 40 yX6_meanings ∈ lw_use := use_of (k := 387) (by decide +kernel) rfl
theorem u_390 : Cond.code yX6_meanings cX6_meanings 8 (some .int) ∈ lw_use := use_of (k := 390) (by decide +kernel) rfl
theorem u_388 : Cond.instanceMethod yX6_meanings ∈ lw_use := use_of (k := 388) (by decide +kernel) rfl
theorem u_389 : Cond.selects RX6 yX6_meanings yX6_meanings ∈ lw_use := use_of (k := 389) (by decide +kernel) rfl
theorem pw_RL_40 : xCV RL 40 M_X6_meanings 5 := ⟨⟨u_387, u_77, u_390, ⟨by decide +kernel, by decide +kernel, by decide +kernel⟩, by decide⟩, u_388, u_389⟩
theorem u_1196 : Cond.methodLink RL 44 yX7_meanings ∈ lw_use := use_of (k := 1196) (by decide +kernel) rfl
theorem u_1199 : Cond.code yX7_meanings cX7_meanings 8 (some .int) ∈ lw_use := use_of (k := 1199) (by decide +kernel) rfl
theorem u_1197 : Cond.instanceMethod yX7_meanings ∈ lw_use := use_of (k := 1197) (by decide +kernel) rfl
theorem u_1198 : Cond.selects RX7 yX7_meanings yX7_meanings ∈ lw_use := use_of (k := 1198) (by decide +kernel) rfl
theorem pw_RL_44 : xCV RL 44 M_X7_meanings 5 := ⟨⟨u_1196, u_85, u_1199, ⟨by decide +kernel, by decide +kernel, by decide +kernel⟩, by decide⟩, u_1197, u_1198⟩
theorem u_403 : Cond.methodLink RL 45 yX6_meaning ∈ lw_use := use_of (k := 403) (by decide +kernel) rfl
theorem u_406 : Cond.code yX6_meaning cX6_meaning 8 (some .int) ∈ lw_use := use_of (k := 406) (by decide +kernel) rfl
theorem u_404 : Cond.instanceMethod yX6_meaning ∈ lw_use := use_of (k := 404) (by decide +kernel) rfl
theorem u_405 : Cond.selects RX6 yX6_meaning yX6_meaning ∈ lw_use := use_of (k := 405) (by decide +kernel) rfl
theorem pw_RL_45 : xCV RL 45 M_X6_meaning 5 := ⟨⟨u_403, u_77, u_406, ⟨by decide +kernel, by decide +kernel, by decide +kernel⟩, by decide⟩, u_404, u_405⟩
theorem u_1208 : Cond.methodLink RL 48 yX7_meaning ∈ lw_use := use_of (k := 1208) (by decide +kernel) rfl
theorem u_1211 : Cond.code yX7_meaning cX7_meaning 8 (some .int) ∈ lw_use := use_of (k := 1211) (by decide +kernel) rfl
theorem u_1209 : Cond.instanceMethod yX7_meaning ∈ lw_use := use_of (k := 1209) (by decide +kernel) rfl
theorem u_1210 : Cond.selects RX7 yX7_meaning yX7_meaning ∈ lw_use := use_of (k := 1210) (by decide +kernel) rfl
theorem pw_RL_48 : xCV RL 48 M_X7_meaning 5 := ⟨⟨u_1208, u_85, u_1211, ⟨by decide +kernel, by decide +kernel, by decide +kernel⟩, by decide⟩, u_1209, u_1210⟩
theorem u_407 : Cond.methodLink RL 49 yX6_mat ∈ lw_use := use_of (k := 407) (by decide +kernel) rfl
theorem u_410 : Cond.code yX6_mat cX6_mat 2 (some .int) ∈ lw_use := use_of (k := 410) (by decide +kernel) rfl
theorem u_408 : Cond.instanceMethod yX6_mat ∈ lw_use := use_of (k := 408) (by decide +kernel) rfl
theorem u_409 : Cond.selects RX6 yX6_mat yX6_mat ∈ lw_use := use_of (k := 409) (by decide +kernel) rfl
theorem pw_RL_49 : xCV RL 49 M_X6_mat 1 := ⟨⟨u_407, u_77, u_410, ⟨by decide +kernel, by decide +kernel, by decide +kernel⟩, by decide⟩, u_408, u_409⟩
theorem u_1212 : Cond.methodLink RL 53 yX7_mat ∈ lw_use := use_of (k := 1212) (by decide +kernel) rfl
theorem u_1215 : Cond.code yX7_mat cX7_mat 3 (some .int) ∈ lw_use := use_of (k := 1215) (by decide +kernel) rfl
theorem u_1213 : Cond.instanceMethod yX7_mat ∈ lw_use := use_of (k := 1213) (by decide +kernel) rfl
theorem u_1214 : Cond.selects RX7 yX7_mat yX7_mat ∈ lw_use := use_of (k := 1214) (by decide +kernel) rfl
theorem pw_RL_53 : xCV RL 53 M_X7_mat 1 := ⟨⟨u_1212, u_85, u_1215, ⟨by decide +kernel, by decide +kernel, by decide +kernel⟩, by decide⟩, u_1213, u_1214⟩
theorem u_415 : Cond.methodLink RL 54 yX6_clue ∈ lw_use := use_of (k := 415) (by decide +kernel) rfl
theorem u_418 : Cond.code yX6_clue cX6_clue 6 (some .int) ∈ lw_use := use_of (k := 418) (by decide +kernel) rfl
theorem u_416 : Cond.instanceMethod yX6_clue ∈ lw_use := use_of (k := 416) (by decide +kernel) rfl
theorem u_417 : Cond.selects RX6 yX6_clue yX6_clue ∈ lw_use := use_of (k := 417) (by decide +kernel) rfl
theorem pw_RL_54 : xCV RL 54 M_X6_clue 5 := ⟨⟨u_415, u_77, u_418, ⟨by decide +kernel, by decide +kernel, by decide +kernel⟩, by decide⟩, u_416, u_417⟩
theorem u_1216 : Cond.methodLink RL 57 yX7_clue ∈ lw_use := use_of (k := 1216) (by decide +kernel) rfl
theorem u_1219 : Cond.code yX7_clue cX7_clue 6 (some .int) ∈ lw_use := use_of (k := 1219) (by decide +kernel) rfl
theorem u_1217 : Cond.instanceMethod yX7_clue ∈ lw_use := use_of (k := 1217) (by decide +kernel) rfl
theorem u_1218 : Cond.selects RX7 yX7_clue yX7_clue ∈ lw_use := use_of (k := 1218) (by decide +kernel) rfl
theorem pw_RL_57 : xCV RL 57 M_X7_clue 5 := ⟨⟨u_1216, u_85, u_1219, ⟨by decide +kernel, by decide +kernel, by decide +kernel⟩, by decide⟩, u_1217, u_1218⟩
theorem u_430 : Cond.methodLink RL 58 yX6_sum ∈ lw_use := use_of (k := 430) (by decide +kernel) rfl
theorem u_433 : Cond.code yX6_sum cX6_sum 4 (some .int) ∈ lw_use := use_of (k := 433) (by decide +kernel) rfl
theorem u_431 : Cond.instanceMethod yX6_sum ∈ lw_use := use_of (k := 431) (by decide +kernel) rfl
theorem u_432 : Cond.selects RX6 yX6_sum yX6_sum ∈ lw_use := use_of (k := 432) (by decide +kernel) rfl
theorem pw_RL_58 : xCV RL 58 M_X6_sum 3 := ⟨⟨u_430, u_77, u_433, ⟨by decide +kernel, by decide +kernel, by decide +kernel⟩, by decide⟩, u_431, u_432⟩
theorem u_1227 : Cond.methodLink RL 61 yX7_sum ∈ lw_use := use_of (k := 1227) (by decide +kernel) rfl
theorem u_1230 : Cond.code yX7_sum cX7_sum 4 (some .int) ∈ lw_use := use_of (k := 1230) (by decide +kernel) rfl
theorem u_1228 : Cond.instanceMethod yX7_sum ∈ lw_use := use_of (k := 1228) (by decide +kernel) rfl
theorem u_1229 : Cond.selects RX7 yX7_sum yX7_sum ∈ lw_use := use_of (k := 1229) (by decide +kernel) rfl
theorem pw_RL_61 : xCV RL 61 M_X7_sum 3 := ⟨⟨u_1227, u_85, u_1230, ⟨by decide +kernel, by decide +kernel, by decide +kernel⟩, by decide⟩, u_1228, u_1229⟩
theorem u_435 : Cond.methodLink RL 62 yX6_less ∈ lw_use := use_of (k := 435) (by decide +kernel) rfl
theorem u_438 : Cond.code yX6_less cX6_less 3 (some .int) ∈ lw_use := use_of (k := 438) (by decide +kernel) rfl
theorem u_436 : Cond.instanceMethod yX6_less ∈ lw_use := use_of (k := 436) (by decide +kernel) rfl
theorem u_437 : Cond.selects RX6 yX6_less yX6_less ∈ lw_use := use_of (k := 437) (by decide +kernel) rfl
theorem pw_RL_62 : xCV RL 62 M_X6_less 2 := ⟨⟨u_435, u_77, u_438, ⟨by decide +kernel, by decide +kernel, by decide +kernel⟩, by decide⟩, u_436, u_437⟩
theorem u_1231 : Cond.methodLink RL 65 yX7_less ∈ lw_use := use_of (k := 1231) (by decide +kernel) rfl
theorem u_1234 : Cond.code yX7_less cX7_less 3 (some .int) ∈ lw_use := use_of (k := 1234) (by decide +kernel) rfl
theorem u_1232 : Cond.instanceMethod yX7_less ∈ lw_use := use_of (k := 1232) (by decide +kernel) rfl
theorem u_1233 : Cond.selects RX7 yX7_less yX7_less ∈ lw_use := use_of (k := 1233) (by decide +kernel) rfl
theorem pw_RL_65 : xCV RL 65 M_X7_less 2 := ⟨⟨u_1231, u_85, u_1234, ⟨by decide +kernel, by decide +kernel, by decide +kernel⟩, by decide⟩, u_1232, u_1233⟩
theorem u_439 : Cond.methodLink RL 66 yX6_mats ∈ lw_use := use_of (k := 439) (by decide +kernel) rfl
theorem u_442 : Cond.code yX6_mats cX6_mats 4 (some .int) ∈ lw_use := use_of (k := 442) (by decide +kernel) rfl
theorem u_440 : Cond.instanceMethod yX6_mats ∈ lw_use := use_of (k := 440) (by decide +kernel) rfl
theorem u_441 : Cond.selects RX6 yX6_mats yX6_mats ∈ lw_use := use_of (k := 441) (by decide +kernel) rfl
theorem pw_RL_66 : xCV RL 66 M_X6_mats 3 := ⟨⟨u_439, u_77, u_442, ⟨by decide +kernel, by decide +kernel, by decide +kernel⟩, by decide⟩, u_440, u_441⟩
theorem u_1235 : Cond.methodLink RL 69 yX7_mats ∈ lw_use := use_of (k := 1235) (by decide +kernel) rfl
theorem u_1238 : Cond.code yX7_mats cX7_mats 4 (some .int) ∈ lw_use := use_of (k := 1238) (by decide +kernel) rfl
theorem u_1236 : Cond.instanceMethod yX7_mats ∈ lw_use := use_of (k := 1236) (by decide +kernel) rfl
theorem u_1237 : Cond.selects RX7 yX7_mats yX7_mats ∈ lw_use := use_of (k := 1237) (by decide +kernel) rfl
theorem pw_RL_69 : xCV RL 69 M_X7_mats 3 := ⟨⟨u_1235, u_85, u_1238, ⟨by decide +kernel, by decide +kernel, by decide +kernel⟩, by decide⟩, u_1236, u_1237⟩
theorem u_443 : Cond.methodLink RL 70 yX6_forget ∈ lw_use := use_of (k := 443) (by decide +kernel) rfl
theorem u_446 : Cond.code yX6_forget cX6_forget 1 (some .int) ∈ lw_use := use_of (k := 446) (by decide +kernel) rfl
theorem u_444 : Cond.instanceMethod yX6_forget ∈ lw_use := use_of (k := 444) (by decide +kernel) rfl
theorem u_445 : Cond.selects RX6 yX6_forget yX6_forget ∈ lw_use := use_of (k := 445) (by decide +kernel) rfl
theorem pw_RL_70 : xCV RL 70 M_X6_forget 0 := ⟨⟨u_443, u_77, u_446, ⟨by decide +kernel, by decide +kernel, by decide +kernel⟩, by decide⟩, u_444, u_445⟩
theorem u_1239 : Cond.methodLink RL 74 yX7_forget ∈ lw_use := use_of (k := 1239) (by decide +kernel) rfl
theorem u_1242 : Cond.code yX7_forget cX7_forget 2 (some .int) ∈ lw_use := use_of (k := 1242) (by decide +kernel) rfl
theorem u_1240 : Cond.instanceMethod yX7_forget ∈ lw_use := use_of (k := 1240) (by decide +kernel) rfl
theorem u_1241 : Cond.selects RX7 yX7_forget yX7_forget ∈ lw_use := use_of (k := 1241) (by decide +kernel) rfl
theorem pw_RL_74 : xCV RL 74 M_X7_forget 0 := ⟨⟨u_1239, u_85, u_1242, ⟨by decide +kernel, by decide +kernel, by decide +kernel⟩, by decide⟩, u_1240, u_1241⟩
theorem u_451 : Cond.methodLink RL 75 yX6_solutions ∈ lw_use := use_of (k := 451) (by decide +kernel) rfl
theorem u_454 : Cond.code yX6_solutions cX6_solutions 1 (some .int) ∈ lw_use := use_of (k := 454) (by decide +kernel) rfl
theorem u_452 : Cond.instanceMethod yX6_solutions ∈ lw_use := use_of (k := 452) (by decide +kernel) rfl
theorem u_453 : Cond.selects RX6 yX6_solutions yX6_solutions ∈ lw_use := use_of (k := 453) (by decide +kernel) rfl
theorem pw_RL_75 : xCV RL 75 M_X6_solutions 0 := ⟨⟨u_451, u_77, u_454, ⟨by decide +kernel, by decide +kernel, by decide +kernel⟩, by decide⟩, u_452, u_453⟩
theorem u_1243 : Cond.methodLink RL 78 yX7_solutions ∈ lw_use := use_of (k := 1243) (by decide +kernel) rfl
theorem u_1246 : Cond.code yX7_solutions cX7_solutions 1 (some .int) ∈ lw_use := use_of (k := 1246) (by decide +kernel) rfl
theorem u_1244 : Cond.instanceMethod yX7_solutions ∈ lw_use := use_of (k := 1244) (by decide +kernel) rfl
theorem u_1245 : Cond.selects RX7 yX7_solutions yX7_solutions ∈ lw_use := use_of (k := 1245) (by decide +kernel) rfl
theorem pw_RL_78 : xCV RL 78 M_X7_solutions 0 := ⟨⟨u_1243, u_85, u_1246, ⟨by decide +kernel, by decide +kernel, by decide +kernel⟩, by decide⟩, u_1244, u_1245⟩
theorem u_523 : Cond.methodLink RL 79 yX6_solution ∈ lw_use := use_of (k := 523) (by decide +kernel) rfl
theorem u_526 : Cond.code yX6_solution cX6_solution 3 (some .int) ∈ lw_use := use_of (k := 526) (by decide +kernel) rfl
theorem u_524 : Cond.instanceMethod yX6_solution ∈ lw_use := use_of (k := 524) (by decide +kernel) rfl
theorem u_525 : Cond.selects RX6 yX6_solution yX6_solution ∈ lw_use := use_of (k := 525) (by decide +kernel) rfl
theorem pw_RL_79 : xCV RL 79 M_X6_solution 2 := ⟨⟨u_523, u_77, u_526, ⟨by decide +kernel, by decide +kernel, by decide +kernel⟩, by decide⟩, u_524, u_525⟩
theorem u_1263 : Cond.methodLink RL 82 yX7_solution ∈ lw_use := use_of (k := 1263) (by decide +kernel) rfl
theorem u_1266 : Cond.code yX7_solution cX7_solution 5 (some .int) ∈ lw_use := use_of (k := 1266) (by decide +kernel) rfl
theorem u_1264 : Cond.instanceMethod yX7_solution ∈ lw_use := use_of (k := 1264) (by decide +kernel) rfl
theorem u_1265 : Cond.selects RX7 yX7_solution yX7_solution ∈ lw_use := use_of (k := 1265) (by decide +kernel) rfl
theorem pw_RL_82 : xCV RL 82 M_X7_solution 2 := ⟨⟨u_1263, u_85, u_1266, ⟨by decide +kernel, by decide +kernel, by decide +kernel⟩, by decide⟩, u_1264, u_1265⟩
theorem u_532 : Cond.methodLink RL 83 yX6_sure ∈ lw_use := use_of (k := 532) (by decide +kernel) rfl
theorem u_535 : Cond.code yX6_sure cX6_sure 2 (some .int) ∈ lw_use := use_of (k := 535) (by decide +kernel) rfl
theorem u_533 : Cond.instanceMethod yX6_sure ∈ lw_use := use_of (k := 533) (by decide +kernel) rfl
theorem u_534 : Cond.selects RX6 yX6_sure yX6_sure ∈ lw_use := use_of (k := 534) (by decide +kernel) rfl
theorem pw_RL_83 : xCV RL 83 M_X6_sure 1 := ⟨⟨u_532, u_77, u_535, ⟨by decide +kernel, by decide +kernel, by decide +kernel⟩, by decide⟩, u_533, u_534⟩
theorem u_1267 : Cond.methodLink RL 86 yX7_sure ∈ lw_use := use_of (k := 1267) (by decide +kernel) rfl
theorem u_1270 : Cond.code yX7_sure cX7_sure 4 (some .int) ∈ lw_use := use_of (k := 1270) (by decide +kernel) rfl
theorem u_1268 : Cond.instanceMethod yX7_sure ∈ lw_use := use_of (k := 1268) (by decide +kernel) rfl
theorem u_1269 : Cond.selects RX7 yX7_sure yX7_sure ∈ lw_use := use_of (k := 1269) (by decide +kernel) rfl
theorem pw_RL_86 : xCV RL 86 M_X7_sure 1 := ⟨⟨u_1267, u_85, u_1270, ⟨by decide +kernel, by decide +kernel, by decide +kernel⟩, by decide⟩, u_1268, u_1269⟩
theorem u_540 : Cond.methodLink RL 87 yX6_quarrel ∈ lw_use := use_of (k := 540) (by decide +kernel) rfl
theorem u_543 : Cond.code yX6_quarrel cX6_quarrel 1 (some .int) ∈ lw_use := use_of (k := 543) (by decide +kernel) rfl
theorem u_541 : Cond.instanceMethod yX6_quarrel ∈ lw_use := use_of (k := 541) (by decide +kernel) rfl
theorem u_542 : Cond.selects RX6 yX6_quarrel yX6_quarrel ∈ lw_use := use_of (k := 542) (by decide +kernel) rfl
theorem pw_RL_87 : xCV RL 87 M_X6_quarrel 0 := ⟨⟨u_540, u_77, u_543, ⟨by decide +kernel, by decide +kernel, by decide +kernel⟩, by decide⟩, u_541, u_542⟩
theorem u_1271 : Cond.methodLink RL 90 yX7_quarrel ∈ lw_use := use_of (k := 1271) (by decide +kernel) rfl
theorem u_1274 : Cond.code yX7_quarrel cX7_quarrel 5 (some .int) ∈ lw_use := use_of (k := 1274) (by decide +kernel) rfl
theorem u_1272 : Cond.instanceMethod yX7_quarrel ∈ lw_use := use_of (k := 1272) (by decide +kernel) rfl
theorem u_1273 : Cond.selects RX7 yX7_quarrel yX7_quarrel ∈ lw_use := use_of (k := 1273) (by decide +kernel) rfl
theorem pw_RL_90 : xCV RL 90 M_X7_quarrel 0 := ⟨⟨u_1271, u_85, u_1274, ⟨by decide +kernel, by decide +kernel, by decide +kernel⟩, by decide⟩, u_1272, u_1273⟩
theorem u_558 : Cond.methodLink RL 91 yX6_heard ∈ lw_use := use_of (k := 558) (by decide +kernel) rfl
theorem u_561 : Cond.code yX6_heard cX6_heard 4 (some .int) ∈ lw_use := use_of (k := 561) (by decide +kernel) rfl
theorem u_559 : Cond.instanceMethod yX6_heard ∈ lw_use := use_of (k := 559) (by decide +kernel) rfl
theorem u_560 : Cond.selects RX6 yX6_heard yX6_heard ∈ lw_use := use_of (k := 560) (by decide +kernel) rfl
theorem pw_RL_91 : xCV RL 91 M_X6_heard 3 := ⟨⟨u_558, u_77, u_561, ⟨by decide +kernel, by decide +kernel, by decide +kernel⟩, by decide⟩, u_559, u_560⟩
theorem u_1278 : Cond.methodLink RL 94 yX7_heard ∈ lw_use := use_of (k := 1278) (by decide +kernel) rfl
theorem u_1281 : Cond.code yX7_heard cX7_heard 4 (some .int) ∈ lw_use := use_of (k := 1281) (by decide +kernel) rfl
theorem u_1279 : Cond.instanceMethod yX7_heard ∈ lw_use := use_of (k := 1279) (by decide +kernel) rfl
theorem u_1280 : Cond.selects RX7 yX7_heard yX7_heard ∈ lw_use := use_of (k := 1280) (by decide +kernel) rfl
theorem pw_RL_94 : xCV RL 94 M_X7_heard 3 := ⟨⟨u_1278, u_85, u_1281, ⟨by decide +kernel, by decide +kernel, by decide +kernel⟩, by decide⟩, u_1279, u_1280⟩
theorem u_566 : Cond.methodLink RL 95 yX6_clear ∈ lw_use := use_of (k := 566) (by decide +kernel) rfl
theorem u_569 : Cond.code yX6_clear cX6_clear 6 (some .int) ∈ lw_use := use_of (k := 569) (by decide +kernel) rfl
theorem u_567 : Cond.instanceMethod yX6_clear ∈ lw_use := use_of (k := 567) (by decide +kernel) rfl
theorem u_568 : Cond.selects RX6 yX6_clear yX6_clear ∈ lw_use := use_of (k := 568) (by decide +kernel) rfl
theorem pw_RL_95 : xCV RL 95 M_X6_clear 3 := ⟨⟨u_566, u_77, u_569, ⟨by decide +kernel, by decide +kernel, by decide +kernel⟩, by decide⟩, u_567, u_568⟩
theorem u_1286 : Cond.methodLink RL 98 yX7_clear ∈ lw_use := use_of (k := 1286) (by decide +kernel) rfl
theorem u_1289 : Cond.code yX7_clear cX7_clear 6 (some .int) ∈ lw_use := use_of (k := 1289) (by decide +kernel) rfl
theorem u_1287 : Cond.instanceMethod yX7_clear ∈ lw_use := use_of (k := 1287) (by decide +kernel) rfl
theorem u_1288 : Cond.selects RX7 yX7_clear yX7_clear ∈ lw_use := use_of (k := 1288) (by decide +kernel) rfl
theorem pw_RL_98 : xCV RL 98 M_X7_clear 3 := ⟨⟨u_1286, u_85, u_1289, ⟨by decide +kernel, by decide +kernel, by decide +kernel⟩, by decide⟩, u_1287, u_1288⟩
theorem u_570 : Cond.methodLink RL 99 yX6_trap ∈ lw_use := use_of (k := 570) (by decide +kernel) rfl
theorem u_573 : Cond.code yX6_trap cX6_trap 5 (some .int) ∈ lw_use := use_of (k := 573) (by decide +kernel) rfl
theorem u_571 : Cond.instanceMethod yX6_trap ∈ lw_use := use_of (k := 571) (by decide +kernel) rfl
theorem u_572 : Cond.selects RX6 yX6_trap yX6_trap ∈ lw_use := use_of (k := 572) (by decide +kernel) rfl
theorem pw_RL_99 : xCV RL 99 M_X6_trap 2 := ⟨⟨u_570, u_77, u_573, ⟨by decide +kernel, by decide +kernel, by decide +kernel⟩, by decide⟩, u_571, u_572⟩
theorem u_1290 : Cond.methodLink RL 102 yX7_trap ∈ lw_use := use_of (k := 1290) (by decide +kernel) rfl
theorem u_1293 : Cond.code yX7_trap cX7_trap 5 (some .int) ∈ lw_use := use_of (k := 1293) (by decide +kernel) rfl
theorem u_1291 : Cond.instanceMethod yX7_trap ∈ lw_use := use_of (k := 1291) (by decide +kernel) rfl
theorem u_1292 : Cond.selects RX7 yX7_trap yX7_trap ∈ lw_use := use_of (k := 1292) (by decide +kernel) rfl
theorem pw_RL_102 : xCV RL 102 M_X7_trap 2 := ⟨⟨u_1290, u_85, u_1293, ⟨by decide +kernel, by decide +kernel, by decide +kernel⟩, by decide⟩, u_1291, u_1292⟩
theorem u_574 : Cond.methodLink RL 103 yX6_person ∈ lw_use := use_of (k := 574) (by decide +kernel) rfl
theorem u_577 : Cond.code yX6_person cX6_person 2 (some .int) ∈ lw_use := use_of (k := 577) (by decide +kernel) rfl
theorem u_575 : Cond.instanceMethod yX6_person ∈ lw_use := use_of (k := 575) (by decide +kernel) rfl
theorem u_576 : Cond.selects RX6 yX6_person yX6_person ∈ lw_use := use_of (k := 576) (by decide +kernel) rfl
theorem pw_RL_103 : xCV RL 103 M_X6_person 1 := ⟨⟨u_574, u_77, u_577, ⟨by decide +kernel, by decide +kernel, by decide +kernel⟩, by decide⟩, u_575, u_576⟩
theorem u_1294 : Cond.methodLink RL 106 yX7_person ∈ lw_use := use_of (k := 1294) (by decide +kernel) rfl
theorem u_1297 : Cond.code yX7_person cX7_person 2 (some .int) ∈ lw_use := use_of (k := 1297) (by decide +kernel) rfl
theorem u_1295 : Cond.instanceMethod yX7_person ∈ lw_use := use_of (k := 1295) (by decide +kernel) rfl
theorem u_1296 : Cond.selects RX7 yX7_person yX7_person ∈ lw_use := use_of (k := 1296) (by decide +kernel) rfl
theorem pw_RL_106 : xCV RL 106 M_X7_person 1 := ⟨⟨u_1294, u_85, u_1297, ⟨by decide +kernel, by decide +kernel, by decide +kernel⟩, by decide⟩, u_1295, u_1296⟩
theorem u_582 : Cond.methodLink RL 107 yX6_gift ∈ lw_use := use_of (k := 582) (by decide +kernel) rfl
theorem u_585 : Cond.code yX6_gift cX6_gift 4 (some .int) ∈ lw_use := use_of (k := 585) (by decide +kernel) rfl
theorem u_583 : Cond.instanceMethod yX6_gift ∈ lw_use := use_of (k := 583) (by decide +kernel) rfl
theorem u_584 : Cond.selects RX6 yX6_gift yX6_gift ∈ lw_use := use_of (k := 584) (by decide +kernel) rfl
theorem pw_RL_107 : xCV RL 107 M_X6_gift 3 := ⟨⟨u_582, u_77, u_585, ⟨by decide +kernel, by decide +kernel, by decide +kernel⟩, by decide⟩, u_583, u_584⟩
theorem u_1298 : Cond.methodLink RL 110 yX7_gift ∈ lw_use := use_of (k := 1298) (by decide +kernel) rfl
theorem u_1301 : Cond.code yX7_gift cX7_gift 4 (some .int) ∈ lw_use := use_of (k := 1301) (by decide +kernel) rfl
theorem u_1299 : Cond.instanceMethod yX7_gift ∈ lw_use := use_of (k := 1299) (by decide +kernel) rfl
theorem u_1300 : Cond.selects RX7 yX7_gift yX7_gift ∈ lw_use := use_of (k := 1300) (by decide +kernel) rfl
theorem pw_RL_110 : xCV RL 110 M_X7_gift 3 := ⟨⟨u_1298, u_85, u_1301, ⟨by decide +kernel, by decide +kernel, by decide +kernel⟩, by decide⟩, u_1299, u_1300⟩
theorem u_602 : Cond.methodLink RL 111 yX6_owed ∈ lw_use := use_of (k := 602) (by decide +kernel) rfl
theorem u_605 : Cond.code yX6_owed cX6_owed 3 (some .int) ∈ lw_use := use_of (k := 605) (by decide +kernel) rfl
theorem u_603 : Cond.instanceMethod yX6_owed ∈ lw_use := use_of (k := 603) (by decide +kernel) rfl
theorem u_604 : Cond.selects RX6 yX6_owed yX6_owed ∈ lw_use := use_of (k := 604) (by decide +kernel) rfl
theorem pw_RL_111 : xCV RL 111 M_X6_owed 2 := ⟨⟨u_602, u_77, u_605, ⟨by decide +kernel, by decide +kernel, by decide +kernel⟩, by decide⟩, u_603, u_604⟩
theorem u_1314 : Cond.methodLink RL 114 yX7_owed ∈ lw_use := use_of (k := 1314) (by decide +kernel) rfl
theorem u_1317 : Cond.code yX7_owed cX7_owed 3 (some .int) ∈ lw_use := use_of (k := 1317) (by decide +kernel) rfl
theorem u_1315 : Cond.instanceMethod yX7_owed ∈ lw_use := use_of (k := 1315) (by decide +kernel) rfl
theorem u_1316 : Cond.selects RX7 yX7_owed yX7_owed ∈ lw_use := use_of (k := 1316) (by decide +kernel) rfl
theorem pw_RL_114 : xCV RL 114 M_X7_owed 2 := ⟨⟨u_1314, u_85, u_1317, ⟨by decide +kernel, by decide +kernel, by decide +kernel⟩, by decide⟩, u_1315, u_1316⟩
theorem u_610 : Cond.methodLink RL 115 yX6_told ∈ lw_use := use_of (k := 610) (by decide +kernel) rfl
theorem u_613 : Cond.code yX6_told cX6_told 5 (some .int) ∈ lw_use := use_of (k := 613) (by decide +kernel) rfl
theorem u_611 : Cond.instanceMethod yX6_told ∈ lw_use := use_of (k := 611) (by decide +kernel) rfl
theorem u_612 : Cond.selects RX6 yX6_told yX6_told ∈ lw_use := use_of (k := 612) (by decide +kernel) rfl
theorem pw_RL_115 : xCV RL 115 M_X6_told 2 := ⟨⟨u_610, u_77, u_613, ⟨by decide +kernel, by decide +kernel, by decide +kernel⟩, by decide⟩, u_611, u_612⟩
theorem u_1318 : Cond.methodLink RL 118 yX7_told ∈ lw_use := use_of (k := 1318) (by decide +kernel) rfl
theorem u_1321 : Cond.code yX7_told cX7_told 4 (some .int) ∈ lw_use := use_of (k := 1321) (by decide +kernel) rfl
theorem u_1319 : Cond.instanceMethod yX7_told ∈ lw_use := use_of (k := 1319) (by decide +kernel) rfl
theorem u_1320 : Cond.selects RX7 yX7_told yX7_told ∈ lw_use := use_of (k := 1320) (by decide +kernel) rfl
theorem pw_RL_118 : xCV RL 118 M_X7_told 2 := ⟨⟨u_1318, u_85, u_1321, ⟨by decide +kernel, by decide +kernel, by decide +kernel⟩, by decide⟩, u_1319, u_1320⟩
theorem u_618 : Cond.methodLink RL 119 yX6_close ∈ lw_use := use_of (k := 618) (by decide +kernel) rfl
theorem u_621 : Cond.code yX6_close cX6_close 1 (some .int) ∈ lw_use := use_of (k := 621) (by decide +kernel) rfl
theorem u_619 : Cond.instanceMethod yX6_close ∈ lw_use := use_of (k := 619) (by decide +kernel) rfl
theorem u_620 : Cond.selects RX6 yX6_close yX6_close ∈ lw_use := use_of (k := 620) (by decide +kernel) rfl
theorem pw_RL_119 : xCV RL 119 M_X6_close 0 := ⟨⟨u_618, u_77, u_621, ⟨by decide +kernel, by decide +kernel, by decide +kernel⟩, by decide⟩, u_619, u_620⟩
theorem u_1322 : Cond.methodLink RL 122 yX7_close ∈ lw_use := use_of (k := 1322) (by decide +kernel) rfl
theorem u_1325 : Cond.code yX7_close cX7_close 6 (some .int) ∈ lw_use := use_of (k := 1325) (by decide +kernel) rfl
theorem u_1323 : Cond.instanceMethod yX7_close ∈ lw_use := use_of (k := 1323) (by decide +kernel) rfl
theorem u_1324 : Cond.selects RX7 yX7_close yX7_close ∈ lw_use := use_of (k := 1324) (by decide +kernel) rfl
theorem pw_RL_122 : xCV RL 122 M_X7_close 0 := ⟨⟨u_1322, u_85, u_1325, ⟨by decide +kernel, by decide +kernel, by decide +kernel⟩, by decide⟩, u_1323, u_1324⟩
theorem u_658 : Cond.methodLink RL 123 yX6_worth ∈ lw_use := use_of (k := 658) (by decide +kernel) rfl
theorem u_661 : Cond.code yX6_worth cX6_worth 2 (some .int) ∈ lw_use := use_of (k := 661) (by decide +kernel) rfl
theorem u_659 : Cond.instanceMethod yX6_worth ∈ lw_use := use_of (k := 659) (by decide +kernel) rfl
theorem u_660 : Cond.selects RX6 yX6_worth yX6_worth ∈ lw_use := use_of (k := 660) (by decide +kernel) rfl
theorem pw_RL_123 : xCV RL 123 M_X6_worth 1 := ⟨⟨u_658, u_77, u_661, ⟨by decide +kernel, by decide +kernel, by decide +kernel⟩, by decide⟩, u_659, u_660⟩
theorem u_1338 : Cond.methodLink RL 126 yX7_worth ∈ lw_use := use_of (k := 1338) (by decide +kernel) rfl
theorem u_1341 : Cond.code yX7_worth cX7_worth 4 (some .int) ∈ lw_use := use_of (k := 1341) (by decide +kernel) rfl
theorem u_1339 : Cond.instanceMethod yX7_worth ∈ lw_use := use_of (k := 1339) (by decide +kernel) rfl
theorem u_1340 : Cond.selects RX7 yX7_worth yX7_worth ∈ lw_use := use_of (k := 1340) (by decide +kernel) rfl
theorem pw_RL_126 : xCV RL 126 M_X7_worth 1 := ⟨⟨u_1338, u_85, u_1341, ⟨by decide +kernel, by decide +kernel, by decide +kernel⟩, by decide⟩, u_1339, u_1340⟩
theorem u_668 : Cond.methodLink RL 127 yX6_list ∈ lw_use := use_of (k := 668) (by decide +kernel) rfl
theorem u_671 : Cond.code yX6_list cX6_list 4 (some .int) ∈ lw_use := use_of (k := 671) (by decide +kernel) rfl
theorem u_669 : Cond.instanceMethod yX6_list ∈ lw_use := use_of (k := 669) (by decide +kernel) rfl
theorem u_670 : Cond.selects RX6 yX6_list yX6_list ∈ lw_use := use_of (k := 670) (by decide +kernel) rfl
theorem pw_RL_127 : xCV RL 127 M_X6_list 3 := ⟨⟨u_668, u_77, u_671, ⟨by decide +kernel, by decide +kernel, by decide +kernel⟩, by decide⟩, u_669, u_670⟩
theorem u_1343 : Cond.methodLink RL 130 yX7_list ∈ lw_use := use_of (k := 1343) (by decide +kernel) rfl
theorem u_1346 : Cond.code yX7_list cX7_list 6 (some .int) ∈ lw_use := use_of (k := 1346) (by decide +kernel) rfl
theorem u_1344 : Cond.instanceMethod yX7_list ∈ lw_use := use_of (k := 1344) (by decide +kernel) rfl
theorem u_1345 : Cond.selects RX7 yX7_list yX7_list ∈ lw_use := use_of (k := 1345) (by decide +kernel) rfl
theorem pw_RL_130 : xCV RL 130 M_X7_list 3 := ⟨⟨u_1343, u_85, u_1346, ⟨by decide +kernel, by decide +kernel, by decide +kernel⟩, by decide⟩, u_1344, u_1345⟩
theorem u_683 : Cond.methodLink RL 131 yX6_word ∈ lw_use := use_of (k := 683) (by decide +kernel) rfl
theorem u_686 : Cond.code yX6_word cX6_word 3 (some .int) ∈ lw_use := use_of (k := 686) (by decide +kernel) rfl
theorem u_684 : Cond.instanceMethod yX6_word ∈ lw_use := use_of (k := 684) (by decide +kernel) rfl
theorem u_685 : Cond.selects RX6 yX6_word yX6_word ∈ lw_use := use_of (k := 685) (by decide +kernel) rfl
theorem pw_RL_131 : xCV RL 131 M_X6_word 2 := ⟨⟨u_683, u_77, u_686, ⟨by decide +kernel, by decide +kernel, by decide +kernel⟩, by decide⟩, u_684, u_685⟩
theorem u_1347 : Cond.methodLink RL 134 yX7_word ∈ lw_use := use_of (k := 1347) (by decide +kernel) rfl
theorem u_1350 : Cond.code yX7_word cX7_word 3 (some .int) ∈ lw_use := use_of (k := 1350) (by decide +kernel) rfl
theorem u_1348 : Cond.instanceMethod yX7_word ∈ lw_use := use_of (k := 1348) (by decide +kernel) rfl
theorem u_1349 : Cond.selects RX7 yX7_word yX7_word ∈ lw_use := use_of (k := 1349) (by decide +kernel) rfl
theorem pw_RL_134 : xCV RL 134 M_X7_word 2 := ⟨⟨u_1347, u_85, u_1350, ⟨by decide +kernel, by decide +kernel, by decide +kernel⟩, by decide⟩, u_1348, u_1349⟩
theorem u_700 : Cond.methodLink RL 135 yX6_listIs ∈ lw_use := use_of (k := 700) (by decide +kernel) rfl
theorem pw_RL_135 : xCV RL 135 M_X6_listIs 2 := ⟨⟨u_700, u_77, u_703, ⟨by decide +kernel, by decide +kernel, by decide +kernel⟩, by decide⟩, u_701, u_702⟩
theorem u_1355 : Cond.methodLink RL 138 yX7_listIs ∈ lw_use := use_of (k := 1355) (by decide +kernel) rfl
theorem u_1358 : Cond.code yX7_listIs cX7_listIs 3 (some .int) ∈ lw_use := use_of (k := 1358) (by decide +kernel) rfl
theorem u_1356 : Cond.instanceMethod yX7_listIs ∈ lw_use := use_of (k := 1356) (by decide +kernel) rfl
theorem u_1357 : Cond.selects RX7 yX7_listIs yX7_listIs ∈ lw_use := use_of (k := 1357) (by decide +kernel) rfl
theorem pw_RL_138 : xCV RL 138 M_X7_listIs 2 := ⟨⟨u_1355, u_85, u_1358, ⟨by decide +kernel, by decide +kernel, by decide +kernel⟩, by decide⟩, u_1356, u_1357⟩
theorem u_727 : Cond.methodLink RL 139 yX6_changes ∈ lw_use := use_of (k := 727) (by decide +kernel) rfl
theorem u_730 : Cond.code yX6_changes cX6_changes 3 (some .int) ∈ lw_use := use_of (k := 730) (by decide +kernel) rfl
theorem u_728 : Cond.instanceMethod yX6_changes ∈ lw_use := use_of (k := 728) (by decide +kernel) rfl
theorem u_729 : Cond.selects RX6 yX6_changes yX6_changes ∈ lw_use := use_of (k := 729) (by decide +kernel) rfl
theorem pw_RL_139 : xCV RL 139 M_X6_changes 2 := ⟨⟨u_727, u_77, u_730, ⟨by decide +kernel, by decide +kernel, by decide +kernel⟩, by decide⟩, u_728, u_729⟩
theorem u_1367 : Cond.methodLink RL 142 yX7_changes ∈ lw_use := use_of (k := 1367) (by decide +kernel) rfl
theorem u_1370 : Cond.code yX7_changes cX7_changes 3 (some .int) ∈ lw_use := use_of (k := 1370) (by decide +kernel) rfl
theorem u_1368 : Cond.instanceMethod yX7_changes ∈ lw_use := use_of (k := 1368) (by decide +kernel) rfl
theorem u_1369 : Cond.selects RX7 yX7_changes yX7_changes ∈ lw_use := use_of (k := 1369) (by decide +kernel) rfl
theorem pw_RL_142 : xCV RL 142 M_X7_changes 2 := ⟨⟨u_1367, u_85, u_1370, ⟨by decide +kernel, by decide +kernel, by decide +kernel⟩, by decide⟩, u_1368, u_1369⟩
theorem u_742 : Cond.methodLink RL 143 yX6_mother ∈ lw_use := use_of (k := 742) (by decide +kernel) rfl
theorem u_745 : Cond.code yX6_mother cX6_mother 2 (some .int) ∈ lw_use := use_of (k := 745) (by decide +kernel) rfl
theorem u_743 : Cond.instanceMethod yX6_mother ∈ lw_use := use_of (k := 743) (by decide +kernel) rfl
theorem u_744 : Cond.selects RX6 yX6_mother yX6_mother ∈ lw_use := use_of (k := 744) (by decide +kernel) rfl
theorem pw_RL_143 : xCV RL 143 M_X6_mother 1 := ⟨⟨u_742, u_77, u_745, ⟨by decide +kernel, by decide +kernel, by decide +kernel⟩, by decide⟩, u_743, u_744⟩
theorem u_1375 : Cond.methodLink RL 146 yX7_mother ∈ lw_use := use_of (k := 1375) (by decide +kernel) rfl
theorem u_1378 : Cond.code yX7_mother cX7_mother 2 (some .int) ∈ lw_use := use_of (k := 1378) (by decide +kernel) rfl
theorem u_1376 : Cond.instanceMethod yX7_mother ∈ lw_use := use_of (k := 1376) (by decide +kernel) rfl
theorem u_1377 : Cond.selects RX7 yX7_mother yX7_mother ∈ lw_use := use_of (k := 1377) (by decide +kernel) rfl
theorem pw_RL_146 : xCV RL 146 M_X7_mother 1 := ⟨⟨u_1375, u_85, u_1378, ⟨by decide +kernel, by decide +kernel, by decide +kernel⟩, by decide⟩, u_1376, u_1377⟩
theorem u_752 : Cond.methodLink RL 147 yX6_mothers ∈ lw_use := use_of (k := 752) (by decide +kernel) rfl
theorem u_755 : Cond.code yX6_mothers cX6_mothers 2 (some .int) ∈ lw_use := use_of (k := 755) (by decide +kernel) rfl
theorem u_753 : Cond.instanceMethod yX6_mothers ∈ lw_use := use_of (k := 753) (by decide +kernel) rfl
theorem u_754 : Cond.selects RX6 yX6_mothers yX6_mothers ∈ lw_use := use_of (k := 754) (by decide +kernel) rfl
theorem pw_RL_147 : xCV RL 147 M_X6_mothers 1 := ⟨⟨u_752, u_77, u_755, ⟨by decide +kernel, by decide +kernel, by decide +kernel⟩, by decide⟩, u_753, u_754⟩
theorem u_1383 : Cond.methodLink RL 150 yX7_mothers ∈ lw_use := use_of (k := 1383) (by decide +kernel) rfl
theorem u_1386 : Cond.code yX7_mothers cX7_mothers 2 (some .int) ∈ lw_use := use_of (k := 1386) (by decide +kernel) rfl
theorem u_1384 : Cond.instanceMethod yX7_mothers ∈ lw_use := use_of (k := 1384) (by decide +kernel) rfl
theorem u_1385 : Cond.selects RX7 yX7_mothers yX7_mothers ∈ lw_use := use_of (k := 1385) (by decide +kernel) rfl
theorem pw_RL_150 : xCV RL 150 M_X7_mothers 1 := ⟨⟨u_1383, u_85, u_1386, ⟨by decide +kernel, by decide +kernel, by decide +kernel⟩, by decide⟩, u_1384, u_1385⟩
theorem u_768 : Cond.methodLink RL 151 yX6_strange ∈ lw_use := use_of (k := 768) (by decide +kernel) rfl
theorem u_771 : Cond.code yX6_strange cX6_strange 3 (some .int) ∈ lw_use := use_of (k := 771) (by decide +kernel) rfl
theorem u_769 : Cond.instanceMethod yX6_strange ∈ lw_use := use_of (k := 769) (by decide +kernel) rfl
theorem u_770 : Cond.selects RX6 yX6_strange yX6_strange ∈ lw_use := use_of (k := 770) (by decide +kernel) rfl
theorem pw_RL_151 : xCV RL 151 M_X6_strange 1 := ⟨⟨u_768, u_77, u_771, ⟨by decide +kernel, by decide +kernel, by decide +kernel⟩, by decide⟩, u_769, u_770⟩
theorem u_1399 : Cond.methodLink RL 154 yX7_strange ∈ lw_use := use_of (k := 1399) (by decide +kernel) rfl
theorem u_1402 : Cond.code yX7_strange cX7_strange 3 (some .int) ∈ lw_use := use_of (k := 1402) (by decide +kernel) rfl
theorem u_1400 : Cond.instanceMethod yX7_strange ∈ lw_use := use_of (k := 1400) (by decide +kernel) rfl
theorem u_1401 : Cond.selects RX7 yX7_strange yX7_strange ∈ lw_use := use_of (k := 1401) (by decide +kernel) rfl
theorem pw_RL_154 : xCV RL 154 M_X7_strange 1 := ⟨⟨u_1399, u_85, u_1402, ⟨by decide +kernel, by decide +kernel, by decide +kernel⟩, by decide⟩, u_1400, u_1401⟩
theorem u_773 : Cond.methodLink RL 155 yX6_age ∈ lw_use := use_of (k := 773) (by decide +kernel) rfl
theorem u_776 : Cond.code yX6_age cX6_age 2 (some .int) ∈ lw_use := use_of (k := 776) (by decide +kernel) rfl
theorem u_774 : Cond.instanceMethod yX6_age ∈ lw_use := use_of (k := 774) (by decide +kernel) rfl
theorem u_775 : Cond.selects RX6 yX6_age yX6_age ∈ lw_use := use_of (k := 775) (by decide +kernel) rfl
theorem pw_RL_155 : xCV RL 155 M_X6_age 1 := ⟨⟨u_773, u_77, u_776, ⟨by decide +kernel, by decide +kernel, by decide +kernel⟩, by decide⟩, u_774, u_775⟩
theorem u_1403 : Cond.methodLink RL 158 yX7_age ∈ lw_use := use_of (k := 1403) (by decide +kernel) rfl
theorem u_1406 : Cond.code yX7_age cX7_age 4 (some .int) ∈ lw_use := use_of (k := 1406) (by decide +kernel) rfl
theorem u_1404 : Cond.instanceMethod yX7_age ∈ lw_use := use_of (k := 1404) (by decide +kernel) rfl
theorem u_1405 : Cond.selects RX7 yX7_age yX7_age ∈ lw_use := use_of (k := 1405) (by decide +kernel) rfl
theorem pw_RL_158 : xCV RL 158 M_X7_age 1 := ⟨⟨u_1403, u_85, u_1406, ⟨by decide +kernel, by decide +kernel, by decide +kernel⟩, by decide⟩, u_1404, u_1405⟩
theorem u_782 : Cond.methodLink RL 159 yX6_slips ∈ lw_use := use_of (k := 782) (by decide +kernel) rfl
theorem u_785 : Cond.code yX6_slips cX6_slips 3 (some .int) ∈ lw_use := use_of (k := 785) (by decide +kernel) rfl
theorem u_783 : Cond.instanceMethod yX6_slips ∈ lw_use := use_of (k := 783) (by decide +kernel) rfl
theorem u_784 : Cond.selects RX6 yX6_slips yX6_slips ∈ lw_use := use_of (k := 784) (by decide +kernel) rfl
theorem pw_RL_159 : xCV RL 159 M_X6_slips 2 := ⟨⟨u_782, u_77, u_785, ⟨by decide +kernel, by decide +kernel, by decide +kernel⟩, by decide⟩, u_783, u_784⟩
theorem u_1407 : Cond.methodLink RL 162 yX7_slips ∈ lw_use := use_of (k := 1407) (by decide +kernel) rfl
theorem u_1410 : Cond.code yX7_slips cX7_slips 9 (some .int) ∈ lw_use := use_of (k := 1410) (by decide +kernel) rfl
theorem u_1408 : Cond.instanceMethod yX7_slips ∈ lw_use := use_of (k := 1408) (by decide +kernel) rfl
theorem u_1409 : Cond.selects RX7 yX7_slips yX7_slips ∈ lw_use := use_of (k := 1409) (by decide +kernel) rfl
theorem pw_RL_162 : xCV RL 162 M_X7_slips 2 := ⟨⟨u_1407, u_85, u_1410, ⟨by decide +kernel, by decide +kernel, by decide +kernel⟩, by decide⟩, u_1408, u_1409⟩
theorem u_794 : Cond.methodLink RL 163 yX6_readings ∈ lw_use := use_of (k := 794) (by decide +kernel) rfl
theorem u_797 : Cond.code yX6_readings cX6_readings 7 (some .int) ∈ lw_use := use_of (k := 797) (by decide +kernel) rfl
theorem u_795 : Cond.instanceMethod yX6_readings ∈ lw_use := use_of (k := 795) (by decide +kernel) rfl
theorem u_796 : Cond.selects RX6 yX6_readings yX6_readings ∈ lw_use := use_of (k := 796) (by decide +kernel) rfl
theorem pw_RL_163 : xCV RL 163 M_X6_readings 2 := ⟨⟨u_794, u_77, u_797, ⟨by decide +kernel, by decide +kernel, by decide +kernel⟩, by decide⟩, u_795, u_796⟩
theorem u_1411 : Cond.methodLink RL 166 yX7_readings ∈ lw_use := use_of (k := 1411) (by decide +kernel) rfl
theorem u_1414 : Cond.code yX7_readings cX7_readings 5 (some .int) ∈ lw_use := use_of (k := 1414) (by decide +kernel) rfl
theorem u_1412 : Cond.instanceMethod yX7_readings ∈ lw_use := use_of (k := 1412) (by decide +kernel) rfl
theorem u_1413 : Cond.selects RX7 yX7_readings yX7_readings ∈ lw_use := use_of (k := 1413) (by decide +kernel) rfl
theorem pw_RL_166 : xCV RL 166 M_X7_readings 2 := ⟨⟨u_1411, u_85, u_1414, ⟨by decide +kernel, by decide +kernel, by decide +kernel⟩, by decide⟩, u_1412, u_1413⟩
theorem u_836 : Cond.methodLink RL 167 yX6_reading ∈ lw_use := use_of (k := 836) (by decide +kernel) rfl
theorem u_839 : Cond.code yX6_reading cX6_reading 8 (some .int) ∈ lw_use := use_of (k := 839) (by decide +kernel) rfl
theorem u_837 : Cond.instanceMethod yX6_reading ∈ lw_use := use_of (k := 837) (by decide +kernel) rfl
theorem u_838 : Cond.selects RX6 yX6_reading yX6_reading ∈ lw_use := use_of (k := 838) (by decide +kernel) rfl
theorem pw_RL_167 : xCV RL 167 M_X6_reading 3 := ⟨⟨u_836, u_77, u_839, ⟨by decide +kernel, by decide +kernel, by decide +kernel⟩, by decide⟩, u_837, u_838⟩
theorem u_1428 : Cond.methodLink RL 170 yX7_reading ∈ lw_use := use_of (k := 1428) (by decide +kernel) rfl
theorem u_1431 : Cond.code yX7_reading cX7_reading 5 (some .int) ∈ lw_use := use_of (k := 1431) (by decide +kernel) rfl
theorem u_1429 : Cond.instanceMethod yX7_reading ∈ lw_use := use_of (k := 1429) (by decide +kernel) rfl
theorem u_1430 : Cond.selects RX7 yX7_reading yX7_reading ∈ lw_use := use_of (k := 1430) (by decide +kernel) rfl
theorem pw_RL_170 : xCV RL 170 M_X7_reading 3 := ⟨⟨u_1428, u_85, u_1431, ⟨by decide +kernel, by decide +kernel, by decide +kernel⟩, by decide⟩, u_1429, u_1430⟩
theorem u_841 : Cond.methodLink RL 171 yX6_fits ∈ lw_use := use_of (k := 841) (by decide +kernel) rfl
theorem u_844 : Cond.code yX6_fits cX6_fits 7 (some .int) ∈ lw_use := use_of (k := 844) (by decide +kernel) rfl
theorem u_842 : Cond.instanceMethod yX6_fits ∈ lw_use := use_of (k := 842) (by decide +kernel) rfl
theorem u_843 : Cond.selects RX6 yX6_fits yX6_fits ∈ lw_use := use_of (k := 843) (by decide +kernel) rfl
theorem pw_RL_171 : xCV RL 171 M_X6_fits 5 := ⟨⟨u_841, u_77, u_844, ⟨by decide +kernel, by decide +kernel, by decide +kernel⟩, by decide⟩, u_842, u_843⟩
theorem u_1432 : Cond.methodLink RL 174 yX7_fits ∈ lw_use := use_of (k := 1432) (by decide +kernel) rfl
theorem u_1435 : Cond.code yX7_fits cX7_fits 7 (some .int) ∈ lw_use := use_of (k := 1435) (by decide +kernel) rfl
theorem u_1433 : Cond.instanceMethod yX7_fits ∈ lw_use := use_of (k := 1433) (by decide +kernel) rfl
theorem u_1434 : Cond.selects RX7 yX7_fits yX7_fits ∈ lw_use := use_of (k := 1434) (by decide +kernel) rfl
theorem pw_RL_174 : xCV RL 174 M_X7_fits 5 := ⟨⟨u_1432, u_85, u_1435, ⟨by decide +kernel, by decide +kernel, by decide +kernel⟩, by decide⟩, u_1433, u_1434⟩
theorem u_849 : Cond.methodLink RL 175 yX6_type ∈ lw_use := use_of (k := 849) (by decide +kernel) rfl
theorem u_852 : Cond.code yX6_type cX6_type 2 (some .int) ∈ lw_use := use_of (k := 852) (by decide +kernel) rfl
theorem u_850 : Cond.instanceMethod yX6_type ∈ lw_use := use_of (k := 850) (by decide +kernel) rfl
theorem u_851 : Cond.selects RX6 yX6_type yX6_type ∈ lw_use := use_of (k := 851) (by decide +kernel) rfl
theorem pw_RL_175 : xCV RL 175 M_X6_type 1 := ⟨⟨u_849, u_77, u_852, ⟨by decide +kernel, by decide +kernel, by decide +kernel⟩, by decide⟩, u_850, u_851⟩
theorem u_1436 : Cond.methodLink RL 178 yX7_type ∈ lw_use := use_of (k := 1436) (by decide +kernel) rfl
theorem u_1439 : Cond.code yX7_type cX7_type 2 (some .int) ∈ lw_use := use_of (k := 1439) (by decide +kernel) rfl
theorem u_1437 : Cond.instanceMethod yX7_type ∈ lw_use := use_of (k := 1437) (by decide +kernel) rfl
theorem u_1438 : Cond.selects RX7 yX7_type yX7_type ∈ lw_use := use_of (k := 1438) (by decide +kernel) rfl
theorem pw_RL_178 : xCV RL 178 M_X7_type 1 := ⟨⟨u_1436, u_85, u_1439, ⟨by decide +kernel, by decide +kernel, by decide +kernel⟩, by decide⟩, u_1437, u_1438⟩
theorem u_857 : Cond.methodLink RL 179 yX6_hush ∈ lw_use := use_of (k := 857) (by decide +kernel) rfl
theorem u_860 : Cond.code yX6_hush cX6_hush 1 (some .int) ∈ lw_use := use_of (k := 860) (by decide +kernel) rfl
theorem u_858 : Cond.instanceMethod yX6_hush ∈ lw_use := use_of (k := 858) (by decide +kernel) rfl
theorem u_859 : Cond.selects RX6 yX6_hush yX6_hush ∈ lw_use := use_of (k := 859) (by decide +kernel) rfl
theorem pw_RL_179 : xCV RL 179 M_X6_hush 0 := ⟨⟨u_857, u_77, u_860, ⟨by decide +kernel, by decide +kernel, by decide +kernel⟩, by decide⟩, u_858, u_859⟩
theorem u_1440 : Cond.methodLink RL 182 yX7_hush ∈ lw_use := use_of (k := 1440) (by decide +kernel) rfl
theorem u_1443 : Cond.code yX7_hush cX7_hush 2 (some .int) ∈ lw_use := use_of (k := 1443) (by decide +kernel) rfl
theorem u_1441 : Cond.instanceMethod yX7_hush ∈ lw_use := use_of (k := 1441) (by decide +kernel) rfl
theorem u_1442 : Cond.selects RX7 yX7_hush yX7_hush ∈ lw_use := use_of (k := 1442) (by decide +kernel) rfl
theorem pw_RL_182 : xCV RL 182 M_X7_hush 0 := ⟨⟨u_1440, u_85, u_1443, ⟨by decide +kernel, by decide +kernel, by decide +kernel⟩, by decide⟩, u_1441, u_1442⟩
theorem u_865 : Cond.methodLink RL 183 yX6_fault ∈ lw_use := use_of (k := 865) (by decide +kernel) rfl
theorem u_868 : Cond.code yX6_fault cX6_fault 1 (some .int) ∈ lw_use := use_of (k := 868) (by decide +kernel) rfl
theorem u_866 : Cond.instanceMethod yX6_fault ∈ lw_use := use_of (k := 866) (by decide +kernel) rfl
theorem u_867 : Cond.selects RX6 yX6_fault yX6_fault ∈ lw_use := use_of (k := 867) (by decide +kernel) rfl
theorem pw_RL_183 : xCV RL 183 M_X6_fault 0 := ⟨⟨u_865, u_77, u_868, ⟨by decide +kernel, by decide +kernel, by decide +kernel⟩, by decide⟩, u_866, u_867⟩
theorem u_1444 : Cond.methodLink RL 186 yX7_fault ∈ lw_use := use_of (k := 1444) (by decide +kernel) rfl
theorem u_1447 : Cond.code yX7_fault cX7_fault 1 (some .int) ∈ lw_use := use_of (k := 1447) (by decide +kernel) rfl
theorem u_1445 : Cond.instanceMethod yX7_fault ∈ lw_use := use_of (k := 1445) (by decide +kernel) rfl
theorem u_1446 : Cond.selects RX7 yX7_fault yX7_fault ∈ lw_use := use_of (k := 1446) (by decide +kernel) rfl
theorem pw_RL_186 : xCV RL 186 M_X7_fault 0 := ⟨⟨u_1444, u_85, u_1447, ⟨by decide +kernel, by decide +kernel, by decide +kernel⟩, by decide⟩, u_1445, u_1446⟩
theorem u_894 : Cond.methodLink RL 187 yX6_speech ∈ lw_use := use_of (k := 894) (by decide +kernel) rfl
theorem u_897 : Cond.code yX6_speech cX6_speech 2 (some .int) ∈ lw_use := use_of (k := 897) (by decide +kernel) rfl
theorem u_895 : Cond.instanceMethod yX6_speech ∈ lw_use := use_of (k := 895) (by decide +kernel) rfl
theorem u_896 : Cond.selects RX6 yX6_speech yX6_speech ∈ lw_use := use_of (k := 896) (by decide +kernel) rfl
theorem pw_RL_187 : xCV RL 187 M_X6_speech 1 := ⟨⟨u_894, u_77, u_897, ⟨by decide +kernel, by decide +kernel, by decide +kernel⟩, by decide⟩, u_895, u_896⟩
theorem u_1464 : Cond.methodLink RL 190 yX7_speech ∈ lw_use := use_of (k := 1464) (by decide +kernel) rfl
theorem u_1467 : Cond.code yX7_speech cX7_speech 5 (some .int) ∈ lw_use := use_of (k := 1467) (by decide +kernel) rfl
theorem u_1465 : Cond.instanceMethod yX7_speech ∈ lw_use := use_of (k := 1465) (by decide +kernel) rfl
theorem u_1466 : Cond.selects RX7 yX7_speech yX7_speech ∈ lw_use := use_of (k := 1466) (by decide +kernel) rfl
theorem pw_RL_190 : xCV RL 190 M_X7_speech 1 := ⟨⟨u_1464, u_85, u_1467, ⟨by decide +kernel, by decide +kernel, by decide +kernel⟩, by decide⟩, u_1465, u_1466⟩
theorem u_907 : Cond.methodLink RL 191 yX6_sheet ∈ lw_use := use_of (k := 907) (by decide +kernel) rfl
theorem u_910 : Cond.code yX6_sheet cX6_sheet 4 (some .int) ∈ lw_use := use_of (k := 910) (by decide +kernel) rfl
theorem u_908 : Cond.instanceMethod yX6_sheet ∈ lw_use := use_of (k := 908) (by decide +kernel) rfl
theorem u_909 : Cond.selects RX6 yX6_sheet yX6_sheet ∈ lw_use := use_of (k := 909) (by decide +kernel) rfl
theorem pw_RL_191 : xCV RL 191 M_X6_sheet 3 := ⟨⟨u_907, u_77, u_910, ⟨by decide +kernel, by decide +kernel, by decide +kernel⟩, by decide⟩, u_908, u_909⟩
theorem u_1469 : Cond.methodLink RL 194 yX7_sheet ∈ lw_use := use_of (k := 1469) (by decide +kernel) rfl
theorem u_1472 : Cond.code yX7_sheet cX7_sheet 5 (some .int) ∈ lw_use := use_of (k := 1472) (by decide +kernel) rfl
theorem u_1470 : Cond.instanceMethod yX7_sheet ∈ lw_use := use_of (k := 1470) (by decide +kernel) rfl
theorem u_1471 : Cond.selects RX7 yX7_sheet yX7_sheet ∈ lw_use := use_of (k := 1471) (by decide +kernel) rfl
theorem pw_RL_194 : xCV RL 194 M_X7_sheet 3 := ⟨⟨u_1469, u_85, u_1472, ⟨by decide +kernel, by decide +kernel, by decide +kernel⟩, by decide⟩, u_1470, u_1471⟩
theorem u_918 : Cond.methodLink RL 195 yX6_lose ∈ lw_use := use_of (k := 918) (by decide +kernel) rfl
theorem u_921 : Cond.code yX6_lose cX6_lose 2 (some .int) ∈ lw_use := use_of (k := 921) (by decide +kernel) rfl
theorem u_919 : Cond.instanceMethod yX6_lose ∈ lw_use := use_of (k := 919) (by decide +kernel) rfl
theorem u_920 : Cond.selects RX6 yX6_lose yX6_lose ∈ lw_use := use_of (k := 920) (by decide +kernel) rfl
theorem pw_RL_195 : xCV RL 195 M_X6_lose 1 := ⟨⟨u_918, u_77, u_921, ⟨by decide +kernel, by decide +kernel, by decide +kernel⟩, by decide⟩, u_919, u_920⟩
theorem u_1473 : Cond.methodLink RL 198 yX7_lose ∈ lw_use := use_of (k := 1473) (by decide +kernel) rfl
theorem u_1476 : Cond.code yX7_lose cX7_lose 2 (some .int) ∈ lw_use := use_of (k := 1476) (by decide +kernel) rfl
theorem u_1474 : Cond.instanceMethod yX7_lose ∈ lw_use := use_of (k := 1474) (by decide +kernel) rfl
theorem u_1475 : Cond.selects RX7 yX7_lose yX7_lose ∈ lw_use := use_of (k := 1475) (by decide +kernel) rfl
theorem pw_RL_198 : xCV RL 198 M_X7_lose 1 := ⟨⟨u_1473, u_85, u_1476, ⟨by decide +kernel, by decide +kernel, by decide +kernel⟩, by decide⟩, u_1474, u_1475⟩
theorem u_926 : Cond.methodLink RL 199 yX6_put ∈ lw_use := use_of (k := 926) (by decide +kernel) rfl
theorem u_929 : Cond.code yX6_put cX6_put 6 (some .int) ∈ lw_use := use_of (k := 929) (by decide +kernel) rfl
theorem u_927 : Cond.instanceMethod yX6_put ∈ lw_use := use_of (k := 927) (by decide +kernel) rfl
theorem u_928 : Cond.selects RX6 yX6_put yX6_put ∈ lw_use := use_of (k := 928) (by decide +kernel) rfl
theorem pw_RL_199 : xCV RL 199 M_X6_put 4 := ⟨⟨u_926, u_77, u_929, ⟨by decide +kernel, by decide +kernel, by decide +kernel⟩, by decide⟩, u_927, u_928⟩
theorem u_1477 : Cond.methodLink RL 203 yX7_put ∈ lw_use := use_of (k := 1477) (by decide +kernel) rfl
theorem u_1480 : Cond.code yX7_put cX7_put 6 (some .int) ∈ lw_use := use_of (k := 1480) (by decide +kernel) rfl
theorem u_1478 : Cond.instanceMethod yX7_put ∈ lw_use := use_of (k := 1478) (by decide +kernel) rfl
theorem u_1479 : Cond.selects RX7 yX7_put yX7_put ∈ lw_use := use_of (k := 1479) (by decide +kernel) rfl
theorem pw_RL_203 : xCV RL 203 M_X7_put 4 := ⟨⟨u_1477, u_85, u_1480, ⟨by decide +kernel, by decide +kernel, by decide +kernel⟩, by decide⟩, u_1478, u_1479⟩
theorem u_945 : Cond.methodLink RL 204 yX6_get ∈ lw_use := use_of (k := 945) (by decide +kernel) rfl
theorem u_948 : Cond.code yX6_get cX6_get 4 (some .int) ∈ lw_use := use_of (k := 948) (by decide +kernel) rfl
theorem u_946 : Cond.instanceMethod yX6_get ∈ lw_use := use_of (k := 946) (by decide +kernel) rfl
theorem u_947 : Cond.selects RX6 yX6_get yX6_get ∈ lw_use := use_of (k := 947) (by decide +kernel) rfl
theorem pw_RL_204 : xCV RL 204 M_X6_get 3 := ⟨⟨u_945, u_77, u_948, ⟨by decide +kernel, by decide +kernel, by decide +kernel⟩, by decide⟩, u_946, u_947⟩
theorem u_1489 : Cond.methodLink RL 207 yX7_get ∈ lw_use := use_of (k := 1489) (by decide +kernel) rfl
theorem u_1492 : Cond.code yX7_get cX7_get 5 (some .int) ∈ lw_use := use_of (k := 1492) (by decide +kernel) rfl
theorem u_1490 : Cond.instanceMethod yX7_get ∈ lw_use := use_of (k := 1490) (by decide +kernel) rfl
theorem u_1491 : Cond.selects RX7 yX7_get yX7_get ∈ lw_use := use_of (k := 1491) (by decide +kernel) rfl
theorem pw_RL_207 : xCV RL 207 M_X7_get 3 := ⟨⟨u_1489, u_85, u_1492, ⟨by decide +kernel, by decide +kernel, by decide +kernel⟩, by decide⟩, u_1490, u_1491⟩
theorem u_951 : Cond.methodLink RL 208 yX6_copy ∈ lw_use := use_of (k := 951) (by decide +kernel) rfl
theorem u_954 : Cond.code yX6_copy cX6_copy 6 (some .int) ∈ lw_use := use_of (k := 954) (by decide +kernel) rfl
theorem u_952 : Cond.instanceMethod yX6_copy ∈ lw_use := use_of (k := 952) (by decide +kernel) rfl
theorem u_953 : Cond.selects RX6 yX6_copy yX6_copy ∈ lw_use := use_of (k := 953) (by decide +kernel) rfl
theorem pw_RL_208 : xCV RL 208 M_X6_copy 5 := ⟨⟨u_951, u_77, u_954, ⟨by decide +kernel, by decide +kernel, by decide +kernel⟩, by decide⟩, u_952, u_953⟩
theorem u_1494 : Cond.methodLink RL 211 yX7_copy ∈ lw_use := use_of (k := 1494) (by decide +kernel) rfl
theorem u_1497 : Cond.code yX7_copy cX7_copy 7 (some .int) ∈ lw_use := use_of (k := 1497) (by decide +kernel) rfl
theorem u_1495 : Cond.instanceMethod yX7_copy ∈ lw_use := use_of (k := 1495) (by decide +kernel) rfl
theorem u_1496 : Cond.selects RX7 yX7_copy yX7_copy ∈ lw_use := use_of (k := 1496) (by decide +kernel) rfl
theorem pw_RL_211 : xCV RL 211 M_X7_copy 5 := ⟨⟨u_1494, u_85, u_1497, ⟨by decide +kernel, by decide +kernel, by decide +kernel⟩, by decide⟩, u_1495, u_1496⟩
theorem u_961 : Cond.methodLink RL 212 yX6_write ∈ lw_use := use_of (k := 961) (by decide +kernel) rfl
theorem u_964 : Cond.code yX6_write cX6_write 7 (some .int) ∈ lw_use := use_of (k := 964) (by decide +kernel) rfl
theorem u_962 : Cond.instanceMethod yX6_write ∈ lw_use := use_of (k := 962) (by decide +kernel) rfl
theorem u_963 : Cond.selects RX6 yX6_write yX6_write ∈ lw_use := use_of (k := 963) (by decide +kernel) rfl
theorem pw_RL_212 : xCV RL 212 M_X6_write 4 := ⟨⟨u_961, u_77, u_964, ⟨by decide +kernel, by decide +kernel, by decide +kernel⟩, by decide⟩, u_962, u_963⟩
theorem u_1498 : Cond.methodLink RL 215 yX7_write ∈ lw_use := use_of (k := 1498) (by decide +kernel) rfl
theorem u_1501 : Cond.code yX7_write cX7_write 6 (some .int) ∈ lw_use := use_of (k := 1501) (by decide +kernel) rfl
theorem u_1499 : Cond.instanceMethod yX7_write ∈ lw_use := use_of (k := 1499) (by decide +kernel) rfl
theorem u_1500 : Cond.selects RX7 yX7_write yX7_write ∈ lw_use := use_of (k := 1500) (by decide +kernel) rfl
theorem pw_RL_215 : xCV RL 215 M_X7_write 4 := ⟨⟨u_1498, u_85, u_1501, ⟨by decide +kernel, by decide +kernel, by decide +kernel⟩, by decide⟩, u_1499, u_1500⟩
theorem u_966 : Cond.methodLink RL 216 yX6_count ∈ lw_use := use_of (k := 966) (by decide +kernel) rfl
theorem pw_RL_216 : xCV RL 216 M_X6_count 1 := ⟨⟨u_966, u_77, u_969, ⟨by decide +kernel, by decide +kernel, by decide +kernel⟩, by decide⟩, u_967, u_968⟩
theorem u_1502 : Cond.methodLink RL 219 yX7_count ∈ lw_use := use_of (k := 1502) (by decide +kernel) rfl
theorem pw_RL_219 : xCV RL 219 M_X7_count 1 := ⟨⟨u_1502, u_85, u_1505, ⟨by decide +kernel, by decide +kernel, by decide +kernel⟩, by decide⟩, u_1503, u_1504⟩
theorem u_1002 : Cond.methodLink RL 220 yX6_digest ∈ lw_use := use_of (k := 1002) (by decide +kernel) rfl
theorem u_1005 : Cond.code yX6_digest cX6_digest 4 (some .long) ∈ lw_use := use_of (k := 1005) (by decide +kernel) rfl
theorem u_1003 : Cond.instanceMethod yX6_digest ∈ lw_use := use_of (k := 1003) (by decide +kernel) rfl
theorem u_1004 : Cond.selects RX6 yX6_digest yX6_digest ∈ lw_use := use_of (k := 1004) (by decide +kernel) rfl
theorem pw_RL_220 : xCV RL 220 M_X6_digest 0 := ⟨⟨u_1002, u_77, u_1005, ⟨by decide +kernel, by decide +kernel, by decide +kernel⟩, by decide⟩, u_1003, u_1004⟩
theorem u_1506 : Cond.methodLink RL 224 yX7_digest ∈ lw_use := use_of (k := 1506) (by decide +kernel) rfl
theorem u_1509 : Cond.code yX7_digest cX7_digest 5 (some .long) ∈ lw_use := use_of (k := 1509) (by decide +kernel) rfl
theorem u_1507 : Cond.instanceMethod yX7_digest ∈ lw_use := use_of (k := 1507) (by decide +kernel) rfl
theorem u_1508 : Cond.selects RX7 yX7_digest yX7_digest ∈ lw_use := use_of (k := 1508) (by decide +kernel) rfl
theorem pw_RL_224 : xCV RL 224 M_X7_digest 0 := ⟨⟨u_1506, u_85, u_1509, ⟨by decide +kernel, by decide +kernel, by decide +kernel⟩, by decide⟩, u_1507, u_1508⟩
set_option maxHeartbeats 40000000 in
set_option maxRecDepth 100000 in
theorem bL_law_18 {κ : xK} {d Ln : Nat} {xs : Nat → Int32} (C : Cx κ M_L_law (d + 1)) (Z : xRL κ) (SC : xSc κ Ln xs) (x3 : Int32) (st : xSt) (h : ((((nI Ln) - 6) < x3 → True) ∧ (¬ ((nI Ln) - 6) < x3 → vp_in x3 Ln ∧ ((((xs (x3 : Int32).toNatClampNeg) &&& 63 : Int32).toInt < 0 ∨ 50 < ((xs (x3 : Int32).toNatClampNeg) &&& 63 : Int32).toInt → X κ 18 [(0, .ref 9999), (1, .ref 0), (2, .ref 7), (3, .int (x3 + 6))] [] st) ∧ (((xs (x3 : Int32).toNatClampNeg) &&& 63 : Int32).toInt = 0 → vp_in (x3 + 1) Ln ∧ vp_in (x3 + 2) Ln ∧ vp_in (x3 + 3) Ln ∧ (((xs (x3 + 3 : Int32).toNatClampNeg) = 0 → Ct d M_X6_countBy [.ref 0, .int (xs (x3 + 1 : Int32).toNatClampNeg), .int (xs (x3 + 2 : Int32).toNatClampNeg), .int 0] st (Qi fun v2 s1 => vp_in (x3 + 1) Ln ∧ vp_in (x3 + 2) Ln ∧ vp_in (x3 + 3) Ln ∧ (((xs (x3 + 3 : Int32).toNatClampNeg) = 0 → Ct d M_X7_countBy [.ref 7, .int (xs (x3 + 1 : Int32).toNatClampNeg), .int (xs (x3 + 2 : Int32).toNatClampNeg), .int 0] s1 (Qi fun v4 s3 => ((v2 = v4 → X κ 18 [(0, .ref 9999), (1, .ref 0), (2, .ref 7), (3, .int (x3 + 6))] [] s3) ∧ (¬ v2 = v4 → False)))) ∧ (¬ (xs (x3 + 3 : Int32).toNatClampNeg) = 0 → Ct d M_X7_countBy [.ref 7, .int (xs (x3 + 1 : Int32).toNatClampNeg), .int (xs (x3 + 2 : Int32).toNatClampNeg), .int 1] s1 (Qi fun v6 s5 => ((v2 = v6 → X κ 18 [(0, .ref 9999), (1, .ref 0), (2, .ref 7), (3, .int (x3 + 6))] [] s5) ∧ (¬ v2 = v6 → False))))))) ∧ (¬ (xs (x3 + 3 : Int32).toNatClampNeg) = 0 → Ct d M_X6_countBy [.ref 0, .int (xs (x3 + 1 : Int32).toNatClampNeg), .int (xs (x3 + 2 : Int32).toNatClampNeg), .int 1] st (Qi fun v8 s7 => vp_in (x3 + 1) Ln ∧ vp_in (x3 + 2) Ln ∧ vp_in (x3 + 3) Ln ∧ (((xs (x3 + 3 : Int32).toNatClampNeg) = 0 → Ct d M_X7_countBy [.ref 7, .int (xs (x3 + 1 : Int32).toNatClampNeg), .int (xs (x3 + 2 : Int32).toNatClampNeg), .int 0] s7 (Qi fun v10 s9 => ((v8 = v10 → X κ 18 [(0, .ref 9999), (1, .ref 0), (2, .ref 7), (3, .int (x3 + 6))] [] s9) ∧ (¬ v8 = v10 → False)))) ∧ (¬ (xs (x3 + 3 : Int32).toNatClampNeg) = 0 → Ct d M_X7_countBy [.ref 7, .int (xs (x3 + 1 : Int32).toNatClampNeg), .int (xs (x3 + 2 : Int32).toNatClampNeg), .int 1] s7 (Qi fun v12 s11 => ((v8 = v12 → X κ 18 [(0, .ref 9999), (1, .ref 0), (2, .ref 7), (3, .int (x3 + 6))] [] s11) ∧ (¬ v8 = v12 → False))))))))) ∧ (((xs (x3 : Int32).toNatClampNeg) &&& 63 : Int32).toInt = 1 → vp_in (x3 + 1) Ln ∧ vp_in (x3 + 2) Ln ∧ Ct d M_X6_begins [.ref 0, .int (xs (x3 + 1 : Int32).toNatClampNeg), .int (xs (x3 + 2 : Int32).toNatClampNeg)] st (Qi fun v14 s13 => vp_in (x3 + 1) Ln ∧ vp_in (x3 + 2) Ln ∧ Ct d M_X7_begins [.ref 7, .int (xs (x3 + 1 : Int32).toNatClampNeg), .int (xs (x3 + 2 : Int32).toNatClampNeg)] s13 (Qi fun v16 s15 => ((v14 = v16 → X κ 18 [(0, .ref 9999), (1, .ref 0), (2, .ref 7), (3, .int (x3 + 6))] [] s15) ∧ (¬ v14 = v16 → False))))) ∧ (((xs (x3 : Int32).toNatClampNeg) &&& 63 : Int32).toInt = 2 → vp_in (x3 + 1) Ln ∧ vp_in (x3 + 2) Ln ∧ Ct d M_X6_about [.ref 0, .int (xs (x3 + 1 : Int32).toNatClampNeg), .int (xs (x3 + 2 : Int32).toNatClampNeg)] st (Qi fun v18 s17 => vp_in (x3 + 1) Ln ∧ vp_in (x3 + 2) Ln ∧ Ct d M_X7_about [.ref 7, .int (xs (x3 + 1 : Int32).toNatClampNeg), .int (xs (x3 + 2 : Int32).toNatClampNeg)] s17 (Qi fun v20 s19 => ((v18 = v20 → X κ 18 [(0, .ref 9999), (1, .ref 0), (2, .ref 7), (3, .int (x3 + 6))] [] s19) ∧ (¬ v18 = v20 → False))))) ∧ (((xs (x3 : Int32).toNatClampNeg) &&& 63 : Int32).toInt = 3 → vp_in (x3 + 1) Ln ∧ vp_in (x3 + 2) Ln ∧ vp_in (x3 + 3) Ln ∧ Ct d M_X6_place [.ref 0, .int (xs (x3 + 1 : Int32).toNatClampNeg), .int (xs (x3 + 2 : Int32).toNatClampNeg), .int (xs (x3 + 3 : Int32).toNatClampNeg)] st (Qi fun v22 s21 => vp_in (x3 + 1) Ln ∧ vp_in (x3 + 2) Ln ∧ vp_in (x3 + 3) Ln ∧ Ct d M_X7_place [.ref 7, .int (xs (x3 + 1 : Int32).toNatClampNeg), .int (xs (x3 + 2 : Int32).toNatClampNeg), .int (xs (x3 + 3 : Int32).toNatClampNeg)] s21 (Qi fun v24 s23 => ((v22 = v24 → X κ 18 [(0, .ref 9999), (1, .ref 0), (2, .ref 7), (3, .int (x3 + 6))] [] s23) ∧ (¬ v22 = v24 → False))))) ∧ (((xs (x3 : Int32).toNatClampNeg) &&& 63 : Int32).toInt = 4 → vp_in (x3 + 1) Ln ∧ vp_in (x3 + 2) Ln ∧ vp_in (x3 + 3) Ln ∧ Ct d M_X6_number [.ref 0, .int (xs (x3 + 1 : Int32).toNatClampNeg), .int (xs (x3 + 2 : Int32).toNatClampNeg), .int (xs (x3 + 3 : Int32).toNatClampNeg)] st (Qi fun v26 s25 => vp_in (x3 + 1) Ln ∧ vp_in (x3 + 2) Ln ∧ vp_in (x3 + 3) Ln ∧ Ct d M_X7_number [.ref 7, .int (xs (x3 + 1 : Int32).toNatClampNeg), .int (xs (x3 + 2 : Int32).toNatClampNeg), .int (xs (x3 + 3 : Int32).toNatClampNeg)] s25 (Qi fun v28 s27 => ((v26 = v28 → X κ 18 [(0, .ref 9999), (1, .ref 0), (2, .ref 7), (3, .int (x3 + 6))] [] s27) ∧ (¬ v26 = v28 → False))))) ∧ (((xs (x3 : Int32).toNatClampNeg) &&& 63 : Int32).toInt = 5 → vp_in (x3 + 1) Ln ∧ vp_in (x3 + 2) Ln ∧ vp_in (x3 + 3) Ln ∧ Ct d M_X6_value [.ref 0, .int (xs (x3 + 1 : Int32).toNatClampNeg), .int (xs (x3 + 2 : Int32).toNatClampNeg), .int (xs (x3 + 3 : Int32).toNatClampNeg)] st (Qi fun v30 s29 => vp_in (x3 + 1) Ln ∧ vp_in (x3 + 2) Ln ∧ vp_in (x3 + 3) Ln ∧ Ct d M_X7_value [.ref 7, .int (xs (x3 + 1 : Int32).toNatClampNeg), .int (xs (x3 + 2 : Int32).toNatClampNeg), .int (xs (x3 + 3 : Int32).toNatClampNeg)] s29 (Qi fun v32 s31 => ((v30 = v32 → X κ 18 [(0, .ref 9999), (1, .ref 0), (2, .ref 7), (3, .int (x3 + 6))] [] s31) ∧ (¬ v30 = v32 → False))))) ∧ (((xs (x3 : Int32).toNatClampNeg) &&& 63 : Int32).toInt = 6 → vp_in (x3 + 1) Ln ∧ vp_in (x3 + 2) Ln ∧ vp_in (x3 + 3) Ln ∧ vp_in (x3 + 4) Ln ∧ vp_in (x3 + 5) Ln ∧ Ct d M_X6_meanings [.ref 0, .int (xs (x3 + 1 : Int32).toNatClampNeg), .int (xs (x3 + 2 : Int32).toNatClampNeg), .int (xs (x3 + 3 : Int32).toNatClampNeg), .int (xs (x3 + 4 : Int32).toNatClampNeg), .int (xs (x3 + 5 : Int32).toNatClampNeg)] st (Qi fun v34 s33 => vp_in (x3 + 1) Ln ∧ vp_in (x3 + 2) Ln ∧ vp_in (x3 + 3) Ln ∧ vp_in (x3 + 4) Ln ∧ vp_in (x3 + 5) Ln ∧ Ct d M_X7_meanings [.ref 7, .int (xs (x3 + 1 : Int32).toNatClampNeg), .int (xs (x3 + 2 : Int32).toNatClampNeg), .int (xs (x3 + 3 : Int32).toNatClampNeg), .int (xs (x3 + 4 : Int32).toNatClampNeg), .int (xs (x3 + 5 : Int32).toNatClampNeg)] s33 (Qi fun v36 s35 => ((v34 = v36 → X κ 18 [(0, .ref 9999), (1, .ref 0), (2, .ref 7), (3, .int (x3 + 6))] [] s35) ∧ (¬ v34 = v36 → False))))) ∧ (((xs (x3 : Int32).toNatClampNeg) &&& 63 : Int32).toInt = 7 → vp_in (x3 + 1) Ln ∧ vp_in (x3 + 2) Ln ∧ vp_in (x3 + 3) Ln ∧ vp_in (x3 + 4) Ln ∧ vp_in (x3 + 5) Ln ∧ Ct d M_X6_meaning [.ref 0, .int (xs (x3 + 1 : Int32).toNatClampNeg), .int (xs (x3 + 2 : Int32).toNatClampNeg), .int (xs (x3 + 3 : Int32).toNatClampNeg), .int (xs (x3 + 4 : Int32).toNatClampNeg), .int (xs (x3 + 5 : Int32).toNatClampNeg)] st (Qi fun v38 s37 => vp_in (x3 + 1) Ln ∧ vp_in (x3 + 2) Ln ∧ vp_in (x3 + 3) Ln ∧ vp_in (x3 + 4) Ln ∧ vp_in (x3 + 5) Ln ∧ Ct d M_X7_meaning [.ref 7, .int (xs (x3 + 1 : Int32).toNatClampNeg), .int (xs (x3 + 2 : Int32).toNatClampNeg), .int (xs (x3 + 3 : Int32).toNatClampNeg), .int (xs (x3 + 4 : Int32).toNatClampNeg), .int (xs (x3 + 5 : Int32).toNatClampNeg)] s37 (Qi fun v40 s39 => ((v38 = v40 → X κ 18 [(0, .ref 9999), (1, .ref 0), (2, .ref 7), (3, .int (x3 + 6))] [] s39) ∧ (¬ v38 = v40 → False))))) ∧ (((xs (x3 : Int32).toNatClampNeg) &&& 63 : Int32).toInt = 8 → vp_in (x3 + 1) Ln ∧ Ct d M_X6_mat [.ref 0, .int (xs (x3 + 1 : Int32).toNatClampNeg)] st (Qi fun v42 s41 => vp_in (x3 + 1) Ln ∧ Ct d M_X7_mat [.ref 7, .int (xs (x3 + 1 : Int32).toNatClampNeg)] s41 (Qi fun v44 s43 => ((v42 = v44 → X κ 18 [(0, .ref 9999), (1, .ref 0), (2, .ref 7), (3, .int (x3 + 6))] [] s43) ∧ (¬ v42 = v44 → False))))) ∧ (((xs (x3 : Int32).toNatClampNeg) &&& 63 : Int32).toInt = 9 → vp_in (x3 + 1) Ln ∧ vp_in (x3 + 2) Ln ∧ vp_in (x3 + 3) Ln ∧ vp_in (x3 + 4) Ln ∧ vp_in (x3 + 5) Ln ∧ Ct d M_X6_clue [.ref 0, .int (xs (x3 + 1 : Int32).toNatClampNeg), .int (xs (x3 + 2 : Int32).toNatClampNeg), .int (xs (x3 + 3 : Int32).toNatClampNeg), .int (xs (x3 + 4 : Int32).toNatClampNeg), .int (xs (x3 + 5 : Int32).toNatClampNeg)] st (Qi fun v46 s45 => vp_in (x3 + 1) Ln ∧ vp_in (x3 + 2) Ln ∧ vp_in (x3 + 3) Ln ∧ vp_in (x3 + 4) Ln ∧ vp_in (x3 + 5) Ln ∧ Ct d M_X7_clue [.ref 7, .int (xs (x3 + 1 : Int32).toNatClampNeg), .int (xs (x3 + 2 : Int32).toNatClampNeg), .int (xs (x3 + 3 : Int32).toNatClampNeg), .int (xs (x3 + 4 : Int32).toNatClampNeg), .int (xs (x3 + 5 : Int32).toNatClampNeg)] s45 (Qi fun v48 s47 => ((v46 = v48 → X κ 18 [(0, .ref 9999), (1, .ref 0), (2, .ref 7), (3, .int (x3 + 6))] [] s47) ∧ (¬ v46 = v48 → False))))) ∧ (((xs (x3 : Int32).toNatClampNeg) &&& 63 : Int32).toInt = 10 → vp_in (x3 + 1) Ln ∧ vp_in (x3 + 2) Ln ∧ vp_in (x3 + 3) Ln ∧ Ct d M_X6_sum [.ref 0, .int (xs (x3 + 1 : Int32).toNatClampNeg), .int (xs (x3 + 2 : Int32).toNatClampNeg), .int (xs (x3 + 3 : Int32).toNatClampNeg)] st (Qi fun v50 s49 => vp_in (x3 + 1) Ln ∧ vp_in (x3 + 2) Ln ∧ vp_in (x3 + 3) Ln ∧ Ct d M_X7_sum [.ref 7, .int (xs (x3 + 1 : Int32).toNatClampNeg), .int (xs (x3 + 2 : Int32).toNatClampNeg), .int (xs (x3 + 3 : Int32).toNatClampNeg)] s49 (Qi fun v52 s51 => ((v50 = v52 → X κ 18 [(0, .ref 9999), (1, .ref 0), (2, .ref 7), (3, .int (x3 + 6))] [] s51) ∧ (¬ v50 = v52 → False))))) ∧ (((xs (x3 : Int32).toNatClampNeg) &&& 63 : Int32).toInt = 11 → vp_in (x3 + 1) Ln ∧ vp_in (x3 + 2) Ln ∧ Ct d M_X6_less [.ref 0, .int (xs (x3 + 1 : Int32).toNatClampNeg), .int (xs (x3 + 2 : Int32).toNatClampNeg)] st (Qi fun v54 s53 => vp_in (x3 + 1) Ln ∧ vp_in (x3 + 2) Ln ∧ Ct d M_X7_less [.ref 7, .int (xs (x3 + 1 : Int32).toNatClampNeg), .int (xs (x3 + 2 : Int32).toNatClampNeg)] s53 (Qi fun v56 s55 => ((v54 = v56 → X κ 18 [(0, .ref 9999), (1, .ref 0), (2, .ref 7), (3, .int (x3 + 6))] [] s55) ∧ (¬ v54 = v56 → False))))) ∧ (((xs (x3 : Int32).toNatClampNeg) &&& 63 : Int32).toInt = 12 → vp_in (x3 + 1) Ln ∧ vp_in (x3 + 2) Ln ∧ vp_in (x3 + 3) Ln ∧ Ct d M_X6_mats [.ref 0, .int (xs (x3 + 1 : Int32).toNatClampNeg), .int (xs (x3 + 2 : Int32).toNatClampNeg), .int (xs (x3 + 3 : Int32).toNatClampNeg)] st (Qi fun v58 s57 => vp_in (x3 + 1) Ln ∧ vp_in (x3 + 2) Ln ∧ vp_in (x3 + 3) Ln ∧ Ct d M_X7_mats [.ref 7, .int (xs (x3 + 1 : Int32).toNatClampNeg), .int (xs (x3 + 2 : Int32).toNatClampNeg), .int (xs (x3 + 3 : Int32).toNatClampNeg)] s57 (Qi fun v60 s59 => ((v58 = v60 → X κ 18 [(0, .ref 9999), (1, .ref 0), (2, .ref 7), (3, .int (x3 + 6))] [] s59) ∧ (¬ v58 = v60 → False))))) ∧ (((xs (x3 : Int32).toNatClampNeg) &&& 63 : Int32).toInt = 13 → Ct d M_X6_forget [.ref 0] st (Qi fun v62 s61 => Ct d M_X7_forget [.ref 7] s61 (Qi fun v64 s63 => ((v62 = v64 → X κ 18 [(0, .ref 9999), (1, .ref 0), (2, .ref 7), (3, .int (x3 + 6))] [] s63) ∧ (¬ v62 = v64 → False))))) ∧ (((xs (x3 : Int32).toNatClampNeg) &&& 63 : Int32).toInt = 14 → Ct d M_X6_solutions [.ref 0] st (Qi fun v66 s65 => Ct d M_X7_solutions [.ref 7] s65 (Qi fun v68 s67 => ((v66 = v68 → X κ 18 [(0, .ref 9999), (1, .ref 0), (2, .ref 7), (3, .int (x3 + 6))] [] s67) ∧ (¬ v66 = v68 → False))))) ∧ (((xs (x3 : Int32).toNatClampNeg) &&& 63 : Int32).toInt = 15 → vp_in (x3 + 1) Ln ∧ vp_in (x3 + 2) Ln ∧ Ct d M_X6_solution [.ref 0, .int (xs (x3 + 1 : Int32).toNatClampNeg), .int (xs (x3 + 2 : Int32).toNatClampNeg)] st (Qi fun v70 s69 => vp_in (x3 + 1) Ln ∧ vp_in (x3 + 2) Ln ∧ Ct d M_X7_solution [.ref 7, .int (xs (x3 + 1 : Int32).toNatClampNeg), .int (xs (x3 + 2 : Int32).toNatClampNeg)] s69 (Qi fun v72 s71 => ((v70 = v72 → X κ 18 [(0, .ref 9999), (1, .ref 0), (2, .ref 7), (3, .int (x3 + 6))] [] s71) ∧ (¬ v70 = v72 → False))))) ∧ (((xs (x3 : Int32).toNatClampNeg) &&& 63 : Int32).toInt = 16 → vp_in (x3 + 1) Ln ∧ Ct d M_X6_sure [.ref 0, .int (xs (x3 + 1 : Int32).toNatClampNeg)] st (Qi fun v74 s73 => vp_in (x3 + 1) Ln ∧ Ct d M_X7_sure [.ref 7, .int (xs (x3 + 1 : Int32).toNatClampNeg)] s73 (Qi fun v76 s75 => ((v74 = v76 → X κ 18 [(0, .ref 9999), (1, .ref 0), (2, .ref 7), (3, .int (x3 + 6))] [] s75) ∧ (¬ v74 = v76 → False))))) ∧ (((xs (x3 : Int32).toNatClampNeg) &&& 63 : Int32).toInt = 17 → Ct d M_X6_quarrel [.ref 0] st (Qi fun v78 s77 => Ct d M_X7_quarrel [.ref 7] s77 (Qi fun v80 s79 => ((v78 = v80 → X κ 18 [(0, .ref 9999), (1, .ref 0), (2, .ref 7), (3, .int (x3 + 6))] [] s79) ∧ (¬ v78 = v80 → False))))) ∧ (((xs (x3 : Int32).toNatClampNeg) &&& 63 : Int32).toInt = 18 → vp_in (x3 + 1) Ln ∧ vp_in (x3 + 2) Ln ∧ vp_in (x3 + 3) Ln ∧ Ct d M_X6_heard [.ref 0, .int (xs (x3 + 1 : Int32).toNatClampNeg), .int (xs (x3 + 2 : Int32).toNatClampNeg), .int (xs (x3 + 3 : Int32).toNatClampNeg)] st (Qi fun v82 s81 => vp_in (x3 + 1) Ln ∧ vp_in (x3 + 2) Ln ∧ vp_in (x3 + 3) Ln ∧ Ct d M_X7_heard [.ref 7, .int (xs (x3 + 1 : Int32).toNatClampNeg), .int (xs (x3 + 2 : Int32).toNatClampNeg), .int (xs (x3 + 3 : Int32).toNatClampNeg)] s81 (Qi fun v84 s83 => ((v82 = v84 → X κ 18 [(0, .ref 9999), (1, .ref 0), (2, .ref 7), (3, .int (x3 + 6))] [] s83) ∧ (¬ v82 = v84 → False))))) ∧ (((xs (x3 : Int32).toNatClampNeg) &&& 63 : Int32).toInt = 19 → vp_in (x3 + 1) Ln ∧ vp_in (x3 + 2) Ln ∧ vp_in (x3 + 3) Ln ∧ Ct d M_X6_clear [.ref 0, .int (xs (x3 + 1 : Int32).toNatClampNeg), .int (xs (x3 + 2 : Int32).toNatClampNeg), .int (xs (x3 + 3 : Int32).toNatClampNeg)] st (Qi fun v86 s85 => vp_in (x3 + 1) Ln ∧ vp_in (x3 + 2) Ln ∧ vp_in (x3 + 3) Ln ∧ Ct d M_X7_clear [.ref 7, .int (xs (x3 + 1 : Int32).toNatClampNeg), .int (xs (x3 + 2 : Int32).toNatClampNeg), .int (xs (x3 + 3 : Int32).toNatClampNeg)] s85 (Qi fun v88 s87 => ((v86 = v88 → X κ 18 [(0, .ref 9999), (1, .ref 0), (2, .ref 7), (3, .int (x3 + 6))] [] s87) ∧ (¬ v86 = v88 → False))))) ∧ (((xs (x3 : Int32).toNatClampNeg) &&& 63 : Int32).toInt = 20 → vp_in (x3 + 1) Ln ∧ vp_in (x3 + 2) Ln ∧ Ct d M_X6_trap [.ref 0, .int (xs (x3 + 1 : Int32).toNatClampNeg), .int (xs (x3 + 2 : Int32).toNatClampNeg)] st (Qi fun v90 s89 => vp_in (x3 + 1) Ln ∧ vp_in (x3 + 2) Ln ∧ Ct d M_X7_trap [.ref 7, .int (xs (x3 + 1 : Int32).toNatClampNeg), .int (xs (x3 + 2 : Int32).toNatClampNeg)] s89 (Qi fun v92 s91 => ((v90 = v92 → X κ 18 [(0, .ref 9999), (1, .ref 0), (2, .ref 7), (3, .int (x3 + 6))] [] s91) ∧ (¬ v90 = v92 → False))))) ∧ (((xs (x3 : Int32).toNatClampNeg) &&& 63 : Int32).toInt = 21 → vp_in (x3 + 1) Ln ∧ Ct d M_X6_person [.ref 0, .int (xs (x3 + 1 : Int32).toNatClampNeg)] st (Qi fun v94 s93 => vp_in (x3 + 1) Ln ∧ Ct d M_X7_person [.ref 7, .int (xs (x3 + 1 : Int32).toNatClampNeg)] s93 (Qi fun v96 s95 => ((v94 = v96 → X κ 18 [(0, .ref 9999), (1, .ref 0), (2, .ref 7), (3, .int (x3 + 6))] [] s95) ∧ (¬ v94 = v96 → False))))) ∧ (((xs (x3 : Int32).toNatClampNeg) &&& 63 : Int32).toInt = 22 → vp_in (x3 + 1) Ln ∧ vp_in (x3 + 2) Ln ∧ vp_in (x3 + 3) Ln ∧ Ct d M_X6_gift [.ref 0, .int (xs (x3 + 1 : Int32).toNatClampNeg), .int (xs (x3 + 2 : Int32).toNatClampNeg), .int (xs (x3 + 3 : Int32).toNatClampNeg)] st (Qi fun v98 s97 => vp_in (x3 + 1) Ln ∧ vp_in (x3 + 2) Ln ∧ vp_in (x3 + 3) Ln ∧ Ct d M_X7_gift [.ref 7, .int (xs (x3 + 1 : Int32).toNatClampNeg), .int (xs (x3 + 2 : Int32).toNatClampNeg), .int (xs (x3 + 3 : Int32).toNatClampNeg)] s97 (Qi fun v100 s99 => ((v98 = v100 → X κ 18 [(0, .ref 9999), (1, .ref 0), (2, .ref 7), (3, .int (x3 + 6))] [] s99) ∧ (¬ v98 = v100 → False))))) ∧ (((xs (x3 : Int32).toNatClampNeg) &&& 63 : Int32).toInt = 23 → vp_in (x3 + 1) Ln ∧ vp_in (x3 + 2) Ln ∧ Ct d M_X6_owed [.ref 0, .int (xs (x3 + 1 : Int32).toNatClampNeg), .int (xs (x3 + 2 : Int32).toNatClampNeg)] st (Qi fun v102 s101 => vp_in (x3 + 1) Ln ∧ vp_in (x3 + 2) Ln ∧ Ct d M_X7_owed [.ref 7, .int (xs (x3 + 1 : Int32).toNatClampNeg), .int (xs (x3 + 2 : Int32).toNatClampNeg)] s101 (Qi fun v104 s103 => ((v102 = v104 → X κ 18 [(0, .ref 9999), (1, .ref 0), (2, .ref 7), (3, .int (x3 + 6))] [] s103) ∧ (¬ v102 = v104 → False))))) ∧ (((xs (x3 : Int32).toNatClampNeg) &&& 63 : Int32).toInt = 24 → vp_in (x3 + 1) Ln ∧ vp_in (x3 + 2) Ln ∧ Ct d M_X6_told [.ref 0, .int (xs (x3 + 1 : Int32).toNatClampNeg), .int (xs (x3 + 2 : Int32).toNatClampNeg)] st (Qi fun v106 s105 => vp_in (x3 + 1) Ln ∧ vp_in (x3 + 2) Ln ∧ Ct d M_X7_told [.ref 7, .int (xs (x3 + 1 : Int32).toNatClampNeg), .int (xs (x3 + 2 : Int32).toNatClampNeg)] s105 (Qi fun v108 s107 => ((v106 = v108 → X κ 18 [(0, .ref 9999), (1, .ref 0), (2, .ref 7), (3, .int (x3 + 6))] [] s107) ∧ (¬ v106 = v108 → False))))) ∧ (((xs (x3 : Int32).toNatClampNeg) &&& 63 : Int32).toInt = 25 → Ct d M_X6_close [.ref 0] st (Qi fun v110 s109 => Ct d M_X7_close [.ref 7] s109 (Qi fun v112 s111 => ((v110 = v112 → X κ 18 [(0, .ref 9999), (1, .ref 0), (2, .ref 7), (3, .int (x3 + 6))] [] s111) ∧ (¬ v110 = v112 → False))))) ∧ (((xs (x3 : Int32).toNatClampNeg) &&& 63 : Int32).toInt = 26 → vp_in (x3 + 1) Ln ∧ Ct d M_X6_worth [.ref 0, .int (xs (x3 + 1 : Int32).toNatClampNeg)] st (Qi fun v114 s113 => vp_in (x3 + 1) Ln ∧ Ct d M_X7_worth [.ref 7, .int (xs (x3 + 1 : Int32).toNatClampNeg)] s113 (Qi fun v116 s115 => ((v114 = v116 → X κ 18 [(0, .ref 9999), (1, .ref 0), (2, .ref 7), (3, .int (x3 + 6))] [] s115) ∧ (¬ v114 = v116 → False))))) ∧ (((xs (x3 : Int32).toNatClampNeg) &&& 63 : Int32).toInt = 27 → vp_in (x3 + 1) Ln ∧ vp_in (x3 + 2) Ln ∧ vp_in (x3 + 3) Ln ∧ Ct d M_X6_list [.ref 0, .int (xs (x3 + 1 : Int32).toNatClampNeg), .int (xs (x3 + 2 : Int32).toNatClampNeg), .int (xs (x3 + 3 : Int32).toNatClampNeg)] st (Qi fun v118 s117 => vp_in (x3 + 1) Ln ∧ vp_in (x3 + 2) Ln ∧ vp_in (x3 + 3) Ln ∧ Ct d M_X7_list [.ref 7, .int (xs (x3 + 1 : Int32).toNatClampNeg), .int (xs (x3 + 2 : Int32).toNatClampNeg), .int (xs (x3 + 3 : Int32).toNatClampNeg)] s117 (Qi fun v120 s119 => ((v118 = v120 → X κ 18 [(0, .ref 9999), (1, .ref 0), (2, .ref 7), (3, .int (x3 + 6))] [] s119) ∧ (¬ v118 = v120 → False))))) ∧ (((xs (x3 : Int32).toNatClampNeg) &&& 63 : Int32).toInt = 28 → vp_in (x3 + 1) Ln ∧ vp_in (x3 + 2) Ln ∧ Ct d M_X6_word [.ref 0, .int (xs (x3 + 1 : Int32).toNatClampNeg), .int (xs (x3 + 2 : Int32).toNatClampNeg)] st (Qi fun v122 s121 => vp_in (x3 + 1) Ln ∧ vp_in (x3 + 2) Ln ∧ Ct d M_X7_word [.ref 7, .int (xs (x3 + 1 : Int32).toNatClampNeg), .int (xs (x3 + 2 : Int32).toNatClampNeg)] s121 (Qi fun v124 s123 => ((v122 = v124 → X κ 18 [(0, .ref 9999), (1, .ref 0), (2, .ref 7), (3, .int (x3 + 6))] [] s123) ∧ (¬ v122 = v124 → False))))) ∧ (((xs (x3 : Int32).toNatClampNeg) &&& 63 : Int32).toInt = 29 → vp_in (x3 + 1) Ln ∧ vp_in (x3 + 2) Ln ∧ Ct d M_X6_listIs [.ref 0, .int (xs (x3 + 1 : Int32).toNatClampNeg), .int (xs (x3 + 2 : Int32).toNatClampNeg)] st (Qi fun v126 s125 => vp_in (x3 + 1) Ln ∧ vp_in (x3 + 2) Ln ∧ Ct d M_X7_listIs [.ref 7, .int (xs (x3 + 1 : Int32).toNatClampNeg), .int (xs (x3 + 2 : Int32).toNatClampNeg)] s125 (Qi fun v128 s127 => ((v126 = v128 → X κ 18 [(0, .ref 9999), (1, .ref 0), (2, .ref 7), (3, .int (x3 + 6))] [] s127) ∧ (¬ v126 = v128 → False))))) ∧ (((xs (x3 : Int32).toNatClampNeg) &&& 63 : Int32).toInt = 30 → vp_in (x3 + 1) Ln ∧ vp_in (x3 + 2) Ln ∧ Ct d M_X6_changes [.ref 0, .int (xs (x3 + 1 : Int32).toNatClampNeg), .int (xs (x3 + 2 : Int32).toNatClampNeg)] st (Qi fun v130 s129 => vp_in (x3 + 1) Ln ∧ vp_in (x3 + 2) Ln ∧ Ct d M_X7_changes [.ref 7, .int (xs (x3 + 1 : Int32).toNatClampNeg), .int (xs (x3 + 2 : Int32).toNatClampNeg)] s129 (Qi fun v132 s131 => ((v130 = v132 → X κ 18 [(0, .ref 9999), (1, .ref 0), (2, .ref 7), (3, .int (x3 + 6))] [] s131) ∧ (¬ v130 = v132 → False))))) ∧ (((xs (x3 : Int32).toNatClampNeg) &&& 63 : Int32).toInt = 31 → vp_in (x3 + 1) Ln ∧ Ct d M_X6_mother [.ref 0, .int (xs (x3 + 1 : Int32).toNatClampNeg)] st (Qi fun v134 s133 => vp_in (x3 + 1) Ln ∧ Ct d M_X7_mother [.ref 7, .int (xs (x3 + 1 : Int32).toNatClampNeg)] s133 (Qi fun v136 s135 => ((v134 = v136 → X κ 18 [(0, .ref 9999), (1, .ref 0), (2, .ref 7), (3, .int (x3 + 6))] [] s135) ∧ (¬ v134 = v136 → False))))) ∧ (((xs (x3 : Int32).toNatClampNeg) &&& 63 : Int32).toInt = 32 → vp_in (x3 + 1) Ln ∧ Ct d M_X6_mothers [.ref 0, .int (xs (x3 + 1 : Int32).toNatClampNeg)] st (Qi fun v138 s137 => vp_in (x3 + 1) Ln ∧ Ct d M_X7_mothers [.ref 7, .int (xs (x3 + 1 : Int32).toNatClampNeg)] s137 (Qi fun v140 s139 => ((v138 = v140 → X κ 18 [(0, .ref 9999), (1, .ref 0), (2, .ref 7), (3, .int (x3 + 6))] [] s139) ∧ (¬ v138 = v140 → False))))) ∧ (((xs (x3 : Int32).toNatClampNeg) &&& 63 : Int32).toInt = 33 → vp_in (x3 + 1) Ln ∧ Ct d M_X6_strange [.ref 0, .int (xs (x3 + 1 : Int32).toNatClampNeg)] st (Qi fun v142 s141 => vp_in (x3 + 1) Ln ∧ Ct d M_X7_strange [.ref 7, .int (xs (x3 + 1 : Int32).toNatClampNeg)] s141 (Qi fun v144 s143 => ((v142 = v144 → X κ 18 [(0, .ref 9999), (1, .ref 0), (2, .ref 7), (3, .int (x3 + 6))] [] s143) ∧ (¬ v142 = v144 → False))))) ∧ (((xs (x3 : Int32).toNatClampNeg) &&& 63 : Int32).toInt = 34 → vp_in (x3 + 1) Ln ∧ Ct d M_X6_age [.ref 0, .int (xs (x3 + 1 : Int32).toNatClampNeg)] st (Qi fun v146 s145 => vp_in (x3 + 1) Ln ∧ Ct d M_X7_age [.ref 7, .int (xs (x3 + 1 : Int32).toNatClampNeg)] s145 (Qi fun v148 s147 => ((v146 = v148 → X κ 18 [(0, .ref 9999), (1, .ref 0), (2, .ref 7), (3, .int (x3 + 6))] [] s147) ∧ (¬ v146 = v148 → False))))) ∧ (((xs (x3 : Int32).toNatClampNeg) &&& 63 : Int32).toInt = 35 → vp_in (x3 + 1) Ln ∧ vp_in (x3 + 2) Ln ∧ Ct d M_X6_slips [.ref 0, .int (xs (x3 + 1 : Int32).toNatClampNeg), .int (xs (x3 + 2 : Int32).toNatClampNeg)] st (Qi fun v150 s149 => vp_in (x3 + 1) Ln ∧ vp_in (x3 + 2) Ln ∧ Ct d M_X7_slips [.ref 7, .int (xs (x3 + 1 : Int32).toNatClampNeg), .int (xs (x3 + 2 : Int32).toNatClampNeg)] s149 (Qi fun v152 s151 => ((v150 = v152 → X κ 18 [(0, .ref 9999), (1, .ref 0), (2, .ref 7), (3, .int (x3 + 6))] [] s151) ∧ (¬ v150 = v152 → False))))) ∧ (((xs (x3 : Int32).toNatClampNeg) &&& 63 : Int32).toInt = 36 → vp_in (x3 + 1) Ln ∧ vp_in (x3 + 2) Ln ∧ Ct d M_X6_readings [.ref 0, .int (xs (x3 + 1 : Int32).toNatClampNeg), .int (xs (x3 + 2 : Int32).toNatClampNeg)] st (Qi fun v154 s153 => vp_in (x3 + 1) Ln ∧ vp_in (x3 + 2) Ln ∧ Ct d M_X7_readings [.ref 7, .int (xs (x3 + 1 : Int32).toNatClampNeg), .int (xs (x3 + 2 : Int32).toNatClampNeg)] s153 (Qi fun v156 s155 => ((v154 = v156 → X κ 18 [(0, .ref 9999), (1, .ref 0), (2, .ref 7), (3, .int (x3 + 6))] [] s155) ∧ (¬ v154 = v156 → False))))) ∧ (((xs (x3 : Int32).toNatClampNeg) &&& 63 : Int32).toInt = 37 → vp_in (x3 + 1) Ln ∧ vp_in (x3 + 2) Ln ∧ vp_in (x3 + 3) Ln ∧ Ct d M_X6_reading [.ref 0, .int (xs (x3 + 1 : Int32).toNatClampNeg), .int (xs (x3 + 2 : Int32).toNatClampNeg), .int (xs (x3 + 3 : Int32).toNatClampNeg)] st (Qi fun v158 s157 => vp_in (x3 + 1) Ln ∧ vp_in (x3 + 2) Ln ∧ vp_in (x3 + 3) Ln ∧ Ct d M_X7_reading [.ref 7, .int (xs (x3 + 1 : Int32).toNatClampNeg), .int (xs (x3 + 2 : Int32).toNatClampNeg), .int (xs (x3 + 3 : Int32).toNatClampNeg)] s157 (Qi fun v160 s159 => ((v158 = v160 → X κ 18 [(0, .ref 9999), (1, .ref 0), (2, .ref 7), (3, .int (x3 + 6))] [] s159) ∧ (¬ v158 = v160 → False))))) ∧ (((xs (x3 : Int32).toNatClampNeg) &&& 63 : Int32).toInt = 38 → vp_in (x3 + 1) Ln ∧ vp_in (x3 + 2) Ln ∧ vp_in (x3 + 3) Ln ∧ vp_in (x3 + 4) Ln ∧ vp_in (x3 + 5) Ln ∧ Ct d M_X6_fits [.ref 0, .int (xs (x3 + 1 : Int32).toNatClampNeg), .int (xs (x3 + 2 : Int32).toNatClampNeg), .int (xs (x3 + 3 : Int32).toNatClampNeg), .int (xs (x3 + 4 : Int32).toNatClampNeg), .int (xs (x3 + 5 : Int32).toNatClampNeg)] st (Qi fun v162 s161 => vp_in (x3 + 1) Ln ∧ vp_in (x3 + 2) Ln ∧ vp_in (x3 + 3) Ln ∧ vp_in (x3 + 4) Ln ∧ vp_in (x3 + 5) Ln ∧ Ct d M_X7_fits [.ref 7, .int (xs (x3 + 1 : Int32).toNatClampNeg), .int (xs (x3 + 2 : Int32).toNatClampNeg), .int (xs (x3 + 3 : Int32).toNatClampNeg), .int (xs (x3 + 4 : Int32).toNatClampNeg), .int (xs (x3 + 5 : Int32).toNatClampNeg)] s161 (Qi fun v164 s163 => ((v162 = v164 → X κ 18 [(0, .ref 9999), (1, .ref 0), (2, .ref 7), (3, .int (x3 + 6))] [] s163) ∧ (¬ v162 = v164 → False))))) ∧ (((xs (x3 : Int32).toNatClampNeg) &&& 63 : Int32).toInt = 39 → vp_in (x3 + 1) Ln ∧ Ct d M_X6_type [.ref 0, .int (xs (x3 + 1 : Int32).toNatClampNeg)] st (Qi fun v166 s165 => vp_in (x3 + 1) Ln ∧ Ct d M_X7_type [.ref 7, .int (xs (x3 + 1 : Int32).toNatClampNeg)] s165 (Qi fun v168 s167 => ((v166 = v168 → X κ 18 [(0, .ref 9999), (1, .ref 0), (2, .ref 7), (3, .int (x3 + 6))] [] s167) ∧ (¬ v166 = v168 → False))))) ∧ (((xs (x3 : Int32).toNatClampNeg) &&& 63 : Int32).toInt = 40 → Ct d M_X6_hush [.ref 0] st (Qi fun v170 s169 => Ct d M_X7_hush [.ref 7] s169 (Qi fun v172 s171 => ((v170 = v172 → X κ 18 [(0, .ref 9999), (1, .ref 0), (2, .ref 7), (3, .int (x3 + 6))] [] s171) ∧ (¬ v170 = v172 → False))))) ∧ (((xs (x3 : Int32).toNatClampNeg) &&& 63 : Int32).toInt = 41 → Ct d M_X6_fault [.ref 0] st (Qi fun v174 s173 => Ct d M_X7_fault [.ref 7] s173 (Qi fun v176 s175 => ((v174 = v176 → X κ 18 [(0, .ref 9999), (1, .ref 0), (2, .ref 7), (3, .int (x3 + 6))] [] s175) ∧ (¬ v174 = v176 → False))))) ∧ (((xs (x3 : Int32).toNatClampNeg) &&& 63 : Int32).toInt = 42 → vp_in (x3 + 1) Ln ∧ Ct d M_X6_speech [.ref 0, .int (xs (x3 + 1 : Int32).toNatClampNeg)] st (Qi fun v178 s177 => vp_in (x3 + 1) Ln ∧ Ct d M_X7_speech [.ref 7, .int (xs (x3 + 1 : Int32).toNatClampNeg)] s177 (Qi fun v180 s179 => ((v178 = v180 → X κ 18 [(0, .ref 9999), (1, .ref 0), (2, .ref 7), (3, .int (x3 + 6))] [] s179) ∧ (¬ v178 = v180 → False))))) ∧ (((xs (x3 : Int32).toNatClampNeg) &&& 63 : Int32).toInt = 43 → vp_in (x3 + 1) Ln ∧ vp_in (x3 + 2) Ln ∧ vp_in (x3 + 3) Ln ∧ Ct d M_X6_sheet [.ref 0, .int (xs (x3 + 1 : Int32).toNatClampNeg), .int (xs (x3 + 2 : Int32).toNatClampNeg), .int (xs (x3 + 3 : Int32).toNatClampNeg)] st (Qi fun v182 s181 => vp_in (x3 + 1) Ln ∧ vp_in (x3 + 2) Ln ∧ vp_in (x3 + 3) Ln ∧ Ct d M_X7_sheet [.ref 7, .int (xs (x3 + 1 : Int32).toNatClampNeg), .int (xs (x3 + 2 : Int32).toNatClampNeg), .int (xs (x3 + 3 : Int32).toNatClampNeg)] s181 (Qi fun v184 s183 => ((v182 = v184 → X κ 18 [(0, .ref 9999), (1, .ref 0), (2, .ref 7), (3, .int (x3 + 6))] [] s183) ∧ (¬ v182 = v184 → False))))) ∧ (((xs (x3 : Int32).toNatClampNeg) &&& 63 : Int32).toInt = 44 → vp_in (x3 + 1) Ln ∧ Ct d M_X6_lose [.ref 0, .int (xs (x3 + 1 : Int32).toNatClampNeg)] st (Qi fun v186 s185 => vp_in (x3 + 1) Ln ∧ Ct d M_X7_lose [.ref 7, .int (xs (x3 + 1 : Int32).toNatClampNeg)] s185 (Qi fun v188 s187 => ((v186 = v188 → X κ 18 [(0, .ref 9999), (1, .ref 0), (2, .ref 7), (3, .int (x3 + 6))] [] s187) ∧ (¬ v186 = v188 → False))))) ∧ (((xs (x3 : Int32).toNatClampNeg) &&& 63 : Int32).toInt = 45 → vp_in (x3 + 1) Ln ∧ vp_in (x3 + 2) Ln ∧ vp_in (x3 + 3) Ln ∧ vp_in (x3 + 4) Ln ∧ Ct d M_X6_put [.ref 0, .int (xs (x3 + 1 : Int32).toNatClampNeg), .int (xs (x3 + 2 : Int32).toNatClampNeg), .int (xs (x3 + 3 : Int32).toNatClampNeg), .int (xs (x3 + 4 : Int32).toNatClampNeg)] st (Qi fun v190 s189 => vp_in (x3 + 1) Ln ∧ vp_in (x3 + 2) Ln ∧ vp_in (x3 + 3) Ln ∧ vp_in (x3 + 4) Ln ∧ Ct d M_X7_put [.ref 7, .int (xs (x3 + 1 : Int32).toNatClampNeg), .int (xs (x3 + 2 : Int32).toNatClampNeg), .int (xs (x3 + 3 : Int32).toNatClampNeg), .int (xs (x3 + 4 : Int32).toNatClampNeg)] s189 (Qi fun v192 s191 => ((v190 = v192 → X κ 18 [(0, .ref 9999), (1, .ref 0), (2, .ref 7), (3, .int (x3 + 6))] [] s191) ∧ (¬ v190 = v192 → False))))) ∧ (((xs (x3 : Int32).toNatClampNeg) &&& 63 : Int32).toInt = 46 → vp_in (x3 + 1) Ln ∧ vp_in (x3 + 2) Ln ∧ vp_in (x3 + 3) Ln ∧ Ct d M_X6_get [.ref 0, .int (xs (x3 + 1 : Int32).toNatClampNeg), .int (xs (x3 + 2 : Int32).toNatClampNeg), .int (xs (x3 + 3 : Int32).toNatClampNeg)] st (Qi fun v194 s193 => vp_in (x3 + 1) Ln ∧ vp_in (x3 + 2) Ln ∧ vp_in (x3 + 3) Ln ∧ Ct d M_X7_get [.ref 7, .int (xs (x3 + 1 : Int32).toNatClampNeg), .int (xs (x3 + 2 : Int32).toNatClampNeg), .int (xs (x3 + 3 : Int32).toNatClampNeg)] s193 (Qi fun v196 s195 => ((v194 = v196 → X κ 18 [(0, .ref 9999), (1, .ref 0), (2, .ref 7), (3, .int (x3 + 6))] [] s195) ∧ (¬ v194 = v196 → False))))) ∧ (((xs (x3 : Int32).toNatClampNeg) &&& 63 : Int32).toInt = 47 → vp_in (x3 + 1) Ln ∧ vp_in (x3 + 2) Ln ∧ vp_in (x3 + 3) Ln ∧ vp_in (x3 + 4) Ln ∧ vp_in (x3 + 5) Ln ∧ Ct d M_X6_copy [.ref 0, .int (xs (x3 + 1 : Int32).toNatClampNeg), .int (xs (x3 + 2 : Int32).toNatClampNeg), .int (xs (x3 + 3 : Int32).toNatClampNeg), .int (xs (x3 + 4 : Int32).toNatClampNeg), .int (xs (x3 + 5 : Int32).toNatClampNeg)] st (Qi fun v198 s197 => vp_in (x3 + 1) Ln ∧ vp_in (x3 + 2) Ln ∧ vp_in (x3 + 3) Ln ∧ vp_in (x3 + 4) Ln ∧ vp_in (x3 + 5) Ln ∧ Ct d M_X7_copy [.ref 7, .int (xs (x3 + 1 : Int32).toNatClampNeg), .int (xs (x3 + 2 : Int32).toNatClampNeg), .int (xs (x3 + 3 : Int32).toNatClampNeg), .int (xs (x3 + 4 : Int32).toNatClampNeg), .int (xs (x3 + 5 : Int32).toNatClampNeg)] s197 (Qi fun v200 s199 => ((v198 = v200 → X κ 18 [(0, .ref 9999), (1, .ref 0), (2, .ref 7), (3, .int (x3 + 6))] [] s199) ∧ (¬ v198 = v200 → False))))) ∧ (((xs (x3 : Int32).toNatClampNeg) &&& 63 : Int32).toInt = 48 → vp_in (x3 + 1) Ln ∧ vp_in (x3 + 2) Ln ∧ vp_in (x3 + 3) Ln ∧ vp_in (x3 + 4) Ln ∧ Ct d M_X6_write [.ref 0, .int (xs (x3 + 1 : Int32).toNatClampNeg), .int (xs (x3 + 2 : Int32).toNatClampNeg), .int (xs (x3 + 3 : Int32).toNatClampNeg), .int (xs (x3 + 4 : Int32).toNatClampNeg)] st (Qi fun v202 s201 => vp_in (x3 + 1) Ln ∧ vp_in (x3 + 2) Ln ∧ vp_in (x3 + 3) Ln ∧ vp_in (x3 + 4) Ln ∧ Ct d M_X7_write [.ref 7, .int (xs (x3 + 1 : Int32).toNatClampNeg), .int (xs (x3 + 2 : Int32).toNatClampNeg), .int (xs (x3 + 3 : Int32).toNatClampNeg), .int (xs (x3 + 4 : Int32).toNatClampNeg)] s201 (Qi fun v204 s203 => ((v202 = v204 → X κ 18 [(0, .ref 9999), (1, .ref 0), (2, .ref 7), (3, .int (x3 + 6))] [] s203) ∧ (¬ v202 = v204 → False))))) ∧ (((xs (x3 : Int32).toNatClampNeg) &&& 63 : Int32).toInt = 49 → vp_in (x3 + 1) Ln ∧ Ct d M_X6_count [.ref 0, .int (xs (x3 + 1 : Int32).toNatClampNeg)] st (Qi fun v206 s205 => vp_in (x3 + 1) Ln ∧ Ct d M_X7_count [.ref 7, .int (xs (x3 + 1 : Int32).toNatClampNeg)] s205 (Qi fun v208 s207 => ((v206 = v208 → X κ 18 [(0, .ref 9999), (1, .ref 0), (2, .ref 7), (3, .int (x3 + 6))] [] s207) ∧ (¬ v206 = v208 → False))))) ∧ (((xs (x3 : Int32).toNatClampNeg) &&& 63 : Int32).toInt = 50 → Ct d M_X6_digest [.ref 0] st (Ql fun v210 s209 => Ct d M_X7_digest [.ref 7] s209 (Ql fun v212 s211 => (((lg_cmp v210 v212) = 0 → X κ 18 [(0, .ref 9999), (1, .ref 0), (2, .ref 7), (3, .int (x3 + 6))] [] s211) ∧ (¬ (lg_cmp v210 v212) = 0 → False))))))))) : X κ 18 [(0, .ref 9999), (1, .ref 0), (2, .ref 7), (3, .int x3)] [] st := by
  refine X_iload_n C dL_law_18 rfl (j := 3) rfl ?_
  refine X_aload_n C dL_law_19 rfl (j := 0) rfl ?_
  refine X_slen C SC dL_law_20 ?_
  refine X_bipush C (v := 6) (by decide) dL_law_21 ?_
  refine X_isub C dL_law_23 ?_
  refine X_icmp_gt C dL_law_24 (tgt := 2018) (by decide) (fun c => ?_) (fun c => ?_)
  · replace h := h.1 c
    refine X_iconst C (v := 1) (by decide) dL_law_2018 ?_
    exact X_lawret C Z dL_law_2019
  · replace h := h.2 c
    refine X_aload_n C dL_law_27 rfl (j := 0) rfl ?_
    refine X_iload_n C dL_law_28 rfl (j := 3) rfl ?_
    obtain ⟨g, h⟩ := h
    refine X_sld C SC g dL_law_29 ?_
    refine X_bipush C (v := 63) (by decide) dL_law_30 ?_
    refine X_iand C dL_law_32 ?_
    have hc : (((xs (x3 : Int32).toNatClampNeg) &&& 63 : Int32).toInt < 0 ∨ 50 < ((xs (x3 : Int32).toNatClampNeg) &&& 63 : Int32).toInt) ∨ ((xs (x3 : Int32).toNatClampNeg) &&& 63 : Int32).toInt = 0 ∨ ((xs (x3 : Int32).toNatClampNeg) &&& 63 : Int32).toInt = 1 ∨ ((xs (x3 : Int32).toNatClampNeg) &&& 63 : Int32).toInt = 2 ∨ ((xs (x3 : Int32).toNatClampNeg) &&& 63 : Int32).toInt = 3 ∨ ((xs (x3 : Int32).toNatClampNeg) &&& 63 : Int32).toInt = 4 ∨ ((xs (x3 : Int32).toNatClampNeg) &&& 63 : Int32).toInt = 5 ∨ ((xs (x3 : Int32).toNatClampNeg) &&& 63 : Int32).toInt = 6 ∨ ((xs (x3 : Int32).toNatClampNeg) &&& 63 : Int32).toInt = 7 ∨ ((xs (x3 : Int32).toNatClampNeg) &&& 63 : Int32).toInt = 8 ∨ ((xs (x3 : Int32).toNatClampNeg) &&& 63 : Int32).toInt = 9 ∨ ((xs (x3 : Int32).toNatClampNeg) &&& 63 : Int32).toInt = 10 ∨ ((xs (x3 : Int32).toNatClampNeg) &&& 63 : Int32).toInt = 11 ∨ ((xs (x3 : Int32).toNatClampNeg) &&& 63 : Int32).toInt = 12 ∨ ((xs (x3 : Int32).toNatClampNeg) &&& 63 : Int32).toInt = 13 ∨ ((xs (x3 : Int32).toNatClampNeg) &&& 63 : Int32).toInt = 14 ∨ ((xs (x3 : Int32).toNatClampNeg) &&& 63 : Int32).toInt = 15 ∨ ((xs (x3 : Int32).toNatClampNeg) &&& 63 : Int32).toInt = 16 ∨ ((xs (x3 : Int32).toNatClampNeg) &&& 63 : Int32).toInt = 17 ∨ ((xs (x3 : Int32).toNatClampNeg) &&& 63 : Int32).toInt = 18 ∨ ((xs (x3 : Int32).toNatClampNeg) &&& 63 : Int32).toInt = 19 ∨ ((xs (x3 : Int32).toNatClampNeg) &&& 63 : Int32).toInt = 20 ∨ ((xs (x3 : Int32).toNatClampNeg) &&& 63 : Int32).toInt = 21 ∨ ((xs (x3 : Int32).toNatClampNeg) &&& 63 : Int32).toInt = 22 ∨ ((xs (x3 : Int32).toNatClampNeg) &&& 63 : Int32).toInt = 23 ∨ ((xs (x3 : Int32).toNatClampNeg) &&& 63 : Int32).toInt = 24 ∨ ((xs (x3 : Int32).toNatClampNeg) &&& 63 : Int32).toInt = 25 ∨ ((xs (x3 : Int32).toNatClampNeg) &&& 63 : Int32).toInt = 26 ∨ ((xs (x3 : Int32).toNatClampNeg) &&& 63 : Int32).toInt = 27 ∨ ((xs (x3 : Int32).toNatClampNeg) &&& 63 : Int32).toInt = 28 ∨ ((xs (x3 : Int32).toNatClampNeg) &&& 63 : Int32).toInt = 29 ∨ ((xs (x3 : Int32).toNatClampNeg) &&& 63 : Int32).toInt = 30 ∨ ((xs (x3 : Int32).toNatClampNeg) &&& 63 : Int32).toInt = 31 ∨ ((xs (x3 : Int32).toNatClampNeg) &&& 63 : Int32).toInt = 32 ∨ ((xs (x3 : Int32).toNatClampNeg) &&& 63 : Int32).toInt = 33 ∨ ((xs (x3 : Int32).toNatClampNeg) &&& 63 : Int32).toInt = 34 ∨ ((xs (x3 : Int32).toNatClampNeg) &&& 63 : Int32).toInt = 35 ∨ ((xs (x3 : Int32).toNatClampNeg) &&& 63 : Int32).toInt = 36 ∨ ((xs (x3 : Int32).toNatClampNeg) &&& 63 : Int32).toInt = 37 ∨ ((xs (x3 : Int32).toNatClampNeg) &&& 63 : Int32).toInt = 38 ∨ ((xs (x3 : Int32).toNatClampNeg) &&& 63 : Int32).toInt = 39 ∨ ((xs (x3 : Int32).toNatClampNeg) &&& 63 : Int32).toInt = 40 ∨ ((xs (x3 : Int32).toNatClampNeg) &&& 63 : Int32).toInt = 41 ∨ ((xs (x3 : Int32).toNatClampNeg) &&& 63 : Int32).toInt = 42 ∨ ((xs (x3 : Int32).toNatClampNeg) &&& 63 : Int32).toInt = 43 ∨ ((xs (x3 : Int32).toNatClampNeg) &&& 63 : Int32).toInt = 44 ∨ ((xs (x3 : Int32).toNatClampNeg) &&& 63 : Int32).toInt = 45 ∨ ((xs (x3 : Int32).toNatClampNeg) &&& 63 : Int32).toInt = 46 ∨ ((xs (x3 : Int32).toNatClampNeg) &&& 63 : Int32).toInt = 47 ∨ ((xs (x3 : Int32).toNatClampNeg) &&& 63 : Int32).toInt = 48 ∨ ((xs (x3 : Int32).toNatClampNeg) &&& 63 : Int32).toInt = 49 ∨ ((xs (x3 : Int32).toNatClampNeg) &&& 63 : Int32).toInt = 50 := by omega
    rcases hc with c | c | c | c | c | c | c | c | c | c | c | c | c | c | c | c | c | c | c | c | c | c | c | c | c | c | c | c | c | c | c | c | c | c | c | c | c | c | c | c | c | c | c | c | c | c | c | c | c | c | c | c
    · replace h := h.1 c
      refine X_tableOut C dL_law_33 c (tgt := 2012) (by decide) ?_
      refine X_iinc C dL_law_2012 (j := 3) rfl (v := x3 + 6) rfl (by decide) (L' := [(3, .int (x3 + 6)), (0, .ref 9999), (1, .ref 0), (2, .ref 7)]) rfl ?_
      refine X_goto C dL_law_2015 (tgt := 18) (by decide) ?_
      refine X_loc [1, 2, 3, 0] rfl ?_
      exact h
    · replace h := h.2.1 c
      refine X_tableIn C dL_law_33 (by omega) (by omega) (off := 219) (by rw [c]; rfl) (tgt := 252) (by decide) ?_
      refine X_aload_n C dL_law_252 rfl (j := 1) rfl ?_
      refine X_aload_n C dL_law_253 rfl (j := 0) rfl ?_
      refine X_iload_n C dL_law_254 rfl (j := 3) rfl ?_
      refine X_iconst C (v := 1) (by decide) dL_law_255 ?_
      refine X_iadd C dL_law_256 ?_
      obtain ⟨g, h⟩ := h
      refine X_sld C SC g dL_law_257 ?_
      refine X_aload_n C dL_law_258 rfl (j := 0) rfl ?_
      refine X_iload_n C dL_law_259 rfl (j := 3) rfl ?_
      refine X_iconst C (v := 2) (by decide) dL_law_260 ?_
      refine X_iadd C dL_law_261 ?_
      obtain ⟨g, h⟩ := h
      refine X_sld C SC g dL_law_262 ?_
      refine X_aload_n C dL_law_263 rfl (j := 0) rfl ?_
      refine X_iload_n C dL_law_264 rfl (j := 3) rfl ?_
      refine X_iconst C (v := 3) (by decide) dL_law_265 ?_
      refine X_iadd C dL_law_266 ?_
      obtain ⟨g, h⟩ := h
      refine X_sld C SC g dL_law_267 ?_
      refine X_if_eq C dL_law_268 (tgt := 275) (by decide) (fun c => ?_) (fun c => ?_)
      · replace h := h.1 c
        refine X_iconst C (v := 0) (by decide) dL_law_275 ?_
        refine X_callV C dL_law_276 pw_RL_13 (b := 0) (as := [.int (xs (x3 + 1 : Int32).toNatClampNeg), .int (xs (x3 + 2 : Int32).toNatClampNeg), .int 0]) (S := []) sh_0 rfl rfl rfl (Nat.le_of_ble_eq_true rfl) (Ct_mono h ?_)
        rintro _ s1 ⟨v2, rfl, h⟩
        show X κ 279 [(0, .ref 9999), (1, .ref 0), (2, .ref 7), (3, .int x3)] [.int v2] s1
        refine X_aload_n C dL_law_279 rfl (j := 2) rfl ?_
        refine X_aload_n C dL_law_280 rfl (j := 0) rfl ?_
        refine X_iload_n C dL_law_281 rfl (j := 3) rfl ?_
        refine X_iconst C (v := 1) (by decide) dL_law_282 ?_
        refine X_iadd C dL_law_283 ?_
        obtain ⟨g, h⟩ := h
        refine X_sld C SC g dL_law_284 ?_
        refine X_aload_n C dL_law_285 rfl (j := 0) rfl ?_
        refine X_iload_n C dL_law_286 rfl (j := 3) rfl ?_
        refine X_iconst C (v := 2) (by decide) dL_law_287 ?_
        refine X_iadd C dL_law_288 ?_
        obtain ⟨g, h⟩ := h
        refine X_sld C SC g dL_law_289 ?_
        refine X_aload_n C dL_law_290 rfl (j := 0) rfl ?_
        refine X_iload_n C dL_law_291 rfl (j := 3) rfl ?_
        refine X_iconst C (v := 3) (by decide) dL_law_292 ?_
        refine X_iadd C dL_law_293 ?_
        obtain ⟨g, h⟩ := h
        refine X_sld C SC g dL_law_294 ?_
        refine X_if_eq C dL_law_295 (tgt := 302) (by decide) (fun c => ?_) (fun c => ?_)
        · replace h := h.1 c
          refine X_iconst C (v := 0) (by decide) dL_law_302 ?_
          refine X_callV C dL_law_303 pw_RL_17 (b := 7) (as := [.int (xs (x3 + 1 : Int32).toNatClampNeg), .int (xs (x3 + 2 : Int32).toNatClampNeg), .int 0]) (S := [.int v2]) sh_7 rfl rfl rfl (Nat.le_of_ble_eq_true rfl) (Ct_mono h ?_)
          rintro _ s3 ⟨v4, rfl, h⟩
          show X κ 306 [(0, .ref 9999), (1, .ref 0), (2, .ref 7), (3, .int x3)] [.int v4, .int v2] s3
          refine X_icmp_eq C dL_law_306 (tgt := 2012) (by decide) (fun c => ?_) (fun c => ?_)
          · replace h := h.1 c
            refine X_iinc C dL_law_2012 (j := 3) rfl (v := x3 + 6) rfl (by decide) (L' := [(3, .int (x3 + 6)), (0, .ref 9999), (1, .ref 0), (2, .ref 7)]) rfl ?_
            refine X_goto C dL_law_2015 (tgt := 18) (by decide) ?_
            refine X_loc [1, 2, 3, 0] rfl ?_
            exact h
          · replace h := h.2 c
            refine X_iconst C (v := 0) (by decide) dL_law_309 ?_
            exact h.elim
        · replace h := h.2 c
          refine X_iconst C (v := 1) (by decide) dL_law_298 ?_
          refine X_goto C dL_law_299 (tgt := 303) (by decide) ?_
          refine X_callV C dL_law_303 pw_RL_17 (b := 7) (as := [.int (xs (x3 + 1 : Int32).toNatClampNeg), .int (xs (x3 + 2 : Int32).toNatClampNeg), .int 1]) (S := [.int v2]) sh_7 rfl rfl rfl (Nat.le_of_ble_eq_true rfl) (Ct_mono h ?_)
          rintro _ s5 ⟨v6, rfl, h⟩
          show X κ 306 [(0, .ref 9999), (1, .ref 0), (2, .ref 7), (3, .int x3)] [.int v6, .int v2] s5
          refine X_icmp_eq C dL_law_306 (tgt := 2012) (by decide) (fun c => ?_) (fun c => ?_)
          · replace h := h.1 c
            refine X_iinc C dL_law_2012 (j := 3) rfl (v := x3 + 6) rfl (by decide) (L' := [(3, .int (x3 + 6)), (0, .ref 9999), (1, .ref 0), (2, .ref 7)]) rfl ?_
            refine X_goto C dL_law_2015 (tgt := 18) (by decide) ?_
            refine X_loc [1, 2, 3, 0] rfl ?_
            exact h
          · replace h := h.2 c
            refine X_iconst C (v := 0) (by decide) dL_law_309 ?_
            exact h.elim
      · replace h := h.2 c
        refine X_iconst C (v := 1) (by decide) dL_law_271 ?_
        refine X_goto C dL_law_272 (tgt := 276) (by decide) ?_
        refine X_callV C dL_law_276 pw_RL_13 (b := 0) (as := [.int (xs (x3 + 1 : Int32).toNatClampNeg), .int (xs (x3 + 2 : Int32).toNatClampNeg), .int 1]) (S := []) sh_0 rfl rfl rfl (Nat.le_of_ble_eq_true rfl) (Ct_mono h ?_)
        rintro _ s7 ⟨v8, rfl, h⟩
        show X κ 279 [(0, .ref 9999), (1, .ref 0), (2, .ref 7), (3, .int x3)] [.int v8] s7
        refine X_aload_n C dL_law_279 rfl (j := 2) rfl ?_
        refine X_aload_n C dL_law_280 rfl (j := 0) rfl ?_
        refine X_iload_n C dL_law_281 rfl (j := 3) rfl ?_
        refine X_iconst C (v := 1) (by decide) dL_law_282 ?_
        refine X_iadd C dL_law_283 ?_
        obtain ⟨g, h⟩ := h
        refine X_sld C SC g dL_law_284 ?_
        refine X_aload_n C dL_law_285 rfl (j := 0) rfl ?_
        refine X_iload_n C dL_law_286 rfl (j := 3) rfl ?_
        refine X_iconst C (v := 2) (by decide) dL_law_287 ?_
        refine X_iadd C dL_law_288 ?_
        obtain ⟨g, h⟩ := h
        refine X_sld C SC g dL_law_289 ?_
        refine X_aload_n C dL_law_290 rfl (j := 0) rfl ?_
        refine X_iload_n C dL_law_291 rfl (j := 3) rfl ?_
        refine X_iconst C (v := 3) (by decide) dL_law_292 ?_
        refine X_iadd C dL_law_293 ?_
        obtain ⟨g, h⟩ := h
        refine X_sld C SC g dL_law_294 ?_
        refine X_if_eq C dL_law_295 (tgt := 302) (by decide) (fun c => ?_) (fun c => ?_)
        · replace h := h.1 c
          refine X_iconst C (v := 0) (by decide) dL_law_302 ?_
          refine X_callV C dL_law_303 pw_RL_17 (b := 7) (as := [.int (xs (x3 + 1 : Int32).toNatClampNeg), .int (xs (x3 + 2 : Int32).toNatClampNeg), .int 0]) (S := [.int v8]) sh_7 rfl rfl rfl (Nat.le_of_ble_eq_true rfl) (Ct_mono h ?_)
          rintro _ s9 ⟨v10, rfl, h⟩
          show X κ 306 [(0, .ref 9999), (1, .ref 0), (2, .ref 7), (3, .int x3)] [.int v10, .int v8] s9
          refine X_icmp_eq C dL_law_306 (tgt := 2012) (by decide) (fun c => ?_) (fun c => ?_)
          · replace h := h.1 c
            refine X_iinc C dL_law_2012 (j := 3) rfl (v := x3 + 6) rfl (by decide) (L' := [(3, .int (x3 + 6)), (0, .ref 9999), (1, .ref 0), (2, .ref 7)]) rfl ?_
            refine X_goto C dL_law_2015 (tgt := 18) (by decide) ?_
            refine X_loc [1, 2, 3, 0] rfl ?_
            exact h
          · replace h := h.2 c
            refine X_iconst C (v := 0) (by decide) dL_law_309 ?_
            exact h.elim
        · replace h := h.2 c
          refine X_iconst C (v := 1) (by decide) dL_law_298 ?_
          refine X_goto C dL_law_299 (tgt := 303) (by decide) ?_
          refine X_callV C dL_law_303 pw_RL_17 (b := 7) (as := [.int (xs (x3 + 1 : Int32).toNatClampNeg), .int (xs (x3 + 2 : Int32).toNatClampNeg), .int 1]) (S := [.int v8]) sh_7 rfl rfl rfl (Nat.le_of_ble_eq_true rfl) (Ct_mono h ?_)
          rintro _ s11 ⟨v12, rfl, h⟩
          show X κ 306 [(0, .ref 9999), (1, .ref 0), (2, .ref 7), (3, .int x3)] [.int v12, .int v8] s11
          refine X_icmp_eq C dL_law_306 (tgt := 2012) (by decide) (fun c => ?_) (fun c => ?_)
          · replace h := h.1 c
            refine X_iinc C dL_law_2012 (j := 3) rfl (v := x3 + 6) rfl (by decide) (L' := [(3, .int (x3 + 6)), (0, .ref 9999), (1, .ref 0), (2, .ref 7)]) rfl ?_
            refine X_goto C dL_law_2015 (tgt := 18) (by decide) ?_
            refine X_loc [1, 2, 3, 0] rfl ?_
            exact h
          · replace h := h.2 c
            refine X_iconst C (v := 0) (by decide) dL_law_309 ?_
            exact h.elim
    · replace h := h.2.2.1 c
      refine X_tableIn C dL_law_33 (by omega) (by omega) (off := 278) (by rw [c]; rfl) (tgt := 311) (by decide) ?_
      refine X_aload_n C dL_law_311 rfl (j := 1) rfl ?_
      refine X_aload_n C dL_law_312 rfl (j := 0) rfl ?_
      refine X_iload_n C dL_law_313 rfl (j := 3) rfl ?_
      refine X_iconst C (v := 1) (by decide) dL_law_314 ?_
      refine X_iadd C dL_law_315 ?_
      obtain ⟨g, h⟩ := h
      refine X_sld C SC g dL_law_316 ?_
      refine X_aload_n C dL_law_317 rfl (j := 0) rfl ?_
      refine X_iload_n C dL_law_318 rfl (j := 3) rfl ?_
      refine X_iconst C (v := 2) (by decide) dL_law_319 ?_
      refine X_iadd C dL_law_320 ?_
      obtain ⟨g, h⟩ := h
      refine X_sld C SC g dL_law_321 ?_
      refine X_callV C dL_law_322 pw_RL_18 (b := 0) (as := [.int (xs (x3 + 1 : Int32).toNatClampNeg), .int (xs (x3 + 2 : Int32).toNatClampNeg)]) (S := []) sh_0 rfl rfl rfl (Nat.le_of_ble_eq_true rfl) (Ct_mono h ?_)
      rintro _ s13 ⟨v14, rfl, h⟩
      show X κ 325 [(0, .ref 9999), (1, .ref 0), (2, .ref 7), (3, .int x3)] [.int v14] s13
      refine X_aload_n C dL_law_325 rfl (j := 2) rfl ?_
      refine X_aload_n C dL_law_326 rfl (j := 0) rfl ?_
      refine X_iload_n C dL_law_327 rfl (j := 3) rfl ?_
      refine X_iconst C (v := 1) (by decide) dL_law_328 ?_
      refine X_iadd C dL_law_329 ?_
      obtain ⟨g, h⟩ := h
      refine X_sld C SC g dL_law_330 ?_
      refine X_aload_n C dL_law_331 rfl (j := 0) rfl ?_
      refine X_iload_n C dL_law_332 rfl (j := 3) rfl ?_
      refine X_iconst C (v := 2) (by decide) dL_law_333 ?_
      refine X_iadd C dL_law_334 ?_
      obtain ⟨g, h⟩ := h
      refine X_sld C SC g dL_law_335 ?_
      refine X_callV C dL_law_336 pw_RL_22 (b := 7) (as := [.int (xs (x3 + 1 : Int32).toNatClampNeg), .int (xs (x3 + 2 : Int32).toNatClampNeg)]) (S := [.int v14]) sh_7 rfl rfl rfl (Nat.le_of_ble_eq_true rfl) (Ct_mono h ?_)
      rintro _ s15 ⟨v16, rfl, h⟩
      show X κ 339 [(0, .ref 9999), (1, .ref 0), (2, .ref 7), (3, .int x3)] [.int v16, .int v14] s15
      refine X_icmp_eq C dL_law_339 (tgt := 2012) (by decide) (fun c => ?_) (fun c => ?_)
      · replace h := h.1 c
        refine X_iinc C dL_law_2012 (j := 3) rfl (v := x3 + 6) rfl (by decide) (L' := [(3, .int (x3 + 6)), (0, .ref 9999), (1, .ref 0), (2, .ref 7)]) rfl ?_
        refine X_goto C dL_law_2015 (tgt := 18) (by decide) ?_
        refine X_loc [1, 2, 3, 0] rfl ?_
        exact h
      · replace h := h.2 c
        refine X_iconst C (v := 0) (by decide) dL_law_342 ?_
        exact h.elim
    · replace h := h.2.2.2.1 c
      refine X_tableIn C dL_law_33 (by omega) (by omega) (off := 311) (by rw [c]; rfl) (tgt := 344) (by decide) ?_
      refine X_aload_n C dL_law_344 rfl (j := 1) rfl ?_
      refine X_aload_n C dL_law_345 rfl (j := 0) rfl ?_
      refine X_iload_n C dL_law_346 rfl (j := 3) rfl ?_
      refine X_iconst C (v := 1) (by decide) dL_law_347 ?_
      refine X_iadd C dL_law_348 ?_
      obtain ⟨g, h⟩ := h
      refine X_sld C SC g dL_law_349 ?_
      refine X_aload_n C dL_law_350 rfl (j := 0) rfl ?_
      refine X_iload_n C dL_law_351 rfl (j := 3) rfl ?_
      refine X_iconst C (v := 2) (by decide) dL_law_352 ?_
      refine X_iadd C dL_law_353 ?_
      obtain ⟨g, h⟩ := h
      refine X_sld C SC g dL_law_354 ?_
      refine X_callV C dL_law_355 pw_RL_23 (b := 0) (as := [.int (xs (x3 + 1 : Int32).toNatClampNeg), .int (xs (x3 + 2 : Int32).toNatClampNeg)]) (S := []) sh_0 rfl rfl rfl (Nat.le_of_ble_eq_true rfl) (Ct_mono h ?_)
      rintro _ s17 ⟨v18, rfl, h⟩
      show X κ 358 [(0, .ref 9999), (1, .ref 0), (2, .ref 7), (3, .int x3)] [.int v18] s17
      refine X_aload_n C dL_law_358 rfl (j := 2) rfl ?_
      refine X_aload_n C dL_law_359 rfl (j := 0) rfl ?_
      refine X_iload_n C dL_law_360 rfl (j := 3) rfl ?_
      refine X_iconst C (v := 1) (by decide) dL_law_361 ?_
      refine X_iadd C dL_law_362 ?_
      obtain ⟨g, h⟩ := h
      refine X_sld C SC g dL_law_363 ?_
      refine X_aload_n C dL_law_364 rfl (j := 0) rfl ?_
      refine X_iload_n C dL_law_365 rfl (j := 3) rfl ?_
      refine X_iconst C (v := 2) (by decide) dL_law_366 ?_
      refine X_iadd C dL_law_367 ?_
      obtain ⟨g, h⟩ := h
      refine X_sld C SC g dL_law_368 ?_
      refine X_callV C dL_law_369 pw_RL_26 (b := 7) (as := [.int (xs (x3 + 1 : Int32).toNatClampNeg), .int (xs (x3 + 2 : Int32).toNatClampNeg)]) (S := [.int v18]) sh_7 rfl rfl rfl (Nat.le_of_ble_eq_true rfl) (Ct_mono h ?_)
      rintro _ s19 ⟨v20, rfl, h⟩
      show X κ 372 [(0, .ref 9999), (1, .ref 0), (2, .ref 7), (3, .int x3)] [.int v20, .int v18] s19
      refine X_icmp_eq C dL_law_372 (tgt := 2012) (by decide) (fun c => ?_) (fun c => ?_)
      · replace h := h.1 c
        refine X_iinc C dL_law_2012 (j := 3) rfl (v := x3 + 6) rfl (by decide) (L' := [(3, .int (x3 + 6)), (0, .ref 9999), (1, .ref 0), (2, .ref 7)]) rfl ?_
        refine X_goto C dL_law_2015 (tgt := 18) (by decide) ?_
        refine X_loc [1, 2, 3, 0] rfl ?_
        exact h
      · replace h := h.2 c
        refine X_iconst C (v := 0) (by decide) dL_law_375 ?_
        exact h.elim
    · replace h := h.2.2.2.2.1 c
      refine X_tableIn C dL_law_33 (by omega) (by omega) (off := 344) (by rw [c]; rfl) (tgt := 377) (by decide) ?_
      refine X_aload_n C dL_law_377 rfl (j := 1) rfl ?_
      refine X_aload_n C dL_law_378 rfl (j := 0) rfl ?_
      refine X_iload_n C dL_law_379 rfl (j := 3) rfl ?_
      refine X_iconst C (v := 1) (by decide) dL_law_380 ?_
      refine X_iadd C dL_law_381 ?_
      obtain ⟨g, h⟩ := h
      refine X_sld C SC g dL_law_382 ?_
      refine X_aload_n C dL_law_383 rfl (j := 0) rfl ?_
      refine X_iload_n C dL_law_384 rfl (j := 3) rfl ?_
      refine X_iconst C (v := 2) (by decide) dL_law_385 ?_
      refine X_iadd C dL_law_386 ?_
      obtain ⟨g, h⟩ := h
      refine X_sld C SC g dL_law_387 ?_
      refine X_aload_n C dL_law_388 rfl (j := 0) rfl ?_
      refine X_iload_n C dL_law_389 rfl (j := 3) rfl ?_
      refine X_iconst C (v := 3) (by decide) dL_law_390 ?_
      refine X_iadd C dL_law_391 ?_
      obtain ⟨g, h⟩ := h
      refine X_sld C SC g dL_law_392 ?_
      refine X_callV C dL_law_393 pw_RL_27 (b := 0) (as := [.int (xs (x3 + 1 : Int32).toNatClampNeg), .int (xs (x3 + 2 : Int32).toNatClampNeg), .int (xs (x3 + 3 : Int32).toNatClampNeg)]) (S := []) sh_0 rfl rfl rfl (Nat.le_of_ble_eq_true rfl) (Ct_mono h ?_)
      rintro _ s21 ⟨v22, rfl, h⟩
      show X κ 396 [(0, .ref 9999), (1, .ref 0), (2, .ref 7), (3, .int x3)] [.int v22] s21
      refine X_aload_n C dL_law_396 rfl (j := 2) rfl ?_
      refine X_aload_n C dL_law_397 rfl (j := 0) rfl ?_
      refine X_iload_n C dL_law_398 rfl (j := 3) rfl ?_
      refine X_iconst C (v := 1) (by decide) dL_law_399 ?_
      refine X_iadd C dL_law_400 ?_
      obtain ⟨g, h⟩ := h
      refine X_sld C SC g dL_law_401 ?_
      refine X_aload_n C dL_law_402 rfl (j := 0) rfl ?_
      refine X_iload_n C dL_law_403 rfl (j := 3) rfl ?_
      refine X_iconst C (v := 2) (by decide) dL_law_404 ?_
      refine X_iadd C dL_law_405 ?_
      obtain ⟨g, h⟩ := h
      refine X_sld C SC g dL_law_406 ?_
      refine X_aload_n C dL_law_407 rfl (j := 0) rfl ?_
      refine X_iload_n C dL_law_408 rfl (j := 3) rfl ?_
      refine X_iconst C (v := 3) (by decide) dL_law_409 ?_
      refine X_iadd C dL_law_410 ?_
      obtain ⟨g, h⟩ := h
      refine X_sld C SC g dL_law_411 ?_
      refine X_callV C dL_law_412 pw_RL_31 (b := 7) (as := [.int (xs (x3 + 1 : Int32).toNatClampNeg), .int (xs (x3 + 2 : Int32).toNatClampNeg), .int (xs (x3 + 3 : Int32).toNatClampNeg)]) (S := [.int v22]) sh_7 rfl rfl rfl (Nat.le_of_ble_eq_true rfl) (Ct_mono h ?_)
      rintro _ s23 ⟨v24, rfl, h⟩
      show X κ 415 [(0, .ref 9999), (1, .ref 0), (2, .ref 7), (3, .int x3)] [.int v24, .int v22] s23
      refine X_icmp_eq C dL_law_415 (tgt := 2012) (by decide) (fun c => ?_) (fun c => ?_)
      · replace h := h.1 c
        refine X_iinc C dL_law_2012 (j := 3) rfl (v := x3 + 6) rfl (by decide) (L' := [(3, .int (x3 + 6)), (0, .ref 9999), (1, .ref 0), (2, .ref 7)]) rfl ?_
        refine X_goto C dL_law_2015 (tgt := 18) (by decide) ?_
        refine X_loc [1, 2, 3, 0] rfl ?_
        exact h
      · replace h := h.2 c
        refine X_iconst C (v := 0) (by decide) dL_law_418 ?_
        exact h.elim
    · replace h := h.2.2.2.2.2.1 c
      refine X_tableIn C dL_law_33 (by omega) (by omega) (off := 387) (by rw [c]; rfl) (tgt := 420) (by decide) ?_
      refine X_aload_n C dL_law_420 rfl (j := 1) rfl ?_
      refine X_aload_n C dL_law_421 rfl (j := 0) rfl ?_
      refine X_iload_n C dL_law_422 rfl (j := 3) rfl ?_
      refine X_iconst C (v := 1) (by decide) dL_law_423 ?_
      refine X_iadd C dL_law_424 ?_
      obtain ⟨g, h⟩ := h
      refine X_sld C SC g dL_law_425 ?_
      refine X_aload_n C dL_law_426 rfl (j := 0) rfl ?_
      refine X_iload_n C dL_law_427 rfl (j := 3) rfl ?_
      refine X_iconst C (v := 2) (by decide) dL_law_428 ?_
      refine X_iadd C dL_law_429 ?_
      obtain ⟨g, h⟩ := h
      refine X_sld C SC g dL_law_430 ?_
      refine X_aload_n C dL_law_431 rfl (j := 0) rfl ?_
      refine X_iload_n C dL_law_432 rfl (j := 3) rfl ?_
      refine X_iconst C (v := 3) (by decide) dL_law_433 ?_
      refine X_iadd C dL_law_434 ?_
      obtain ⟨g, h⟩ := h
      refine X_sld C SC g dL_law_435 ?_
      refine X_callV C dL_law_436 pw_RL_32 (b := 0) (as := [.int (xs (x3 + 1 : Int32).toNatClampNeg), .int (xs (x3 + 2 : Int32).toNatClampNeg), .int (xs (x3 + 3 : Int32).toNatClampNeg)]) (S := []) sh_0 rfl rfl rfl (Nat.le_of_ble_eq_true rfl) (Ct_mono h ?_)
      rintro _ s25 ⟨v26, rfl, h⟩
      show X κ 439 [(0, .ref 9999), (1, .ref 0), (2, .ref 7), (3, .int x3)] [.int v26] s25
      refine X_aload_n C dL_law_439 rfl (j := 2) rfl ?_
      refine X_aload_n C dL_law_440 rfl (j := 0) rfl ?_
      refine X_iload_n C dL_law_441 rfl (j := 3) rfl ?_
      refine X_iconst C (v := 1) (by decide) dL_law_442 ?_
      refine X_iadd C dL_law_443 ?_
      obtain ⟨g, h⟩ := h
      refine X_sld C SC g dL_law_444 ?_
      refine X_aload_n C dL_law_445 rfl (j := 0) rfl ?_
      refine X_iload_n C dL_law_446 rfl (j := 3) rfl ?_
      refine X_iconst C (v := 2) (by decide) dL_law_447 ?_
      refine X_iadd C dL_law_448 ?_
      obtain ⟨g, h⟩ := h
      refine X_sld C SC g dL_law_449 ?_
      refine X_aload_n C dL_law_450 rfl (j := 0) rfl ?_
      refine X_iload_n C dL_law_451 rfl (j := 3) rfl ?_
      refine X_iconst C (v := 3) (by decide) dL_law_452 ?_
      refine X_iadd C dL_law_453 ?_
      obtain ⟨g, h⟩ := h
      refine X_sld C SC g dL_law_454 ?_
      refine X_callV C dL_law_455 pw_RL_35 (b := 7) (as := [.int (xs (x3 + 1 : Int32).toNatClampNeg), .int (xs (x3 + 2 : Int32).toNatClampNeg), .int (xs (x3 + 3 : Int32).toNatClampNeg)]) (S := [.int v26]) sh_7 rfl rfl rfl (Nat.le_of_ble_eq_true rfl) (Ct_mono h ?_)
      rintro _ s27 ⟨v28, rfl, h⟩
      show X κ 458 [(0, .ref 9999), (1, .ref 0), (2, .ref 7), (3, .int x3)] [.int v28, .int v26] s27
      refine X_icmp_eq C dL_law_458 (tgt := 2012) (by decide) (fun c => ?_) (fun c => ?_)
      · replace h := h.1 c
        refine X_iinc C dL_law_2012 (j := 3) rfl (v := x3 + 6) rfl (by decide) (L' := [(3, .int (x3 + 6)), (0, .ref 9999), (1, .ref 0), (2, .ref 7)]) rfl ?_
        refine X_goto C dL_law_2015 (tgt := 18) (by decide) ?_
        refine X_loc [1, 2, 3, 0] rfl ?_
        exact h
      · replace h := h.2 c
        refine X_iconst C (v := 0) (by decide) dL_law_461 ?_
        exact h.elim
    · replace h := h.2.2.2.2.2.2.1 c
      refine X_tableIn C dL_law_33 (by omega) (by omega) (off := 430) (by rw [c]; rfl) (tgt := 463) (by decide) ?_
      refine X_aload_n C dL_law_463 rfl (j := 1) rfl ?_
      refine X_aload_n C dL_law_464 rfl (j := 0) rfl ?_
      refine X_iload_n C dL_law_465 rfl (j := 3) rfl ?_
      refine X_iconst C (v := 1) (by decide) dL_law_466 ?_
      refine X_iadd C dL_law_467 ?_
      obtain ⟨g, h⟩ := h
      refine X_sld C SC g dL_law_468 ?_
      refine X_aload_n C dL_law_469 rfl (j := 0) rfl ?_
      refine X_iload_n C dL_law_470 rfl (j := 3) rfl ?_
      refine X_iconst C (v := 2) (by decide) dL_law_471 ?_
      refine X_iadd C dL_law_472 ?_
      obtain ⟨g, h⟩ := h
      refine X_sld C SC g dL_law_473 ?_
      refine X_aload_n C dL_law_474 rfl (j := 0) rfl ?_
      refine X_iload_n C dL_law_475 rfl (j := 3) rfl ?_
      refine X_iconst C (v := 3) (by decide) dL_law_476 ?_
      refine X_iadd C dL_law_477 ?_
      obtain ⟨g, h⟩ := h
      refine X_sld C SC g dL_law_478 ?_
      refine X_callV C dL_law_479 pw_RL_36 (b := 0) (as := [.int (xs (x3 + 1 : Int32).toNatClampNeg), .int (xs (x3 + 2 : Int32).toNatClampNeg), .int (xs (x3 + 3 : Int32).toNatClampNeg)]) (S := []) sh_0 rfl rfl rfl (Nat.le_of_ble_eq_true rfl) (Ct_mono h ?_)
      rintro _ s29 ⟨v30, rfl, h⟩
      show X κ 482 [(0, .ref 9999), (1, .ref 0), (2, .ref 7), (3, .int x3)] [.int v30] s29
      refine X_aload_n C dL_law_482 rfl (j := 2) rfl ?_
      refine X_aload_n C dL_law_483 rfl (j := 0) rfl ?_
      refine X_iload_n C dL_law_484 rfl (j := 3) rfl ?_
      refine X_iconst C (v := 1) (by decide) dL_law_485 ?_
      refine X_iadd C dL_law_486 ?_
      obtain ⟨g, h⟩ := h
      refine X_sld C SC g dL_law_487 ?_
      refine X_aload_n C dL_law_488 rfl (j := 0) rfl ?_
      refine X_iload_n C dL_law_489 rfl (j := 3) rfl ?_
      refine X_iconst C (v := 2) (by decide) dL_law_490 ?_
      refine X_iadd C dL_law_491 ?_
      obtain ⟨g, h⟩ := h
      refine X_sld C SC g dL_law_492 ?_
      refine X_aload_n C dL_law_493 rfl (j := 0) rfl ?_
      refine X_iload_n C dL_law_494 rfl (j := 3) rfl ?_
      refine X_iconst C (v := 3) (by decide) dL_law_495 ?_
      refine X_iadd C dL_law_496 ?_
      obtain ⟨g, h⟩ := h
      refine X_sld C SC g dL_law_497 ?_
      refine X_callV C dL_law_498 pw_RL_39 (b := 7) (as := [.int (xs (x3 + 1 : Int32).toNatClampNeg), .int (xs (x3 + 2 : Int32).toNatClampNeg), .int (xs (x3 + 3 : Int32).toNatClampNeg)]) (S := [.int v30]) sh_7 rfl rfl rfl (Nat.le_of_ble_eq_true rfl) (Ct_mono h ?_)
      rintro _ s31 ⟨v32, rfl, h⟩
      show X κ 501 [(0, .ref 9999), (1, .ref 0), (2, .ref 7), (3, .int x3)] [.int v32, .int v30] s31
      refine X_icmp_eq C dL_law_501 (tgt := 2012) (by decide) (fun c => ?_) (fun c => ?_)
      · replace h := h.1 c
        refine X_iinc C dL_law_2012 (j := 3) rfl (v := x3 + 6) rfl (by decide) (L' := [(3, .int (x3 + 6)), (0, .ref 9999), (1, .ref 0), (2, .ref 7)]) rfl ?_
        refine X_goto C dL_law_2015 (tgt := 18) (by decide) ?_
        refine X_loc [1, 2, 3, 0] rfl ?_
        exact h
      · replace h := h.2 c
        refine X_iconst C (v := 0) (by decide) dL_law_504 ?_
        exact h.elim
    · replace h := h.2.2.2.2.2.2.2.1 c
      refine X_tableIn C dL_law_33 (by omega) (by omega) (off := 473) (by rw [c]; rfl) (tgt := 506) (by decide) ?_
      refine X_aload_n C dL_law_506 rfl (j := 1) rfl ?_
      refine X_aload_n C dL_law_507 rfl (j := 0) rfl ?_
      refine X_iload_n C dL_law_508 rfl (j := 3) rfl ?_
      refine X_iconst C (v := 1) (by decide) dL_law_509 ?_
      refine X_iadd C dL_law_510 ?_
      obtain ⟨g, h⟩ := h
      refine X_sld C SC g dL_law_511 ?_
      refine X_aload_n C dL_law_512 rfl (j := 0) rfl ?_
      refine X_iload_n C dL_law_513 rfl (j := 3) rfl ?_
      refine X_iconst C (v := 2) (by decide) dL_law_514 ?_
      refine X_iadd C dL_law_515 ?_
      obtain ⟨g, h⟩ := h
      refine X_sld C SC g dL_law_516 ?_
      refine X_aload_n C dL_law_517 rfl (j := 0) rfl ?_
      refine X_iload_n C dL_law_518 rfl (j := 3) rfl ?_
      refine X_iconst C (v := 3) (by decide) dL_law_519 ?_
      refine X_iadd C dL_law_520 ?_
      obtain ⟨g, h⟩ := h
      refine X_sld C SC g dL_law_521 ?_
      refine X_aload_n C dL_law_522 rfl (j := 0) rfl ?_
      refine X_iload_n C dL_law_523 rfl (j := 3) rfl ?_
      refine X_iconst C (v := 4) (by decide) dL_law_524 ?_
      refine X_iadd C dL_law_525 ?_
      obtain ⟨g, h⟩ := h
      refine X_sld C SC g dL_law_526 ?_
      refine X_aload_n C dL_law_527 rfl (j := 0) rfl ?_
      refine X_iload_n C dL_law_528 rfl (j := 3) rfl ?_
      refine X_iconst C (v := 5) (by decide) dL_law_529 ?_
      refine X_iadd C dL_law_530 ?_
      obtain ⟨g, h⟩ := h
      refine X_sld C SC g dL_law_531 ?_
      refine X_callV C dL_law_532 pw_RL_40 (b := 0) (as := [.int (xs (x3 + 1 : Int32).toNatClampNeg), .int (xs (x3 + 2 : Int32).toNatClampNeg), .int (xs (x3 + 3 : Int32).toNatClampNeg), .int (xs (x3 + 4 : Int32).toNatClampNeg), .int (xs (x3 + 5 : Int32).toNatClampNeg)]) (S := []) sh_0 rfl rfl rfl (Nat.le_of_ble_eq_true rfl) (Ct_mono h ?_)
      rintro _ s33 ⟨v34, rfl, h⟩
      show X κ 535 [(0, .ref 9999), (1, .ref 0), (2, .ref 7), (3, .int x3)] [.int v34] s33
      refine X_aload_n C dL_law_535 rfl (j := 2) rfl ?_
      refine X_aload_n C dL_law_536 rfl (j := 0) rfl ?_
      refine X_iload_n C dL_law_537 rfl (j := 3) rfl ?_
      refine X_iconst C (v := 1) (by decide) dL_law_538 ?_
      refine X_iadd C dL_law_539 ?_
      obtain ⟨g, h⟩ := h
      refine X_sld C SC g dL_law_540 ?_
      refine X_aload_n C dL_law_541 rfl (j := 0) rfl ?_
      refine X_iload_n C dL_law_542 rfl (j := 3) rfl ?_
      refine X_iconst C (v := 2) (by decide) dL_law_543 ?_
      refine X_iadd C dL_law_544 ?_
      obtain ⟨g, h⟩ := h
      refine X_sld C SC g dL_law_545 ?_
      refine X_aload_n C dL_law_546 rfl (j := 0) rfl ?_
      refine X_iload_n C dL_law_547 rfl (j := 3) rfl ?_
      refine X_iconst C (v := 3) (by decide) dL_law_548 ?_
      refine X_iadd C dL_law_549 ?_
      obtain ⟨g, h⟩ := h
      refine X_sld C SC g dL_law_550 ?_
      refine X_aload_n C dL_law_551 rfl (j := 0) rfl ?_
      refine X_iload_n C dL_law_552 rfl (j := 3) rfl ?_
      refine X_iconst C (v := 4) (by decide) dL_law_553 ?_
      refine X_iadd C dL_law_554 ?_
      obtain ⟨g, h⟩ := h
      refine X_sld C SC g dL_law_555 ?_
      refine X_aload_n C dL_law_556 rfl (j := 0) rfl ?_
      refine X_iload_n C dL_law_557 rfl (j := 3) rfl ?_
      refine X_iconst C (v := 5) (by decide) dL_law_558 ?_
      refine X_iadd C dL_law_559 ?_
      obtain ⟨g, h⟩ := h
      refine X_sld C SC g dL_law_560 ?_
      refine X_callV C dL_law_561 pw_RL_44 (b := 7) (as := [.int (xs (x3 + 1 : Int32).toNatClampNeg), .int (xs (x3 + 2 : Int32).toNatClampNeg), .int (xs (x3 + 3 : Int32).toNatClampNeg), .int (xs (x3 + 4 : Int32).toNatClampNeg), .int (xs (x3 + 5 : Int32).toNatClampNeg)]) (S := [.int v34]) sh_7 rfl rfl rfl (Nat.le_of_ble_eq_true rfl) (Ct_mono h ?_)
      rintro _ s35 ⟨v36, rfl, h⟩
      show X κ 564 [(0, .ref 9999), (1, .ref 0), (2, .ref 7), (3, .int x3)] [.int v36, .int v34] s35
      refine X_icmp_eq C dL_law_564 (tgt := 2012) (by decide) (fun c => ?_) (fun c => ?_)
      · replace h := h.1 c
        refine X_iinc C dL_law_2012 (j := 3) rfl (v := x3 + 6) rfl (by decide) (L' := [(3, .int (x3 + 6)), (0, .ref 9999), (1, .ref 0), (2, .ref 7)]) rfl ?_
        refine X_goto C dL_law_2015 (tgt := 18) (by decide) ?_
        refine X_loc [1, 2, 3, 0] rfl ?_
        exact h
      · replace h := h.2 c
        refine X_iconst C (v := 0) (by decide) dL_law_567 ?_
        exact h.elim
    · replace h := h.2.2.2.2.2.2.2.2.1 c
      refine X_tableIn C dL_law_33 (by omega) (by omega) (off := 536) (by rw [c]; rfl) (tgt := 569) (by decide) ?_
      refine X_aload_n C dL_law_569 rfl (j := 1) rfl ?_
      refine X_aload_n C dL_law_570 rfl (j := 0) rfl ?_
      refine X_iload_n C dL_law_571 rfl (j := 3) rfl ?_
      refine X_iconst C (v := 1) (by decide) dL_law_572 ?_
      refine X_iadd C dL_law_573 ?_
      obtain ⟨g, h⟩ := h
      refine X_sld C SC g dL_law_574 ?_
      refine X_aload_n C dL_law_575 rfl (j := 0) rfl ?_
      refine X_iload_n C dL_law_576 rfl (j := 3) rfl ?_
      refine X_iconst C (v := 2) (by decide) dL_law_577 ?_
      refine X_iadd C dL_law_578 ?_
      obtain ⟨g, h⟩ := h
      refine X_sld C SC g dL_law_579 ?_
      refine X_aload_n C dL_law_580 rfl (j := 0) rfl ?_
      refine X_iload_n C dL_law_581 rfl (j := 3) rfl ?_
      refine X_iconst C (v := 3) (by decide) dL_law_582 ?_
      refine X_iadd C dL_law_583 ?_
      obtain ⟨g, h⟩ := h
      refine X_sld C SC g dL_law_584 ?_
      refine X_aload_n C dL_law_585 rfl (j := 0) rfl ?_
      refine X_iload_n C dL_law_586 rfl (j := 3) rfl ?_
      refine X_iconst C (v := 4) (by decide) dL_law_587 ?_
      refine X_iadd C dL_law_588 ?_
      obtain ⟨g, h⟩ := h
      refine X_sld C SC g dL_law_589 ?_
      refine X_aload_n C dL_law_590 rfl (j := 0) rfl ?_
      refine X_iload_n C dL_law_591 rfl (j := 3) rfl ?_
      refine X_iconst C (v := 5) (by decide) dL_law_592 ?_
      refine X_iadd C dL_law_593 ?_
      obtain ⟨g, h⟩ := h
      refine X_sld C SC g dL_law_594 ?_
      refine X_callV C dL_law_595 pw_RL_45 (b := 0) (as := [.int (xs (x3 + 1 : Int32).toNatClampNeg), .int (xs (x3 + 2 : Int32).toNatClampNeg), .int (xs (x3 + 3 : Int32).toNatClampNeg), .int (xs (x3 + 4 : Int32).toNatClampNeg), .int (xs (x3 + 5 : Int32).toNatClampNeg)]) (S := []) sh_0 rfl rfl rfl (Nat.le_of_ble_eq_true rfl) (Ct_mono h ?_)
      rintro _ s37 ⟨v38, rfl, h⟩
      show X κ 598 [(0, .ref 9999), (1, .ref 0), (2, .ref 7), (3, .int x3)] [.int v38] s37
      refine X_aload_n C dL_law_598 rfl (j := 2) rfl ?_
      refine X_aload_n C dL_law_599 rfl (j := 0) rfl ?_
      refine X_iload_n C dL_law_600 rfl (j := 3) rfl ?_
      refine X_iconst C (v := 1) (by decide) dL_law_601 ?_
      refine X_iadd C dL_law_602 ?_
      obtain ⟨g, h⟩ := h
      refine X_sld C SC g dL_law_603 ?_
      refine X_aload_n C dL_law_604 rfl (j := 0) rfl ?_
      refine X_iload_n C dL_law_605 rfl (j := 3) rfl ?_
      refine X_iconst C (v := 2) (by decide) dL_law_606 ?_
      refine X_iadd C dL_law_607 ?_
      obtain ⟨g, h⟩ := h
      refine X_sld C SC g dL_law_608 ?_
      refine X_aload_n C dL_law_609 rfl (j := 0) rfl ?_
      refine X_iload_n C dL_law_610 rfl (j := 3) rfl ?_
      refine X_iconst C (v := 3) (by decide) dL_law_611 ?_
      refine X_iadd C dL_law_612 ?_
      obtain ⟨g, h⟩ := h
      refine X_sld C SC g dL_law_613 ?_
      refine X_aload_n C dL_law_614 rfl (j := 0) rfl ?_
      refine X_iload_n C dL_law_615 rfl (j := 3) rfl ?_
      refine X_iconst C (v := 4) (by decide) dL_law_616 ?_
      refine X_iadd C dL_law_617 ?_
      obtain ⟨g, h⟩ := h
      refine X_sld C SC g dL_law_618 ?_
      refine X_aload_n C dL_law_619 rfl (j := 0) rfl ?_
      refine X_iload_n C dL_law_620 rfl (j := 3) rfl ?_
      refine X_iconst C (v := 5) (by decide) dL_law_621 ?_
      refine X_iadd C dL_law_622 ?_
      obtain ⟨g, h⟩ := h
      refine X_sld C SC g dL_law_623 ?_
      refine X_callV C dL_law_624 pw_RL_48 (b := 7) (as := [.int (xs (x3 + 1 : Int32).toNatClampNeg), .int (xs (x3 + 2 : Int32).toNatClampNeg), .int (xs (x3 + 3 : Int32).toNatClampNeg), .int (xs (x3 + 4 : Int32).toNatClampNeg), .int (xs (x3 + 5 : Int32).toNatClampNeg)]) (S := [.int v38]) sh_7 rfl rfl rfl (Nat.le_of_ble_eq_true rfl) (Ct_mono h ?_)
      rintro _ s39 ⟨v40, rfl, h⟩
      show X κ 627 [(0, .ref 9999), (1, .ref 0), (2, .ref 7), (3, .int x3)] [.int v40, .int v38] s39
      refine X_icmp_eq C dL_law_627 (tgt := 2012) (by decide) (fun c => ?_) (fun c => ?_)
      · replace h := h.1 c
        refine X_iinc C dL_law_2012 (j := 3) rfl (v := x3 + 6) rfl (by decide) (L' := [(3, .int (x3 + 6)), (0, .ref 9999), (1, .ref 0), (2, .ref 7)]) rfl ?_
        refine X_goto C dL_law_2015 (tgt := 18) (by decide) ?_
        refine X_loc [1, 2, 3, 0] rfl ?_
        exact h
      · replace h := h.2 c
        refine X_iconst C (v := 0) (by decide) dL_law_630 ?_
        exact h.elim
    · replace h := h.2.2.2.2.2.2.2.2.2.1 c
      refine X_tableIn C dL_law_33 (by omega) (by omega) (off := 599) (by rw [c]; rfl) (tgt := 632) (by decide) ?_
      refine X_aload_n C dL_law_632 rfl (j := 1) rfl ?_
      refine X_aload_n C dL_law_633 rfl (j := 0) rfl ?_
      refine X_iload_n C dL_law_634 rfl (j := 3) rfl ?_
      refine X_iconst C (v := 1) (by decide) dL_law_635 ?_
      refine X_iadd C dL_law_636 ?_
      obtain ⟨g, h⟩ := h
      refine X_sld C SC g dL_law_637 ?_
      refine X_callV C dL_law_638 pw_RL_49 (b := 0) (as := [.int (xs (x3 + 1 : Int32).toNatClampNeg)]) (S := []) sh_0 rfl rfl rfl (Nat.le_of_ble_eq_true rfl) (Ct_mono h ?_)
      rintro _ s41 ⟨v42, rfl, h⟩
      show X κ 641 [(0, .ref 9999), (1, .ref 0), (2, .ref 7), (3, .int x3)] [.int v42] s41
      refine X_aload_n C dL_law_641 rfl (j := 2) rfl ?_
      refine X_aload_n C dL_law_642 rfl (j := 0) rfl ?_
      refine X_iload_n C dL_law_643 rfl (j := 3) rfl ?_
      refine X_iconst C (v := 1) (by decide) dL_law_644 ?_
      refine X_iadd C dL_law_645 ?_
      obtain ⟨g, h⟩ := h
      refine X_sld C SC g dL_law_646 ?_
      refine X_callV C dL_law_647 pw_RL_53 (b := 7) (as := [.int (xs (x3 + 1 : Int32).toNatClampNeg)]) (S := [.int v42]) sh_7 rfl rfl rfl (Nat.le_of_ble_eq_true rfl) (Ct_mono h ?_)
      rintro _ s43 ⟨v44, rfl, h⟩
      show X κ 650 [(0, .ref 9999), (1, .ref 0), (2, .ref 7), (3, .int x3)] [.int v44, .int v42] s43
      refine X_icmp_eq C dL_law_650 (tgt := 2012) (by decide) (fun c => ?_) (fun c => ?_)
      · replace h := h.1 c
        refine X_iinc C dL_law_2012 (j := 3) rfl (v := x3 + 6) rfl (by decide) (L' := [(3, .int (x3 + 6)), (0, .ref 9999), (1, .ref 0), (2, .ref 7)]) rfl ?_
        refine X_goto C dL_law_2015 (tgt := 18) (by decide) ?_
        refine X_loc [1, 2, 3, 0] rfl ?_
        exact h
      · replace h := h.2 c
        refine X_iconst C (v := 0) (by decide) dL_law_653 ?_
        exact h.elim
    · replace h := h.2.2.2.2.2.2.2.2.2.2.1 c
      refine X_tableIn C dL_law_33 (by omega) (by omega) (off := 622) (by rw [c]; rfl) (tgt := 655) (by decide) ?_
      refine X_aload_n C dL_law_655 rfl (j := 1) rfl ?_
      refine X_aload_n C dL_law_656 rfl (j := 0) rfl ?_
      refine X_iload_n C dL_law_657 rfl (j := 3) rfl ?_
      refine X_iconst C (v := 1) (by decide) dL_law_658 ?_
      refine X_iadd C dL_law_659 ?_
      obtain ⟨g, h⟩ := h
      refine X_sld C SC g dL_law_660 ?_
      refine X_aload_n C dL_law_661 rfl (j := 0) rfl ?_
      refine X_iload_n C dL_law_662 rfl (j := 3) rfl ?_
      refine X_iconst C (v := 2) (by decide) dL_law_663 ?_
      refine X_iadd C dL_law_664 ?_
      obtain ⟨g, h⟩ := h
      refine X_sld C SC g dL_law_665 ?_
      refine X_aload_n C dL_law_666 rfl (j := 0) rfl ?_
      refine X_iload_n C dL_law_667 rfl (j := 3) rfl ?_
      refine X_iconst C (v := 3) (by decide) dL_law_668 ?_
      refine X_iadd C dL_law_669 ?_
      obtain ⟨g, h⟩ := h
      refine X_sld C SC g dL_law_670 ?_
      refine X_aload_n C dL_law_671 rfl (j := 0) rfl ?_
      refine X_iload_n C dL_law_672 rfl (j := 3) rfl ?_
      refine X_iconst C (v := 4) (by decide) dL_law_673 ?_
      refine X_iadd C dL_law_674 ?_
      obtain ⟨g, h⟩ := h
      refine X_sld C SC g dL_law_675 ?_
      refine X_aload_n C dL_law_676 rfl (j := 0) rfl ?_
      refine X_iload_n C dL_law_677 rfl (j := 3) rfl ?_
      refine X_iconst C (v := 5) (by decide) dL_law_678 ?_
      refine X_iadd C dL_law_679 ?_
      obtain ⟨g, h⟩ := h
      refine X_sld C SC g dL_law_680 ?_
      refine X_callV C dL_law_681 pw_RL_54 (b := 0) (as := [.int (xs (x3 + 1 : Int32).toNatClampNeg), .int (xs (x3 + 2 : Int32).toNatClampNeg), .int (xs (x3 + 3 : Int32).toNatClampNeg), .int (xs (x3 + 4 : Int32).toNatClampNeg), .int (xs (x3 + 5 : Int32).toNatClampNeg)]) (S := []) sh_0 rfl rfl rfl (Nat.le_of_ble_eq_true rfl) (Ct_mono h ?_)
      rintro _ s45 ⟨v46, rfl, h⟩
      show X κ 684 [(0, .ref 9999), (1, .ref 0), (2, .ref 7), (3, .int x3)] [.int v46] s45
      refine X_aload_n C dL_law_684 rfl (j := 2) rfl ?_
      refine X_aload_n C dL_law_685 rfl (j := 0) rfl ?_
      refine X_iload_n C dL_law_686 rfl (j := 3) rfl ?_
      refine X_iconst C (v := 1) (by decide) dL_law_687 ?_
      refine X_iadd C dL_law_688 ?_
      obtain ⟨g, h⟩ := h
      refine X_sld C SC g dL_law_689 ?_
      refine X_aload_n C dL_law_690 rfl (j := 0) rfl ?_
      refine X_iload_n C dL_law_691 rfl (j := 3) rfl ?_
      refine X_iconst C (v := 2) (by decide) dL_law_692 ?_
      refine X_iadd C dL_law_693 ?_
      obtain ⟨g, h⟩ := h
      refine X_sld C SC g dL_law_694 ?_
      refine X_aload_n C dL_law_695 rfl (j := 0) rfl ?_
      refine X_iload_n C dL_law_696 rfl (j := 3) rfl ?_
      refine X_iconst C (v := 3) (by decide) dL_law_697 ?_
      refine X_iadd C dL_law_698 ?_
      obtain ⟨g, h⟩ := h
      refine X_sld C SC g dL_law_699 ?_
      refine X_aload_n C dL_law_700 rfl (j := 0) rfl ?_
      refine X_iload_n C dL_law_701 rfl (j := 3) rfl ?_
      refine X_iconst C (v := 4) (by decide) dL_law_702 ?_
      refine X_iadd C dL_law_703 ?_
      obtain ⟨g, h⟩ := h
      refine X_sld C SC g dL_law_704 ?_
      refine X_aload_n C dL_law_705 rfl (j := 0) rfl ?_
      refine X_iload_n C dL_law_706 rfl (j := 3) rfl ?_
      refine X_iconst C (v := 5) (by decide) dL_law_707 ?_
      refine X_iadd C dL_law_708 ?_
      obtain ⟨g, h⟩ := h
      refine X_sld C SC g dL_law_709 ?_
      refine X_callV C dL_law_710 pw_RL_57 (b := 7) (as := [.int (xs (x3 + 1 : Int32).toNatClampNeg), .int (xs (x3 + 2 : Int32).toNatClampNeg), .int (xs (x3 + 3 : Int32).toNatClampNeg), .int (xs (x3 + 4 : Int32).toNatClampNeg), .int (xs (x3 + 5 : Int32).toNatClampNeg)]) (S := [.int v46]) sh_7 rfl rfl rfl (Nat.le_of_ble_eq_true rfl) (Ct_mono h ?_)
      rintro _ s47 ⟨v48, rfl, h⟩
      show X κ 713 [(0, .ref 9999), (1, .ref 0), (2, .ref 7), (3, .int x3)] [.int v48, .int v46] s47
      refine X_icmp_eq C dL_law_713 (tgt := 2012) (by decide) (fun c => ?_) (fun c => ?_)
      · replace h := h.1 c
        refine X_iinc C dL_law_2012 (j := 3) rfl (v := x3 + 6) rfl (by decide) (L' := [(3, .int (x3 + 6)), (0, .ref 9999), (1, .ref 0), (2, .ref 7)]) rfl ?_
        refine X_goto C dL_law_2015 (tgt := 18) (by decide) ?_
        refine X_loc [1, 2, 3, 0] rfl ?_
        exact h
      · replace h := h.2 c
        refine X_iconst C (v := 0) (by decide) dL_law_716 ?_
        exact h.elim
    · replace h := h.2.2.2.2.2.2.2.2.2.2.2.1 c
      refine X_tableIn C dL_law_33 (by omega) (by omega) (off := 685) (by rw [c]; rfl) (tgt := 718) (by decide) ?_
      refine X_aload_n C dL_law_718 rfl (j := 1) rfl ?_
      refine X_aload_n C dL_law_719 rfl (j := 0) rfl ?_
      refine X_iload_n C dL_law_720 rfl (j := 3) rfl ?_
      refine X_iconst C (v := 1) (by decide) dL_law_721 ?_
      refine X_iadd C dL_law_722 ?_
      obtain ⟨g, h⟩ := h
      refine X_sld C SC g dL_law_723 ?_
      refine X_aload_n C dL_law_724 rfl (j := 0) rfl ?_
      refine X_iload_n C dL_law_725 rfl (j := 3) rfl ?_
      refine X_iconst C (v := 2) (by decide) dL_law_726 ?_
      refine X_iadd C dL_law_727 ?_
      obtain ⟨g, h⟩ := h
      refine X_sld C SC g dL_law_728 ?_
      refine X_aload_n C dL_law_729 rfl (j := 0) rfl ?_
      refine X_iload_n C dL_law_730 rfl (j := 3) rfl ?_
      refine X_iconst C (v := 3) (by decide) dL_law_731 ?_
      refine X_iadd C dL_law_732 ?_
      obtain ⟨g, h⟩ := h
      refine X_sld C SC g dL_law_733 ?_
      refine X_callV C dL_law_734 pw_RL_58 (b := 0) (as := [.int (xs (x3 + 1 : Int32).toNatClampNeg), .int (xs (x3 + 2 : Int32).toNatClampNeg), .int (xs (x3 + 3 : Int32).toNatClampNeg)]) (S := []) sh_0 rfl rfl rfl (Nat.le_of_ble_eq_true rfl) (Ct_mono h ?_)
      rintro _ s49 ⟨v50, rfl, h⟩
      show X κ 737 [(0, .ref 9999), (1, .ref 0), (2, .ref 7), (3, .int x3)] [.int v50] s49
      refine X_aload_n C dL_law_737 rfl (j := 2) rfl ?_
      refine X_aload_n C dL_law_738 rfl (j := 0) rfl ?_
      refine X_iload_n C dL_law_739 rfl (j := 3) rfl ?_
      refine X_iconst C (v := 1) (by decide) dL_law_740 ?_
      refine X_iadd C dL_law_741 ?_
      obtain ⟨g, h⟩ := h
      refine X_sld C SC g dL_law_742 ?_
      refine X_aload_n C dL_law_743 rfl (j := 0) rfl ?_
      refine X_iload_n C dL_law_744 rfl (j := 3) rfl ?_
      refine X_iconst C (v := 2) (by decide) dL_law_745 ?_
      refine X_iadd C dL_law_746 ?_
      obtain ⟨g, h⟩ := h
      refine X_sld C SC g dL_law_747 ?_
      refine X_aload_n C dL_law_748 rfl (j := 0) rfl ?_
      refine X_iload_n C dL_law_749 rfl (j := 3) rfl ?_
      refine X_iconst C (v := 3) (by decide) dL_law_750 ?_
      refine X_iadd C dL_law_751 ?_
      obtain ⟨g, h⟩ := h
      refine X_sld C SC g dL_law_752 ?_
      refine X_callV C dL_law_753 pw_RL_61 (b := 7) (as := [.int (xs (x3 + 1 : Int32).toNatClampNeg), .int (xs (x3 + 2 : Int32).toNatClampNeg), .int (xs (x3 + 3 : Int32).toNatClampNeg)]) (S := [.int v50]) sh_7 rfl rfl rfl (Nat.le_of_ble_eq_true rfl) (Ct_mono h ?_)
      rintro _ s51 ⟨v52, rfl, h⟩
      show X κ 756 [(0, .ref 9999), (1, .ref 0), (2, .ref 7), (3, .int x3)] [.int v52, .int v50] s51
      refine X_icmp_eq C dL_law_756 (tgt := 2012) (by decide) (fun c => ?_) (fun c => ?_)
      · replace h := h.1 c
        refine X_iinc C dL_law_2012 (j := 3) rfl (v := x3 + 6) rfl (by decide) (L' := [(3, .int (x3 + 6)), (0, .ref 9999), (1, .ref 0), (2, .ref 7)]) rfl ?_
        refine X_goto C dL_law_2015 (tgt := 18) (by decide) ?_
        refine X_loc [1, 2, 3, 0] rfl ?_
        exact h
      · replace h := h.2 c
        refine X_iconst C (v := 0) (by decide) dL_law_759 ?_
        exact h.elim
    · replace h := h.2.2.2.2.2.2.2.2.2.2.2.2.1 c
      refine X_tableIn C dL_law_33 (by omega) (by omega) (off := 728) (by rw [c]; rfl) (tgt := 761) (by decide) ?_
      refine X_aload_n C dL_law_761 rfl (j := 1) rfl ?_
      refine X_aload_n C dL_law_762 rfl (j := 0) rfl ?_
      refine X_iload_n C dL_law_763 rfl (j := 3) rfl ?_
      refine X_iconst C (v := 1) (by decide) dL_law_764 ?_
      refine X_iadd C dL_law_765 ?_
      obtain ⟨g, h⟩ := h
      refine X_sld C SC g dL_law_766 ?_
      refine X_aload_n C dL_law_767 rfl (j := 0) rfl ?_
      refine X_iload_n C dL_law_768 rfl (j := 3) rfl ?_
      refine X_iconst C (v := 2) (by decide) dL_law_769 ?_
      refine X_iadd C dL_law_770 ?_
      obtain ⟨g, h⟩ := h
      refine X_sld C SC g dL_law_771 ?_
      refine X_callV C dL_law_772 pw_RL_62 (b := 0) (as := [.int (xs (x3 + 1 : Int32).toNatClampNeg), .int (xs (x3 + 2 : Int32).toNatClampNeg)]) (S := []) sh_0 rfl rfl rfl (Nat.le_of_ble_eq_true rfl) (Ct_mono h ?_)
      rintro _ s53 ⟨v54, rfl, h⟩
      show X κ 775 [(0, .ref 9999), (1, .ref 0), (2, .ref 7), (3, .int x3)] [.int v54] s53
      refine X_aload_n C dL_law_775 rfl (j := 2) rfl ?_
      refine X_aload_n C dL_law_776 rfl (j := 0) rfl ?_
      refine X_iload_n C dL_law_777 rfl (j := 3) rfl ?_
      refine X_iconst C (v := 1) (by decide) dL_law_778 ?_
      refine X_iadd C dL_law_779 ?_
      obtain ⟨g, h⟩ := h
      refine X_sld C SC g dL_law_780 ?_
      refine X_aload_n C dL_law_781 rfl (j := 0) rfl ?_
      refine X_iload_n C dL_law_782 rfl (j := 3) rfl ?_
      refine X_iconst C (v := 2) (by decide) dL_law_783 ?_
      refine X_iadd C dL_law_784 ?_
      obtain ⟨g, h⟩ := h
      refine X_sld C SC g dL_law_785 ?_
      refine X_callV C dL_law_786 pw_RL_65 (b := 7) (as := [.int (xs (x3 + 1 : Int32).toNatClampNeg), .int (xs (x3 + 2 : Int32).toNatClampNeg)]) (S := [.int v54]) sh_7 rfl rfl rfl (Nat.le_of_ble_eq_true rfl) (Ct_mono h ?_)
      rintro _ s55 ⟨v56, rfl, h⟩
      show X κ 789 [(0, .ref 9999), (1, .ref 0), (2, .ref 7), (3, .int x3)] [.int v56, .int v54] s55
      refine X_icmp_eq C dL_law_789 (tgt := 2012) (by decide) (fun c => ?_) (fun c => ?_)
      · replace h := h.1 c
        refine X_iinc C dL_law_2012 (j := 3) rfl (v := x3 + 6) rfl (by decide) (L' := [(3, .int (x3 + 6)), (0, .ref 9999), (1, .ref 0), (2, .ref 7)]) rfl ?_
        refine X_goto C dL_law_2015 (tgt := 18) (by decide) ?_
        refine X_loc [1, 2, 3, 0] rfl ?_
        exact h
      · replace h := h.2 c
        refine X_iconst C (v := 0) (by decide) dL_law_792 ?_
        exact h.elim
    · replace h := h.2.2.2.2.2.2.2.2.2.2.2.2.2.1 c
      refine X_tableIn C dL_law_33 (by omega) (by omega) (off := 761) (by rw [c]; rfl) (tgt := 794) (by decide) ?_
      refine X_aload_n C dL_law_794 rfl (j := 1) rfl ?_
      refine X_aload_n C dL_law_795 rfl (j := 0) rfl ?_
      refine X_iload_n C dL_law_796 rfl (j := 3) rfl ?_
      refine X_iconst C (v := 1) (by decide) dL_law_797 ?_
      refine X_iadd C dL_law_798 ?_
      obtain ⟨g, h⟩ := h
      refine X_sld C SC g dL_law_799 ?_
      refine X_aload_n C dL_law_800 rfl (j := 0) rfl ?_
      refine X_iload_n C dL_law_801 rfl (j := 3) rfl ?_
      refine X_iconst C (v := 2) (by decide) dL_law_802 ?_
      refine X_iadd C dL_law_803 ?_
      obtain ⟨g, h⟩ := h
      refine X_sld C SC g dL_law_804 ?_
      refine X_aload_n C dL_law_805 rfl (j := 0) rfl ?_
      refine X_iload_n C dL_law_806 rfl (j := 3) rfl ?_
      refine X_iconst C (v := 3) (by decide) dL_law_807 ?_
      refine X_iadd C dL_law_808 ?_
      obtain ⟨g, h⟩ := h
      refine X_sld C SC g dL_law_809 ?_
      refine X_callV C dL_law_810 pw_RL_66 (b := 0) (as := [.int (xs (x3 + 1 : Int32).toNatClampNeg), .int (xs (x3 + 2 : Int32).toNatClampNeg), .int (xs (x3 + 3 : Int32).toNatClampNeg)]) (S := []) sh_0 rfl rfl rfl (Nat.le_of_ble_eq_true rfl) (Ct_mono h ?_)
      rintro _ s57 ⟨v58, rfl, h⟩
      show X κ 813 [(0, .ref 9999), (1, .ref 0), (2, .ref 7), (3, .int x3)] [.int v58] s57
      refine X_aload_n C dL_law_813 rfl (j := 2) rfl ?_
      refine X_aload_n C dL_law_814 rfl (j := 0) rfl ?_
      refine X_iload_n C dL_law_815 rfl (j := 3) rfl ?_
      refine X_iconst C (v := 1) (by decide) dL_law_816 ?_
      refine X_iadd C dL_law_817 ?_
      obtain ⟨g, h⟩ := h
      refine X_sld C SC g dL_law_818 ?_
      refine X_aload_n C dL_law_819 rfl (j := 0) rfl ?_
      refine X_iload_n C dL_law_820 rfl (j := 3) rfl ?_
      refine X_iconst C (v := 2) (by decide) dL_law_821 ?_
      refine X_iadd C dL_law_822 ?_
      obtain ⟨g, h⟩ := h
      refine X_sld C SC g dL_law_823 ?_
      refine X_aload_n C dL_law_824 rfl (j := 0) rfl ?_
      refine X_iload_n C dL_law_825 rfl (j := 3) rfl ?_
      refine X_iconst C (v := 3) (by decide) dL_law_826 ?_
      refine X_iadd C dL_law_827 ?_
      obtain ⟨g, h⟩ := h
      refine X_sld C SC g dL_law_828 ?_
      refine X_callV C dL_law_829 pw_RL_69 (b := 7) (as := [.int (xs (x3 + 1 : Int32).toNatClampNeg), .int (xs (x3 + 2 : Int32).toNatClampNeg), .int (xs (x3 + 3 : Int32).toNatClampNeg)]) (S := [.int v58]) sh_7 rfl rfl rfl (Nat.le_of_ble_eq_true rfl) (Ct_mono h ?_)
      rintro _ s59 ⟨v60, rfl, h⟩
      show X κ 832 [(0, .ref 9999), (1, .ref 0), (2, .ref 7), (3, .int x3)] [.int v60, .int v58] s59
      refine X_icmp_eq C dL_law_832 (tgt := 2012) (by decide) (fun c => ?_) (fun c => ?_)
      · replace h := h.1 c
        refine X_iinc C dL_law_2012 (j := 3) rfl (v := x3 + 6) rfl (by decide) (L' := [(3, .int (x3 + 6)), (0, .ref 9999), (1, .ref 0), (2, .ref 7)]) rfl ?_
        refine X_goto C dL_law_2015 (tgt := 18) (by decide) ?_
        refine X_loc [1, 2, 3, 0] rfl ?_
        exact h
      · replace h := h.2 c
        refine X_iconst C (v := 0) (by decide) dL_law_835 ?_
        exact h.elim
    · replace h := h.2.2.2.2.2.2.2.2.2.2.2.2.2.2.1 c
      refine X_tableIn C dL_law_33 (by omega) (by omega) (off := 804) (by rw [c]; rfl) (tgt := 837) (by decide) ?_
      refine X_aload_n C dL_law_837 rfl (j := 1) rfl ?_
      refine X_callV C dL_law_838 pw_RL_70 (b := 0) (as := []) (S := []) sh_0 rfl rfl rfl (Nat.le_of_ble_eq_true rfl) (Ct_mono h ?_)
      rintro _ s61 ⟨v62, rfl, h⟩
      show X κ 841 [(0, .ref 9999), (1, .ref 0), (2, .ref 7), (3, .int x3)] [.int v62] s61
      refine X_aload_n C dL_law_841 rfl (j := 2) rfl ?_
      refine X_callV C dL_law_842 pw_RL_74 (b := 7) (as := []) (S := [.int v62]) sh_7 rfl rfl rfl (Nat.le_of_ble_eq_true rfl) (Ct_mono h ?_)
      rintro _ s63 ⟨v64, rfl, h⟩
      show X κ 845 [(0, .ref 9999), (1, .ref 0), (2, .ref 7), (3, .int x3)] [.int v64, .int v62] s63
      refine X_icmp_eq C dL_law_845 (tgt := 2012) (by decide) (fun c => ?_) (fun c => ?_)
      · replace h := h.1 c
        refine X_iinc C dL_law_2012 (j := 3) rfl (v := x3 + 6) rfl (by decide) (L' := [(3, .int (x3 + 6)), (0, .ref 9999), (1, .ref 0), (2, .ref 7)]) rfl ?_
        refine X_goto C dL_law_2015 (tgt := 18) (by decide) ?_
        refine X_loc [1, 2, 3, 0] rfl ?_
        exact h
      · replace h := h.2 c
        refine X_iconst C (v := 0) (by decide) dL_law_848 ?_
        exact h.elim
    · replace h := h.2.2.2.2.2.2.2.2.2.2.2.2.2.2.2.1 c
      refine X_tableIn C dL_law_33 (by omega) (by omega) (off := 817) (by rw [c]; rfl) (tgt := 850) (by decide) ?_
      refine X_aload_n C dL_law_850 rfl (j := 1) rfl ?_
      refine X_callV C dL_law_851 pw_RL_75 (b := 0) (as := []) (S := []) sh_0 rfl rfl rfl (Nat.le_of_ble_eq_true rfl) (Ct_mono h ?_)
      rintro _ s65 ⟨v66, rfl, h⟩
      show X κ 854 [(0, .ref 9999), (1, .ref 0), (2, .ref 7), (3, .int x3)] [.int v66] s65
      refine X_aload_n C dL_law_854 rfl (j := 2) rfl ?_
      refine X_callV C dL_law_855 pw_RL_78 (b := 7) (as := []) (S := [.int v66]) sh_7 rfl rfl rfl (Nat.le_of_ble_eq_true rfl) (Ct_mono h ?_)
      rintro _ s67 ⟨v68, rfl, h⟩
      show X κ 858 [(0, .ref 9999), (1, .ref 0), (2, .ref 7), (3, .int x3)] [.int v68, .int v66] s67
      refine X_icmp_eq C dL_law_858 (tgt := 2012) (by decide) (fun c => ?_) (fun c => ?_)
      · replace h := h.1 c
        refine X_iinc C dL_law_2012 (j := 3) rfl (v := x3 + 6) rfl (by decide) (L' := [(3, .int (x3 + 6)), (0, .ref 9999), (1, .ref 0), (2, .ref 7)]) rfl ?_
        refine X_goto C dL_law_2015 (tgt := 18) (by decide) ?_
        refine X_loc [1, 2, 3, 0] rfl ?_
        exact h
      · replace h := h.2 c
        refine X_iconst C (v := 0) (by decide) dL_law_861 ?_
        exact h.elim
    · replace h := h.2.2.2.2.2.2.2.2.2.2.2.2.2.2.2.2.1 c
      refine X_tableIn C dL_law_33 (by omega) (by omega) (off := 830) (by rw [c]; rfl) (tgt := 863) (by decide) ?_
      refine X_aload_n C dL_law_863 rfl (j := 1) rfl ?_
      refine X_aload_n C dL_law_864 rfl (j := 0) rfl ?_
      refine X_iload_n C dL_law_865 rfl (j := 3) rfl ?_
      refine X_iconst C (v := 1) (by decide) dL_law_866 ?_
      refine X_iadd C dL_law_867 ?_
      obtain ⟨g, h⟩ := h
      refine X_sld C SC g dL_law_868 ?_
      refine X_aload_n C dL_law_869 rfl (j := 0) rfl ?_
      refine X_iload_n C dL_law_870 rfl (j := 3) rfl ?_
      refine X_iconst C (v := 2) (by decide) dL_law_871 ?_
      refine X_iadd C dL_law_872 ?_
      obtain ⟨g, h⟩ := h
      refine X_sld C SC g dL_law_873 ?_
      refine X_callV C dL_law_874 pw_RL_79 (b := 0) (as := [.int (xs (x3 + 1 : Int32).toNatClampNeg), .int (xs (x3 + 2 : Int32).toNatClampNeg)]) (S := []) sh_0 rfl rfl rfl (Nat.le_of_ble_eq_true rfl) (Ct_mono h ?_)
      rintro _ s69 ⟨v70, rfl, h⟩
      show X κ 877 [(0, .ref 9999), (1, .ref 0), (2, .ref 7), (3, .int x3)] [.int v70] s69
      refine X_aload_n C dL_law_877 rfl (j := 2) rfl ?_
      refine X_aload_n C dL_law_878 rfl (j := 0) rfl ?_
      refine X_iload_n C dL_law_879 rfl (j := 3) rfl ?_
      refine X_iconst C (v := 1) (by decide) dL_law_880 ?_
      refine X_iadd C dL_law_881 ?_
      obtain ⟨g, h⟩ := h
      refine X_sld C SC g dL_law_882 ?_
      refine X_aload_n C dL_law_883 rfl (j := 0) rfl ?_
      refine X_iload_n C dL_law_884 rfl (j := 3) rfl ?_
      refine X_iconst C (v := 2) (by decide) dL_law_885 ?_
      refine X_iadd C dL_law_886 ?_
      obtain ⟨g, h⟩ := h
      refine X_sld C SC g dL_law_887 ?_
      refine X_callV C dL_law_888 pw_RL_82 (b := 7) (as := [.int (xs (x3 + 1 : Int32).toNatClampNeg), .int (xs (x3 + 2 : Int32).toNatClampNeg)]) (S := [.int v70]) sh_7 rfl rfl rfl (Nat.le_of_ble_eq_true rfl) (Ct_mono h ?_)
      rintro _ s71 ⟨v72, rfl, h⟩
      show X κ 891 [(0, .ref 9999), (1, .ref 0), (2, .ref 7), (3, .int x3)] [.int v72, .int v70] s71
      refine X_icmp_eq C dL_law_891 (tgt := 2012) (by decide) (fun c => ?_) (fun c => ?_)
      · replace h := h.1 c
        refine X_iinc C dL_law_2012 (j := 3) rfl (v := x3 + 6) rfl (by decide) (L' := [(3, .int (x3 + 6)), (0, .ref 9999), (1, .ref 0), (2, .ref 7)]) rfl ?_
        refine X_goto C dL_law_2015 (tgt := 18) (by decide) ?_
        refine X_loc [1, 2, 3, 0] rfl ?_
        exact h
      · replace h := h.2 c
        refine X_iconst C (v := 0) (by decide) dL_law_894 ?_
        exact h.elim
    · replace h := h.2.2.2.2.2.2.2.2.2.2.2.2.2.2.2.2.2.1 c
      refine X_tableIn C dL_law_33 (by omega) (by omega) (off := 863) (by rw [c]; rfl) (tgt := 896) (by decide) ?_
      refine X_aload_n C dL_law_896 rfl (j := 1) rfl ?_
      refine X_aload_n C dL_law_897 rfl (j := 0) rfl ?_
      refine X_iload_n C dL_law_898 rfl (j := 3) rfl ?_
      refine X_iconst C (v := 1) (by decide) dL_law_899 ?_
      refine X_iadd C dL_law_900 ?_
      obtain ⟨g, h⟩ := h
      refine X_sld C SC g dL_law_901 ?_
      refine X_callV C dL_law_902 pw_RL_83 (b := 0) (as := [.int (xs (x3 + 1 : Int32).toNatClampNeg)]) (S := []) sh_0 rfl rfl rfl (Nat.le_of_ble_eq_true rfl) (Ct_mono h ?_)
      rintro _ s73 ⟨v74, rfl, h⟩
      show X κ 905 [(0, .ref 9999), (1, .ref 0), (2, .ref 7), (3, .int x3)] [.int v74] s73
      refine X_aload_n C dL_law_905 rfl (j := 2) rfl ?_
      refine X_aload_n C dL_law_906 rfl (j := 0) rfl ?_
      refine X_iload_n C dL_law_907 rfl (j := 3) rfl ?_
      refine X_iconst C (v := 1) (by decide) dL_law_908 ?_
      refine X_iadd C dL_law_909 ?_
      obtain ⟨g, h⟩ := h
      refine X_sld C SC g dL_law_910 ?_
      refine X_callV C dL_law_911 pw_RL_86 (b := 7) (as := [.int (xs (x3 + 1 : Int32).toNatClampNeg)]) (S := [.int v74]) sh_7 rfl rfl rfl (Nat.le_of_ble_eq_true rfl) (Ct_mono h ?_)
      rintro _ s75 ⟨v76, rfl, h⟩
      show X κ 914 [(0, .ref 9999), (1, .ref 0), (2, .ref 7), (3, .int x3)] [.int v76, .int v74] s75
      refine X_icmp_eq C dL_law_914 (tgt := 2012) (by decide) (fun c => ?_) (fun c => ?_)
      · replace h := h.1 c
        refine X_iinc C dL_law_2012 (j := 3) rfl (v := x3 + 6) rfl (by decide) (L' := [(3, .int (x3 + 6)), (0, .ref 9999), (1, .ref 0), (2, .ref 7)]) rfl ?_
        refine X_goto C dL_law_2015 (tgt := 18) (by decide) ?_
        refine X_loc [1, 2, 3, 0] rfl ?_
        exact h
      · replace h := h.2 c
        refine X_iconst C (v := 0) (by decide) dL_law_917 ?_
        exact h.elim
    · replace h := h.2.2.2.2.2.2.2.2.2.2.2.2.2.2.2.2.2.2.1 c
      refine X_tableIn C dL_law_33 (by omega) (by omega) (off := 886) (by rw [c]; rfl) (tgt := 919) (by decide) ?_
      refine X_aload_n C dL_law_919 rfl (j := 1) rfl ?_
      refine X_callV C dL_law_920 pw_RL_87 (b := 0) (as := []) (S := []) sh_0 rfl rfl rfl (Nat.le_of_ble_eq_true rfl) (Ct_mono h ?_)
      rintro _ s77 ⟨v78, rfl, h⟩
      show X κ 923 [(0, .ref 9999), (1, .ref 0), (2, .ref 7), (3, .int x3)] [.int v78] s77
      refine X_aload_n C dL_law_923 rfl (j := 2) rfl ?_
      refine X_callV C dL_law_924 pw_RL_90 (b := 7) (as := []) (S := [.int v78]) sh_7 rfl rfl rfl (Nat.le_of_ble_eq_true rfl) (Ct_mono h ?_)
      rintro _ s79 ⟨v80, rfl, h⟩
      show X κ 927 [(0, .ref 9999), (1, .ref 0), (2, .ref 7), (3, .int x3)] [.int v80, .int v78] s79
      refine X_icmp_eq C dL_law_927 (tgt := 2012) (by decide) (fun c => ?_) (fun c => ?_)
      · replace h := h.1 c
        refine X_iinc C dL_law_2012 (j := 3) rfl (v := x3 + 6) rfl (by decide) (L' := [(3, .int (x3 + 6)), (0, .ref 9999), (1, .ref 0), (2, .ref 7)]) rfl ?_
        refine X_goto C dL_law_2015 (tgt := 18) (by decide) ?_
        refine X_loc [1, 2, 3, 0] rfl ?_
        exact h
      · replace h := h.2 c
        refine X_iconst C (v := 0) (by decide) dL_law_930 ?_
        exact h.elim
    · replace h := h.2.2.2.2.2.2.2.2.2.2.2.2.2.2.2.2.2.2.2.1 c
      refine X_tableIn C dL_law_33 (by omega) (by omega) (off := 899) (by rw [c]; rfl) (tgt := 932) (by decide) ?_
      refine X_aload_n C dL_law_932 rfl (j := 1) rfl ?_
      refine X_aload_n C dL_law_933 rfl (j := 0) rfl ?_
      refine X_iload_n C dL_law_934 rfl (j := 3) rfl ?_
      refine X_iconst C (v := 1) (by decide) dL_law_935 ?_
      refine X_iadd C dL_law_936 ?_
      obtain ⟨g, h⟩ := h
      refine X_sld C SC g dL_law_937 ?_
      refine X_aload_n C dL_law_938 rfl (j := 0) rfl ?_
      refine X_iload_n C dL_law_939 rfl (j := 3) rfl ?_
      refine X_iconst C (v := 2) (by decide) dL_law_940 ?_
      refine X_iadd C dL_law_941 ?_
      obtain ⟨g, h⟩ := h
      refine X_sld C SC g dL_law_942 ?_
      refine X_aload_n C dL_law_943 rfl (j := 0) rfl ?_
      refine X_iload_n C dL_law_944 rfl (j := 3) rfl ?_
      refine X_iconst C (v := 3) (by decide) dL_law_945 ?_
      refine X_iadd C dL_law_946 ?_
      obtain ⟨g, h⟩ := h
      refine X_sld C SC g dL_law_947 ?_
      refine X_callV C dL_law_948 pw_RL_91 (b := 0) (as := [.int (xs (x3 + 1 : Int32).toNatClampNeg), .int (xs (x3 + 2 : Int32).toNatClampNeg), .int (xs (x3 + 3 : Int32).toNatClampNeg)]) (S := []) sh_0 rfl rfl rfl (Nat.le_of_ble_eq_true rfl) (Ct_mono h ?_)
      rintro _ s81 ⟨v82, rfl, h⟩
      show X κ 951 [(0, .ref 9999), (1, .ref 0), (2, .ref 7), (3, .int x3)] [.int v82] s81
      refine X_aload_n C dL_law_951 rfl (j := 2) rfl ?_
      refine X_aload_n C dL_law_952 rfl (j := 0) rfl ?_
      refine X_iload_n C dL_law_953 rfl (j := 3) rfl ?_
      refine X_iconst C (v := 1) (by decide) dL_law_954 ?_
      refine X_iadd C dL_law_955 ?_
      obtain ⟨g, h⟩ := h
      refine X_sld C SC g dL_law_956 ?_
      refine X_aload_n C dL_law_957 rfl (j := 0) rfl ?_
      refine X_iload_n C dL_law_958 rfl (j := 3) rfl ?_
      refine X_iconst C (v := 2) (by decide) dL_law_959 ?_
      refine X_iadd C dL_law_960 ?_
      obtain ⟨g, h⟩ := h
      refine X_sld C SC g dL_law_961 ?_
      refine X_aload_n C dL_law_962 rfl (j := 0) rfl ?_
      refine X_iload_n C dL_law_963 rfl (j := 3) rfl ?_
      refine X_iconst C (v := 3) (by decide) dL_law_964 ?_
      refine X_iadd C dL_law_965 ?_
      obtain ⟨g, h⟩ := h
      refine X_sld C SC g dL_law_966 ?_
      refine X_callV C dL_law_967 pw_RL_94 (b := 7) (as := [.int (xs (x3 + 1 : Int32).toNatClampNeg), .int (xs (x3 + 2 : Int32).toNatClampNeg), .int (xs (x3 + 3 : Int32).toNatClampNeg)]) (S := [.int v82]) sh_7 rfl rfl rfl (Nat.le_of_ble_eq_true rfl) (Ct_mono h ?_)
      rintro _ s83 ⟨v84, rfl, h⟩
      show X κ 970 [(0, .ref 9999), (1, .ref 0), (2, .ref 7), (3, .int x3)] [.int v84, .int v82] s83
      refine X_icmp_eq C dL_law_970 (tgt := 2012) (by decide) (fun c => ?_) (fun c => ?_)
      · replace h := h.1 c
        refine X_iinc C dL_law_2012 (j := 3) rfl (v := x3 + 6) rfl (by decide) (L' := [(3, .int (x3 + 6)), (0, .ref 9999), (1, .ref 0), (2, .ref 7)]) rfl ?_
        refine X_goto C dL_law_2015 (tgt := 18) (by decide) ?_
        refine X_loc [1, 2, 3, 0] rfl ?_
        exact h
      · replace h := h.2 c
        refine X_iconst C (v := 0) (by decide) dL_law_973 ?_
        exact h.elim
    · replace h := h.2.2.2.2.2.2.2.2.2.2.2.2.2.2.2.2.2.2.2.2.1 c
      refine X_tableIn C dL_law_33 (by omega) (by omega) (off := 942) (by rw [c]; rfl) (tgt := 975) (by decide) ?_
      refine X_aload_n C dL_law_975 rfl (j := 1) rfl ?_
      refine X_aload_n C dL_law_976 rfl (j := 0) rfl ?_
      refine X_iload_n C dL_law_977 rfl (j := 3) rfl ?_
      refine X_iconst C (v := 1) (by decide) dL_law_978 ?_
      refine X_iadd C dL_law_979 ?_
      obtain ⟨g, h⟩ := h
      refine X_sld C SC g dL_law_980 ?_
      refine X_aload_n C dL_law_981 rfl (j := 0) rfl ?_
      refine X_iload_n C dL_law_982 rfl (j := 3) rfl ?_
      refine X_iconst C (v := 2) (by decide) dL_law_983 ?_
      refine X_iadd C dL_law_984 ?_
      obtain ⟨g, h⟩ := h
      refine X_sld C SC g dL_law_985 ?_
      refine X_aload_n C dL_law_986 rfl (j := 0) rfl ?_
      refine X_iload_n C dL_law_987 rfl (j := 3) rfl ?_
      refine X_iconst C (v := 3) (by decide) dL_law_988 ?_
      refine X_iadd C dL_law_989 ?_
      obtain ⟨g, h⟩ := h
      refine X_sld C SC g dL_law_990 ?_
      refine X_callV C dL_law_991 pw_RL_95 (b := 0) (as := [.int (xs (x3 + 1 : Int32).toNatClampNeg), .int (xs (x3 + 2 : Int32).toNatClampNeg), .int (xs (x3 + 3 : Int32).toNatClampNeg)]) (S := []) sh_0 rfl rfl rfl (Nat.le_of_ble_eq_true rfl) (Ct_mono h ?_)
      rintro _ s85 ⟨v86, rfl, h⟩
      show X κ 994 [(0, .ref 9999), (1, .ref 0), (2, .ref 7), (3, .int x3)] [.int v86] s85
      refine X_aload_n C dL_law_994 rfl (j := 2) rfl ?_
      refine X_aload_n C dL_law_995 rfl (j := 0) rfl ?_
      refine X_iload_n C dL_law_996 rfl (j := 3) rfl ?_
      refine X_iconst C (v := 1) (by decide) dL_law_997 ?_
      refine X_iadd C dL_law_998 ?_
      obtain ⟨g, h⟩ := h
      refine X_sld C SC g dL_law_999 ?_
      refine X_aload_n C dL_law_1000 rfl (j := 0) rfl ?_
      refine X_iload_n C dL_law_1001 rfl (j := 3) rfl ?_
      refine X_iconst C (v := 2) (by decide) dL_law_1002 ?_
      refine X_iadd C dL_law_1003 ?_
      obtain ⟨g, h⟩ := h
      refine X_sld C SC g dL_law_1004 ?_
      refine X_aload_n C dL_law_1005 rfl (j := 0) rfl ?_
      refine X_iload_n C dL_law_1006 rfl (j := 3) rfl ?_
      refine X_iconst C (v := 3) (by decide) dL_law_1007 ?_
      refine X_iadd C dL_law_1008 ?_
      obtain ⟨g, h⟩ := h
      refine X_sld C SC g dL_law_1009 ?_
      refine X_callV C dL_law_1010 pw_RL_98 (b := 7) (as := [.int (xs (x3 + 1 : Int32).toNatClampNeg), .int (xs (x3 + 2 : Int32).toNatClampNeg), .int (xs (x3 + 3 : Int32).toNatClampNeg)]) (S := [.int v86]) sh_7 rfl rfl rfl (Nat.le_of_ble_eq_true rfl) (Ct_mono h ?_)
      rintro _ s87 ⟨v88, rfl, h⟩
      show X κ 1013 [(0, .ref 9999), (1, .ref 0), (2, .ref 7), (3, .int x3)] [.int v88, .int v86] s87
      refine X_icmp_eq C dL_law_1013 (tgt := 2012) (by decide) (fun c => ?_) (fun c => ?_)
      · replace h := h.1 c
        refine X_iinc C dL_law_2012 (j := 3) rfl (v := x3 + 6) rfl (by decide) (L' := [(3, .int (x3 + 6)), (0, .ref 9999), (1, .ref 0), (2, .ref 7)]) rfl ?_
        refine X_goto C dL_law_2015 (tgt := 18) (by decide) ?_
        refine X_loc [1, 2, 3, 0] rfl ?_
        exact h
      · replace h := h.2 c
        refine X_iconst C (v := 0) (by decide) dL_law_1016 ?_
        exact h.elim
    · replace h := h.2.2.2.2.2.2.2.2.2.2.2.2.2.2.2.2.2.2.2.2.2.1 c
      refine X_tableIn C dL_law_33 (by omega) (by omega) (off := 985) (by rw [c]; rfl) (tgt := 1018) (by decide) ?_
      refine X_aload_n C dL_law_1018 rfl (j := 1) rfl ?_
      refine X_aload_n C dL_law_1019 rfl (j := 0) rfl ?_
      refine X_iload_n C dL_law_1020 rfl (j := 3) rfl ?_
      refine X_iconst C (v := 1) (by decide) dL_law_1021 ?_
      refine X_iadd C dL_law_1022 ?_
      obtain ⟨g, h⟩ := h
      refine X_sld C SC g dL_law_1023 ?_
      refine X_aload_n C dL_law_1024 rfl (j := 0) rfl ?_
      refine X_iload_n C dL_law_1025 rfl (j := 3) rfl ?_
      refine X_iconst C (v := 2) (by decide) dL_law_1026 ?_
      refine X_iadd C dL_law_1027 ?_
      obtain ⟨g, h⟩ := h
      refine X_sld C SC g dL_law_1028 ?_
      refine X_callV C dL_law_1029 pw_RL_99 (b := 0) (as := [.int (xs (x3 + 1 : Int32).toNatClampNeg), .int (xs (x3 + 2 : Int32).toNatClampNeg)]) (S := []) sh_0 rfl rfl rfl (Nat.le_of_ble_eq_true rfl) (Ct_mono h ?_)
      rintro _ s89 ⟨v90, rfl, h⟩
      show X κ 1032 [(0, .ref 9999), (1, .ref 0), (2, .ref 7), (3, .int x3)] [.int v90] s89
      refine X_aload_n C dL_law_1032 rfl (j := 2) rfl ?_
      refine X_aload_n C dL_law_1033 rfl (j := 0) rfl ?_
      refine X_iload_n C dL_law_1034 rfl (j := 3) rfl ?_
      refine X_iconst C (v := 1) (by decide) dL_law_1035 ?_
      refine X_iadd C dL_law_1036 ?_
      obtain ⟨g, h⟩ := h
      refine X_sld C SC g dL_law_1037 ?_
      refine X_aload_n C dL_law_1038 rfl (j := 0) rfl ?_
      refine X_iload_n C dL_law_1039 rfl (j := 3) rfl ?_
      refine X_iconst C (v := 2) (by decide) dL_law_1040 ?_
      refine X_iadd C dL_law_1041 ?_
      obtain ⟨g, h⟩ := h
      refine X_sld C SC g dL_law_1042 ?_
      refine X_callV C dL_law_1043 pw_RL_102 (b := 7) (as := [.int (xs (x3 + 1 : Int32).toNatClampNeg), .int (xs (x3 + 2 : Int32).toNatClampNeg)]) (S := [.int v90]) sh_7 rfl rfl rfl (Nat.le_of_ble_eq_true rfl) (Ct_mono h ?_)
      rintro _ s91 ⟨v92, rfl, h⟩
      show X κ 1046 [(0, .ref 9999), (1, .ref 0), (2, .ref 7), (3, .int x3)] [.int v92, .int v90] s91
      refine X_icmp_eq C dL_law_1046 (tgt := 2012) (by decide) (fun c => ?_) (fun c => ?_)
      · replace h := h.1 c
        refine X_iinc C dL_law_2012 (j := 3) rfl (v := x3 + 6) rfl (by decide) (L' := [(3, .int (x3 + 6)), (0, .ref 9999), (1, .ref 0), (2, .ref 7)]) rfl ?_
        refine X_goto C dL_law_2015 (tgt := 18) (by decide) ?_
        refine X_loc [1, 2, 3, 0] rfl ?_
        exact h
      · replace h := h.2 c
        refine X_iconst C (v := 0) (by decide) dL_law_1049 ?_
        exact h.elim
    · replace h := h.2.2.2.2.2.2.2.2.2.2.2.2.2.2.2.2.2.2.2.2.2.2.1 c
      refine X_tableIn C dL_law_33 (by omega) (by omega) (off := 1018) (by rw [c]; rfl) (tgt := 1051) (by decide) ?_
      refine X_aload_n C dL_law_1051 rfl (j := 1) rfl ?_
      refine X_aload_n C dL_law_1052 rfl (j := 0) rfl ?_
      refine X_iload_n C dL_law_1053 rfl (j := 3) rfl ?_
      refine X_iconst C (v := 1) (by decide) dL_law_1054 ?_
      refine X_iadd C dL_law_1055 ?_
      obtain ⟨g, h⟩ := h
      refine X_sld C SC g dL_law_1056 ?_
      refine X_callV C dL_law_1057 pw_RL_103 (b := 0) (as := [.int (xs (x3 + 1 : Int32).toNatClampNeg)]) (S := []) sh_0 rfl rfl rfl (Nat.le_of_ble_eq_true rfl) (Ct_mono h ?_)
      rintro _ s93 ⟨v94, rfl, h⟩
      show X κ 1060 [(0, .ref 9999), (1, .ref 0), (2, .ref 7), (3, .int x3)] [.int v94] s93
      refine X_aload_n C dL_law_1060 rfl (j := 2) rfl ?_
      refine X_aload_n C dL_law_1061 rfl (j := 0) rfl ?_
      refine X_iload_n C dL_law_1062 rfl (j := 3) rfl ?_
      refine X_iconst C (v := 1) (by decide) dL_law_1063 ?_
      refine X_iadd C dL_law_1064 ?_
      obtain ⟨g, h⟩ := h
      refine X_sld C SC g dL_law_1065 ?_
      refine X_callV C dL_law_1066 pw_RL_106 (b := 7) (as := [.int (xs (x3 + 1 : Int32).toNatClampNeg)]) (S := [.int v94]) sh_7 rfl rfl rfl (Nat.le_of_ble_eq_true rfl) (Ct_mono h ?_)
      rintro _ s95 ⟨v96, rfl, h⟩
      show X κ 1069 [(0, .ref 9999), (1, .ref 0), (2, .ref 7), (3, .int x3)] [.int v96, .int v94] s95
      refine X_icmp_eq C dL_law_1069 (tgt := 2012) (by decide) (fun c => ?_) (fun c => ?_)
      · replace h := h.1 c
        refine X_iinc C dL_law_2012 (j := 3) rfl (v := x3 + 6) rfl (by decide) (L' := [(3, .int (x3 + 6)), (0, .ref 9999), (1, .ref 0), (2, .ref 7)]) rfl ?_
        refine X_goto C dL_law_2015 (tgt := 18) (by decide) ?_
        refine X_loc [1, 2, 3, 0] rfl ?_
        exact h
      · replace h := h.2 c
        refine X_iconst C (v := 0) (by decide) dL_law_1072 ?_
        exact h.elim
    · replace h := h.2.2.2.2.2.2.2.2.2.2.2.2.2.2.2.2.2.2.2.2.2.2.2.1 c
      refine X_tableIn C dL_law_33 (by omega) (by omega) (off := 1041) (by rw [c]; rfl) (tgt := 1074) (by decide) ?_
      refine X_aload_n C dL_law_1074 rfl (j := 1) rfl ?_
      refine X_aload_n C dL_law_1075 rfl (j := 0) rfl ?_
      refine X_iload_n C dL_law_1076 rfl (j := 3) rfl ?_
      refine X_iconst C (v := 1) (by decide) dL_law_1077 ?_
      refine X_iadd C dL_law_1078 ?_
      obtain ⟨g, h⟩ := h
      refine X_sld C SC g dL_law_1079 ?_
      refine X_aload_n C dL_law_1080 rfl (j := 0) rfl ?_
      refine X_iload_n C dL_law_1081 rfl (j := 3) rfl ?_
      refine X_iconst C (v := 2) (by decide) dL_law_1082 ?_
      refine X_iadd C dL_law_1083 ?_
      obtain ⟨g, h⟩ := h
      refine X_sld C SC g dL_law_1084 ?_
      refine X_aload_n C dL_law_1085 rfl (j := 0) rfl ?_
      refine X_iload_n C dL_law_1086 rfl (j := 3) rfl ?_
      refine X_iconst C (v := 3) (by decide) dL_law_1087 ?_
      refine X_iadd C dL_law_1088 ?_
      obtain ⟨g, h⟩ := h
      refine X_sld C SC g dL_law_1089 ?_
      refine X_callV C dL_law_1090 pw_RL_107 (b := 0) (as := [.int (xs (x3 + 1 : Int32).toNatClampNeg), .int (xs (x3 + 2 : Int32).toNatClampNeg), .int (xs (x3 + 3 : Int32).toNatClampNeg)]) (S := []) sh_0 rfl rfl rfl (Nat.le_of_ble_eq_true rfl) (Ct_mono h ?_)
      rintro _ s97 ⟨v98, rfl, h⟩
      show X κ 1093 [(0, .ref 9999), (1, .ref 0), (2, .ref 7), (3, .int x3)] [.int v98] s97
      refine X_aload_n C dL_law_1093 rfl (j := 2) rfl ?_
      refine X_aload_n C dL_law_1094 rfl (j := 0) rfl ?_
      refine X_iload_n C dL_law_1095 rfl (j := 3) rfl ?_
      refine X_iconst C (v := 1) (by decide) dL_law_1096 ?_
      refine X_iadd C dL_law_1097 ?_
      obtain ⟨g, h⟩ := h
      refine X_sld C SC g dL_law_1098 ?_
      refine X_aload_n C dL_law_1099 rfl (j := 0) rfl ?_
      refine X_iload_n C dL_law_1100 rfl (j := 3) rfl ?_
      refine X_iconst C (v := 2) (by decide) dL_law_1101 ?_
      refine X_iadd C dL_law_1102 ?_
      obtain ⟨g, h⟩ := h
      refine X_sld C SC g dL_law_1103 ?_
      refine X_aload_n C dL_law_1104 rfl (j := 0) rfl ?_
      refine X_iload_n C dL_law_1105 rfl (j := 3) rfl ?_
      refine X_iconst C (v := 3) (by decide) dL_law_1106 ?_
      refine X_iadd C dL_law_1107 ?_
      obtain ⟨g, h⟩ := h
      refine X_sld C SC g dL_law_1108 ?_
      refine X_callV C dL_law_1109 pw_RL_110 (b := 7) (as := [.int (xs (x3 + 1 : Int32).toNatClampNeg), .int (xs (x3 + 2 : Int32).toNatClampNeg), .int (xs (x3 + 3 : Int32).toNatClampNeg)]) (S := [.int v98]) sh_7 rfl rfl rfl (Nat.le_of_ble_eq_true rfl) (Ct_mono h ?_)
      rintro _ s99 ⟨v100, rfl, h⟩
      show X κ 1112 [(0, .ref 9999), (1, .ref 0), (2, .ref 7), (3, .int x3)] [.int v100, .int v98] s99
      refine X_icmp_eq C dL_law_1112 (tgt := 2012) (by decide) (fun c => ?_) (fun c => ?_)
      · replace h := h.1 c
        refine X_iinc C dL_law_2012 (j := 3) rfl (v := x3 + 6) rfl (by decide) (L' := [(3, .int (x3 + 6)), (0, .ref 9999), (1, .ref 0), (2, .ref 7)]) rfl ?_
        refine X_goto C dL_law_2015 (tgt := 18) (by decide) ?_
        refine X_loc [1, 2, 3, 0] rfl ?_
        exact h
      · replace h := h.2 c
        refine X_iconst C (v := 0) (by decide) dL_law_1115 ?_
        exact h.elim
    · replace h := h.2.2.2.2.2.2.2.2.2.2.2.2.2.2.2.2.2.2.2.2.2.2.2.2.1 c
      refine X_tableIn C dL_law_33 (by omega) (by omega) (off := 1084) (by rw [c]; rfl) (tgt := 1117) (by decide) ?_
      refine X_aload_n C dL_law_1117 rfl (j := 1) rfl ?_
      refine X_aload_n C dL_law_1118 rfl (j := 0) rfl ?_
      refine X_iload_n C dL_law_1119 rfl (j := 3) rfl ?_
      refine X_iconst C (v := 1) (by decide) dL_law_1120 ?_
      refine X_iadd C dL_law_1121 ?_
      obtain ⟨g, h⟩ := h
      refine X_sld C SC g dL_law_1122 ?_
      refine X_aload_n C dL_law_1123 rfl (j := 0) rfl ?_
      refine X_iload_n C dL_law_1124 rfl (j := 3) rfl ?_
      refine X_iconst C (v := 2) (by decide) dL_law_1125 ?_
      refine X_iadd C dL_law_1126 ?_
      obtain ⟨g, h⟩ := h
      refine X_sld C SC g dL_law_1127 ?_
      refine X_callV C dL_law_1128 pw_RL_111 (b := 0) (as := [.int (xs (x3 + 1 : Int32).toNatClampNeg), .int (xs (x3 + 2 : Int32).toNatClampNeg)]) (S := []) sh_0 rfl rfl rfl (Nat.le_of_ble_eq_true rfl) (Ct_mono h ?_)
      rintro _ s101 ⟨v102, rfl, h⟩
      show X κ 1131 [(0, .ref 9999), (1, .ref 0), (2, .ref 7), (3, .int x3)] [.int v102] s101
      refine X_aload_n C dL_law_1131 rfl (j := 2) rfl ?_
      refine X_aload_n C dL_law_1132 rfl (j := 0) rfl ?_
      refine X_iload_n C dL_law_1133 rfl (j := 3) rfl ?_
      refine X_iconst C (v := 1) (by decide) dL_law_1134 ?_
      refine X_iadd C dL_law_1135 ?_
      obtain ⟨g, h⟩ := h
      refine X_sld C SC g dL_law_1136 ?_
      refine X_aload_n C dL_law_1137 rfl (j := 0) rfl ?_
      refine X_iload_n C dL_law_1138 rfl (j := 3) rfl ?_
      refine X_iconst C (v := 2) (by decide) dL_law_1139 ?_
      refine X_iadd C dL_law_1140 ?_
      obtain ⟨g, h⟩ := h
      refine X_sld C SC g dL_law_1141 ?_
      refine X_callV C dL_law_1142 pw_RL_114 (b := 7) (as := [.int (xs (x3 + 1 : Int32).toNatClampNeg), .int (xs (x3 + 2 : Int32).toNatClampNeg)]) (S := [.int v102]) sh_7 rfl rfl rfl (Nat.le_of_ble_eq_true rfl) (Ct_mono h ?_)
      rintro _ s103 ⟨v104, rfl, h⟩
      show X κ 1145 [(0, .ref 9999), (1, .ref 0), (2, .ref 7), (3, .int x3)] [.int v104, .int v102] s103
      refine X_icmp_eq C dL_law_1145 (tgt := 2012) (by decide) (fun c => ?_) (fun c => ?_)
      · replace h := h.1 c
        refine X_iinc C dL_law_2012 (j := 3) rfl (v := x3 + 6) rfl (by decide) (L' := [(3, .int (x3 + 6)), (0, .ref 9999), (1, .ref 0), (2, .ref 7)]) rfl ?_
        refine X_goto C dL_law_2015 (tgt := 18) (by decide) ?_
        refine X_loc [1, 2, 3, 0] rfl ?_
        exact h
      · replace h := h.2 c
        refine X_iconst C (v := 0) (by decide) dL_law_1148 ?_
        exact h.elim
    · replace h := h.2.2.2.2.2.2.2.2.2.2.2.2.2.2.2.2.2.2.2.2.2.2.2.2.2.1 c
      refine X_tableIn C dL_law_33 (by omega) (by omega) (off := 1117) (by rw [c]; rfl) (tgt := 1150) (by decide) ?_
      refine X_aload_n C dL_law_1150 rfl (j := 1) rfl ?_
      refine X_aload_n C dL_law_1151 rfl (j := 0) rfl ?_
      refine X_iload_n C dL_law_1152 rfl (j := 3) rfl ?_
      refine X_iconst C (v := 1) (by decide) dL_law_1153 ?_
      refine X_iadd C dL_law_1154 ?_
      obtain ⟨g, h⟩ := h
      refine X_sld C SC g dL_law_1155 ?_
      refine X_aload_n C dL_law_1156 rfl (j := 0) rfl ?_
      refine X_iload_n C dL_law_1157 rfl (j := 3) rfl ?_
      refine X_iconst C (v := 2) (by decide) dL_law_1158 ?_
      refine X_iadd C dL_law_1159 ?_
      obtain ⟨g, h⟩ := h
      refine X_sld C SC g dL_law_1160 ?_
      refine X_callV C dL_law_1161 pw_RL_115 (b := 0) (as := [.int (xs (x3 + 1 : Int32).toNatClampNeg), .int (xs (x3 + 2 : Int32).toNatClampNeg)]) (S := []) sh_0 rfl rfl rfl (Nat.le_of_ble_eq_true rfl) (Ct_mono h ?_)
      rintro _ s105 ⟨v106, rfl, h⟩
      show X κ 1164 [(0, .ref 9999), (1, .ref 0), (2, .ref 7), (3, .int x3)] [.int v106] s105
      refine X_aload_n C dL_law_1164 rfl (j := 2) rfl ?_
      refine X_aload_n C dL_law_1165 rfl (j := 0) rfl ?_
      refine X_iload_n C dL_law_1166 rfl (j := 3) rfl ?_
      refine X_iconst C (v := 1) (by decide) dL_law_1167 ?_
      refine X_iadd C dL_law_1168 ?_
      obtain ⟨g, h⟩ := h
      refine X_sld C SC g dL_law_1169 ?_
      refine X_aload_n C dL_law_1170 rfl (j := 0) rfl ?_
      refine X_iload_n C dL_law_1171 rfl (j := 3) rfl ?_
      refine X_iconst C (v := 2) (by decide) dL_law_1172 ?_
      refine X_iadd C dL_law_1173 ?_
      obtain ⟨g, h⟩ := h
      refine X_sld C SC g dL_law_1174 ?_
      refine X_callV C dL_law_1175 pw_RL_118 (b := 7) (as := [.int (xs (x3 + 1 : Int32).toNatClampNeg), .int (xs (x3 + 2 : Int32).toNatClampNeg)]) (S := [.int v106]) sh_7 rfl rfl rfl (Nat.le_of_ble_eq_true rfl) (Ct_mono h ?_)
      rintro _ s107 ⟨v108, rfl, h⟩
      show X κ 1178 [(0, .ref 9999), (1, .ref 0), (2, .ref 7), (3, .int x3)] [.int v108, .int v106] s107
      refine X_icmp_eq C dL_law_1178 (tgt := 2012) (by decide) (fun c => ?_) (fun c => ?_)
      · replace h := h.1 c
        refine X_iinc C dL_law_2012 (j := 3) rfl (v := x3 + 6) rfl (by decide) (L' := [(3, .int (x3 + 6)), (0, .ref 9999), (1, .ref 0), (2, .ref 7)]) rfl ?_
        refine X_goto C dL_law_2015 (tgt := 18) (by decide) ?_
        refine X_loc [1, 2, 3, 0] rfl ?_
        exact h
      · replace h := h.2 c
        refine X_iconst C (v := 0) (by decide) dL_law_1181 ?_
        exact h.elim
    · replace h := h.2.2.2.2.2.2.2.2.2.2.2.2.2.2.2.2.2.2.2.2.2.2.2.2.2.2.1 c
      refine X_tableIn C dL_law_33 (by omega) (by omega) (off := 1150) (by rw [c]; rfl) (tgt := 1183) (by decide) ?_
      refine X_aload_n C dL_law_1183 rfl (j := 1) rfl ?_
      refine X_callV C dL_law_1184 pw_RL_119 (b := 0) (as := []) (S := []) sh_0 rfl rfl rfl (Nat.le_of_ble_eq_true rfl) (Ct_mono h ?_)
      rintro _ s109 ⟨v110, rfl, h⟩
      show X κ 1187 [(0, .ref 9999), (1, .ref 0), (2, .ref 7), (3, .int x3)] [.int v110] s109
      refine X_aload_n C dL_law_1187 rfl (j := 2) rfl ?_
      refine X_callV C dL_law_1188 pw_RL_122 (b := 7) (as := []) (S := [.int v110]) sh_7 rfl rfl rfl (Nat.le_of_ble_eq_true rfl) (Ct_mono h ?_)
      rintro _ s111 ⟨v112, rfl, h⟩
      show X κ 1191 [(0, .ref 9999), (1, .ref 0), (2, .ref 7), (3, .int x3)] [.int v112, .int v110] s111
      refine X_icmp_eq C dL_law_1191 (tgt := 2012) (by decide) (fun c => ?_) (fun c => ?_)
      · replace h := h.1 c
        refine X_iinc C dL_law_2012 (j := 3) rfl (v := x3 + 6) rfl (by decide) (L' := [(3, .int (x3 + 6)), (0, .ref 9999), (1, .ref 0), (2, .ref 7)]) rfl ?_
        refine X_goto C dL_law_2015 (tgt := 18) (by decide) ?_
        refine X_loc [1, 2, 3, 0] rfl ?_
        exact h
      · replace h := h.2 c
        refine X_iconst C (v := 0) (by decide) dL_law_1194 ?_
        exact h.elim
    · replace h := h.2.2.2.2.2.2.2.2.2.2.2.2.2.2.2.2.2.2.2.2.2.2.2.2.2.2.2.1 c
      refine X_tableIn C dL_law_33 (by omega) (by omega) (off := 1163) (by rw [c]; rfl) (tgt := 1196) (by decide) ?_
      refine X_aload_n C dL_law_1196 rfl (j := 1) rfl ?_
      refine X_aload_n C dL_law_1197 rfl (j := 0) rfl ?_
      refine X_iload_n C dL_law_1198 rfl (j := 3) rfl ?_
      refine X_iconst C (v := 1) (by decide) dL_law_1199 ?_
      refine X_iadd C dL_law_1200 ?_
      obtain ⟨g, h⟩ := h
      refine X_sld C SC g dL_law_1201 ?_
      refine X_callV C dL_law_1202 pw_RL_123 (b := 0) (as := [.int (xs (x3 + 1 : Int32).toNatClampNeg)]) (S := []) sh_0 rfl rfl rfl (Nat.le_of_ble_eq_true rfl) (Ct_mono h ?_)
      rintro _ s113 ⟨v114, rfl, h⟩
      show X κ 1205 [(0, .ref 9999), (1, .ref 0), (2, .ref 7), (3, .int x3)] [.int v114] s113
      refine X_aload_n C dL_law_1205 rfl (j := 2) rfl ?_
      refine X_aload_n C dL_law_1206 rfl (j := 0) rfl ?_
      refine X_iload_n C dL_law_1207 rfl (j := 3) rfl ?_
      refine X_iconst C (v := 1) (by decide) dL_law_1208 ?_
      refine X_iadd C dL_law_1209 ?_
      obtain ⟨g, h⟩ := h
      refine X_sld C SC g dL_law_1210 ?_
      refine X_callV C dL_law_1211 pw_RL_126 (b := 7) (as := [.int (xs (x3 + 1 : Int32).toNatClampNeg)]) (S := [.int v114]) sh_7 rfl rfl rfl (Nat.le_of_ble_eq_true rfl) (Ct_mono h ?_)
      rintro _ s115 ⟨v116, rfl, h⟩
      show X κ 1214 [(0, .ref 9999), (1, .ref 0), (2, .ref 7), (3, .int x3)] [.int v116, .int v114] s115
      refine X_icmp_eq C dL_law_1214 (tgt := 2012) (by decide) (fun c => ?_) (fun c => ?_)
      · replace h := h.1 c
        refine X_iinc C dL_law_2012 (j := 3) rfl (v := x3 + 6) rfl (by decide) (L' := [(3, .int (x3 + 6)), (0, .ref 9999), (1, .ref 0), (2, .ref 7)]) rfl ?_
        refine X_goto C dL_law_2015 (tgt := 18) (by decide) ?_
        refine X_loc [1, 2, 3, 0] rfl ?_
        exact h
      · replace h := h.2 c
        refine X_iconst C (v := 0) (by decide) dL_law_1217 ?_
        exact h.elim
    · replace h := h.2.2.2.2.2.2.2.2.2.2.2.2.2.2.2.2.2.2.2.2.2.2.2.2.2.2.2.2.1 c
      refine X_tableIn C dL_law_33 (by omega) (by omega) (off := 1186) (by rw [c]; rfl) (tgt := 1219) (by decide) ?_
      refine X_aload_n C dL_law_1219 rfl (j := 1) rfl ?_
      refine X_aload_n C dL_law_1220 rfl (j := 0) rfl ?_
      refine X_iload_n C dL_law_1221 rfl (j := 3) rfl ?_
      refine X_iconst C (v := 1) (by decide) dL_law_1222 ?_
      refine X_iadd C dL_law_1223 ?_
      obtain ⟨g, h⟩ := h
      refine X_sld C SC g dL_law_1224 ?_
      refine X_aload_n C dL_law_1225 rfl (j := 0) rfl ?_
      refine X_iload_n C dL_law_1226 rfl (j := 3) rfl ?_
      refine X_iconst C (v := 2) (by decide) dL_law_1227 ?_
      refine X_iadd C dL_law_1228 ?_
      obtain ⟨g, h⟩ := h
      refine X_sld C SC g dL_law_1229 ?_
      refine X_aload_n C dL_law_1230 rfl (j := 0) rfl ?_
      refine X_iload_n C dL_law_1231 rfl (j := 3) rfl ?_
      refine X_iconst C (v := 3) (by decide) dL_law_1232 ?_
      refine X_iadd C dL_law_1233 ?_
      obtain ⟨g, h⟩ := h
      refine X_sld C SC g dL_law_1234 ?_
      refine X_callV C dL_law_1235 pw_RL_127 (b := 0) (as := [.int (xs (x3 + 1 : Int32).toNatClampNeg), .int (xs (x3 + 2 : Int32).toNatClampNeg), .int (xs (x3 + 3 : Int32).toNatClampNeg)]) (S := []) sh_0 rfl rfl rfl (Nat.le_of_ble_eq_true rfl) (Ct_mono h ?_)
      rintro _ s117 ⟨v118, rfl, h⟩
      show X κ 1238 [(0, .ref 9999), (1, .ref 0), (2, .ref 7), (3, .int x3)] [.int v118] s117
      refine X_aload_n C dL_law_1238 rfl (j := 2) rfl ?_
      refine X_aload_n C dL_law_1239 rfl (j := 0) rfl ?_
      refine X_iload_n C dL_law_1240 rfl (j := 3) rfl ?_
      refine X_iconst C (v := 1) (by decide) dL_law_1241 ?_
      refine X_iadd C dL_law_1242 ?_
      obtain ⟨g, h⟩ := h
      refine X_sld C SC g dL_law_1243 ?_
      refine X_aload_n C dL_law_1244 rfl (j := 0) rfl ?_
      refine X_iload_n C dL_law_1245 rfl (j := 3) rfl ?_
      refine X_iconst C (v := 2) (by decide) dL_law_1246 ?_
      refine X_iadd C dL_law_1247 ?_
      obtain ⟨g, h⟩ := h
      refine X_sld C SC g dL_law_1248 ?_
      refine X_aload_n C dL_law_1249 rfl (j := 0) rfl ?_
      refine X_iload_n C dL_law_1250 rfl (j := 3) rfl ?_
      refine X_iconst C (v := 3) (by decide) dL_law_1251 ?_
      refine X_iadd C dL_law_1252 ?_
      obtain ⟨g, h⟩ := h
      refine X_sld C SC g dL_law_1253 ?_
      refine X_callV C dL_law_1254 pw_RL_130 (b := 7) (as := [.int (xs (x3 + 1 : Int32).toNatClampNeg), .int (xs (x3 + 2 : Int32).toNatClampNeg), .int (xs (x3 + 3 : Int32).toNatClampNeg)]) (S := [.int v118]) sh_7 rfl rfl rfl (Nat.le_of_ble_eq_true rfl) (Ct_mono h ?_)
      rintro _ s119 ⟨v120, rfl, h⟩
      show X κ 1257 [(0, .ref 9999), (1, .ref 0), (2, .ref 7), (3, .int x3)] [.int v120, .int v118] s119
      refine X_icmp_eq C dL_law_1257 (tgt := 2012) (by decide) (fun c => ?_) (fun c => ?_)
      · replace h := h.1 c
        refine X_iinc C dL_law_2012 (j := 3) rfl (v := x3 + 6) rfl (by decide) (L' := [(3, .int (x3 + 6)), (0, .ref 9999), (1, .ref 0), (2, .ref 7)]) rfl ?_
        refine X_goto C dL_law_2015 (tgt := 18) (by decide) ?_
        refine X_loc [1, 2, 3, 0] rfl ?_
        exact h
      · replace h := h.2 c
        refine X_iconst C (v := 0) (by decide) dL_law_1260 ?_
        exact h.elim
    · replace h := h.2.2.2.2.2.2.2.2.2.2.2.2.2.2.2.2.2.2.2.2.2.2.2.2.2.2.2.2.2.1 c
      refine X_tableIn C dL_law_33 (by omega) (by omega) (off := 1229) (by rw [c]; rfl) (tgt := 1262) (by decide) ?_
      refine X_aload_n C dL_law_1262 rfl (j := 1) rfl ?_
      refine X_aload_n C dL_law_1263 rfl (j := 0) rfl ?_
      refine X_iload_n C dL_law_1264 rfl (j := 3) rfl ?_
      refine X_iconst C (v := 1) (by decide) dL_law_1265 ?_
      refine X_iadd C dL_law_1266 ?_
      obtain ⟨g, h⟩ := h
      refine X_sld C SC g dL_law_1267 ?_
      refine X_aload_n C dL_law_1268 rfl (j := 0) rfl ?_
      refine X_iload_n C dL_law_1269 rfl (j := 3) rfl ?_
      refine X_iconst C (v := 2) (by decide) dL_law_1270 ?_
      refine X_iadd C dL_law_1271 ?_
      obtain ⟨g, h⟩ := h
      refine X_sld C SC g dL_law_1272 ?_
      refine X_callV C dL_law_1273 pw_RL_131 (b := 0) (as := [.int (xs (x3 + 1 : Int32).toNatClampNeg), .int (xs (x3 + 2 : Int32).toNatClampNeg)]) (S := []) sh_0 rfl rfl rfl (Nat.le_of_ble_eq_true rfl) (Ct_mono h ?_)
      rintro _ s121 ⟨v122, rfl, h⟩
      show X κ 1276 [(0, .ref 9999), (1, .ref 0), (2, .ref 7), (3, .int x3)] [.int v122] s121
      refine X_aload_n C dL_law_1276 rfl (j := 2) rfl ?_
      refine X_aload_n C dL_law_1277 rfl (j := 0) rfl ?_
      refine X_iload_n C dL_law_1278 rfl (j := 3) rfl ?_
      refine X_iconst C (v := 1) (by decide) dL_law_1279 ?_
      refine X_iadd C dL_law_1280 ?_
      obtain ⟨g, h⟩ := h
      refine X_sld C SC g dL_law_1281 ?_
      refine X_aload_n C dL_law_1282 rfl (j := 0) rfl ?_
      refine X_iload_n C dL_law_1283 rfl (j := 3) rfl ?_
      refine X_iconst C (v := 2) (by decide) dL_law_1284 ?_
      refine X_iadd C dL_law_1285 ?_
      obtain ⟨g, h⟩ := h
      refine X_sld C SC g dL_law_1286 ?_
      refine X_callV C dL_law_1287 pw_RL_134 (b := 7) (as := [.int (xs (x3 + 1 : Int32).toNatClampNeg), .int (xs (x3 + 2 : Int32).toNatClampNeg)]) (S := [.int v122]) sh_7 rfl rfl rfl (Nat.le_of_ble_eq_true rfl) (Ct_mono h ?_)
      rintro _ s123 ⟨v124, rfl, h⟩
      show X κ 1290 [(0, .ref 9999), (1, .ref 0), (2, .ref 7), (3, .int x3)] [.int v124, .int v122] s123
      refine X_icmp_eq C dL_law_1290 (tgt := 2012) (by decide) (fun c => ?_) (fun c => ?_)
      · replace h := h.1 c
        refine X_iinc C dL_law_2012 (j := 3) rfl (v := x3 + 6) rfl (by decide) (L' := [(3, .int (x3 + 6)), (0, .ref 9999), (1, .ref 0), (2, .ref 7)]) rfl ?_
        refine X_goto C dL_law_2015 (tgt := 18) (by decide) ?_
        refine X_loc [1, 2, 3, 0] rfl ?_
        exact h
      · replace h := h.2 c
        refine X_iconst C (v := 0) (by decide) dL_law_1293 ?_
        exact h.elim
    · replace h := h.2.2.2.2.2.2.2.2.2.2.2.2.2.2.2.2.2.2.2.2.2.2.2.2.2.2.2.2.2.2.1 c
      refine X_tableIn C dL_law_33 (by omega) (by omega) (off := 1262) (by rw [c]; rfl) (tgt := 1295) (by decide) ?_
      refine X_aload_n C dL_law_1295 rfl (j := 1) rfl ?_
      refine X_aload_n C dL_law_1296 rfl (j := 0) rfl ?_
      refine X_iload_n C dL_law_1297 rfl (j := 3) rfl ?_
      refine X_iconst C (v := 1) (by decide) dL_law_1298 ?_
      refine X_iadd C dL_law_1299 ?_
      obtain ⟨g, h⟩ := h
      refine X_sld C SC g dL_law_1300 ?_
      refine X_aload_n C dL_law_1301 rfl (j := 0) rfl ?_
      refine X_iload_n C dL_law_1302 rfl (j := 3) rfl ?_
      refine X_iconst C (v := 2) (by decide) dL_law_1303 ?_
      refine X_iadd C dL_law_1304 ?_
      obtain ⟨g, h⟩ := h
      refine X_sld C SC g dL_law_1305 ?_
      refine X_callV C dL_law_1306 pw_RL_135 (b := 0) (as := [.int (xs (x3 + 1 : Int32).toNatClampNeg), .int (xs (x3 + 2 : Int32).toNatClampNeg)]) (S := []) sh_0 rfl rfl rfl (Nat.le_of_ble_eq_true rfl) (Ct_mono h ?_)
      rintro _ s125 ⟨v126, rfl, h⟩
      show X κ 1309 [(0, .ref 9999), (1, .ref 0), (2, .ref 7), (3, .int x3)] [.int v126] s125
      refine X_aload_n C dL_law_1309 rfl (j := 2) rfl ?_
      refine X_aload_n C dL_law_1310 rfl (j := 0) rfl ?_
      refine X_iload_n C dL_law_1311 rfl (j := 3) rfl ?_
      refine X_iconst C (v := 1) (by decide) dL_law_1312 ?_
      refine X_iadd C dL_law_1313 ?_
      obtain ⟨g, h⟩ := h
      refine X_sld C SC g dL_law_1314 ?_
      refine X_aload_n C dL_law_1315 rfl (j := 0) rfl ?_
      refine X_iload_n C dL_law_1316 rfl (j := 3) rfl ?_
      refine X_iconst C (v := 2) (by decide) dL_law_1317 ?_
      refine X_iadd C dL_law_1318 ?_
      obtain ⟨g, h⟩ := h
      refine X_sld C SC g dL_law_1319 ?_
      refine X_callV C dL_law_1320 pw_RL_138 (b := 7) (as := [.int (xs (x3 + 1 : Int32).toNatClampNeg), .int (xs (x3 + 2 : Int32).toNatClampNeg)]) (S := [.int v126]) sh_7 rfl rfl rfl (Nat.le_of_ble_eq_true rfl) (Ct_mono h ?_)
      rintro _ s127 ⟨v128, rfl, h⟩
      show X κ 1323 [(0, .ref 9999), (1, .ref 0), (2, .ref 7), (3, .int x3)] [.int v128, .int v126] s127
      refine X_icmp_eq C dL_law_1323 (tgt := 2012) (by decide) (fun c => ?_) (fun c => ?_)
      · replace h := h.1 c
        refine X_iinc C dL_law_2012 (j := 3) rfl (v := x3 + 6) rfl (by decide) (L' := [(3, .int (x3 + 6)), (0, .ref 9999), (1, .ref 0), (2, .ref 7)]) rfl ?_
        refine X_goto C dL_law_2015 (tgt := 18) (by decide) ?_
        refine X_loc [1, 2, 3, 0] rfl ?_
        exact h
      · replace h := h.2 c
        refine X_iconst C (v := 0) (by decide) dL_law_1326 ?_
        exact h.elim
    · replace h := h.2.2.2.2.2.2.2.2.2.2.2.2.2.2.2.2.2.2.2.2.2.2.2.2.2.2.2.2.2.2.2.1 c
      refine X_tableIn C dL_law_33 (by omega) (by omega) (off := 1295) (by rw [c]; rfl) (tgt := 1328) (by decide) ?_
      refine X_aload_n C dL_law_1328 rfl (j := 1) rfl ?_
      refine X_aload_n C dL_law_1329 rfl (j := 0) rfl ?_
      refine X_iload_n C dL_law_1330 rfl (j := 3) rfl ?_
      refine X_iconst C (v := 1) (by decide) dL_law_1331 ?_
      refine X_iadd C dL_law_1332 ?_
      obtain ⟨g, h⟩ := h
      refine X_sld C SC g dL_law_1333 ?_
      refine X_aload_n C dL_law_1334 rfl (j := 0) rfl ?_
      refine X_iload_n C dL_law_1335 rfl (j := 3) rfl ?_
      refine X_iconst C (v := 2) (by decide) dL_law_1336 ?_
      refine X_iadd C dL_law_1337 ?_
      obtain ⟨g, h⟩ := h
      refine X_sld C SC g dL_law_1338 ?_
      refine X_callV C dL_law_1339 pw_RL_139 (b := 0) (as := [.int (xs (x3 + 1 : Int32).toNatClampNeg), .int (xs (x3 + 2 : Int32).toNatClampNeg)]) (S := []) sh_0 rfl rfl rfl (Nat.le_of_ble_eq_true rfl) (Ct_mono h ?_)
      rintro _ s129 ⟨v130, rfl, h⟩
      show X κ 1342 [(0, .ref 9999), (1, .ref 0), (2, .ref 7), (3, .int x3)] [.int v130] s129
      refine X_aload_n C dL_law_1342 rfl (j := 2) rfl ?_
      refine X_aload_n C dL_law_1343 rfl (j := 0) rfl ?_
      refine X_iload_n C dL_law_1344 rfl (j := 3) rfl ?_
      refine X_iconst C (v := 1) (by decide) dL_law_1345 ?_
      refine X_iadd C dL_law_1346 ?_
      obtain ⟨g, h⟩ := h
      refine X_sld C SC g dL_law_1347 ?_
      refine X_aload_n C dL_law_1348 rfl (j := 0) rfl ?_
      refine X_iload_n C dL_law_1349 rfl (j := 3) rfl ?_
      refine X_iconst C (v := 2) (by decide) dL_law_1350 ?_
      refine X_iadd C dL_law_1351 ?_
      obtain ⟨g, h⟩ := h
      refine X_sld C SC g dL_law_1352 ?_
      refine X_callV C dL_law_1353 pw_RL_142 (b := 7) (as := [.int (xs (x3 + 1 : Int32).toNatClampNeg), .int (xs (x3 + 2 : Int32).toNatClampNeg)]) (S := [.int v130]) sh_7 rfl rfl rfl (Nat.le_of_ble_eq_true rfl) (Ct_mono h ?_)
      rintro _ s131 ⟨v132, rfl, h⟩
      show X κ 1356 [(0, .ref 9999), (1, .ref 0), (2, .ref 7), (3, .int x3)] [.int v132, .int v130] s131
      refine X_icmp_eq C dL_law_1356 (tgt := 2012) (by decide) (fun c => ?_) (fun c => ?_)
      · replace h := h.1 c
        refine X_iinc C dL_law_2012 (j := 3) rfl (v := x3 + 6) rfl (by decide) (L' := [(3, .int (x3 + 6)), (0, .ref 9999), (1, .ref 0), (2, .ref 7)]) rfl ?_
        refine X_goto C dL_law_2015 (tgt := 18) (by decide) ?_
        refine X_loc [1, 2, 3, 0] rfl ?_
        exact h
      · replace h := h.2 c
        refine X_iconst C (v := 0) (by decide) dL_law_1359 ?_
        exact h.elim
    · replace h := h.2.2.2.2.2.2.2.2.2.2.2.2.2.2.2.2.2.2.2.2.2.2.2.2.2.2.2.2.2.2.2.2.1 c
      refine X_tableIn C dL_law_33 (by omega) (by omega) (off := 1328) (by rw [c]; rfl) (tgt := 1361) (by decide) ?_
      refine X_aload_n C dL_law_1361 rfl (j := 1) rfl ?_
      refine X_aload_n C dL_law_1362 rfl (j := 0) rfl ?_
      refine X_iload_n C dL_law_1363 rfl (j := 3) rfl ?_
      refine X_iconst C (v := 1) (by decide) dL_law_1364 ?_
      refine X_iadd C dL_law_1365 ?_
      obtain ⟨g, h⟩ := h
      refine X_sld C SC g dL_law_1366 ?_
      refine X_callV C dL_law_1367 pw_RL_143 (b := 0) (as := [.int (xs (x3 + 1 : Int32).toNatClampNeg)]) (S := []) sh_0 rfl rfl rfl (Nat.le_of_ble_eq_true rfl) (Ct_mono h ?_)
      rintro _ s133 ⟨v134, rfl, h⟩
      show X κ 1370 [(0, .ref 9999), (1, .ref 0), (2, .ref 7), (3, .int x3)] [.int v134] s133
      refine X_aload_n C dL_law_1370 rfl (j := 2) rfl ?_
      refine X_aload_n C dL_law_1371 rfl (j := 0) rfl ?_
      refine X_iload_n C dL_law_1372 rfl (j := 3) rfl ?_
      refine X_iconst C (v := 1) (by decide) dL_law_1373 ?_
      refine X_iadd C dL_law_1374 ?_
      obtain ⟨g, h⟩ := h
      refine X_sld C SC g dL_law_1375 ?_
      refine X_callV C dL_law_1376 pw_RL_146 (b := 7) (as := [.int (xs (x3 + 1 : Int32).toNatClampNeg)]) (S := [.int v134]) sh_7 rfl rfl rfl (Nat.le_of_ble_eq_true rfl) (Ct_mono h ?_)
      rintro _ s135 ⟨v136, rfl, h⟩
      show X κ 1379 [(0, .ref 9999), (1, .ref 0), (2, .ref 7), (3, .int x3)] [.int v136, .int v134] s135
      refine X_icmp_eq C dL_law_1379 (tgt := 2012) (by decide) (fun c => ?_) (fun c => ?_)
      · replace h := h.1 c
        refine X_iinc C dL_law_2012 (j := 3) rfl (v := x3 + 6) rfl (by decide) (L' := [(3, .int (x3 + 6)), (0, .ref 9999), (1, .ref 0), (2, .ref 7)]) rfl ?_
        refine X_goto C dL_law_2015 (tgt := 18) (by decide) ?_
        refine X_loc [1, 2, 3, 0] rfl ?_
        exact h
      · replace h := h.2 c
        refine X_iconst C (v := 0) (by decide) dL_law_1382 ?_
        exact h.elim
    · replace h := h.2.2.2.2.2.2.2.2.2.2.2.2.2.2.2.2.2.2.2.2.2.2.2.2.2.2.2.2.2.2.2.2.2.1 c
      refine X_tableIn C dL_law_33 (by omega) (by omega) (off := 1351) (by rw [c]; rfl) (tgt := 1384) (by decide) ?_
      refine X_aload_n C dL_law_1384 rfl (j := 1) rfl ?_
      refine X_aload_n C dL_law_1385 rfl (j := 0) rfl ?_
      refine X_iload_n C dL_law_1386 rfl (j := 3) rfl ?_
      refine X_iconst C (v := 1) (by decide) dL_law_1387 ?_
      refine X_iadd C dL_law_1388 ?_
      obtain ⟨g, h⟩ := h
      refine X_sld C SC g dL_law_1389 ?_
      refine X_callV C dL_law_1390 pw_RL_147 (b := 0) (as := [.int (xs (x3 + 1 : Int32).toNatClampNeg)]) (S := []) sh_0 rfl rfl rfl (Nat.le_of_ble_eq_true rfl) (Ct_mono h ?_)
      rintro _ s137 ⟨v138, rfl, h⟩
      show X κ 1393 [(0, .ref 9999), (1, .ref 0), (2, .ref 7), (3, .int x3)] [.int v138] s137
      refine X_aload_n C dL_law_1393 rfl (j := 2) rfl ?_
      refine X_aload_n C dL_law_1394 rfl (j := 0) rfl ?_
      refine X_iload_n C dL_law_1395 rfl (j := 3) rfl ?_
      refine X_iconst C (v := 1) (by decide) dL_law_1396 ?_
      refine X_iadd C dL_law_1397 ?_
      obtain ⟨g, h⟩ := h
      refine X_sld C SC g dL_law_1398 ?_
      refine X_callV C dL_law_1399 pw_RL_150 (b := 7) (as := [.int (xs (x3 + 1 : Int32).toNatClampNeg)]) (S := [.int v138]) sh_7 rfl rfl rfl (Nat.le_of_ble_eq_true rfl) (Ct_mono h ?_)
      rintro _ s139 ⟨v140, rfl, h⟩
      show X κ 1402 [(0, .ref 9999), (1, .ref 0), (2, .ref 7), (3, .int x3)] [.int v140, .int v138] s139
      refine X_icmp_eq C dL_law_1402 (tgt := 2012) (by decide) (fun c => ?_) (fun c => ?_)
      · replace h := h.1 c
        refine X_iinc C dL_law_2012 (j := 3) rfl (v := x3 + 6) rfl (by decide) (L' := [(3, .int (x3 + 6)), (0, .ref 9999), (1, .ref 0), (2, .ref 7)]) rfl ?_
        refine X_goto C dL_law_2015 (tgt := 18) (by decide) ?_
        refine X_loc [1, 2, 3, 0] rfl ?_
        exact h
      · replace h := h.2 c
        refine X_iconst C (v := 0) (by decide) dL_law_1405 ?_
        exact h.elim
    · replace h := h.2.2.2.2.2.2.2.2.2.2.2.2.2.2.2.2.2.2.2.2.2.2.2.2.2.2.2.2.2.2.2.2.2.2.1 c
      refine X_tableIn C dL_law_33 (by omega) (by omega) (off := 1374) (by rw [c]; rfl) (tgt := 1407) (by decide) ?_
      refine X_aload_n C dL_law_1407 rfl (j := 1) rfl ?_
      refine X_aload_n C dL_law_1408 rfl (j := 0) rfl ?_
      refine X_iload_n C dL_law_1409 rfl (j := 3) rfl ?_
      refine X_iconst C (v := 1) (by decide) dL_law_1410 ?_
      refine X_iadd C dL_law_1411 ?_
      obtain ⟨g, h⟩ := h
      refine X_sld C SC g dL_law_1412 ?_
      refine X_callV C dL_law_1413 pw_RL_151 (b := 0) (as := [.int (xs (x3 + 1 : Int32).toNatClampNeg)]) (S := []) sh_0 rfl rfl rfl (Nat.le_of_ble_eq_true rfl) (Ct_mono h ?_)
      rintro _ s141 ⟨v142, rfl, h⟩
      show X κ 1416 [(0, .ref 9999), (1, .ref 0), (2, .ref 7), (3, .int x3)] [.int v142] s141
      refine X_aload_n C dL_law_1416 rfl (j := 2) rfl ?_
      refine X_aload_n C dL_law_1417 rfl (j := 0) rfl ?_
      refine X_iload_n C dL_law_1418 rfl (j := 3) rfl ?_
      refine X_iconst C (v := 1) (by decide) dL_law_1419 ?_
      refine X_iadd C dL_law_1420 ?_
      obtain ⟨g, h⟩ := h
      refine X_sld C SC g dL_law_1421 ?_
      refine X_callV C dL_law_1422 pw_RL_154 (b := 7) (as := [.int (xs (x3 + 1 : Int32).toNatClampNeg)]) (S := [.int v142]) sh_7 rfl rfl rfl (Nat.le_of_ble_eq_true rfl) (Ct_mono h ?_)
      rintro _ s143 ⟨v144, rfl, h⟩
      show X κ 1425 [(0, .ref 9999), (1, .ref 0), (2, .ref 7), (3, .int x3)] [.int v144, .int v142] s143
      refine X_icmp_eq C dL_law_1425 (tgt := 2012) (by decide) (fun c => ?_) (fun c => ?_)
      · replace h := h.1 c
        refine X_iinc C dL_law_2012 (j := 3) rfl (v := x3 + 6) rfl (by decide) (L' := [(3, .int (x3 + 6)), (0, .ref 9999), (1, .ref 0), (2, .ref 7)]) rfl ?_
        refine X_goto C dL_law_2015 (tgt := 18) (by decide) ?_
        refine X_loc [1, 2, 3, 0] rfl ?_
        exact h
      · replace h := h.2 c
        refine X_iconst C (v := 0) (by decide) dL_law_1428 ?_
        exact h.elim
    · replace h := h.2.2.2.2.2.2.2.2.2.2.2.2.2.2.2.2.2.2.2.2.2.2.2.2.2.2.2.2.2.2.2.2.2.2.2.1 c
      refine X_tableIn C dL_law_33 (by omega) (by omega) (off := 1397) (by rw [c]; rfl) (tgt := 1430) (by decide) ?_
      refine X_aload_n C dL_law_1430 rfl (j := 1) rfl ?_
      refine X_aload_n C dL_law_1431 rfl (j := 0) rfl ?_
      refine X_iload_n C dL_law_1432 rfl (j := 3) rfl ?_
      refine X_iconst C (v := 1) (by decide) dL_law_1433 ?_
      refine X_iadd C dL_law_1434 ?_
      obtain ⟨g, h⟩ := h
      refine X_sld C SC g dL_law_1435 ?_
      refine X_callV C dL_law_1436 pw_RL_155 (b := 0) (as := [.int (xs (x3 + 1 : Int32).toNatClampNeg)]) (S := []) sh_0 rfl rfl rfl (Nat.le_of_ble_eq_true rfl) (Ct_mono h ?_)
      rintro _ s145 ⟨v146, rfl, h⟩
      show X κ 1439 [(0, .ref 9999), (1, .ref 0), (2, .ref 7), (3, .int x3)] [.int v146] s145
      refine X_aload_n C dL_law_1439 rfl (j := 2) rfl ?_
      refine X_aload_n C dL_law_1440 rfl (j := 0) rfl ?_
      refine X_iload_n C dL_law_1441 rfl (j := 3) rfl ?_
      refine X_iconst C (v := 1) (by decide) dL_law_1442 ?_
      refine X_iadd C dL_law_1443 ?_
      obtain ⟨g, h⟩ := h
      refine X_sld C SC g dL_law_1444 ?_
      refine X_callV C dL_law_1445 pw_RL_158 (b := 7) (as := [.int (xs (x3 + 1 : Int32).toNatClampNeg)]) (S := [.int v146]) sh_7 rfl rfl rfl (Nat.le_of_ble_eq_true rfl) (Ct_mono h ?_)
      rintro _ s147 ⟨v148, rfl, h⟩
      show X κ 1448 [(0, .ref 9999), (1, .ref 0), (2, .ref 7), (3, .int x3)] [.int v148, .int v146] s147
      refine X_icmp_eq C dL_law_1448 (tgt := 2012) (by decide) (fun c => ?_) (fun c => ?_)
      · replace h := h.1 c
        refine X_iinc C dL_law_2012 (j := 3) rfl (v := x3 + 6) rfl (by decide) (L' := [(3, .int (x3 + 6)), (0, .ref 9999), (1, .ref 0), (2, .ref 7)]) rfl ?_
        refine X_goto C dL_law_2015 (tgt := 18) (by decide) ?_
        refine X_loc [1, 2, 3, 0] rfl ?_
        exact h
      · replace h := h.2 c
        refine X_iconst C (v := 0) (by decide) dL_law_1451 ?_
        exact h.elim
    · replace h := h.2.2.2.2.2.2.2.2.2.2.2.2.2.2.2.2.2.2.2.2.2.2.2.2.2.2.2.2.2.2.2.2.2.2.2.2.1 c
      refine X_tableIn C dL_law_33 (by omega) (by omega) (off := 1420) (by rw [c]; rfl) (tgt := 1453) (by decide) ?_
      refine X_aload_n C dL_law_1453 rfl (j := 1) rfl ?_
      refine X_aload_n C dL_law_1454 rfl (j := 0) rfl ?_
      refine X_iload_n C dL_law_1455 rfl (j := 3) rfl ?_
      refine X_iconst C (v := 1) (by decide) dL_law_1456 ?_
      refine X_iadd C dL_law_1457 ?_
      obtain ⟨g, h⟩ := h
      refine X_sld C SC g dL_law_1458 ?_
      refine X_aload_n C dL_law_1459 rfl (j := 0) rfl ?_
      refine X_iload_n C dL_law_1460 rfl (j := 3) rfl ?_
      refine X_iconst C (v := 2) (by decide) dL_law_1461 ?_
      refine X_iadd C dL_law_1462 ?_
      obtain ⟨g, h⟩ := h
      refine X_sld C SC g dL_law_1463 ?_
      refine X_callV C dL_law_1464 pw_RL_159 (b := 0) (as := [.int (xs (x3 + 1 : Int32).toNatClampNeg), .int (xs (x3 + 2 : Int32).toNatClampNeg)]) (S := []) sh_0 rfl rfl rfl (Nat.le_of_ble_eq_true rfl) (Ct_mono h ?_)
      rintro _ s149 ⟨v150, rfl, h⟩
      show X κ 1467 [(0, .ref 9999), (1, .ref 0), (2, .ref 7), (3, .int x3)] [.int v150] s149
      refine X_aload_n C dL_law_1467 rfl (j := 2) rfl ?_
      refine X_aload_n C dL_law_1468 rfl (j := 0) rfl ?_
      refine X_iload_n C dL_law_1469 rfl (j := 3) rfl ?_
      refine X_iconst C (v := 1) (by decide) dL_law_1470 ?_
      refine X_iadd C dL_law_1471 ?_
      obtain ⟨g, h⟩ := h
      refine X_sld C SC g dL_law_1472 ?_
      refine X_aload_n C dL_law_1473 rfl (j := 0) rfl ?_
      refine X_iload_n C dL_law_1474 rfl (j := 3) rfl ?_
      refine X_iconst C (v := 2) (by decide) dL_law_1475 ?_
      refine X_iadd C dL_law_1476 ?_
      obtain ⟨g, h⟩ := h
      refine X_sld C SC g dL_law_1477 ?_
      refine X_callV C dL_law_1478 pw_RL_162 (b := 7) (as := [.int (xs (x3 + 1 : Int32).toNatClampNeg), .int (xs (x3 + 2 : Int32).toNatClampNeg)]) (S := [.int v150]) sh_7 rfl rfl rfl (Nat.le_of_ble_eq_true rfl) (Ct_mono h ?_)
      rintro _ s151 ⟨v152, rfl, h⟩
      show X κ 1481 [(0, .ref 9999), (1, .ref 0), (2, .ref 7), (3, .int x3)] [.int v152, .int v150] s151
      refine X_icmp_eq C dL_law_1481 (tgt := 2012) (by decide) (fun c => ?_) (fun c => ?_)
      · replace h := h.1 c
        refine X_iinc C dL_law_2012 (j := 3) rfl (v := x3 + 6) rfl (by decide) (L' := [(3, .int (x3 + 6)), (0, .ref 9999), (1, .ref 0), (2, .ref 7)]) rfl ?_
        refine X_goto C dL_law_2015 (tgt := 18) (by decide) ?_
        refine X_loc [1, 2, 3, 0] rfl ?_
        exact h
      · replace h := h.2 c
        refine X_iconst C (v := 0) (by decide) dL_law_1484 ?_
        exact h.elim
    · replace h := h.2.2.2.2.2.2.2.2.2.2.2.2.2.2.2.2.2.2.2.2.2.2.2.2.2.2.2.2.2.2.2.2.2.2.2.2.2.1 c
      refine X_tableIn C dL_law_33 (by omega) (by omega) (off := 1453) (by rw [c]; rfl) (tgt := 1486) (by decide) ?_
      refine X_aload_n C dL_law_1486 rfl (j := 1) rfl ?_
      refine X_aload_n C dL_law_1487 rfl (j := 0) rfl ?_
      refine X_iload_n C dL_law_1488 rfl (j := 3) rfl ?_
      refine X_iconst C (v := 1) (by decide) dL_law_1489 ?_
      refine X_iadd C dL_law_1490 ?_
      obtain ⟨g, h⟩ := h
      refine X_sld C SC g dL_law_1491 ?_
      refine X_aload_n C dL_law_1492 rfl (j := 0) rfl ?_
      refine X_iload_n C dL_law_1493 rfl (j := 3) rfl ?_
      refine X_iconst C (v := 2) (by decide) dL_law_1494 ?_
      refine X_iadd C dL_law_1495 ?_
      obtain ⟨g, h⟩ := h
      refine X_sld C SC g dL_law_1496 ?_
      refine X_callV C dL_law_1497 pw_RL_163 (b := 0) (as := [.int (xs (x3 + 1 : Int32).toNatClampNeg), .int (xs (x3 + 2 : Int32).toNatClampNeg)]) (S := []) sh_0 rfl rfl rfl (Nat.le_of_ble_eq_true rfl) (Ct_mono h ?_)
      rintro _ s153 ⟨v154, rfl, h⟩
      show X κ 1500 [(0, .ref 9999), (1, .ref 0), (2, .ref 7), (3, .int x3)] [.int v154] s153
      refine X_aload_n C dL_law_1500 rfl (j := 2) rfl ?_
      refine X_aload_n C dL_law_1501 rfl (j := 0) rfl ?_
      refine X_iload_n C dL_law_1502 rfl (j := 3) rfl ?_
      refine X_iconst C (v := 1) (by decide) dL_law_1503 ?_
      refine X_iadd C dL_law_1504 ?_
      obtain ⟨g, h⟩ := h
      refine X_sld C SC g dL_law_1505 ?_
      refine X_aload_n C dL_law_1506 rfl (j := 0) rfl ?_
      refine X_iload_n C dL_law_1507 rfl (j := 3) rfl ?_
      refine X_iconst C (v := 2) (by decide) dL_law_1508 ?_
      refine X_iadd C dL_law_1509 ?_
      obtain ⟨g, h⟩ := h
      refine X_sld C SC g dL_law_1510 ?_
      refine X_callV C dL_law_1511 pw_RL_166 (b := 7) (as := [.int (xs (x3 + 1 : Int32).toNatClampNeg), .int (xs (x3 + 2 : Int32).toNatClampNeg)]) (S := [.int v154]) sh_7 rfl rfl rfl (Nat.le_of_ble_eq_true rfl) (Ct_mono h ?_)
      rintro _ s155 ⟨v156, rfl, h⟩
      show X κ 1514 [(0, .ref 9999), (1, .ref 0), (2, .ref 7), (3, .int x3)] [.int v156, .int v154] s155
      refine X_icmp_eq C dL_law_1514 (tgt := 2012) (by decide) (fun c => ?_) (fun c => ?_)
      · replace h := h.1 c
        refine X_iinc C dL_law_2012 (j := 3) rfl (v := x3 + 6) rfl (by decide) (L' := [(3, .int (x3 + 6)), (0, .ref 9999), (1, .ref 0), (2, .ref 7)]) rfl ?_
        refine X_goto C dL_law_2015 (tgt := 18) (by decide) ?_
        refine X_loc [1, 2, 3, 0] rfl ?_
        exact h
      · replace h := h.2 c
        refine X_iconst C (v := 0) (by decide) dL_law_1517 ?_
        exact h.elim
    · replace h := h.2.2.2.2.2.2.2.2.2.2.2.2.2.2.2.2.2.2.2.2.2.2.2.2.2.2.2.2.2.2.2.2.2.2.2.2.2.2.1 c
      refine X_tableIn C dL_law_33 (by omega) (by omega) (off := 1486) (by rw [c]; rfl) (tgt := 1519) (by decide) ?_
      refine X_aload_n C dL_law_1519 rfl (j := 1) rfl ?_
      refine X_aload_n C dL_law_1520 rfl (j := 0) rfl ?_
      refine X_iload_n C dL_law_1521 rfl (j := 3) rfl ?_
      refine X_iconst C (v := 1) (by decide) dL_law_1522 ?_
      refine X_iadd C dL_law_1523 ?_
      obtain ⟨g, h⟩ := h
      refine X_sld C SC g dL_law_1524 ?_
      refine X_aload_n C dL_law_1525 rfl (j := 0) rfl ?_
      refine X_iload_n C dL_law_1526 rfl (j := 3) rfl ?_
      refine X_iconst C (v := 2) (by decide) dL_law_1527 ?_
      refine X_iadd C dL_law_1528 ?_
      obtain ⟨g, h⟩ := h
      refine X_sld C SC g dL_law_1529 ?_
      refine X_aload_n C dL_law_1530 rfl (j := 0) rfl ?_
      refine X_iload_n C dL_law_1531 rfl (j := 3) rfl ?_
      refine X_iconst C (v := 3) (by decide) dL_law_1532 ?_
      refine X_iadd C dL_law_1533 ?_
      obtain ⟨g, h⟩ := h
      refine X_sld C SC g dL_law_1534 ?_
      refine X_callV C dL_law_1535 pw_RL_167 (b := 0) (as := [.int (xs (x3 + 1 : Int32).toNatClampNeg), .int (xs (x3 + 2 : Int32).toNatClampNeg), .int (xs (x3 + 3 : Int32).toNatClampNeg)]) (S := []) sh_0 rfl rfl rfl (Nat.le_of_ble_eq_true rfl) (Ct_mono h ?_)
      rintro _ s157 ⟨v158, rfl, h⟩
      show X κ 1538 [(0, .ref 9999), (1, .ref 0), (2, .ref 7), (3, .int x3)] [.int v158] s157
      refine X_aload_n C dL_law_1538 rfl (j := 2) rfl ?_
      refine X_aload_n C dL_law_1539 rfl (j := 0) rfl ?_
      refine X_iload_n C dL_law_1540 rfl (j := 3) rfl ?_
      refine X_iconst C (v := 1) (by decide) dL_law_1541 ?_
      refine X_iadd C dL_law_1542 ?_
      obtain ⟨g, h⟩ := h
      refine X_sld C SC g dL_law_1543 ?_
      refine X_aload_n C dL_law_1544 rfl (j := 0) rfl ?_
      refine X_iload_n C dL_law_1545 rfl (j := 3) rfl ?_
      refine X_iconst C (v := 2) (by decide) dL_law_1546 ?_
      refine X_iadd C dL_law_1547 ?_
      obtain ⟨g, h⟩ := h
      refine X_sld C SC g dL_law_1548 ?_
      refine X_aload_n C dL_law_1549 rfl (j := 0) rfl ?_
      refine X_iload_n C dL_law_1550 rfl (j := 3) rfl ?_
      refine X_iconst C (v := 3) (by decide) dL_law_1551 ?_
      refine X_iadd C dL_law_1552 ?_
      obtain ⟨g, h⟩ := h
      refine X_sld C SC g dL_law_1553 ?_
      refine X_callV C dL_law_1554 pw_RL_170 (b := 7) (as := [.int (xs (x3 + 1 : Int32).toNatClampNeg), .int (xs (x3 + 2 : Int32).toNatClampNeg), .int (xs (x3 + 3 : Int32).toNatClampNeg)]) (S := [.int v158]) sh_7 rfl rfl rfl (Nat.le_of_ble_eq_true rfl) (Ct_mono h ?_)
      rintro _ s159 ⟨v160, rfl, h⟩
      show X κ 1557 [(0, .ref 9999), (1, .ref 0), (2, .ref 7), (3, .int x3)] [.int v160, .int v158] s159
      refine X_icmp_eq C dL_law_1557 (tgt := 2012) (by decide) (fun c => ?_) (fun c => ?_)
      · replace h := h.1 c
        refine X_iinc C dL_law_2012 (j := 3) rfl (v := x3 + 6) rfl (by decide) (L' := [(3, .int (x3 + 6)), (0, .ref 9999), (1, .ref 0), (2, .ref 7)]) rfl ?_
        refine X_goto C dL_law_2015 (tgt := 18) (by decide) ?_
        refine X_loc [1, 2, 3, 0] rfl ?_
        exact h
      · replace h := h.2 c
        refine X_iconst C (v := 0) (by decide) dL_law_1560 ?_
        exact h.elim
    · replace h := h.2.2.2.2.2.2.2.2.2.2.2.2.2.2.2.2.2.2.2.2.2.2.2.2.2.2.2.2.2.2.2.2.2.2.2.2.2.2.2.1 c
      refine X_tableIn C dL_law_33 (by omega) (by omega) (off := 1529) (by rw [c]; rfl) (tgt := 1562) (by decide) ?_
      refine X_aload_n C dL_law_1562 rfl (j := 1) rfl ?_
      refine X_aload_n C dL_law_1563 rfl (j := 0) rfl ?_
      refine X_iload_n C dL_law_1564 rfl (j := 3) rfl ?_
      refine X_iconst C (v := 1) (by decide) dL_law_1565 ?_
      refine X_iadd C dL_law_1566 ?_
      obtain ⟨g, h⟩ := h
      refine X_sld C SC g dL_law_1567 ?_
      refine X_aload_n C dL_law_1568 rfl (j := 0) rfl ?_
      refine X_iload_n C dL_law_1569 rfl (j := 3) rfl ?_
      refine X_iconst C (v := 2) (by decide) dL_law_1570 ?_
      refine X_iadd C dL_law_1571 ?_
      obtain ⟨g, h⟩ := h
      refine X_sld C SC g dL_law_1572 ?_
      refine X_aload_n C dL_law_1573 rfl (j := 0) rfl ?_
      refine X_iload_n C dL_law_1574 rfl (j := 3) rfl ?_
      refine X_iconst C (v := 3) (by decide) dL_law_1575 ?_
      refine X_iadd C dL_law_1576 ?_
      obtain ⟨g, h⟩ := h
      refine X_sld C SC g dL_law_1577 ?_
      refine X_aload_n C dL_law_1578 rfl (j := 0) rfl ?_
      refine X_iload_n C dL_law_1579 rfl (j := 3) rfl ?_
      refine X_iconst C (v := 4) (by decide) dL_law_1580 ?_
      refine X_iadd C dL_law_1581 ?_
      obtain ⟨g, h⟩ := h
      refine X_sld C SC g dL_law_1582 ?_
      refine X_aload_n C dL_law_1583 rfl (j := 0) rfl ?_
      refine X_iload_n C dL_law_1584 rfl (j := 3) rfl ?_
      refine X_iconst C (v := 5) (by decide) dL_law_1585 ?_
      refine X_iadd C dL_law_1586 ?_
      obtain ⟨g, h⟩ := h
      refine X_sld C SC g dL_law_1587 ?_
      refine X_callV C dL_law_1588 pw_RL_171 (b := 0) (as := [.int (xs (x3 + 1 : Int32).toNatClampNeg), .int (xs (x3 + 2 : Int32).toNatClampNeg), .int (xs (x3 + 3 : Int32).toNatClampNeg), .int (xs (x3 + 4 : Int32).toNatClampNeg), .int (xs (x3 + 5 : Int32).toNatClampNeg)]) (S := []) sh_0 rfl rfl rfl (Nat.le_of_ble_eq_true rfl) (Ct_mono h ?_)
      rintro _ s161 ⟨v162, rfl, h⟩
      show X κ 1591 [(0, .ref 9999), (1, .ref 0), (2, .ref 7), (3, .int x3)] [.int v162] s161
      refine X_aload_n C dL_law_1591 rfl (j := 2) rfl ?_
      refine X_aload_n C dL_law_1592 rfl (j := 0) rfl ?_
      refine X_iload_n C dL_law_1593 rfl (j := 3) rfl ?_
      refine X_iconst C (v := 1) (by decide) dL_law_1594 ?_
      refine X_iadd C dL_law_1595 ?_
      obtain ⟨g, h⟩ := h
      refine X_sld C SC g dL_law_1596 ?_
      refine X_aload_n C dL_law_1597 rfl (j := 0) rfl ?_
      refine X_iload_n C dL_law_1598 rfl (j := 3) rfl ?_
      refine X_iconst C (v := 2) (by decide) dL_law_1599 ?_
      refine X_iadd C dL_law_1600 ?_
      obtain ⟨g, h⟩ := h
      refine X_sld C SC g dL_law_1601 ?_
      refine X_aload_n C dL_law_1602 rfl (j := 0) rfl ?_
      refine X_iload_n C dL_law_1603 rfl (j := 3) rfl ?_
      refine X_iconst C (v := 3) (by decide) dL_law_1604 ?_
      refine X_iadd C dL_law_1605 ?_
      obtain ⟨g, h⟩ := h
      refine X_sld C SC g dL_law_1606 ?_
      refine X_aload_n C dL_law_1607 rfl (j := 0) rfl ?_
      refine X_iload_n C dL_law_1608 rfl (j := 3) rfl ?_
      refine X_iconst C (v := 4) (by decide) dL_law_1609 ?_
      refine X_iadd C dL_law_1610 ?_
      obtain ⟨g, h⟩ := h
      refine X_sld C SC g dL_law_1611 ?_
      refine X_aload_n C dL_law_1612 rfl (j := 0) rfl ?_
      refine X_iload_n C dL_law_1613 rfl (j := 3) rfl ?_
      refine X_iconst C (v := 5) (by decide) dL_law_1614 ?_
      refine X_iadd C dL_law_1615 ?_
      obtain ⟨g, h⟩ := h
      refine X_sld C SC g dL_law_1616 ?_
      refine X_callV C dL_law_1617 pw_RL_174 (b := 7) (as := [.int (xs (x3 + 1 : Int32).toNatClampNeg), .int (xs (x3 + 2 : Int32).toNatClampNeg), .int (xs (x3 + 3 : Int32).toNatClampNeg), .int (xs (x3 + 4 : Int32).toNatClampNeg), .int (xs (x3 + 5 : Int32).toNatClampNeg)]) (S := [.int v162]) sh_7 rfl rfl rfl (Nat.le_of_ble_eq_true rfl) (Ct_mono h ?_)
      rintro _ s163 ⟨v164, rfl, h⟩
      show X κ 1620 [(0, .ref 9999), (1, .ref 0), (2, .ref 7), (3, .int x3)] [.int v164, .int v162] s163
      refine X_icmp_eq C dL_law_1620 (tgt := 2012) (by decide) (fun c => ?_) (fun c => ?_)
      · replace h := h.1 c
        refine X_iinc C dL_law_2012 (j := 3) rfl (v := x3 + 6) rfl (by decide) (L' := [(3, .int (x3 + 6)), (0, .ref 9999), (1, .ref 0), (2, .ref 7)]) rfl ?_
        refine X_goto C dL_law_2015 (tgt := 18) (by decide) ?_
        refine X_loc [1, 2, 3, 0] rfl ?_
        exact h
      · replace h := h.2 c
        refine X_iconst C (v := 0) (by decide) dL_law_1623 ?_
        exact h.elim
    · replace h := h.2.2.2.2.2.2.2.2.2.2.2.2.2.2.2.2.2.2.2.2.2.2.2.2.2.2.2.2.2.2.2.2.2.2.2.2.2.2.2.2.1 c
      refine X_tableIn C dL_law_33 (by omega) (by omega) (off := 1592) (by rw [c]; rfl) (tgt := 1625) (by decide) ?_
      refine X_aload_n C dL_law_1625 rfl (j := 1) rfl ?_
      refine X_aload_n C dL_law_1626 rfl (j := 0) rfl ?_
      refine X_iload_n C dL_law_1627 rfl (j := 3) rfl ?_
      refine X_iconst C (v := 1) (by decide) dL_law_1628 ?_
      refine X_iadd C dL_law_1629 ?_
      obtain ⟨g, h⟩ := h
      refine X_sld C SC g dL_law_1630 ?_
      refine X_callV C dL_law_1631 pw_RL_175 (b := 0) (as := [.int (xs (x3 + 1 : Int32).toNatClampNeg)]) (S := []) sh_0 rfl rfl rfl (Nat.le_of_ble_eq_true rfl) (Ct_mono h ?_)
      rintro _ s165 ⟨v166, rfl, h⟩
      show X κ 1634 [(0, .ref 9999), (1, .ref 0), (2, .ref 7), (3, .int x3)] [.int v166] s165
      refine X_aload_n C dL_law_1634 rfl (j := 2) rfl ?_
      refine X_aload_n C dL_law_1635 rfl (j := 0) rfl ?_
      refine X_iload_n C dL_law_1636 rfl (j := 3) rfl ?_
      refine X_iconst C (v := 1) (by decide) dL_law_1637 ?_
      refine X_iadd C dL_law_1638 ?_
      obtain ⟨g, h⟩ := h
      refine X_sld C SC g dL_law_1639 ?_
      refine X_callV C dL_law_1640 pw_RL_178 (b := 7) (as := [.int (xs (x3 + 1 : Int32).toNatClampNeg)]) (S := [.int v166]) sh_7 rfl rfl rfl (Nat.le_of_ble_eq_true rfl) (Ct_mono h ?_)
      rintro _ s167 ⟨v168, rfl, h⟩
      show X κ 1643 [(0, .ref 9999), (1, .ref 0), (2, .ref 7), (3, .int x3)] [.int v168, .int v166] s167
      refine X_icmp_eq C dL_law_1643 (tgt := 2012) (by decide) (fun c => ?_) (fun c => ?_)
      · replace h := h.1 c
        refine X_iinc C dL_law_2012 (j := 3) rfl (v := x3 + 6) rfl (by decide) (L' := [(3, .int (x3 + 6)), (0, .ref 9999), (1, .ref 0), (2, .ref 7)]) rfl ?_
        refine X_goto C dL_law_2015 (tgt := 18) (by decide) ?_
        refine X_loc [1, 2, 3, 0] rfl ?_
        exact h
      · replace h := h.2 c
        refine X_iconst C (v := 0) (by decide) dL_law_1646 ?_
        exact h.elim
    · replace h := h.2.2.2.2.2.2.2.2.2.2.2.2.2.2.2.2.2.2.2.2.2.2.2.2.2.2.2.2.2.2.2.2.2.2.2.2.2.2.2.2.2.1 c
      refine X_tableIn C dL_law_33 (by omega) (by omega) (off := 1615) (by rw [c]; rfl) (tgt := 1648) (by decide) ?_
      refine X_aload_n C dL_law_1648 rfl (j := 1) rfl ?_
      refine X_callV C dL_law_1649 pw_RL_179 (b := 0) (as := []) (S := []) sh_0 rfl rfl rfl (Nat.le_of_ble_eq_true rfl) (Ct_mono h ?_)
      rintro _ s169 ⟨v170, rfl, h⟩
      show X κ 1652 [(0, .ref 9999), (1, .ref 0), (2, .ref 7), (3, .int x3)] [.int v170] s169
      refine X_aload_n C dL_law_1652 rfl (j := 2) rfl ?_
      refine X_callV C dL_law_1653 pw_RL_182 (b := 7) (as := []) (S := [.int v170]) sh_7 rfl rfl rfl (Nat.le_of_ble_eq_true rfl) (Ct_mono h ?_)
      rintro _ s171 ⟨v172, rfl, h⟩
      show X κ 1656 [(0, .ref 9999), (1, .ref 0), (2, .ref 7), (3, .int x3)] [.int v172, .int v170] s171
      refine X_icmp_eq C dL_law_1656 (tgt := 2012) (by decide) (fun c => ?_) (fun c => ?_)
      · replace h := h.1 c
        refine X_iinc C dL_law_2012 (j := 3) rfl (v := x3 + 6) rfl (by decide) (L' := [(3, .int (x3 + 6)), (0, .ref 9999), (1, .ref 0), (2, .ref 7)]) rfl ?_
        refine X_goto C dL_law_2015 (tgt := 18) (by decide) ?_
        refine X_loc [1, 2, 3, 0] rfl ?_
        exact h
      · replace h := h.2 c
        refine X_iconst C (v := 0) (by decide) dL_law_1659 ?_
        exact h.elim
    · replace h := h.2.2.2.2.2.2.2.2.2.2.2.2.2.2.2.2.2.2.2.2.2.2.2.2.2.2.2.2.2.2.2.2.2.2.2.2.2.2.2.2.2.2.1 c
      refine X_tableIn C dL_law_33 (by omega) (by omega) (off := 1628) (by rw [c]; rfl) (tgt := 1661) (by decide) ?_
      refine X_aload_n C dL_law_1661 rfl (j := 1) rfl ?_
      refine X_callV C dL_law_1662 pw_RL_183 (b := 0) (as := []) (S := []) sh_0 rfl rfl rfl (Nat.le_of_ble_eq_true rfl) (Ct_mono h ?_)
      rintro _ s173 ⟨v174, rfl, h⟩
      show X κ 1665 [(0, .ref 9999), (1, .ref 0), (2, .ref 7), (3, .int x3)] [.int v174] s173
      refine X_aload_n C dL_law_1665 rfl (j := 2) rfl ?_
      refine X_callV C dL_law_1666 pw_RL_186 (b := 7) (as := []) (S := [.int v174]) sh_7 rfl rfl rfl (Nat.le_of_ble_eq_true rfl) (Ct_mono h ?_)
      rintro _ s175 ⟨v176, rfl, h⟩
      show X κ 1669 [(0, .ref 9999), (1, .ref 0), (2, .ref 7), (3, .int x3)] [.int v176, .int v174] s175
      refine X_icmp_eq C dL_law_1669 (tgt := 2012) (by decide) (fun c => ?_) (fun c => ?_)
      · replace h := h.1 c
        refine X_iinc C dL_law_2012 (j := 3) rfl (v := x3 + 6) rfl (by decide) (L' := [(3, .int (x3 + 6)), (0, .ref 9999), (1, .ref 0), (2, .ref 7)]) rfl ?_
        refine X_goto C dL_law_2015 (tgt := 18) (by decide) ?_
        refine X_loc [1, 2, 3, 0] rfl ?_
        exact h
      · replace h := h.2 c
        refine X_iconst C (v := 0) (by decide) dL_law_1672 ?_
        exact h.elim
    · replace h := h.2.2.2.2.2.2.2.2.2.2.2.2.2.2.2.2.2.2.2.2.2.2.2.2.2.2.2.2.2.2.2.2.2.2.2.2.2.2.2.2.2.2.2.1 c
      refine X_tableIn C dL_law_33 (by omega) (by omega) (off := 1641) (by rw [c]; rfl) (tgt := 1674) (by decide) ?_
      refine X_aload_n C dL_law_1674 rfl (j := 1) rfl ?_
      refine X_aload_n C dL_law_1675 rfl (j := 0) rfl ?_
      refine X_iload_n C dL_law_1676 rfl (j := 3) rfl ?_
      refine X_iconst C (v := 1) (by decide) dL_law_1677 ?_
      refine X_iadd C dL_law_1678 ?_
      obtain ⟨g, h⟩ := h
      refine X_sld C SC g dL_law_1679 ?_
      refine X_callV C dL_law_1680 pw_RL_187 (b := 0) (as := [.int (xs (x3 + 1 : Int32).toNatClampNeg)]) (S := []) sh_0 rfl rfl rfl (Nat.le_of_ble_eq_true rfl) (Ct_mono h ?_)
      rintro _ s177 ⟨v178, rfl, h⟩
      show X κ 1683 [(0, .ref 9999), (1, .ref 0), (2, .ref 7), (3, .int x3)] [.int v178] s177
      refine X_aload_n C dL_law_1683 rfl (j := 2) rfl ?_
      refine X_aload_n C dL_law_1684 rfl (j := 0) rfl ?_
      refine X_iload_n C dL_law_1685 rfl (j := 3) rfl ?_
      refine X_iconst C (v := 1) (by decide) dL_law_1686 ?_
      refine X_iadd C dL_law_1687 ?_
      obtain ⟨g, h⟩ := h
      refine X_sld C SC g dL_law_1688 ?_
      refine X_callV C dL_law_1689 pw_RL_190 (b := 7) (as := [.int (xs (x3 + 1 : Int32).toNatClampNeg)]) (S := [.int v178]) sh_7 rfl rfl rfl (Nat.le_of_ble_eq_true rfl) (Ct_mono h ?_)
      rintro _ s179 ⟨v180, rfl, h⟩
      show X κ 1692 [(0, .ref 9999), (1, .ref 0), (2, .ref 7), (3, .int x3)] [.int v180, .int v178] s179
      refine X_icmp_eq C dL_law_1692 (tgt := 2012) (by decide) (fun c => ?_) (fun c => ?_)
      · replace h := h.1 c
        refine X_iinc C dL_law_2012 (j := 3) rfl (v := x3 + 6) rfl (by decide) (L' := [(3, .int (x3 + 6)), (0, .ref 9999), (1, .ref 0), (2, .ref 7)]) rfl ?_
        refine X_goto C dL_law_2015 (tgt := 18) (by decide) ?_
        refine X_loc [1, 2, 3, 0] rfl ?_
        exact h
      · replace h := h.2 c
        refine X_iconst C (v := 0) (by decide) dL_law_1695 ?_
        exact h.elim
    · replace h := h.2.2.2.2.2.2.2.2.2.2.2.2.2.2.2.2.2.2.2.2.2.2.2.2.2.2.2.2.2.2.2.2.2.2.2.2.2.2.2.2.2.2.2.2.1 c
      refine X_tableIn C dL_law_33 (by omega) (by omega) (off := 1664) (by rw [c]; rfl) (tgt := 1697) (by decide) ?_
      refine X_aload_n C dL_law_1697 rfl (j := 1) rfl ?_
      refine X_aload_n C dL_law_1698 rfl (j := 0) rfl ?_
      refine X_iload_n C dL_law_1699 rfl (j := 3) rfl ?_
      refine X_iconst C (v := 1) (by decide) dL_law_1700 ?_
      refine X_iadd C dL_law_1701 ?_
      obtain ⟨g, h⟩ := h
      refine X_sld C SC g dL_law_1702 ?_
      refine X_aload_n C dL_law_1703 rfl (j := 0) rfl ?_
      refine X_iload_n C dL_law_1704 rfl (j := 3) rfl ?_
      refine X_iconst C (v := 2) (by decide) dL_law_1705 ?_
      refine X_iadd C dL_law_1706 ?_
      obtain ⟨g, h⟩ := h
      refine X_sld C SC g dL_law_1707 ?_
      refine X_aload_n C dL_law_1708 rfl (j := 0) rfl ?_
      refine X_iload_n C dL_law_1709 rfl (j := 3) rfl ?_
      refine X_iconst C (v := 3) (by decide) dL_law_1710 ?_
      refine X_iadd C dL_law_1711 ?_
      obtain ⟨g, h⟩ := h
      refine X_sld C SC g dL_law_1712 ?_
      refine X_callV C dL_law_1713 pw_RL_191 (b := 0) (as := [.int (xs (x3 + 1 : Int32).toNatClampNeg), .int (xs (x3 + 2 : Int32).toNatClampNeg), .int (xs (x3 + 3 : Int32).toNatClampNeg)]) (S := []) sh_0 rfl rfl rfl (Nat.le_of_ble_eq_true rfl) (Ct_mono h ?_)
      rintro _ s181 ⟨v182, rfl, h⟩
      show X κ 1716 [(0, .ref 9999), (1, .ref 0), (2, .ref 7), (3, .int x3)] [.int v182] s181
      refine X_aload_n C dL_law_1716 rfl (j := 2) rfl ?_
      refine X_aload_n C dL_law_1717 rfl (j := 0) rfl ?_
      refine X_iload_n C dL_law_1718 rfl (j := 3) rfl ?_
      refine X_iconst C (v := 1) (by decide) dL_law_1719 ?_
      refine X_iadd C dL_law_1720 ?_
      obtain ⟨g, h⟩ := h
      refine X_sld C SC g dL_law_1721 ?_
      refine X_aload_n C dL_law_1722 rfl (j := 0) rfl ?_
      refine X_iload_n C dL_law_1723 rfl (j := 3) rfl ?_
      refine X_iconst C (v := 2) (by decide) dL_law_1724 ?_
      refine X_iadd C dL_law_1725 ?_
      obtain ⟨g, h⟩ := h
      refine X_sld C SC g dL_law_1726 ?_
      refine X_aload_n C dL_law_1727 rfl (j := 0) rfl ?_
      refine X_iload_n C dL_law_1728 rfl (j := 3) rfl ?_
      refine X_iconst C (v := 3) (by decide) dL_law_1729 ?_
      refine X_iadd C dL_law_1730 ?_
      obtain ⟨g, h⟩ := h
      refine X_sld C SC g dL_law_1731 ?_
      refine X_callV C dL_law_1732 pw_RL_194 (b := 7) (as := [.int (xs (x3 + 1 : Int32).toNatClampNeg), .int (xs (x3 + 2 : Int32).toNatClampNeg), .int (xs (x3 + 3 : Int32).toNatClampNeg)]) (S := [.int v182]) sh_7 rfl rfl rfl (Nat.le_of_ble_eq_true rfl) (Ct_mono h ?_)
      rintro _ s183 ⟨v184, rfl, h⟩
      show X κ 1735 [(0, .ref 9999), (1, .ref 0), (2, .ref 7), (3, .int x3)] [.int v184, .int v182] s183
      refine X_icmp_eq C dL_law_1735 (tgt := 2012) (by decide) (fun c => ?_) (fun c => ?_)
      · replace h := h.1 c
        refine X_iinc C dL_law_2012 (j := 3) rfl (v := x3 + 6) rfl (by decide) (L' := [(3, .int (x3 + 6)), (0, .ref 9999), (1, .ref 0), (2, .ref 7)]) rfl ?_
        refine X_goto C dL_law_2015 (tgt := 18) (by decide) ?_
        refine X_loc [1, 2, 3, 0] rfl ?_
        exact h
      · replace h := h.2 c
        refine X_iconst C (v := 0) (by decide) dL_law_1738 ?_
        exact h.elim
    · replace h := h.2.2.2.2.2.2.2.2.2.2.2.2.2.2.2.2.2.2.2.2.2.2.2.2.2.2.2.2.2.2.2.2.2.2.2.2.2.2.2.2.2.2.2.2.2.1 c
      refine X_tableIn C dL_law_33 (by omega) (by omega) (off := 1707) (by rw [c]; rfl) (tgt := 1740) (by decide) ?_
      refine X_aload_n C dL_law_1740 rfl (j := 1) rfl ?_
      refine X_aload_n C dL_law_1741 rfl (j := 0) rfl ?_
      refine X_iload_n C dL_law_1742 rfl (j := 3) rfl ?_
      refine X_iconst C (v := 1) (by decide) dL_law_1743 ?_
      refine X_iadd C dL_law_1744 ?_
      obtain ⟨g, h⟩ := h
      refine X_sld C SC g dL_law_1745 ?_
      refine X_callV C dL_law_1746 pw_RL_195 (b := 0) (as := [.int (xs (x3 + 1 : Int32).toNatClampNeg)]) (S := []) sh_0 rfl rfl rfl (Nat.le_of_ble_eq_true rfl) (Ct_mono h ?_)
      rintro _ s185 ⟨v186, rfl, h⟩
      show X κ 1749 [(0, .ref 9999), (1, .ref 0), (2, .ref 7), (3, .int x3)] [.int v186] s185
      refine X_aload_n C dL_law_1749 rfl (j := 2) rfl ?_
      refine X_aload_n C dL_law_1750 rfl (j := 0) rfl ?_
      refine X_iload_n C dL_law_1751 rfl (j := 3) rfl ?_
      refine X_iconst C (v := 1) (by decide) dL_law_1752 ?_
      refine X_iadd C dL_law_1753 ?_
      obtain ⟨g, h⟩ := h
      refine X_sld C SC g dL_law_1754 ?_
      refine X_callV C dL_law_1755 pw_RL_198 (b := 7) (as := [.int (xs (x3 + 1 : Int32).toNatClampNeg)]) (S := [.int v186]) sh_7 rfl rfl rfl (Nat.le_of_ble_eq_true rfl) (Ct_mono h ?_)
      rintro _ s187 ⟨v188, rfl, h⟩
      show X κ 1758 [(0, .ref 9999), (1, .ref 0), (2, .ref 7), (3, .int x3)] [.int v188, .int v186] s187
      refine X_icmp_eq C dL_law_1758 (tgt := 2012) (by decide) (fun c => ?_) (fun c => ?_)
      · replace h := h.1 c
        refine X_iinc C dL_law_2012 (j := 3) rfl (v := x3 + 6) rfl (by decide) (L' := [(3, .int (x3 + 6)), (0, .ref 9999), (1, .ref 0), (2, .ref 7)]) rfl ?_
        refine X_goto C dL_law_2015 (tgt := 18) (by decide) ?_
        refine X_loc [1, 2, 3, 0] rfl ?_
        exact h
      · replace h := h.2 c
        refine X_iconst C (v := 0) (by decide) dL_law_1761 ?_
        exact h.elim
    · replace h := h.2.2.2.2.2.2.2.2.2.2.2.2.2.2.2.2.2.2.2.2.2.2.2.2.2.2.2.2.2.2.2.2.2.2.2.2.2.2.2.2.2.2.2.2.2.2.1 c
      refine X_tableIn C dL_law_33 (by omega) (by omega) (off := 1730) (by rw [c]; rfl) (tgt := 1763) (by decide) ?_
      refine X_aload_n C dL_law_1763 rfl (j := 1) rfl ?_
      refine X_aload_n C dL_law_1764 rfl (j := 0) rfl ?_
      refine X_iload_n C dL_law_1765 rfl (j := 3) rfl ?_
      refine X_iconst C (v := 1) (by decide) dL_law_1766 ?_
      refine X_iadd C dL_law_1767 ?_
      obtain ⟨g, h⟩ := h
      refine X_sld C SC g dL_law_1768 ?_
      refine X_aload_n C dL_law_1769 rfl (j := 0) rfl ?_
      refine X_iload_n C dL_law_1770 rfl (j := 3) rfl ?_
      refine X_iconst C (v := 2) (by decide) dL_law_1771 ?_
      refine X_iadd C dL_law_1772 ?_
      obtain ⟨g, h⟩ := h
      refine X_sld C SC g dL_law_1773 ?_
      refine X_aload_n C dL_law_1774 rfl (j := 0) rfl ?_
      refine X_iload_n C dL_law_1775 rfl (j := 3) rfl ?_
      refine X_iconst C (v := 3) (by decide) dL_law_1776 ?_
      refine X_iadd C dL_law_1777 ?_
      obtain ⟨g, h⟩ := h
      refine X_sld C SC g dL_law_1778 ?_
      refine X_aload_n C dL_law_1779 rfl (j := 0) rfl ?_
      refine X_iload_n C dL_law_1780 rfl (j := 3) rfl ?_
      refine X_iconst C (v := 4) (by decide) dL_law_1781 ?_
      refine X_iadd C dL_law_1782 ?_
      obtain ⟨g, h⟩ := h
      refine X_sld C SC g dL_law_1783 ?_
      refine X_callV C dL_law_1784 pw_RL_199 (b := 0) (as := [.int (xs (x3 + 1 : Int32).toNatClampNeg), .int (xs (x3 + 2 : Int32).toNatClampNeg), .int (xs (x3 + 3 : Int32).toNatClampNeg), .int (xs (x3 + 4 : Int32).toNatClampNeg)]) (S := []) sh_0 rfl rfl rfl (Nat.le_of_ble_eq_true rfl) (Ct_mono h ?_)
      rintro _ s189 ⟨v190, rfl, h⟩
      show X κ 1787 [(0, .ref 9999), (1, .ref 0), (2, .ref 7), (3, .int x3)] [.int v190] s189
      refine X_aload_n C dL_law_1787 rfl (j := 2) rfl ?_
      refine X_aload_n C dL_law_1788 rfl (j := 0) rfl ?_
      refine X_iload_n C dL_law_1789 rfl (j := 3) rfl ?_
      refine X_iconst C (v := 1) (by decide) dL_law_1790 ?_
      refine X_iadd C dL_law_1791 ?_
      obtain ⟨g, h⟩ := h
      refine X_sld C SC g dL_law_1792 ?_
      refine X_aload_n C dL_law_1793 rfl (j := 0) rfl ?_
      refine X_iload_n C dL_law_1794 rfl (j := 3) rfl ?_
      refine X_iconst C (v := 2) (by decide) dL_law_1795 ?_
      refine X_iadd C dL_law_1796 ?_
      obtain ⟨g, h⟩ := h
      refine X_sld C SC g dL_law_1797 ?_
      refine X_aload_n C dL_law_1798 rfl (j := 0) rfl ?_
      refine X_iload_n C dL_law_1799 rfl (j := 3) rfl ?_
      refine X_iconst C (v := 3) (by decide) dL_law_1800 ?_
      refine X_iadd C dL_law_1801 ?_
      obtain ⟨g, h⟩ := h
      refine X_sld C SC g dL_law_1802 ?_
      refine X_aload_n C dL_law_1803 rfl (j := 0) rfl ?_
      refine X_iload_n C dL_law_1804 rfl (j := 3) rfl ?_
      refine X_iconst C (v := 4) (by decide) dL_law_1805 ?_
      refine X_iadd C dL_law_1806 ?_
      obtain ⟨g, h⟩ := h
      refine X_sld C SC g dL_law_1807 ?_
      refine X_callV C dL_law_1808 pw_RL_203 (b := 7) (as := [.int (xs (x3 + 1 : Int32).toNatClampNeg), .int (xs (x3 + 2 : Int32).toNatClampNeg), .int (xs (x3 + 3 : Int32).toNatClampNeg), .int (xs (x3 + 4 : Int32).toNatClampNeg)]) (S := [.int v190]) sh_7 rfl rfl rfl (Nat.le_of_ble_eq_true rfl) (Ct_mono h ?_)
      rintro _ s191 ⟨v192, rfl, h⟩
      show X κ 1811 [(0, .ref 9999), (1, .ref 0), (2, .ref 7), (3, .int x3)] [.int v192, .int v190] s191
      refine X_icmp_eq C dL_law_1811 (tgt := 2012) (by decide) (fun c => ?_) (fun c => ?_)
      · replace h := h.1 c
        refine X_iinc C dL_law_2012 (j := 3) rfl (v := x3 + 6) rfl (by decide) (L' := [(3, .int (x3 + 6)), (0, .ref 9999), (1, .ref 0), (2, .ref 7)]) rfl ?_
        refine X_goto C dL_law_2015 (tgt := 18) (by decide) ?_
        refine X_loc [1, 2, 3, 0] rfl ?_
        exact h
      · replace h := h.2 c
        refine X_iconst C (v := 0) (by decide) dL_law_1814 ?_
        exact h.elim
    · replace h := h.2.2.2.2.2.2.2.2.2.2.2.2.2.2.2.2.2.2.2.2.2.2.2.2.2.2.2.2.2.2.2.2.2.2.2.2.2.2.2.2.2.2.2.2.2.2.2.1 c
      refine X_tableIn C dL_law_33 (by omega) (by omega) (off := 1783) (by rw [c]; rfl) (tgt := 1816) (by decide) ?_
      refine X_aload_n C dL_law_1816 rfl (j := 1) rfl ?_
      refine X_aload_n C dL_law_1817 rfl (j := 0) rfl ?_
      refine X_iload_n C dL_law_1818 rfl (j := 3) rfl ?_
      refine X_iconst C (v := 1) (by decide) dL_law_1819 ?_
      refine X_iadd C dL_law_1820 ?_
      obtain ⟨g, h⟩ := h
      refine X_sld C SC g dL_law_1821 ?_
      refine X_aload_n C dL_law_1822 rfl (j := 0) rfl ?_
      refine X_iload_n C dL_law_1823 rfl (j := 3) rfl ?_
      refine X_iconst C (v := 2) (by decide) dL_law_1824 ?_
      refine X_iadd C dL_law_1825 ?_
      obtain ⟨g, h⟩ := h
      refine X_sld C SC g dL_law_1826 ?_
      refine X_aload_n C dL_law_1827 rfl (j := 0) rfl ?_
      refine X_iload_n C dL_law_1828 rfl (j := 3) rfl ?_
      refine X_iconst C (v := 3) (by decide) dL_law_1829 ?_
      refine X_iadd C dL_law_1830 ?_
      obtain ⟨g, h⟩ := h
      refine X_sld C SC g dL_law_1831 ?_
      refine X_callV C dL_law_1832 pw_RL_204 (b := 0) (as := [.int (xs (x3 + 1 : Int32).toNatClampNeg), .int (xs (x3 + 2 : Int32).toNatClampNeg), .int (xs (x3 + 3 : Int32).toNatClampNeg)]) (S := []) sh_0 rfl rfl rfl (Nat.le_of_ble_eq_true rfl) (Ct_mono h ?_)
      rintro _ s193 ⟨v194, rfl, h⟩
      show X κ 1835 [(0, .ref 9999), (1, .ref 0), (2, .ref 7), (3, .int x3)] [.int v194] s193
      refine X_aload_n C dL_law_1835 rfl (j := 2) rfl ?_
      refine X_aload_n C dL_law_1836 rfl (j := 0) rfl ?_
      refine X_iload_n C dL_law_1837 rfl (j := 3) rfl ?_
      refine X_iconst C (v := 1) (by decide) dL_law_1838 ?_
      refine X_iadd C dL_law_1839 ?_
      obtain ⟨g, h⟩ := h
      refine X_sld C SC g dL_law_1840 ?_
      refine X_aload_n C dL_law_1841 rfl (j := 0) rfl ?_
      refine X_iload_n C dL_law_1842 rfl (j := 3) rfl ?_
      refine X_iconst C (v := 2) (by decide) dL_law_1843 ?_
      refine X_iadd C dL_law_1844 ?_
      obtain ⟨g, h⟩ := h
      refine X_sld C SC g dL_law_1845 ?_
      refine X_aload_n C dL_law_1846 rfl (j := 0) rfl ?_
      refine X_iload_n C dL_law_1847 rfl (j := 3) rfl ?_
      refine X_iconst C (v := 3) (by decide) dL_law_1848 ?_
      refine X_iadd C dL_law_1849 ?_
      obtain ⟨g, h⟩ := h
      refine X_sld C SC g dL_law_1850 ?_
      refine X_callV C dL_law_1851 pw_RL_207 (b := 7) (as := [.int (xs (x3 + 1 : Int32).toNatClampNeg), .int (xs (x3 + 2 : Int32).toNatClampNeg), .int (xs (x3 + 3 : Int32).toNatClampNeg)]) (S := [.int v194]) sh_7 rfl rfl rfl (Nat.le_of_ble_eq_true rfl) (Ct_mono h ?_)
      rintro _ s195 ⟨v196, rfl, h⟩
      show X κ 1854 [(0, .ref 9999), (1, .ref 0), (2, .ref 7), (3, .int x3)] [.int v196, .int v194] s195
      refine X_icmp_eq C dL_law_1854 (tgt := 2012) (by decide) (fun c => ?_) (fun c => ?_)
      · replace h := h.1 c
        refine X_iinc C dL_law_2012 (j := 3) rfl (v := x3 + 6) rfl (by decide) (L' := [(3, .int (x3 + 6)), (0, .ref 9999), (1, .ref 0), (2, .ref 7)]) rfl ?_
        refine X_goto C dL_law_2015 (tgt := 18) (by decide) ?_
        refine X_loc [1, 2, 3, 0] rfl ?_
        exact h
      · replace h := h.2 c
        refine X_iconst C (v := 0) (by decide) dL_law_1857 ?_
        exact h.elim
    · replace h := h.2.2.2.2.2.2.2.2.2.2.2.2.2.2.2.2.2.2.2.2.2.2.2.2.2.2.2.2.2.2.2.2.2.2.2.2.2.2.2.2.2.2.2.2.2.2.2.2.1 c
      refine X_tableIn C dL_law_33 (by omega) (by omega) (off := 1826) (by rw [c]; rfl) (tgt := 1859) (by decide) ?_
      refine X_aload_n C dL_law_1859 rfl (j := 1) rfl ?_
      refine X_aload_n C dL_law_1860 rfl (j := 0) rfl ?_
      refine X_iload_n C dL_law_1861 rfl (j := 3) rfl ?_
      refine X_iconst C (v := 1) (by decide) dL_law_1862 ?_
      refine X_iadd C dL_law_1863 ?_
      obtain ⟨g, h⟩ := h
      refine X_sld C SC g dL_law_1864 ?_
      refine X_aload_n C dL_law_1865 rfl (j := 0) rfl ?_
      refine X_iload_n C dL_law_1866 rfl (j := 3) rfl ?_
      refine X_iconst C (v := 2) (by decide) dL_law_1867 ?_
      refine X_iadd C dL_law_1868 ?_
      obtain ⟨g, h⟩ := h
      refine X_sld C SC g dL_law_1869 ?_
      refine X_aload_n C dL_law_1870 rfl (j := 0) rfl ?_
      refine X_iload_n C dL_law_1871 rfl (j := 3) rfl ?_
      refine X_iconst C (v := 3) (by decide) dL_law_1872 ?_
      refine X_iadd C dL_law_1873 ?_
      obtain ⟨g, h⟩ := h
      refine X_sld C SC g dL_law_1874 ?_
      refine X_aload_n C dL_law_1875 rfl (j := 0) rfl ?_
      refine X_iload_n C dL_law_1876 rfl (j := 3) rfl ?_
      refine X_iconst C (v := 4) (by decide) dL_law_1877 ?_
      refine X_iadd C dL_law_1878 ?_
      obtain ⟨g, h⟩ := h
      refine X_sld C SC g dL_law_1879 ?_
      refine X_aload_n C dL_law_1880 rfl (j := 0) rfl ?_
      refine X_iload_n C dL_law_1881 rfl (j := 3) rfl ?_
      refine X_iconst C (v := 5) (by decide) dL_law_1882 ?_
      refine X_iadd C dL_law_1883 ?_
      obtain ⟨g, h⟩ := h
      refine X_sld C SC g dL_law_1884 ?_
      refine X_callV C dL_law_1885 pw_RL_208 (b := 0) (as := [.int (xs (x3 + 1 : Int32).toNatClampNeg), .int (xs (x3 + 2 : Int32).toNatClampNeg), .int (xs (x3 + 3 : Int32).toNatClampNeg), .int (xs (x3 + 4 : Int32).toNatClampNeg), .int (xs (x3 + 5 : Int32).toNatClampNeg)]) (S := []) sh_0 rfl rfl rfl (Nat.le_of_ble_eq_true rfl) (Ct_mono h ?_)
      rintro _ s197 ⟨v198, rfl, h⟩
      show X κ 1888 [(0, .ref 9999), (1, .ref 0), (2, .ref 7), (3, .int x3)] [.int v198] s197
      refine X_aload_n C dL_law_1888 rfl (j := 2) rfl ?_
      refine X_aload_n C dL_law_1889 rfl (j := 0) rfl ?_
      refine X_iload_n C dL_law_1890 rfl (j := 3) rfl ?_
      refine X_iconst C (v := 1) (by decide) dL_law_1891 ?_
      refine X_iadd C dL_law_1892 ?_
      obtain ⟨g, h⟩ := h
      refine X_sld C SC g dL_law_1893 ?_
      refine X_aload_n C dL_law_1894 rfl (j := 0) rfl ?_
      refine X_iload_n C dL_law_1895 rfl (j := 3) rfl ?_
      refine X_iconst C (v := 2) (by decide) dL_law_1896 ?_
      refine X_iadd C dL_law_1897 ?_
      obtain ⟨g, h⟩ := h
      refine X_sld C SC g dL_law_1898 ?_
      refine X_aload_n C dL_law_1899 rfl (j := 0) rfl ?_
      refine X_iload_n C dL_law_1900 rfl (j := 3) rfl ?_
      refine X_iconst C (v := 3) (by decide) dL_law_1901 ?_
      refine X_iadd C dL_law_1902 ?_
      obtain ⟨g, h⟩ := h
      refine X_sld C SC g dL_law_1903 ?_
      refine X_aload_n C dL_law_1904 rfl (j := 0) rfl ?_
      refine X_iload_n C dL_law_1905 rfl (j := 3) rfl ?_
      refine X_iconst C (v := 4) (by decide) dL_law_1906 ?_
      refine X_iadd C dL_law_1907 ?_
      obtain ⟨g, h⟩ := h
      refine X_sld C SC g dL_law_1908 ?_
      refine X_aload_n C dL_law_1909 rfl (j := 0) rfl ?_
      refine X_iload_n C dL_law_1910 rfl (j := 3) rfl ?_
      refine X_iconst C (v := 5) (by decide) dL_law_1911 ?_
      refine X_iadd C dL_law_1912 ?_
      obtain ⟨g, h⟩ := h
      refine X_sld C SC g dL_law_1913 ?_
      refine X_callV C dL_law_1914 pw_RL_211 (b := 7) (as := [.int (xs (x3 + 1 : Int32).toNatClampNeg), .int (xs (x3 + 2 : Int32).toNatClampNeg), .int (xs (x3 + 3 : Int32).toNatClampNeg), .int (xs (x3 + 4 : Int32).toNatClampNeg), .int (xs (x3 + 5 : Int32).toNatClampNeg)]) (S := [.int v198]) sh_7 rfl rfl rfl (Nat.le_of_ble_eq_true rfl) (Ct_mono h ?_)
      rintro _ s199 ⟨v200, rfl, h⟩
      show X κ 1917 [(0, .ref 9999), (1, .ref 0), (2, .ref 7), (3, .int x3)] [.int v200, .int v198] s199
      refine X_icmp_eq C dL_law_1917 (tgt := 2012) (by decide) (fun c => ?_) (fun c => ?_)
      · replace h := h.1 c
        refine X_iinc C dL_law_2012 (j := 3) rfl (v := x3 + 6) rfl (by decide) (L' := [(3, .int (x3 + 6)), (0, .ref 9999), (1, .ref 0), (2, .ref 7)]) rfl ?_
        refine X_goto C dL_law_2015 (tgt := 18) (by decide) ?_
        refine X_loc [1, 2, 3, 0] rfl ?_
        exact h
      · replace h := h.2 c
        refine X_iconst C (v := 0) (by decide) dL_law_1920 ?_
        exact h.elim
    · replace h := h.2.2.2.2.2.2.2.2.2.2.2.2.2.2.2.2.2.2.2.2.2.2.2.2.2.2.2.2.2.2.2.2.2.2.2.2.2.2.2.2.2.2.2.2.2.2.2.2.2.1 c
      refine X_tableIn C dL_law_33 (by omega) (by omega) (off := 1889) (by rw [c]; rfl) (tgt := 1922) (by decide) ?_
      refine X_aload_n C dL_law_1922 rfl (j := 1) rfl ?_
      refine X_aload_n C dL_law_1923 rfl (j := 0) rfl ?_
      refine X_iload_n C dL_law_1924 rfl (j := 3) rfl ?_
      refine X_iconst C (v := 1) (by decide) dL_law_1925 ?_
      refine X_iadd C dL_law_1926 ?_
      obtain ⟨g, h⟩ := h
      refine X_sld C SC g dL_law_1927 ?_
      refine X_aload_n C dL_law_1928 rfl (j := 0) rfl ?_
      refine X_iload_n C dL_law_1929 rfl (j := 3) rfl ?_
      refine X_iconst C (v := 2) (by decide) dL_law_1930 ?_
      refine X_iadd C dL_law_1931 ?_
      obtain ⟨g, h⟩ := h
      refine X_sld C SC g dL_law_1932 ?_
      refine X_aload_n C dL_law_1933 rfl (j := 0) rfl ?_
      refine X_iload_n C dL_law_1934 rfl (j := 3) rfl ?_
      refine X_iconst C (v := 3) (by decide) dL_law_1935 ?_
      refine X_iadd C dL_law_1936 ?_
      obtain ⟨g, h⟩ := h
      refine X_sld C SC g dL_law_1937 ?_
      refine X_aload_n C dL_law_1938 rfl (j := 0) rfl ?_
      refine X_iload_n C dL_law_1939 rfl (j := 3) rfl ?_
      refine X_iconst C (v := 4) (by decide) dL_law_1940 ?_
      refine X_iadd C dL_law_1941 ?_
      obtain ⟨g, h⟩ := h
      refine X_sld C SC g dL_law_1942 ?_
      refine X_callV C dL_law_1943 pw_RL_212 (b := 0) (as := [.int (xs (x3 + 1 : Int32).toNatClampNeg), .int (xs (x3 + 2 : Int32).toNatClampNeg), .int (xs (x3 + 3 : Int32).toNatClampNeg), .int (xs (x3 + 4 : Int32).toNatClampNeg)]) (S := []) sh_0 rfl rfl rfl (Nat.le_of_ble_eq_true rfl) (Ct_mono h ?_)
      rintro _ s201 ⟨v202, rfl, h⟩
      show X κ 1946 [(0, .ref 9999), (1, .ref 0), (2, .ref 7), (3, .int x3)] [.int v202] s201
      refine X_aload_n C dL_law_1946 rfl (j := 2) rfl ?_
      refine X_aload_n C dL_law_1947 rfl (j := 0) rfl ?_
      refine X_iload_n C dL_law_1948 rfl (j := 3) rfl ?_
      refine X_iconst C (v := 1) (by decide) dL_law_1949 ?_
      refine X_iadd C dL_law_1950 ?_
      obtain ⟨g, h⟩ := h
      refine X_sld C SC g dL_law_1951 ?_
      refine X_aload_n C dL_law_1952 rfl (j := 0) rfl ?_
      refine X_iload_n C dL_law_1953 rfl (j := 3) rfl ?_
      refine X_iconst C (v := 2) (by decide) dL_law_1954 ?_
      refine X_iadd C dL_law_1955 ?_
      obtain ⟨g, h⟩ := h
      refine X_sld C SC g dL_law_1956 ?_
      refine X_aload_n C dL_law_1957 rfl (j := 0) rfl ?_
      refine X_iload_n C dL_law_1958 rfl (j := 3) rfl ?_
      refine X_iconst C (v := 3) (by decide) dL_law_1959 ?_
      refine X_iadd C dL_law_1960 ?_
      obtain ⟨g, h⟩ := h
      refine X_sld C SC g dL_law_1961 ?_
      refine X_aload_n C dL_law_1962 rfl (j := 0) rfl ?_
      refine X_iload_n C dL_law_1963 rfl (j := 3) rfl ?_
      refine X_iconst C (v := 4) (by decide) dL_law_1964 ?_
      refine X_iadd C dL_law_1965 ?_
      obtain ⟨g, h⟩ := h
      refine X_sld C SC g dL_law_1966 ?_
      refine X_callV C dL_law_1967 pw_RL_215 (b := 7) (as := [.int (xs (x3 + 1 : Int32).toNatClampNeg), .int (xs (x3 + 2 : Int32).toNatClampNeg), .int (xs (x3 + 3 : Int32).toNatClampNeg), .int (xs (x3 + 4 : Int32).toNatClampNeg)]) (S := [.int v202]) sh_7 rfl rfl rfl (Nat.le_of_ble_eq_true rfl) (Ct_mono h ?_)
      rintro _ s203 ⟨v204, rfl, h⟩
      show X κ 1970 [(0, .ref 9999), (1, .ref 0), (2, .ref 7), (3, .int x3)] [.int v204, .int v202] s203
      refine X_icmp_eq C dL_law_1970 (tgt := 2012) (by decide) (fun c => ?_) (fun c => ?_)
      · replace h := h.1 c
        refine X_iinc C dL_law_2012 (j := 3) rfl (v := x3 + 6) rfl (by decide) (L' := [(3, .int (x3 + 6)), (0, .ref 9999), (1, .ref 0), (2, .ref 7)]) rfl ?_
        refine X_goto C dL_law_2015 (tgt := 18) (by decide) ?_
        refine X_loc [1, 2, 3, 0] rfl ?_
        exact h
      · replace h := h.2 c
        refine X_iconst C (v := 0) (by decide) dL_law_1973 ?_
        exact h.elim
    · replace h := h.2.2.2.2.2.2.2.2.2.2.2.2.2.2.2.2.2.2.2.2.2.2.2.2.2.2.2.2.2.2.2.2.2.2.2.2.2.2.2.2.2.2.2.2.2.2.2.2.2.2.1 c
      refine X_tableIn C dL_law_33 (by omega) (by omega) (off := 1942) (by rw [c]; rfl) (tgt := 1975) (by decide) ?_
      refine X_aload_n C dL_law_1975 rfl (j := 1) rfl ?_
      refine X_aload_n C dL_law_1976 rfl (j := 0) rfl ?_
      refine X_iload_n C dL_law_1977 rfl (j := 3) rfl ?_
      refine X_iconst C (v := 1) (by decide) dL_law_1978 ?_
      refine X_iadd C dL_law_1979 ?_
      obtain ⟨g, h⟩ := h
      refine X_sld C SC g dL_law_1980 ?_
      refine X_callV C dL_law_1981 pw_RL_216 (b := 0) (as := [.int (xs (x3 + 1 : Int32).toNatClampNeg)]) (S := []) sh_0 rfl rfl rfl (Nat.le_of_ble_eq_true rfl) (Ct_mono h ?_)
      rintro _ s205 ⟨v206, rfl, h⟩
      show X κ 1984 [(0, .ref 9999), (1, .ref 0), (2, .ref 7), (3, .int x3)] [.int v206] s205
      refine X_aload_n C dL_law_1984 rfl (j := 2) rfl ?_
      refine X_aload_n C dL_law_1985 rfl (j := 0) rfl ?_
      refine X_iload_n C dL_law_1986 rfl (j := 3) rfl ?_
      refine X_iconst C (v := 1) (by decide) dL_law_1987 ?_
      refine X_iadd C dL_law_1988 ?_
      obtain ⟨g, h⟩ := h
      refine X_sld C SC g dL_law_1989 ?_
      refine X_callV C dL_law_1990 pw_RL_219 (b := 7) (as := [.int (xs (x3 + 1 : Int32).toNatClampNeg)]) (S := [.int v206]) sh_7 rfl rfl rfl (Nat.le_of_ble_eq_true rfl) (Ct_mono h ?_)
      rintro _ s207 ⟨v208, rfl, h⟩
      show X κ 1993 [(0, .ref 9999), (1, .ref 0), (2, .ref 7), (3, .int x3)] [.int v208, .int v206] s207
      refine X_icmp_eq C dL_law_1993 (tgt := 2012) (by decide) (fun c => ?_) (fun c => ?_)
      · replace h := h.1 c
        refine X_iinc C dL_law_2012 (j := 3) rfl (v := x3 + 6) rfl (by decide) (L' := [(3, .int (x3 + 6)), (0, .ref 9999), (1, .ref 0), (2, .ref 7)]) rfl ?_
        refine X_goto C dL_law_2015 (tgt := 18) (by decide) ?_
        refine X_loc [1, 2, 3, 0] rfl ?_
        exact h
      · replace h := h.2 c
        refine X_iconst C (v := 0) (by decide) dL_law_1996 ?_
        exact h.elim
    · replace h := h.2.2.2.2.2.2.2.2.2.2.2.2.2.2.2.2.2.2.2.2.2.2.2.2.2.2.2.2.2.2.2.2.2.2.2.2.2.2.2.2.2.2.2.2.2.2.2.2.2.2.2 c
      refine X_tableIn C dL_law_33 (by omega) (by omega) (off := 1965) (by rw [c]; rfl) (tgt := 1998) (by decide) ?_
      refine X_aload_n C dL_law_1998 rfl (j := 1) rfl ?_
      refine X_callV C dL_law_1999 pw_RL_220 (b := 0) (as := []) (S := []) sh_0 rfl rfl rfl (Nat.le_of_ble_eq_true rfl) (Ct_mono h ?_)
      rintro _ s209 ⟨v210, rfl, h⟩
      show X κ 2002 [(0, .ref 9999), (1, .ref 0), (2, .ref 7), (3, .int x3)] [.long v210] s209
      refine X_aload_n C dL_law_2002 rfl (j := 2) rfl ?_
      refine X_callV C dL_law_2003 pw_RL_224 (b := 7) (as := []) (S := [.long v210]) sh_7 rfl rfl rfl (Nat.le_of_ble_eq_true rfl) (Ct_mono h ?_)
      rintro _ s211 ⟨v212, rfl, h⟩
      show X κ 2006 [(0, .ref 9999), (1, .ref 0), (2, .ref 7), (3, .int x3)] [.long v212, .long v210] s211
      refine X_lcmp C dL_law_2006 ?_
      refine X_if_eq C dL_law_2007 (tgt := 2012) (by decide) (fun c => ?_) (fun c => ?_)
      · replace h := h.1 c
        refine X_iinc C dL_law_2012 (j := 3) rfl (v := x3 + 6) rfl (by decide) (L' := [(3, .int (x3 + 6)), (0, .ref 9999), (1, .ref 0), (2, .ref 7)]) rfl ?_
        refine X_goto C dL_law_2015 (tgt := 18) (by decide) ?_
        refine X_loc [1, 2, 3, 0] rfl ?_
        exact h
      · replace h := h.2 c
        refine X_iconst C (v := 0) (by decide) dL_law_2010 ?_
        exact h.elim
