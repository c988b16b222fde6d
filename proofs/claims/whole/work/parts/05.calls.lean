theorem xargs (G : xG) : ∀ (as : List Value) (i : Nat), lv_args i (as.map (xv G)) = xvL G (lv_args i as)
  | [], _ => rfl
  | v :: vs, i => by
    have ih := xargs G vs (if v.category = 2 then i + 2 else i + 1)
    show (i, xv G v) :: lv_args (if (xv G v).category = 2 then i + 2 else i + 1) (vs.map (xv G)) = (i, xv G v) :: xvL G (lv_args (if v.category = 2 then i + 2 else i + 1) vs)
    rw [xv_cat, ih]
theorem xsl (G : xG) : ∀ (as : List Value), (lg_sl (as.map (xv G))).length = (lg_sl as).length
  | [] => rfl
  | v :: vs => by
    have ih := xsl G vs
    unfold lg_sl at ih ⊢
    rw [List.map_cons, List.flatMap_cons, List.flatMap_cons, List.length_append, List.length_append, ih, xv_cat]
    by_cases h : v.category = 2 <;> simp [h]
theorem xcats (G : xG) (S : List Value) : ((S.map (xv G)).map fun v => v.category).sum = (S.map fun v => v.category).sum := by
  rw [List.map_map]
  congr 1
  apply List.map_congr_left
  intro v _
  exact xv_cat G v
def lw_nest : List Cond := lw_tbl.filter isNest
def xNw (U : State) : Prop := ∀ w ∈ lw_nest, va_Nw w U
theorem nest_on {w : Cond} (h : w ∈ lw_nest) : w.onTables = true := by
  have h2 := (List.mem_filter.mp h).2
  cases w <;> first | rfl | (simp [isNest] at h2)
theorem nest_use {w : Cond} (h : w ∈ lw_nest) : w ∈ lw_use := by
  obtain ⟨a, b⟩ := List.mem_filter.mp h
  exact List.mem_filter.mpr ⟨a, by rw [b]; exact Bool.or_true _⟩
theorem nest_warm {w : Cond} (h : w ∈ lw_nest) {s U : State} (hW : s.WarmedH U.vm) (hZ : va_Nw w s) : va_Nw w U := by
  have h2 := (List.mem_filter.mp h).2
  cases w <;> first | exact va_Nw.warmM hW hZ | (simp [isNest] at h2)
/-- method M, called with as in the world st, returns, and Q holds of its answer and the world behind it; d: room for calls -/
def Ct (d : Nat) (M : xM) (as : List Value) (st : xSt) (Q : Option Value → xSt → Prop) : Prop := ∃ Q0 : Option Value → xSt → Prop, (∀ r st', Q0 r st' → Q r st') ∧ ∀ (l : Launch) (G : xG), Met l M.1 (.code M.1 M.2.1 M.2.2.1 M.2.2.2 :: lw_good) ({ frames := d, cells := 0, slots := 0, locals := 64 * d }) (va_Pc (as.map (xv G)) (fun U => va_P G.1 vwCl (xw G st) U.heap ∧ va_K G.1 vwCl (xtys G) U ∧ va_D (fun _ => True) (xw G st) ∧ xNw U)) (xQ G Q0) 0 0 (xA G)
theorem Ct_mono {d : Nat} {M : xM} {as : List Value} {st : xSt} {Q Q' : Option Value → xSt → Prop} (h : Ct d M as st Q) (hm : ∀ r st', Q r st' → Q' r st') : Ct d M as st Q' := by
  obtain ⟨Q0, a, b⟩ := h
  exact ⟨Q0, fun r st' q => hm r st' (a r st' q), b⟩
theorem Ct_of {d : Nat} {M : xM} {as : List Value} {st : xSt} {Q : Option Value → xSt → Prop} (hpl : plainName M.1.cls = true) (hlen : (lg_sl as).length ≤ M.2.2.1) (h : ∀ κ, Cx κ M d → xR κ Q → X κ 0 (lv_args 0 as) [] st) : Ct d M as st Q := by
  refine ⟨Q, fun _ _ q => q, fun l G => ?_⟩
  refine Met.ofW (cc := M.2.1) (maxL := M.2.2.1) (ret := M.2.2.2) hpl rfl ?_
  intro p e s m args below meth c s₁ B hml hv
  obtain ⟨rfl, hP, hK, hD0, hN⟩ := hv
  have hts := atoms_spec (ws := .code M.1 M.2.1 M.2.2.1 M.2.2.2 :: lw_good) B.pre
  have hts2 : ∀ w ∈ lw_use, w.before ((as.map (xv G)).toArray) s = true := by
    intro w hw
    obtain ⟨a, b⟩ := List.mem_filter.mp hw
    rcases Bool.or_eq_true _ _ ▸ b with g | g
    · exact hts w (List.mem_cons_of_mem _ (List.mem_filter.mpr ⟨a, g⟩))
    · have hm : w ∈ lw_nest := List.mem_filter.mpr ⟨a, g⟩
      exact va_Nw.use (nest_on hm) (hN w hm)
  have hD : va_D (xA G) (xw G st) := ⟨hD0.1, fun k q hk => by
    have hl : k < (xw G st).length := (List.getElem?_eq_some_iff.mp hk).1
    rw [xw_all] at hk
    cases hs : xshapes[k]? with
    | none => rw [hs] at hk; cases hk
    | some sh => rw [hs] at hk; cases hk; exact ⟨k, (List.getElem?_eq_some_iff.mp hs).1, rfl⟩⟩
  have hX := h (p, l, e, ({ frames := d, cells := 0, slots := 0, locals := 64 * d } : Room), s, m, _, below, meth, c, 0, 0, MQ below (xQ G Q) _ s 0 0 (xA G), xA G, G) ⟨B.exec, B.bytes, hml, B.returns, B.notSynchronized, findClass_of_methodNamed B.named, hts2, ⟨Nat.le_refl _, Nat.le_refl _, Nat.zero_le _, Nat.zero_le _⟩, hK, xw_D _ hD⟩ ⟨rfl, rfl⟩
  rw [lg_entry_eq]
  have he := lv_entry (as.map (xv G)) (n := M.2.2.1) (by rw [xsl]; exact hlen)
  rw [xargs] at he
  exact hX s.heap [] _ hP va_S.rf (by rw [hml]; exact he)
section XC
variable {p : Program} {l : Launch} {e : Env} {R : Room} {s : State} {m : MethodId} {args : Array Value} {below : List Frame} {meth : Method} {c : Code} {H : Heap} {locs : List Loc} {cells slots : Nat} {QQ : State → Prop}
theorem W_xcall {G : xG} {A : Nat → Prop} {Q' : Option Value → xSt → Prop} {pc : Nat} {ls : Array Slot} {st0 rest : List Value} {a : Array Value} (hr : va_Run p l e R s m args below meth c H locs cells slots 0 0 (F0 m pc ls st0) rest (xQ G Q' a) (xA G)) (hS : va_S A s.heap H locs) (hA : ∀ q, xA G q → A q)
    (kk : ∀ (r : Option Value) (st' : xSt) (H1 : Heap) (locs1 : List Loc), Q' r st' → va_P G.1 vwCl (xw G st') H1 → va_S A s.heap H1 locs1 → W p l e R s m args below meth c H1 locs1 cells slots QQ (F0 m (pc + 3) ls ((r.map (xv G)).toList ++ rest))) : W p l e R s m args below meth c H locs cells slots QQ (F0 m pc ls st0) := by
  intro T hT X
  obtain ⟨v, st₀, t, T', L, h0, X', hL, e1, e2, ⟨⟨r, st', hv, hq, hp⟩, hz, hk⟩, st⟩ := hr T hT X
  cases hv
  rw [h0] at hz hk
  obtain ⟨t2, a1, b1⟩ := kk r st' T'.heap (locs ++ L) hq (by rw [e1]; exact hp) ⟨Nat.le_trans hS.1 (by rw [e1]; exact hz), fun q h1 h2 => by rw [e1, hk q (Nat.lt_of_lt_of_le h1 hS.1) (fun z => h2 (hA q z))]; exact hS.2.1 q h1 h2, fun q hq => by
      rcases List.mem_append.mp hq with h | h
      · exact hS.2.2 q h
      · exact hA _ (hL q h)⟩ T' rfl X'
  exact ⟨t2, st t2 a1, b1⟩
end XC
/-- what a call at pool place 'index' of class own needs of the tables: method M', with n arguments -/
def xCB (own : String) (index : Nat) (M' : xM) (n : Nat) : Prop := Cond.methodLink own index M'.1 ∈ lw_use ∧ Cond.initialized M'.1.cls ∈ lw_use ∧ Cond.code M'.1 M'.2.1 M'.2.2.1 M'.2.2.2 ∈ lw_use ∧ (M'.1.cls ≠ "java/lang/invoke/MethodHandle" ∧ M'.1.cls ≠ "java/lang/invoke/VarHandle" ∧ (parseMethodDescriptor M'.1.desc).map (fun d => d.parameters.length) = some n) ∧ M'.2.2.1 ≤ 45
def xCV (own : String) (index : Nat) (M' : xM) (n : Nat) : Prop := xCB own index M' n ∧ Cond.instanceMethod M'.1 ∈ lw_use ∧ Cond.selects M'.1.cls M'.1 M'.1 ∈ lw_use
def xCS (own : String) (index : Nat) (M' : xM) (n : Nat) : Prop := xCB own index M' n ∧ Cond.static M'.1 ∈ lw_use
def xCN (own : String) (index : Nat) (host : String) (M' : xM) (n : Nat) : Prop := (Cond.methodLinkNest own index M'.1 host ∈ lw_use ∧ Cond.initialized M'.1.cls ∈ lw_use ∧ Cond.code M'.1 M'.2.1 M'.2.2.1 M'.2.2.2 ∈ lw_use ∧ (M'.1.cls ≠ "java/lang/invoke/MethodHandle" ∧ M'.1.cls ≠ "java/lang/invoke/VarHandle" ∧ (parseMethodDescriptor M'.1.desc).map (fun d => d.parameters.length) = some n) ∧ M'.2.2.1 ≤ 45) ∧ Cond.static M'.1 ∈ lw_use
theorem good_code {M' : xM} (h : Cond.code M'.1 M'.2.1 M'.2.2.1 M'.2.2.2 ∈ lw_use) : GoodIn lw_use (.code M'.1 M'.2.1 M'.2.2.1 M'.2.2.2 :: lw_good) := by
  intro w hw
  rcases List.mem_cons.mp hw with e | e
  · subst e
    exact ⟨h, Or.inl rfl⟩
  · exact ⟨use_good e, good_of_word (List.mem_filter.mp e).2⟩
theorem xPre_blind (G : xG) (st : xSt) (as : List Value) : FrameBlind (va_Pc as (fun U => va_P G.1 vwCl (xw G st) U.heap ∧ va_K G.1 vwCl (xtys G) U ∧ va_D (fun _ => True) (xw G st) ∧ xNw U)) := by
  intro a U g mk q
  obtain ⟨q0, qP, qK, qD, qN⟩ := q
  exact ⟨q0, qP, va_K.moved (u := U) (U := U.calling g mk a) (Vm.Alike.refl U.vm) qK, qD, fun w hw => va_Nw.same (nest_on hw) (u := U) (U := U.calling g mk a) rfl (qN w hw)⟩
theorem xPre_at {G : xG} {st : xSt} {s U : State} {H : Heap} {A : Nat → Prop} {args : Array Value} {as : List Value} (hP : va_P G.1 vwCl (xw G st) H) (hK : va_K G.1 vwCl (xtys G) s) (hD : va_D A (xw G (fun _ _ => 0, fun _ _ => 0))) (hts : ∀ w ∈ lw_use, w.before args s = true) (hU : U.heap = H) (hW : s.WarmedH U.vm) : va_Pc as (fun U => va_P G.1 vwCl (xw G st) U.heap ∧ va_K G.1 vwCl (xtys G) U ∧ va_D (fun _ => True) (xw G st) ∧ xNw U) as.toArray U :=
  ⟨rfl, by rw [hU]; exact hP, va_K.moved hW.alike hK, (xw_D st hD).weaken (fun _ _ _ _ => trivial), fun w hw => nest_warm hw hW (va_Nw.of (nest_on hw) (hts w (nest_use hw)))⟩
theorem xA_of {G : xG} {A : Nat → Prop} {st : xSt} (hD : va_D A (xw G st)) : ∀ q, xA G q → A q := by
  rintro q ⟨p, hp, rfl⟩
  obtain ⟨sh, hs⟩ : ∃ sh, xshapes[p]? = some sh := ⟨xshapes[p], List.getElem?_eq_getElem hp⟩
  exact hD.2 p _ (xw_get (G := G) (st := st) hs)
theorem X_callV {κ : xK} {M : xM} {d pc : Nat} {L : List (Nat × Value)} {S S0 : List Value} {st : xSt} {M' : xM} {as : List Value} {b index n ci : Nat} {fs : List (Option Nat)} (C : Cx κ M (d + 1)) (hd : decode M.2.1 pc = .ok (.invokevirtual index, 3)) (hw : xCV M.1.cls index M' n) (hsh : xshapes[b]? = some (.inl (ci, fs))) (hci : (vwCl[ci]?).map (fun q => q.1) = some M'.1.cls) (hst : S0 = as.reverse ++ .ref b :: S) (hn : as.length = n) (hcat : (S.map fun v => v.category).sum ≤ 8) (h : Ct d M' (.ref b :: as) st (fun r st' => X κ (pc + 3) L (r.toList ++ S) st')) : X κ pc L S0 st := by
  obtain ⟨p, l, e, R, s, m, args, below, meth, c, cells, slots, QQ, A, G⟩ := κ
  obtain ⟨hx, hb, hml, hr, hlk, hown, hts, hR, hK, hD⟩ := C
  intro H locs ls hP hS hl
  subst hst
  obtain ⟨Q0, hm, h⟩ := h
  obtain ⟨⟨w1, w2, w3, w4, w5⟩, w6, w7⟩ := hw
  obtain ⟨q, hq1, hq2⟩ := Option.map_eq_some_iff.mp hci
  have hrv := va_recv hK hP hq1 (xw_get (G := G) (st := st) hsh)
  rw [hq2] at hrv
  have cw : CallW R s args M.1.cls M'.1.cls index M'.1 M'.2.1 M'.2.2.1 M'.2.2.2 (.code M'.1 M'.2.1 M'.2.2.1 M'.2.2.2 :: lw_good) ({ frames := d, cells := 0, slots := 0, locals := 64 * d }) 0 0 n :=
    ⟨callB_of n hts (good_code w3) rfl rfl rfl (hts _ w2) (hts _ w1) w4 ⟨hR.1, by have := hR.2.1; show 8 + (M'.2.2.1 + 11) + 64 * d ≤ R.locals; omega⟩, hts _ w6, hts _ w7⟩
  refine W_xcall (va_runV (C := M'.1.cls) (b := G.2.1 b) (As := as.map (xv G)) (rest := S.map (xv G)) ⟨hx, hb, rfl, hown, hts⟩ (h l G) cw ⟨xPre_blind G st _, hrv, fun U hU hW => xPre_at hP hK hD hts hU hW⟩ rfl (by rw [List.length_map]; exact hn) hl.1 (by simp [xv]) (lv_room (by rw [xcats]; exact hcat)) hd ⟨hR.2.2.1, hR.2.2.2⟩) hS (xA_of hD) (fun r st' H1 locs1 hq hp hs => ?_)
  have hX := hm r st' hq H1 locs1 ls hp hs hl
  cases r <;> exact hX
theorem X_callS {κ : xK} {M : xM} {d pc : Nat} {L : List (Nat × Value)} {S S0 : List Value} {st : xSt} {M' : xM} {as : List Value} {index n : Nat} (C : Cx κ M (d + 1)) (hd : decode M.2.1 pc = .ok (.invokestatic index, 3)) (hw : xCS M.1.cls index M' n) (hst : S0 = as.reverse ++ S) (hn : as.length = n) (hcat : (S.map fun v => v.category).sum ≤ 8) (h : Ct d M' as st (fun r st' => X κ (pc + 3) L (r.toList ++ S) st')) : X κ pc L S0 st := by
  obtain ⟨p, l, e, R, s, m, args, below, meth, c, cells, slots, QQ, A, G⟩ := κ
  obtain ⟨hx, hb, hml, hr, hlk, hown, hts, hR, hK, hD⟩ := C
  intro H locs ls hP hS hl
  subst hst
  obtain ⟨Q0, hm, h⟩ := h
  obtain ⟨⟨w1, w2, w3, w4, w5⟩, w6⟩ := hw
  have cw : CallB R s args M.1.cls index M'.1 M'.2.1 M'.2.2.1 M'.2.2.2 (.code M'.1 M'.2.1 M'.2.2.1 M'.2.2.2 :: lw_good) ({ frames := d, cells := 0, slots := 0, locals := 64 * d }) 0 0 n :=
    callB_of n hts (good_code w3) rfl rfl rfl (hts _ w2) (hts _ w1) w4 ⟨hR.1, by have := hR.2.1; show 8 + (M'.2.2.1 + 11) + 64 * d ≤ R.locals; omega⟩
  refine W_xcall (va_runS (As := as.map (xv G)) (rest := S.map (xv G)) ⟨hx, hb, rfl, hown, hts⟩ (h l G) ⟨cw, hts _ w6⟩ ⟨xPre_blind G st _, fun U hU hW => xPre_at hP hK hD hts hU hW⟩ rfl (by rw [List.length_map]; exact hn) hl.1 (by simp) (lv_room (by rw [xcats]; exact hcat)) hd ⟨hR.2.2.1, hR.2.2.2⟩) hS (xA_of hD) (fun r st' H1 locs1 hq hp hs => ?_)
  have hX := hm r st' hq H1 locs1 ls hp hs hl
  cases r <;> exact hX
theorem X_callN {κ : xK} {M : xM} {d pc : Nat} {L : List (Nat × Value)} {S S0 : List Value} {st : xSt} {M' : xM} {as : List Value} {index n : Nat} {host : String} (C : Cx κ M (d + 1)) (hd : decode M.2.1 pc = .ok (.invokestatic index, 3)) (hw : xCN M.1.cls index host M' n) (hst : S0 = as.reverse ++ S) (hn : as.length = n) (hcat : (S.map fun v => v.category).sum ≤ 8) (h : Ct d M' as st (fun r st' => X κ (pc + 3) L (r.toList ++ S) st')) : X κ pc L S0 st := by
  obtain ⟨p, l, e, R, s, m, args, below, meth, c, cells, slots, QQ, A, G⟩ := κ
  obtain ⟨hx, hb, hml, hr, hlk, hown, hts, hR, hK, hD⟩ := C
  intro H locs ls hP hS hl
  subst hst
  obtain ⟨Q0, hm, h⟩ := h
  obtain ⟨⟨w1, w2, w3, w4, w5⟩, w6⟩ := hw
  have cw : va_CN R s args M.1.cls index M'.1 host M'.2.1 M'.2.2.1 M'.2.2.2 (.code M'.1 M'.2.1 M'.2.2.1 M'.2.2.2 :: lw_good) ({ frames := d, cells := 0, slots := 0, locals := 64 * d }) 0 0 n :=
    va_cnB n hts (good_code w3) rfl rfl rfl (va_Nw.of rfl (hts _ w1)) (hts _ w2) w4 ⟨hR.1, by have := hR.2.1; show 8 + (M'.2.2.1 + 11) + 64 * d ≤ R.locals; omega⟩
  refine W_xcall (va_runSN (As := as.map (xv G)) (rest := S.map (xv G)) ⟨hx, hb, rfl, hown, hts⟩ (h l G) ⟨cw, hts _ w6, trivial⟩ ⟨xPre_blind G st _, fun U hU hW => xPre_at hP hK hD hts hU hW⟩ rfl (by rw [List.length_map]; exact hn) hl.1 (by simp) (lv_room (by rw [xcats]; exact hcat)) hd ⟨hR.2.2.1, hR.2.2.2⟩) hS (xA_of hD) (fun r st' H1 locs1 hq hp hs => ?_)
  have hX := hm r st' hq H1 locs1 ls hp hs hl
  cases r <;> exact hX
/-- what is wanted of an answer that is an int, a long, nothing -/
def Qi (P : Int32 → xSt → Prop) (r : Option Value) (st : xSt) : Prop := ∃ v, r = some (.int v) ∧ P v st
def Ql (P : Int64 → xSt → Prop) (r : Option Value) (st : xSt) : Prop := ∃ v, r = some (.long v) ∧ P v st
def Qv (P : xSt → Prop) (r : Option Value) (st : xSt) : Prop := r = none ∧ P st
