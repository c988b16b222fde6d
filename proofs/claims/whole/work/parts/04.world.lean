def isNest (w : Cond) : Bool := match w with
  | .methodLinkNest .. => true
  | _ => false
def lw_good : List Cond := lw_tbl.filter goodWord
/-- the words that the walks use: all that a call hands on, and the nest's links -/
def lw_use : List Cond := lw_tbl.filter (fun w => goodWord w || isNest w)
theorem use_of {k : Nat} {w : Cond} (h : lw_tbl[k]? = some w) (hg : (goodWord w || isNest w) = true) : w ∈ lw_use := List.mem_filter.mpr ⟨List.mem_of_getElem? h, hg⟩
theorem use_ws {ws : List Cond} (h : ∀ w ∈ ws, w ∈ lw_tbl) (hg : ws.all (fun w => goodWord w || isNest w) = true) : ∀ w ∈ ws, w ∈ lw_use := fun w hw => List.mem_filter.mpr ⟨h w hw, List.all_eq_true.mp hg w hw⟩
theorem use_good {w : Cond} (h : w ∈ lw_good) : w ∈ lw_use := by
  obtain ⟨a, b⟩ := List.mem_filter.mp h
  exact List.mem_filter.mpr ⟨a, by rw [b]; rfl⟩
/-! the places of the two objects' cells, and what each holds: (class number, fields: a place, or none for an int), or (kind 0 int 1 long 2 boolean 3 rows of ints, length, first row) -/
abbrev xSt : Type := (Nat → Nat → Int32) × (Nat → Nat → Int64)
abbrev xSh : Type := (Nat × List (Option Nat)) ⊕ (Nat × Nat × Nat)
abbrev xG : Type := va_G × (Nat → Nat) × ClassId × ClassId × ClassId × ClassId
abbrev xM : Type := MethodName × ByteArray × Nat × Option FieldType
def xshapes : List xSh := [.inl (6, [some 1, some 2, some 3, some 4, some 5, some 6]), .inl (4, [some 8, some 9, some 10, none]), .inl (0, [some 11, some 12, some 13, some 14, none]), .inl (3, [some 15, some 16, some 17, some 18, none, none, none]), .inl (1, [some 19, some 20, some 21, none]), .inl (2, [some 22, some 23, some 24, some 25, some 26, none]), .inl (5, [some 27, none, none, none, none, none]), .inl (7, [none, some 28, some 29, some 30, some 31, none, none, some 32, some 33, some 34, none, some 35, some 36, some 37, none, some 38, some 39, some 40, some 41, none, none, none, some 42, none, none, none, some 43, some 44, some 45, some 46, some 47, none]), .inr (3, 4, 48), .inr (0, 4, 0), .inr (0, 4, 0), .inr (3, 6, 52), .inr (0, 6, 0), .inr (0, 6, 0), .inr (0, 6, 0), .inr (3, 8, 58), .inr (1, 8, 0), .inr (1, 3, 0), .inr (0, 3, 0), .inr (3, 8, 66), .inr (0, 8, 0), .inr (0, 8, 0), .inr (3, 8, 74), .inr (0, 8, 0), .inr (0, 8, 0), .inr (0, 31, 0), .inr (0, 31, 0), .inr (0, 60, 0), .inr (0, 126, 0), .inr (0, 6, 0), .inr (2, 6, 0), .inr (0, 6, 0), .inr (0, 48, 0), .inr (0, 3, 0), .inr (2, 256, 0), .inr (0, 8, 0), .inr (0, 64, 0), .inr (0, 8, 0), .inr (0, 8, 0), .inr (0, 8, 0), .inr (0, 240, 0), .inr (0, 961, 0), .inr (0, 60, 0), .inr (2, 4, 0), .inr (0, 4, 0), .inr (0, 4, 0), .inr (0, 240, 0), .inr (0, 60, 0), .inr (0, 60, 0), .inr (0, 60, 0), .inr (0, 60, 0), .inr (0, 60, 0), .inr (0, 41, 0), .inr (0, 41, 0), .inr (0, 41, 0), .inr (0, 41, 0), .inr (0, 41, 0), .inr (0, 41, 0), .inr (0, 6, 0), .inr (0, 6, 0), .inr (0, 6, 0), .inr (0, 6, 0), .inr (0, 6, 0), .inr (0, 6, 0), .inr (0, 6, 0), .inr (0, 6, 0), .inr (0, 8, 0), .inr (0, 8, 0), .inr (0, 8, 0), .inr (0, 8, 0), .inr (0, 8, 0), .inr (0, 8, 0), .inr (0, 8, 0), .inr (0, 8, 0), .inr (0, 30, 0), .inr (0, 30, 0), .inr (0, 30, 0), .inr (0, 30, 0), .inr (0, 30, 0), .inr (0, 30, 0), .inr (0, 30, 0), .inr (0, 30, 0)]

def xv (G : xG) (v : Value) : Value := match v with
  | .ref p => .ref (G.2.1 p)
  | w => w
theorem xv_cat (G : xG) (v : Value) : (xv G v).category = v.category := by cases v <;> rfl
def xvL (G : xG) (L : List (Nat × Value)) : List (Nat × Value) := L.map (fun q => (q.1, xv G q.2))
def xfl (G : xG) (f : Nat → Int32) : Nat → List (Option Nat) → List Value
  | _, [] => []
  | k, o :: os => (match o with
    | some r => Value.ref (G.2.1 r)
    | none => Value.int (f k)) :: xfl G f (k + 1) os
theorem xfl_get (G : xG) (f : Nat → Int32) : ∀ (fs : List (Option Nat)) (k j : Nat), (xfl G f k fs)[j]? = (fs[j]?).map (fun o => match o with
    | some r => Value.ref (G.2.1 r)
    | none => Value.int (f (k + j)))
  | [], _, _ => by simp [xfl]
  | o :: os, k, 0 => by simp [xfl]
  | o :: os, k, j + 1 => by
    have h := xfl_get G f os (k + 1) j
    rw [show k + 1 + j = k + (j + 1) by omega] at h
    simpa [xfl] using h
theorem xfl_len (G : xG) (f : Nat → Int32) : ∀ (fs : List (Option Nat)) (k : Nat), (xfl G f k fs).length = fs.length
  | [], _ => rfl
  | _ :: os, k => by simp [xfl, xfl_len G f os (k + 1)]
def xcell (G : xG) (st : xSt) (p : Nat) (sh : xSh) : va_E := match sh with
  | .inl (ci, fs) => .inr (ci, xfl G (st.1 p) 0 fs)
  | .inr (0, n, _) => .inl (G.2.2.1, n, .inl (st.1 p))
  | .inr (1, n, _) => .inl (G.2.2.2.1, n, .inr (.inl (st.2 p)))
  | .inr (2, n, _) => .inl (G.2.2.2.2.1, n, .inl (st.1 p))
  | .inr (_, n, r0) => .inl (G.2.2.2.2.2, n, .inr (.inr (.inr (.inr (fun i => if i < n then some (G.2.1 (r0 + i)) else none)))))
theorem xcell_congr (G : xG) {st st' : xSt} {p : Nat} (sh : xSh) (h1 : st'.1 p = st.1 p) (h2 : st'.2 p = st.2 p) : xcell G st' p sh = xcell G st p sh := by
  unfold xcell
  rw [h1, h2]
def xwl (G : xG) (st : xSt) : Nat → List xSh → va_W
  | _, [] => []
  | k, sh :: r => (G.2.1 k, xcell G st k sh) :: xwl G st (k + 1) r
theorem xwl_get (G : xG) (st : xSt) : ∀ (l : List xSh) (k j : Nat), (xwl G st k l)[j]? = (l[j]?).map (fun sh => (G.2.1 (k + j), xcell G st (k + j) sh))
  | [], _, _ => by simp [xwl]
  | o :: os, k, 0 => by simp [xwl]
  | o :: os, k, j + 1 => by
    have h := xwl_get G st os (k + 1) j
    rw [show k + 1 + j = k + (j + 1) by omega] at h
    simpa [xwl] using h
def xw (G : xG) (st : xSt) : va_W := xwl G st 0 xshapes
theorem xw_all (G : xG) (st : xSt) (j : Nat) : (xw G st)[j]? = (xshapes[j]?).map (fun sh => (G.2.1 j, xcell G st j sh)) := by
  have h := xwl_get G st xshapes 0 j
  rw [Nat.zero_add] at h
  exact h
theorem xw_get {G : xG} {st : xSt} {p : Nat} {sh : xSh} (h : xshapes[p]? = some sh) : (xw G st)[p]? = some (G.2.1 p, xcell G st p sh) := by rw [xw_all, h]; rfl
theorem xw_set {G : xG} {st st' : xSt} {p : Nat} {sh : xSh} (h : xshapes[p]? = some sh) (ho : ∀ q, q ≠ p → st'.1 q = st.1 q ∧ st'.2 q = st.2 q) : (xw G st).set p (G.2.1 p, xcell G st' p sh) = xw G st' := by
  apply List.ext_getElem?
  intro j
  rw [List.getElem?_set]
  by_cases e : p = j
  · subst e
    have hl : p < (xw G st).length := (List.getElem?_eq_some_iff.mp (xw_get (G := G) (st := st) h)).1
    rw [if_pos rfl, if_pos hl, xw_get h]
  · rw [if_neg e, xw_all, xw_all]
    cases xshapes[j]? with
    | none => rfl
    | some s2 =>
      have := ho j (fun q => e q.symm)
      simp only [Option.map_some, xcell_congr G s2 this.1 this.2]
theorem xw_D {G : xG} {A : Nat → Prop} {st : xSt} (st' : xSt) (h : va_D A (xw G st)) : va_D A (xw G st') := by
  have key : ∀ (i : Nat) (q : Nat × va_E), (xw G st')[i]? = some q → ∃ q2, (xw G st)[i]? = some q2 ∧ q2.1 = q.1 := by
    intro i q hq
    rw [xw_all] at hq
    cases hs : xshapes[i]? with
    | none => rw [hs] at hq; cases hq
    | some sh => rw [hs] at hq; cases hq; exact ⟨_, xw_get hs, rfl⟩
  refine ⟨fun i j p q hi hj e => ?_, fun k q hk => ?_⟩
  · obtain ⟨p2, a1, a2⟩ := key i p hi
    obtain ⟨q2, b1, b2⟩ := key j q hj
    exact h.1 i j p2 q2 a1 b1 (by rw [a2, b2, e])
  · obtain ⟨q2, a1, a2⟩ := key k q hk
    rw [← a2]
    exact h.2 k q2 a1
def xup (st : xSt) (p k : Nat) (v : Int32) : xSt := (fun q => if q = p then upd (st.1 p) k v else st.1 q, st.2)
def xupL (st : xSt) (p k : Nat) (v : Int64) : xSt := (st.1, fun q => if q = p then vp_updL (st.2 p) k v else st.2 q)
theorem xup_at (st : xSt) (p k : Nat) (v : Int32) : (xup st p k v).1 p = upd (st.1 p) k v := if_pos rfl
theorem xupL_at (st : xSt) (p k : Nat) (v : Int64) : (xupL st p k v).2 p = vp_updL (st.2 p) k v := if_pos rfl
theorem xup_ne (st : xSt) (p k : Nat) (v : Int32) : ∀ q, q ≠ p → (xup st p k v).1 q = st.1 q ∧ (xup st p k v).2 q = st.2 q := fun _ h => ⟨if_neg h, rfl⟩
theorem xupL_ne (st : xSt) (p k : Nat) (v : Int64) : ∀ q, q ≠ p → (xupL st p k v).1 q = st.1 q ∧ (xupL st p k v).2 q = st.2 q := fun _ h => ⟨rfl, if_neg h⟩
theorem xfl_set (G : xG) (f : Nat → Int32) (v : Int32) : ∀ (fs : List (Option Nat)) (k j : Nat), fs[j]? = some none → (xfl G f k fs).set j (.int v) = xfl G (upd f (k + j) v) k fs := by
  intro fs k j hj
  apply List.ext_getElem?
  intro i
  have hlen : j < (xfl G f k fs).length := by rw [xfl_len]; exact (List.getElem?_eq_some_iff.mp hj).1
  rw [List.getElem?_set, xfl_get, xfl_get]
  by_cases e : j = i
  · subst e
    rw [if_pos rfl, if_pos hlen, hj]
    simp [upd]
  · rw [if_neg e]
    cases fs[i]? with
    | none => rfl
    | some o =>
      cases o with
      | none =>
        have e2 : ¬ i = j := fun q => e q.symm
        simp [upd, e2]
      | some r => rfl
abbrev xtys (G : xG) : List (ClassId × FieldType) := [(G.2.2.1, .int), (G.2.2.2.1, .long), (G.2.2.2.2.1, .boolean), (G.2.2.2.2.2, .array .int)]
abbrev xK : Type := Program × Launch × Env × Room × State × MethodId × Array Value × List Frame × Method × Code × Nat × Nat × (State → Prop) × (Nat → Prop) × xG
/-- the method walked in κ stands at pc with locals L and stack S in the world st: it comes to what κ wants -/
def X (κ : xK) (pc : Nat) (L : List (Nat × Value)) (S : List Value) (st : xSt) : Prop := match κ with
  | (p, l, e, R, s, m, args, below, meth, c, cells, slots, QQ, A, G) => ∀ (H : Heap) (locs : List Loc) (ls : Array Slot), va_P G.1 vwCl (xw G st) H → va_S A s.heap H locs → lv_has ls c.maxLocals (xvL G L) → W p l e R s m args below meth c H locs cells slots QQ (F0 m pc ls (S.map (xv G)))
/-- what is known of κ: the method M, room for d more frames, the tables -/
def Cx (κ : xK) (M : xM) (d : Nat) : Prop := match κ with
  | (p, _, _, R, s, m, args, _, meth, c, cells, slots, _, A, G) => p.tables.exec = Jvm.exec ∧ c.code = M.2.1 ∧ c.maxLocals = M.2.2.1 ∧ meth.sig.returnType = M.2.2.2 ∧ meth.locks = false ∧ s.vm.findClass M.1.cls = some m.cls ∧ (∀ w ∈ lw_use, w.before args s = true) ∧ (d ≤ R.frames ∧ 64 * d ≤ R.locals ∧ cells ≤ R.cells ∧ slots ≤ R.slots) ∧ va_K G.1 vwCl (xtys G) s ∧ va_D A (xw G (fun _ _ => 0, fun _ _ => 0))
def xA (G : xG) : Nat → Prop := fun q => ∃ p, p < xshapes.length ∧ q = G.2.1 p
def xQ (G : xG) (Q : Option Value → xSt → Prop) : Array Value → State → Outcome → State → Prop := fun _ st o t => (∃ (r : Option Value) (st' : xSt), o = .returned (r.map (xv G)) ∧ Q r st' ∧ va_P G.1 vwCl (xw G st') t.heap) ∧ va_F (xA G) st t
/-- κ wants of the method's own end: Q -/
def xR (κ : xK) (Q : Option Value → xSt → Prop) : Prop := match κ with
  | (_, _, _, _, s, _, args, below, _, _, cells, slots, QQ, A, G) => QQ = MQ below (xQ G Q) args s cells slots (xA G) ∧ A = xA G

theorem X_iadd {κ : xK} {M : xM} {d pc : Nat} {L : List (Nat × Value)} {S : List Value} {st : xSt} {x y : Int32} (C : Cx κ M d) (hd : decode M.2.1 pc = .ok (.iadd, 1)) (k : X κ (pc + 1) L (.int (x + y) :: S) st) : X κ pc L (.int y :: .int x :: S) st := by
  obtain ⟨pg, l, e, R, s, m, args, below, meth, c, cells, slots, QQ, A, G⟩ := κ
  obtain ⟨hx, hb, hml, hr, hlk, hown, hts, hR, hK, hD⟩ := C
  intro H locs ls hP hS hl
  exact lv_iadd hx hb hd (k H locs ls hP hS hl)

theorem X_isub {κ : xK} {M : xM} {d pc : Nat} {L : List (Nat × Value)} {S : List Value} {st : xSt} {x y : Int32} (C : Cx κ M d) (hd : decode M.2.1 pc = .ok (.isub, 1)) (k : X κ (pc + 1) L (.int (x - y) :: S) st) : X κ pc L (.int y :: .int x :: S) st := by
  obtain ⟨pg, l, e, R, s, m, args, below, meth, c, cells, slots, QQ, A, G⟩ := κ
  obtain ⟨hx, hb, hml, hr, hlk, hown, hts, hR, hK, hD⟩ := C
  intro H locs ls hP hS hl
  exact lv_isub hx hb hd (k H locs ls hP hS hl)

theorem X_imul {κ : xK} {M : xM} {d pc : Nat} {L : List (Nat × Value)} {S : List Value} {st : xSt} {x y : Int32} (C : Cx κ M d) (hd : decode M.2.1 pc = .ok (.imul, 1)) (k : X κ (pc + 1) L (.int (x * y) :: S) st) : X κ pc L (.int y :: .int x :: S) st := by
  obtain ⟨pg, l, e, R, s, m, args, below, meth, c, cells, slots, QQ, A, G⟩ := κ
  obtain ⟨hx, hb, hml, hr, hlk, hown, hts, hR, hK, hD⟩ := C
  intro H locs ls hP hS hl
  exact lv_imul hx hb hd (k H locs ls hP hS hl)

theorem X_iand {κ : xK} {M : xM} {d pc : Nat} {L : List (Nat × Value)} {S : List Value} {st : xSt} {x y : Int32} (C : Cx κ M d) (hd : decode M.2.1 pc = .ok (.iand, 1)) (k : X κ (pc + 1) L (.int (x &&& y) :: S) st) : X κ pc L (.int y :: .int x :: S) st := by
  obtain ⟨pg, l, e, R, s, m, args, below, meth, c, cells, slots, QQ, A, G⟩ := κ
  obtain ⟨hx, hb, hml, hr, hlk, hown, hts, hR, hK, hD⟩ := C
  intro H locs ls hP hS hl
  exact lv_iand hx hb hd (k H locs ls hP hS hl)

theorem X_ior {κ : xK} {M : xM} {d pc : Nat} {L : List (Nat × Value)} {S : List Value} {st : xSt} {x y : Int32} (C : Cx κ M d) (hd : decode M.2.1 pc = .ok (.ior, 1)) (k : X κ (pc + 1) L (.int (x ||| y) :: S) st) : X κ pc L (.int y :: .int x :: S) st := by
  obtain ⟨pg, l, e, R, s, m, args, below, meth, c, cells, slots, QQ, A, G⟩ := κ
  obtain ⟨hx, hb, hml, hr, hlk, hown, hts, hR, hK, hD⟩ := C
  intro H locs ls hP hS hl
  exact lv_ior hx hb hd (k H locs ls hP hS hl)

theorem X_ixor {κ : xK} {M : xM} {d pc : Nat} {L : List (Nat × Value)} {S : List Value} {st : xSt} {x y : Int32} (C : Cx κ M d) (hd : decode M.2.1 pc = .ok (.ixor, 1)) (k : X κ (pc + 1) L (.int (x ^^^ y) :: S) st) : X κ pc L (.int y :: .int x :: S) st := by
  obtain ⟨pg, l, e, R, s, m, args, below, meth, c, cells, slots, QQ, A, G⟩ := κ
  obtain ⟨hx, hb, hml, hr, hlk, hown, hts, hR, hK, hD⟩ := C
  intro H locs ls hP hS hl
  exact lv_ixor hx hb hd (k H locs ls hP hS hl)

theorem X_ishl {κ : xK} {M : xM} {d pc : Nat} {L : List (Nat × Value)} {S : List Value} {st : xSt} {x y : Int32} (C : Cx κ M d) (hd : decode M.2.1 pc = .ok (.ishl, 1)) (k : X κ (pc + 1) L (.int (x <<< (y &&& 31)) :: S) st) : X κ pc L (.int y :: .int x :: S) st := by
  obtain ⟨pg, l, e, R, s, m, args, below, meth, c, cells, slots, QQ, A, G⟩ := κ
  obtain ⟨hx, hb, hml, hr, hlk, hown, hts, hR, hK, hD⟩ := C
  intro H locs ls hP hS hl
  exact lv_ishl hx hb hd (k H locs ls hP hS hl)

theorem X_ishr {κ : xK} {M : xM} {d pc : Nat} {L : List (Nat × Value)} {S : List Value} {st : xSt} {x y : Int32} (C : Cx κ M d) (hd : decode M.2.1 pc = .ok (.ishr, 1)) (k : X κ (pc + 1) L (.int (x >>> (y &&& 31)) :: S) st) : X κ pc L (.int y :: .int x :: S) st := by
  obtain ⟨pg, l, e, R, s, m, args, below, meth, c, cells, slots, QQ, A, G⟩ := κ
  obtain ⟨hx, hb, hml, hr, hlk, hown, hts, hR, hK, hD⟩ := C
  intro H locs ls hP hS hl
  exact lv_ishr hx hb hd (k H locs ls hP hS hl)

theorem X_idiv {κ : xK} {M : xM} {d pc : Nat} {L : List (Nat × Value)} {S : List Value} {st : xSt} {x y : Int32} (C : Cx κ M d) (hne : ¬ y = 0) (hd : decode M.2.1 pc = .ok (.idiv, 1)) (k : X κ (pc + 1) L (.int (x / y) :: S) st) : X κ pc L (.int y :: .int x :: S) st := by
  obtain ⟨pg, l, e, R, s, m, args, below, meth, c, cells, slots, QQ, A, G⟩ := κ
  obtain ⟨hx, hb, hml, hr, hlk, hown, hts, hR, hK, hD⟩ := C
  intro H locs ls hP hS hl
  exact lv_idiv hx hb hd hne (k H locs ls hP hS hl)

theorem X_irem {κ : xK} {M : xM} {d pc : Nat} {L : List (Nat × Value)} {S : List Value} {st : xSt} {x y : Int32} (C : Cx κ M d) (hne : ¬ y = 0) (hd : decode M.2.1 pc = .ok (.irem, 1)) (k : X κ (pc + 1) L (.int (x - x / y * y) :: S) st) : X κ pc L (.int y :: .int x :: S) st := by
  obtain ⟨pg, l, e, R, s, m, args, below, meth, c, cells, slots, QQ, A, G⟩ := κ
  obtain ⟨hx, hb, hml, hr, hlk, hown, hts, hR, hK, hD⟩ := C
  intro H locs ls hP hS hl
  exact lv_irem hx hb hd hne (k H locs ls hP hS hl)

theorem X_iushr {κ : xK} {M : xM} {d pc : Nat} {L : List (Nat × Value)} {S : List Value} {st : xSt} {x y : Int32} (C : Cx κ M d) (hd : decode M.2.1 pc = .ok (.iushr, 1)) (k : X κ (pc + 1) L (.int (x.toUInt32 >>> (y.toUInt32 &&& Int32.toUInt32 31)).toInt32 :: S) st) : X κ pc L (.int y :: .int x :: S) st := by
  obtain ⟨pg, l, e, R, s, m, args, below, meth, c, cells, slots, QQ, A, G⟩ := κ
  obtain ⟨hx, hb, hml, hr, hlk, hown, hts, hR, hK, hD⟩ := C
  intro H locs ls hP hS hl
  exact lv_iushr hx hb hd rfl (k H locs ls hP hS hl)

theorem X_ineg {κ : xK} {M : xM} {d pc : Nat} {L : List (Nat × Value)} {S : List Value} {st : xSt} {x : Int32} (C : Cx κ M d) (hd : decode M.2.1 pc = .ok (.ineg, 1)) (k : X κ (pc + 1) L (.int (-x) :: S) st) : X κ pc L (.int x :: S) st := by
  obtain ⟨pg, l, e, R, s, m, args, below, meth, c, cells, slots, QQ, A, G⟩ := κ
  obtain ⟨hx, hb, hml, hr, hlk, hown, hts, hR, hK, hD⟩ := C
  intro H locs ls hP hS hl
  exact lv_ineg hx hb hd (k H locs ls hP hS hl)

theorem X_ladd {κ : xK} {M : xM} {d pc : Nat} {L : List (Nat × Value)} {S : List Value} {st : xSt} {x y : Int64} (C : Cx κ M d) (hd : decode M.2.1 pc = .ok (.ladd, 1)) (k : X κ (pc + 1) L (.long (x + y) :: S) st) : X κ pc L (.long y :: .long x :: S) st := by
  obtain ⟨pg, l, e, R, s, m, args, below, meth, c, cells, slots, QQ, A, G⟩ := κ
  obtain ⟨hx, hb, hml, hr, hlk, hown, hts, hR, hK, hD⟩ := C
  intro H locs ls hP hS hl
  exact lv_ladd hx hb hd (k H locs ls hP hS hl)

theorem X_lsub {κ : xK} {M : xM} {d pc : Nat} {L : List (Nat × Value)} {S : List Value} {st : xSt} {x y : Int64} (C : Cx κ M d) (hd : decode M.2.1 pc = .ok (.lsub, 1)) (k : X κ (pc + 1) L (.long (x - y) :: S) st) : X κ pc L (.long y :: .long x :: S) st := by
  obtain ⟨pg, l, e, R, s, m, args, below, meth, c, cells, slots, QQ, A, G⟩ := κ
  obtain ⟨hx, hb, hml, hr, hlk, hown, hts, hR, hK, hD⟩ := C
  intro H locs ls hP hS hl
  exact lv_lsub hx hb hd (k H locs ls hP hS hl)

theorem X_lmul {κ : xK} {M : xM} {d pc : Nat} {L : List (Nat × Value)} {S : List Value} {st : xSt} {x y : Int64} (C : Cx κ M d) (hd : decode M.2.1 pc = .ok (.lmul, 1)) (k : X κ (pc + 1) L (.long (x * y) :: S) st) : X κ pc L (.long y :: .long x :: S) st := by
  obtain ⟨pg, l, e, R, s, m, args, below, meth, c, cells, slots, QQ, A, G⟩ := κ
  obtain ⟨hx, hb, hml, hr, hlk, hown, hts, hR, hK, hD⟩ := C
  intro H locs ls hP hS hl
  exact lv_lmul hx hb hd (k H locs ls hP hS hl)

theorem X_land {κ : xK} {M : xM} {d pc : Nat} {L : List (Nat × Value)} {S : List Value} {st : xSt} {x y : Int64} (C : Cx κ M d) (hd : decode M.2.1 pc = .ok (.land, 1)) (k : X κ (pc + 1) L (.long (x &&& y) :: S) st) : X κ pc L (.long y :: .long x :: S) st := by
  obtain ⟨pg, l, e, R, s, m, args, below, meth, c, cells, slots, QQ, A, G⟩ := κ
  obtain ⟨hx, hb, hml, hr, hlk, hown, hts, hR, hK, hD⟩ := C
  intro H locs ls hP hS hl
  exact lv_land hx hb hd (k H locs ls hP hS hl)

theorem X_lor {κ : xK} {M : xM} {d pc : Nat} {L : List (Nat × Value)} {S : List Value} {st : xSt} {x y : Int64} (C : Cx κ M d) (hd : decode M.2.1 pc = .ok (.lor, 1)) (k : X κ (pc + 1) L (.long (x ||| y) :: S) st) : X κ pc L (.long y :: .long x :: S) st := by
  obtain ⟨pg, l, e, R, s, m, args, below, meth, c, cells, slots, QQ, A, G⟩ := κ
  obtain ⟨hx, hb, hml, hr, hlk, hown, hts, hR, hK, hD⟩ := C
  intro H locs ls hP hS hl
  exact lv_lor hx hb hd (k H locs ls hP hS hl)

theorem X_lshl {κ : xK} {M : xM} {d pc : Nat} {L : List (Nat × Value)} {S : List Value} {st : xSt} {x : Int64} {y : Int32} (C : Cx κ M d) (hd : decode M.2.1 pc = .ok (.lshl, 1)) (k : X κ (pc + 1) L (.long (x <<< (y.toInt64 &&& 63)) :: S) st) : X κ pc L (.int y :: .long x :: S) st := by
  obtain ⟨pg, l, e, R, s, m, args, below, meth, c, cells, slots, QQ, A, G⟩ := κ
  obtain ⟨hx, hb, hml, hr, hlk, hown, hts, hR, hK, hD⟩ := C
  intro H locs ls hP hS hl
  exact lv_lshl hx hb hd rfl (k H locs ls hP hS hl)

theorem X_lushr {κ : xK} {M : xM} {d pc : Nat} {L : List (Nat × Value)} {S : List Value} {st : xSt} {x : Int64} {y : Int32} (C : Cx κ M d) (hd : decode M.2.1 pc = .ok (.lushr, 1)) (k : X κ (pc + 1) L (.long ((x.toUInt64 >>> (y.toInt64.toUInt64 &&& Int64.toUInt64 63)).toInt64) :: S) st) : X κ pc L (.int y :: .long x :: S) st := by
  obtain ⟨pg, l, e, R, s, m, args, below, meth, c, cells, slots, QQ, A, G⟩ := κ
  obtain ⟨hx, hb, hml, hr, hlk, hown, hts, hR, hK, hD⟩ := C
  intro H locs ls hP hS hl
  exact lv_lushr hx hb hd rfl (k H locs ls hP hS hl)

theorem X_lshr {κ : xK} {M : xM} {d pc : Nat} {L : List (Nat × Value)} {S : List Value} {st : xSt} {x : Int64} {y : Int32} (C : Cx κ M d) (hd : decode M.2.1 pc = .ok (.lshr, 1)) (k : X κ (pc + 1) L (.long (x >>> (y.toInt64 &&& 63)) :: S) st) : X κ pc L (.int y :: .long x :: S) st := by
  obtain ⟨pg, l, e, R, s, m, args, below, meth, c, cells, slots, QQ, A, G⟩ := κ
  obtain ⟨hx, hb, hml, hr, hlk, hown, hts, hR, hK, hD⟩ := C
  intro H locs ls hP hS hl
  exact lv_lshr hx hb hd rfl (k H locs ls hP hS hl)

theorem X_lcmp {κ : xK} {M : xM} {d pc : Nat} {L : List (Nat × Value)} {S : List Value} {st : xSt} {x y : Int64} (C : Cx κ M d) (hd : decode M.2.1 pc = .ok (.lcmp, 1)) (k : X κ (pc + 1) L (.int (lg_cmp x y) :: S) st) : X κ pc L (.long y :: .long x :: S) st := by
  obtain ⟨pg, l, e, R, s, m, args, below, meth, c, cells, slots, QQ, A, G⟩ := κ
  obtain ⟨hx, hb, hml, hr, hlk, hown, hts, hR, hK, hD⟩ := C
  intro H locs ls hP hS hl
  exact W.lcmp hx hb hd (k H locs ls hP hS hl)

theorem X_i2l {κ : xK} {M : xM} {d pc : Nat} {L : List (Nat × Value)} {S : List Value} {st : xSt} {x : Int32} (C : Cx κ M d) (hd : decode M.2.1 pc = .ok (.i2l, 1)) (k : X κ (pc + 1) L (.long x.toInt64 :: S) st) : X κ pc L (.int x :: S) st := by
  obtain ⟨pg, l, e, R, s, m, args, below, meth, c, cells, slots, QQ, A, G⟩ := κ
  obtain ⟨hx, hb, hml, hr, hlk, hown, hts, hR, hK, hD⟩ := C
  intro H locs ls hP hS hl
  exact lv_i2l hx hb hd rfl (k H locs ls hP hS hl)

theorem X_l2i {κ : xK} {M : xM} {d pc : Nat} {L : List (Nat × Value)} {S : List Value} {st : xSt} {x : Int64} (C : Cx κ M d) (hd : decode M.2.1 pc = .ok (.l2i, 1)) (k : X κ (pc + 1) L (.int x.toInt32 :: S) st) : X κ pc L (.long x :: S) st := by
  obtain ⟨pg, l, e, R, s, m, args, below, meth, c, cells, slots, QQ, A, G⟩ := κ
  obtain ⟨hx, hb, hml, hr, hlk, hown, hts, hR, hK, hD⟩ := C
  intro H locs ls hP hS hl
  exact lv_l2i hx hb hd rfl (k H locs ls hP hS hl)

theorem X_i2b {κ : xK} {M : xM} {d pc : Nat} {L : List (Nat × Value)} {S : List Value} {st : xSt} {x : Int32} (C : Cx κ M d) (hd : decode M.2.1 pc = .ok (.i2b, 1)) (k : X κ (pc + 1) L (.int x.toInt8.toInt32 :: S) st) : X κ pc L (.int x :: S) st := by
  obtain ⟨pg, l, e, R, s, m, args, below, meth, c, cells, slots, QQ, A, G⟩ := κ
  obtain ⟨hx, hb, hml, hr, hlk, hown, hts, hR, hK, hD⟩ := C
  intro H locs ls hP hS hl
  exact lv_i2b hx hb hd rfl (k H locs ls hP hS hl)

theorem X_i2s {κ : xK} {M : xM} {d pc : Nat} {L : List (Nat × Value)} {S : List Value} {st : xSt} {x : Int32} (C : Cx κ M d) (hd : decode M.2.1 pc = .ok (.i2s, 1)) (k : X κ (pc + 1) L (.int x.toInt16.toInt32 :: S) st) : X κ pc L (.int x :: S) st := by
  obtain ⟨pg, l, e, R, s, m, args, below, meth, c, cells, slots, QQ, A, G⟩ := κ
  obtain ⟨hx, hb, hml, hr, hlk, hown, hts, hR, hK, hD⟩ := C
  intro H locs ls hP hS hl
  exact lv_i2s hx hb hd rfl (k H locs ls hP hS hl)

theorem X_iconst {κ : xK} {M : xM} {d pc : Nat} {L : List (Nat × Value)} {S : List Value} {st : xSt} {n : Int} {v : Int32} (C : Cx κ M d) (hv : Int32.ofInt n = v) (hd : decode M.2.1 pc = .ok (.iconst n, 1)) (k : X κ (pc + 1) L (.int v :: S) st) : X κ pc L (S) st := by
  obtain ⟨pg, l, e, R, s, m, args, below, meth, c, cells, slots, QQ, A, G⟩ := κ
  obtain ⟨hx, hb, hml, hr, hlk, hown, hts, hR, hK, hD⟩ := C
  intro H locs ls hP hS hl
  exact lv_iconst hx hb hd hv (k H locs ls hP hS hl)

theorem X_bipush {κ : xK} {M : xM} {d pc : Nat} {L : List (Nat × Value)} {S : List Value} {st : xSt} {n : Int} {v : Int32} (C : Cx κ M d) (hv : (Int8.ofInt n).toInt32 = v) (hd : decode M.2.1 pc = .ok (.bipush n, 2)) (k : X κ (pc + 2) L (.int v :: S) st) : X κ pc L (S) st := by
  obtain ⟨pg, l, e, R, s, m, args, below, meth, c, cells, slots, QQ, A, G⟩ := κ
  obtain ⟨hx, hb, hml, hr, hlk, hown, hts, hR, hK, hD⟩ := C
  intro H locs ls hP hS hl
  exact lv_bipush hx hb hd hv (k H locs ls hP hS hl)

theorem X_sipush {κ : xK} {M : xM} {d pc : Nat} {L : List (Nat × Value)} {S : List Value} {st : xSt} {n : Int} {v : Int32} (C : Cx κ M d) (hv : (Int16.ofInt n).toInt32 = v) (hd : decode M.2.1 pc = .ok (.sipush n, 3)) (k : X κ (pc + 3) L (.int v :: S) st) : X κ pc L (S) st := by
  obtain ⟨pg, l, e, R, s, m, args, below, meth, c, cells, slots, QQ, A, G⟩ := κ
  obtain ⟨hx, hb, hml, hr, hlk, hown, hts, hR, hK, hD⟩ := C
  intro H locs ls hP hS hl
  exact lv_sipush hx hb hd hv (k H locs ls hP hS hl)

theorem X_lconst {κ : xK} {M : xM} {d pc : Nat} {L : List (Nat × Value)} {S : List Value} {st : xSt} {n : Fin 2} {v : Int64} (C : Cx κ M d) (hv : Int64.ofNat (n : Nat) = v) (hd : decode M.2.1 pc = .ok (.lconst n, 1)) (k : X κ (pc + 1) L (.long v :: S) st) : X κ pc L (S) st := by
  obtain ⟨pg, l, e, R, s, m, args, below, meth, c, cells, slots, QQ, A, G⟩ := κ
  obtain ⟨hx, hb, hml, hr, hlk, hown, hts, hR, hK, hD⟩ := C
  intro H locs ls hP hS hl
  exact lv_lconst hx hb hd hv (k H locs ls hP hS hl)

theorem X_ldc {κ : xK} {M : xM} {d pc : Nat} {L : List (Nat × Value)} {S : List Value} {st : xSt} {i : Nat} {v : Int32} (C : Cx κ M d) (hw : Cond.constant M.1.cls i v ∈ lw_use) (hd : decode M.2.1 pc = .ok (.ldc i, 2)) (k : X κ (pc + 2) L (.int v :: S) st) : X κ pc L (S) st := by
  obtain ⟨pg, l, e, R, s, m, args, below, meth, c, cells, slots, QQ, A, G⟩ := κ
  obtain ⟨hx, hb, hml, hr, hlk, hown, hts, hR, hK, hD⟩ := C
  intro H locs ls hP hS hl
  exact lv_ldc hx hb hown (hts _ hw) hd (k H locs ls hP hS hl)

theorem X_ldcw {κ : xK} {M : xM} {d pc : Nat} {L : List (Nat × Value)} {S : List Value} {st : xSt} {i : Nat} {v : Int32} (C : Cx κ M d) (hw : Cond.constant M.1.cls i v ∈ lw_use) (hd : decode M.2.1 pc = .ok (.ldc_w i, 3)) (k : X κ (pc + 3) L (.int v :: S) st) : X κ pc L (S) st := by
  obtain ⟨pg, l, e, R, s, m, args, below, meth, c, cells, slots, QQ, A, G⟩ := κ
  obtain ⟨hx, hb, hml, hr, hlk, hown, hts, hR, hK, hD⟩ := C
  intro H locs ls hP hS hl
  exact lv_ldcw hx hb hown (hts _ hw) hd (k H locs ls hP hS hl)

theorem X_ldc2 {κ : xK} {M : xM} {d pc : Nat} {L : List (Nat × Value)} {S : List Value} {st : xSt} {i : Nat} {v : Int64} (C : Cx κ M d) (hw : Cond.constantLong M.1.cls i v ∈ lw_use) (hd : decode M.2.1 pc = .ok (.ldc2_w i, 3)) (k : X κ (pc + 3) L (.long v :: S) st) : X κ pc L (S) st := by
  obtain ⟨pg, l, e, R, s, m, args, below, meth, c, cells, slots, QQ, A, G⟩ := κ
  obtain ⟨hx, hb, hml, hr, hlk, hown, hts, hR, hK, hD⟩ := C
  intro H locs ls hP hS hl
  exact lv_ldc2 hx hb hown (hts _ hw) hd (k H locs ls hP hS hl)

theorem xvL_at {G : xG} {L : List (Nat × Value)} {n : Nat} {ls : Array Slot} (hl : lv_has ls n (xvL G L)) {j i : Nat} {v : Value} (hk : L[j]? = some (i, v)) : ls[i]? = some (.val (xv G v)) := lv_at hl j (by
  unfold xvL
  rw [List.getElem?_map, hk]
  rfl)
def xst (L : List (Nat × Value)) (i : Nat) (v : Value) : List (Nat × Value) := (i, v) :: L.filter (fun q => !(q.1 == i) && !(q.1 + 1 == i && q.2.category == 2))
def xst2 (L : List (Nat × Value)) (i : Nat) (v : Value) : List (Nat × Value) := (i, v) :: L.filter (fun q => !(q.1 == i) && (!(q.1 == i + 1) && !(q.1 + 1 == i && q.2.category == 2)))
theorem xvL_filter (G : xG) (f : Nat × Value → Bool) (hf : ∀ i v, f (i, xv G v) = f (i, v)) : ∀ L : List (Nat × Value), xvL G (L.filter f) = (xvL G L).filter f
  | [] => rfl
  | (i, v) :: L => by
    have ih := xvL_filter G f hf L
    unfold xvL at ih ⊢
    rw [List.map_cons, List.filter_cons, List.filter_cons, hf]
    cases f (i, v) <;> simp [ih]
theorem xst_eq (G : xG) (L : List (Nat × Value)) (i : Nat) (v : Value) : (i, xv G v) :: (xvL G L).filter (fun q => !(q.1 == i) && !(q.1 + 1 == i && q.2.category == 2)) = xvL G (xst L i v) := by
  unfold xst
  rw [← xvL_filter G _ (fun j w => by simp only [xv_cat])]
  rfl
theorem xst2_eq (G : xG) (L : List (Nat × Value)) (i : Nat) (v : Value) : (i, xv G v) :: (xvL G L).filter (fun q => !(q.1 == i) && (!(q.1 == i + 1) && !(q.1 + 1 == i && q.2.category == 2))) = xvL G (xst2 L i v) := by
  unfold xst2
  rw [← xvL_filter G _ (fun j w => by simp only [xv_cat])]
  rfl
theorem X_iload_n {κ : xK} {M : xM} {d pc : Nat} {L : List (Nat × Value)} {S : List Value} {st : xSt} {k : Fin 4} {i j : Nat} {x : Int32} (C : Cx κ M d) (hd : decode M.2.1 pc = .ok (.iload_n k, 1)) (hi : (k : Nat) = i) (hk : L[j]? = some (i, .int x)) (k : X κ (pc + 1) L (.int x :: S) st) : X κ pc L (S) st := by
  obtain ⟨pg, l, e, R, s, m, args, below, meth, c, cells, slots, QQ, A, G⟩ := κ
  obtain ⟨hx, hb, hml, hr, hlk, hown, hts, hR, hK, hD⟩ := C
  intro H locs ls hP hS hl
  exact lv_iload_n hx hb hd hi (xvL_at hl hk) (k H locs ls hP hS hl)

theorem X_iload {κ : xK} {M : xM} {d pc : Nat} {L : List (Nat × Value)} {S : List Value} {st : xSt} {i j : Nat} {x : Int32} (C : Cx κ M d) (hd : decode M.2.1 pc = .ok (.iload i, 2)) (hk : L[j]? = some (i, .int x)) (k : X κ (pc + 2) L (.int x :: S) st) : X κ pc L (S) st := by
  obtain ⟨pg, l, e, R, s, m, args, below, meth, c, cells, slots, QQ, A, G⟩ := κ
  obtain ⟨hx, hb, hml, hr, hlk, hown, hts, hR, hK, hD⟩ := C
  intro H locs ls hP hS hl
  exact lv_iload hx hb hd (xvL_at hl hk) (k H locs ls hP hS hl)

theorem X_lload_n {κ : xK} {M : xM} {d pc : Nat} {L : List (Nat × Value)} {S : List Value} {st : xSt} {k : Fin 4} {i j : Nat} {x : Int64} (C : Cx κ M d) (hd : decode M.2.1 pc = .ok (.lload_n k, 1)) (hi : (k : Nat) = i) (hk : L[j]? = some (i, .long x)) (k : X κ (pc + 1) L (.long x :: S) st) : X κ pc L (S) st := by
  obtain ⟨pg, l, e, R, s, m, args, below, meth, c, cells, slots, QQ, A, G⟩ := κ
  obtain ⟨hx, hb, hml, hr, hlk, hown, hts, hR, hK, hD⟩ := C
  intro H locs ls hP hS hl
  exact lv_lload_n hx hb hd hi (xvL_at hl hk) (k H locs ls hP hS hl)

theorem X_lload {κ : xK} {M : xM} {d pc : Nat} {L : List (Nat × Value)} {S : List Value} {st : xSt} {i j : Nat} {x : Int64} (C : Cx κ M d) (hd : decode M.2.1 pc = .ok (.lload i, 2)) (hk : L[j]? = some (i, .long x)) (k : X κ (pc + 2) L (.long x :: S) st) : X κ pc L (S) st := by
  obtain ⟨pg, l, e, R, s, m, args, below, meth, c, cells, slots, QQ, A, G⟩ := κ
  obtain ⟨hx, hb, hml, hr, hlk, hown, hts, hR, hK, hD⟩ := C
  intro H locs ls hP hS hl
  exact lv_lload hx hb hd (xvL_at hl hk) (k H locs ls hP hS hl)

theorem X_aload_n {κ : xK} {M : xM} {d pc : Nat} {L : List (Nat × Value)} {S : List Value} {st : xSt} {k : Fin 4} {i j : Nat} {x : Nat} (C : Cx κ M d) (hd : decode M.2.1 pc = .ok (.aload_n k, 1)) (hi : (k : Nat) = i) (hk : L[j]? = some (i, .ref x)) (k : X κ (pc + 1) L (.ref x :: S) st) : X κ pc L (S) st := by
  obtain ⟨pg, l, e, R, s, m, args, below, meth, c, cells, slots, QQ, A, G⟩ := κ
  obtain ⟨hx, hb, hml, hr, hlk, hown, hts, hR, hK, hD⟩ := C
  intro H locs ls hP hS hl
  exact lv_aload_n hx hb hd hi (xvL_at hl hk) (k H locs ls hP hS hl)

theorem X_aload {κ : xK} {M : xM} {d pc : Nat} {L : List (Nat × Value)} {S : List Value} {st : xSt} {i j : Nat} {x : Nat} (C : Cx κ M d) (hd : decode M.2.1 pc = .ok (.aload i, 2)) (hk : L[j]? = some (i, .ref x)) (k : X κ (pc + 2) L (.ref x :: S) st) : X κ pc L (S) st := by
  obtain ⟨pg, l, e, R, s, m, args, below, meth, c, cells, slots, QQ, A, G⟩ := κ
  obtain ⟨hx, hb, hml, hr, hlk, hown, hts, hR, hK, hD⟩ := C
  intro H locs ls hP hS hl
  exact lv_aload hx hb hd (xvL_at hl hk) (k H locs ls hP hS hl)

theorem X_istore_n {κ : xK} {M : xM} {d pc : Nat} {L : List (Nat × Value)} {S : List Value} {st : xSt} {k : Fin 4} {i : Nat} {x : Int32} {L' : List (Nat × Value)} (C : Cx κ M d) (hd : decode M.2.1 pc = .ok (.istore_n k, 1)) (hi : (k : Nat) = i) (hn : i < M.2.2.1) (hL : xst L i (.int x) = L') (k : X κ (pc + 1) L' S st) : X κ pc L (.int x :: S) st := by
  obtain ⟨pg, l, e, R, s, m, args, below, meth, c, cells, slots, QQ, A, G⟩ := κ
  obtain ⟨hx, hb, hml, hr, hlk, hown, hts, hR, hK, hD⟩ := C
  intro H locs ls hP hS hl
  subst hL
  exact lv_istore_n hx hb hd hi hl (by rw [hml]; exact hn) (xst_eq G L i (.int x)) (fun ls2 hl2 => k H locs ls2 hP hS hl2)

theorem X_istore {κ : xK} {M : xM} {d pc : Nat} {L : List (Nat × Value)} {S : List Value} {st : xSt} {i : Nat} {x : Int32} {L' : List (Nat × Value)} (C : Cx κ M d) (hd : decode M.2.1 pc = .ok (.istore i, 2)) (hn : i < M.2.2.1) (hL : xst L i (.int x) = L') (k : X κ (pc + 2) L' S st) : X κ pc L (.int x :: S) st := by
  obtain ⟨pg, l, e, R, s, m, args, below, meth, c, cells, slots, QQ, A, G⟩ := κ
  obtain ⟨hx, hb, hml, hr, hlk, hown, hts, hR, hK, hD⟩ := C
  intro H locs ls hP hS hl
  subst hL
  exact lv_istore hx hb hd hl (by rw [hml]; exact hn) (xst_eq G L i (.int x)) (fun ls2 hl2 => k H locs ls2 hP hS hl2)

theorem X_lstore_n {κ : xK} {M : xM} {d pc : Nat} {L : List (Nat × Value)} {S : List Value} {st : xSt} {k : Fin 4} {i : Nat} {x : Int64} {L' : List (Nat × Value)} (C : Cx κ M d) (hd : decode M.2.1 pc = .ok (.lstore_n k, 1)) (hi : (k : Nat) = i) (hn : i + 1 < M.2.2.1) (hL : xst2 L i (.long x) = L') (k : X κ (pc + 1) L' S st) : X κ pc L (.long x :: S) st := by
  obtain ⟨pg, l, e, R, s, m, args, below, meth, c, cells, slots, QQ, A, G⟩ := κ
  obtain ⟨hx, hb, hml, hr, hlk, hown, hts, hR, hK, hD⟩ := C
  intro H locs ls hP hS hl
  subst hL
  exact lv_lstore_n hx hb hd hi hl (by rw [hml]; exact hn) (xst2_eq G L i (.long x)) (fun ls2 hl2 => k H locs ls2 hP hS hl2)

theorem X_lstore {κ : xK} {M : xM} {d pc : Nat} {L : List (Nat × Value)} {S : List Value} {st : xSt} {i : Nat} {x : Int64} {L' : List (Nat × Value)} (C : Cx κ M d) (hd : decode M.2.1 pc = .ok (.lstore i, 2)) (hn : i + 1 < M.2.2.1) (hL : xst2 L i (.long x) = L') (k : X κ (pc + 2) L' S st) : X κ pc L (.long x :: S) st := by
  obtain ⟨pg, l, e, R, s, m, args, below, meth, c, cells, slots, QQ, A, G⟩ := κ
  obtain ⟨hx, hb, hml, hr, hlk, hown, hts, hR, hK, hD⟩ := C
  intro H locs ls hP hS hl
  subst hL
  exact lv_lstore hx hb hd hl (by rw [hml]; exact hn) (xst2_eq G L i (.long x)) (fun ls2 hl2 => k H locs ls2 hP hS hl2)

theorem X_astore_n {κ : xK} {M : xM} {d pc : Nat} {L : List (Nat × Value)} {S : List Value} {st : xSt} {k : Fin 4} {i : Nat} {x : Nat} {L' : List (Nat × Value)} (C : Cx κ M d) (hd : decode M.2.1 pc = .ok (.astore_n k, 1)) (hi : (k : Nat) = i) (hn : i < M.2.2.1) (hL : xst L i (.ref x) = L') (k : X κ (pc + 1) L' S st) : X κ pc L (.ref x :: S) st := by
  obtain ⟨pg, l, e, R, s, m, args, below, meth, c, cells, slots, QQ, A, G⟩ := κ
  obtain ⟨hx, hb, hml, hr, hlk, hown, hts, hR, hK, hD⟩ := C
  intro H locs ls hP hS hl
  subst hL
  exact lv_astore_n hx hb hd hi hl (by rw [hml]; exact hn) (xst_eq G L i (.ref x)) (fun ls2 hl2 => k H locs ls2 hP hS hl2)

theorem X_astore {κ : xK} {M : xM} {d pc : Nat} {L : List (Nat × Value)} {S : List Value} {st : xSt} {i : Nat} {x : Nat} {L' : List (Nat × Value)} (C : Cx κ M d) (hd : decode M.2.1 pc = .ok (.astore i, 2)) (hn : i < M.2.2.1) (hL : xst L i (.ref x) = L') (k : X κ (pc + 2) L' S st) : X κ pc L (.ref x :: S) st := by
  obtain ⟨pg, l, e, R, s, m, args, below, meth, c, cells, slots, QQ, A, G⟩ := κ
  obtain ⟨hx, hb, hml, hr, hlk, hown, hts, hR, hK, hD⟩ := C
  intro H locs ls hP hS hl
  subst hL
  exact lv_astore hx hb hd hl (by rw [hml]; exact hn) (xst_eq G L i (.ref x)) (fun ls2 hl2 => k H locs ls2 hP hS hl2)

theorem X_iinc {κ : xK} {M : xM} {d pc : Nat} {L : List (Nat × Value)} {S : List Value} {st : xSt} {i j : Nat} {n : Int} {x v : Int32} {L' : List (Nat × Value)} (C : Cx κ M d) (hd : decode M.2.1 pc = .ok (.iinc i n, 3)) (hk : L[j]? = some (i, .int x)) (hv : x + Int32.ofInt n = v) (hn : i < M.2.2.1) (hL : xst L i (.int v) = L') (k : X κ (pc + 3) L' S st) : X κ pc L (S) st := by
  obtain ⟨pg, l, e, R, s, m, args, below, meth, c, cells, slots, QQ, A, G⟩ := κ
  obtain ⟨hx, hb, hml, hr, hlk, hown, hts, hR, hK, hD⟩ := C
  intro H locs ls hP hS hl
  subst hL
  refine lv_iinc (k := j) (v := v) hx hb hd hl ?_ hv (by rw [hml]; exact hn) (xst_eq G L i (.int v)) (fun ls2 hl2 => k H locs ls2 hP hS hl2)
  unfold xvL
  rw [List.getElem?_map, hk]
  rfl

theorem X_loc {κ : xK} {pc : Nat} {L L' : List (Nat × Value)} {S : List Value} {st : xSt} (ks : List Nat) (h : lv_pick L ks = L') (k : X κ pc L' S st) : X κ pc L S st := by
  obtain ⟨p, l, e, R, s, m, args, below, meth, c, cells, slots, QQ, A, G⟩ := κ
  intro H locs ls hP hS hl
  refine k H locs ls hP hS (lv_sub hl ks ?_)
  subst h
  unfold lv_pick xvL
  rw [List.map_filterMap]
  congr 1
  funext k
  rw [List.getElem?_map]
theorem X_dup {κ : xK} {M : xM} {d pc : Nat} {L : List (Nat × Value)} {S : List Value} {st : xSt} {v : Value} (C : Cx κ M d) (hv : v.category = 1) (hd : decode M.2.1 pc = .ok (.dup, 1)) (k : X κ (pc + 1) L (v :: v :: S) st) : X κ pc L (v :: S) st := by
  obtain ⟨pg, l, e, R, s, m, args, below, meth, c, cells, slots, QQ, A, G⟩ := κ
  obtain ⟨hx, hb, hml, hr, hlk, hown, hts, hR, hK, hD⟩ := C
  intro H locs ls hP hS hl
  exact lv_dup hx hb hd (by rw [xv_cat]; exact hv) (k H locs ls hP hS hl)

theorem X_pop {κ : xK} {M : xM} {d pc : Nat} {L : List (Nat × Value)} {S : List Value} {st : xSt} {v : Value} (C : Cx κ M d) (hv : v.category = 1) (hd : decode M.2.1 pc = .ok (.pop, 1)) (k : X κ (pc + 1) L (S) st) : X κ pc L (v :: S) st := by
  obtain ⟨pg, l, e, R, s, m, args, below, meth, c, cells, slots, QQ, A, G⟩ := κ
  obtain ⟨hx, hb, hml, hr, hlk, hown, hts, hR, hK, hD⟩ := C
  intro H locs ls hP hS hl
  exact lv_pop hx hb hd (by rw [xv_cat]; exact hv) (k H locs ls hP hS hl)

theorem X_dup2 {κ : xK} {M : xM} {d pc : Nat} {L : List (Nat × Value)} {S : List Value} {st : xSt} {v w : Value} (C : Cx κ M d) (hv : v.category = 1) (hw : w.category = 1) (hd : decode M.2.1 pc = .ok (.dup2, 1)) (k : X κ (pc + 1) L (v :: w :: v :: w :: S) st) : X κ pc L (v :: w :: S) st := by
  obtain ⟨pg, l, e, R, s, m, args, below, meth, c, cells, slots, QQ, A, G⟩ := κ
  obtain ⟨hx, hb, hml, hr, hlk, hown, hts, hR, hK, hD⟩ := C
  intro H locs ls hP hS hl
  exact lv_dup2_11 hx hb hd (by rw [xv_cat]; exact hv) (by rw [xv_cat]; exact hw) (k H locs ls hP hS hl)

theorem X_icmp_eq {κ : xK} {M : xM} {d pc : Nat} {L : List (Nat × Value)} {S : List Value} {st : xSt} {x y : Int32} {off : Int} {tgt : Nat} (C : Cx κ M d) (hd : decode M.2.1 pc = .ok (.if_icmp .eq off, 3)) (ht : (pc : Int) + off = (tgt : Int)) (kt : x = y → X κ tgt L S st) (kf : ¬ x = y → X κ (pc + 3) L S st) : X κ pc L (.int y :: .int x :: S) st := by
  obtain ⟨pg, l, e, R, s, m, args, below, meth, c, cells, slots, QQ, A, G⟩ := κ
  obtain ⟨hx, hb, hml, hr, hlk, hown, hts, hR, hK, hD⟩ := C
  intro H locs ls hP hS hl
  exact lv_icmp_eq hx hb hd ht (fun h => kt h H locs ls hP hS hl) (fun h => kf h H locs ls hP hS hl)

theorem X_icmp_ne {κ : xK} {M : xM} {d pc : Nat} {L : List (Nat × Value)} {S : List Value} {st : xSt} {x y : Int32} {off : Int} {tgt : Nat} (C : Cx κ M d) (hd : decode M.2.1 pc = .ok (.if_icmp .ne off, 3)) (ht : (pc : Int) + off = (tgt : Int)) (kt : ¬ x = y → X κ tgt L S st) (kf : x = y → X κ (pc + 3) L S st) : X κ pc L (.int y :: .int x :: S) st := by
  obtain ⟨pg, l, e, R, s, m, args, below, meth, c, cells, slots, QQ, A, G⟩ := κ
  obtain ⟨hx, hb, hml, hr, hlk, hown, hts, hR, hK, hD⟩ := C
  intro H locs ls hP hS hl
  exact lv_icmp_ne hx hb hd ht (fun h => kt h H locs ls hP hS hl) (fun h => kf h H locs ls hP hS hl)

theorem X_icmp_lt {κ : xK} {M : xM} {d pc : Nat} {L : List (Nat × Value)} {S : List Value} {st : xSt} {x y : Int32} {off : Int} {tgt : Nat} (C : Cx κ M d) (hd : decode M.2.1 pc = .ok (.if_icmp .lt off, 3)) (ht : (pc : Int) + off = (tgt : Int)) (kt : x < y → X κ tgt L S st) (kf : ¬ x < y → X κ (pc + 3) L S st) : X κ pc L (.int y :: .int x :: S) st := by
  obtain ⟨pg, l, e, R, s, m, args, below, meth, c, cells, slots, QQ, A, G⟩ := κ
  obtain ⟨hx, hb, hml, hr, hlk, hown, hts, hR, hK, hD⟩ := C
  intro H locs ls hP hS hl
  exact lv_icmp_lt hx hb hd ht (fun h => kt h H locs ls hP hS hl) (fun h => kf h H locs ls hP hS hl)

theorem X_icmp_ge {κ : xK} {M : xM} {d pc : Nat} {L : List (Nat × Value)} {S : List Value} {st : xSt} {x y : Int32} {off : Int} {tgt : Nat} (C : Cx κ M d) (hd : decode M.2.1 pc = .ok (.if_icmp .ge off, 3)) (ht : (pc : Int) + off = (tgt : Int)) (kt : y ≤ x → X κ tgt L S st) (kf : ¬ y ≤ x → X κ (pc + 3) L S st) : X κ pc L (.int y :: .int x :: S) st := by
  obtain ⟨pg, l, e, R, s, m, args, below, meth, c, cells, slots, QQ, A, G⟩ := κ
  obtain ⟨hx, hb, hml, hr, hlk, hown, hts, hR, hK, hD⟩ := C
  intro H locs ls hP hS hl
  exact lv_icmp_ge hx hb hd ht (fun h => kt h H locs ls hP hS hl) (fun h => kf h H locs ls hP hS hl)

theorem X_icmp_gt {κ : xK} {M : xM} {d pc : Nat} {L : List (Nat × Value)} {S : List Value} {st : xSt} {x y : Int32} {off : Int} {tgt : Nat} (C : Cx κ M d) (hd : decode M.2.1 pc = .ok (.if_icmp .gt off, 3)) (ht : (pc : Int) + off = (tgt : Int)) (kt : y < x → X κ tgt L S st) (kf : ¬ y < x → X κ (pc + 3) L S st) : X κ pc L (.int y :: .int x :: S) st := by
  obtain ⟨pg, l, e, R, s, m, args, below, meth, c, cells, slots, QQ, A, G⟩ := κ
  obtain ⟨hx, hb, hml, hr, hlk, hown, hts, hR, hK, hD⟩ := C
  intro H locs ls hP hS hl
  exact lv_icmp_gt hx hb hd ht (fun h => kt h H locs ls hP hS hl) (fun h => kf h H locs ls hP hS hl)

theorem X_icmp_le {κ : xK} {M : xM} {d pc : Nat} {L : List (Nat × Value)} {S : List Value} {st : xSt} {x y : Int32} {off : Int} {tgt : Nat} (C : Cx κ M d) (hd : decode M.2.1 pc = .ok (.if_icmp .le off, 3)) (ht : (pc : Int) + off = (tgt : Int)) (kt : x ≤ y → X κ tgt L S st) (kf : ¬ x ≤ y → X κ (pc + 3) L S st) : X κ pc L (.int y :: .int x :: S) st := by
  obtain ⟨pg, l, e, R, s, m, args, below, meth, c, cells, slots, QQ, A, G⟩ := κ
  obtain ⟨hx, hb, hml, hr, hlk, hown, hts, hR, hK, hD⟩ := C
  intro H locs ls hP hS hl
  exact lv_icmp_le hx hb hd ht (fun h => kt h H locs ls hP hS hl) (fun h => kf h H locs ls hP hS hl)

theorem X_if_eq {κ : xK} {M : xM} {d pc : Nat} {L : List (Nat × Value)} {S : List Value} {st : xSt} {x : Int32} {off : Int} {tgt : Nat} (C : Cx κ M d) (hd : decode M.2.1 pc = .ok (.ifCond .eq off, 3)) (ht : (pc : Int) + off = (tgt : Int)) (kt : x = 0 → X κ tgt L S st) (kf : ¬ x = 0 → X κ (pc + 3) L S st) : X κ pc L (.int x :: S) st := by
  obtain ⟨pg, l, e, R, s, m, args, below, meth, c, cells, slots, QQ, A, G⟩ := κ
  obtain ⟨hx, hb, hml, hr, hlk, hown, hts, hR, hK, hD⟩ := C
  intro H locs ls hP hS hl
  exact lv_if_eq hx hb hd ht (fun h => kt h H locs ls hP hS hl) (fun h => kf h H locs ls hP hS hl)

theorem X_if_ne {κ : xK} {M : xM} {d pc : Nat} {L : List (Nat × Value)} {S : List Value} {st : xSt} {x : Int32} {off : Int} {tgt : Nat} (C : Cx κ M d) (hd : decode M.2.1 pc = .ok (.ifCond .ne off, 3)) (ht : (pc : Int) + off = (tgt : Int)) (kt : ¬ x = 0 → X κ tgt L S st) (kf : x = 0 → X κ (pc + 3) L S st) : X κ pc L (.int x :: S) st := by
  obtain ⟨pg, l, e, R, s, m, args, below, meth, c, cells, slots, QQ, A, G⟩ := κ
  obtain ⟨hx, hb, hml, hr, hlk, hown, hts, hR, hK, hD⟩ := C
  intro H locs ls hP hS hl
  exact lv_if_ne hx hb hd ht (fun h => kt h H locs ls hP hS hl) (fun h => kf h H locs ls hP hS hl)

theorem X_if_lt {κ : xK} {M : xM} {d pc : Nat} {L : List (Nat × Value)} {S : List Value} {st : xSt} {x : Int32} {off : Int} {tgt : Nat} (C : Cx κ M d) (hd : decode M.2.1 pc = .ok (.ifCond .lt off, 3)) (ht : (pc : Int) + off = (tgt : Int)) (kt : x < 0 → X κ tgt L S st) (kf : ¬ x < 0 → X κ (pc + 3) L S st) : X κ pc L (.int x :: S) st := by
  obtain ⟨pg, l, e, R, s, m, args, below, meth, c, cells, slots, QQ, A, G⟩ := κ
  obtain ⟨hx, hb, hml, hr, hlk, hown, hts, hR, hK, hD⟩ := C
  intro H locs ls hP hS hl
  exact lv_if_lt hx hb hd ht (fun h => kt h H locs ls hP hS hl) (fun h => kf h H locs ls hP hS hl)

theorem X_if_ge {κ : xK} {M : xM} {d pc : Nat} {L : List (Nat × Value)} {S : List Value} {st : xSt} {x : Int32} {off : Int} {tgt : Nat} (C : Cx κ M d) (hd : decode M.2.1 pc = .ok (.ifCond .ge off, 3)) (ht : (pc : Int) + off = (tgt : Int)) (kt : 0 ≤ x → X κ tgt L S st) (kf : ¬ 0 ≤ x → X κ (pc + 3) L S st) : X κ pc L (.int x :: S) st := by
  obtain ⟨pg, l, e, R, s, m, args, below, meth, c, cells, slots, QQ, A, G⟩ := κ
  obtain ⟨hx, hb, hml, hr, hlk, hown, hts, hR, hK, hD⟩ := C
  intro H locs ls hP hS hl
  exact lv_if_ge hx hb hd ht (fun h => kt h H locs ls hP hS hl) (fun h => kf h H locs ls hP hS hl)

theorem X_if_gt {κ : xK} {M : xM} {d pc : Nat} {L : List (Nat × Value)} {S : List Value} {st : xSt} {x : Int32} {off : Int} {tgt : Nat} (C : Cx κ M d) (hd : decode M.2.1 pc = .ok (.ifCond .gt off, 3)) (ht : (pc : Int) + off = (tgt : Int)) (kt : 0 < x → X κ tgt L S st) (kf : ¬ 0 < x → X κ (pc + 3) L S st) : X κ pc L (.int x :: S) st := by
  obtain ⟨pg, l, e, R, s, m, args, below, meth, c, cells, slots, QQ, A, G⟩ := κ
  obtain ⟨hx, hb, hml, hr, hlk, hown, hts, hR, hK, hD⟩ := C
  intro H locs ls hP hS hl
  exact lv_if_gt hx hb hd ht (fun h => kt h H locs ls hP hS hl) (fun h => kf h H locs ls hP hS hl)

theorem X_if_le {κ : xK} {M : xM} {d pc : Nat} {L : List (Nat × Value)} {S : List Value} {st : xSt} {x : Int32} {off : Int} {tgt : Nat} (C : Cx κ M d) (hd : decode M.2.1 pc = .ok (.ifCond .le off, 3)) (ht : (pc : Int) + off = (tgt : Int)) (kt : x ≤ 0 → X κ tgt L S st) (kf : ¬ x ≤ 0 → X κ (pc + 3) L S st) : X κ pc L (.int x :: S) st := by
  obtain ⟨pg, l, e, R, s, m, args, below, meth, c, cells, slots, QQ, A, G⟩ := κ
  obtain ⟨hx, hb, hml, hr, hlk, hown, hts, hR, hK, hD⟩ := C
  intro H locs ls hP hS hl
  exact lv_if_le hx hb hd ht (fun h => kt h H locs ls hP hS hl) (fun h => kf h H locs ls hP hS hl)

theorem X_goto {κ : xK} {M : xM} {d pc : Nat} {L : List (Nat × Value)} {S : List Value} {st : xSt} {off : Int} {tgt : Nat} (C : Cx κ M d) (hd : decode M.2.1 pc = .ok (.goto off, 3)) (ht : (pc : Int) + off = (tgt : Int)) (k : X κ tgt L S st) : X κ pc L (S) st := by
  obtain ⟨pg, l, e, R, s, m, args, below, meth, c, cells, slots, QQ, A, G⟩ := κ
  obtain ⟨hx, hb, hml, hr, hlk, hown, hts, hR, hK, hD⟩ := C
  intro H locs ls hP hS hl
  exact lv_goto hx hb hd ht (k H locs ls hP hS hl)

theorem X_tableIn {κ : xK} {M : xM} {d pc : Nat} {L : List (Nat × Value)} {S : List Value} {st : xSt} {dflt lo hi : Int} {offs : Array Int} {len : Nat} {x : Int32} {off : Int} {tgt : Nat} (C : Cx κ M d) (hd : decode M.2.1 pc = .ok (.tableswitch dflt lo hi offs, len)) (h1 : ¬ x.toInt < lo) (h2 : ¬ hi < x.toInt) (ho : offs[(x.toInt - lo).toNat]? = some off) (ht : (pc : Int) + off = (tgt : Int)) (k : X κ tgt L S st) : X κ pc L (.int x :: S) st := by
  obtain ⟨pg, l, e, R, s, m, args, below, meth, c, cells, slots, QQ, A, G⟩ := κ
  obtain ⟨hx, hb, hml, hr, hlk, hown, hts, hR, hK, hD⟩ := C
  intro H locs ls hP hS hl
  exact lv_tableIn hx hb hd h1 h2 ho ht (k H locs ls hP hS hl)
theorem X_tableOut {κ : xK} {M : xM} {d pc : Nat} {L : List (Nat × Value)} {S : List Value} {st : xSt} {dflt lo hi : Int} {offs : Array Int} {len : Nat} {x : Int32} {tgt : Nat} (C : Cx κ M d) (hd : decode M.2.1 pc = .ok (.tableswitch dflt lo hi offs, len)) (h : x.toInt < lo ∨ hi < x.toInt) (ht : (pc : Int) + dflt = (tgt : Int)) (k : X κ tgt L S st) : X κ pc L (.int x :: S) st := by
  obtain ⟨pg, l, e, R, s, m, args, below, meth, c, cells, slots, QQ, A, G⟩ := κ
  obtain ⟨hx, hb, hml, hr, hlk, hown, hts, hR, hK, hD⟩ := C
  intro H locs ls hP hS hl
  exact lv_tableOut hx hb hd h ht (k H locs ls hP hS hl)
theorem X_lookup {κ : xK} {M : xM} {d pc : Nat} {L : List (Nat × Value)} {S : List Value} {st : xSt} {dflt : Int} {ps : Array (Int × Int)} {len : Nat} {x : Int32} {off : Int} {tgt : Nat} (C : Cx κ M d) (hd : decode M.2.1 pc = .ok (.lookupswitch dflt ps, len)) (hp : (ps.toList.zip (ps.toList.drop 1)).all (fun (a, next) => a.1 < next.1) = true) (ho : Op.lookupswitch.offset ps.toList dflt x.toInt = off) (ht : (pc : Int) + off = (tgt : Int)) (k : X κ tgt L S st) : X κ pc L (.int x :: S) st := by
  obtain ⟨pg, l, e, R, s, m, args, below, meth, c, cells, slots, QQ, A, G⟩ := κ
  obtain ⟨hx, hb, hml, hr, hlk, hown, hts, hR, hK, hD⟩ := C
  intro H locs ls hP hS hl
  exact lv_lookup hx hb hd hp ho ht (k H locs ls hP hS hl)
/-- the field that pool place 'index' of class own names: slot k of class number ci -/
def xFW (own : String) (index ci k : Nat) : Prop := ∃ (C : String) (T : u_T) (N : Nat), vwCl[ci]? = some (C, T, N) ∧ k < N ∧ Cond.fieldLink own index (T k).1 (T k).2.1 (T k).2.2.1 ∈ lw_use ∧ ∀ w ∈ u_ws C T N, w ∈ lw_use
/-- it may be written: an int, not final; and what a write needs of the class -/
def xFI (own : String) (index ci k : Nat) : Prop := ∃ (C : String) (T : u_T) (N : Nat) (ty : Nat → FieldType), vwCl[ci]? = some (C, T, N) ∧ k < N ∧ Cond.fieldLink own index (T k).1 (T k).2.1 (T k).2.2.1 ∈ lw_use ∧ (∀ w ∈ u_ws C T N, w ∈ lw_use) ∧ (∀ k, k < N → parseFieldDescriptor (T k).2.2.1 = some (ty k)) ∧ (∀ a, a < N → ∀ b, b < N → a ≠ b → (T a).2.1 ≠ (T b).2.1) ∧ (T k).2.2.2 = false ∧ parseFieldDescriptor (T k).2.2.1 = some .int
def xFZ (own : String) (index ci k : Nat) : Prop := ∃ (C : String) (T : u_T) (N : Nat) (ty : Nat → FieldType), vwCl[ci]? = some (C, T, N) ∧ k < N ∧ Cond.fieldLink own index (T k).1 (T k).2.1 (T k).2.2.1 ∈ lw_use ∧ (∀ w ∈ u_ws C T N, w ∈ lw_use) ∧ (∀ k, k < N → parseFieldDescriptor (T k).2.2.1 = some (ty k)) ∧ (∀ a, a < N → ∀ b, b < N → a ≠ b → (T a).2.1 ≠ (T b).2.1) ∧ (T k).2.2.2 = false ∧ parseFieldDescriptor (T k).2.2.1 = some .boolean
theorem X_getR {κ : xK} {M : xM} {d pc : Nat} {L : List (Nat × Value)} {S : List Value} {st : xSt} {p ci index k r : Nat} {fs : List (Option Nat)} (C : Cx κ M d) (hsh : xshapes[p]? = some (.inl (ci, fs))) (hf : fs[k]? = some (some r)) (hw : xFW M.1.cls index ci k) (hd : decode M.2.1 pc = .ok (.getfield index, 3)) (kk : X κ (pc + 3) L (.ref r :: S) st) : X κ pc L (.ref p :: S) st := by
  obtain ⟨pg, l, e, R, s, m, args, below, meth, c, cells, slots, QQ, A, G⟩ := κ
  obtain ⟨hx, hb, hml, hr, hlk, hown, hts, hR, hK, hD⟩ := C
  intro H locs ls hP hS hl
  obtain ⟨C, T, N, w1, w2, w3, w4⟩ := hw
  exact va_get hx hb hts w4 hown hK hP p (xw_get hsh) w1 k w2 (hts _ w3) (fun _ h => h) (v := .ref (G.2.1 r)) (by rw [xfl_get, hf]; rfl) hd (kk H locs ls hP hS hl)

theorem X_getI {κ : xK} {M : xM} {d pc : Nat} {L : List (Nat × Value)} {S : List Value} {st : xSt} {p ci index k : Nat} {fs : List (Option Nat)} (C : Cx κ M d) (hsh : xshapes[p]? = some (.inl (ci, fs))) (hf : fs[k]? = some none) (hw : xFW M.1.cls index ci k) (hd : decode M.2.1 pc = .ok (.getfield index, 3)) (kk : X κ (pc + 3) L (.int (st.1 p k) :: S) st) : X κ pc L (.ref p :: S) st := by
  obtain ⟨pg, l, e, R, s, m, args, below, meth, c, cells, slots, QQ, A, G⟩ := κ
  obtain ⟨hx, hb, hml, hr, hlk, hown, hts, hR, hK, hD⟩ := C
  intro H locs ls hP hS hl
  obtain ⟨C, T, N, w1, w2, w3, w4⟩ := hw
  exact va_get hx hb hts w4 hown hK hP p (xw_get hsh) w1 k w2 (hts _ w3) (fun _ h => h) (v := .int (st.1 p k)) (by rw [xfl_get, hf, Nat.zero_add]; rfl) hd (kk H locs ls hP hS hl)

theorem X_putI {κ : xK} {M : xM} {d pc : Nat} {L : List (Nat × Value)} {S : List Value} {st : xSt} {p ci index k : Nat} {fs : List (Option Nat)} {v : Int32} (C : Cx κ M d) (hsh : xshapes[p]? = some (.inl (ci, fs))) (hf : fs[k]? = some none) (hw : xFI M.1.cls index ci k) (hd : decode M.2.1 pc = .ok (.putfield index, 3)) (kk : X κ (pc + 3) L S (xup st p k v)) : X κ pc L (.int v :: .ref p :: S) st := by
  obtain ⟨pg, l, e, R, s, m, args, below, meth, c, cells, slots, QQ, A, G⟩ := κ
  obtain ⟨hx, hb, hml, hr, hlk, hown, hts, hR, hK, hD⟩ := C
  intro H locs ls hP hS hl
  obtain ⟨C, T, N, ty, w1, w2, w3, w4, w5, w6, w7, w8⟩ := hw
  refine va_put hx hb hts w4 ty w5 w6 hown hK hP (xw_D st hD) hS p (xw_get hsh) w1 k w2 (hts _ w3) (fun _ h => h) w7 (v := .int v) w8 rfl rfl (by rw [xfl_len]; exact (List.getElem?_eq_some_iff.mp hf).1) hd (fun H1 locs1 hP1 _ hS1 => kk H1 locs1 ls ?_ hS1 hl)
  have e : xcell G (xup st p k v) p (.inl (ci, fs)) = .inr (ci, (xfl G (st.1 p) 0 fs).set k (.int v)) := by
    show (Sum.inr (ci, xfl G ((xup st p k v).1 p) 0 fs) : va_E) = _
    rw [xup_at, xfl_set G _ v fs 0 k hf, Nat.zero_add]
  rw [← e, xw_set hsh (xup_ne st p k v)] at hP1
  exact hP1

theorem X_putZ {κ : xK} {M : xM} {d pc : Nat} {L : List (Nat × Value)} {S : List Value} {st : xSt} {p ci index k : Nat} {fs : List (Option Nat)} {v : Int32} (C : Cx κ M d) (hsh : xshapes[p]? = some (.inl (ci, fs))) (hf : fs[k]? = some none) (hw : xFZ M.1.cls index ci k) (hv : v = 0 ∨ v = 1) (hd : decode M.2.1 pc = .ok (.putfield index, 3)) (kk : X κ (pc + 3) L S (xup st p k v)) : X κ pc L (.int v :: .ref p :: S) st := by
  obtain ⟨pg, l, e, R, s, m, args, below, meth, c, cells, slots, QQ, A, G⟩ := κ
  obtain ⟨hx, hb, hml, hr, hlk, hown, hts, hR, hK, hD⟩ := C
  intro H locs ls hP hS hl
  obtain ⟨C, T, N, ty, w1, w2, w3, w4, w5, w6, w7, w8⟩ := hw
  refine va_put hx hb hts w4 ty w5 w6 hown hK hP (xw_D st hD) hS p (xw_get hsh) w1 k w2 (hts _ w3) (fun _ h => h) w7 (v := .int v) w8 (by rcases hv with h | h <;> rw [h] <;> rfl) (by rcases hv with h | h <;> rw [h] <;> rfl) (by rw [xfl_len]; exact (List.getElem?_eq_some_iff.mp hf).1) hd (fun H1 locs1 hP1 _ hS1 => kk H1 locs1 ls ?_ hS1 hl)
  have e : xcell G (xup st p k v) p (.inl (ci, fs)) = .inr (ci, (xfl G (st.1 p) 0 fs).set k (.int v)) := by
    show (Sum.inr (ci, xfl G ((xup st p k v).1 p) 0 fs) : va_E) = _
    rw [xup_at, xfl_set G _ v fs 0 k hf, Nat.zero_add]
  rw [← e, xw_set hsh (xup_ne st p k v)] at hP1
  exact hP1

theorem X_iald {κ : xK} {M : xM} {d pc : Nat} {L : List (Nat × Value)} {S : List Value} {st : xSt} {p n r : Nat} {i : Int32} (C : Cx κ M d) (hsh : xshapes[p]? = some (.inr (0, n, r))) (hin : vp_in i n) (hd : decode M.2.1 pc = .ok (.iaload, 1)) (kk : X κ (pc + 1) L (.int (st.1 p i.toNatClampNeg) :: S) st) : X κ pc L (.int i :: .ref p :: S) st := by
  obtain ⟨pg, l, e, R, s, m, args, below, meth, c, cells, slots, QQ, A, G⟩ := κ
  obtain ⟨hx, hb, hml, hr, hlk, hown, hts, hR, hK, hD⟩ := C
  intro H locs ls hP hS hl
  exact va_iald hx hb hK hP p 0 (xw_get hsh) rfl hin hd (kk H locs ls hP hS hl)

theorem X_zald {κ : xK} {M : xM} {d pc : Nat} {L : List (Nat × Value)} {S : List Value} {st : xSt} {p n r : Nat} {i : Int32} (C : Cx κ M d) (hsh : xshapes[p]? = some (.inr (2, n, r))) (hin : vp_in i n) (hd : decode M.2.1 pc = .ok (.baload, 1)) (kk : X κ (pc + 1) L (.int (st.1 p i.toNatClampNeg) :: S) st) : X κ pc L (.int i :: .ref p :: S) st := by
  obtain ⟨pg, l, e, R, s, m, args, below, meth, c, cells, slots, QQ, A, G⟩ := κ
  obtain ⟨hx, hb, hml, hr, hlk, hown, hts, hR, hK, hD⟩ := C
  intro H locs ls hP hS hl
  exact va_zald hx hb hK hP p 2 (xw_get hsh) rfl hin hd (kk H locs ls hP hS hl)

theorem X_lald {κ : xK} {M : xM} {d pc : Nat} {L : List (Nat × Value)} {S : List Value} {st : xSt} {p n r : Nat} {i : Int32} (C : Cx κ M d) (hsh : xshapes[p]? = some (.inr (1, n, r))) (hin : vp_in i n) (hd : decode M.2.1 pc = .ok (.laload, 1)) (kk : X κ (pc + 1) L (.long (st.2 p i.toNatClampNeg) :: S) st) : X κ pc L (.int i :: .ref p :: S) st := by
  obtain ⟨pg, l, e, R, s, m, args, below, meth, c, cells, slots, QQ, A, G⟩ := κ
  obtain ⟨hx, hb, hml, hr, hlk, hown, hts, hR, hK, hD⟩ := C
  intro H locs ls hP hS hl
  exact va_lald hx hb hK hP p 1 (xw_get hsh) rfl hin hd (kk H locs ls hP hS hl)

theorem X_aald {κ : xK} {M : xM} {d pc : Nat} {L : List (Nat × Value)} {S : List Value} {st : xSt} {p n r : Nat} {i : Int32} (C : Cx κ M d) (hsh : xshapes[p]? = some (.inr (3, n, r))) (hin : vp_in i n) (hd : decode M.2.1 pc = .ok (.aaload, 1)) (kk : X κ (pc + 1) L (.ref (r + i.toNatClampNeg) :: S) st) : X κ pc L (.int i :: .ref p :: S) st := by
  obtain ⟨pg, l, e, R, s, m, args, below, meth, c, cells, slots, QQ, A, G⟩ := κ
  obtain ⟨hx, hb, hml, hr, hlk, hown, hts, hR, hK, hD⟩ := C
  intro H locs ls hP hS hl
  have hlt : i.toNatClampNeg < n := Nat.not_le.mp fun q => hin (Or.inr q)
  have h1 : va_at G.1 vwCl (G.2.1 p, xcell G st p (.inr (3, n, r))) H := hP p _ (xw_get hsh)
  exact W.aald (v := .ref (G.2.1 (r + i.toNatClampNeg))) (ty := .array .int) hx hb h1 ((hK.2 3 _ rfl).1 n (fun j => va_rf (if j < n then some (G.2.1 (r + j)) else none))) rfl (fun q => by cases q) (by show ¬ (i < 0 ∨ (arrV _ _ _).slots.size ≤ _); rw [arrV_size]; exact hin) (by show (arrV _ _ _).slots[_]? = _; rw [arrV_read _ _ hlt]; show some (va_rf (if i.toNatClampNeg < n then some (G.2.1 (r + i.toNatClampNeg)) else none)) = _; rw [if_pos hlt]; rfl) rfl rfl hd (kk H locs ls hP hS hl)

theorem X_iast {κ : xK} {M : xM} {d pc : Nat} {L : List (Nat × Value)} {S : List Value} {st : xSt} {p n r : Nat} {i : Int32} {x : Int32} (C : Cx κ M d) (hsh : xshapes[p]? = some (.inr (0, n, r))) (hin : vp_in i n) (hd : decode M.2.1 pc = .ok (.iastore, 1)) (kk : X κ (pc + 1) L S (xup st p i.toNatClampNeg x)) : X κ pc L (.int x :: .int i :: .ref p :: S) st := by
  obtain ⟨pg, l, e, R, s, m, args, below, meth, c, cells, slots, QQ, A, G⟩ := κ
  obtain ⟨hx, hb, hml, hr, hlk, hown, hts, hR, hK, hD⟩ := C
  intro H locs ls hP hS hl
  refine va_iast hx hb hK hP (xw_D st hD) hS p 0 (xw_get hsh) rfl hin hd (fun H1 locs1 hP1 _ hS1 => kk H1 locs1 ls ?_ hS1 hl)
  rw [← xw_set (G := G) (st := st) hsh (xup_ne st p i.toNatClampNeg x)]
  have e := xup_at st p i.toNatClampNeg x
  show va_P G.1 vwCl ((xw G st).set p (G.2.1 p, .inl (_, n, .inl ((xup st p i.toNatClampNeg x).1 p)))) H1
  rw [e]
  exact hP1

theorem X_zast {κ : xK} {M : xM} {d pc : Nat} {L : List (Nat × Value)} {S : List Value} {st : xSt} {p n r : Nat} {i : Int32} {x : Int32} (C : Cx κ M d) (hsh : xshapes[p]? = some (.inr (2, n, r))) (hin : vp_in i n) (hd : decode M.2.1 pc = .ok (.bastore, 1)) (kk : X κ (pc + 1) L S (xup st p i.toNatClampNeg (vp_nar .boolean x))) : X κ pc L (.int x :: .int i :: .ref p :: S) st := by
  obtain ⟨pg, l, e, R, s, m, args, below, meth, c, cells, slots, QQ, A, G⟩ := κ
  obtain ⟨hx, hb, hml, hr, hlk, hown, hts, hR, hK, hD⟩ := C
  intro H locs ls hP hS hl
  refine va_zast hx hb hK hP (xw_D st hD) hS p 2 (xw_get hsh) rfl hin hd (fun H1 locs1 hP1 _ hS1 => kk H1 locs1 ls ?_ hS1 hl)
  rw [← xw_set (G := G) (st := st) hsh (xup_ne st p i.toNatClampNeg (vp_nar .boolean x))]
  have e := xup_at st p i.toNatClampNeg (vp_nar .boolean x)
  show va_P G.1 vwCl ((xw G st).set p (G.2.1 p, .inl (_, n, .inl ((xup st p i.toNatClampNeg (vp_nar .boolean x)).1 p)))) H1
  rw [e]
  exact hP1

theorem X_last {κ : xK} {M : xM} {d pc : Nat} {L : List (Nat × Value)} {S : List Value} {st : xSt} {p n r : Nat} {i : Int32} {x : Int64} (C : Cx κ M d) (hsh : xshapes[p]? = some (.inr (1, n, r))) (hin : vp_in i n) (hd : decode M.2.1 pc = .ok (.lastore, 1)) (kk : X κ (pc + 1) L S (xupL st p i.toNatClampNeg x)) : X κ pc L (.long x :: .int i :: .ref p :: S) st := by
  obtain ⟨pg, l, e, R, s, m, args, below, meth, c, cells, slots, QQ, A, G⟩ := κ
  obtain ⟨hx, hb, hml, hr, hlk, hown, hts, hR, hK, hD⟩ := C
  intro H locs ls hP hS hl
  refine va_last hx hb hK hP (xw_D st hD) hS p 1 (xw_get hsh) rfl hin hd (fun H1 locs1 hP1 _ hS1 => kk H1 locs1 ls ?_ hS1 hl)
  rw [← xw_set (G := G) (st := st) hsh (xupL_ne st p i.toNatClampNeg x)]
  have e := xupL_at st p i.toNatClampNeg x
  show va_P G.1 vwCl ((xw G st).set p (G.2.1 p, .inl (_, n, .inr (.inl ((xupL st p i.toNatClampNeg x).2 p))))) H1
  rw [e]
  exact hP1

theorem X_alenI {κ : xK} {M : xM} {d pc : Nat} {L : List (Nat × Value)} {S : List Value} {st : xSt} {p n r : Nat} {v : Int32} (C : Cx κ M d) (hsh : xshapes[p]? = some (.inr (0, n, r))) (hv : Int32.ofNat n = v) (hd : decode M.2.1 pc = .ok (.arraylength, 1)) (kk : X κ (pc + 1) L (.int v :: S) st) : X κ pc L (.ref p :: S) st := by
  obtain ⟨pg, l, e, R, s, m, args, below, meth, c, cells, slots, QQ, A, G⟩ := κ
  obtain ⟨hx, hb, hml, hr, hlk, hown, hts, hR, hK, hD⟩ := C
  intro H locs ls hP hS hl
  exact va_alen hx hb hK hP p 0 (xw_get hsh) rfl hv hd (kk H locs ls hP hS hl)

theorem X_alenJ {κ : xK} {M : xM} {d pc : Nat} {L : List (Nat × Value)} {S : List Value} {st : xSt} {p n r : Nat} {v : Int32} (C : Cx κ M d) (hsh : xshapes[p]? = some (.inr (1, n, r))) (hv : Int32.ofNat n = v) (hd : decode M.2.1 pc = .ok (.arraylength, 1)) (kk : X κ (pc + 1) L (.int v :: S) st) : X κ pc L (.ref p :: S) st := by
  obtain ⟨pg, l, e, R, s, m, args, below, meth, c, cells, slots, QQ, A, G⟩ := κ
  obtain ⟨hx, hb, hml, hr, hlk, hown, hts, hR, hK, hD⟩ := C
  intro H locs ls hP hS hl
  exact va_alen hx hb hK hP p 1 (xw_get hsh) rfl hv hd (kk H locs ls hP hS hl)

theorem X_iret {κ : xK} {M : xM} {d pc : Nat} {L : List (Nat × Value)} {st : xSt} {v : Int32} {Q : Option Value → xSt → Prop} (C : Cx κ M d) (Z : xR κ Q) (hrt : M.2.2.2 = some .int) (hd : decode M.2.1 pc = .ok (.ireturn, 1)) (hq : Q (some (.int v)) st) : X κ pc L [.int v] st := by
  obtain ⟨pg, l, e, R, s, m, args, below, meth, c, cells, slots, QQ, A, G⟩ := κ
  obtain ⟨hx, hb, hml, hr, hlk, hown, hts, hR, hK, hD⟩ := C
  intro H locs ls hP hS hl
  obtain ⟨rfl, rfl⟩ := Z
  exact W.iret hx hb (hr.trans hrt) (fun t ht hW => ⟨⟨some (.int v), st, rfl, hq, by rw [ht]; exact hP⟩, hS.F ht⟩) hS.2.2 hd
theorem X_lret {κ : xK} {M : xM} {d pc : Nat} {L : List (Nat × Value)} {st : xSt} {v : Int64} {Q : Option Value → xSt → Prop} (C : Cx κ M d) (Z : xR κ Q) (hrt : M.2.2.2 = some .long) (hd : decode M.2.1 pc = .ok (.lreturn, 1)) (hq : Q (some (.long v)) st) : X κ pc L [.long v] st := by
  obtain ⟨pg, l, e, R, s, m, args, below, meth, c, cells, slots, QQ, A, G⟩ := κ
  obtain ⟨hx, hb, hml, hr, hlk, hown, hts, hR, hK, hD⟩ := C
  intro H locs ls hP hS hl
  obtain ⟨rfl, rfl⟩ := Z
  exact W.lret hx hb (hr.trans hrt) (fun t ht hW => ⟨⟨some (.long v), st, rfl, hq, by rw [ht]; exact hP⟩, hS.F ht⟩) hS.2.2 hd
theorem X_zret {κ : xK} {M : xM} {d pc : Nat} {L : List (Nat × Value)} {st : xSt} {v : Int32} {Q : Option Value → xSt → Prop} (C : Cx κ M d) (Z : xR κ Q) (hrt : M.2.2.2 = some .boolean) (hv : v = 0 ∨ v = 1) (hd : decode M.2.1 pc = .ok (.ireturn, 1)) (hq : Q (some (.int v)) st) : X κ pc L [.int v] st := by
  obtain ⟨pg, l, e, R, s, m, args, below, meth, c, cells, slots, QQ, A, G⟩ := κ
  obtain ⟨hx, hb, hml, hr, hlk, hown, hts, hR, hK, hD⟩ := C
  intro H locs ls hP hS hl
  obtain ⟨rfl, rfl⟩ := Z
  refine W.zret hx hb (hr.trans hrt) ?_ (fun t ht hW => ⟨⟨some (.int v), st, rfl, hq, by rw [ht]; exact hP⟩, hS.F ht⟩) hS.2.2 hd
  rcases hv with rfl | rfl <;> rfl
theorem X_vret {κ : xK} {M : xM} {d pc : Nat} {L : List (Nat × Value)} {st : xSt} {Q : Option Value → xSt → Prop} (C : Cx κ M d) (Z : xR κ Q) (hrt : M.2.2.2 = none) (hd : decode M.2.1 pc = .ok (.return_, 1)) (hq : Q none st) : X κ pc L [] st := by
  obtain ⟨pg, l, e, R, s, m, args, below, meth, c, cells, slots, QQ, A, G⟩ := κ
  obtain ⟨hx, hb, hml, hr, hlk, hown, hts, hR, hK, hD⟩ := C
  intro H locs ls hP hS hl
  obtain ⟨rfl, rfl⟩ := Z
  exact W.vret hx hb (hr.trans hrt) (fun t ht hW => ⟨⟨none, st, rfl, hq, by rw [ht]; exact hP⟩, hS.F ht⟩) hS.2.2 hd
