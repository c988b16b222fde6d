/-! constructors: walks in a world that grows -/
theorem good_of {k : Nat} {w : Cond} (h : lw_tbl[k]? = some w) (hg : goodWord w = true) : w ∈ lw_good := List.mem_filter.mpr ⟨List.mem_of_getElem? h, hg⟩
theorem good_ws {ws : List Cond} (h : ∀ w ∈ ws, w ∈ lw_tbl) (hg : ws.all goodWord = true) : ∀ w ∈ ws, w ∈ lw_good := fun w hw => List.mem_filter.mpr ⟨h w hw, List.all_eq_true.mp hg w hw⟩
theorem va_AOA.moved {ty : FieldType} {u U : State} (hvm : u.vm.Alike U.vm) (h : va_AOA ty u) : va_AOA ty U := Jvm.Stand.arrayOver_alikeB (first := u) (o := none) (idx := []) (args := #[]) hvm h
abbrev yC : Type := ClassId × ClassId × ClassId × ClassId
abbrev yK : Type := Program × Launch × Env × Room × State × MethodId × Array Value × List Frame × Method × Code × (State → Prop) × (Nat → Prop) × va_G × yC
abbrev ytys (cs : yC) : List (ClassId × FieldType) := [(cs.1, .int), (cs.2.1, .long), (cs.2.2.1, .boolean), (cs.2.2.2, .array .int)]
abbrev ycs (κ : yK) : yC := κ.2.2.2.2.2.2.2.2.2.2.2.2.2
/-- the method walked in κ stands at pc with locals L and stack S, its world ws; it comes to what κ wants -/
def Y (κ : yK) (pc : Nat) (L : List (Nat × Value)) (S : List Value) (ws : va_W) (cells slots : Nat) : Prop := match κ with
  | (p, l, e, R, s, m, args, below, meth, c, QQ, A, D, _) => ∀ (H : Heap) (locs : List Loc) (ls : Array Slot), va_P D vwCl ws H → va_D A ws → va_S A s.heap H locs → lv_has ls c.maxLocals L → W p l e R s m args below meth c H locs cells slots QQ (F0 m pc ls S)
def Cy (κ : yK) (M : xM) (d mc ms : Nat) : Prop := match κ with
  | (p, _, _, R, s, m, args, _, meth, c, _, A, D, cs) => p.tables.exec = Jvm.exec ∧ c.code = M.2.1 ∧ c.maxLocals = M.2.2.1 ∧ meth.sig.returnType = M.2.2.2 ∧ meth.locks = false ∧ s.vm.findClass M.1.cls = some m.cls ∧ (∀ w ∈ lw_good, w.before args s = true) ∧ (d ≤ R.frames ∧ 64 * d ≤ R.locals ∧ mc ≤ R.cells ∧ ms ≤ R.slots) ∧ va_K D vwCl (ytys cs) s ∧ va_AOA .int s ∧ (∀ q, s.heap.size ≤ q → A q) ∧ (M.1.name = "<init>" → meth.name = "<init>")
section YR
variable {κ : yK} {M : xM} {d mc ms pc cells slots : Nat} {L : List (Nat × Value)} {S : List Value} {ws : va_W}
theorem Y_aload_n {k : Fin 4} {i j x : Nat} (C : Cy κ M d mc ms) (hd : decode M.2.1 pc = .ok (.aload_n k, 1)) (hi : (k : Nat) = i) (hk : L[j]? = some (i, .ref x)) (kk : Y κ (pc + 1) L (.ref x :: S) ws cells slots) : Y κ pc L S ws cells slots := by
  obtain ⟨p, l, e, R, s, m, args, below, meth, c, QQ, A, D, cs⟩ := κ
  obtain ⟨hx, hb, hml, hr, hlk, hown, hts, hR, hK, hO, hA, hnm⟩ := C
  intro H locs ls hP hD hS hl
  exact lv_aload_n hx hb hd hi (lv_at hl j hk) (kk H locs ls hP hD hS hl)
theorem Y_bipush {n : Int} {v : Int32} (C : Cy κ M d mc ms) (hv : (Int8.ofInt n).toInt32 = v) (hd : decode M.2.1 pc = .ok (.bipush n, 2)) (kk : Y κ (pc + 2) L (.int v :: S) ws cells slots) : Y κ pc L S ws cells slots := by
  obtain ⟨p, l, e, R, s, m, args, below, meth, c, QQ, A, D, cs⟩ := κ
  obtain ⟨hx, hb, hml, hr, hlk, hown, hts, hR, hK, hO, hA, hnm⟩ := C
  intro H locs ls hP hD hS hl
  exact lv_bipush hx hb hd hv (kk H locs ls hP hD hS hl)
theorem Y_sipush {n : Int} {v : Int32} (C : Cy κ M d mc ms) (hv : (Int16.ofInt n).toInt32 = v) (hd : decode M.2.1 pc = .ok (.sipush n, 3)) (kk : Y κ (pc + 3) L (.int v :: S) ws cells slots) : Y κ pc L S ws cells slots := by
  obtain ⟨p, l, e, R, s, m, args, below, meth, c, QQ, A, D, cs⟩ := κ
  obtain ⟨hx, hb, hml, hr, hlk, hown, hts, hR, hK, hO, hA, hnm⟩ := C
  intro H locs ls hP hD hS hl
  exact lv_sipush hx hb hd hv (kk H locs ls hP hD hS hl)
theorem Y_iconst {n : Int} {v : Int32} (C : Cy κ M d mc ms) (hv : Int32.ofInt n = v) (hd : decode M.2.1 pc = .ok (.iconst n, 1)) (kk : Y κ (pc + 1) L (.int v :: S) ws cells slots) : Y κ pc L S ws cells slots := by
  obtain ⟨p, l, e, R, s, m, args, below, meth, c, QQ, A, D, cs⟩ := κ
  obtain ⟨hx, hb, hml, hr, hlk, hown, hts, hR, hK, hO, hA, hnm⟩ := C
  intro H locs ls hP hD hS hl
  exact lv_iconst hx hb hd hv (kk H locs ls hP hD hS hl)
theorem Y_objInit {idx a : Nat} (C : Cy κ M (d + 1) mc ms) (w1 : Cond.methodLink M.1.cls idx objectInit ∈ lw_good) (w2 : Cond.instanceMethod objectInit ∈ lw_good) (w3 : Cond.code objectInit ⟨#[0xb1]⟩ 1 none ∈ lw_good) (hcat : (S.map fun v => v.category).sum ≤ 8) (hd : decode M.2.1 pc = .ok (.invokespecial idx, 3)) (kk : Y κ (pc + 3) L S ws cells slots) : Y κ pc L (.ref a :: S) ws cells slots := by
  obtain ⟨p, l, e, R, s, m, args, below, meth, c, QQ, A, D, cs⟩ := κ
  obtain ⟨hx, hb, hml, hr, hlk, hown, hts, hR, hK, hO, hA, hnm⟩ := C
  intro H locs ls hP hD hS hl
  refine W.objInit hx hb hown (hts _ w1) (hts _ w2) (hts _ w3) rfl hl.1 rfl hd (by omega) ?_ ?_
  · have := lv_room (m := m) (pc := pc) (ls := ls) (rest := .ref a :: S) hcat
    have := hR.2.1
    omega
  · exact kk H locs ls hP hD hS hl
theorem yK_eq {D : va_G} {cl : List vw_C} {t1 t2 : List (ClassId × FieldType)} {s : State} {i j : Nat} {c1 c2 : ClassId} {ty : FieldType} (hty : ∀ C, ty ≠ .object C) (h1 : va_K D cl t1 s) (h2 : va_K D cl t2 s) (e1 : t1[i]? = some (c1, ty)) (e2 : t2[j]? = some (c2, ty)) : c1 = c2 := by
  have a := (h1.2 i _ e1).2
  have b := (h2.2 j _ e2).2
  cases ty with
  | object C => exact (hty C rfl).elim
  | _ => exact Option.some.inj (a.symm.trans b)
theorem Y_newa {atype : ArrayType} {n : Int32} {N' t0 : Nat} {ty : FieldType} {a0 : vp_A} {c0 : ClassId} (C : Cy κ M d mc ms) (ht : (ytys (ycs κ))[t0]? = some (c0, ty)) (hob : ∀ C, ty ≠ .object C) (hty : newarray.typeOf atype = ty) (w1 : Cond.arrayClass ty ∈ lw_good) (ha : ∀ cA : ClassId, vp_cell cA a0 = arrV cA N' (fun _ => defaultValue ty)) (hn : ¬ n < 0) (hN : n.toNatClampNeg = N') (hbytes : N' * componentBytes ty ≤ 536870912) (hc : cells + 1 ≤ mc) (hs : slots + N' ≤ ms) (hd : decode M.2.1 pc = .ok (.newarray atype, 2)) (kk : ∀ q, Y κ (pc + 2) L (.ref q :: S) (ws ++ [(q, .inl (c0, a0))]) (cells + 1) (slots + N')) : Y κ pc L (.int n :: S) ws cells slots := by
  obtain ⟨p, l, e, R, s, m, args, below, meth, c, QQ, A, D, cs⟩ := κ
  obtain ⟨hx, hb, hml, hr, hlk, hown, hts, hR, hK, hO, hA, hnm⟩ := C
  intro H locs ls hP hD hS hl
  refine va_newa hx hb (by rw [hty]; exact hts _ w1) hty hK hP hD hS hA ha hn hN hbytes (Nat.le_trans hc hR.2.2.1) (Nat.le_trans hs hR.2.2.2) hd (fun q cA H1 hK1 hP1 hD1 hS1 => ?_)
  have e1 : cA = c0 := yK_eq (i := 4) hob hK1 hK rfl ht
  subst e1
  exact kk q H1 locs ls hP1 hD1 hS1 hl
theorem yrows {r : Nat → Nat} {N' : Nat} {f : Nat → va_E} {e : va_E} : va_pl ([] ++ (List.range N').map r) (vr_up f ((List.range N').map r) e) = (List.range N').map (fun i => (r i, e)) := by
  unfold va_pl
  rw [List.nil_append, List.map_map]
  apply List.map_congr_left
  intro i hi
  show (r i, vr_up f ((List.range N').map r) e (r i)) = _
  rw [vr_up_in (List.mem_map.mpr ⟨i, hi, rfl⟩)]
theorem Y_mna {idx : Nat} {n k : Int32} {N' K' : Nat} (C : Cy κ M d mc ms) (w1 : Cond.classLink M.1.cls idx "[[I" ∈ lw_good) (w2 : Cond.arrayClass .int ∈ lw_good) (hn : ¬ n < 0) (hk : ¬ k < 0) (hN : n.toNatClampNeg = N') (hM : k.toNatClampNeg = K') (hb1 : N' * 4 ≤ 536870912) (hb2 : K' * 4 ≤ 536870912) (hc : cells + (1 + N') ≤ mc) (hs : slots + (N' + N' * K') ≤ ms) (hd : decode M.2.1 pc = .ok (.multianewarray idx 2, 4)) (kk : ∀ (q : Nat) (r : Nat → Nat), Y κ (pc + 4) L (.ref q :: S) ((ws ++ [(q, .inl ((ycs κ).2.2.2, N', .inr (.inr (.inr (.inr (fun i => if i < N' then some (r i) else none))))))]) ++ (List.range N').map (fun i => (r i, .inl ((ycs κ).1, K', .inl (fun _ => 0))))) (cells + 1 + N') (slots + N' + N' * K')) : Y κ pc L (.int k :: .int n :: S) ws cells slots := by
  obtain ⟨p, l, e, R, s, m, args, below, meth, c, QQ, A, D, cs⟩ := κ
  obtain ⟨hx, hb, hml, hr, hlk, hown, hts, hR, hK, hO, hA, hnm⟩ := C
  intro H locs ls hP hD hS hl
  have e0 : ws ++ va_pl [] (fun _ => .inr (0, [])) = ws := List.append_nil ws
  refine va_mna (X := ws) (L := []) (f := fun _ => .inr (0, [])) (ty := .int) (cy := cs.1) (z := (K', .inl (fun _ => 0))) hx hb hown (hts _ w1) hO (hts _ w2) (hK.2 0 _ rfl).2 hK (by rw [e0]; exact hP) (by rw [e0]; exact hD) hS hA hn hk hN hM hb1 hb2 (by omega) rfl rfl (Nat.le_trans hc hR.2.2.1) (Nat.le_trans hs hR.2.2.2) (fun c => ?_) hd (fun q r cA H1 _ _ hK1 hP1 hD1 hS1 => ?_)
  · show ({ cls := c, slots := Array.replicate K' (.int 0), vm := .none } : Cell) = vp_cell c (K', .inl (fun _ => 0))
    rw [vp_cell_i]
    exact arrV_new c K' (.int 0)
  · rw [yrows] at hP1 hD1
    have e1 : cA = cs.2.2.2 := yK_eq (i := 4) (j := 3) (ty := .array .int) (fun C h => by cases h) hK1 hK rfl rfl
    subst e1
    exact kk q r H1 locs ls hP1 hD1 hS1 hl
theorem Y_putF {index ci k q0 a N : Nat} {T : u_T} {ty0 : Nat → FieldType} {ty : FieldType} {fs : List Value} {v : Value} {ws' : va_W} (C : Cy κ M d mc ms) (he : ws[q0]? = some (a, .inr (ci, fs))) (hci : vwCl[ci]? = some (M.1.cls, T, N)) (hin : ∀ w ∈ u_ws M.1.cls T N, w ∈ lw_good) (hty : ∀ k, k < N → parseFieldDescriptor (T k).2.2.1 = some (ty0 k)) (hnm : ∀ a, a < N → ∀ b, b < N → a ≠ b → (T a).2.1 ≠ (T b).2.1) (hk : k < N) (w1 : Cond.fieldLink M.1.cls index (T k).1 (T k).2.1 (T k).2.2.1 ∈ lw_good) (hfin : (T k).2.2.2 = true) (hi : M.1.name = "<init>") (hdecl : (T k).1 = M.1.cls) (hdt : parseFieldDescriptor (T k).2.2.1 = some ty) (hnar : narrow ty v = v) (hfit : fits ty v = true) (hl2 : k < fs.length) (hd : decode M.2.1 pc = .ok (.putfield index, 3)) (hws : ws.set q0 (a, .inr (ci, fs.set k v)) = ws') (kk : Y κ (pc + 3) L S ws' cells slots) : Y κ pc L (v :: .ref a :: S) ws cells slots := by
  obtain ⟨p, l, e, R, s, m, args, below, meth, c, QQ, A, D, cs⟩ := κ
  obtain ⟨hx, hb, hml, hr, hlk, hown, hts, hR, hK, hO, hA, hname⟩ := C
  intro H locs ls hP hD hS hl
  subst hws
  exact va_putF hx hb hts hin ty0 hty hnm hown hK hP hD hS q0 he hci k hk (hts _ w1) (fun _ h => h) hfin (hname hi) hdecl hdt hnar hfit hl2 hd (fun H1 locs1 hP1 hD1 hS1 => kk H1 locs1 ls hP1 hD1 hS1 hl)
theorem Y_put {index ci k q0 a N : Nat} {T : u_T} {ty0 : Nat → FieldType} {ty : FieldType} {fs : List Value} {v : Value} {ws' : va_W} (C : Cy κ M d mc ms) (he : ws[q0]? = some (a, .inr (ci, fs))) (hci : vwCl[ci]? = some (M.1.cls, T, N)) (hin : ∀ w ∈ u_ws M.1.cls T N, w ∈ lw_good) (hty : ∀ k, k < N → parseFieldDescriptor (T k).2.2.1 = some (ty0 k)) (hnm : ∀ a, a < N → ∀ b, b < N → a ≠ b → (T a).2.1 ≠ (T b).2.1) (hk : k < N) (w1 : Cond.fieldLink M.1.cls index (T k).1 (T k).2.1 (T k).2.2.1 ∈ lw_good) (hfin : (T k).2.2.2 = false) (hdt : parseFieldDescriptor (T k).2.2.1 = some ty) (hnar : narrow ty v = v) (hfit : fits ty v = true) (hl2 : k < fs.length) (hd : decode M.2.1 pc = .ok (.putfield index, 3)) (hws : ws.set q0 (a, .inr (ci, fs.set k v)) = ws') (kk : Y κ (pc + 3) L S ws' cells slots) : Y κ pc L (v :: .ref a :: S) ws cells slots := by
  obtain ⟨p, l, e, R, s, m, args, below, meth, c, QQ, A, D, cs⟩ := κ
  obtain ⟨hx, hb, hml, hr, hlk, hown, hts, hR, hK, hO, hA, hname⟩ := C
  intro H locs ls hP hD hS hl
  subst hws
  exact va_put hx hb hts hin ty0 hty hnm hown hK hP hD hS q0 he hci k hk (hts _ w1) (fun _ h => h) hfin hdt hnar hfit hl2 hd (fun H1 locs1 hP1 hD1 hS1 => kk H1 locs1 ls hP1 hD1 hS1 hl)
theorem Y_get {index ci k q0 a N : Nat} {T : u_T} {fs : List Value} {v : Value} (C : Cy κ M d mc ms) (he : ws[q0]? = some (a, .inr (ci, fs))) (hci : vwCl[ci]? = some (M.1.cls, T, N)) (hin : ∀ w ∈ u_ws M.1.cls T N, w ∈ lw_good) (hk : k < N) (w1 : Cond.fieldLink M.1.cls index (T k).1 (T k).2.1 (T k).2.2.1 ∈ lw_good) (hv : fs[k]? = some v) (hd : decode M.2.1 pc = .ok (.getfield index, 3)) (kk : Y κ (pc + 3) L (v :: S) ws cells slots) : Y κ pc L (.ref a :: S) ws cells slots := by
  obtain ⟨p, l, e, R, s, m, args, below, meth, c, QQ, A, D, cs⟩ := κ
  obtain ⟨hx, hb, hml, hr, hlk, hown, hts, hR, hK, hO, hA, hname⟩ := C
  intro H locs ls hP hD hS hl
  exact va_get hx hb hts hin hown hK hP q0 he hci k hk (hts _ w1) (fun _ h => h) hv hd (kk H locs ls hP hD hS hl)
theorem Y_ws {ws' : va_W} (h : ws = ws') (kk : Y κ pc L S ws' cells slots) : Y κ pc L S ws cells slots := by
  subst h
  exact kk
theorem Y_iload_n {k : Fin 4} {i j : Nat} {x : Int32} (C : Cy κ M d mc ms) (hd : decode M.2.1 pc = .ok (.iload_n k, 1)) (hi : (k : Nat) = i) (hk : L[j]? = some (i, .int x)) (kk : Y κ (pc + 1) L (.int x :: S) ws cells slots) : Y κ pc L S ws cells slots := by
  obtain ⟨p, l, e, R, s, m, args, below, meth, c, QQ, A, D, cs⟩ := κ
  obtain ⟨hx, hb, hml, hr, hlk, hown, hts, hR, hK, hO, hA, hnm⟩ := C
  intro H locs ls hP hD hS hl
  exact lv_iload_n hx hb hd hi (lv_at hl j hk) (kk H locs ls hP hD hS hl)
theorem Y_istore_n {k : Fin 4} {i : Nat} {x : Int32} {L' : List (Nat × Value)} (C : Cy κ M d mc ms) (hd : decode M.2.1 pc = .ok (.istore_n k, 1)) (hi : (k : Nat) = i) (hn : i < M.2.2.1) (hL : xst L i (.int x) = L') (kk : Y κ (pc + 1) L' S ws cells slots) : Y κ pc L (.int x :: S) ws cells slots := by
  obtain ⟨p, l, e, R, s, m, args, below, meth, c, QQ, A, D, cs⟩ := κ
  obtain ⟨hx, hb, hml, hr, hlk, hown, hts, hR, hK, hO, hA, hnm⟩ := C
  intro H locs ls hP hD hS hl
  exact lv_istore_n hx hb hd hi hl (by rw [hml]; exact hn) hL (fun ls2 hl2 => kk H locs ls2 hP hD hS hl2)
theorem Y_astore_n {k : Fin 4} {i x : Nat} {L' : List (Nat × Value)} (C : Cy κ M d mc ms) (hd : decode M.2.1 pc = .ok (.astore_n k, 1)) (hi : (k : Nat) = i) (hn : i < M.2.2.1) (hL : xst L i (.ref x) = L') (kk : Y κ (pc + 1) L' S ws cells slots) : Y κ pc L (.ref x :: S) ws cells slots := by
  obtain ⟨p, l, e, R, s, m, args, below, meth, c, QQ, A, D, cs⟩ := κ
  obtain ⟨hx, hb, hml, hr, hlk, hown, hts, hR, hK, hO, hA, hnm⟩ := C
  intro H locs ls hP hD hS hl
  exact lv_astore_n hx hb hd hi hl (by rw [hml]; exact hn) hL (fun ls2 hl2 => kk H locs ls2 hP hD hS hl2)
theorem Y_iinc {i j : Nat} {n : Int} {x v : Int32} {L' : List (Nat × Value)} (C : Cy κ M d mc ms) (hd : decode M.2.1 pc = .ok (.iinc i n, 3)) (hk : L[j]? = some (i, .int x)) (hv : x + Int32.ofInt n = v) (hn : i < M.2.2.1) (hL : xst L i (.int v) = L') (kk : Y κ (pc + 3) L' S ws cells slots) : Y κ pc L S ws cells slots := by
  obtain ⟨p, l, e, R, s, m, args, below, meth, c, QQ, A, D, cs⟩ := κ
  obtain ⟨hx, hb, hml, hr, hlk, hown, hts, hR, hK, hO, hA, hnm⟩ := C
  intro H locs ls hP hD hS hl
  exact lv_iinc (k := j) (v := v) hx hb hd hl hk hv (by rw [hml]; exact hn) hL (fun ls2 hl2 => kk H locs ls2 hP hD hS hl2)
theorem Y_loc {L' : List (Nat × Value)} (ks : List Nat) (h : lv_pick L ks = L') (kk : Y κ pc L' S ws cells slots) : Y κ pc L S ws cells slots := by
  obtain ⟨p, l, e, R, s, m, args, below, meth, c, QQ, A, D, cs⟩ := κ
  intro H locs ls hP hD hS hl
  exact kk H locs ls hP hD hS (lv_sub hl ks h)
theorem Y_goto {off : Int} {tgt : Nat} (C : Cy κ M d mc ms) (hd : decode M.2.1 pc = .ok (.goto off, 3)) (ht : (pc : Int) + off = (tgt : Int)) (kk : Y κ tgt L S ws cells slots) : Y κ pc L S ws cells slots := by
  obtain ⟨p, l, e, R, s, m, args, below, meth, c, QQ, A, D, cs⟩ := κ
  obtain ⟨hx, hb, hml, hr, hlk, hown, hts, hR, hK, hO, hA, hnm⟩ := C
  intro H locs ls hP hD hS hl
  exact lv_goto hx hb hd ht (kk H locs ls hP hD hS hl)
theorem Y_icmp_ge {x y : Int32} {off : Int} {tgt : Nat} (C : Cy κ M d mc ms) (hd : decode M.2.1 pc = .ok (.if_icmp .ge off, 3)) (ht : (pc : Int) + off = (tgt : Int)) (kt : y ≤ x → Y κ tgt L S ws cells slots) (kf : ¬ y ≤ x → Y κ (pc + 3) L S ws cells slots) : Y κ pc L (.int y :: .int x :: S) ws cells slots := by
  obtain ⟨p, l, e, R, s, m, args, below, meth, c, QQ, A, D, cs⟩ := κ
  obtain ⟨hx, hb, hml, hr, hlk, hown, hts, hR, hK, hO, hA, hnm⟩ := C
  intro H locs ls hP hD hS hl
  exact lv_icmp_ge hx hb hd ht (fun h => kt h H locs ls hP hD hS hl) (fun h => kf h H locs ls hP hD hS hl)
theorem Y_alen {q0 a n : Nat} {f : Nat → Int32} {v : Int32} (C : Cy κ M d mc ms) (he : ws[q0]? = some (a, .inl ((ycs κ).1, n, .inl f))) (hv : Int32.ofNat n = v) (hd : decode M.2.1 pc = .ok (.arraylength, 1)) (kk : Y κ (pc + 1) L (.int v :: S) ws cells slots) : Y κ pc L (.ref a :: S) ws cells slots := by
  obtain ⟨p, l, e, R, s, m, args, below, meth, c, QQ, A, D, cs⟩ := κ
  obtain ⟨hx, hb, hml, hr, hlk, hown, hts, hR, hK, hO, hA, hnm⟩ := C
  intro H locs ls hP hD hS hl
  exact va_alen hx hb hK hP q0 0 he rfl hv hd (kk H locs ls hP hD hS hl)
theorem Y_iast {q0 a n : Nat} {f : Nat → Int32} {i x : Int32} {ws' : va_W} (C : Cy κ M d mc ms) (he : ws[q0]? = some (a, .inl ((ycs κ).1, n, .inl f))) (hin : vp_in i n) (hd : decode M.2.1 pc = .ok (.iastore, 1)) (hws : ws.set q0 (a, .inl ((ycs κ).1, n, .inl (upd f i.toNatClampNeg x))) = ws') (kk : Y κ (pc + 1) L S ws' cells slots) : Y κ pc L (.int x :: .int i :: .ref a :: S) ws cells slots := by
  obtain ⟨p, l, e, R, s, m, args, below, meth, c, QQ, A, D, cs⟩ := κ
  obtain ⟨hx, hb, hml, hr, hlk, hown, hts, hR, hK, hO, hA, hnm⟩ := C
  intro H locs ls hP hD hS hl
  subst hws
  exact va_iast hx hb hK hP hD hS q0 0 he rfl hin hd (fun H1 locs1 hP1 hD1 hS1 => kk H1 locs1 ls hP1 hD1 hS1 hl)
end YR
/-! a call that works on the last cell, and puts its own world in its place -/
theorem y_left {D : va_G} {cl : List vw_C} {wr : va_W} {x : Nat × va_E} {H : Heap} (h : va_P D cl (wr ++ [x]) H) : va_P D cl wr H := fun k q hk => h k q (by rw [List.getElem?_append_left (List.getElem?_eq_some_iff.mp hk).1]; exact hk)
theorem y_last {D : va_G} {cl : List vw_C} {wr : va_W} {x : Nat × va_E} {H : Heap} (h : va_P D cl (wr ++ [x]) H) : va_P D cl [x] H := fun k q hk => h (wr.length + k) q (by rw [List.getElem?_append_right (by omega), Nat.add_sub_cancel_left]; exact hk)
theorem y_lastD {A : Nat → Prop} {wr : va_W} {x : Nat × va_E} (h : va_D A (wr ++ [x])) : va_D A [x] := ⟨fun i j p q hi hj _ => by
    have h1 : i < 1 := (List.getElem?_eq_some_iff.mp hi).1
    have h2 : j < 1 := (List.getElem?_eq_some_iff.mp hj).1
    omega, fun k q hk => h.2 (wr.length + k) q (by rw [List.getElem?_append_right (by omega), Nat.add_sub_cancel_left]; exact hk)⟩
theorem y_free {A : Nat → Prop} {wr : va_W} {x : Nat × va_E} {H0 H : Heap} {locs : List Loc} (hD : va_D A (wr ++ [x])) (hS : va_S A H0 H locs) (hA : ∀ q, H0.size ≤ q → A q) : ∀ q, va_A [x] H.size q → A q := by
  rintro q (⟨k, e, h⟩ | h)
  · exact hD.2 (wr.length + k) (q, e) (by rw [List.getElem?_append_right (by omega), Nat.add_sub_cancel_left]; exact h)
  · exact hA q (Nat.le_trans hS.1 h)
theorem y_join {A : Nat → Prop} {D : va_G} {cl : List vw_C} {wr w1 : va_W} {x : Nat × va_E} {H H1 : Heap} (hP : va_P D cl (wr ++ [x]) H) (hD : va_D A (wr ++ [x])) (hk : ∀ q : Nat, q < H.size → ¬ va_A [x] H.size q → H1[q]? = H[q]?) (hF : ∀ q, va_A [x] H.size q → A q) (hP1 : va_P D cl w1 H1) (hD1 : va_D (va_A [x] H.size) w1) : va_P D cl (wr ++ w1) H1 ∧ va_D A (wr ++ w1) := by
  have hl := y_left hP
  have hx : (wr ++ [x])[wr.length]? = some x := by rw [List.getElem?_append_right (by omega), Nat.sub_self]; rfl
  have ap : ∀ (k : Nat) (q : Nat × va_E), wr[k]? = some q → q.1 < H.size ∧ ¬ va_A [x] H.size q.1 := by
    intro k q hq
    have hlt : q.1 < H.size := (hl k q hq).lt
    have hkl : k < wr.length := (List.getElem?_eq_some_iff.mp hq).1
    refine ⟨hlt, ?_⟩
    rintro (⟨k2, e2, h2⟩ | h2)
    · have h3 : k2 < 1 := (List.getElem?_eq_some_iff.mp h2).1
      rw [show k2 = 0 by omega] at h2
      have h4 : x = (q.1, e2) := Option.some.inj h2
      have := hD.1 k wr.length q x (by rw [List.getElem?_append_left hkl]; exact hq) hx (by rw [h4])
      omega
    · omega
  refine ⟨(hl.kept (fun k q hq => hk q.1 (ap k q hq).1 (ap k q hq).2)).app hP1, ?_, ?_⟩
  · intro i j p q hi hj e
    by_cases h1 : i < wr.length <;> by_cases h2 : j < wr.length
    · rw [List.getElem?_append_left h1] at hi
      rw [List.getElem?_append_left h2] at hj
      exact hD.1 i j p q (by rw [List.getElem?_append_left h1]; exact hi) (by rw [List.getElem?_append_left h2]; exact hj) e
    · rw [List.getElem?_append_left h1] at hi
      rw [List.getElem?_append_right (by omega)] at hj
      exact ((ap i p hi).2 (by rw [e]; exact hD1.2 _ _ hj)).elim
    · rw [List.getElem?_append_right (by omega)] at hi
      rw [List.getElem?_append_left h2] at hj
      exact ((ap j q hj).2 (by rw [← e]; exact hD1.2 _ _ hi)).elim
    · rw [List.getElem?_append_right (by omega)] at hi hj
      have := hD1.1 _ _ p q hi hj e
      omega
  · intro k q hq
    by_cases h1 : k < wr.length
    · rw [List.getElem?_append_left h1] at hq
      exact hD.2 k q (by rw [List.getElem?_append_left h1]; exact hq)
    · rw [List.getElem?_append_right (by omega)] at hq
      exact hF _ (hD1.2 _ _ hq)
/-- what a method finds that works on one cell, and what it leaves -/
def yPre (D : va_G) (cs : yC) (x : Nat × va_E) (sz : Nat) (U : State) : Prop := U.heap.size = sz ∧ va_P D vwCl [x] U.heap ∧ va_K D vwCl (ytys cs) U ∧ va_D (fun _ => True) [x] ∧ va_AOA .int U
def yPost {S : Type} (D : va_G) (x : Nat × va_E) (sz : Nat) (w : S → va_W) (u : S) (t : State) : Prop := va_P D vwCl (w u) t.heap ∧ va_D (va_A [x] sz) (w u)
/-- method M, called with as, on the cell x: it returns, leaves w u for some addresses u, has made mc cells of ms slots -/
def Cin {S : Type} (d : Nat) (M : xM) (mc ms : Nat) (as : Nat → List Value) (x : yC → Nat → Nat × va_E) (w : yC → Nat → S → va_W) : Prop := ∀ (l : Launch) (D : va_G) (cs : yC) (h0 sz : Nat), Met l M.1 (.code M.1 M.2.1 M.2.2.1 none :: lw_good) ({ frames := d, cells := mc, slots := ms, locals := 64 * d }) (va_Pc (as h0) (yPre D cs (x cs h0) sz)) (va_Qv (fun _ : S => True) (yPost D (x cs h0) sz (w cs h0)) (va_A [x cs h0] sz)) mc ms (va_A [x cs h0] sz)
def yR {S : Type} (κ : yK) (mc ms : Nat) (x : Nat × va_E) (w : S → va_W) : Prop := match κ with
  | (_, _, _, _, s, _, args, below, _, _, QQ, A, D, _) => QQ = MQ below (va_Qv (fun _ : S => True) (yPost D x s.heap.size w) A) args s mc ms A ∧ A = va_A [x] s.heap.size
theorem Cin_of {S : Type} {d mc ms : Nat} {M : xM} {as : Nat → List Value} {x : yC → Nat → Nat × va_E} {w : yC → Nat → S → va_W} (hpl : plainName M.1.cls = true) (hret : M.2.2.2 = none) (hlen : ∀ h0, (lg_sl (as h0)).length ≤ M.2.2.1) (h : ∀ (κ : yK) (h0 : Nat), Cy κ M d mc ms → yR κ mc ms (x (ycs κ) h0) (w (ycs κ) h0) → Y κ 0 (lv_args 0 (as h0)) [] [x (ycs κ) h0] 0 0) : Cin d M mc ms as x w := by
  intro l D cs h0 sz
  refine Met.ofW (cc := M.2.1) (maxL := M.2.2.1) (ret := none) hpl rfl ?_
  intro p e s m args below meth c s₁ B hml hv
  obtain ⟨rfl, hsz, hP, hK, hD0, hO⟩ := hv
  have hts := atoms_spec (ws := .code M.1 M.2.1 M.2.2.1 none :: lw_good) B.pre
  subst hsz
  have hD := hD0.self (sz := s.heap.size)
  have hX := h (p, l, e, ({ frames := d, cells := mc, slots := ms, locals := 64 * d } : Room), s, m, _, below, meth, c, MQ below (va_Qv (fun _ : S => True) (yPost D (x cs h0) s.heap.size (w cs h0)) (va_A [x cs h0] s.heap.size)) _ s mc ms (va_A [x cs h0] s.heap.size), va_A [x cs h0] s.heap.size, D, cs) h0 ⟨B.exec, B.bytes, hml, B.returns.trans hret.symm, B.notSynchronized, findClass_of_methodNamed B.named, fun w hw => hts w (List.mem_cons_of_mem _ hw), ⟨Nat.le_refl _, Nat.le_refl _, Nat.le_refl _, Nat.le_refl _⟩, hK, hO, fun q hq => Or.inr hq, fun hi => (name_of_methodNamed B.named B.method).1.trans hi⟩ ⟨rfl, rfl⟩
  rw [lg_entry_eq]
  exact hX s.heap [] _ hP hD va_S.rf (by rw [hml]; exact lv_entry (as h0) (n := M.2.2.1) (hlen h0))
section YR2
variable {κ : yK} {M : xM} {d mc ms pc cells slots : Nat} {L : List (Nat × Value)} {S : List Value} {ws : va_W}
theorem Y_vret {Sx : Type} {x : Nat × va_E} {w : Sx → va_W} (C : Cy κ M d mc ms) (Z : yR κ mc ms x w) (hrt : M.2.2.2 = none) (hd : decode M.2.1 pc = .ok (.return_, 1)) (u : Sx) (hs : ws = w u) (hc : cells = mc) (hsl : slots = ms) : Y κ pc L [] ws cells slots := by
  obtain ⟨p, l, e, R, s, m, args, below, meth, c, QQ, A, D, cs⟩ := κ
  obtain ⟨hx, hb, hml, hr, hlk, hown, hts, hR, hK, hO, hA, hnm⟩ := C
  intro H locs ls hP hD hS hl
  obtain ⟨rfl, rfl⟩ := Z
  subst hc hsl hs
  exact W.vret hx hb (hr.trans hrt) (fun t ht hW => ⟨⟨u, rfl, trivial, by rw [ht]; exact hP, hD⟩, hS.F ht⟩) hS.2.2 hd
theorem yPre_blind (D : va_G) (cs : yC) (x : Nat × va_E) (sz : Nat) (as : List Value) : FrameBlind (va_Pc as (yPre D cs x sz)) := by
  intro a U g mk q
  obtain ⟨q0, q1, qP, qK, qD, qO⟩ := q
  exact ⟨q0, q1, qP, va_K.moved (u := U) (U := U.calling g mk a) (Vm.Alike.refl U.vm) qK, qD, va_AOA.moved (u := U) (U := U.calling g mk a) (Vm.Alike.refl U.vm) qO⟩
theorem good_code2 {M' : xM} (h : Cond.code M'.1 M'.2.1 M'.2.2.1 none ∈ lw_good) : GoodIn lw_good (.code M'.1 M'.2.1 M'.2.2.1 none :: lw_good) := by
  intro w hw
  rcases List.mem_cons.mp hw with e | e
  · subst e
    exact ⟨h, Or.inl rfl⟩
  · exact ⟨e, good_of_word (List.mem_filter.mp e).2⟩
/-- new C; dup; C.<init>() -/
theorem Y_make {Sx : Type} {M' : xM} {i1 i2 ci N mcC msC : Nat} {T : u_T} {ty : Nat → FieldType} {fs : List Value} {w : yC → Nat → Sx → va_W} (C : Cy κ M (d + 1) mc ms) (hM : Cin d M' mcC msC (fun h0 => [.ref h0]) (fun _ h0 => (h0, .inr (ci, fs))) w) (hci : vwCl[ci]? = some (M'.1.cls, T, N)) (hin : ∀ w ∈ u_ws M'.1.cls T N, w ∈ lw_good) (hty : ∀ k, k < N → parseFieldDescriptor (T k).2.2.1 = some (ty k)) (hfs : ∀ j, j < N → defaultValue (ty j) = vp_V fs j) (w1 : Cond.classLink M.1.cls i1 M'.1.cls ∈ lw_good) (w2 : Cond.instantiable M'.1.cls N ∈ lw_good) (w3 : Cond.initialized M'.1.cls ∈ lw_good) (w4 : Cond.methodLink M.1.cls i2 M'.1 ∈ lw_good) (w5 : Cond.instanceMethod M'.1 ∈ lw_good) (w6 : Cond.code M'.1 M'.2.1 M'.2.2.1 none ∈ lw_good) (hyn : M'.1.name = "<init>") (hyd : M'.1.cls ≠ "java/lang/invoke/MethodHandle" ∧ M'.1.cls ≠ "java/lang/invoke/VarHandle" ∧ (parseMethodDescriptor M'.1.desc).map (fun d => d.parameters.length) = some 0) (hml' : M'.2.2.1 ≤ 45) (hc : cells + 1 + mcC ≤ mc) (hsl : slots + N + msC ≤ ms) (hcat : ((Value.ref 0 :: S).map fun v => v.category).sum ≤ 8)
    (hd1 : decode M.2.1 pc = .ok (.new i1, 3)) (hd2 : decode M.2.1 (pc + 3) = .ok (.dup, 1)) (hd3 : decode M.2.1 (pc + 4) = .ok (.invokespecial i2, 3)) (kk : ∀ (q : Nat) (u : Sx), Y κ (pc + 7) L (.ref q :: S) (ws ++ w (ycs κ) q u) (cells + 1 + mcC) (slots + N + msC)) : Y κ pc L S ws cells slots := by
  obtain ⟨p, l, e, R, s, m, args, below, meth, c, QQ, A, D, cs⟩ := κ
  obtain ⟨hx, hb, hml, hr, hlk, hown, hts, hR, hK, hO, hA, hnm⟩ := C
  intro H locs ls hP hD hS hl
  refine va_new (ci := ci) (fs := fs) (C := M'.1.cls) (T := T) (N := N) hx hb hts hin ty hty hown (hts _ w1) (hts _ w2) (hts _ w3) hK hP hD hS hA hci hfs (by have := hR.2.2.1; omega) (by have := hR.2.2.2; omega) hd1 (fun q H1 hP1 hD1 hS1 => ?_)
  refine lv_dup hx hb hd2 rfl ?_
  have hF := y_free hD1 hS1 hA
  have cw := cwI (R := R) (rm := { frames := d, cells := mcC, slots := msC, locals := 64 * d }) (mc := mcC) (ms := msC) 0 hts (good_code2 w6) rfl rfl rfl (hts _ w3) (hts _ w4) (hts _ w5) hyn hyd ⟨hR.1, by have := hR.2.1; show 8 + (M'.2.2.1 + 11) + 64 * d ≤ R.locals; omega⟩
  refine va_callv (va_runI (As := []) (b := q) (rest := .ref q :: S) ⟨hx, hb, rfl, hown, hts⟩ (hM l D cs q H1.size) cw ⟨yPre_blind D cs _ _ _, fun U hU hW => ⟨rfl, by rw [hU], by rw [hU]; exact y_last hP1, va_K.moved hW.alike hK, (y_lastD hD1).weaken (fun _ _ _ _ => trivial), va_AOA.moved hW.alike hO⟩⟩ rfl rfl hl.1 rfl (lv_room hcat) hd3 ⟨by have := hR.2.2.1; omega, by have := hR.2.2.2; omega⟩) hS1 (fun q' _ h => hF q' h) hF (fun u t H2 locs2 ht hvm _ hB hz2 hk2 hS2 => ?_)
  obtain ⟨hP2, hD2⟩ := hB
  rw [ht] at hP2
  obtain ⟨hP3, hD3⟩ := y_join hP1 hD1 hk2 hF hP2 hD2
  exact kk q u H2 locs2 ls hP3 hD3 hS2 hl
/-- a static call that works on the last cell -/
theorem Y_stat {Sx : Type} {M' : xM} {i2 mcC msC : Nat} {as : List Value} {x : Nat × va_E} {w : Sx → va_W} (C : Cy κ M (d + 1) mc ms) (hM : ∀ (l : Launch) (D : va_G) (sz : Nat), Met l M'.1 (.code M'.1 M'.2.1 M'.2.2.1 none :: lw_good) ({ frames := d, cells := mcC, slots := msC, locals := 64 * d }) (va_Pc as (yPre D (ycs κ) x sz)) (va_Qv (fun _ : Sx => True) (yPost D x sz w) (va_A [x] sz)) mcC msC (va_A [x] sz)) (w3 : Cond.initialized M'.1.cls ∈ lw_good) (w4 : Cond.methodLink M.1.cls i2 M'.1 ∈ lw_good) (w5 : Cond.static M'.1 ∈ lw_good) (w6 : Cond.code M'.1 M'.2.1 M'.2.2.1 none ∈ lw_good) (hyd : M'.1.cls ≠ "java/lang/invoke/MethodHandle" ∧ M'.1.cls ≠ "java/lang/invoke/VarHandle" ∧ (parseMethodDescriptor M'.1.desc).map (fun d => d.parameters.length) = some as.length) (hml' : M'.2.2.1 ≤ 45) (hc : cells + mcC ≤ mc) (hsl : slots + msC ≤ ms) (hcat : (S.map fun v => v.category).sum ≤ 8)
    (hd3 : decode M.2.1 pc = .ok (.invokestatic i2, 3)) (kk : ∀ (u : Sx), Y κ (pc + 3) L S (ws ++ w u) (cells + mcC) (slots + msC)) : Y κ pc L (as.reverse ++ S) (ws ++ [x]) cells slots := by
  obtain ⟨p, l, e, R, s, m, args, below, meth, c, QQ, A, D, cs⟩ := κ
  obtain ⟨hx, hb, hml, hr, hlk, hown, hts, hR, hK, hO, hA, hnm⟩ := C
  intro H1 locs ls hP1 hD1 hS1 hl
  have hF := y_free hD1 hS1 hA
  have cw : CallB R s args M.1.cls i2 M'.1 M'.2.1 M'.2.2.1 none (.code M'.1 M'.2.1 M'.2.2.1 none :: lw_good) ({ frames := d, cells := mcC, slots := msC, locals := 64 * d }) mcC msC as.length := callB_of as.length hts (good_code2 w6) rfl rfl rfl (hts _ w3) (hts _ w4) hyd ⟨hR.1, by have := hR.2.1; show 8 + (M'.2.2.1 + 11) + 64 * d ≤ R.locals; omega⟩
  refine va_callv (va_runS (As := as) (rest := S) ⟨hx, hb, rfl, hown, hts⟩ (hM l D H1.size) ⟨cw, hts _ w5⟩ ⟨yPre_blind D cs _ _ _, fun U hU hW => ⟨rfl, by rw [hU], by rw [hU]; exact y_last hP1, va_K.moved hW.alike hK, (y_lastD hD1).weaken (fun _ _ _ _ => trivial), va_AOA.moved hW.alike hO⟩⟩ rfl rfl hl.1 rfl (lv_room hcat) hd3 ⟨by have := hR.2.2.1; omega, by have := hR.2.2.2; omega⟩) hS1 (fun q' _ h => hF q' h) hF (fun u t H2 locs2 ht hvm _ hB hz2 hk2 hS2 => ?_)
  obtain ⟨hP2, hD2⟩ := hB
  rw [ht] at hP2
  obtain ⟨hP3, hD3⟩ := y_join hP1 hD1 hk2 hF hP2 hD2
  exact kk u H2 locs2 ls hP3 hD3 hS2 hl
end YR2
