/-- the world behind System.arraycopy of ints -/
def xcp (st : xSt) (q0 q1 sp dp n : Nat) : xSt := (fun q => if q = q1 then va_cpy (st.1 q0) (st.1 q1) sp dp n else st.1 q, st.2)
theorem xcp_at (st : xSt) (q0 q1 sp dp n : Nat) : (xcp st q0 q1 sp dp n).1 q1 = va_cpy (st.1 q0) (st.1 q1) sp dp n := if_pos rfl
theorem xcp_ne (st : xSt) (q0 q1 sp dp n : Nat) : ∀ q, q ≠ q1 → (xcp st q0 q1 sp dp n).1 q = st.1 q ∧ (xcp st q0 q1 sp dp n).2 q = st.2 q := fun _ h => ⟨if_neg h, rfl⟩
def xCC (own : String) (index : Nat) : Prop := Cond.methodLink own index arraycopyName ∈ lw_use ∧ Cond.native arraycopyName ∈ lw_use ∧ Cond.static arraycopyName ∈ lw_use ∧ Cond.initialized "java/lang/System" ∈ lw_use
theorem X_copy {κ : xK} {M : xM} {d pc : Nat} {L : List (Nat × Value)} {S : List Value} {st : xSt} {q0 q1 n0 n1 r0 r1 index : Nat} {sp dp n : Int32} (C : Cx κ M (d + 1)) (hd : decode M.2.1 pc = .ok (.invokestatic index, 3)) (hw : xCC M.1.cls index) (hs0 : xshapes[q0]? = some (.inr (0, n0, r0))) (hs1 : xshapes[q1]? = some (.inr (0, n1, r1))) (h1 : ¬ sp < 0) (h2 : ¬ dp < 0) (h3 : ¬ n < 0) (h4 : sp.toNatClampNeg + n.toNatClampNeg ≤ n0) (h5 : dp.toNatClampNeg + n.toNatClampNeg ≤ n1) (hcat : (S.map fun v => v.category).sum ≤ 8) (kk : X κ (pc + 3) L S (xcp st q0 q1 sp.toNatClampNeg dp.toNatClampNeg n.toNatClampNeg)) : X κ pc L (.int n :: .int dp :: .ref q1 :: .int sp :: .ref q0 :: S) st := by
  obtain ⟨pg, l, e, R, s, m, args, below, meth, c, cells, slots, QQ, A, G⟩ := κ
  obtain ⟨hx, hb, hml, hr, hlk, hown, hts, hR, hK, hD⟩ := C
  intro H locs ls hP hS hl
  obtain ⟨w1, w2, w3, w4⟩ := hw
  refine va_copyi hx hb hl.1.symm hown (hts _ w1) (hts _ w2) (hts _ w3) (hts _ w4) hK hP (xw_D st hD) hS q0 q1 0 0 (xw_get hs0) (xw_get hs1) rfl rfl rfl h1 h2 h3 h4 h5 (fun _ _ => rfl) (by have := hR.1; omega) ?_ hd (fun H1 locs1 hP1 _ hS1 => kk H1 locs1 ls ?_ hS1 hl)
  · have h9 : nativeFrameWords "java/lang/System" "arraycopy" 5 ≤ 30 := by decide +kernel
    have h8 := hR.2.1
    show ((S.map (xv G)).map fun v => v.category).sum + _ ≤ _
    rw [xcats]
    omega
  · rw [← xw_set (G := G) (st := st) hs1 (xcp_ne st q0 q1 sp.toNatClampNeg dp.toNatClampNeg n.toNatClampNeg)]
    have e := xcp_at st q0 q1 sp.toNatClampNeg dp.toNatClampNeg n.toNatClampNeg
    show va_P G.1 vwCl ((xw G st).set q1 (G.2.1 q1, .inl (_, n1, .inl ((xcp st q0 q1 sp.toNatClampNeg dp.toNatClampNeg n.toNatClampNeg).1 q1)))) H1
    rw [e]
    exact hP1
/-- the law's script: Ln ints xs, at place 9999 -/
def xSc (κ : xK) (Ln : Nat) (xs : Nat → Int32) : Prop := match κ with
  | (_, _, _, _, s, _, _, _, _, _, _, _, _, A, G) => va_X (G.2.1 9999) Ln xs s s.heap ∧ G.2.1 9999 < s.heap.size ∧ ¬ A (G.2.1 9999)
theorem X_sld {κ : xK} {M : xM} {d pc : Nat} {L : List (Nat × Value)} {S : List Value} {st : xSt} {Ln : Nat} {xs : Nat → Int32} {i : Int32} (C : Cx κ M d) (SC : xSc κ Ln xs) (hin : vp_in i Ln) (hd : decode M.2.1 pc = .ok (.iaload, 1)) (kk : X κ (pc + 1) L (.int (xs i.toNatClampNeg) :: S) st) : X κ pc L (.int i :: .ref 9999 :: S) st := by
  obtain ⟨pg, l, e, R, s, m, args, below, meth, c, cells, slots, QQ, A, G⟩ := κ
  obtain ⟨hx, hb, hml, hr, hlk, hown, hts, hR, hK, hD⟩ := C
  intro H locs ls hP hS hl
  exact va_sld hx hb SC.1 SC.2.1 SC.2.2 hS hin hd (kk H locs ls hP hS hl)
theorem X_slen {κ : xK} {M : xM} {d pc : Nat} {L : List (Nat × Value)} {S : List Value} {st : xSt} {Ln : Nat} {xs : Nat → Int32} (C : Cx κ M d) (SC : xSc κ Ln xs) (hd : decode M.2.1 pc = .ok (.arraylength, 1)) (kk : X κ (pc + 1) L (.int (nI Ln) :: S) st) : X κ pc L (.ref 9999 :: S) st := by
  obtain ⟨pg, l, e, R, s, m, args, below, meth, c, cells, slots, QQ, A, G⟩ := κ
  obtain ⟨hx, hb, hml, hr, hlk, hown, hts, hR, hK, hD⟩ := C
  intro H locs ls hP hS hl
  exact va_slen hx hb SC.1 SC.2.1 SC.2.2 hS hd (kk H locs ls hP hS hl)
theorem xlook2 {x a b df : Int} {k l : Int} (h1 : ¬ x = k) (h2 : ¬ x = l) : Op.lookupswitch.offset [(k, a), (l, b)] df x = df := by
  simp [Op.lookupswitch.offset, show ¬ k = x from fun q => h1 q.symm, show ¬ l = x from fun q => h2 q.symm]
def imax (x y : Int32) : Int32 := if x < y then y else x
def imin (x y : Int32) : Int32 := if y < x then y else x
def xMM (own : String) (index : Nat) (y : MethodName) (cc : ByteArray) : Prop := Cond.methodLink own index y ∈ lw_use ∧ Cond.static y ∈ lw_use ∧ Cond.initialized "java/lang/Math" ∈ lw_use ∧ Cond.code y cc 2 (some .int) ∈ lw_use
theorem X_mmax {κ : xK} {M : xM} {d pc : Nat} {L : List (Nat × Value)} {S : List Value} {st : xSt} {index : Nat} {x y : Int32} (C : Cx κ M (d + 1)) (hd : decode M.2.1 pc = .ok (.invokestatic index, 3)) (hw : xMM M.1.cls index Lib.Math.max.name Lib.Math.max.code) (hcat : (S.map fun v => v.category).sum ≤ 8) (kk : X κ (pc + 3) L (.int (imax x y) :: S) st) : X κ pc L (.int y :: .int x :: S) st := by
  obtain ⟨pg, l, e, R, s, m, args, below, meth, c, cells, slots, QQ, A, G⟩ := κ
  obtain ⟨hx, hb, hml, hr, hlk, hown, hts, hR, hK, hD⟩ := C
  intro H locs ls hP hS hl
  obtain ⟨w1, w2, w3, w4⟩ := hw
  refine va_mmax hx hb hl.1.symm hown (hts _ w1) (hts _ w2) (hts _ w3) (hts _ w4) (by have := hR.1; omega) ?_ hR.2.2.1 hR.2.2.2 hd (kk H locs ls hP hS hl)
  have h8 := hR.2.1
  show ((S.map (xv G)).map fun v => v.category).sum + 13 ≤ _
  rw [xcats]
  omega
theorem X_mmin {κ : xK} {M : xM} {d pc : Nat} {L : List (Nat × Value)} {S : List Value} {st : xSt} {index : Nat} {x y : Int32} (C : Cx κ M (d + 1)) (hd : decode M.2.1 pc = .ok (.invokestatic index, 3)) (hw : xMM M.1.cls index Lib.Math.min.name Lib.Math.min.code) (hcat : (S.map fun v => v.category).sum ≤ 8) (kk : X κ (pc + 3) L (.int (imin x y) :: S) st) : X κ pc L (.int y :: .int x :: S) st := by
  obtain ⟨pg, l, e, R, s, m, args, below, meth, c, cells, slots, QQ, A, G⟩ := κ
  obtain ⟨hx, hb, hml, hr, hlk, hown, hts, hR, hK, hD⟩ := C
  intro H locs ls hP hS hl
  obtain ⟨w1, w2, w3, w4⟩ := hw
  refine va_mmin hx hb hl.1.symm hown (hts _ w1) (hts _ w2) (hts _ w3) (hts _ w4) (by have := hR.1; omega) ?_ hR.2.2.1 hR.2.2.2 hd (kk H locs ls hP hS hl)
  have h8 := hR.2.1
  show ((S.map (xv G)).map fun v => v.category).sum + 13 ≤ _
  rw [xcats]
  omega
theorem mm_RX1_35 : xMM RX1 35 Lib.Math.max.name Lib.Math.max.code := ⟨use_of (k := 599) (by decide +kernel) rfl, use_of (k := 600) (by decide +kernel) rfl, use_of (k := 88) (by decide +kernel) rfl, use_of (k := 601) (by decide +kernel) rfl⟩
theorem mm_RX1_65 : xMM RX1 65 Lib.Math.min.name Lib.Math.min.code := ⟨use_of (k := 651) (by decide +kernel) rfl, use_of (k := 652) (by decide +kernel) rfl, use_of (k := 88) (by decide +kernel) rfl, use_of (k := 653) (by decide +kernel) rfl⟩
theorem mm_RX2_65 : xMM RX2 65 Lib.Math.min.name Lib.Math.min.code := ⟨use_of (k := 735) (by decide +kernel) rfl, use_of (k := 652) (by decide +kernel) rfl, use_of (k := 88) (by decide +kernel) rfl, use_of (k := 653) (by decide +kernel) rfl⟩
theorem cc_RX2_73 : xCC RX2 73 := ⟨use_of (k := 739) (by decide +kernel) rfl, use_of (k := 741) (by decide +kernel) rfl, use_of (k := 740) (by decide +kernel) rfl, use_of (k := 89) (by decide +kernel) rfl⟩
theorem cc_RX4_59 : xCC RX4 59 := ⟨use_of (k := 960) (by decide +kernel) rfl, use_of (k := 741) (by decide +kernel) rfl, use_of (k := 740) (by decide +kernel) rfl, use_of (k := 89) (by decide +kernel) rfl⟩
theorem mm_RX6_302 : xMM RX6 302 Lib.Math.min.name Lib.Math.min.code := ⟨use_of (k := 965) (by decide +kernel) rfl, use_of (k := 652) (by decide +kernel) rfl, use_of (k := 88) (by decide +kernel) rfl, use_of (k := 653) (by decide +kernel) rfl⟩
