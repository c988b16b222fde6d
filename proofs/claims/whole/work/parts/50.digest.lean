/-! digest -/
def mx (h : Int64) (v : Int32) : Int64 := (31 * h) + ((v : Int32).toInt64)
def fo (f : Nat → Int32) (h : Int64) : Nat → Int64
  | 0 => h
  | k + 1 => mx (fo f h k) (f k)
theorem fo_s (f : Nat → Int32) (h : Int64) (k : Nat) : (31 * fo f h k) + ((f k : Int32).toInt64) = fo f h (k + 1) := rfl
def abv (hm nz bg : Nat → Nat) (j w : Nat) : Int32 := if w = 0 then nI (tt hm nz j) else if w = 1 then nI (hm j) else if w = 2 then nI (nz j) else nI (bg j)
def gC (hm nz bg : Nat → Nat) (wd : Nat → Nat → Int32) (h : Int64) : Nat → Int64
  | 0 => h
  | c + 1 => fo (wd c) (fo (abv hm nz bg c) (gC hm nz bg wd h c) 4) (tt hm nz c)
def gD (ow : Nat → Nat → Nat) (p : Nat) (h : Int64) : Nat → Int64
  | 0 => h
  | a + 1 => fo (fun b => nI (ow a b)) (gD ow p h a) p
noncomputable def gL (len yr : Nat → Nat) (it : Nat → Nat → Int32) (q : Nat) (h : Int64) : Nat → Int64
  | 0 => h
  | l + 1 => mx (fo (fun w => li len yr it l (nI w)) (gL len yr it q h l) 5) (em (mo len yr it q l))
section DGC
variable {st st0 : xSt} {n : Nat} {hm nz bg : Nat → Nat} {wd : Nat → Nat → Int32} {d j w : Nat} {P : Int32 → xSt → Prop} {κ : xK} {Q : Option Value → xSt → Prop}
theorem sX6_aboutv (K : RelC st n hm nz bg wd) (hj : j < n) (hw : w < 4) (hp : P (abv hm nz bg j w) st) : Ct (d + 2) M_X6_about [.ref 0, .int (nI j), .int (nI w)] st (Qi P) := by
  refine eX6_about _ _ _ (sX0_has_in K hj (g1 ?_))
  rw [nI_toInt (by omega)]
  have : w = 0 ∨ w = 1 ∨ w = 2 ∨ w = 3 := by omega
  rcases this with rfl | rfl | rfl | rfl
  · exact ⟨fun e => by omega, fun _ => sX0_places K hj (qi hp), fun e => by omega, fun e => by omega, fun e => by omega⟩
  · exact ⟨fun e => by omega, fun e => by omega, fun _ => sX0_halfOf K hj (qi hp), fun e => by omega, fun e => by omega⟩
  · exact ⟨fun e => by omega, fun e => by omega, fun e => by omega, fun _ => sX0_noseOf K hj (qi hp), fun e => by omega⟩
  · exact ⟨fun e => by omega, fun e => by omega, fun e => by omega, fun e => by omega, fun _ => sX0_firstHand K hj (qi hp)⟩
theorem sX7_aboutv (K : RelC st n hm nz bg wd) (hj : j < n) (hw : w < 4) (hp : P (abv hm nz bg j w) st) : Ct (d + 1) M_X7_aboutOf [.ref 7, .int (nI j), .int (nI w)] st (Qi P) := by
  have h6 := K.1
  have hb := (K.2.2.2.1 j hj).1
  have hc := (K.2.2.2.1 j hj).2.2.1
  refine eX7_aboutOf _ _ _ ?_
  rw [nI_toInt (by omega), nI_clamp (n := j) (by omega), hc.1, hc.2.1, hc.2.2]
  have : w = 0 ∨ w = 1 ∨ w = 2 ∨ w = 3 := by omega
  rcases this with rfl | rfl | rfl | rfl
  · exact ⟨fun e => by omega, fun _ => sX7_totalOf K hj (qi hp), fun e => by omega, fun e => by omega, fun e => by omega⟩
  · exact ⟨fun e => by omega, fun e => by omega, fun _ => ⟨pk_in j 6 (by omega), qi hp⟩, fun e => by omega, fun e => by omega⟩
  · refine ⟨fun e => by omega, fun e => by omega, fun e => by omega, fun _ => ⟨pk_in j 6 (by omega), pk_eq (nz j) 0 (fun e => qi ?_) (fun e => qi ?_)⟩, fun e => by omega⟩
    · have hp2 : P (nI (nz j)) st := hp
      rw [e] at hp2
      exact hp2
    · have hp2 : P (nI (nz j)) st := hp
      rw [show nz j = 1 by omega] at hp2
      exact hp2
  · exact ⟨fun e => by omega, fun e => by omega, fun e => by omega, fun e => by omega, fun _ => ⟨pk_in j 6 (by omega), qi hp⟩⟩
theorem lX6_dc51 {h : Int64} (C : Cx κ M_X6_digestCounts (d + 3)) (Z : xR κ Q) (K : RelC st n hm nz bg wd) (hj : j < n) (k5 : X κ 5 [(0, .ref 0), (3, .long (fo (wd j) h (tt hm nz j))), (5, .int (nI (j + 1)))] [] st) : ∀ (f k : Nat), k + f = tt hm nz j → X κ 51 [(0, .ref 0), (3, .long (fo (wd j) h k)), (5, .int (nI j)), (6, .int (nI (k + 1)))] [] st
  | 0, k, e => by
    have ht := K.tb hj
    have ek : k = tt hm nz j := by omega
    rw [ek]
    refine bX6_digestCounts_51 C Z _ _ _ _ (sX0_places K hj (brT (nI_lt (by omega) (by omega)) ?_))
    rw [nI_1]
    exact k5
  | f + 1, k, e => by
    have ht := K.tb hj
    refine bX6_digestCounts_51 C Z _ _ _ _ (sX0_places K hj (brF (nI_nlt (by omega) (by omega)) (sX0_wordAt K hj (by omega) ?_)))
    rw [nI_1, fo_s]
    exact lX6_dc51 C Z K hj k5 f (k + 1) (by omega)
theorem lX6_dc20 {h : Int64} (C : Cx κ M_X6_digestCounts (d + 3)) (Z : xR κ Q) (K : RelC st n hm nz bg wd) (hj : j < n) (k51 : X κ 51 [(0, .ref 0), (3, .long (fo (abv hm nz bg j) h 4)), (5, .int (nI j)), (6, .int 1)] [] st) : ∀ (f w : Nat), w + f = 4 → X κ 20 [(0, .ref 0), (3, .long (fo (abv hm nz bg j) h w)), (5, .int (nI j)), (6, .int (nI w))] [] st
  | 0, w, e => by
    have ew : w = 4 := by omega
    rw [ew]
    exact bX6_digestCounts_20 C Z _ _ _ _ (brT (by decide) k51)
  | f + 1, w, e => by
    refine bX6_digestCounts_20 C Z _ _ _ _ (brF (nI_nlt (a := 3) (by omega) (by omega)) (sX6_aboutv K hj (by omega) ?_))
    rw [nI_1, fo_s]
    exact lX6_dc20 C Z K hj k51 f (w + 1) (by omega)
theorem lX6_dc5 {h : Int64} (C : Cx κ M_X6_digestCounts (d + 3)) (Z : xR κ Q) (K : RelC st n hm nz bg wd) (hq : Q (some (.long (gC hm nz bg wd h n))) st) : ∀ (f c : Nat), c + f = n → X κ 5 [(0, .ref 0), (3, .long (gC hm nz bg wd h c)), (5, .int (nI c))] [] st
  | 0, c, e => by
    have h6 := K.1
    have ec : c = n := by omega
    rw [ec]
    refine bX6_digestCounts_5 C Z _ _ _ (eX0_size _ (qi ?_))
    rw [K.2.1]
    exact brT (nI_le (by omega) (by omega)) hq
  | f + 1, c, e => by
    have h6 := K.1
    refine bX6_digestCounts_5 C Z _ _ _ (eX0_size _ (qi ?_))
    rw [K.2.1]
    exact brF (nI_ge (by omega) (by omega)) (lX6_dc20 C Z K (by omega) (lX6_dc51 C Z K (by omega) (lX6_dc5 C Z K hq f (c + 1) (by omega)) (tt hm nz c) 0 (by omega)) 4 0 (by omega))
theorem sX6_digestCounts {P : Int64 → xSt → Prop} {h : Int64} (K : RelC st n hm nz bg wd) (hp : P (gC hm nz bg wd h n) st) : Ct (d + 3) M_X6_digestCounts [.ref 0, .long h] st (Ql P) := eX6_digestCounts _ _ (fun κ C Z => lX6_dc5 C Z K (ql hp) n 0 (by omega))
theorem lX7_d74 {h : Int64} (C : Cx κ M_X7_digest (d + 2)) (Z : xR κ Q) (K : RelC st n hm nz bg wd) (hj : j < n) (k5 : X κ 33 [(0, .ref 7), (1, .long (fo (wd j) h (tt hm nz j))), (3, .int (nI (j + 1)))] [] st) : ∀ (f k : Nat), k + f = tt hm nz j → X κ 74 [(0, .ref 7), (1, .long (fo (wd j) h k)), (3, .int (nI j)), (4, .int (nI (k + 1)))] [] st
  | 0, k, e => by
    have ht := K.tb hj
    have ek : k = tt hm nz j := by omega
    rw [ek]
    refine bX7_digest_74 C Z _ _ _ _ (sX7_totalOf K hj (brT (nI_lt (by omega) (by omega)) ?_))
    rw [nI_1]
    exact k5
  | f + 1, k, e => by
    have ht := K.tb hj
    refine bX7_digest_74 C Z _ _ _ _ (sX7_totalOf K hj (brF (nI_nlt (by omega) (by omega)) (sX7_wordOf K hj (by omega) ?_)))
    rw [nI_1, fo_s]
    exact lX7_d74 C Z K hj k5 f (k + 1) (by omega)
theorem lX7_d44 {h : Int64} (C : Cx κ M_X7_digest (d + 2)) (Z : xR κ Q) (K : RelC st n hm nz bg wd) (hj : j < n) (k51 : X κ 74 [(0, .ref 7), (1, .long (fo (abv hm nz bg j) h 4)), (3, .int (nI j)), (4, .int 1)] [] st) : ∀ (f w : Nat), w + f = 4 → X κ 44 [(0, .ref 7), (1, .long (fo (abv hm nz bg j) h w)), (3, .int (nI j)), (4, .int (nI w))] [] st
  | 0, w, e => by
    have ew : w = 4 := by omega
    rw [ew]
    exact bX7_digest_44 C Z _ _ _ _ (brT (by decide) k51)
  | f + 1, w, e => by
    refine bX7_digest_44 C Z _ _ _ _ (brF (nI_ge (b := 4) (by omega) (by omega)) (sX7_aboutv K hj (by omega) ?_))
    rw [nI_1, fo_s]
    exact lX7_d44 C Z K hj k51 f (w + 1) (by omega)
theorem lX7_d33 {h : Int64} (C : Cx κ M_X7_digest (d + 2)) (Z : xR κ Q) (K : RelC st n hm nz bg wd) (hq : Ct (d + 1) M_X7_solutionsNow [.ref 7] st (Qi fun v2 s1 => X κ 125 [(0, .ref 7), (1, .long ((31 * gC hm nz bg wd h n) + ((v2 : Int32).toInt64))), (3, .int 0)] [] s1)) : ∀ (f c : Nat), c + f = n → X κ 33 [(0, .ref 7), (1, .long (gC hm nz bg wd h c)), (3, .int (nI c))] [] st
  | 0, c, e => by
    have h6 := K.1
    have ec : c = n := by omega
    rw [ec]
    refine bX7_digest_33 C Z _ _ _ ?_
    rw [K.2.2.1]
    exact brT (nI_le (by omega) (by omega)) hq
  | f + 1, c, e => by
    have h6 := K.1
    refine bX7_digest_33 C Z _ _ _ ?_
    rw [K.2.2.1]
    exact brF (nI_ge (by omega) (by omega)) (lX7_d44 C Z K (by omega) (lX7_d74 C Z K (by omega) (lX7_d33 C Z K hq f (c + 1) (by omega)) (tt hm nz c) 0 (by omega)) 4 0 (by omega))
end DGC
section DGD
variable {st st0 : xSt} {n p : Nat} {wy : Nat → Nat} {ow : Nat → Nat → Nat} {d a : Nat} {κ : xK} {Q : Option Value → xSt → Prop}
theorem lX6_dd20 {h : Int64} (C : Cx κ M_X6_digestDebts (d + 2)) (Z : xR κ Q) (K : RelD st n p wy ow) (ha : a < p) (k5 : X κ 5 [(0, .ref 0), (3, .long (fo (fun b => nI (ow a b)) h p)), (5, .int (nI (a + 1)))] [] st) : ∀ (f b : Nat), b + f = p → X κ 20 [(0, .ref 0), (3, .long (fo (fun b => nI (ow a b)) h b)), (5, .int (nI a)), (6, .int (nI b))] [] st
  | 0, b, e => by
    have h8 := K.1
    have eb : b = p := by omega
    rw [eb]
    refine bX6_digestDebts_20 C Z _ _ _ _ (eX1_size _ (qi ?_))
    rw [K.2.1.1, nI_1]
    exact brT (nI_le (by omega) (by omega)) k5
  | f + 1, b, e => by
    have h8 := K.1
    refine bX6_digestDebts_20 C Z _ _ _ _ (eX1_size _ (qi ?_))
    rw [K.2.1.1]
    refine brF (nI_ge (by omega) (by omega)) (sX1_left K ha (by omega) ?_)
    rw [nI_1]
    exact lX6_dd20 C Z K ha k5 f (b + 1) (by omega)
theorem lX6_dd5 {h : Int64} (C : Cx κ M_X6_digestDebts (d + 2)) (Z : xR κ Q) (K : RelD st n p wy ow) (hq : Q (some (.long (gD ow p h p))) st) : ∀ (f a : Nat), a + f = p → X κ 5 [(0, .ref 0), (3, .long (gD ow p h a)), (5, .int (nI a))] [] st
  | 0, a, e => by
    have h8 := K.1
    have ea : a = p := by omega
    rw [ea]
    refine bX6_digestDebts_5 C Z _ _ _ (eX1_size _ (qi ?_))
    rw [K.2.1.1]
    exact brT (nI_le (by omega) (by omega)) hq
  | f + 1, a, e => by
    have h8 := K.1
    refine bX6_digestDebts_5 C Z _ _ _ (eX1_size _ (qi ?_))
    rw [K.2.1.1]
    exact brF (nI_ge (by omega) (by omega)) (lX6_dd20 C Z K (by omega) (lX6_dd5 C Z K hq f (a + 1) (by omega)) p 0 (by omega))
theorem sX6_digestDebts {P : Int64 → xSt → Prop} {h : Int64} (K : RelD st n p wy ow) (hp : P (gD ow p h p) st) : Ct (d + 2) M_X6_digestDebts [.ref 0, .long h] st (Ql P) := eX6_digestDebts _ _ (fun κ C Z => lX6_dd5 C Z K (ql hp) p 0 (by omega))
theorem lX7_d136 {h : Int64} (C : Cx κ M_X7_digest (d + 2)) (Z : xR κ Q) (K : RelD st n p wy ow) (ha : a < p) (k5 : X κ 125 [(0, .ref 7), (1, .long (fo (fun b => nI (ow a b)) h p)), (3, .int (nI (a + 1)))] [] st) : ∀ (f b : Nat), b + f = p → X κ 136 [(0, .ref 7), (1, .long (fo (fun b => nI (ow a b)) h b)), (3, .int (nI a)), (4, .int (nI b))] [] st
  | 0, b, e => by
    have h8 := K.1
    have eb : b = p := by omega
    rw [eb]
    refine bX7_digest_136 C Z _ _ _ _ ?_
    rw [K.2.1.2, nI_1]
    exact brT (nI_le (by omega) (by omega)) k5
  | f + 1, b, e => by
    have h8 := K.1
    refine bX7_digest_136 C Z _ _ _ _ ?_
    rw [K.2.1.2]
    refine brF (nI_ge (by omega) (by omega)) (sX7_owedBy K (by omega) (by omega) ?_)
    rw [nI_1]
    exact lX7_d136 C Z K ha k5 f (b + 1) (by omega)
theorem lX7_d125 {h : Int64} (C : Cx κ M_X7_digest (d + 2)) (Z : xR κ Q) (K : RelD st n p wy ow) (hq : X κ 174 [(0, .ref 7), (1, .long (gD ow p h p)), (3, .int 0)] [] st) : ∀ (f a : Nat), a + f = p → X κ 125 [(0, .ref 7), (1, .long (gD ow p h a)), (3, .int (nI a))] [] st
  | 0, a, e => by
    have h8 := K.1
    have ea : a = p := by omega
    rw [ea]
    refine bX7_digest_125 C Z _ _ _ ?_
    rw [K.2.1.2]
    exact brT (nI_le (by omega) (by omega)) hq
  | f + 1, a, e => by
    have h8 := K.1
    refine bX7_digest_125 C Z _ _ _ ?_
    rw [K.2.1.2]
    exact brF (nI_ge (by omega) (by omega)) (lX7_d136 C Z K (by omega) (lX7_d125 C Z K hq f (a + 1) (by omega)) p 0 (by omega))
end DGD
section DGL
variable {st st0 : xSt} {q : Nat} {len yr : Nat → Nat} {it : Nat → Nat → Int32} {d l : Nat} {κ : xK} {Q : Option Value → xSt → Prop}
theorem lX6_dl20 {h : Int64} (C : Cx κ M_X6_digestLists (d + 6)) (Z : xR κ Q) (K0 : RelL st0 q len yr it) (hl : l < q) (k5 : ∀ st', Sm st0 st' → X κ 5 [(0, .ref 0), (3, .long (mx (fo (fun w => li len yr it l (nI w)) h 5) (em (mo len yr it q l)))), (5, .int (nI (l + 1)))] [] st') (hs : Sm st0 st) : ∀ (f w : Nat), w + f = 5 → X κ 20 [(0, .ref 0), (3, .long (fo (fun w => li len yr it l (nI w)) h w)), (5, .int (nI l)), (6, .int (nI w))] [] st
  | 0, w, e => by
    have ew : w = 5 := by omega
    rw [ew]
    refine bX6_digestLists_20 C Z _ _ _ _ (brT (by decide) (sX2_motherOf (K0.sm hs) hl (fun st' ho => ?_)))
    rw [nI_1]
    exact k5 st' (hs.trans (ho.sm c25))
  | f + 1, w, e => by
    refine bX6_digestLists_20 C Z _ _ _ _ (brF (nI_nlt (a := 4) (by omega) (by omega)) (sX6_listIs (K0.sm hs) hl ?_))
    rw [nI_1]
    exact lX6_dl20 C Z K0 hl k5 hs f (w + 1) (by omega)
theorem lX6_dl5 {h : Int64} (C : Cx κ M_X6_digestLists (d + 6)) (Z : xR κ Q) (K0 : RelL st0 q len yr it) (hq : ∀ st', Sm st0 st' → Q (some (.long (gL len yr it q h q))) st') : ∀ (f l : Nat) (st : xSt), l + f = q → Sm st0 st → X κ 5 [(0, .ref 0), (3, .long (gL len yr it q h l)), (5, .int (nI l))] [] st
  | 0, l, st, e, hs => by
    have h8 := K0.1
    have el : l = q := by omega
    rw [el]
    refine bX6_digestLists_5 C Z _ _ _ (eX2_size _ (qi ?_))
    rw [(K0.sm hs).2.1.1]
    exact brT (nI_le (by omega) (by omega)) (hq st hs)
  | f + 1, l, st, e, hs => by
    have h8 := K0.1
    refine bX6_digestLists_5 C Z _ _ _ (eX2_size _ (qi ?_))
    rw [(K0.sm hs).2.1.1]
    exact brF (nI_ge (by omega) (by omega)) (lX6_dl20 C Z K0 (by omega) (fun st' hs' => lX6_dl5 C Z K0 hq f (l + 1) st' (by omega) hs') hs 5 0 (by omega))
theorem sX6_digestLists {P : Int64 → xSt → Prop} {h : Int64} (K0 : RelL st0 q len yr it) (hs : Sm st0 st) (hp : ∀ st', Sm st0 st' → P (gL len yr it q h q) st') : Ct (d + 6) M_X6_digestLists [.ref 0, .long h] st (Ql P) := eX6_digestLists _ _ (fun κ C Z => lX6_dl5 C Z K0 (fun st' hs' => ql (hp st' hs')) q 0 st (by omega) hs)
theorem lX7_d185 {h : Int64} (C : Cx κ M_X7_digest (d + 2)) (Z : xR κ Q) (K0 : RelL st0 q len yr it) (hl : l < q) (k5 : ∀ st', Sm st0 st' → X κ 174 [(0, .ref 7), (1, .long (mx (fo (fun w => li len yr it l (nI w)) h 5) (em (mo len yr it q l)))), (3, .int (nI (l + 1)))] [] st') (hs : Sm st0 st) : ∀ (f w : Nat), w + f = 5 → X κ 185 [(0, .ref 7), (1, .long (fo (fun w => li len yr it l (nI w)) h w)), (3, .int (nI l)), (4, .int (nI w))] [] st
  | 0, w, e => by
    have ew : w = 5 := by omega
    rw [ew]
    refine bX7_digest_185 C Z _ _ _ _ (brT (by decide) (sX7_motherOf (K0.sm hs) hl (fun st' ho => ?_)))
    rw [nI_1]
    exact k5 st' (hs.trans (ho.sm c41))
  | f + 1, w, e => by
    refine bX7_digest_185 C Z _ _ _ _ (brF (nI_ge (b := 5) (by omega) (by omega)) (sX7_listOf (K0.sm hs) hl ?_))
    rw [nI_1]
    exact lX7_d185 C Z K0 hl k5 hs f (w + 1) (by omega)
theorem lX7_d174 {h : Int64} (C : Cx κ M_X7_digest (d + 2)) (Z : xR κ Q) (K0 : RelL st0 q len yr it) (hq : ∀ st', Sm st0 st' → Q (some (.long (gL len yr it q h q))) st') : ∀ (f l : Nat) (st : xSt), l + f = q → Sm st0 st → X κ 174 [(0, .ref 7), (1, .long (gL len yr it q h l)), (3, .int (nI l))] [] st
  | 0, l, st, e, hs => by
    have h8 := K0.1
    have el : l = q := by omega
    rw [el]
    refine bX7_digest_174 C Z _ _ _ ?_
    rw [(K0.sm hs).2.1.2]
    exact brT (nI_le (by omega) (by omega)) (hq st hs)
  | f + 1, l, st, e, hs => by
    have h8 := K0.1
    refine bX7_digest_174 C Z _ _ _ ?_
    rw [(K0.sm hs).2.1.2]
    exact brF (nI_ge (by omega) (by omega)) (lX7_d185 C Z K0 (by omega) (fun st' hs' => lX7_d174 C Z K0 hq f (l + 1) st' (by omega) hs') hs 5 0 (by omega))
end DGL
section DG
variable {κ : xK} {Q : Option Value → xSt → Prop} {st0 st : xSt} {cv : Nat → Int32} {d : Nat}
theorem lX6_d6 {h : Int64} (C : Cx κ M_X6_digest (d + 6)) (hcv : ∀ w P, w < 8 → P (cv w) st → Ct (d + 5) M_X6_count [.ref 0, .int (nI w)] st (Qi P)) (k : X κ 6 [(0, .ref 0), (1, .long (fo cv h 8)), (3, .int (nI 8))] [] st) (Z : xR κ Q) : ∀ (f w : Nat), w + f = 8 → X κ 6 [(0, .ref 0), (1, .long (fo cv h w)), (3, .int (nI w))] [] st
  | 0, w, e => by
    have ew : w = 8 := by omega
    rw [ew]
    exact k
  | f + 1, w, e => by
    refine bX6_digest_6 C Z _ _ _ (brF (nI_nlt (a := 7) (by omega) (by omega)) (hcv w _ (by omega) ?_))
    rw [nI_1, fo_s]
    exact lX6_d6 C hcv k Z f (w + 1) (by omega)
theorem lX7_d6 {h : Int64} (C : Cx κ M_X7_digest (d + 6)) (hcv : ∀ w P, w < 8 → P (cv w) st → Ct (d + 5) M_X7_count [.ref 7, .int (nI w)] st (Qi P)) (k : X κ 33 [(0, .ref 7), (1, .long (fo cv h 8)), (3, .int 0)] [] st) (Z : xR κ Q) : ∀ (f w : Nat), w + f = 8 → X κ 6 [(0, .ref 7), (1, .long (fo cv h w)), (3, .int (nI w))] [] st
  | 0, w, e => by
    have ew : w = 8 := by omega
    rw [ew]
    exact bX7_digest_6 C Z _ _ _ (brT (by decide) k)
  | f + 1, w, e => by
    refine bX7_digest_6 C Z _ _ _ (brF (nI_ge (b := 8) (by omega) (by omega)) (hcv w _ (by omega) ?_))
    rw [nI_1, fo_s]
    exact lX7_d6 C hcv k Z f (w + 1) (by omega)
end DG
theorem RelD.sm {st st' : xSt} {n p : Nat} {wy : Nat → Nat} {ow : Nat → Nat → Nat} (K : RelD st n p wy ow) (h : Sm st st') : RelD st' n p wy ow := K.congr (fun p k g => h p k (by simp [g]))
theorem g_digest {st : xSt} (hR : RR st) {P : Int64 → Int64 → xSt → Prop} (hp : ∀ v st', RR st' → P v v st') : Ct 60 M_X6_digest [.ref 0] st (Ql fun v s => Ct 60 M_X7_digest [.ref 7] s (Ql fun w s2 => P v w s2)) := by
  obtain ⟨n, ⟨hm, nz, bg, wd, KC⟩, -, ⟨q, mt, KR⟩, ⟨p, wy, ow, KD⟩, ⟨ql', len, yr, it, KL⟩, -⟩ := id hR
  have hc := fun w : Nat => Classical.choose_spec (count_v hR (nI w))
  generalize hcv : (fun w : Nat => Classical.choose (count_v hR (nI w))) = cv
  have hcw : ∀ w, Classical.choose (count_v hR (nI w)) = cv w := fun w => congrFun hcv w
  simp only [hcw] at hc
  refine eX6_digest _ (fun κ C Z => lX6_d6 (d := 54) (cv := cv) C (fun w P _ h => ((hc w st Sm.rfl).1 54 P h)) ?_ Z 8 0 (by omega))
  refine bX6_digest_6 C Z _ _ _ (brT (by decide) (sX6_digestCounts KC (sX3_howMany (d := 53) KC KR Sm.rfl (fun s1 h1 => sX6_digestDebts (KD.sm h1) (sX6_digestLists (d := 53) KL h1 (fun s2 h2 => ql ?_))))))
  refine eX7_digest _ (fun κ C Z => lX7_d6 (d := 54) (cv := cv) C (fun w P _ h => ((hc w s2 h2).2 54 P h)) ?_ Z 8 0 (by omega))
  refine lX7_d33 (d := 58) C Z (KC.sm h2) ?_ n 0 (by omega)
  refine sX7_solNow (d := 53) KC KR h2 (fun s3 h3 => ?_)
  refine lX7_d125 (d := 58) C Z (KD.sm h3) ?_ p 0 (by omega)
  exact lX7_d174 (d := 58) C Z KL (fun s4 h4 => ql (hp _ _ (hR.sm h4))) ql' 0 s3 (by omega) h3
