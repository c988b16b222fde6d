/-- list a may bear l; item i of l is unlike both -/
def be (len yr : Nat → Nat) (l a : Nat) : Prop := yr a < yr l ∧ len a = len l
def px (len : Nat → Nat) (it : Nat → Nat → Int32) (l a b i : Nat) : Prop := ¬ iv len it l i = -1 ∧ ¬ iv len it a i = -1 ∧ ¬ iv len it b i = -1 ∧ ¬ iv len it l i = iv len it a i ∧ ¬ iv len it l i = iv len it b i
noncomputable def cost (len : Nat → Nat) (it : Nat → Nat → Int32) (l a b : Nat) : Nat := cn (px len it l a b) (len l)
noncomputable def nxt (len yr : Nat → Nat) (it : Nat → Nat → Int32) (l : Nat) (o : Option (Nat × Nat)) (a b : Nat) : Option (Nat × Nat) := @ite _ (be len yr l a ∧ be len yr l b) (Classical.propDecidable _) (match o with
  | none => some (a, b)
  | some p => if cost len it l a b < cost len it l p.1 p.2 then some (a, b) else some p) o
noncomputable def fI (len yr : Nat → Nat) (it : Nat → Nat → Int32) (l : Nat) : Nat → Nat → Nat → Option (Nat × Nat) → Option (Nat × Nat)
  | 0, _, _, o => o
  | f + 1, a, b, o => fI len yr it l f a (b + 1) (nxt len yr it l o a b)
noncomputable def fO (len yr : Nat → Nat) (it : Nat → Nat → Int32) (l q : Nat) : Nat → Nat → Option (Nat × Nat) → Option (Nat × Nat)
  | 0, _, o => o
  | f + 1, a, o => fO len yr it l q f (a + 1) (fI len yr it l (q - (a + 1)) a (a + 1) o)
def eb (o : Option (Nat × Nat)) : Int32 := match o with
  | none => -1
  | some p => nI (10 * p.1 + p.2)
noncomputable def ec (len : Nat → Nat) (it : Nat → Nat → Int32) (l : Nat) (z : Int32) (o : Option (Nat × Nat)) : Int32 := match o with
  | none => z
  | some p => nI (cost len it l p.1 p.2)
def okp (q : Nat) (o : Option (Nat × Nat)) : Prop := ∀ p, o = some p → p.1 < q ∧ p.2 < q
theorem nxt_no {len yr : Nat → Nat} {it : Nat → Nat → Int32} {l a b : Nat} {o : Option (Nat × Nat)} (h : ¬ (be len yr l a ∧ be len yr l b)) : nxt len yr it l o a b = o := if_neg h
theorem nxt_yes {len yr : Nat → Nat} {it : Nat → Nat → Int32} {l a b : Nat} {o : Option (Nat × Nat)} (h : be len yr l a ∧ be len yr l b) : nxt len yr it l o a b = (match o with
  | none => some (a, b)
  | some p => if cost len it l a b < cost len it l p.1 p.2 then some (a, b) else some p) := if_pos h
theorem fI_no {len yr : Nat → Nat} {it : Nat → Nat → Int32} {l a : Nat} (h : ¬ be len yr l a) : ∀ (f b : Nat) (o : Option (Nat × Nat)), fI len yr it l f a b o = o
  | 0, _, _ => rfl
  | f + 1, b, o => by rw [fI, nxt_no (fun q => h q.1)]; exact fI_no h f (b + 1) o
theorem nxt_ok {len yr : Nat → Nat} {it : Nat → Nat → Int32} {l a b q : Nat} {o : Option (Nat × Nat)} (ho : okp q o) (ha : a < q) (hb : b < q) : okp q (nxt len yr it l o a b) := by
  by_cases h : be len yr l a ∧ be len yr l b
  · rw [nxt_yes h]
    intro p hp
    cases o with
    | none => cases hp; exact ⟨ha, hb⟩
    | some r =>
      simp only at hp
      by_cases hc : cost len it l a b < cost len it l r.1 r.2
      · rw [if_pos hc] at hp; cases hp; exact ⟨ha, hb⟩
      · rw [if_neg hc] at hp; exact ho p hp
  · rw [nxt_no h]
    exact ho
section S30
variable {st : xSt} {q : Nat} {len yr : Nat → Nat} {it : Nat → Nat → Int32} {d l a b : Nat} {P : Int32 → xSt → Prop} {κ : xK} {Q : Option Value → xSt → Prop}
theorem sX2_unlike {x y : Int32} (h1 : (¬ x = -1 ∧ ¬ y = -1 ∧ ¬ x = y) → P 3 st) (h0 : ¬ (¬ x = -1 ∧ ¬ y = -1 ∧ ¬ x = y) → P 0 st) : Ct d M_X2_unlike [.int x, .int y] st (Qi P) := eX2_unlike _ _ _ ⟨fun g => qi (h0 (fun t => t.1 g)), fun g => ⟨fun g2 => qi (h0 (fun t => t.2.1 g2)), fun g2 => ⟨fun g3 => qi (h1 ⟨g, g2, g3⟩), fun g3 => qi (h0 (fun t => t.2.2 g3))⟩⟩⟩
theorem n30 : ¬ (3 : Int32) = 0 := by decide
theorem lX2_unlikeBoth (C : Cx κ M_X2_unlikeBoth (d + 2)) (Z : xR κ Q) (K : RelL st q len yr it) (hl : l < q) (ha : a < q) (hb : b < q) (hq : Q (some (.int (nI (cost len it l a b)))) st) : ∀ (f v : Nat), v + f = len l → X κ 6 [(0, .ref 5), (1, .int (nI l)), (2, .int (nI a)), (3, .int (nI b)), (4, .int (nI (cn (px len it l a b) v))), (5, .int (nI v))] [] st
  | 0, v, e => by
    have k := (K.2.2 l hl).1
    rw [show v = len l by omega]
    exact bX2_unlikeBoth_6 C Z _ _ _ _ _ _ (sX2_lengthOf K hl (brT (nI_le (by omega) (by omega)) hq))
  | f + 1, v, e => by
    have k := (K.2.2 l hl).1
    have ng : ¬ px len it l a b v → X κ 6 [(0, .ref 5), (1, .int (nI l)), (2, .int (nI a)), (3, .int (nI b)), (4, .int (nI (cn (px len it l a b) v))), (5, .int (nI v + 1))] [] st := fun g => by
      simp only [nI_1]
      rw [← cn_no g]
      exact lX2_unlikeBoth C Z K hl ha hb hq f (v + 1) (by omega)
    refine bX2_unlikeBoth_6 C Z _ _ _ _ _ _ (sX2_lengthOf K hl (brF (nI_ge (by omega) (by omega)) (sX2_item K hl (by omega) (sX2_item K ha (by omega) (sX2_unlike (fun g => brF n30 (sX2_item K hb (by omega) (sX2_unlike (fun g2 => brF n30 ?_) (fun g2 => f0 (ng (fun t => g2 ⟨t.1, t.2.2.1, t.2.2.2.2⟩)))))) (fun g => f0 (ng (fun t => g ⟨t.1, t.2.1, t.2.2.2.1⟩))))))))
    simp only [nI_1]
    rw [← cn_yes (p := px len it l a b) ⟨g.1, g.2.1, g2.2.1, g.2.2, g2.2.2⟩]
    exact lX2_unlikeBoth C Z K hl ha hb hq f (v + 1) (by omega)
theorem sX2_unlikeBoth (K : RelL st q len yr it) (hl : l < q) (ha : a < q) (hb : b < q) (hp : P (nI (cost len it l a b)) st) : Ct (d + 2) M_X2_unlikeBoth [.ref 5, .int (nI l), .int (nI a), .int (nI b)] st (Qi P) := eX2_unlikeBoth _ _ _ _ (fun κ C Z => lX2_unlikeBoth C Z K hl ha hb (qi hp) (len l) 0 (by omega))
theorem lX7_strangeTo (C : Cx κ M_X7_strangeTo d) (Z : xR κ Q) (K : RelL st q len yr it) (hl : l < q) (ha : a < q) (hb : b < q) (ea : len a = len l) (eb' : len b = len l) (hq : Q (some (.int (nI (cost len it l a b)))) st) : ∀ (f v : Nat), v + f = len l → X κ 6 [(0, .ref 7), (1, .int (nI l)), (2, .int (nI a)), (3, .int (nI b)), (4, .int (nI (cn (px len it l a b) v))), (5, .int (nI v))] [] st
  | 0, v, e => by
    have h8 := K.1
    have k := K.2.2 l hl
    rw [show v = len l by omega]
    refine bX7_strangeTo_6 C Z _ _ _ _ _ _ ⟨pk_in l 8 (by omega), ?_⟩
    rw [nI_clamp (n := l) (by omega), k.2.1.2.1]
    exact brT (nI_le (by omega) (by omega)) hq
  | f + 1, v, e => by
    have h8 := K.1
    have k := K.2.2 l hl
    have ng : ¬ px len it l a b v → X κ 6 [(0, .ref 7), (1, .int (nI l)), (2, .int (nI a)), (3, .int (nI b)), (4, .int (nI (cn (px len it l a b) v) + 0)), (5, .int (nI v + 1))] [] st := fun g => by
      simp only [nI_1, i_add0]
      rw [← cn_no g]
      exact lX7_strangeTo C Z K hl ha hb ea eb' hq f (v + 1) (by omega)
    refine bX7_strangeTo_6 C Z _ _ _ _ _ _ ⟨pk_in l 8 (by omega), ?_⟩
    rw [nI_clamp (n := l) (by omega), k.2.1.2.1, e30, e30, e30, nI_clamp (n := 30 * l + v) (by omega), nI_clamp (n := 30 * a + v) (by omega), nI_clamp (n := 30 * b + v) (by omega), m40 K hl (by omega), m40 K ha (by omega), m40 K hb (by omega)]
    refine brF (nI_ge (by omega) (by omega)) ⟨pk_in (30 * l + v) 240 (by omega), pk_in (30 * a + v) 240 (by omega), pk_in (30 * b + v) 240 (by omega), fun g => ng (fun t => t.1 g), fun g => ⟨fun g2 => ng (fun t => t.2.1 g2), fun g2 => ⟨fun g3 => ng (fun t => t.2.2.1 g3), fun g3 => ⟨fun g4 => ng (fun t => t.2.2.2.1 g4), fun g4 => ⟨fun g5 => ng (fun t => t.2.2.2.2 g5), fun g5 => ?_⟩⟩⟩⟩⟩
    simp only [nI_1]
    rw [← cn_yes (p := px len it l a b) ⟨g, g2, g3, g4, g5⟩]
    exact lX7_strangeTo C Z K hl ha hb ea eb' hq f (v + 1) (by omega)
theorem sX7_strangeTo (K : RelL st q len yr it) (hl : l < q) (ha : a < q) (hb : b < q) (ea : len a = len l) (eb' : len b = len l) (hp : P (nI (cost len it l a b)) st) : Ct d M_X7_strangeTo [.ref 7, .int (nI l), .int (nI a), .int (nI b)] st (Qi P) := eX7_strangeTo _ _ _ _ (fun κ C Z => lX7_strangeTo C Z K hl ha hb ea eb' (qi hp) (len l) 0 (by omega))
theorem sX2_couldBeOfTwo (K : RelL st q len yr it) (hl : l < q) (ha : a < q) (h1 : be len yr l a → P 1 st) (h0 : ¬ be len yr l a → P 0 st) : Ct (d + 2) M_X2_couldBeOfTwo [.ref 5, .int (nI a), .int (nI l)] st (Qi P) := by
  have k := (K.2.2 l hl).1
  have k2 := (K.2.2 a ha).1
  exact eX2_couldBeOfTwo _ _ _ (sX2_yearOf K ha (sX2_yearOf K hl (pk_le (yr l) (yr a) (fun g => qi (h0 (fun t => by have := t.1; omega))) (fun g => sX2_lengthOf K ha (sX2_lengthOf K hl ⟨fun g2 => qi (h0 (fun t => g2 (by rw [t.2]))), fun g2 => qi (h1 ⟨g, (nI_eq (by omega) (by omega)).mp g2⟩)⟩)))))
theorem sX7_mayBear (K : RelL st q len yr it) (hl : l < q) (ha : a < q) (h1 : be len yr l a → P 1 st) (h0 : ¬ be len yr l a → P 0 st) : Ct d M_X7_mayBear [.ref 7, .int (nI a), .int (nI l)] st (Qi P) := by
  have h8 := K.1
  have k := K.2.2 l hl
  have k2 := K.2.2 a ha
  refine eX7_mayBear _ _ _ ⟨pk_in a 8 (by omega), pk_in l 8 (by omega), ?_⟩
  rw [nI_clamp (n := l) (by omega), nI_clamp (n := a) (by omega), k.2.1.2.2.2, k2.2.1.2.2.2, k.2.1.2.1, k2.2.1.2.1]
  exact pk_le (yr l) (yr a) (fun g => qi (h0 (fun t => by have := t.1; omega))) (fun g => ⟨pk_in a 8 (by omega), pk_in l 8 (by omega), fun g2 => qi (h0 (fun t => g2 (by rw [t.2]))), fun g2 => qi (h1 ⟨g, (nI_eq (by omega) (by omega)).mp g2⟩)⟩)
theorem e10 {a b : Nat} : (10 : Int32) * nI a + nI b = nI (10 * a + b) := by
  have e : (10 : Int32) * nI a = nI (10 * a) := pk_mul 10 a
  rw [e, nI_add]
theorem cost_le (len : Nat → Nat) (it : Nat → Nat → Int32) (l a b : Nat) : cost len it l a b ≤ len l := cn_le _ _
theorem eb_m1 {o : Option (Nat × Nat)} (ho : okp 8 o) : eb o = -1 ↔ o = none := by
  cases o with
  | none => exact ⟨fun _ => rfl, fun _ => rfl⟩
  | some p =>
    have := ho p rfl
    exact ⟨fun e => absurd e (nI_m1 (by omega)), fun e => by cases e⟩
/-- the class's inner loop, then its outer one -/
theorem lX2_tm22 (C : Cx κ M_X2_twoMothers (d + 3)) (Z : xR κ Q) (K : RelL st q len yr it) (hl : l < q) (ha : a < q) : ∀ (f b : Nat) (o : Option (Nat × Nat)), b + f = q → a < b → okp 8 o → (∀ o', o' = fI len yr it l f a b o → okp 8 o' → X κ 7 [(0, .ref 5), (1, .int (nI l)), (2, .int (eb o')), (3, .int (ec len it l 0 o')), (4, .int (nI (a + 1)))] [] st) → X κ 22 [(0, .ref 5), (1, .int (nI l)), (2, .int (eb o)), (3, .int (ec len it l 0 o)), (4, .int (nI a)), (5, .int (nI b))] [] st
  | 0, b, o, e, hab, ho, hq => by
    have h8 := K.1
    refine bX2_twoMothers_22 C Z _ _ _ _ _ _ (brT ?_ ?_)
    · rw [K.2.1.1]
      exact nI_le (by omega) (by omega)
    · simp only [nI_1]
      exact hq o rfl ho
  | f + 1, b, o, e, hab, ho, hq => by
    have h8 := K.1
    have k := (K.2.2 l hl).1
    have go : ∀ o', o' = nxt len yr it l o a b → X κ 22 [(0, .ref 5), (1, .int (nI l)), (2, .int (eb o')), (3, .int (ec len it l 0 o')), (4, .int (nI a)), (5, .int (nI b + 1))] [] st := fun o' eo => by
      simp only [nI_1]
      subst eo
      exact lX2_tm22 C Z K hl ha f (b + 1) _ (by omega) (by omega) (nxt_ok ho (by omega) (by omega)) (fun o' e1 e2 => hq o' e1 e2)
    refine bX2_twoMothers_22 C Z _ _ _ _ _ _ (brF ?_ (sX2_couldBeOfTwo K hl ha (fun ga => f1 (sX2_couldBeOfTwo K hl (by omega) (fun gb => f1 (sX2_unlikeBoth K hl ha (by omega) ?_)) (fun gb => f0 (go o (nxt_no (fun t => gb t.2)).symm)))) (fun ga => f0 ?_)))
    · rw [K.2.1.1]
      exact nI_ge (by omega) (by omega)
    · have c1 := cost_le len it l a b
      rw [e10]
      cases o with
      | none => exact brT rfl (go (some (a, b)) (by rw [nxt_yes ⟨ga, gb⟩]))
      | some p =>
        have hp := ho p rfl
        have c2 := cost_le len it l p.1 p.2
        refine brF (nI_m1 (by omega)) (pk_le (cost len it l p.1 p.2) (cost len it l a b) (fun g => ?_) (fun g => ?_))
        · exact go (some p) (by rw [nxt_yes ⟨ga, gb⟩]; simp only; rw [if_neg (by omega)])
        · exact go (some (a, b)) (by rw [nxt_yes ⟨ga, gb⟩]; simp only; rw [if_pos g])
    · simp only [nI_1]
      exact hq o (fI_no ga _ _ _).symm ho
theorem lX2_tm7 (C : Cx κ M_X2_twoMothers (d + 3)) (Z : xR κ Q) (K : RelL st q len yr it) (hl : l < q) : ∀ (f a : Nat) (o : Option (Nat × Nat)), a + f = q → okp 8 o → (∀ o', o' = fO len yr it l q f a o → okp 8 o' → Q (some (.int (eb o'))) st) → X κ 7 [(0, .ref 5), (1, .int (nI l)), (2, .int (eb o)), (3, .int (ec len it l 0 o)), (4, .int (nI a))] [] st
  | 0, a, o, e, ho, hq => by
    have h8 := K.1
    refine bX2_twoMothers_7 C Z _ _ _ _ _ (brT ?_ (hq o rfl ho))
    rw [K.2.1.1]
    exact nI_le (by omega) (by omega)
  | f + 1, a, o, e, ho, hq => by
    have h8 := K.1
    refine bX2_twoMothers_7 C Z _ _ _ _ _ (brF ?_ ?_)
    · rw [K.2.1.1]
      exact nI_ge (by omega) (by omega)
    · simp only [nI_1]
      refine lX2_tm22 C Z K hl (by omega) (q - (a + 1)) (a + 1) o (by omega) (by omega) ho (fun o' e1 e2 => lX2_tm7 C Z K hl f (a + 1) o' (by omega) e2 (fun o2 e3 e4 => hq o2 ?_ e4))
      rw [e3, e1]
      rfl
theorem sX2_twoMothers (K : RelL st q len yr it) (hl : l < q) (hp : okp 8 (fO len yr it l q q 0 none) → P (eb (fO len yr it l q q 0 none)) st) : Ct (d + 3) M_X2_twoMothers [.ref 5, .int (nI l)] st (Qi P) := eX2_twoMothers _ _ (fun κ C Z => lX2_tm7 C Z K hl q 0 none (by omega) (fun p e => by cases e) (fun o' e1 e2 => by subst e1; exact qi (hp e2)))
theorem sm_719 (st : xSt) (v : Int32) : Sm st (xup st 7 19 v) := fun p k h => xup_off (by unfold inC inS inR inD inL inT at h; omega)
theorem RelL.sm {st' : xSt} (K : RelL st q len yr it) (h : Sm st st') : RelL st' q len yr it := K.congr (fun p k g => h p k (by simp [g]))
theorem lX7_tm22 (C : Cx κ M_X7_mothersOf (d + 1)) (Z : xR κ Q) (hl : l < q) (ha : a < q) : ∀ (f b : Nat) (o : Option (Nat × Nat)) (st : xSt), b + f = q → a < b → okp 8 o → RelL st q len yr it → st.1 7 19 = ec len it l (-1) o → (∀ o' st', o' = fI len yr it l f a b o → okp 8 o' → Sm st st' → st'.1 7 19 = ec len it l (-1) o' → X κ 9 [(0, .ref 7), (1, .int (nI l)), (2, .int (eb o')), (3, .int (nI (a + 1)))] [] st') → X κ 22 [(0, .ref 7), (1, .int (nI l)), (2, .int (eb o)), (3, .int (nI a)), (4, .int (nI b))] [] st
  | 0, b, o, st, e, hab, ho, K, hst, hq => by
    have h8 := K.1
    refine bX7_mothersOf_22 C Z _ _ _ _ _ (brT ?_ ?_)
    · rw [K.2.1.2]
      exact nI_le (by omega) (by omega)
    · simp only [nI_1]
      exact hq o st rfl ho Sm.rfl hst
  | f + 1, b, o, st, e, hab, ho, K, hst, hq => by
    have h8 := K.1
    have k := (K.2.2 l hl).1
    have go : ∀ o' st', o' = nxt len yr it l o a b → Sm st st' → st'.1 7 19 = ec len it l (-1) o' → X κ 22 [(0, .ref 7), (1, .int (nI l)), (2, .int (eb o')), (3, .int (nI a)), (4, .int (nI b + 1))] [] st' := fun o' st' eo sm es => by
      simp only [nI_1]
      subst eo
      exact lX7_tm22 C Z hl ha f (b + 1) _ st' (by omega) (by omega) (nxt_ok ho (by omega) (by omega)) (K.sm sm) es (fun o' s2 e1 e2 e3 e4 => hq o' s2 e1 e2 (sm.trans e3) e4)
    refine bX7_mothersOf_22 C Z _ _ _ _ _ (brF ?_ (sX7_mayBear K hl ha (fun ga => f1 (sX7_mayBear K hl (by omega) (fun gb => f1 (sX7_strangeTo K hl ha (by omega) ga.2 gb.2 ?_)) (fun gb => f0 (go o st (nxt_no (fun t => gb t.2)).symm Sm.rfl hst)))) (fun ga => f0 (go o st (nxt_no (fun t => ga t.1)).symm Sm.rfl hst))))
    · rw [K.2.1.2]
      exact nI_ge (by omega) (by omega)
    · have c1 := cost_le len it l a b
      rw [e10, hst]
      cases o with
      | none => exact brT rfl (go (some (a, b)) _ (by rw [nxt_yes ⟨ga, gb⟩]) (sm_719 st _) (xup_eq _ _ _ _))
      | some p =>
        have hp := ho p rfl
        have c2 := cost_le len it l p.1 p.2
        refine brF (nI_m1 (by omega)) (pk_le (cost len it l p.1 p.2) (cost len it l a b) (fun g => ?_) (fun g => ?_))
        · exact go (some p) st (by rw [nxt_yes ⟨ga, gb⟩]; simp only; rw [if_neg (by omega)]) Sm.rfl hst
        · exact go (some (a, b)) _ (by rw [nxt_yes ⟨ga, gb⟩]; simp only; rw [if_pos g]) (sm_719 st _) (xup_eq _ _ _ _)
theorem lX7_tm9 (C : Cx κ M_X7_mothersOf (d + 1)) (Z : xR κ Q) (hl : l < q) : ∀ (f a : Nat) (o : Option (Nat × Nat)) (st : xSt), a + f = q → okp 8 o → RelL st q len yr it → st.1 7 19 = ec len it l (-1) o → (∀ o' st', o' = fO len yr it l q f a o → okp 8 o' → Sm st st' → st'.1 7 19 = ec len it l (-1) o' → Q (some (.int (eb o'))) st') → X κ 9 [(0, .ref 7), (1, .int (nI l)), (2, .int (eb o)), (3, .int (nI a))] [] st
  | 0, a, o, st, e, ho, K, hst, hq => by
    have h8 := K.1
    refine bX7_mothersOf_9 C Z _ _ _ _ (brT ?_ (hq o st rfl ho Sm.rfl hst))
    rw [K.2.1.2]
    exact nI_le (by omega) (by omega)
  | f + 1, a, o, st, e, ho, K, hst, hq => by
    have h8 := K.1
    refine bX7_mothersOf_9 C Z _ _ _ _ (brF ?_ ?_)
    · rw [K.2.1.2]
      exact nI_ge (by omega) (by omega)
    · simp only [nI_1]
      refine lX7_tm22 C Z hl (by omega) (q - (a + 1)) (a + 1) o st (by omega) (by omega) ho K hst (fun o' s1 e1 e2 sm1 h1 => lX7_tm9 C Z hl f (a + 1) o' s1 (by omega) e2 (K.sm sm1) h1 (fun o2 s2 e3 e4 sm2 h2 => hq o2 s2 ?_ e4 (sm1.trans sm2) h2))
      rw [e3, e1]
      rfl
theorem sX7_mothersOf (K : RelL st q len yr it) (hl : l < q) (hp : ∀ st', okp 8 (fO len yr it l q q 0 none) → Sm st st' → st'.1 7 19 = ec len it l (-1) (fO len yr it l q q 0 none) → P (eb (fO len yr it l q q 0 none)) st') : Ct (d + 1) M_X7_mothersOf [.ref 7, .int (nI l)] st (Qi P) := eX7_mothersOf _ _ (fun κ C Z => lX7_tm9 C Z hl q 0 none _ (by omega) (fun p e => by cases e) (K.sm (sm_719 st _)) (xup_eq _ _ _ _) (fun o' s2 e1 e2 sm h => by subst e1; exact qi (hp s2 e2 ((sm_719 st _).trans sm) h)))
end S30
theorem fO_lt {len yr : Nat → Nat} {it : Nat → Nat → Int32} {l q : Nat} (P : Option (Nat × Nat) → Prop) (h : ∀ o a b, a < q → b < q → P o → P (nxt len yr it l o a b)) : ∀ (f a : Nat) (o : Option (Nat × Nat)), a + f = q → P o → P (fO len yr it l q f a o) := by
  have hi : ∀ (f a b : Nat) (o : Option (Nat × Nat)), a < q → b + f = q → P o → P (fI len yr it l f a b o) := by
    intro f
    induction f with
    | zero => intro a b o _ _ ho; exact ho
    | succ f ih => intro a b o ha e ho; rw [fI]; exact ih a (b + 1) _ ha (by omega) (h o a b ha (by omega) ho)
  intro f
  induction f with
  | zero => intro a o _ ho; exact ho
  | succ f ih => intro a o e ho; rw [fO]; exact ih (a + 1) _ (by omega) (hi _ a (a + 1) o (by omega) (by omega) ho)
theorem g_mothers (c : Int32) : Good M_X6_mothers M_X7_mothers [.int c] := by
  intro st hR P hp
  have fin : ∀ v, P v v st := fun v => hp v st hR
  obtain ⟨n, -, -, -, -, ⟨q, len, yr, it, K⟩, -⟩ := id hR
  rcases isC q c with ⟨l, hl, rfl⟩ | h
  · exact eX6_mothers _ _ (sX2_has_in K hl (f1 (sX2_twoMothers K hl (fun _ => qi (eX7_mothers _ _ (sX7_isList_in K hl (f1 (sX7_mothersOf K hl (fun s1 _ sm _ => qi (hp _ _ (hR.sm sm)))))))))))
  · exact eX6_mothers _ _ (sX2_has_no K h (f0 (qi (eX7_mothers _ _ (sX7_isList_no K h (f0 (qi (fin _))))))))
theorem g_strange (c : Int32) : Good M_X6_strange M_X7_strange [.int c] := by
  intro st hR P hp
  have fin : ∀ v, P v v st := fun v => hp v st hR
  obtain ⟨n, -, -, -, -, ⟨q, len, yr, it, K⟩, -⟩ := id hR
  have h8 := K.1
  rcases isC q c with ⟨l, hl, rfl⟩ | h
  · have ok : okp q (fO len yr it l q q 0 none) := fO_lt (P := okp q) (fun o a b ha hb ho => nxt_ok ho ha hb) q 0 none (by omega) (fun p e => by cases e)
    have md : ∀ s0, s0 = st → ∀ F : Int32 → xSt → Prop, (∀ st', Sm st st' → F (ec len it l (-1) (fO len yr it l q q 0 none)) st') → Ct 60 M_X7_strange [.ref 7, .int (nI l)] s0 (Qi F) := fun s0 e F hF => by
      subst e
      refine eX7_strange _ _ (sX7_isList_in K hl (g1 (sX7_mothersOf K hl (fun s1 _ sm e1 => qi ?_))))
      rw [e1]
      exact hF s1 sm
    refine eX6_strange _ _ (sX2_has_in K hl (g1 (sX2_twoMothers K hl (fun _ => ?_))))
    cases ho : fO len yr it l q q 0 none with
    | none =>
      refine bnF rfl (qi (md st rfl _ (fun s1 sm => ?_)))
      rw [ho]
      exact hp _ _ (hR.sm sm)
    | some p =>
      have hp2 := ok p ho
      refine bnT (nI_m1 (by omega)) ?_
      have e1 : nI (10 * p.1 + p.2) / 10 = nI ((10 * p.1 + p.2) / 10) := pk_div (d := 10) (by omega) (by omega) (by omega)
      show Ct 59 M_X2_unlikeBoth [.ref 5, .int (nI l), .int (nI (10 * p.1 + p.2) / 10), .int (nI (10 * p.1 + p.2) - nI (10 * p.1 + p.2) / 10 * 10)] st _
      rw [m10 (by omega), e1, show (10 * p.1 + p.2) / 10 = p.1 by omega, show (10 * p.1 + p.2) % 10 = p.2 by omega]
      refine sX2_unlikeBoth K hl hp2.1 hp2.2 (qi (md st rfl _ (fun s1 sm => ?_)))
      rw [ho]
      exact hp _ _ (hR.sm sm)
  · exact eX6_strange _ _ (sX2_has_no K h (g0 (qi (eX7_strange _ _ (sX7_isList_no K h (g0 (qi (fin _))))))))
