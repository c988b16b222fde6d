/-! the class's riddle: sets of numbers as bits -/
def awD (D : Nat → Int32) (hm nz bg : Nat → Nat) (wd : Nat → Nat → Int32) (c i : Nat) : Prop := kD D c = 1 ∨ kD D c = 2 ∨ alD D hm nz bg wd c i
def AL (st : xSt) (aw : Nat → Nat → Prop) (c m : Nat) : Prop := ∀ i, lb (st.2 16 c) i = true ↔ (1 ≤ i ∧ i ≤ m ∧ aw c i)
def aln (D : Nat → Int32) (al : Nat → Nat → Prop) (mt s u c i : Nat) : Prop := 1 ≤ i ∧ i ≤ mt ∧ ∀ c', c' < c → s.testBit c' = true → (kD D c' = 0 ∨ kD D c' = 3) → uD D c' 1 = u → al c' i
def nrw (D : Nat → Int32) (hc : Nat → Nat → Nat → Nat → Prop) (x y s : Nat) (N : Int64) (c i : Nat) : Prop := lb N i = true ∧ ∀ c', c' < c → s.testBit c' = true → (kD D c' = 1 ∨ kD D c' = 2) → hc c' x y i
theorem hcD_1 {D : Nat → Int32} {hm nz bg : Nat → Nat} {wd : Nat → Nat → Int32} {c x y z : Nat} (k : kD D c = 1) : hcD D hm nz bg wd c x y z ↔ tv x y z (uD D c 1) + tv x y z (uD D c 2) = tv x y z (uD D c 3) := by
  constructor
  · rintro (⟨-, h⟩ | ⟨h, -⟩ | ⟨h, -⟩ | ⟨h, -⟩)
    · exact h
    · omega
    · omega
    · omega
  · exact fun h => Or.inl ⟨k, h⟩
theorem hcD_2 {D : Nat → Int32} {hm nz bg : Nat → Nat} {wd : Nat → Nat → Int32} {c x y z : Nat} (k : kD D c = 2) : hcD D hm nz bg wd c x y z ↔ tv x y z (uD D c 1) < tv x y z (uD D c 2) := by
  constructor
  · rintro (⟨h, -⟩ | ⟨-, h⟩ | ⟨h, -⟩ | ⟨h, -⟩)
    · omega
    · exact h
    · omega
    · omega
  · exact fun h => Or.inr (Or.inl ⟨k, h⟩)
theorem hcD_0 {D : Nat → Int32} {hm nz bg : Nat → Nat} {wd : Nat → Nat → Int32} {c x y z : Nat} (k : kD D c = 0 ∨ kD D c = 3) : hcD D hm nz bg wd c x y z ↔ alD D hm nz bg wd c (tv x y z (uD D c 1)) := by
  constructor
  · rintro (⟨h, -⟩ | ⟨h, -⟩ | h)
    · omega
    · omega
    · exact h
  · exact fun h => Or.inr (Or.inr h)
theorem awD_0 {D : Nat → Int32} {hm nz bg : Nat → Nat} {wd : Nat → Nat → Int32} {c i : Nat} (k : kD D c = 0 ∨ kD D c = 3) : awD D hm nz bg wd c i ↔ alD D hm nz bg wd c i := by
  constructor
  · rintro (h | h | h)
    · omega
    · omega
    · exact h
  · exact fun h => Or.inr (Or.inr h)
theorem lb_base {mt i : Nat} (h : mt ≤ 40) : lb (((1 : Int64) <<< ((nI (mt + 1)).toInt64 &&& 63)) - 2) i = true ↔ 1 ≤ i ∧ i ≤ mt := by
  by_cases hi : i < 64
  · have := lb_sh2 ⟨mt, by omega⟩ ⟨i, hi⟩
    simp only at this
    rw [this, decide_eq_true_iff]
  · rw [lb_64 (by omega)]
    constructor
    · intro q
      cases q
    · intro q
      omega
section RCL
variable {st : xSt} {n q mt : Nat} {hm nz bg : Nat → Nat} {wd : Nat → Nat → Int32} {d c v w s u : Nat} {κ : xK} {Q : Option Value → xSt → Prop} {P : Int32 → xSt → Prop}
theorem sX3_isAmong {a : Int64} {k : Nat} (hk : k < 64) (h1 : lb a k = true → P 1 st) (h0 : ¬ lb a k = true → P 0 st) : Ct d M_X3_isAmong [.long a, .int (nI k)] st (Qi P) := eX3_isAmong _ _ _ ⟨fun e => qi (h0 (fun g => e ((isA hk).mpr g))), fun e => qi (h1 ((isA hk).mp e))⟩
theorem sX3_inSet {k : Nat} (hs : s < 256) (hk : k < 8) (h1 : s.testBit k = true → P 1 st) (h0 : ¬ s.testBit k = true → P 0 st) : Ct d M_X3_inSet [.int (nI s), .int (nI k)] st (Qi P) := eX3_inSet _ _ _ ⟨fun e => qi (h0 (fun g => e ((in_set ⟨s, hs⟩ ⟨k, hk⟩).mpr g))), fun e => qi (h1 ((in_set ⟨s, hs⟩ ⟨k, hk⟩).mp e))⟩
theorem lX3_prep25 {st0 : xSt} (C : Cx κ M_X3_prepare (d + 5)) (Z : xR κ Q) (K0 : RelC st0 n hm nz bg wd) (KR0 : RelR st0 n q mt) (hc : c < q) (k : ∀ st', Sm st0 st' → (∀ c', c' < c + 1 → AL st' (awD (st0.1 32) hm nz bg wd) c' mt) → X κ 2 [(0, .ref 3), (1, .ref 2), (2, .int (nI (c + 1)))] [] st') : ∀ (f v : Nat) (st : xSt), v + f = mt → Sm st0 st → (∀ c', c' < c → AL st (awD (st0.1 32) hm nz bg wd) c' mt) → AL st (awD (st0.1 32) hm nz bg wd) c v → X κ 25 [(0, .ref 3), (1, .ref 2), (2, .int (nI c)), (3, .int (nI (v + 1)))] [] st
  | 0, v, st, e, hs, h1, h2 => by
    have h8 := KR0.1
    have h40 := KR0.2.2.1
    have ev : v = mt := by omega
    rw [ev] at h2
    refine bX3_prepare_25 C Z _ _ _ ?_
    rw [(KR0.sm hs).2.2.2.1.2.2.1]
    simp only [nI_1]
    refine brT (nI_lt (by omega) (by omega)) (k st hs (fun c' hc' => ?_))
    by_cases ec : c' = c
    · rw [ec]
      exact h2
    · exact h1 c' (by omega)
  | f + 1, v, st, e, hs, h1, h2 => by
    have h8 := KR0.1
    have h40 := KR0.2.2.1
    have cc : (nI c).toNatClampNeg = c := nI_clamp (by omega)
    refine bX3_prepare_25 C Z _ _ _ ?_
    rw [(KR0.sm hs).2.2.2.1.2.2.1]
    simp only [cc, nI_1]
    refine brF (nI_nlt (by omega) (by omega)) ⟨pk_in c 8 (by omega), sX3_allows (K0.sm hs) (KR0.sm hs) hc (by omega) (fun g => f1 ⟨pk_in c 8 (by omega), pk_in c 8 (by omega), ?_⟩) (fun g => f0 ?_)⟩
    · rw [hs.d32] at g
      refine lX3_prep25 C Z K0 KR0 hc k f (v + 1) _ (by omega) (hs.trans sm_L) (fun c' hc' i => ?_) (fun i => ?_)
      · rw [xupL_off (by omega)]
        exact h1 c' hc' i
      · rw [xupL_eq, lb_or, Bool.or_eq_true, h2 i, lb_bit (by omega)]
        constructor
        · rintro (⟨a, b, e⟩ | rfl)
          · exact ⟨a, by omega, e⟩
          · exact ⟨by omega, Nat.le_refl _, g⟩
        · rintro ⟨a, b, e⟩
          by_cases ei : i = v + 1
          · exact Or.inr ei
          · exact Or.inl ⟨a, by omega, e⟩
    · rw [hs.d32] at g
      refine lX3_prep25 C Z K0 KR0 hc k f (v + 1) _ (by omega) hs h1 (fun i => ?_)
      rw [h2 i]
      constructor
      · exact fun z => ⟨z.1, by omega, z.2.2⟩
      · rintro ⟨a, b, e⟩
        by_cases ei : i = v + 1
        · rw [ei] at e
          exact (g e).elim
        · exact ⟨a, by omega, e⟩
theorem lX3_prep2 {st0 : xSt} (C : Cx κ M_X3_prepare (d + 5)) (Z : xR κ Q) (K0 : RelC st0 n hm nz bg wd) (KR0 : RelR st0 n q mt) (hq : ∀ st', Sm st0 st' → (∀ c, c < q → AL st' (awD (st0.1 32) hm nz bg wd) c mt) → Q none st') : ∀ (f c : Nat) (st : xSt), c + f = q → Sm st0 st → (∀ c', c' < c → AL st (awD (st0.1 32) hm nz bg wd) c' mt) → X κ 2 [(0, .ref 3), (1, .ref 2), (2, .int (nI c))] [] st
  | 0, c, st, e, hs, h1 => by
    have h8 := KR0.1
    refine bX3_prepare_2 C Z _ _ ?_
    rw [(KR0.sm hs).2.2.2.1.1]
    exact brT (nI_le (by omega) (by omega)) (hq st hs (fun c' hc' => h1 c' (by omega)))
  | f + 1, c, st, e, hs, h1 => by
    have h8 := KR0.1
    have cc : (nI c).toNatClampNeg = c := nI_clamp (by omega)
    refine bX3_prepare_2 C Z _ _ ?_
    rw [(KR0.sm hs).2.2.2.1.1]
    simp only [cc]
    refine brF (nI_ge (by omega) (by omega)) (brF (nI_ge (a := c) (b := 8) (by omega) (by omega)) ⟨pk_in c 8 (by omega), ?_⟩)
    refine lX3_prep25 C Z K0 KR0 (by omega) (fun st' a b => lX3_prep2 C Z K0 KR0 hq f (c + 1) st' (by omega) a b) mt 0 _ (by omega) (hs.trans sm_L) (fun c' hc' i => ?_) (fun i => ?_)
    · rw [xupL_off (by omega)]
      exact h1 c' hc' i
    · rw [xupL_eq, lb_0]
      constructor
      · intro z
        cases z
      · intro z
        omega
theorem sX3_prepare {st0 : xSt} {P : xSt → Prop} (K0 : RelC st0 n hm nz bg wd) (KR0 : RelR st0 n q mt) (hs : Sm st0 st) (hp : ∀ st', Sm st0 st' → (∀ c, c < q → AL st' (awD (st0.1 32) hm nz bg wd) c mt) → P st') : Ct (d + 5) M_X3_prepare [.ref 3, .ref 2] st (Qv P) := eX3_prepare _ (fun κ C Z => lX3_prep2 C Z K0 KR0 (fun st' a b => qv (hp st' a b)) q 0 st (by omega) hs (fun c' hc' => by omega))
theorem lX3_alone (C : Cx κ M_X3_alone (d + 1)) (Z : xR κ Q) (K : RelC st n hm nz bg wd) (KR : RelR st n q mt) (hA : ∀ c, c < q → AL st (awD (st.1 32) hm nz bg wd) c mt) (hs : s < 256) (hu : u < 3) (hq : ∀ x, (∀ i, lb x i = true ↔ aln (st.1 32) (alD (st.1 32) hm nz bg wd) mt s u q i) → Q (some (.long x)) st) : ∀ (f c : Nat) (x : Int64), c + f = q → (∀ i, lb x i = true ↔ aln (st.1 32) (alD (st.1 32) hm nz bg wd) mt s u c i) → X κ 16 [(0, .ref 3), (1, .int (nI u)), (2, .int (nI s)), (3, .long x), (5, .int (nI c))] [] st
  | 0, c, x, e, hx => by
    have h8 := KR.1
    have ec : c = q := by omega
    rw [ec] at hx
    refine bX3_alone_16 C Z _ _ _ _ _ ?_
    rw [KR.2.2.2.1.1]
    exact brT (nI_le (by omega) (by omega)) (hq x hx)
  | f + 1, c, x, e, hx => by
    have h8 := KR.1
    have hc : c < q := by omega
    have cc : (nI c).toNatClampNeg = c := nI_clamp (by omega)
    obtain ⟨⟨hu1, k1⟩, F⟩ := clF_of K.1 KR hc
    have e0 : st.1 (58 + c) 0 = st.1 32 (6 * c) := (KR.2.2.2.2 c hc).1 0 (by omega)
    have e1 : st.1 (58 + c) 1 = st.1 32 (6 * c + 1) := (KR.2.2.2.2 c hc).1 1 (by omega)
    have same : (∀ i, aln (st.1 32) (alD (st.1 32) hm nz bg wd) mt s u c i → aln (st.1 32) (alD (st.1 32) hm nz bg wd) mt s u (c + 1) i) → X κ 16 [(0, .ref 3), (1, .int (nI u)), (2, .int (nI s)), (3, .long x), (5, .int (nI (c + 1)))] [] st := fun h => lX3_alone C Z K KR hA hs hu hq f (c + 1) x (by omega) (fun i => (hx i).trans ⟨h i, fun g => ⟨g.1, g.2.1, fun c' h' => g.2.2 c' (by omega)⟩⟩)
    have skip : (s.testBit c = true → (kD (st.1 32) c = 0 ∨ kD (st.1 32) c = 3) → uD (st.1 32) c 1 = u → False) → X κ 16 [(0, .ref 3), (1, .int (nI u)), (2, .int (nI s)), (3, .long x), (5, .int (nI (c + 1)))] [] st := fun h => same (fun i g => ⟨g.1, g.2.1, fun c' h' b k z => by
      by_cases ec : c' = c
      · rw [ec] at b k z
        exact (h b k z).elim
      · exact g.2.2 c' (by omega) b k z⟩)
    have upd : (kD (st.1 32) c = 0 ∨ kD (st.1 32) c = 3) → uD (st.1 32) c 1 = u → s.testBit c = true → X κ 16 [(0, .ref 3), (1, .int (nI u)), (2, .int (nI s)), (3, .long (x &&& (st.2 16 c))), (5, .int (nI (c + 1)))] [] st := fun hk hu2 hb => lX3_alone C Z K KR hA hs hu hq f (c + 1) _ (by omega) (fun i => by
      rw [lb_and, Bool.and_eq_true, hx i, hA c hc i, awD_0 hk]
      constructor
      · rintro ⟨⟨a1, a2, a3⟩, b1, b2, b3⟩
        refine ⟨a1, a2, fun c' h' b k z => ?_⟩
        by_cases ec : c' = c
        · rw [ec]
          exact b3
        · exact a3 c' (by omega) b k z
      · rintro ⟨a1, a2, a3⟩
        exact ⟨⟨a1, a2, fun c' h' => a3 c' (by omega)⟩, a1, a2, a3 c (by omega) hb hk hu2⟩)
    have both : (kD (st.1 32) c = 0 ∨ kD (st.1 32) c = 3) → s.testBit c = true → ((¬ st.1 (58 + c) 1 = nI u → X κ 16 [(0, .ref 3), (1, .int (nI u)), (2, .int (nI s)), (3, .long x), (5, .int (nI (c + 1)))] [] st) ∧ (st.1 (58 + c) 1 = nI u → vp_in (nI c) 8 ∧ X κ 16 [(0, .ref 3), (1, .int (nI u)), (2, .int (nI s)), (3, .long (x &&& (st.2 16 c))), (5, .int (nI (c + 1)))] [] st)) := fun hk hb => by
      rw [e1, k1]
      exact ⟨fun g => skip (fun _ _ z => g (by rw [z])), fun g => ⟨pk_in c 8 (by omega), upd hk ((nI_eq (by omega) (by omega)).mp g) hb⟩⟩
    refine bX3_alone_16 C Z _ _ _ _ _ ?_
    simp only [cc, nI_1, c0, c1]
    rw [KR.2.2.2.1.1, e0]
    refine brF (nI_ge (by omega) (by omega)) (brF (nI_ge (a := c) (b := 8) (by omega) (by omega)) ⟨pk_in c 8 (by omega), ?_⟩)
    rcases F with ⟨k, k0, -⟩ | ⟨k, k0, -⟩ | ⟨k, k0, -⟩ | ⟨k, k0, -⟩
    · rw [k0]
      exact brT rfl (sX3_inSet hs (by omega) (fun b => f1 ⟨pk_in c 8 (by omega), both (Or.inl k) b⟩) (fun b => f0 (skip (fun z => (b z).elim))))
    · rw [k0]
      exact brF (by decide) ⟨pk_in c 8 (by omega), bnT (by decide) (sX3_inSet hs (by omega) (fun b => f1 (skip (fun _ z => by omega))) (fun b => f0 (skip (fun _ z => by omega))))⟩
    · rw [k0]
      exact brF (by decide) ⟨pk_in c 8 (by omega), bnT (by decide) (sX3_inSet hs (by omega) (fun b => f1 (skip (fun _ z => by omega))) (fun b => f0 (skip (fun _ z => by omega))))⟩
    · rw [k0]
      exact brF (by decide) ⟨pk_in c 8 (by omega), bnF rfl (sX3_inSet hs (by omega) (fun b => f1 ⟨pk_in c 8 (by omega), both (Or.inr k) b⟩) (fun b => f0 (skip (fun z => (b z).elim))))⟩
theorem sX3_alone {P : Int64 → xSt → Prop} (K : RelC st n hm nz bg wd) (KR : RelR st n q mt) (hA : ∀ c, c < q → AL st (awD (st.1 32) hm nz bg wd) c mt) (hs : s < 256) (hu : u < 3) (hp : ∀ x, (∀ i, lb x i = true ↔ aln (st.1 32) (alD (st.1 32) hm nz bg wd) mt s u q i) → P x st) : Ct (d + 1) M_X3_alone [.ref 3, .int (nI u), .int (nI s)] st (Ql P) := by
  refine eX3_alone _ _ _ (fun κ C Z => ?_)
  rw [KR.2.2.2.1.2.2.1, nI_1]
  refine lX3_alone C Z K KR hA hs hu (fun x hx => ql (hp x hx)) q 0 _ (by omega) (fun i => ?_)
  rw [lb_base KR.2.2.1]
  exact ⟨fun g => ⟨g.1, g.2, fun c' hc' => by omega⟩, fun g => ⟨g.1, g.2.1⟩⟩
/-! numbers of the last unknown -/
def kw (x y u : Nat) : Nat := if u = 0 then x else if u = 1 then y else 0
def il (u : Nat) : Nat := if u = 2 then 1 else 0
theorem tvk {x y i : Nat} (hu : u < 3) : tv x y i u = kw x y u + il u * i := by
  have : u = 0 ∨ u = 1 ∨ u = 2 := by omega
  rcases this with rfl | rfl | rfl
  · show x = x + 0 * i
    omega
  · show y = y + 0 * i
    omega
  · show i = 0 + 1 * i
    omega
theorem kw_le {x y u : Nat} (hx : x ≤ 40) (hy : y ≤ 40) : kw x y u ≤ 40 := by
  unfold kw
  by_cases e : u = 0
  · rw [if_pos e]
    exact hx
  · rw [if_neg e]
    by_cases e2 : u = 1
    · rw [if_pos e2]
      exact hy
    · rw [if_neg e2]
      omega
theorem sX3_known {x y : Nat} (h18 : st.1 18 0 = nI x ∧ st.1 18 1 = nI y) (hu : u < 3) (hp : P (nI (kw x y u)) st) : Ct d M_X3_known [.ref 3, .int (nI u)] st (Qi P) := by
  have : u = 0 ∨ u = 1 ∨ u = 2 := by omega
  rcases this with rfl | rfl | rfl
  · refine eX3_known _ _ (brF (by decide) (brF (by decide) ⟨pk_in 0 3 (by omega), qi ?_⟩))
    rw [nI_clamp (by omega), h18.1]
    exact hp
  · refine eX3_known _ _ (brF (by decide) (brF (by decide) ⟨pk_in 1 3 (by omega), qi ?_⟩))
    rw [nI_clamp (by omega), h18.2]
    exact hp
  · exact eX3_known _ _ (brF (by decide) (brT (by decide) (qi hp)))
theorem sX3_isLast (hu : u < 3) (hp : P (nI (il u)) st) : Ct d M_X3_isLast [.int (nI u)] st (Qi P) := by
  have : u = 0 ∨ u = 1 ∨ u = 2 := by omega
  rcases this with rfl | rfl | rfl
  · exact eX3_isLast _ _ (bnT (by decide) (qi hp))
  · exact eX3_isLast _ _ (bnT (by decide) (qi hp))
  · exact eX3_isLast _ _ (bnF rfl (qi hp))
theorem r80 {a : Nat} (ha : a < 2 ^ 30) : nI a - 80 = 0 ↔ a = 80 := by
  have h : (nI a - nI 80).toInt = (a : Int) - (80 : Nat) := pk_sub_toInt ha (by omega)
  constructor
  · intro e
    have e2 : nI a - nI 80 = 0 := e
    rw [e2] at h
    have : (0 : Int32).toInt = 0 := by decide
    omega
  · intro e
    subst e
    decide
theorem il_c (u : Nat) : il u = 0 ∨ il u = 1 := by
  unfold il
  by_cases e : u = 2
  · rw [if_pos e]
    exact Or.inr rfl
  · rw [if_neg e]
    exact Or.inl rfl
theorem sX3_bySum {P : Int64 → xSt → Prop} {x y u1 u2 u3 : Nat} (h18 : st.1 18 0 = nI x ∧ st.1 18 1 = nI y) (hx : x ≤ 40) (hy : y ≤ 40) (h1 : u1 < 3) (h2 : u2 < 3) (h3 : u3 < 3) (hp : ∀ N, (∀ i, 1 ≤ i → i ≤ 40 → (lb N i = true ↔ tv x y i u1 + tv x y i u2 = tv x y i u3)) → P N st) : Ct (d + 1) M_X3_bySum [.ref 3, .int (nI u1), .int (nI u2), .int (nI u3)] st (Ql P) := by
  have go : ∀ (t R : Int32), ¬ t = 0 → (∀ i, 1 ≤ i → i ≤ 40 → (lb (bsf R t) i = true ↔ tv x y i u1 + tv x y i u2 = tv x y i u3)) → ((¬ t = 0 → ¬ t = 0 ∧ (((R - R / t * t) = 0 → ¬ t = 0 ∧ Ct d M_X6_within [.int (R / t), .int 1, .int 40] st (Qi fun v14 s13 => ((v14 = 0 → Ql P (some (.long 0)) s13) ∧ (¬ v14 = 0 → Ql P (some (.long ((1 : Int64) <<< ((R / t : Int32).toInt64 &&& 63)))) s13)))) ∧ (¬ (R - R / t * t) = 0 → Ql P (some (.long 0)) st))) ∧ (t = 0 → ((¬ R = 0 → Ql P (some (.long 0)) st) ∧ (R = 0 → Ql P (some (.long ((-1)))) st)))) := by
    intro t R ht hb
    refine ⟨fun _ => ⟨ht, fun e => ⟨ht, ?_⟩, fun e => ql (hp _ ?_)⟩, fun e => (ht e).elim⟩
    · by_cases g : ¬ R / t < 1 ∧ ¬ 40 < R / t
      · refine sW1 g (f1 (ql (hp _ ?_)))
        have eb : bsf R t = (1 : Int64) <<< ((R / t : Int32).toInt64 &&& 63) := by
          unfold bsf
          rw [if_pos e, if_pos g]
        rw [eb] at hb
        exact hb
      · refine sW0 g (f0 (ql (hp _ ?_)))
        have eb : bsf R t = 0 := by
          unfold bsf
          rw [if_pos e, if_neg g]
        rw [eb] at hb
        exact hb
    · have eb : bsf R t = 0 := by
        unfold bsf
        rw [if_neg e]
      rw [eb] at hb
      exact hb
  have z0 : ∀ R : Int32, (R = 0 → ∀ i, 1 ≤ i → i ≤ 40 → tv x y i u1 + tv x y i u2 = tv x y i u3) → (¬ R = 0 → ∀ i, 1 ≤ i → i ≤ 40 → ¬ tv x y i u1 + tv x y i u2 = tv x y i u3) → ((¬ R = 0 → Ql P (some (.long 0)) st) ∧ (R = 0 → Ql P (some (.long ((-1)))) st)) := by
    intro R ha hb
    refine ⟨fun e => ql (hp _ (fun i hi hi2 => ?_)), fun e => ql (hp _ (fun i hi hi2 => ?_))⟩
    · rw [lb_0]
      exact ⟨fun z => (by cases z), fun z => (hb e i hi hi2 z).elim⟩
    · exact ⟨fun _ => ha e i hi hi2, fun _ => lb_m1 ⟨i, by omega⟩⟩
  have k1 := kw_le (u := u1) hx hy
  have k2 := kw_le (u := u2) hx hy
  have k3 := kw_le (u := u3) hx hy
  refine eX3_bySum _ _ _ _ (sX3_isLast h1 (sX3_isLast h2 (sX3_isLast h3 (sX3_known h18 h3 (sX3_known h18 h1 (sX3_known h18 h2 ?_))))))
  rw [bs_rest k1 k2]
  simp only [tvk h1, tvk h2, tvk h3] at go z0 hp
  generalize kw x y u1 = a1 at *
  generalize kw x y u2 = a2 at *
  generalize kw x y u3 = a3 at *
  rcases il_c u1 with i1 | i1 <;> rcases il_c u2 with i2 | i2 <;> rcases il_c u3 with i3 | i3 <;> simp only [i1, i2, i3, Nat.zero_mul, Nat.one_mul, Nat.add_zero] at go z0 ⊢
  · exact ⟨fun e => absurd rfl e, fun _ => z0 _ (fun e i _ _ => by have := (r80 (by omega)).mp e; omega) (fun e i _ _ z => e ((r80 (by omega)).mpr (by omega)))⟩
  · refine go (-1) _ (by decide) (fun i hi hi2 => ?_)
    obtain ⟨j, rfl⟩ : ∃ j, i = j + 1 := ⟨i - 1, by omega⟩
    have := bs_m1 ⟨80 + a3 - a1 - a2, by omega⟩ ⟨j, by omega⟩
    simp only at this
    rw [this, decide_eq_true_iff]
    omega
  · refine go 1 _ (by decide) (fun i hi hi2 => ?_)
    obtain ⟨j, rfl⟩ : ∃ j, i = j + 1 := ⟨i - 1, by omega⟩
    have := bs_1 ⟨80 + a3 - a1 - a2, by omega⟩ ⟨j, by omega⟩
    simp only at this
    rw [this, decide_eq_true_iff]
    omega
  · exact ⟨fun e => absurd rfl e, fun _ => z0 _ (fun e i _ _ => by have := (r80 (by omega)).mp e; omega) (fun e i _ _ z => e ((r80 (by omega)).mpr (by omega)))⟩
  · refine go 1 _ (by decide) (fun i hi hi2 => ?_)
    obtain ⟨j, rfl⟩ : ∃ j, i = j + 1 := ⟨i - 1, by omega⟩
    have := bs_1 ⟨80 + a3 - a1 - a2, by omega⟩ ⟨j, by omega⟩
    simp only at this
    rw [this, decide_eq_true_iff]
    omega
  · exact ⟨fun e => absurd rfl e, fun _ => z0 _ (fun e i _ _ => by have := (r80 (by omega)).mp e; omega) (fun e i _ _ z => e ((r80 (by omega)).mpr (by omega)))⟩
  · refine go 2 _ (by decide) (fun i hi hi2 => ?_)
    obtain ⟨j, rfl⟩ : ∃ j, i = j + 1 := ⟨i - 1, by omega⟩
    have := bs_2 ⟨80 + a3 - a1 - a2, by omega⟩ ⟨j, by omega⟩
    simp only at this
    rw [this, decide_eq_true_iff]
    omega
  · refine go 1 _ (by decide) (fun i hi hi2 => ?_)
    obtain ⟨j, rfl⟩ : ∃ j, i = j + 1 := ⟨i - 1, by omega⟩
    have := bs_1 ⟨80 + a3 - a1 - a2, by omega⟩ ⟨j, by omega⟩
    simp only at this
    rw [this, decide_eq_true_iff]
    omega
theorem il_n {u : Nat} (h : ¬ u = 2) : il u = 0 := if_neg h
theorem sX3_byLess {P : Int64 → xSt → Prop} {x y u1 u2 : Nat} (h18 : st.1 18 0 = nI x ∧ st.1 18 1 = nI y) (hx : x ≤ 40) (hy : y ≤ 40) (h1 : u1 < 3) (h2 : u2 < 3) (hne : u1 ≠ u2) (hp : ∀ N, (∀ i, 1 ≤ i → i ≤ 40 → (lb N i = true ↔ tv x y i u1 < tv x y i u2)) → P N st) : Ct (d + 1) M_X3_byLess [.ref 3, .int (nI u1), .int (nI u2)] st (Ql P) := by
  have k1 := kw_le (u := u1) hx hy
  have k2 := kw_le (u := u2) hx hy
  simp only [tvk h1, tvk h2] at hp
  by_cases e2 : u2 = 2
  · subst e2
    rw [il_n hne] at hp
    refine eX3_byLess _ _ _ (bnF rfl (sX3_known h18 h1 (ql (hp _ (fun i hi hi2 => ?_)))))
    rw [nI_1]
    have := lb_shm ⟨kw x y u1 + 1, by omega⟩ ⟨i, by omega⟩
    simp only at this
    rw [this, decide_eq_true_iff]
    show _ ↔ _ < 0 + 1 * i
    omega
  · rw [il_n e2] at hp
    refine eX3_byLess _ _ _ (bnT (fun z => e2 ((nI_eq (b := 2) (by omega) (by omega)).mp z)) ?_)
    by_cases e1 : u1 = 2
    · subst e1
      refine bnF rfl (sX3_known h18 h2 (ql (hp _ (fun i hi hi2 => ?_))))
      have := lb_sh1 ⟨kw x y u2, by omega⟩ ⟨i, by omega⟩
      simp only at this
      rw [this, decide_eq_true_iff]
      show _ ↔ 0 + 1 * i < _
      omega
    · rw [il_n e1] at hp
      refine bnT (fun z => e1 ((nI_eq (b := 2) (by omega) (by omega)).mp z)) (sX3_known h18 h1 (sX3_known h18 h2 (pk_le (kw x y u2) (kw x y u1) (fun g => ql (hp _ (fun i hi hi2 => ?_))) (fun g => ql (hp _ (fun i hi hi2 => ?_))))))
      · rw [lb_0]
        exact ⟨fun z => (by cases z), fun z => by omega⟩
      · exact ⟨fun _ => (by omega), fun _ => lb_m1 ⟨i, by omega⟩⟩
theorem lX3_narrow {x y : Nat} {N0 : Int64} (C : Cx κ M_X3_narrow (d + 2)) (Z : xR κ Q) (K : RelC st n hm nz bg wd) (KR : RelR st n q mt) (hs : s < 256) (h18 : st.1 18 0 = nI x ∧ st.1 18 1 = nI y) (hx : x ≤ 40) (hy : y ≤ 40) (hN : ∀ i, lb N0 i = true → 1 ≤ i ∧ i ≤ 40) (hq : ∀ N, (∀ i, lb N i = true ↔ nrw (st.1 32) (hcD (st.1 32) hm nz bg wd) x y s N0 q i) → Q (some (.long N)) st) : ∀ (f c : Nat) (N : Int64), c + f = q → (∀ i, lb N i = true ↔ nrw (st.1 32) (hcD (st.1 32) hm nz bg wd) x y s N0 c i) → X κ 6 [(0, .ref 3), (3, .int (nI s)), (4, .long N), (6, .int (nI c))] [] st
  | 0, c, N, e, h => by
    have h8 := KR.1
    have ec : c = q := by omega
    rw [ec] at h
    refine bX3_narrow_6 C Z _ _ _ _ ?_
    rw [KR.2.2.2.1.1]
    exact brT (nI_le (by omega) (by omega)) (hq N h)
  | f + 1, c, N, e, h => by
    have h8 := KR.1
    have hc : c < q := by omega
    have cc : (nI c).toNatClampNeg = c := nI_clamp (by omega)
    obtain ⟨⟨hu1, k1⟩, F⟩ := clF_of K.1 KR hc
    have e0 : st.1 (58 + c) 0 = st.1 32 (6 * c) := (KR.2.2.2.2 c hc).1 0 (by omega)
    have e1 : st.1 (58 + c) 1 = st.1 32 (6 * c + 1) := (KR.2.2.2.2 c hc).1 1 (by omega)
    have e2 : st.1 (58 + c) 2 = st.1 32 (6 * c + 2) := (KR.2.2.2.2 c hc).1 2 (by omega)
    have e3 : st.1 (58 + c) 3 = st.1 32 (6 * c + 3) := (KR.2.2.2.2 c hc).1 3 (by omega)
    have skip : (s.testBit c = true → (kD (st.1 32) c = 1 ∨ kD (st.1 32) c = 2) → False) → X κ 6 [(0, .ref 3), (3, .int (nI s)), (4, .long N), (6, .int (nI (c + 1)))] [] st := fun g => lX3_narrow C Z K KR hs h18 hx hy hN hq f (c + 1) N (by omega) (fun i => (h i).trans ⟨fun z => ⟨z.1, fun c' h' b k => by
      by_cases ec : c' = c
      · rw [ec] at b k
        exact (g b k).elim
      · exact z.2 c' (by omega) b k⟩, fun z => ⟨z.1, fun c' h' => z.2 c' (by omega)⟩⟩)
    have upd : ∀ N1 : Int64, (∀ i, 1 ≤ i → i ≤ 40 → (lb N1 i = true ↔ hcD (st.1 32) hm nz bg wd c x y i)) → s.testBit c = true → (kD (st.1 32) c = 1 ∨ kD (st.1 32) c = 2) → X κ 6 [(0, .ref 3), (3, .int (nI s)), (4, .long (N &&& N1)), (6, .int (nI (c + 1)))] [] st := fun N1 h1 hb hk => lX3_narrow C Z K KR hs h18 hx hy hN hq f (c + 1) _ (by omega) (fun i => by
      rw [lb_and, Bool.and_eq_true, h i]
      constructor
      · rintro ⟨z, z2⟩
        have b := hN i z.1
        refine ⟨z.1, fun c' h' b2 k => ?_⟩
        by_cases ec : c' = c
        · rw [ec]
          exact (h1 i b.1 b.2).mp z2
        · exact z.2 c' (by omega) b2 k
      · intro z
        have b := hN i z.1
        exact ⟨⟨z.1, fun c' h' => z.2 c' (by omega)⟩, (h1 i b.1 b.2).mpr (z.2 c (by omega) hb hk)⟩)
    refine bX3_narrow_6 C Z _ _ _ _ ?_
    simp only [cc, nI_1, c0, c1, c2, c3]
    rw [KR.2.2.2.1.1]
    refine brF (nI_ge (by omega) (by omega)) (brF (nI_ge (a := c) (b := 8) (by omega) (by omega)) ⟨fun z => hq N (fun i => ?_), fun _ => sX3_inSet hs (by omega) (fun b => f1 ⟨pk_in c 8 (by omega), ?_⟩) (fun b => f0 (skip (fun z => (b z).elim)))⟩)
    · have zz := (lg_cmp_eq _ _).mp z
      rw [zz] at h ⊢
      constructor
      · intro g
        rw [lb_0] at g
        cases g
      · intro g
        exact (h i).mpr ⟨g.1, fun c' h' => g.2 c' (by omega)⟩
    · rw [e0]
      rcases F with ⟨k, k0, -⟩ | ⟨k, k0, ⟨hj, k2⟩, hl, k3⟩ | ⟨k, k0, ⟨hj, k2⟩, hne⟩ | ⟨k, k0, -⟩
      · rw [k0]
        exact bnT (by decide) ⟨pk_in c 8 (by omega), bnT (by decide) (skip (fun _ z => by omega))⟩
      · rw [k0, e1, e2, e3, k1, k2, k3]
        refine bnF rfl ⟨pk_in c 8 (by omega), pk_in c 8 (by omega), pk_in c 8 (by omega), sX3_bySum h18 hx hy hu1 hj hl (fun N1 h1 => upd N1 (fun i hi hi2 => ?_) b (Or.inl k))⟩
        rw [hcD_1 k]
        exact h1 i hi hi2
      · rw [k0, e1, e2, k1, k2]
        refine bnT (by decide) ⟨pk_in c 8 (by omega), bnF rfl ⟨pk_in c 8 (by omega), pk_in c 8 (by omega), sX3_byLess h18 hx hy hu1 hj hne (fun N1 h1 => upd N1 (fun i hi hi2 => ?_) b (Or.inr k))⟩⟩
        rw [hcD_2 k]
        exact h1 i hi hi2
      · rw [k0]
        exact bnT (by decide) ⟨pk_in c 8 (by omega), bnT (by decide) (skip (fun _ z => by omega))⟩
theorem sX3_narrow {P : Int64 → xSt → Prop} {x y : Nat} {N0 : Int64} (K : RelC st n hm nz bg wd) (KR : RelR st n q mt) (hs : s < 256) (h18 : st.1 18 0 = nI x ∧ st.1 18 1 = nI y) (hx : x ≤ 40) (hy : y ≤ 40) (hN : ∀ i, lb N0 i = true → 1 ≤ i ∧ i ≤ 40) (hp : ∀ N, (∀ i, lb N i = true ↔ nrw (st.1 32) (hcD (st.1 32) hm nz bg wd) x y s N0 q i) → P N st) : Ct (d + 2) M_X3_narrow [.ref 3, .long N0, .int (nI s)] st (Ql P) := eX3_narrow _ _ _ (fun κ C Z => lX3_narrow C Z K KR hs h18 hx hy hN (fun N h => ql (hp N h)) q 0 N0 (by omega) (fun i => ⟨fun g => ⟨g, fun c' hc' => by omega⟩, fun g => g.1⟩))
end RCL
