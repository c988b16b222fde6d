/-- the cost of changing the first i items into the first j; u: of an item into another -/
def ds (u : Nat → Nat → Nat) : Nat → Nat → Nat
  | 0, j => 2 * j
  | i + 1, 0 => 2 * (i + 1)
  | i + 1, j + 1 => min (ds u i j + u i j) (min (ds u i (j + 1) + 2) (ds u (i + 1) j + 2))
theorem ds_0 (u : Nat → Nat → Nat) (j : Nat) : ds u 0 j = 2 * j := by rw [ds]
theorem ds_i0 (u : Nat → Nat → Nat) (i : Nat) : ds u i 0 = 2 * i := by cases i <;> rw [ds]
theorem ds_s (u : Nat → Nat → Nat) (i j : Nat) : ds u (i + 1) (j + 1) = min (ds u i j + u i j) (min (ds u i (j + 1) + 2) (ds u (i + 1) j + 2)) := by rw [ds]
theorem ds_le (u : Nat → Nat → Nat) : ∀ i j, ds u i j ≤ 2 * (i + j)
  | 0, j => by rw [ds_0]; omega
  | i + 1, 0 => by rw [ds_i0]; omega
  | i + 1, j + 1 => by
    have := ds_le u i (j + 1)
    rw [ds_s]
    omega
/-- the cost of an item into another -/
noncomputable def uc (len : Nat → Nat) (it : Nat → Nat → Int32) (a b i j : Nat) : Nat := @ite Nat (¬ iv len it a i = -1 ∧ ¬ iv len it b j = -1 ∧ ¬ iv len it a i = iv len it b j) (Classical.propDecidable _) 3 0
theorem uc_3 {len : Nat → Nat} {it : Nat → Nat → Int32} {a b i j : Nat} (h : ¬ iv len it a i = -1 ∧ ¬ iv len it b j = -1 ∧ ¬ iv len it a i = iv len it b j) : uc len it a b i j = 3 := if_pos h
theorem uc_0 {len : Nat → Nat} {it : Nat → Nat → Int32} {a b i j : Nat} (h : ¬ (¬ iv len it a i = -1 ∧ ¬ iv len it b j = -1 ∧ ¬ iv len it a i = iv len it b j)) : uc len it a b i j = 0 := if_neg h
theorem imin_nI {x y : Nat} (hx : x < 2 ^ 31) (hy : y < 2 ^ 31) : imin (nI x) (nI y) = nI (min x y) := by
  unfold imin
  by_cases h : y < x
  · rw [if_pos (nI_lt h hx), show min x y = y by omega]
  · rw [if_neg (nI_nlt (by omega) hy), show min x y = x by omega]
section S32
variable {q : Nat} {len yr : Nat → Nat} {it : Nat → Nat → Int32} {d a b : Nat} {P : Int32 → xSt → Prop} {κ : xK} {Q : Option Value → xSt → Prop}
/-- the same but for places ps -/
def Off (ps : List Nat) (st st' : xSt) : Prop := ∀ p k, p ∉ ps → st'.1 p k = st.1 p k
theorem Off.rfl {ps : List Nat} {st : xSt} : Off ps st st := fun _ _ _ => Eq.refl _
theorem Off.trans {ps : List Nat} {x y z : xSt} (h : Off ps x y) (h2 : Off ps y z) : Off ps x z := fun p k g => (h2 p k g).trans (h p k g)
theorem Off.up {ps : List Nat} {st : xSt} {p k : Nat} {v : Int32} (h : p ∈ ps) : Off ps st (xup st p k v) := fun q j g => xup_off (fun e => g (by rw [e.1]; exact h))
theorem Off.sm {ps : List Nat} {st st' : xSt} (h : Off ps st st') (hp : ∀ p ∈ ps, p = 25 ∨ p = 26 ∨ p = 41) : Sm st st' := fun p k g => h p k (fun hm => by
  have := hp p hm
  unfold inC inS inR inD inL inT at g
  omega)
theorem RelL.off {st st' : xSt} (K : RelL st q len yr it) {ps : List Nat} (h : Off ps st st') (hp : ∀ p ∈ ps, p = 25 ∨ p = 26 ∨ p = 41) : RelL st' q len yr it := K.sm (h.sm hp)
theorem c25 : ∀ p ∈ [25, 26], p = 25 ∨ p = 26 ∨ p = 41 := by decide
theorem c41 : ∀ p ∈ [41], p = 25 ∨ p = 26 ∨ p = 41 := by decide
/-- the class: a row -/
theorem lX2_63 (C : Cx κ M_X2_distance (d + 2)) (Z : xR κ Q) (ha : a < q) (hb : b < q) {i : Nat} (hi : i < len a) : ∀ (f j : Nat) (st : xSt), j + f = len b → RelL st q len yr it → (∀ k, k ≤ len b → st.1 25 k = nI (ds (uc len it a b) i k)) → (∀ k, k ≤ j → st.1 26 k = nI (ds (uc len it a b) (i + 1) k)) → (∀ st', Off [25, 26] st st' → (∀ k, k ≤ len b → st'.1 25 k = nI (ds (uc len it a b) (i + 1) k)) → X κ 40 [(0, .ref 5), (1, .int (nI a)), (2, .int (nI b)), (3, .int (nI (len b))), (4, .int (nI (i + 1 + 1)))] [] st') → X κ 63 [(0, .ref 5), (1, .int (nI a)), (2, .int (nI b)), (3, .int (nI (len b))), (4, .int (nI (i + 1))), (5, .int (nI (j + 1)))] [] st
  | 0, j, st, e, K, h25, h26, hq => by
    have kb := (K.2.2 b hb).1
    refine bX2_distance_63 C Z _ _ _ _ _ _ (brT (nI_lt (by omega) (by omega)) ?_)
    simp only [nI_1, c0]
    have ec : (nI (len b + 1)).toNatClampNeg = len b + 1 := nI_clamp (by omega)
    rw [ec]
    refine ⟨⟨by decide, by decide, nI_pos (by omega), by omega, by omega⟩, hq _ (fun p k g => ?_) (fun k hk => ?_)⟩
    · rw [(xcp_ne st 26 25 0 0 (len b + 1) p (fun e => g (by rw [e]; decide))).1]
    · rw [xcp_at, pk_cpy_in (by omega) (by omega)]
      rw [show 0 + (k - 0) = k by omega]
      exact h26 k (by omega)
  | f + 1, j, st, e, K, h25, h26, hq => by
    have ka := (K.2.2 a ha).1
    have kb := (K.2.2 b hb).1
    have d1 := ds_le (uc len it a b) i j
    have d2 := ds_le (uc len it a b) i (j + 1)
    have d3 := ds_le (uc len it a b) (i + 1) j
    have ei : nI (i + 1) - 1 = nI i := nI_pred i
    have ej : nI (j + 1) - 1 = nI j := nI_pred j
    have cj : (nI j).toNatClampNeg = j := nI_clamp (by omega)
    have cj1 : (nI (j + 1)).toNatClampNeg = j + 1 := nI_clamp (by omega)
    refine bX2_distance_63 C Z _ _ _ _ _ _ (brF (nI_nlt (by omega) (by omega)) ?_)
    rw [ei, ej, cj, cj1, h25 j (by omega)]
    have step : ∀ (c : Nat), c ≤ 3 → uc len it a b i j = c → X κ 63 [(0, .ref 5), (1, .int (nI a)), (2, .int (nI b)), (3, .int (nI (len b))), (4, .int (nI (i + 1))), (5, .int (nI (j + 1) + 1))] [] (xup st 26 (j + 1) (imin (nI (ds (uc len it a b) i j) + nI c) (2 + imin (st.1 25 (j + 1)) (st.1 26 j)))) := fun c hc ec => by
      have e2 : (2 : Int32) + nI (min (ds (uc len it a b) i (j + 1)) (ds (uc len it a b) (i + 1) j)) = nI (2 + min (ds (uc len it a b) i (j + 1)) (ds (uc len it a b) (i + 1) j)) := nI_add 2 _
      rw [h25 (j + 1) (by omega), h26 j (by omega), imin_nI (by omega) (by omega), e2, nI_add, imin_nI (by omega) (by omega)]
      have e3 : min (ds (uc len it a b) i j + c) (2 + min (ds (uc len it a b) i (j + 1)) (ds (uc len it a b) (i + 1) j)) = ds (uc len it a b) (i + 1) (j + 1) := by
        rw [ds_s, ec]
        omega
      rw [e3]
      simp only [nI_1]
      have of : Off [25, 26] st (xup st 26 (j + 1) (nI (ds (uc len it a b) (i + 1) (j + 1)))) := Off.up (by decide)
      refine lX2_63 C Z ha hb hi f (j + 1) _ (by omega) (K.off of c25) (fun k hk => by rw [xup_off (by omega)]; exact h25 k hk) (fun k hk => ?_) (fun st' o h => hq st' (of.trans o) h)
      by_cases ek : k = j + 1
      · rw [ek, xup_eq]
      · rw [xup_off (by omega)]
        exact h26 k (by omega)
    exact ⟨pk_in j 31 (by omega), sX2_item K ha (by omega) (sX2_item K hb (by omega) (sX2_unlike (fun g => ⟨pk_in (j + 1) 31 (by omega), pk_in j 31 (by omega), pk_in (j + 1) 31 (by omega), step 3 (by omega) (uc_3 g)⟩) (fun g => ⟨pk_in (j + 1) 31 (by omega), pk_in j 31 (by omega), pk_in (j + 1) 31 (by omega), step 0 (by omega) (uc_0 g)⟩)))⟩
theorem lX2_40 (C : Cx κ M_X2_distance (d + 2)) (Z : xR κ Q) (ha : a < q) (hb : b < q) : ∀ (f i : Nat) (st : xSt), i + f = len a → RelL st q len yr it → (∀ k, k ≤ len b → st.1 25 k = nI (ds (uc len it a b) i k)) → (∀ st', Off [25, 26] st st' → Q (some (.int (nI (ds (uc len it a b) (len a) (len b))))) st') → X κ 40 [(0, .ref 5), (1, .int (nI a)), (2, .int (nI b)), (3, .int (nI (len b))), (4, .int (nI (i + 1)))] [] st
  | 0, i, st, e, K, h25, hq => by
    have ka := (K.2.2 a ha).1
    have kb := (K.2.2 b hb).1
    refine bX2_distance_40 C Z _ _ _ _ _ (sX2_lengthOf K ha (brT (nI_lt (by omega) (by omega)) ⟨pk_in (len b) 31 (by omega), ?_⟩))
    rw [nI_clamp (by omega), h25 _ (Nat.le_refl _), show i = len a by omega]
    exact hq st Off.rfl
  | f + 1, i, st, e, K, h25, hq => by
    have ka := (K.2.2 a ha).1
    have kb := (K.2.2 b hb).1
    have e2 : (2 : Int32) * nI (i + 1) = nI (2 * (i + 1)) := pk_mul 2 _
    refine bX2_distance_40 C Z _ _ _ _ _ (sX2_lengthOf K ha (brF (nI_nlt (by omega) (by omega)) ?_))
    rw [c0, e2, ← ds_i0 (uc len it a b) (i + 1)]
    have of : Off [25, 26] st (xup st 26 0 (nI (ds (uc len it a b) (i + 1) 0))) := Off.up (by decide)
    refine lX2_63 C Z ha hb (by omega) (len b) 0 _ (by omega) (K.off of c25) (fun k hk => by rw [xup_off (by omega)]; exact h25 k hk) (fun k hk => by rw [show k = 0 by omega, xup_eq]) (fun s1 o1 h1 => ?_)
    exact lX2_40 C Z ha hb f (i + 1) s1 (by omega) (K.off (of.trans o1) c25) h1 (fun s2 o2 => hq s2 ((of.trans o1).trans o2))
theorem lX2_14 (C : Cx κ M_X2_distance (d + 2)) (Z : xR κ Q) (ha : a < q) (hb : b < q) : ∀ (f j : Nat) (st : xSt), j + f = len b + 1 → RelL st q len yr it → (∀ k, k < j → st.1 25 k = nI (2 * k)) → (∀ st', Off [25, 26] st st' → Q (some (.int (nI (ds (uc len it a b) (len a) (len b))))) st') → X κ 14 [(0, .ref 5), (1, .int (nI a)), (2, .int (nI b)), (3, .int (nI (len b))), (4, .int (nI j))] [] st
  | 0, j, st, e, K, h25, hq => by
    have kb := (K.2.2 b hb).1
    refine bX2_distance_14 C Z _ _ _ _ _ (brT (nI_lt (by omega) (by omega)) ?_)
    exact lX2_40 C Z ha hb (len a) 0 st (by omega) K (fun k hk => by rw [ds_0]; exact h25 k (by omega)) hq
  | f + 1, j, st, e, K, h25, hq => by
    have kb := (K.2.2 b hb).1
    have e2 : (2 : Int32) * nI j = nI (2 * j) := pk_mul 2 _
    refine bX2_distance_14 C Z _ _ _ _ _ (brF (nI_nlt (by omega) (by omega)) ⟨pk_in j 31 (by omega), ?_⟩)
    rw [e2, nI_clamp (by omega)]
    simp only [nI_1]
    have of : Off [25, 26] st (xup st 25 j (nI (2 * j))) := Off.up (by decide)
    refine lX2_14 C Z ha hb f (j + 1) _ (by omega) (K.off of c25) (fun k hk => ?_) (fun s2 o2 => hq s2 (of.trans o2))
    by_cases ek : k = j
    · rw [ek, xup_eq]
    · rw [xup_off (by omega)]
      exact h25 k (by omega)
theorem sX2_distance {st : xSt} (K : RelL st q len yr it) (ha : a < q) (hb : b < q) (hp : ∀ st', Off [25, 26] st st' → P (nI (ds (uc len it a b) (len a) (len b))) st') : Ct (d + 2) M_X2_distance [.ref 5, .int (nI a), .int (nI b)] st (Qi P) := by
  have kb := (K.2.2 b hb).1
  refine eX2_distance _ _ _ (fun κ C Z => sX2_lengthOf K hb ?_)
  have e : imin (nI (len b)) 30 = nI (len b) := by
    have := imin_nI (x := len b) (y := 30) (by omega) (by omega)
    rw [show min (len b) 30 = len b by omega] at this
    exact this
  rw [e]
  exact lX2_14 C Z ha hb (len b + 1) 0 st (by omega) K (fun k hk => by omega) (fun s2 o => qi (hp s2 o))
/-- the reference: the least of three -/
theorem dpH {x y z c : Nat} {ci : Int32} {A B D : Prop} {G : Int32 → Prop} (hci : ci = nI c) (hc : c ≤ 3) (hx : x ≤ 200) (hy : y ≤ 200) (hz : z ≤ 200) (hA : A) (hB : B) (hD : D) (hG : G (nI (min (x + c) (min (y + 2) (z + 2))))) : A ∧ ((nI x + ci ≤ nI y + 2 → B ∧ ((nI x + ci ≤ nI z + 2 → D ∧ G (nI x + ci)) ∧ (¬ nI x + ci ≤ nI z + 2 → D ∧ G (nI z + 2)))) ∧ (¬ nI x + ci ≤ nI y + 2 → B ∧ ((nI y + 2 ≤ nI z + 2 → D ∧ G (nI y + 2)) ∧ (¬ nI y + 2 ≤ nI z + 2 → D ∧ G (nI z + 2))))) := by
  have ex : nI x + ci = nI (x + c) := by rw [hci, nI_add]
  have ey : nI y + 2 = nI (y + 2) := nI_add y 2
  have ez : nI z + 2 = nI (z + 2) := nI_add z 2
  rw [ex, ey, ez]
  refine ⟨hA, pk_le (x + c) (y + 2) (fun g => ⟨hB, pk_le (x + c) (z + 2) (fun g2 => ⟨hD, ?_⟩) (fun g2 => ⟨hD, ?_⟩)⟩) (fun g => ⟨hB, pk_le (y + 2) (z + 2) (fun g2 => ⟨hD, ?_⟩) (fun g2 => ⟨hD, ?_⟩)⟩)⟩
  · rw [show min (x + c) (min (y + 2) (z + 2)) = x + c by omega] at hG
    exact hG
  · rw [show min (x + c) (min (y + 2) (z + 2)) = z + 2 by omega] at hG
    exact hG
  · rw [show min (x + c) (min (y + 2) (z + 2)) = y + 2 by omega] at hG
    exact hG
  · rw [show min (x + c) (min (y + 2) (z + 2)) = z + 2 by omega] at hG
    exact hG
theorem e31 {a b : Nat} : (31 : Int32) * nI a + nI b = nI (31 * a + b) := by
  have e : (31 : Int32) * nI a = nI (31 * a) := pk_mul 31 a
  rw [e, nI_add]
theorem eM1 {n : Nat} (h : 1 ≤ n) : nI n - 1 = nI (n - 1) := pk_sub (b := 1) h
theorem lX7_15 (C : Cx κ M_X7_changesOf d) (Z : xR κ Q) (ha : a < q) (hb : b < q) {i : Nat} (hi : i ≤ len a) : ∀ (f j : Nat) (st : xSt), j + f = len b + 1 → RelL st q len yr it → (∀ i' k, i' < i → k ≤ len b → st.1 41 (31 * i' + k) = nI (ds (uc len it a b) i' k)) → (∀ k, k < j → st.1 41 (31 * i + k) = nI (ds (uc len it a b) i k)) → (∀ st', Off [41] st st' → (∀ i' k, i' < i + 1 → k ≤ len b → st'.1 41 (31 * i' + k) = nI (ds (uc len it a b) i' k)) → X κ 2 [(0, .ref 7), (1, .int (nI a)), (2, .int (nI b)), (3, .int (nI (i + 1)))] [] st') → X κ 15 [(0, .ref 7), (1, .int (nI a)), (2, .int (nI b)), (3, .int (nI i)), (4, .int (nI j))] [] st
  | 0, j, st, e, K, hr, hc, hq => by
    have h8 := K.1
    have kb := K.2.2 b hb
    refine bX7_changesOf_15 C Z _ _ _ _ _ ⟨pk_in b 8 (by omega), ?_⟩
    rw [nI_clamp (n := b) (by omega), kb.2.1.2.1]
    refine brT (nI_lt (by omega) (by omega)) ?_
    simp only [nI_1]
    refine hq st Off.rfl (fun i' k h1 h2 => ?_)
    by_cases ei : i' = i
    · rw [ei]
      exact hc k (by omega)
    · exact hr i' k (by omega) h2
  | f + 1, j, st, e, K, hr, hc, hq => by
    have h8 := K.1
    have ka := K.2.2 a ha
    have kb := K.2.2 b hb
    have dl := ds_le (uc len it a b) i j
    have go : X κ 15 [(0, .ref 7), (1, .int (nI a)), (2, .int (nI b)), (3, .int (nI i)), (4, .int (nI j + 1))] [] (xup st 41 (31 * i + j) (nI (ds (uc len it a b) i j))) := by
      simp only [nI_1]
      have of : Off [41] st (xup st 41 (31 * i + j) (nI (ds (uc len it a b) i j))) := Off.up (by decide)
      refine lX7_15 C Z ha hb hi f (j + 1) _ (by omega) (K.off of c41) (fun i' k h1 h2 => by rw [xup_off (by omega)]; exact hr i' k h1 h2) (fun k hk => ?_) (fun st' o h => hq st' (of.trans o) h)
      by_cases ek : k = j
      · rw [ek, xup_eq]
      · rw [xup_off (by omega)]
        exact hc k (by omega)
    have e2 : (2 : Int32) * (nI i + nI j) = nI (2 * (i + j)) := by
      rw [nI_add]
      exact pk_mul 2 _
    have c31 : (nI (31 * i + j)).toNatClampNeg = 31 * i + j := nI_clamp (by omega)
    refine bX7_changesOf_15 C Z _ _ _ _ _ ⟨pk_in b 8 (by omega), ?_⟩
    rw [nI_clamp (n := b) (by omega), kb.2.1.2.1, e31, e2, c31]
    refine brF (nI_nlt (by omega) (by omega)) ?_
    by_cases hi0 : i = 0
    · subst hi0
      rw [ds_0] at go
      rw [show 2 * (0 + j) = 2 * j by omega]
      exact brT (by decide) ⟨pk_in (31 * 0 + j) 961 (by omega), go⟩
    · refine brF (nI_nle (by omega) (by omega)) ?_
      by_cases hj0 : j = 0
      · subst hj0
        rw [ds_i0] at go
        exact brT (by decide) ⟨pk_in (31 * i + 0) 961 (by omega), go⟩
      · refine brF (nI_nle (by omega) (by omega)) ?_
        obtain ⟨i1, rfl⟩ : ∃ i1, i = i1 + 1 := ⟨i - 1, by omega⟩
        obtain ⟨j1, rfl⟩ : ∃ j1, j = j1 + 1 := ⟨j - 1, by omega⟩
        have x1 := ds_le (uc len it a b) i1 j1
        have x2 := ds_le (uc len it a b) i1 (j1 + 1)
        have x3 := ds_le (uc len it a b) (i1 + 1) j1
        rw [ds_s] at go
        rw [eM1 (n := i1 + 1) (by omega), e30, e30, eM1 (n := 30 * a + (i1 + 1)) (by omega), eM1 (n := 30 * b + (j1 + 1)) (by omega), Nat.add_sub_cancel, e31, eM1 (n := 31 * i1 + (j1 + 1)) (by omega), eM1 (n := 31 * (i1 + 1) + (j1 + 1)) (by omega), show 30 * a + (i1 + 1) - 1 = 30 * a + i1 by omega, show 30 * b + (j1 + 1) - 1 = 30 * b + j1 by omega, show 31 * i1 + (j1 + 1) - 1 = 31 * i1 + j1 by omega, show 31 * (i1 + 1) + (j1 + 1) - 1 = 31 * (i1 + 1) + j1 by omega, nI_clamp (n := 30 * a + i1) (by omega), nI_clamp (n := 30 * b + j1) (by omega), nI_clamp (n := 31 * i1 + j1) (by omega), nI_clamp (n := 31 * i1 + (j1 + 1)) (by omega), nI_clamp (n := 31 * (i1 + 1) + j1) (by omega), m40 K ha (by omega), m40 K hb (by omega), hr i1 j1 (by omega) (by omega), hr i1 (j1 + 1) (by omega) (by omega), hc j1 (by omega)]
        have z0 : ¬ (¬ iv len it a i1 = -1 ∧ ¬ iv len it b j1 = -1 ∧ ¬ iv len it a i1 = iv len it b j1) → X κ 15 [(0, .ref 7), (1, .int (nI a)), (2, .int (nI b)), (3, .int (nI (i1 + 1))), (4, .int (nI (j1 + 1) + 1))] [] (xup st 41 (31 * (i1 + 1) + (j1 + 1)) (nI (min (ds (uc len it a b) i1 j1 + 0) (min (ds (uc len it a b) i1 (j1 + 1) + 2) (ds (uc len it a b) (i1 + 1) j1 + 2))))) := fun g => by
          rw [uc_0 g] at go
          exact go
        refine ⟨pk_in (30 * a + i1) 240 (by omega), pk_in (30 * b + j1) 240 (by omega), pk_in (31 * i1 + j1) 961 (by omega), fun g => dpH (c := 0) (G := fun v => X κ 15 [(0, .ref 7), (1, .int (nI a)), (2, .int (nI b)), (3, .int (nI (i1 + 1))), (4, .int (nI (j1 + 1) + 1))] [] (xup st 41 (31 * (i1 + 1) + (j1 + 1)) v)) rfl (by omega) (by omega) (by omega) (by omega) (pk_in (31 * i1 + (j1 + 1)) 961 (by omega)) (pk_in (31 * (i1 + 1) + j1) 961 (by omega)) (pk_in (31 * (i1 + 1) + (j1 + 1)) 961 (by omega)) (z0 (fun t => t.2.2 g)), fun g => ⟨fun g2 => dpH (c := 0) (G := fun v => X κ 15 [(0, .ref 7), (1, .int (nI a)), (2, .int (nI b)), (3, .int (nI (i1 + 1))), (4, .int (nI (j1 + 1) + 1))] [] (xup st 41 (31 * (i1 + 1) + (j1 + 1)) v)) rfl (by omega) (by omega) (by omega) (by omega) (pk_in (31 * i1 + (j1 + 1)) 961 (by omega)) (pk_in (31 * (i1 + 1) + j1) 961 (by omega)) (pk_in (31 * (i1 + 1) + (j1 + 1)) 961 (by omega)) (z0 (fun t => t.1 g2)), fun g2 => ⟨fun g3 => dpH (c := 3) (G := fun v => X κ 15 [(0, .ref 7), (1, .int (nI a)), (2, .int (nI b)), (3, .int (nI (i1 + 1))), (4, .int (nI (j1 + 1) + 1))] [] (xup st 41 (31 * (i1 + 1) + (j1 + 1)) v)) rfl (by omega) (by omega) (by omega) (by omega) (pk_in (31 * i1 + (j1 + 1)) 961 (by omega)) (pk_in (31 * (i1 + 1) + j1) 961 (by omega)) (pk_in (31 * (i1 + 1) + (j1 + 1)) 961 (by omega)) ?_, fun g3 => dpH (c := 0) (G := fun v => X κ 15 [(0, .ref 7), (1, .int (nI a)), (2, .int (nI b)), (3, .int (nI (i1 + 1))), (4, .int (nI (j1 + 1) + 1))] [] (xup st 41 (31 * (i1 + 1) + (j1 + 1)) v)) rfl (by omega) (by omega) (by omega) (by omega) (pk_in (31 * i1 + (j1 + 1)) 961 (by omega)) (pk_in (31 * (i1 + 1) + j1) 961 (by omega)) (pk_in (31 * (i1 + 1) + (j1 + 1)) 961 (by omega)) (z0 (fun t => t.2.1 g3))⟩⟩⟩
        rw [uc_3 ⟨g2, g3, g⟩] at go
        exact go
theorem lX7_2 (C : Cx κ M_X7_changesOf d) (Z : xR κ Q) (ha : a < q) (hb : b < q) : ∀ (f i : Nat) (st : xSt), i + f = len a + 1 → RelL st q len yr it → (∀ i' k, i' < i → k ≤ len b → st.1 41 (31 * i' + k) = nI (ds (uc len it a b) i' k)) → (∀ st', Off [41] st st' → Q (some (.int (nI (ds (uc len it a b) (len a) (len b))))) st') → X κ 2 [(0, .ref 7), (1, .int (nI a)), (2, .int (nI b)), (3, .int (nI i))] [] st
  | 0, i, st, e, K, hr, hq => by
    have h8 := K.1
    have ka := K.2.2 a ha
    have kb := K.2.2 b hb
    refine bX7_changesOf_2 C Z _ _ _ _ ⟨pk_in a 8 (by omega), ?_⟩
    rw [nI_clamp (n := a) (by omega), nI_clamp (n := b) (by omega), ka.2.1.2.1, kb.2.1.2.1, e31, nI_clamp (n := 31 * len a + len b) (by omega), hr (len a) (len b) (by omega) (by omega)]
    exact brT (nI_lt (by omega) (by omega)) ⟨pk_in a 8 (by omega), pk_in b 8 (by omega), pk_in (31 * len a + len b) 961 (by omega), hq st Off.rfl⟩
  | f + 1, i, st, e, K, hr, hq => by
    have h8 := K.1
    have ka := K.2.2 a ha
    refine bX7_changesOf_2 C Z _ _ _ _ ⟨pk_in a 8 (by omega), ?_⟩
    rw [nI_clamp (n := a) (by omega), ka.2.1.2.1]
    exact brF (nI_nlt (by omega) (by omega)) (lX7_15 C Z ha hb (by omega) (len b + 1) 0 st (by omega) K hr (fun k hk => by omega) (fun s1 o1 h1 => lX7_2 C Z ha hb f (i + 1) s1 (by omega) (K.off o1 c41) h1 (fun s2 o2 => hq s2 (o1.trans o2))))
theorem sX7_changesOf {st : xSt} (K : RelL st q len yr it) (ha : a < q) (hb : b < q) (hp : ∀ st', Off [41] st st' → P (nI (ds (uc len it a b) (len a) (len b))) st') : Ct d M_X7_changesOf [.ref 7, .int (nI a), .int (nI b)] st (Qi P) := eX7_changesOf _ _ _ (fun κ C Z => lX7_2 C Z ha hb (len a + 1) 0 st (by omega) K (fun i' k h => by omega) (fun s2 o => qi (hp s2 o)))
end S32
theorem g_changes (c x : Int32) : Good M_X6_changes M_X7_changes [.int c, .int x] := by
  intro st hR P hp
  have fin : ∀ v, P v v st := fun v => hp v st hR
  obtain ⟨n, -, -, -, -, ⟨q, len, yr, it, K⟩, -⟩ := id hR
  rcases isC q c with ⟨a, ha, rfl⟩ | h
  · rcases isC q x with ⟨b, hb, rfl⟩ | h
    · refine eX6_changes _ _ _ (sX2_has_in K ha (f1 (sX2_has_in K hb (f1 (sX2_distance K ha hb (fun s1 o1 => qi ?_))))))
      have K1 := K.off o1 c25
      exact eX7_changes _ _ _ (sX7_isList_in K1 ha (f1 (sX7_isList_in K1 hb (f1 (sX7_changesOf K1 ha hb (fun s2 o2 => qi (hp _ _ ((hR.sm (o1.sm c25)).sm (o2.sm c41)))))))))
    · exact eX6_changes _ _ _ (sX2_has_in K ha (f1 (sX2_has_no K h (f0 (qi (eX7_changes _ _ _ (sX7_isList_in K ha (f1 (sX7_isList_no K h (f0 (qi (fin _))))))))))))
  · exact eX6_changes _ _ _ (sX2_has_no K h (f0 (qi (eX7_changes _ _ _ (sX7_isList_no K h (f0 (qi (fin _))))))))
