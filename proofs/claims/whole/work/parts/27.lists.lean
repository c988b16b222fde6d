theorem cn_zero {p : Nat → Prop} : ∀ {n : Nat}, (∀ v, v < n → ¬ p v) → cn p n = 0
  | 0, _ => rfl
  | n + 1, h => by rw [cn_no (h n (by omega)), cn_zero (fun v hv => h v (by omega))]
theorem cn_mono {p q : Nat → Prop} (h : ∀ v, p v → q v) : ∀ n, cn p n ≤ cn q n
  | 0 => Nat.le_refl _
  | n + 1 => by
    have ih := cn_mono h n
    by_cases hp : p n
    · rw [cn_yes hp, cn_yes (h n hp)]; omega
    · rw [cn_no hp]
      by_cases hq : q n
      · rw [cn_yes hq]; omega
      · rw [cn_no hq]; exact ih
section S27
variable {st : xSt} {q : Nat} {len yr : Nat → Nat} {it : Nat → Nat → Int32} {d l i : Nat} {c : Int32} {P : Int32 → xSt → Prop} {κ : xK} {Q : Option Value → xSt → Prop}
theorem sX2_has_in (K : RelL st q len yr it) (hj : l < q) (hp : P 1 st) : Ct d M_X2_has [.ref 5, .int (nI l)] st (Qi P) := by
  have h6 := K.1
  refine eX2_has _ _ (brF (nI_pos (by omega)) (brF ?_ (brF ?_ (qi hp))))
  · rw [K.2.1.1]
    exact nI_ge hj (by omega)
  · exact nI_ge (a := l) (b := 8) (by omega) (by omega)
theorem sX2_has_no (K : RelL st q len yr it) (h : ∀ j, j < q → c ≠ nI j) (hp : P 0 st) : Ct d M_X2_has [.ref 5, .int c] st (Qi P) := by
  have h6 := K.1
  rcases pk_ix c (n := q) (by omega) with g | g | ⟨j, hj, rfl⟩
  · exact eX2_has _ _ (brT g (qi hp))
  · exact eX2_has _ _ ⟨fun _ => qi hp, fun _ => ⟨fun _ => qi hp, fun e => absurd (by rw [K.2.1.1]; exact g) e⟩⟩
  · exact (h j hj rfl).elim
theorem sX7_isList_in (K : RelL st q len yr it) (hj : l < q) (hp : P 1 st) : Ct (d + 1) M_X7_isList [.ref 7, .int (nI l)] st (Qi P) := by
  have h6 := K.1
  refine eX7_isList _ _ (eX7_in _ _ _ _ ?_)
  rw [K.2.1.2]
  exact brF (nI_pos (by omega)) (brF (nI_dec_nlt (by omega) hj) (qi ⟨Or.inr rfl, qi hp⟩))
theorem sX7_isList_no (K : RelL st q len yr it) (h : ∀ j, j < q → c ≠ nI j) (hp : P 0 st) : Ct (d + 1) M_X7_isList [.ref 7, .int c] st (Qi P) := by
  have h6 := K.1
  refine eX7_isList _ _ (eX7_in _ _ _ _ ?_)
  rw [K.2.1.2]
  rcases pk_ix c (n := q) (by omega) with g | g | ⟨j, hj, rfl⟩
  · exact brT g (qi ⟨Or.inl rfl, qi hp⟩)
  · exact ⟨fun _ => qi ⟨Or.inl rfl, qi hp⟩, fun _ => brT (nI_dec_lt (by omega) g) (qi ⟨Or.inl rfl, qi hp⟩)⟩
  · exact (h j hj rfl).elim
theorem sX2_lengthOf (K : RelL st q len yr it) (hl : l < q) (hp : P (nI (len l)) st) : Ct (d + 1) M_X2_lengthOf [.ref 5, .int (nI l)] st (Qi P) := by
  have h8 := K.1
  refine eX2_lengthOf _ _ (sX2_has_in K hl (f1 ⟨pk_in l 8 (by omega), qi ?_⟩))
  rw [nI_clamp (by omega), (K.2.2 l hl).2.1.1]
  exact hp
theorem sX2_yearOf (K : RelL st q len yr it) (hl : l < q) (hp : P (nI (yr l)) st) : Ct (d + 1) M_X2_yearOf [.ref 5, .int (nI l)] st (Qi P) := by
  have h8 := K.1
  refine eX2_yearOf _ _ (sX2_has_in K hl (f1 ⟨pk_in l 8 (by omega), qi ?_⟩))
  rw [nI_clamp (by omega), (K.2.2 l hl).2.1.2.2.1]
  exact hp
/-- item i of list l, or none -/
def iv (len : Nat → Nat) (it : Nat → Nat → Int32) (l i : Nat) : Int32 := if i < len l then it l i else -1
theorem sX2_item (K : RelL st q len yr it) (hl : l < q) (hi : i < 2 ^ 30) (hp : P (iv len it l i) st) : Ct (d + 1) M_X2_item [.ref 5, .int (nI l), .int (nI i)] st (Qi P) := by
  have h8 := K.1
  have k := K.2.2 l hl
  refine eX2_item _ _ _ (sX2_has_in K hl (f1 (brF (nI_pos (by omega)) ⟨pk_in l 8 (by omega), ?_⟩)))
  rw [nI_clamp (n := l) (by omega), nI_clamp (n := i) (by omega), k.2.1.1]
  unfold iv at hp
  refine pk_le (len l) i (fun h => ?_) (fun h => ?_)
  · rw [if_neg (by omega)] at hp
    exact qi hp
  · rw [if_pos h] at hp
    refine brF (nI_ge (a := i) (b := 30) (by omega) (by omega)) ⟨pk_in l 8 (by omega), pk_in i 30 (by omega), qi ?_⟩
    rw [(k.2.2 i h).1]
    exact hp
theorem e30 {a b : Nat} : (30 : Int32) * nI a + nI b = nI (30 * a + b) := by
  have e : (30 : Int32) * nI a = nI (30 * a) := pk_mul 30 a
  rw [e, nI_add]
theorem m40 (K : RelL st q len yr it) (hl : l < q) (hi : i < len l) : st.1 40 (30 * l + i) = iv len it l i := by
  unfold iv
  rw [if_pos hi]
  exact ((K.2.2 l hl).2.2 i hi).2.1
/-- gaps; could be of tens; of tens -/
def pg (len : Nat → Nat) (it : Nat → Nat → Int32) (l v : Nat) : Prop := iv len it l v = -1
def p1 (len : Nat → Nat) (it : Nat → Nat → Int32) (l v : Nat) : Prop := 10 ≤ v ∧ ¬ iv len it l v = -1 ∧ ¬ iv len it l (v % 10) = -1
def p2 (len : Nat → Nat) (it : Nat → Nat → Int32) (l v : Nat) : Prop := p1 len it l v ∧ iv len it l v = iv len it l (v % 10)
theorem lX2_gaps (C : Cx κ M_X2_gaps (d + 2)) (Z : xR κ Q) (K : RelL st q len yr it) (hl : l < q) (hq : Q (some (.int (nI (cn (pg len it l) (len l))))) st) : ∀ (f v : Nat), v + f = len l → X κ 4 [(0, .ref 5), (1, .int (nI l)), (2, .int (nI (cn (pg len it l) v))), (3, .int (nI v))] [] st
  | 0, v, e => by
    have k := (K.2.2 l hl).1
    rw [show v = len l by omega]
    exact bX2_gaps_4 C Z _ _ _ _ (sX2_lengthOf K hl (brT (nI_le (by omega) (by omega)) hq))
  | f + 1, v, e => by
    have k := (K.2.2 l hl).1
    refine bX2_gaps_4 C Z _ _ _ _ (sX2_lengthOf K hl (brF (nI_ge (by omega) (by omega)) (sX2_item K hl (by omega) ⟨fun g => ?_, fun g => ?_⟩)))
    · simp only [nI_1]
      rw [← cn_no (p := pg len it l) g]
      exact lX2_gaps C Z K hl hq f (v + 1) (by omega)
    · simp only [nI_1]
      rw [← cn_yes (p := pg len it l) g]
      exact lX2_gaps C Z K hl hq f (v + 1) (by omega)
theorem lX7_gaps (C : Cx κ M_X7_listOf (d + 1)) (Z : xR κ Q) (K : RelL st q len yr it) (hl : l < q) (hq : Q (some (.int (nI (cn (pg len it l) (len l))))) st) : ∀ (f v : Nat), v + f = len l → X κ 53 [(0, .ref 7), (1, .int (nI l)), (3, .int (nI (cn (pg len it l) v))), (4, .int (nI v))] [] st
  | 0, v, e => by
    have h8 := K.1
    have k := K.2.2 l hl
    rw [show v = len l by omega]
    refine bX7_listOf_53 C Z _ _ _ _ ⟨pk_in l 8 (by omega), ?_⟩
    rw [nI_clamp (n := l) (by omega), k.2.1.2.1]
    exact brT (nI_le (by omega) (by omega)) hq
  | f + 1, v, e => by
    have h8 := K.1
    have k := K.2.2 l hl
    refine bX7_listOf_53 C Z _ _ _ _ ⟨pk_in l 8 (by omega), ?_⟩
    rw [nI_clamp (n := l) (by omega), k.2.1.2.1, e30, nI_clamp (n := 30 * l + v) (by omega), m40 K hl (by omega)]
    refine brF (nI_ge (by omega) (by omega)) ⟨pk_in (30 * l + v) 240 (by omega), fun g => ?_, fun g => ?_⟩
    · simp only [nI_1, i_add0]
      rw [← cn_no (p := pg len it l) g]
      exact lX7_gaps C Z K hl hq f (v + 1) (by omega)
    · simp only [nI_1]
      rw [← cn_yes (p := pg len it l) g]
      exact lX7_gaps C Z K hl hq f (v + 1) (by omega)
theorem m10 {v : Nat} (hv : v < 2 ^ 30) : nI v - nI v / 10 * 10 = nI (v % 10) := pk_rem (d := 10) (by omega) (by omega) (by omega)
theorem sX2_couldBeOfTens (K : RelL st q len yr it) (hl : l < q) {v : Nat} (hv : v < 2 ^ 30) (h10 : 10 ≤ v) (h1 : p1 len it l v → P 1 st) (h0 : ¬ p1 len it l v → P 0 st) : Ct (d + 2) M_X2_couldBeOfTens [.ref 5, .int (nI l), .int (nI v)] st (Qi P) := by
  refine eX2_couldBeOfTens _ _ _ (brF (nI_nlt (b := 10) (by omega) (by omega)) (sX2_item K hl hv ⟨fun g => qi (h0 (fun t => t.2.1 g)), fun g => ?_⟩))
  rw [m10 hv]
  exact sX2_item K hl (by omega) ⟨fun g2 => qi (h0 (fun t => t.2.2 g2)), fun g2 => qi (h1 ⟨h10, g, g2⟩)⟩
theorem lX2_ofTens (C : Cx κ M_X2_ofTens (d + 3)) (Z : xR κ Q) (K : RelL st q len yr it) (hl : l < q) (hq : Q (some (.int (nI (cn (p2 len it l) (max 10 (len l)))))) st) : ∀ (f v : Nat), v + f = max 10 (len l) → 10 ≤ v → X κ 5 [(0, .ref 5), (1, .int (nI l)), (2, .int (nI (cn (p2 len it l) v))), (3, .int (nI v))] [] st
  | 0, v, e, h10 => by
    have k := (K.2.2 l hl).1
    rw [show v = max 10 (len l) by omega]
    exact bX2_ofTens_5 C Z _ _ _ _ (sX2_lengthOf K hl (brT (nI_le (by omega) (by omega)) hq))
  | f + 1, v, e, h10 => by
    have k := (K.2.2 l hl).1
    refine bX2_ofTens_5 C Z _ _ _ _ (sX2_lengthOf K hl (brF (nI_ge (by omega) (by omega)) (sX2_couldBeOfTens K hl (by omega) h10 (fun g => f1 (sX2_item K hl (by omega) ?_)) (fun g => f0 ?_))))
    · rw [m10 (by omega)]
      refine sX2_item K hl (by omega) ⟨fun g2 => ?_, fun g2 => ?_⟩
      · simp only [nI_1]
        rw [← cn_no (p := p2 len it l) (fun t => g2 t.2)]
        exact lX2_ofTens C Z K hl hq f (v + 1) (by omega) (by omega)
      · simp only [nI_1]
        rw [← cn_yes (p := p2 len it l) ⟨g, g2⟩]
        exact lX2_ofTens C Z K hl hq f (v + 1) (by omega) (by omega)
    · simp only [nI_1]
      rw [← cn_no (p := p2 len it l) (fun t => g t.1)]
      exact lX2_ofTens C Z K hl hq f (v + 1) (by omega) (by omega)
theorem cn10 (p : Nat → Prop) (h : ∀ v, p v → 10 ≤ v) : nI (cn p 10) = 0 := by
  rw [cn_zero (fun v hv t => by have := h v t; omega)]
  rfl
theorem sX2_ofTens (K : RelL st q len yr it) (hl : l < q) (hp : P (nI (cn (p2 len it l) (max 10 (len l)))) st) : Ct (d + 3) M_X2_ofTens [.ref 5, .int (nI l)] st (Qi P) := by
  have k := (K.2.2 l hl).1
  refine eX2_ofTens _ _ (fun κ C Z => ?_)
  have := lX2_ofTens C Z K hl (qi hp) (max 10 (len l) - 10) 10 (by omega) (by omega)
  rw [cn10 _ (fun v t => t.1.1)] at this
  exact this
theorem lX2_isShopped (C : Cx κ M_X2_isShopped (d + 4)) (Z : xR κ Q) (K : RelL st q len yr it) (hl : l < q) (h1 : (0 < cn (p1 len it l) (max 10 (len l)) ∧ cn (p1 len it l) (max 10 (len l)) ≤ 2 * cn (p2 len it l) (max 10 (len l))) → Q (some (.int 1)) st) (h0 : ¬ (0 < cn (p1 len it l) (max 10 (len l)) ∧ cn (p1 len it l) (max 10 (len l)) ≤ 2 * cn (p2 len it l) (max 10 (len l))) → Q (some (.int 0)) st) : ∀ (f v : Nat), v + f = max 10 (len l) → 10 ≤ v → X κ 5 [(0, .ref 5), (1, .int (nI l)), (2, .int (nI (cn (p1 len it l) v))), (3, .int (nI v))] [] st
  | 0, v, e, h10 => by
    have k := (K.2.2 l hl).1
    have c1 := cn_le (p1 len it l) (max 10 (len l))
    have c2 := cn_le (p2 len it l) (max 10 (len l))
    rw [show v = max 10 (len l) by omega]
    refine bX2_isShopped_5 C Z _ _ _ _ (sX2_lengthOf K hl (brT (nI_le (by omega) (by omega)) ?_))
    refine pk_le (cn (p1 len it l) (max 10 (len l))) 0 (fun g => h0 (fun t => by omega)) (fun g => sX2_ofTens K hl ?_)
    have e2 : (2 : Int32) * nI (cn (p2 len it l) (max 10 (len l))) = nI (2 * cn (p2 len it l) (max 10 (len l))) := pk_mul 2 _
    rw [e2]
    exact pk_lt _ _ (fun g2 => h0 (fun t => by omega)) (fun g2 => h1 ⟨g, g2⟩)
  | f + 1, v, e, h10 => by
    have k := (K.2.2 l hl).1
    refine bX2_isShopped_5 C Z _ _ _ _ (sX2_lengthOf K hl (brF (nI_ge (by omega) (by omega)) (sX2_couldBeOfTens K hl (by omega) h10 (fun g => f1 ?_) (fun g => f0 ?_))))
    · simp only [nI_1]
      rw [← cn_yes (p := p1 len it l) g]
      exact lX2_isShopped C Z K hl h1 h0 f (v + 1) (by omega) (by omega)
    · simp only [nI_1]
      rw [← cn_no (p := p1 len it l) g]
      exact lX2_isShopped C Z K hl h1 h0 f (v + 1) (by omega) (by omega)
theorem lX7_tens (C : Cx κ M_X7_tens d) (Z : xR κ Q) (K : RelL st q len yr it) (hl : l < q) {x : Int32} {p : Nat → Prop} (hx : (x = 0 ∧ p = p1 len it l) ∨ (¬ x = 0 ∧ p = p2 len it l)) (hq : Q (some (.int (nI (cn p (max 10 (len l)))))) st) : ∀ (f v : Nat), v + f = max 10 (len l) → 10 ≤ v → X κ 6 [(0, .ref 7), (1, .int (nI l)), (2, .int x), (3, .int (nI (cn p v))), (4, .int (nI v))] [] st
  | 0, v, e, h10 => by
    have h8 := K.1
    have k := K.2.2 l hl
    rw [show v = max 10 (len l) by omega]
    refine bX7_tens_6 C Z _ _ _ _ _ ⟨pk_in l 8 (by omega), ?_⟩
    rw [nI_clamp (n := l) (by omega), k.2.1.2.1]
    exact brT (nI_le (by omega) (by omega)) hq
  | f + 1, v, e, h10 => by
    have h8 := K.1
    have k := K.2.2 l hl
    have ng : ¬ p v → X κ 6 [(0, .ref 7), (1, .int (nI l)), (2, .int x), (3, .int (nI (cn p v) + 0)), (4, .int (nI v + 1))] [] st := fun g => by
      simp only [nI_1, i_add0]
      rw [← cn_no g]
      exact lX7_tens C Z K hl hx hq f (v + 1) (by omega) (by omega)
    have ps : p v → X κ 6 [(0, .ref 7), (1, .int (nI l)), (2, .int x), (3, .int (nI (cn p v) + 1)), (4, .int (nI v + 1))] [] st := fun g => by
      simp only [nI_1]
      rw [← cn_yes g]
      exact lX7_tens C Z K hl hx hq f (v + 1) (by omega) (by omega)
    have no1 : ¬ p1 len it l v → ¬ p v := fun g t => by
      rcases hx with ⟨-, rfl⟩ | ⟨-, rfl⟩
      · exact g t
      · exact g t.1
    refine bX7_tens_6 C Z _ _ _ _ _ ⟨pk_in l 8 (by omega), ?_⟩
    rw [nI_clamp (n := l) (by omega), k.2.1.2.1, m10 (by omega), e30, e30, nI_clamp (n := 30 * l + v) (by omega), nI_clamp (n := 30 * l + v % 10) (by omega), m40 K hl (by omega), m40 K hl (by omega)]
    refine brF (nI_ge (by omega) (by omega)) ⟨pk_in (30 * l + v) 240 (by omega), pk_in (30 * l + v % 10) 240 (by omega), fun g => ng (no1 (fun t => t.2.1 g)), fun g => ⟨fun g2 => ng (no1 (fun t => t.2.2 g2)), fun g2 => ?_⟩⟩
    rcases hx with ⟨hx0, rfl⟩ | ⟨hx0, rfl⟩
    · exact brT hx0 (ps ⟨h10, g, g2⟩)
    · exact brF hx0 ⟨fun g3 => ng (fun t => g3 t.2), fun g3 => ps ⟨⟨h10, g, g2⟩, g3⟩⟩
theorem sX7_tens1 (K : RelL st q len yr it) (hl : l < q) (hp : P (nI (cn (p2 len it l) (max 10 (len l)))) st) : Ct d M_X7_tens [.ref 7, .int (nI l), .int 1] st (Qi P) := by
  have k := (K.2.2 l hl).1
  refine eX7_tens _ _ _ (fun κ C Z => ?_)
  have := lX7_tens C Z K hl (Or.inr ⟨n10, rfl⟩) (qi hp) (max 10 (len l) - 10) 10 (by omega) (by omega)
  rw [cn10 _ (fun v t => t.1.1)] at this
  exact this
theorem sX7_tens0 (K : RelL st q len yr it) (hl : l < q) (hp : P (nI (cn (p1 len it l) (max 10 (len l)))) st) : Ct d M_X7_tens [.ref 7, .int (nI l), .int 0] st (Qi P) := by
  have k := (K.2.2 l hl).1
  refine eX7_tens _ _ _ (fun κ C Z => ?_)
  have := lX7_tens C Z K hl (Or.inl ⟨rfl, rfl⟩) (qi hp) (max 10 (len l) - 10) 10 (by omega) (by omega)
  rw [cn10 _ (fun v t => t.1)] at this
  exact this
/-- what is told of a list -/
noncomputable def li (len yr : Nat → Nat) (it : Nat → Nat → Int32) (l : Nat) (w : Int32) : Int32 := if w = 0 then nI (len l) else if w = 1 then nI (yr l) else if w = 2 then nI (cn (pg len it l) (len l)) else if w = 3 then nI (cn (p2 len it l) (max 10 (len l))) else if w = 4 then (if 0 < cn (p1 len it l) (max 10 (len l)) ∧ cn (p1 len it l) (max 10 (len l)) ≤ 2 * cn (p2 len it l) (max 10 (len l)) then 1 else 0) else -2
theorem five {w : Int32} : (w.toInt < 0 ∨ 4 < w.toInt) ∨ w = nI 0 ∨ w = nI 1 ∨ w = nI 2 ∨ w = nI 3 ∨ w = nI 4 := by
  have : (w.toInt < 0 ∨ 4 < w.toInt) ∨ w.toInt = 0 ∨ w.toInt = 1 ∨ w.toInt = 2 ∨ w.toInt = 3 ∨ w.toInt = 4 := by omega
  rcases this with h | h | h | h | h | h
  · exact Or.inl h
  · exact Or.inr (Or.inl ((i32_lit (k := 0) (by omega)).mp h))
  · exact Or.inr (Or.inr (Or.inl ((i32_lit (k := 1) (by omega)).mp h)))
  · exact Or.inr (Or.inr (Or.inr (Or.inl ((i32_lit (k := 2) (by omega)).mp h))))
  · exact Or.inr (Or.inr (Or.inr (Or.inr (Or.inl ((i32_lit (k := 3) (by omega)).mp h)))))
  · exact Or.inr (Or.inr (Or.inr (Or.inr (Or.inr ((i32_lit (k := 4) (by omega)).mp h)))))
theorem li_no {w : Int32} (h : w.toInt < 0 ∨ 4 < w.toInt) : li len yr it l w = -2 := by
  have e0 : (0 : Int32).toInt = 0 := by decide
  have e1 : (1 : Int32).toInt = 1 := by decide
  have e2 : (2 : Int32).toInt = 2 := by decide
  have e3 : (3 : Int32).toInt = 3 := by decide
  have e4 : (4 : Int32).toInt = 4 := by decide
  unfold li
  rw [if_neg (fun q => by rw [q] at h; omega), if_neg (fun q => by rw [q] at h; omega), if_neg (fun q => by rw [q] at h; omega), if_neg (fun q => by rw [q] at h; omega), if_neg (fun q => by rw [q] at h; omega)]
theorem sX6_listIs (K : RelL st q len yr it) (hl : l < q) {w : Int32} (hp : P (li len yr it l w) st) : Ct (d + 5) M_X6_listIs [.ref 0, .int (nI l), .int w] st (Qi P) := by
  have k := (K.2.2 l hl).1
  refine eX6_listIs _ _ _ (sX2_has_in K hl (g1 ?_))
  rcases five (w := w) with h | rfl | rfl | rfl | rfl | rfl
  · rw [li_no h] at hp
    exact ⟨fun _ => qi hp, fun e => by omega, fun e => by omega, fun e => by omega, fun e => by omega, fun e => by omega⟩
  · exact ⟨fun e => absurd e (by decide), fun _ => sX2_lengthOf K hl (qi hp), fun e => absurd e (by decide), fun e => absurd e (by decide), fun e => absurd e (by decide), fun e => absurd e (by decide)⟩
  · exact ⟨fun e => absurd e (by decide), fun e => absurd e (by decide), fun _ => sX2_yearOf K hl (qi hp), fun e => absurd e (by decide), fun e => absurd e (by decide), fun e => absurd e (by decide)⟩
  · exact ⟨fun e => absurd e (by decide), fun e => absurd e (by decide), fun e => absurd e (by decide), fun _ => eX2_gaps _ _ (fun κ C Z => lX2_gaps (d := d + 2) C Z K hl (qi (qi hp)) (len l) 0 (by omega)), fun e => absurd e (by decide), fun e => absurd e (by decide)⟩
  · exact ⟨fun e => absurd e (by decide), fun e => absurd e (by decide), fun e => absurd e (by decide), fun e => absurd e (by decide), fun _ => sX2_ofTens (d := d + 1) K hl (qi hp), fun e => absurd e (by decide)⟩
  · refine ⟨fun e => absurd e (by decide), fun e => absurd e (by decide), fun e => absurd e (by decide), fun e => absurd e (by decide), fun e => absurd e (by decide), fun _ => eX2_isShopped _ _ (fun κ C Z => ?_)⟩
    have hp2 : P (if 0 < cn (p1 len it l) (max 10 (len l)) ∧ cn (p1 len it l) (max 10 (len l)) ≤ 2 * cn (p2 len it l) (max 10 (len l)) then 1 else 0) st := hp
    have := lX2_isShopped (d := d) C Z K hl (fun t => qi (f1 (qi (by rw [if_pos t] at hp2; exact hp2)))) (fun t => qi (f0 (qi (by rw [if_neg t] at hp2; exact hp2)))) (max 10 (len l) - 10) 10 (by omega) (by omega)
    rw [cn10 _ (fun v t => t.1)] at this
    exact this
theorem sX7_listOf (K : RelL st q len yr it) (hl : l < q) {w : Int32} (hp : P (li len yr it l w) st) : Ct (d + 1) M_X7_listOf [.ref 7, .int (nI l), .int w] st (Qi P) := by
  have h8 := K.1
  have k := K.2.2 l hl
  have c1 := cn_le (p1 len it l) (max 10 (len l))
  have c2 := cn_le (p2 len it l) (max 10 (len l))
  have c3 := cn_mono (p := p2 len it l) (q := p1 len it l) (fun v t => t.1) (max 10 (len l))
  refine eX7_listOf _ _ _ (fun κ C Z => ?_)
  rw [nI_clamp (n := l) (by omega), k.2.1.2.1, k.2.1.2.2.2]
  rcases five (w := w) with h | rfl | rfl | rfl | rfl | rfl
  · rw [li_no h] at hp
    exact ⟨fun _ => qi hp, fun e => by omega, fun e => by omega, fun e => by omega, fun e => by omega, fun e => by omega⟩
  · exact ⟨fun e => absurd e (by decide), fun _ => ⟨pk_in l 8 (by omega), qi hp⟩, fun e => absurd e (by decide), fun e => absurd e (by decide), fun e => absurd e (by decide), fun e => absurd e (by decide)⟩
  · exact ⟨fun e => absurd e (by decide), fun e => absurd e (by decide), fun _ => ⟨pk_in l 8 (by omega), qi hp⟩, fun e => absurd e (by decide), fun e => absurd e (by decide), fun e => absurd e (by decide)⟩
  · exact ⟨fun e => absurd e (by decide), fun e => absurd e (by decide), fun e => absurd e (by decide), fun _ => lX7_gaps C Z K hl (qi hp) (len l) 0 (by omega), fun e => absurd e (by decide), fun e => absurd e (by decide)⟩
  · exact ⟨fun e => absurd e (by decide), fun e => absurd e (by decide), fun e => absurd e (by decide), fun e => absurd e (by decide), fun _ => sX7_tens1 K hl (qi hp), fun e => absurd e (by decide)⟩
  · refine ⟨fun e => absurd e (by decide), fun e => absurd e (by decide), fun e => absurd e (by decide), fun e => absurd e (by decide), fun e => absurd e (by decide), fun _ => sX7_tens1 K hl ?_⟩
    have hp2 : P (if 0 < cn (p1 len it l) (max 10 (len l)) ∧ cn (p1 len it l) (max 10 (len l)) ≤ 2 * cn (p2 len it l) (max 10 (len l)) then 1 else 0) st := hp
    refine pk_le (cn (p2 len it l) (max 10 (len l))) 0 (fun g => ?_) (fun g => sX7_tens1 K hl (sX7_tens0 K hl ?_))
    · rw [if_neg (by omega)] at hp2
      exact qi hp2
    · have e2 : (2 : Int32) * nI (cn (p2 len it l) (max 10 (len l))) = nI (2 * cn (p2 len it l) (max 10 (len l))) := pk_mul 2 _
      rw [e2]
      refine pk_lt _ _ (fun g2 => ?_) (fun g2 => ?_)
      · rw [if_neg (by omega)] at hp2
        exact qi hp2
      · rw [if_pos (by omega)] at hp2
        exact qi hp2
end S27
theorem g_listIs (c w : Int32) : Good M_X6_listIs M_X7_listIs [.int c, .int w] := by
  intro st hR P hp
  have fin : ∀ v, P v v st := fun v => hp v st hR
  obtain ⟨n, -, -, -, -, ⟨q, len, yr, it, K⟩, -⟩ := id hR
  rcases isC q c with ⟨l, hl, rfl⟩ | h
  · exact sX6_listIs (d := 55) K hl (eX7_listIs _ _ _ (sX7_isList_in K hl (f1 (sX7_listOf K hl (qi (fin _))))))
  · exact eX6_listIs _ _ _ (sX2_has_no K h (g0 (qi (eX7_listIs _ _ _ (sX7_isList_no K h (f0 (qi (fin _))))))))
theorem g_word (c x : Int32) : Good M_X6_word M_X7_word [.int c, .int x] := by
  intro st hR P hp
  have fin : ∀ v, P v v st := fun v => hp v st hR
  obtain ⟨n, -, -, -, -, ⟨q, len, yr, it, K⟩, -⟩ := id hR
  have h8 := K.1
  rcases isC q c with ⟨l, hl, rfl⟩ | h
  · have k := K.2.2 l hl
    by_cases hx : ¬ x < 0 ∧ ¬ nI (len l) - 1 < x
    · obtain ⟨i, hi, rfl⟩ := ixIn (by omega) hx
      refine eX6_word _ _ _ (sX2_has_in K hl (f1 (sX2_lengthOf K hl (sW1 hx (g1 (sX2_item K hl (by omega) (qi ?_)))))))
      refine eX7_word _ _ _ (sX7_isList_in K hl (f1 ⟨pk_in l 8 (by omega), ?_⟩))
      rw [nI_clamp (n := l) (by omega), k.2.1.2.1]
      refine sI1 hx (f1 ?_)
      rw [e30, nI_clamp (by omega), m40 K hl hi]
      exact ⟨pk_in (30 * l + i) 240 (by omega), qi (fin _)⟩
    · refine eX6_word _ _ _ (sX2_has_in K hl (f1 (sX2_lengthOf K hl (sW0 hx (g0 (qi ?_))))))
      refine eX7_word _ _ _ (sX7_isList_in K hl (f1 ⟨pk_in l 8 (by omega), ?_⟩))
      rw [nI_clamp (n := l) (by omega), k.2.1.2.1]
      exact sI0 hx (f0 (qi (fin _)))
  · exact eX6_word _ _ _ (sX2_has_no K h (f0 (qi (eX7_word _ _ _ (sX7_isList_no K h (f0 (qi (fin _))))))))
