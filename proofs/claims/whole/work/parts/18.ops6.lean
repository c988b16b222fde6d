theorem rg1 (s x y : Int32) : s + (x - y) = s - (y - x) := by grind
theorem rg2 (x y n : Int32) : (x - y) + n = (x + n) - y := by grind
theorem rg3 (x y n : Int32) : (y - x) - n = y - (x + n) := by grind
theorem rg4 (x y : Int32) : -(x - y) = y - x := by grind
theorem sg1 {x y : Nat} (h : y ≤ x) : nI x - nI y = nI (x - y) - nI 0 := by
  rw [pk_sub h, pk_sub (Nat.zero_le _)]
  rfl
theorem sg2 {x y : Nat} (h : x ≤ y) : nI x - nI y = nI 0 - nI (y - x) := by
  have e : nI y = nI x + nI (y - x) := by rw [nI_add]; congr 1; omega
  have e0 : nI 0 = 0 := rfl
  rw [e, e0]
  generalize nI (y - x) = b
  generalize nI x = a
  grind
section D6
variable {st : xSt} {n p : Nat} {wy : Nat → Nat} {ow : Nat → Nat → Nat} {d a b j : Nat} {c : Int32} {P : Int32 → xSt → Prop} {κ : xK} {Q : Option Value → xSt → Prop}
theorem sX1_has_in (K : RelD st n p wy ow) (hj : j < p) (hp : P 1 st) : Ct d M_X1_has [.ref 4, .int (nI j)] st (Qi P) := by
  have h6 := K.1
  refine eX1_has _ _ (brF (nI_pos (by omega)) (brF ?_ (brF ?_ (qi hp))))
  · rw [K.2.1.1]
    exact nI_ge hj (by omega)
  · exact nI_ge (a := j) (b := 8) (by omega) (by omega)
theorem sX1_has_no (K : RelD st n p wy ow) (h : ∀ j, j < p → c ≠ nI j) (hp : P 0 st) : Ct d M_X1_has [.ref 4, .int c] st (Qi P) := by
  have h6 := K.1
  rcases pk_ix c (n := p) (by omega) with g | g | ⟨j, hj, rfl⟩
  · exact eX1_has _ _ (brT g (qi hp))
  · exact eX1_has _ _ ⟨fun _ => qi hp, fun _ => ⟨fun _ => qi hp, fun e => absurd (by rw [K.2.1.1]; exact g) e⟩⟩
  · exact (h j hj rfl).elim
theorem sX7_isPerson_in (K : RelD st n p wy ow) (hj : j < p) (hp : P 1 st) : Ct (d + 1) M_X7_isPerson [.ref 7, .int (nI j)] st (Qi P) := by
  have h6 := K.1
  refine eX7_isPerson _ _ (eX7_in _ _ _ _ ?_)
  rw [K.2.1.2]
  exact brF (nI_pos (by omega)) (brF (nI_dec_nlt (by omega) hj) (qi ⟨Or.inr rfl, qi hp⟩))
theorem sX7_isPerson_no (K : RelD st n p wy ow) (h : ∀ j, j < p → c ≠ nI j) (hp : P 0 st) : Ct (d + 1) M_X7_isPerson [.ref 7, .int c] st (Qi P) := by
  have h6 := K.1
  refine eX7_isPerson _ _ (eX7_in _ _ _ _ ?_)
  rw [K.2.1.2]
  rcases pk_ix c (n := p) (by omega) with g | g | ⟨j, hj, rfl⟩
  · exact brT g (qi ⟨Or.inl rfl, qi hp⟩)
  · exact ⟨fun _ => qi ⟨Or.inl rfl, qi hp⟩, fun _ => brT (nI_dec_lt (by omega) g) (qi ⟨Or.inl rfl, qi hp⟩)⟩
  · exact (h j hj rfl).elim
theorem sX1_left (K : RelD st n p wy ow) (ha : a < p) (hb : b < p) (hp : P (nI (ow a b)) st) : Ct (d + 1) M_X1_left [.ref 4, .int (nI a), .int (nI b)] st (Qi P) := by
  have h8 := K.1
  refine eX1_left _ _ _ (sX1_has_in K ha (f1 (sX1_has_in K hb (f1 ⟨pk_in a 8 (by omega), pk_in b 8 (by omega), qi ?_⟩))))
  rw [nI_clamp (n := a) (by omega), nI_clamp (n := b) (by omega), (K.2.2.2.1 a b (by omega) (by omega)).2.2.1]
  exact hp
theorem e8 {a b : Nat} : (8 : Int32) * nI a + nI b = nI (8 * a + b) := by
  have e : (8 : Int32) * nI a = nI (8 * a) := pk_mul 8 a
  rw [e, nI_add]
theorem sX7_owedBy (K : RelD st n p wy ow) (ha : a < 8) (hb : b < 8) (hp : P (nI (ow a b)) st) : Ct d M_X7_owedBy [.ref 7, .int (nI a), .int (nI b)] st (Qi P) := by
  have k := K.2.2.2.1 a b ha hb
  have k2 := K.2.2.2.1 b a hb ha
  refine eX7_owedBy _ _ _ ?_
  rw [e8, nI_clamp (by omega), k.2.2.2]
  refine ⟨pk_in (8 * a + b) 64 (by omega), ?_⟩
  by_cases h0 : ow a b = 0
  · refine brT ?_ (qi (by rw [h0] at hp; exact hp))
    refine Int32.le_iff_toInt_le.mpr ?_
    rw [pk_sub_toInt (by omega) (by omega)]
    have e0 : (0 : Int32).toInt = 0 := by decide
    omega
  · have h1 : ow b a = 0 := by omega
    rw [h1, pk_sub (Nat.zero_le _)]
    exact brF (nI_nle (by omega) (by omega)) ⟨pk_in (8 * a + b) 64 (by omega), qi hp⟩
theorem sX1_areTwo (K : RelD st n p wy ow) (ha : a < p) (hb : b < p) (hn : a ≠ b) (hp : P 1 st) : Ct (d + 1) M_X1_areTwo [.ref 4, .int (nI a), .int (nI b)] st (Qi P) := by
  have h8 := K.1
  exact eX1_areTwo _ _ _ (sX1_has_in K ha (f1 (sX1_has_in K hb (f1 (brF (fun q => hn ((nI_eq (by omega) (by omega)).mp q)) (qi hp))))))
/-- sums of what is owed to a person -/
def bl (ow : Nat → Nat → Nat) (a : Nat) : Nat → Int32
  | 0 => 0
  | q + 1 => bl ow a q + (nI (ow q a) - nI (ow a q))
theorem lX1_balance (C : Cx κ M_X1_balance (d + 2)) (Z : xR κ Q) (K : RelD st n p wy ow) (ha : a < p) (hq : Q (some (.int (bl ow a p))) st) : ∀ (f q : Nat), q + f = p → X κ 4 [(0, .ref 4), (1, .int (nI a)), (2, .int (bl ow a q)), (3, .int (nI q))] [] st
  | 0, q, e => by
    have h8 := K.1
    rw [show q = p by omega]
    refine bX1_balance_4 C Z _ _ _ _ (brT ?_ hq)
    rw [K.2.1.1]
    exact nI_le (by omega) (by omega)
  | f + 1, q, e => by
    have h8 := K.1
    refine bX1_balance_4 C Z _ _ _ _ (brF ?_ (sX1_left K (by omega) ha (sX1_left K ha (by omega) ?_)))
    · rw [K.2.1.1]
      exact nI_ge (by omega) (by omega)
    · simp only [nI_1]
      exact lX1_balance C Z K ha hq f (q + 1) (by omega)
theorem lX7_worth (C : Cx κ M_X7_worth (d + 1)) (Z : xR κ Q) (K : RelD st n p wy ow) (ha : a < p) (hq : Q (some (.int (bl ow a p))) st) : ∀ (f q : Nat), q + f = p → X κ 15 [(0, .ref 7), (1, .int (nI a)), (2, .int (bl ow a q)), (3, .int (nI q))] [] st
  | 0, q, e => by
    have h8 := K.1
    rw [show q = p by omega]
    refine bX7_worth_15 C Z _ _ _ _ (brT ?_ hq)
    rw [K.2.1.2]
    exact nI_le (by omega) (by omega)
  | f + 1, q, e => by
    have h8 := K.1
    refine bX7_worth_15 C Z _ _ _ _ (brF ?_ ?_)
    · rw [K.2.1.2]
      exact nI_ge (by omega) (by omega)
    · rw [e8, nI_clamp (by omega), (K.2.2.2.1 a q (by omega) (by omega)).2.2.2]
      refine ⟨pk_in (8 * a + q) 64 (by omega), ?_⟩
      simp only [nI_1]
      rw [← rg1]
      exact lX7_worth C Z K ha hq f (q + 1) (by omega)
end D6
theorem g_worth (a : Int32) : Good M_X6_worth M_X7_worth [.int a] := by
  intro st hR P hp
  have fin : ∀ v, P v v st := fun v => hp v st hR
  obtain ⟨n, -, -, -, ⟨p, wy, ow, K⟩, -⟩ := id hR
  rcases isC p a with ⟨x, hx, rfl⟩ | hx
  · refine eX6_worth _ _ (sX1_has_in K hx (f1 (eX1_balance _ _ (fun κ C Z => lX1_balance (d := 57) C Z K hx (qi (qi ?_)) p 0 (by omega)))))
    exact eX7_worth _ _ (fun κ C Z => sX7_isPerson_in K hx (g1 (lX7_worth (d := 59) C Z K hx (qi (fin _)) p 0 (by omega))))
  · exact eX6_worth _ _ (sX1_has_no K hx (f0 (qi (eX7_worth _ _ (fun κ C Z => sX7_isPerson_no K hx (g0 (qi (fin _))))))))
theorem two_cases (p : Nat) (a b : Int32) : (∃ x y, x < p ∧ y < p ∧ x ≠ y ∧ a = nI x ∧ b = nI y) ∨ (∀ x, x < p → a ≠ nI x) ∨ ((∃ x, x < p ∧ a = nI x) ∧ ∀ y, y < p → b ≠ nI y) ∨ ((∃ x, x < p ∧ a = nI x) ∧ a = b) := by
  rcases isC p a with ⟨x, hx, rfl⟩ | hx
  · rcases isC p b with ⟨y, hy, rfl⟩ | hy
    · by_cases e : x = y
      · exact Or.inr (Or.inr (Or.inr ⟨⟨x, hx, rfl⟩, by rw [e]⟩))
      · exact Or.inl ⟨x, y, hx, hy, e, rfl, rfl⟩
    · exact Or.inr (Or.inr (Or.inl ⟨⟨x, hx, rfl⟩, hy⟩))
  · exact Or.inr (Or.inl hx)
theorem g_owed (a b : Int32) : Good M_X6_owed M_X7_owed [.int a, .int b] := by
  intro st hR P hp
  have fin : ∀ v, P v v st := fun v => hp v st hR
  obtain ⟨n, -, -, -, ⟨p, wy, ow, K⟩, -⟩ := id hR
  have h8 := K.1
  rcases two_cases p a b with ⟨x, y, hx, hy, hn, rfl, rfl⟩ | h | ⟨⟨x, hx, rfl⟩, h⟩ | ⟨⟨x, hx, rfl⟩, rfl⟩
  · exact eX6_owed _ _ _ (sX1_areTwo K hx hy hn (f1 (sX1_left K hx hy (qi (eX7_owed _ _ _ (sX7_isPerson_in K hx (f1 (sX7_isPerson_in K hy (f1 (brF (fun q => hn ((nI_eq (by omega) (by omega)).mp q)) (sX7_owedBy K (by omega) (by omega) (qi (fin _)))))))))))))
  · exact eX6_owed _ _ _ (eX1_areTwo _ _ _ (sX1_has_no K h (f0 (qi (f0 (qi (eX7_owed _ _ _ (sX7_isPerson_no K h (f0 (qi (fin _)))))))))))
  · exact eX6_owed _ _ _ (eX1_areTwo _ _ _ (sX1_has_in K hx (f1 (sX1_has_no K h (f0 (qi (f0 (qi (eX7_owed _ _ _ (sX7_isPerson_in K hx (f1 (sX7_isPerson_no K h (f0 (qi (fin _)))))))))))))))
  · exact eX6_owed _ _ _ (eX1_areTwo _ _ _ (sX1_has_in K hx (f1 (sX1_has_in K hx (f1 (brT rfl (qi (f0 (qi (eX7_owed _ _ _ (sX7_isPerson_in K hx (f1 (sX7_isPerson_in K hx (f1 (brT rfl (qi (fin _)))))))))))))))))
theorem g_told (a b : Int32) : Good M_X6_told M_X7_told [.int a, .int b] := by
  intro st hR P hp
  have fin : ∀ v, P v v st := fun v => hp v st hR
  obtain ⟨n, ⟨hm, nz, bg, wd, KC⟩, -, -, ⟨p, wy, ow, K⟩, -⟩ := id hR
  have h8 := K.1
  rcases two_cases p a b with ⟨x, y, hx, hy, hn, rfl, rfl⟩ | h | ⟨⟨x, hx, rfl⟩, h⟩ | ⟨⟨x, hx, rfl⟩, rfl⟩
  · have w := K.2.2.1 y hy
    have k := (K.2.2.2.1 x y (by omega) (by omega)).1
    have hne : ¬ nI x = nI y := fun q => hn ((nI_eq (by omega) (by omega)).mp q)
    refine eX6_told _ _ _ (sX1_areTwo K hx hy hn (g1 (sX1_left K hx hy (eX1_countOf _ _ (sX1_has_in K hy (f1 ⟨pk_in y 8 (by omega), qi ?_⟩))))))
    rw [nI_clamp (by omega), w.2.1]
    by_cases h0 : ow x y = 0
    · rw [h0]
      refine bnF rfl (qi (eX7_told _ _ _ (sX7_isPerson_in K hx (f1 (sX7_isPerson_in K hy (f1 (bnT hne (sX7_owedBy K (by omega) (by omega) ?_))))))))
      rw [h0]
      exact bnF rfl (qi (fin _))
    · obtain ⟨v, hv⟩ : ∃ v, ow x y = v + 1 := ⟨ow x y - 1, by omega⟩
      rw [hv]
      refine bnT (nI_ne0 (by omega) (by omega)) (sX0_menOf KC w.1 (by omega) (sX0_placeOf KC w.1 (by omega) (qi (eX7_told _ _ _ (sX7_isPerson_in K hx (f1 (sX7_isPerson_in K hy (f1 (bnT hne (sX7_owedBy K (by omega) (by omega) ?_))))))))))
      rw [hv, nI_clamp (by omega)]
      refine bnT (nI_ne0 (by omega) (by omega)) ⟨pk_in y 8 (by omega), ?_⟩
      rw [w.2.2]
      refine sX7_menOf KC w.1 (by omega) ⟨pk_in y 8 (by omega), ?_⟩
      rw [w.2.2]
      exact sX7_placeOf KC w.1 (by omega) (qi (fin _))
  · exact eX6_told _ _ _ (eX1_areTwo _ _ _ (sX1_has_no K h (f0 (qi (g0 (qi (eX7_told _ _ _ (sX7_isPerson_no K h (f0 (qi (fin _)))))))))))
  · exact eX6_told _ _ _ (eX1_areTwo _ _ _ (sX1_has_in K hx (f1 (sX1_has_no K h (f0 (qi (g0 (qi (eX7_told _ _ _ (sX7_isPerson_in K hx (f1 (sX7_isPerson_no K h (f0 (qi (fin _)))))))))))))))
  · exact eX6_told _ _ _ (eX1_areTwo _ _ _ (sX1_has_in K hx (f1 (sX1_has_in K hx (f1 (brT rfl (qi (g0 (qi (eX7_told _ _ _ (sX7_isPerson_in K hx (f1 (sX7_isPerson_in K hx (f1 (bnF rfl (qi (fin _)))))))))))))))))
