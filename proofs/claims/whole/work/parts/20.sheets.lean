/-! SHEETS -/
def RS0 (st : xSt) (lv : Nat → Bool) (sz : Nat → Nat) : Prop := ∀ s, s < 4 → (lv s = true → (sz s ≤ 60 ∧ st.1 10 s = nI (sz s) ∧ st.1 43 s = 1 ∧ st.1 45 s = nI (sz s)) ∧ (st.1 9 s = st.1 44 s ∧ ∃ f, f ≤ 2 ∧ st.1 44 s = nI f) ∧ ∀ i, i < sz s → st.1 (48 + s) i = st.1 46 (60 * s + i)) ∧ (lv s = false → st.1 10 s = -1 ∧ st.1 43 s = 0)
theorem RS0.congr {st st' : xSt} {lv : Nat → Bool} {sz : Nat → Nat} (K : RS0 st lv sz) (h : ∀ p k, p = 9 ∨ p = 10 ∨ p = 43 ∨ p = 44 ∨ p = 45 ∨ p = 46 ∨ (48 ≤ p ∧ p < 52) → st'.1 p k = st.1 p k) : RS0 st' lv sz := by
  intro s hs
  obtain ⟨a, b⟩ := K s hs
  refine ⟨fun hl => ?_, fun hl => ?_⟩
  · obtain ⟨a1, a2, a3⟩ := a hl
    refine ⟨?_, ?_, fun i hi => ?_⟩
    · rw [h 10 s (by omega), h 43 s (by omega), h 45 s (by omega)]
      exact a1
    · rw [h 9 s (by omega), h 44 s (by omega)]
      exact a2
    · rw [h (48 + s) i (by omega), h 46 _ (by omega)]
      exact a3 i hi
  · rw [h 10 s (by omega), h 43 s (by omega)]
    exact b hl
section S20
variable {st : xSt} {lv : Nat → Bool} {sz : Nat → Nat} {d s i : Nat} {c : Int32} {P : Int32 → xSt → Prop}
theorem sX4_named_in (hs : s < 4) (hp : P 1 st) : Ct d M_X4_named [.ref 1, .int (nI s)] st (Qi P) := eX4_named _ _ (brF (nI_pos (by omega)) (brF (nI_ge (a := s) (b := 4) (by omega) (by omega)) (qi hp)))
theorem sX4_named_no (h : ∀ j, j < 4 → c ≠ nI j) (hp : P 0 st) : Ct d M_X4_named [.ref 1, .int c] st (Qi P) := by
  rcases pk_ix c (n := 4) (by omega) with g | g | ⟨j, hj, rfl⟩
  · exact eX4_named _ _ (brT g (qi hp))
  · exact eX4_named _ _ ⟨fun _ => qi hp, fun _ => brT g (qi hp)⟩
  · exact (h j hj rfl).elim
theorem sX7_isSheet_in (hs : s < 4) (hp : P 1 st) : Ct (d + 1) M_X7_isSheet [.int (nI s)] st (Qi P) := eX7_isSheet _ _ (sI1 ⟨nI_pos (by omega), nI_nlt (a := 3) (b := s) (by omega) (by omega)⟩ ⟨Or.inr rfl, qi hp⟩)
theorem sX7_isSheet_no (h : ∀ j, j < 4 → c ≠ nI j) (hp : P 0 st) : Ct (d + 1) M_X7_isSheet [.int c] st (Qi P) := by
  refine eX7_isSheet _ _ (sI0 (fun q => ?_) ⟨Or.inl rfl, qi hp⟩)
  obtain ⟨k, -, h2, rfl⟩ := rng (lo := 0) (hi := 3) (by omega) q (by omega)
  exact h k (by omega) rfl
theorem sX4_lost_live (K : RS0 st lv sz) (hs : s < 4) (hl : lv s = true) (hp : P 0 st) : Ct (d + 1) M_X4_lost [.ref 1, .int (nI s)] st (Qi P) := by
  have k := ((K s hs).1 hl).1
  refine eX4_lost _ _ (sX4_named_in hs (f1 ⟨pk_in s 4 hs, bnT ?_ (qi hp)⟩))
  rw [nI_clamp (by omega), k.2.1]
  exact nI_m1 (by omega)
theorem sX4_lost_dead (K : RS0 st lv sz) (hs : s < 4) (hl : lv s = false) (hp : P 1 st) : Ct (d + 1) M_X4_lost [.ref 1, .int (nI s)] st (Qi P) := by
  refine eX4_lost _ _ (sX4_named_in hs (f1 ⟨pk_in s 4 hs, bnF ?_ (qi hp)⟩))
  rw [nI_clamp (by omega)]
  exact ((K s hs).2 hl).1
theorem sX4_sizeOf (K : RS0 st lv sz) (hs : s < 4) (hl : lv s = true) (hp : P (nI (sz s)) st) : Ct (d + 2) M_X4_sizeOf [.ref 1, .int (nI s)] st (Qi P) := by
  refine eX4_sizeOf _ _ (sX4_lost_live K hs hl (f0 ⟨pk_in s 4 hs, qi ?_⟩))
  rw [nI_clamp (by omega), ((K s hs).1 hl).1.2.1]
  exact hp
theorem sX4_formOf (K : RS0 st lv sz) (hs : s < 4) (hl : lv s = true) (hp : P (st.1 44 s) st) : Ct (d + 2) M_X4_formOf [.ref 1, .int (nI s)] st (Qi P) := by
  refine eX4_formOf _ _ (sX4_lost_live K hs hl (f0 ⟨pk_in s 4 hs, qi ?_⟩))
  rw [nI_clamp (by omega), ((K s hs).1 hl).2.1.1]
  exact hp
theorem sX4_hasItem (K : RS0 st lv sz) (hs : s < 4) (hl : lv s = true) (hi : i < sz s) (hp : P 1 st) : Ct (d + 1) M_X4_hasItem [.ref 1, .int (nI s), .int (nI i)] st (Qi P) := by
  have k := ((K s hs).1 hl).1
  refine eX4_hasItem _ _ _ (sX4_named_in hs (f1 (brF (nI_pos (by omega)) ⟨pk_in s 4 hs, ?_⟩)))
  rw [nI_clamp (by omega), k.2.1]
  exact brF (nI_ge hi (by omega)) (brF (nI_ge (a := i) (b := 60) (by omega) (by omega)) (qi hp))
theorem sX4_item (K : RS0 st lv sz) (hs : s < 4) (hl : lv s = true) (hi : i < sz s) (hp : P (st.1 46 (60 * s + i)) st) : Ct (d + 2) M_X4_item [.ref 1, .int (nI s), .int (nI i)] st (Qi P) := by
  have k := ((K s hs).1 hl).1
  refine eX4_item _ _ _ (sX4_hasItem K hs hl hi (f1 ⟨pk_in s 4 hs, pk_in i 60 (by omega), qi ?_⟩))
  rw [nI_clamp (n := s) (by omega), nI_clamp (n := i) (by omega), ((K s hs).1 hl).2.2 i hi]
  exact hp
/-- a WORD, or none -/
noncomputable def wv (x : Int32) : Int32 := @ite Int32 (¬ x < 0 ∧ ¬ 99 < x) (Classical.propDecidable _) x (-1)
theorem wv_in {x : Int32} (h : ¬ x < 0 ∧ ¬ 99 < x) : wv x = x := if_pos h
theorem wv_no {x : Int32} (h : ¬ (¬ x < 0 ∧ ¬ 99 < x)) : wv x = -1 := if_neg h
theorem sX4_wordAt (K : RS0 st lv sz) (hs : s < 4) (hl : lv s = true) (hi : i < sz s) (hp : P (wv (st.1 46 (60 * s + i))) st) : Ct (d + 3) M_X4_wordAt [.ref 1, .int (nI s), .int (nI i)] st (Qi P) := by
  refine eX4_wordAt _ _ _ (sX4_item K hs hl hi ?_)
  by_cases h : ¬ st.1 46 (60 * s + i) < 0 ∧ ¬ 99 < st.1 46 (60 * s + i)
  · rw [wv_in h] at hp
    exact sW1 h (f1 (qi hp))
  · rw [wv_no h] at hp
    exact sW0 h (f0 (qi hp))
theorem e60 {a b : Nat} : (60 : Int32) * nI a + nI b = nI (60 * a + b) := by
  have e : (60 : Int32) * nI a = nI (60 * a) := pk_mul 60 a
  rw [e, nI_add]
end S20
/-- the two findings -/
theorem two_find {st : xSt} (hR : RR st) (k : Int32) : RR (xup (xup st 1 3 k) 7 31 k) := by
  refine hR.updS (fun p q h => ?_) (fun ⟨lv, sz, K⟩ => ⟨lv, sz, ?_, ?_⟩)
  · unfold inC inR inD inL inT at h
    rw [xup_off (by omega), xup_off (by omega)]
  · rw [xup_off (by omega), xup_eq, xup_eq]
  · exact RS0.congr (st := st) K.2 (fun p q h => by rw [xup_off (by omega), xup_off (by omega)])
theorem g_lose (c : Int32) : Good M_X6_lose M_X7_lose [.int c] := by
  intro st hR P hp
  have fin : ∀ v, P v v st := fun v => hp v st hR
  obtain ⟨n, -, ⟨lv, sz, K⟩, -⟩ := id hR
  rcases isC 4 c with ⟨s, hs, rfl⟩ | h
  · cases hl : lv s with
    | true =>
      have k := ((K.2 s hs).1 hl).1
      refine eX6_lose _ _ (sX4_named_in hs (g1 (sX4_lost_live K.2 hs hl (f0 (eX4_drop _ _ (sX4_lost_live K.2 hs hl (f0 ⟨pk_in s 4 hs, pk_in s 4 hs, qi (qi ?_)⟩)))))))
      rw [nI_clamp (by omega), k.2.1]
      refine eX7_lose _ _ (sX7_isSheet_in hs (g1 ⟨pk_in s 4 hs, ?_⟩))
      rw [nI_clamp (by omega), xup_off (q := 43) (by omega), k.2.2.1]
      refine bnT n10 ⟨pk_in s 4 hs, pk_in s 4 hs, qi ?_⟩
      rw [xup_off (by omega), xup_off (by omega), k.2.2.2]
      refine hp _ _ (hR.updS (fun p q h => ?_) (fun _ => ⟨fun x => if x = s then false else lv x, sz, ?_, fun x hx => ?_⟩))
      · unfold inC inR inD inL inT at h
        rw [xup_off (by omega), xup_off (by omega)]
      · rw [xup_off (by omega), xup_off (by omega), xup_off (by omega), xup_off (by omega)]
        exact K.1
      · by_cases e : x = s
        · subst e
          simp only [if_true]
          refine ⟨fun q => (by cases q), fun _ => ⟨?_, ?_⟩⟩
          · rw [xup_off (by omega), xup_eq]
          · rw [xup_eq]
            rfl
        · simp only [if_neg e]
          have fr : ∀ p k, ¬ (p = 10 ∧ k = s) → ¬ (p = 43 ∧ k = s) → (xup (xup st 10 s (-1)) 43 s (vp_nar .boolean 0)).1 p k = st.1 p k := fun p k a b => by rw [xup_off b, xup_off a]
          obtain ⟨a, b⟩ := K.2 x hx
          refine ⟨fun q => ?_, fun q => ?_⟩
          · obtain ⟨a1, a2, a3⟩ := a q
            refine ⟨?_, ?_, fun i hi => ?_⟩
            · rw [fr _ _ (by omega) (by omega), fr 43 _ (by omega) (by omega), fr 45 _ (by omega) (by omega)]
              exact a1
            · rw [fr _ _ (by omega) (by omega), fr 44 _ (by omega) (by omega)]
              exact a2
            · rw [fr _ _ (by omega) (by omega), fr 46 _ (by omega) (by omega)]
              exact a3 i hi
          · rw [fr _ _ (by omega) (by omega), fr 43 _ (by omega) (by omega)]
            exact b q
    | false =>
      refine eX6_lose _ _ (sX4_named_in hs (g1 (sX4_lost_dead K.2 hs hl (f1 (eX4_find _ _ (qi (qi ?_)))))))
      refine eX7_lose _ _ (sX7_isSheet_in hs (g1 ⟨pk_in s 4 hs, bnF ?_ (eX7_meets _ _ (qi (qi (hp _ _ (two_find hR _)))))⟩))
      rw [nI_clamp (by omega), xup_off (by omega)]
      exact ((K.2 s hs).2 hl).2
  · exact eX6_lose _ _ (sX4_named_no h (g0 (qi (eX7_lose _ _ (sX7_isSheet_no h (g0 (qi (fin _))))))))
