section S22
variable {st : xSt} {lv : Nat → Bool} {sz : Nat → Nat} {d s i : Nat} {κ : xK} {Q : Option Value → xSt → Prop}
theorem RelS.range {st' : xSt} (K : RelS st lv sz) (hs : s < 4) {lo hi : Nat} (w : Nat → Int32) (hhi : hi ≤ 60) (fr : ∀ p k, ¬ (p = 48 + s ∧ lo ≤ k ∧ k < hi) → ¬ (p = 46 ∧ 60 * s + lo ≤ k ∧ k < 60 * s + hi) → ¬ p = 47 → st'.1 p k = st.1 p k) (h1 : ∀ k, lo ≤ k → k < hi → st'.1 (48 + s) k = w k) (h2 : ∀ k, lo ≤ k → k < hi → st'.1 46 (60 * s + k) = w k) : RelS st' lv sz := by
  refine ⟨by rw [fr _ _ (by omega) (by omega) (by omega), fr 7 _ (by omega) (by omega) (by omega)]; exact K.1, fun x hx => ?_⟩
  obtain ⟨a, b⟩ := K.2 x hx
  refine ⟨fun q => ?_, fun q => ?_⟩
  · obtain ⟨a1, a2, a3⟩ := a q
    refine ⟨?_, ?_, fun y hy => ?_⟩
    · rw [fr _ _ (by omega) (by omega) (by omega), fr 43 _ (by omega) (by omega) (by omega), fr 45 _ (by omega) (by omega) (by omega)]
      exact a1
    · rw [fr _ _ (by omega) (by omega) (by omega), fr 44 _ (by omega) (by omega) (by omega)]
      exact a2
    · by_cases e : x = s ∧ lo ≤ y ∧ y < hi
      · obtain ⟨rfl, e1, e2⟩ := e
        rw [h1 y e1 e2, h2 y e1 e2]
      · rw [fr _ _ (by omega) (by omega) (by omega), fr 46 _ (by omega) (by omega) (by omega)]
        exact a3 y hy
  · rw [fr _ _ (by omega) (by omega) (by omega), fr 43 _ (by omega) (by omega) (by omega)]
    exact b q
theorem lJ7_fill {p0 n0 : Nat} {a1 : Int32} (C : Cx κ M_J7_fill_53178 d) (Z : xR κ Q) (hp0 : xshapes[p0]? = some (.inr (0, n0, 0))) (hn : n0 < 2 ^ 30) : ∀ (f i : Nat) (st : xSt), i + f = n0 → (∀ st' : xSt, (∀ q k, ¬ (q = p0 ∧ i ≤ k ∧ k < n0) → st'.1 q k = st.1 q k) → (∀ k, i ≤ k → k < n0 → st'.1 p0 k = a1) → Q none st') → X κ 5 [(0, .ref p0), (1, .int a1), (2, .int (nI i)), (3, .int (nI n0))] [] st
  | 0, i, st, e, hq => bJ7_fill_53178_5 C Z _ _ hp0 _ _ _ _ (brT (nI_le (by omega) (by omega)) (hq st (fun _ _ _ => rfl) (fun k h1 h2 => by omega)))
  | f + 1, i, st, e, hq => by
    refine bJ7_fill_53178_5 C Z _ _ hp0 _ _ _ _ (brF (nI_ge (by omega) (by omega)) ⟨pk_in i n0 (by omega), ?_⟩)
    rw [nI_clamp (by omega)]
    simp only [nI_1]
    refine lJ7_fill C Z hp0 hn f (i + 1) _ (by omega) (fun st' h1 h2 => hq st' (fun q k g => ?_) (fun k g1 g2 => ?_))
    · rw [h1 q k (by omega), xup_off (by omega)]
    · by_cases ek : k = i
      · subst ek
        rw [h1 p0 k (by omega), xup_eq]
      · exact h2 k (by omega) g2
theorem sJ7_fill {p0 n0 : Nat} {a1 : Int32} {P : xSt → Prop} (hp0 : xshapes[p0]? = some (.inr (0, n0, 0))) (hn : n0 < 2 ^ 30) (hp : ∀ st' : xSt, (∀ q k, ¬ (q = p0 ∧ k < n0) → st'.1 q k = st.1 q k) → (∀ k, k < n0 → st'.1 p0 k = a1) → P st') : Ct d M_J7_fill_53178 [.ref p0, .int a1] st (Qv P) :=
  eJ7_fill_53178 _ _ hp0 _ _ (fun κ C Z => lJ7_fill C Z hp0 hn n0 0 st (by omega) (fun st' h1 h2 => qv (hp st' (fun q k g => h1 q k (by omega)) (fun k g => h2 k (by omega) g))))
theorem lX7_sheet (C : Cx κ M_X7_sheet (d + 1)) (Z : xR κ Q) (hs : s < 4) {v : Int32} : ∀ (f i : Nat) (st : xSt), i + f = 60 → (∀ st' : xSt, (∀ q k, ¬ (q = 46 ∧ 60 * s + i ≤ k ∧ k < 60 * s + 60) → st'.1 q k = st.1 q k) → (∀ k, i ≤ k → k < 60 → st'.1 46 (60 * s + k) = 0) → Q (some (.int v)) st') → X κ 59 [(0, .ref 7), (1, .int (nI s)), (3, .int v), (4, .int (nI i))] [] st
  | 0, i, st, e, hq => by
    rw [show i = 60 by omega]
    exact bX7_sheet_59 C Z _ _ _ _ (brT (by decide) (hq st (fun _ _ _ => rfl) (fun k h1 h2 => by omega)))
  | f + 1, i, st, e, hq => by
    refine bX7_sheet_59 C Z _ _ _ _ (brF (nI_ge (b := 60) (by omega) (by omega)) ?_)
    rw [e60, nI_clamp (by omega)]
    refine ⟨pk_in (60 * s + i) 240 (by omega), ?_⟩
    simp only [nI_1]
    refine lX7_sheet C Z hs f (i + 1) _ (by omega) (fun st' h1 h2 => hq st' (fun q k g => ?_) (fun k g1 g2 => ?_))
    · rw [h1 q k (by omega), xup_off (by omega)]
    · by_cases ek : k = i
      · subst ek
        rw [h1 46 _ (by omega), xup_eq]
      · exact h2 k (by omega) g2
theorem le60 {x : Int32} (h0 : 0 ≤ x) (h : x ≤ 60) : ∃ z, z ≤ 60 ∧ x = nI z := by
  obtain ⟨k, -, h2, e⟩ := rng (a := x) (lo := 0) (hi := 60) (by omega) ⟨fun q => by
    have a := Int32.lt_iff_toInt_lt.mp q
    have b := Int32.le_iff_toInt_le.mp h0
    have c : (nI 0).toInt = (0 : Int32).toInt := rfl
    omega, fun q => by
    have a := Int32.lt_iff_toInt_lt.mp q
    have b := Int32.le_iff_toInt_le.mp h
    have c : (nI 60).toInt = (60 : Int32).toInt := rfl
    omega⟩ (by omega)
  exact ⟨k, h2, e⟩
end S22
theorem g_sheet (c f x : Int32) : Good M_X6_sheet M_X7_sheet [.int c, .int f, .int x] := by
  intro st hR P hp
  have fin : ∀ v, P v v st := fun v => hp v st hR
  obtain ⟨n, -, ⟨lv, sz, K⟩, -⟩ := id hR
  rcases isC 4 c with ⟨s, hs, rfl⟩ | h
  · by_cases hf : ¬ f < nI 0 ∧ ¬ nI 2 < f
    · by_cases hx : x ≤ 60
      · by_cases h0 : 0 ≤ x
        · obtain ⟨z, hz, rfl⟩ := le60 h0 hx
          obtain ⟨g, -, hg, rfl⟩ := rng (by omega) hf (by omega)
          refine eX6_sheet _ _ _ _ (sX4_named_in hs (f1 (sX4_isForm1 hf (f1 (brT hx (brT h0 (eX4_renew _ _ _ _ (sX4_named_in hs (f1 (sW1 ⟨nI_pos (by omega), nI_nlt (a := 60) (by omega) (by omega)⟩ (g1 ⟨pk_in s 4 hs, ?_⟩)))))))))))
          rw [nI_clamp (by omega)]
          refine sJ7_fill (shr_48 hs) (by omega) (fun s1 fr1 zr1 => ⟨pk_in s 4 hs, pk_in s 4 hs, qi (qi ?_)⟩)
          refine eX7_sheet _ _ _ _ (fun κ C Z => sX7_isSheet_in hs (f1 (sI1 hf (f1 (brT hx (brT h0 ⟨pk_in s 4 hs, pk_in s 4 hs, pk_in s 4 hs, ?_⟩))))))
          rw [nI_clamp (by omega)]
          refine lX7_sheet (d := 59) C Z hs 60 0 _ (by omega) (fun s2 fr2 zr2 => qi (hp _ _ (hR.updS (fun p q h => ?_) (fun _ => ⟨fun y => if y = s then true else lv y, fun y => if y = s then z else sz y, ?_, fun y hy => ?_⟩))))
          · unfold inC inR inD inL inT at h
            rw [fr2 p q (by omega), xup_off (by omega), xup_off (by omega), xup_off (by omega), xup_off (by omega), xup_off (by omega), fr1 p q (by omega)]
          · rw [fr2 _ _ (by omega), fr2 7 _ (by omega), xup_off (by omega), xup_off (by omega), xup_off (by omega), xup_off (by omega), xup_off (by omega), xup_off (by omega), xup_off (by omega), xup_off (by omega), xup_off (by omega), xup_off (by omega), fr1 _ _ (by omega), fr1 7 _ (by omega)]
            exact K.1
          · have fr : ∀ p k, ¬ (p = 48 + s ∧ k < 60) → ¬ (p = 46 ∧ 60 * s ≤ k ∧ k < 60 * s + 60) → ¬ ((p = 9 ∨ p = 10 ∨ p = 43 ∨ p = 44 ∨ p = 45) ∧ k = s) → s2.1 p k = st.1 p k := fun p k a b c => by rw [fr2 p k (by omega), xup_off (by omega), xup_off (by omega), xup_off (by omega), xup_off (by omega), xup_off (by omega), fr1 p k (by omega)]
            by_cases e : y = s
            · subst e
              simp only [if_true]
              refine ⟨fun _ => ⟨⟨hz, ?_, ?_, ?_⟩, ⟨?_, g, hg, ?_⟩, fun i hi => ?_⟩, fun q => (by cases q)⟩
              · rw [fr2 _ _ (by omega), xup_off (by omega), xup_off (by omega), xup_off (by omega), xup_eq]
              · rw [fr2 _ _ (by omega), xup_off (by omega), xup_off (by omega), xup_eq]
                rfl
              · rw [fr2 _ _ (by omega), xup_eq]
              · rw [fr2 _ _ (by omega), fr2 44 _ (by omega), xup_off (by omega), xup_off (by omega), xup_off (by omega), xup_off (by omega), xup_eq, xup_off (by omega), xup_eq]
              · rw [fr2 _ _ (by omega), xup_off (by omega), xup_eq]
              · rw [zr2 i (by omega) (by omega), fr2 _ _ (by omega), xup_off (by omega), xup_off (by omega), xup_off (by omega), xup_off (by omega), xup_off (by omega)]
                exact zr1 i (by omega)
            · simp only [if_neg e]
              obtain ⟨a, b⟩ := K.2 y hy
              refine ⟨fun q => ?_, fun q => ?_⟩
              · obtain ⟨a1, a2, a3⟩ := a q
                refine ⟨?_, ?_, fun i hi => ?_⟩
                · rw [fr _ _ (by omega) (by omega) (by omega), fr 43 _ (by omega) (by omega) (by omega), fr 45 _ (by omega) (by omega) (by omega)]
                  exact a1
                · rw [fr _ _ (by omega) (by omega) (by omega), fr 44 _ (by omega) (by omega) (by omega)]
                  exact a2
                · rw [fr _ _ (by omega) (by omega) (by omega), fr 46 _ (by omega) (by omega) (by omega)]
                  exact a3 i hi
              · rw [fr _ _ (by omega) (by omega) (by omega), fr 43 _ (by omega) (by omega) (by omega)]
                exact b q
        · refine eX6_sheet _ _ _ _ (sX4_named_in hs (f1 (sX4_isForm1 hf (f1 (brT hx (brF h0 (eX4_find _ _ (qi (qi ?_)))))))))
          exact eX7_sheet _ _ _ _ (fun κ C Z => sX7_isSheet_in hs (f1 (sI1 hf (f1 (brT hx (brF h0 (eX7_meets _ _ (qi (qi (hp _ _ (two_find hR _)))))))))))
      · exact eX6_sheet _ _ _ _ (sX4_named_in hs (f1 (sX4_isForm1 hf (f1 (brF hx (qi (eX7_sheet _ _ _ _ (fun κ C Z => sX7_isSheet_in hs (f1 (sI1 hf (f1 (brF hx (qi (fin _))))))))))))))
    · exact eX6_sheet _ _ _ _ (sX4_named_in hs (f1 (sX4_isForm0 hf (f0 (qi (eX7_sheet _ _ _ _ (fun κ C Z => sX7_isSheet_in hs (f1 (sI0 hf (f0 (qi (fin _))))))))))))
  · exact eX6_sheet _ _ _ _ (sX4_named_no h (f0 (qi (eX7_sheet _ _ _ _ (fun κ C Z => sX7_isSheet_no h (f0 (qi (fin _))))))))
