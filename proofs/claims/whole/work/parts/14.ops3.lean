section RD
variable {st : xSt} {n q mt d : Nat} {P : Int32 → xSt → Prop}
/-- one more clue in the class -/
theorem sX3_add (hq : st.1 3 4 = nI q) (h8 : q < 8) {a1 a2 a3 a4 : Int32} (hp : ∀ st', (∀ p k, ¬ (p = 58 + q ∧ k < 4) → ¬ (p = 3 ∧ k = 4) → st'.1 p k = st.1 p k) → (st'.1 (58 + q) 0 = a1 ∧ st'.1 (58 + q) 1 = a2 ∧ st'.1 (58 + q) 2 = a3 ∧ st'.1 (58 + q) 3 = a4) → st'.1 3 4 = nI (q + 1) → P (nI (q + 1)) st') : Ct d M_X3_add [.ref 3, .int a1, .int a2, .int a3, .int a4] st (Qi P) := by
  have e : (nI q).toNatClampNeg = q := nI_clamp (by omega)
  have off : ∀ (s : xSt) (k : Nat) (v : Int32), (xup s (58 + q) k v).1 3 4 = s.1 3 4 := fun s k v => xup_off (by omega)
  refine eX3_add _ _ _ _ _ ?_
  simp only [hq, e, off, c0, c1, c2, c3, xup_eq, nI_1]
  refine brT (nI_lt (b := 8) h8 (by omega)) ⟨pk_in q 8 h8, pk_in q 8 h8, pk_in q 8 h8, pk_in q 8 h8, qi (hp _ (fun p k g1 g2 => ?_) ⟨?_, ?_, ?_, ?_⟩ ?_)⟩
  · rw [xup_off (by omega), xup_off (by omega), xup_off (by omega), xup_off (by omega), xup_off (by omega)]
  · rw [xup_off (by omega), xup_off (by omega), xup_off (by omega), xup_off (by omega), xup_eq]
  · rw [xup_off (by omega), xup_off (by omega), xup_off (by omega), xup_eq]
  · rw [xup_off (by omega), xup_off (by omega), xup_eq]
  · rw [xup_off (by omega), xup_eq]
  · rw [xup_eq]
/-- one more clue in the reference -/
theorem sX7_clueMore (hq : st.1 7 6 = nI q) (h8 : q < 8) {a1 a2 a3 a4 a5 a6 : Int32} (hp : ∀ st', (∀ p k, ¬ (p = 32 ∧ 6 * q ≤ k ∧ k < 6 * q + 6) → ¬ (p = 7 ∧ k = 6) → st'.1 p k = st.1 p k) → (st'.1 32 (6 * q) = a1 ∧ st'.1 32 (6 * q + 1) = a2 ∧ st'.1 32 (6 * q + 2) = a3 ∧ st'.1 32 (6 * q + 3) = a4 ∧ st'.1 32 (6 * q + 4) = a5 ∧ st'.1 32 (6 * q + 5) = a6) → st'.1 7 6 = nI (q + 1) → P (nI (q + 1)) st') : Ct d M_X7_clueMore [.ref 7, .int a1, .int a2, .int a3, .int a4, .int a5, .int a6] st (Qi P) := by
  have e6 : (6 : Int32) * nI q = nI (6 * q) := pk_mul 6 q
  have e0 : (nI (6 * q)).toNatClampNeg = 6 * q := nI_clamp (by omega)
  have e1 : nI (6 * q) + 1 = nI (6 * q + 1) := nI_add _ 1
  have e2 : nI (6 * q) + 2 = nI (6 * q + 2) := nI_add _ 2
  have e3 : nI (6 * q) + 3 = nI (6 * q + 3) := nI_add _ 3
  have e4 : nI (6 * q) + 4 = nI (6 * q + 4) := nI_add _ 4
  have e5 : nI (6 * q) + 5 = nI (6 * q + 5) := nI_add _ 5
  have k1 : (nI (6 * q + 1)).toNatClampNeg = 6 * q + 1 := nI_clamp (by omega)
  have k2 : (nI (6 * q + 2)).toNatClampNeg = 6 * q + 2 := nI_clamp (by omega)
  have k3 : (nI (6 * q + 3)).toNatClampNeg = 6 * q + 3 := nI_clamp (by omega)
  have k4 : (nI (6 * q + 4)).toNatClampNeg = 6 * q + 4 := nI_clamp (by omega)
  have k5 : (nI (6 * q + 5)).toNatClampNeg = 6 * q + 5 := nI_clamp (by omega)
  have off : ∀ (s : xSt) (k : Nat) (v : Int32), (xup s 32 k v).1 7 6 = s.1 7 6 := fun s k v => xup_off (by omega)
  refine eX7_clueMore _ _ _ _ _ _ _ ?_
  simp only [hq, e6, e0, e1, e2, e3, e4, e5, k1, k2, k3, k4, k5, off, xup_eq, nI_1]
  refine bnT (fun z => by have := (nI_eq (a := q) (b := 8) (by omega) (by omega)).mp z; omega) ⟨pk_in (6 * q) 48 (by omega), pk_in (6 * q + 1) 48 (by omega), pk_in (6 * q + 2) 48 (by omega), pk_in (6 * q + 3) 48 (by omega), pk_in (6 * q + 4) 48 (by omega), pk_in (6 * q + 5) 48 (by omega), qi (hp _ (fun p k g1 g2 => ?_) ⟨?_, ?_, ?_, ?_, ?_, ?_⟩ ?_)⟩
  · rw [xup_off (by omega), xup_off (by omega), xup_off (by omega), xup_off (by omega), xup_off (by omega), xup_off (by omega), xup_off (by omega)]
  · rw [xup_off (by omega), xup_off (by omega), xup_off (by omega), xup_off (by omega), xup_off (by omega), xup_off (by omega), xup_eq]
  · rw [xup_off (by omega), xup_off (by omega), xup_off (by omega), xup_off (by omega), xup_off (by omega), xup_eq]
  · rw [xup_off (by omega), xup_off (by omega), xup_off (by omega), xup_off (by omega), xup_eq]
  · rw [xup_off (by omega), xup_off (by omega), xup_off (by omega), xup_eq]
  · rw [xup_off (by omega), xup_off (by omega), xup_eq]
  · rw [xup_off (by omega), xup_eq]
  · rw [xup_eq]
theorem sX3_add_full (hq : st.1 3 4 = nI 8) {a1 a2 a3 a4 : Int32} (hp : P (-4) st) : Ct d M_X3_add [.ref 3, .int a1, .int a2, .int a3, .int a4] st (Qi P) := by
  refine eX3_add _ _ _ _ _ (brF ?_ (qi hp))
  rw [hq]
  decide
theorem sX7_clueMore_full (hq : st.1 7 6 = nI 8) {a1 a2 a3 a4 a5 a6 : Int32} (hp : P (-4) st) : Ct d M_X7_clueMore [.ref 7, .int a1, .int a2, .int a3, .int a4, .int a5, .int a6] st (Qi P) := eX7_clueMore _ _ _ _ _ _ _ (bnF hq (qi hp))
/-- the clue that both have laid down is one more clue of the relation -/
theorem RelR.more {st' : xSt} (K : RelR st n q mt) (h8 : q < 8) (fr : ∀ p k, ¬ (p = 58 + q) → ¬ (p = 32 ∧ 6 * q ≤ k ∧ k < 6 * q + 6) → ¬ (p = 3 ∧ k = 4) → ¬ (p = 7 ∧ k = 6) → st'.1 p k = st.1 p k) (h1 : st'.1 3 4 = nI (q + 1)) (h2 : st'.1 7 6 = nI (q + 1)) (h3 : ∀ f, f < 4 → st'.1 (58 + q) f = st'.1 32 (6 * q + f)) (h4 : clueOK st' n q) : RelR st' n (q + 1) mt := by
  obtain ⟨a, b, c, e, f⟩ := K
  refine ⟨by omega, b, c, ⟨h1, h2, ?_, ?_⟩, fun x hx => ?_⟩
  · rw [fr _ _ (by omega) (by omega) (by omega) (by omega)]
    exact e.2.2.1
  · rw [fr _ _ (by omega) (by omega) (by omega) (by omega)]
    exact e.2.2.2
  · by_cases ex : x = q
    · subst ex
      exact ⟨h3, h4⟩
    · have g := f x (by omega)
      refine ⟨fun y hy => ?_, ?_⟩
      · rw [fr _ _ (by omega) (by omega) (by omega) (by omega), fr _ _ (by omega) (by omega) (by omega) (by omega)]
        exact g.1 y hy
      · have a := g.2
        have r : ∀ k, k < 6 → st'.1 32 (6 * x + k) = st.1 32 (6 * x + k) := fun k hk => fr _ _ (by omega) (by omega) (by omega) (by omega)
        have r2 : ∀ k, st'.1 (58 + x) k = st.1 (58 + x) k := fun k => fr _ _ (by omega) (by omega) (by omega) (by omega)
        have r0 : st'.1 32 (6 * x) = st.1 32 (6 * x) := r 0 (by omega)
        unfold clueOK at a ⊢
        rw [r0, r 1 (by omega), r 2 (by omega), r 3 (by omega), r 4 (by omega), r 5 (by omega), r2 4, r2 5]
        exact a
theorem sA1 {a : Int32} (h : ¬ a < nI 0 ∧ ¬ nI 2 < a) (hp : P 1 st) : Ct d M_X3_asks [.int a] st (Qi P) := by
  obtain ⟨k, -, h2, rfl⟩ := rng (by omega) h (by omega)
  exact eX3_asks _ _ (brF (nI_pos (by omega)) (brF (nI_ge (a := k) (b := 3) (by omega) (by omega)) (qi hp)))
theorem sA0 {a : Int32} (h : ¬ (¬ a < nI 0 ∧ ¬ nI 2 < a)) (hp : P 0 st) : Ct d M_X3_asks [.int a] st (Qi P) := by
  refine eX3_asks _ _ ⟨fun _ => qi hp, fun e => ⟨fun _ => qi hp, fun e2 => (h ⟨e, fun q => e2 ?_⟩).elim⟩⟩
  have h1 := Int32.lt_iff_toInt_lt.mp q
  refine Int32.le_iff_toInt_le.mpr ?_
  rw [nI_toInt (by omega)] at h1
  have e3 : (3 : Int32).toInt = 3 := by decide
  omega
theorem sU1 {a : Int32} (h : ¬ a < nI 0 ∧ ¬ nI 2 < a) (hp : P 1 st) : Ct (d + 1) M_X7_isUnknown [.int a] st (Qi P) := eX7_isUnknown _ _ (sI1 h ⟨Or.inr rfl, qi hp⟩)
theorem sU0 {a : Int32} (h : ¬ (¬ a < nI 0 ∧ ¬ nI 2 < a)) (hp : P 0 st) : Ct (d + 1) M_X7_isUnknown [.int a] st (Qi P) := eX7_isUnknown _ _ (sI0 h ⟨Or.inl rfl, qi hp⟩)
end RD
/-- the two add the same clue (kinds 1 to 3) -/
theorem two_add {st : xSt} (hR : RR st) {a0 a1 a2 a3 : Int32} (hok : ∀ (st' : xSt) (n q : Nat), st'.1 32 (6 * q) = a0 → st'.1 32 (6 * q + 1) = a1 → st'.1 32 (6 * q + 2) = a2 → st'.1 32 (6 * q + 3) = a3 → clueOK st' n q) {P : Int32 → Int32 → xSt → Prop} (hp : ∀ v st', RR st' → P v v st') {d d' : Nat} : Ct d M_X3_add [.ref 3, .int a0, .int a1, .int a2, .int a3] st (Qi fun v s => Ct d' M_X7_clueMore [.ref 7, .int a0, .int a1, .int a2, .int a3, .int 0, .int 0] s (Qi fun w s2 => P v w s2)) := by
  obtain ⟨n, -, -, ⟨q, mt, K⟩, -⟩ := id hR
  by_cases h8 : q < 8
  · refine sX3_add K.2.2.2.1.1 h8 (fun s fr1 v1 e1 => ?_)
    have e7 : s.1 7 6 = nI q := by rw [fr1 7 6 (by omega) (by omega)]; exact K.2.2.2.1.2.1
    refine sX7_clueMore e7 h8 (fun s2 fr2 v2 e2 => hp _ _ (hR.updR (fun p k h => ?_) (fun n' _ ⟨q', mt', K'⟩ => ?_)))
    · unfold inC inS inD inL inT at h
      rw [fr2 p k (by omega) (by omega), fr1 p k (by omega) (by omega)]
    · have eq : q' = q := (nI_eq (by have := K'.1; omega) (by have := K.1; omega)).mp (K'.2.2.2.1.1.symm.trans K.2.2.2.1.1)
      subst eq
      refine ⟨q' + 1, mt', K'.more h8 (fun p k g1 g2 g3 g4 => ?_) ?_ e2 (fun f hf => ?_) (hok s2 n' q' v2.1 v2.2.1 v2.2.2.1 v2.2.2.2.1)⟩
      · rw [fr2 p k (by omega) (by omega), fr1 p k (by omega) (by omega)]
      · rw [fr2 3 4 (by omega) (by omega)]
        exact e1
      · rw [fr2 (58 + q') f (by omega) (by omega)]
        have : f = 0 ∨ f = 1 ∨ f = 2 ∨ f = 3 := by omega
        rcases this with rfl | rfl | rfl | rfl
        · exact v1.1.trans v2.1.symm
        · exact v1.2.1.trans v2.2.1.symm
        · exact v1.2.2.1.trans v2.2.2.1.symm
        · exact v1.2.2.2.trans v2.2.2.2.1.symm
  · have eq : q = 8 := by have := K.1; omega
    subst eq
    exact sX3_add_full K.2.2.2.1.1 (sX7_clueMore_full K.2.2.2.1.2.1 (hp _ _ hR))
theorem Ct_qi {d : Nat} {M : xM} {as : List Value} {st : xSt} {P : Int32 → xSt → Prop} (h : Ct d M as st (Qi P)) : Ct d M as st (Qi fun v s => Qi P (some (.int v)) s) := Ct_mono h (fun r s ⟨v, e, k⟩ => ⟨v, e, qi k⟩)
theorem Ct_2 {d d' e' : Nat} {M M7 N7 : xM} {as bs cs : List Value} {st : xSt} {P : Int32 → Int32 → xSt → Prop} (h : Ct d M as st (Qi fun v s => Ct d' M7 bs s (Qi fun w s2 => P v w s2))) (k : ∀ (s : xSt) (F : Int32 → xSt → Prop), Ct d' M7 bs s (Qi F) → Ct e' N7 cs s (Qi F)) : Ct d M as st (Qi fun v s => Qi (fun v s => Ct e' N7 cs s (Qi fun w s2 => P v w s2)) (some (.int v)) s) := Ct_mono h (fun r s ⟨v, e, h2⟩ => ⟨v, e, qi (k s _ h2)⟩)
theorem g_sum (i j k : Int32) : Good M_X6_sum M_X7_sum [.int i, .int j, .int k] := by
  intro st hR P hp
  have fin : ∀ v, P v v st := fun v => hp v st hR
  by_cases hi : ¬ i < nI 0 ∧ ¬ nI 2 < i
  · by_cases hj : ¬ j < nI 0 ∧ ¬ nI 2 < j
    · by_cases hk : ¬ k < nI 0 ∧ ¬ nI 2 < k
      · refine eX6_sum _ _ _ _ (sA1 hi (f1 (sA1 hj (f1 (sA1 hk (g1 (Ct_2 (d' := 59) (two_add hR ?_ hp) ?_)))))))
        · intro st' n q e0 e1 e2 e3
          obtain ⟨x, -, h2, rfl⟩ := rng (by omega) hi (by omega)
          obtain ⟨y, -, h4, rfl⟩ := rng (by omega) hj (by omega)
          obtain ⟨z, -, h6, rfl⟩ := rng (by omega) hk (by omega)
          exact Or.inr (Or.inl ⟨e0, ⟨x, by omega, e1⟩, ⟨y, by omega, e2⟩, ⟨z, by omega, e3⟩⟩)
        · intro s F h
          exact eX7_sum _ _ _ _ (sU1 hi (f1 (sU1 hj (f1 (sU1 hk (f1 (Ct_qi h)))))))
      · exact eX6_sum _ _ _ _ (sA1 hi (f1 (sA1 hj (f1 (sA0 hk (g0 (qi (eX7_sum _ _ _ _ (sU1 hi (f1 (sU1 hj (f1 (sU0 hk (f0 (qi (fin _))))))))))))))))
    · exact eX6_sum _ _ _ _ (sA1 hi (f1 (sA0 hj (f0 (qi (eX7_sum _ _ _ _ (sU1 hi (f1 (sU0 hj (f0 (qi (fin _))))))))))))
  · exact eX6_sum _ _ _ _ (sA0 hi (f0 (qi (eX7_sum _ _ _ _ (sU0 hi (f0 (qi (fin _))))))))
theorem g_less (i j : Int32) : Good M_X6_less M_X7_less [.int i, .int j] := by
  intro st hR P hp
  have fin : ∀ v, P v v st := fun v => hp v st hR
  by_cases hi : ¬ i < nI 0 ∧ ¬ nI 2 < i
  · by_cases hj : ¬ j < nI 0 ∧ ¬ nI 2 < j
    · by_cases hk : i = j
      · exact eX6_less _ _ _ (sA1 hi (f1 (sA1 hj (f1 (bnF hk (qi (eX7_less _ _ _ (sU1 hi (f1 (sU1 hj (f1 (brT hk (qi (fin _))))))))))))))
      · refine eX6_less _ _ _ (sA1 hi (f1 (sA1 hj (f1 (bnT hk (Ct_2 (d' := 59) (two_add hR ?_ hp) ?_))))))
        · intro st' n q e0 e1 e2 e3
          obtain ⟨x, -, h2, rfl⟩ := rng (by omega) hi (by omega)
          obtain ⟨y, -, h4, rfl⟩ := rng (by omega) hj (by omega)
          exact Or.inr (Or.inr (Or.inl ⟨e0, x, y, by omega, by omega, fun e => hk (by rw [e]), e1, e2⟩))
        · intro s F h
          exact eX7_less _ _ _ (sU1 hi (f1 (sU1 hj (f1 (brF hk (Ct_qi h))))))
    · exact eX6_less _ _ _ (sA1 hi (f1 (sA0 hj (f0 (qi (eX7_less _ _ _ (sU1 hi (f1 (sU0 hj (f0 (qi (fin _))))))))))))
  · exact eX6_less _ _ _ (sA0 hi (f0 (qi (eX7_less _ _ _ (sU0 hi (f0 (qi (fin _))))))))
theorem g_mats (i a m : Int32) : Good M_X6_mats M_X7_mats [.int i, .int a, .int m] := by
  intro st hR P hp
  have fin : ∀ v, P v v st := fun v => hp v st hR
  by_cases hi : ¬ i < nI 0 ∧ ¬ nI 2 < i
  · by_cases hm : ¬ m < nI 1 ∧ ¬ nI 40 < m
    · by_cases ha : ¬ a < nI 1 ∧ ¬ m < a
      · refine eX6_mats _ _ _ _ (sA1 hi (f1 (sW1 hm (f1 (sW1 ha (g1 (Ct_2 (d' := 59) (two_add hR ?_ hp) ?_)))))))
        · intro st' n q e0 e1 e2 e3
          obtain ⟨x, -, h2, rfl⟩ := rng (by omega) hi (by omega)
          obtain ⟨y, h3, h4, rfl⟩ := rng (by omega) hm (by omega)
          obtain ⟨z, h5, h6, rfl⟩ := rng (by omega) ha (by omega)
          exact Or.inr (Or.inr (Or.inr ⟨e0, ⟨x, by omega, e1⟩, z, y, h5, h6, h4, e2, e3⟩))
        · intro s F h
          exact eX7_mats _ _ _ _ (sU1 hi (f1 (sI1 ha (f1 (sI1 hm (f1 (Ct_qi h)))))))
      · exact eX6_mats _ _ _ _ (sA1 hi (f1 (sW1 hm (f1 (sW0 ha (g0 (qi (eX7_mats _ _ _ _ (sU1 hi (f1 (sI0 ha (f0 (qi (fin _))))))))))))))
    · refine eX6_mats _ _ _ _ (sA1 hi (f1 (sW0 hm (f0 (qi (eX7_mats _ _ _ _ (sU1 hi (f1 ?_))))))))
      by_cases ha : ¬ a < nI 1 ∧ ¬ m < a
      · exact sI1 ha (f1 (sI0 hm (f0 (qi (fin _)))))
      · exact sI0 ha (f0 (qi (fin _)))
  · exact eX6_mats _ _ _ _ (sA0 hi (f0 (qi (eX7_mats _ _ _ _ (sU0 hi (f0 (qi (fin _))))))))

/-! what a point may be -/
def ptOK (n : Nat) (c w h m : Int32) : Prop := (∃ j, j < n ∧ c = nI j) ∧ (¬ w < 0 ∧ ¬ 99 < w) ∧ (¬ h < -1 ∧ ¬ 2 < h) ∧ (¬ m < -1 ∧ ¬ 20 < m)
section PT
variable {st : xSt} {n : Nat} {hm nz bg : Nat → Nat} {wd : Nat → Nat → Int32} {d : Nat} {P : Int32 → xSt → Prop} {c w h m : Int32}
theorem sX6_isPoint (K : RelC st n hm nz bg wd) (h1 : ptOK n c w h m → P 1 st) (h0 : ¬ ptOK n c w h m → P 0 st) : Ct (d + 1) M_X6_isPoint [.ref 0, .int c, .int w, .int h, .int m] st (Qi P) := by
  refine eX6_isPoint _ _ _ _ _ ?_
  rcases isC n c with hc | hc
  · obtain ⟨j, hj, rfl⟩ := id hc
    refine sX0_has_in K hj (f1 ?_)
    by_cases hw : ¬ w < 0 ∧ ¬ 99 < w
    · by_cases hh : ¬ h < -1 ∧ ¬ 2 < h
      · by_cases hmm : ¬ m < -1 ∧ ¬ 20 < m
        · exact sW1 hw (f1 (sW1 hh (f1 (sW1 hmm (f1 (qi (h1 ⟨hc, hw, hh, hmm⟩)))))))
        · exact sW1 hw (f1 (sW1 hh (f1 (sW0 hmm (f0 (qi (h0 (fun q => hmm q.2.2.2))))))))
      · exact sW1 hw (f1 (sW0 hh (f0 (qi (h0 (fun q => hh q.2.2.1))))))
    · exact sW0 hw (f0 (qi (h0 (fun q => hw q.2.1))))
  · exact sX0_has_no K hc (f0 (qi (h0 (fun ⟨⟨j, hj, e⟩, _⟩ => hc j hj e))))
theorem sX7_isPoint (K : RelC st n hm nz bg wd) (h1 : ptOK n c w h m → P 1 st) (h0 : ¬ ptOK n c w h m → P 0 st) : Ct (d + 2) M_X7_isPoint [.ref 7, .int c, .int w, .int h, .int m] st (Qi P) := by
  refine eX7_isPoint _ _ _ _ _ ?_
  rcases isC n c with hc | hc
  · obtain ⟨j, hj, rfl⟩ := id hc
    refine sX7_isCount_in K hj (f1 ?_)
    by_cases hw : ¬ w < 0 ∧ ¬ 99 < w
    · refine eX7_isWord _ _ (sI1 hw ⟨Or.inr rfl, qi (f1 ?_)⟩)
      by_cases hh : ¬ h < -1 ∧ ¬ 2 < h
      · by_cases hmm : ¬ m < -1 ∧ ¬ 20 < m
        · exact sI1 hh (f1 (sI1 hmm (f1 (qi (h1 ⟨hc, hw, hh, hmm⟩)))))
        · exact sI1 hh (f1 (sI0 hmm (f0 (qi (h0 (fun q => hmm q.2.2.2))))))
      · exact sI0 hh (f0 (qi (h0 (fun q => hh q.2.2.1))))
    · exact eX7_isWord _ _ (sI0 hw ⟨Or.inl rfl, qi (f0 (qi (h0 (fun q => hw q.2.1))))⟩)
  · exact sX7_isCount_no K hc (f0 (qi (h0 (fun ⟨⟨j, hj, e⟩, _⟩ => hc j hj e))))
end PT
theorem g_clue (u c w h m : Int32) : Good M_X6_clue M_X7_clue [.int u, .int c, .int w, .int h, .int m] := by
  intro st hR P hp
  have fin : ∀ v, P v v st := fun v => hp v st hR
  obtain ⟨n, ⟨hm, nz, bg, wd, K⟩, -, ⟨q, mt, KR⟩, -⟩ := id hR
  by_cases hu : ¬ u < nI 0 ∧ ¬ nI 2 < u
  · by_cases hk : ptOK n c w h m
    · refine eX6_clue _ _ _ _ _ _ (sA1 hu (f1 (sX6_isPoint K (fun _ => g1 ?_) (fun e => (e hk).elim))))
      by_cases h8 : q < 8
      · have e : (nI q).toNatClampNeg = q := nI_clamp (by omega)
        have e34 := KR.2.2.2.1.1
        have off : ∀ (s : xSt) (k : Nat) (v : Int32), (xup s (58 + q) k v).1 3 4 = s.1 3 4 := fun s k v => xup_off (by omega)
        refine eX3_addPoint _ _ _ _ _ _ ?_
        simp only [e34, e, off, c4, c5]
        refine brT (nI_lt (b := 8) h8 (by omega)) ⟨pk_in q 8 h8, pk_in q 8 h8, ?_⟩
        refine sX3_add (q := q) (by rw [off, off]; exact e34) h8 (fun s fr1 v1 e1 => qi (qi ?_))
        have fr3 : ∀ p k, ¬ (p = 58 + q) → ¬ (p = 3 ∧ k = 4) → s.1 p k = st.1 p k := fun p k g1 g2 => by rw [fr1 p k (by omega) (by omega), xup_off (by omega), xup_off (by omega)]
        have Ks : RelC s n hm nz bg wd := K.congr (fun p k g => fr3 p k (by unfold inC at g; omega) (by unfold inC at g; omega))
        refine eX7_clue _ _ _ _ _ _ (sU1 hu (f1 (sX7_isPoint Ks (fun _ => f1 ?_) (fun e => (e hk).elim))))
        have e7 : s.1 7 6 = nI q := by rw [fr3 7 6 (by omega) (by omega)]; exact KR.2.2.2.1.2.1
        refine sX7_clueMore e7 h8 (fun s2 fr2 v2 e2 => qi (hp _ _ (hR.updR (fun p k h => ?_) (fun n' hC ⟨q', mt', K'⟩ => ?_))))
        · unfold inC inS inD inL inT at h
          rw [fr2 p k (by omega) (by omega), fr3 p k (by omega) (by omega)]
        · have eq : q' = q := (nI_eq (by have := K'.1; omega) (by have := KR.1; omega)).mp (K'.2.2.2.1.1.symm.trans KR.2.2.2.1.1)
          subst eq
          have en : n' = n := by
            obtain ⟨_, _, _, _, KC⟩ := hC
            exact (nI_eq (by have := KC.1; omega) (by have := K.1; omega)).mp (KC.2.1.symm.trans K.2.1)
          subst en
          refine ⟨q' + 1, mt', K'.more h8 (fun p k g1 g2 g3 g4 => ?_) ?_ e2 (fun f hf => ?_) ?_⟩
          · rw [fr2 p k (by omega) (by omega), fr3 p k (by omega) (by omega)]
          · rw [fr2 3 4 (by omega) (by omega)]
            exact e1
          · rw [fr2 (58 + q') f (by omega) (by omega)]
            have : f = 0 ∨ f = 1 ∨ f = 2 ∨ f = 3 := by omega
            rcases this with rfl | rfl | rfl | rfl
            · exact v1.1.trans v2.1.symm
            · exact v1.2.1.trans v2.2.1.symm
            · exact v1.2.2.1.trans v2.2.2.1.symm
            · exact v1.2.2.2.trans v2.2.2.2.1.symm
          · obtain ⟨x, -, hx, rfl⟩ := rng (by omega) hu (by omega)
            obtain ⟨j, hj, rfl⟩ := hk.1
            refine Or.inl ⟨v2.1, ⟨x, by omega, v2.2.1⟩, ⟨j, hj, v2.2.2.1⟩, ?_, ?_⟩
            · rw [fr2 (58 + q') 4 (by omega) (by omega), fr1 (58 + q') 4 (by omega) (by omega), xup_off (by omega), xup_eq]
              exact v2.2.2.2.2.1.symm
            · rw [fr2 (58 + q') 5 (by omega) (by omega), fr1 (58 + q') 5 (by omega) (by omega), xup_eq]
              exact v2.2.2.2.2.2.symm
      · have eq : q = 8 := by have := KR.1; omega
        subst eq
        refine eX3_addPoint _ _ _ _ _ _ (brF ?_ (qi (qi (eX7_clue _ _ _ _ _ _ (sU1 hu (f1 (sX7_isPoint K (fun _ => f1 (sX7_clueMore_full KR.2.2.2.1.2.1 (qi (fin _)))) (fun e => (e hk).elim))))))))
        rw [KR.2.2.2.1.1]
        decide
    · exact eX6_clue _ _ _ _ _ _ (sA1 hu (f1 (sX6_isPoint K (fun e => (hk e).elim) (fun _ => g0 (qi (eX7_clue _ _ _ _ _ _ (sU1 hu (f1 (sX7_isPoint K (fun e => (hk e).elim) (fun _ => f0 (qi (fin _))))))))))))
  · exact eX6_clue _ _ _ _ _ _ (sA0 hu (f0 (qi (eX7_clue _ _ _ _ _ _ (sU0 hu (f0 (qi (fin _))))))))
