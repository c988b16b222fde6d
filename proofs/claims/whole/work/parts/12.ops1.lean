theorem g_about (c w : Int32) : Good M_X6_about M_X7_about [.int c, .int w] := by
  intro st hR P hp
  obtain ⟨n, ⟨hm, nz, bg, wd, K⟩, -⟩ := id hR
  have fin : ∀ v, P v v st := fun v => hp v st hR
  have h6 := K.1
  rcases isC n c with ⟨j, hj, rfl⟩ | h
  · have hb := (K.2.2.2.1 j hj).1
    have hc := (K.2.2.2.1 j hj).2.2.1
    refine eX6_about _ _ _ (sX0_has_in K hj (g1 ⟨fun a => qi ?_, fun a => sX0_places K hj (qi ?_), fun a => sX0_halfOf K hj (qi ?_), fun a => sX0_noseOf K hj (qi ?_), fun a => sX0_firstHand K hj (qi ?_)⟩))
    all_goals refine eX7_about _ _ _ (sX7_isCount_in K hj (f1 (eX7_aboutOf _ _ _ ⟨fun b => ?_, fun b => ?_, fun b => ?_, fun b => ?_, fun b => ?_⟩)))
    all_goals first | omega | skip
    · exact qi (qi (fin _))
    · exact sX7_totalOf K hj (qi (qi (fin _)))
    · rw [nI_clamp (by omega), hc.1]
      exact ⟨pk_in j 6 (by omega), qi (qi (fin _))⟩
    · rw [nI_clamp (by omega), hc.2.1]
      refine ⟨pk_in j 6 (by omega), pk_eq (nz j) 0 (fun e => qi (qi ?_)) (fun e => qi (qi ?_))⟩
      · rw [e]
        exact fin 0
      · rw [show nz j = 1 by omega]
        exact fin 1
    · rw [nI_clamp (by omega), hc.2.2]
      exact ⟨pk_in j 6 (by omega), qi (qi (fin _))⟩
  · exact eX6_about _ _ _ (sX0_has_no K h (g0 (qi (eX7_about _ _ _ (sX7_isCount_no K h (f0 (qi (fin _))))))))
theorem i32_lit {a : Int32} {k : Nat} (hk : k < 2 ^ 31) : a.toInt = k ↔ a = nI k := by
  constructor
  · intro h
    exact Int32.toInt_inj.mp (h.trans (nI_toInt hk).symm)
  · intro h
    rw [h, nI_toInt hk]
theorem inOut {a : Int32} {hi : Nat} (hh : hi < 2 ^ 31) : (¬ (¬ a < 0 ∧ ¬ nI hi < a)) ↔ (a.toInt < 0 ∨ (hi : Int) < a.toInt) := by
  have e0 : (0 : Int32).toInt = 0 := by decide
  rw [Int32.lt_iff_toInt_lt, Int32.lt_iff_toInt_lt, e0, nI_toInt hh]
  omega
theorem g_place (c k w : Int32) : Good M_X6_place M_X7_place [.int c, .int k, .int w] := by
  intro st hR P hp
  obtain ⟨n, ⟨hm, nz, bg, wd, K⟩, -⟩ := id hR
  have fin : ∀ v, P v v st := fun v => hp v st hR
  have h6 := K.1
  rcases isC n c with ⟨j, hj, rfl⟩ | h
  · have ht := K.tb hj
    by_cases hk : ¬ k < nI 1 ∧ ¬ nI (tt hm nz j) < k
    · obtain ⟨k1, h1, h2, rfl⟩ := rng (by omega) hk (by omega)
      obtain ⟨k0, rfl⟩ : ∃ k0, k1 = k0 + 1 := ⟨k1 - 1, by omega⟩
      refine eX6_place _ _ _ _ (sX0_has_in K hj (f1 (sX0_places K hj (sW1 hk (g1 ⟨fun a => qi ?_, fun a => sX0_wordAt K hj (by omega) (qi ?_), fun a => sX0_sideAt K hj (by omega) (qi ?_), fun a => sX0_handAt K hj (by omega) (qi ?_)⟩)))))
      all_goals refine eX7_place _ _ _ _ (sX7_isCount_in K hj (f1 (sX7_totalOf K hj (sI1 hk (f1 ?_)))))
      · exact sI0 ((inOut (hi := 2) (by omega)).mpr a) (g0 (qi (fin _)))
      · have e := (i32_lit (k := 0) (by omega)).mp a
        subst e
        exact sI1 (by decide) (g1 (bnF rfl (sX7_wordOf K hj (by omega) (qi (fin _)))))
      · have e := (i32_lit (k := 1) (by omega)).mp a
        subst e
        exact sI1 (by decide) (g1 (bnT (by decide) (bnF rfl (sX7_sideOf K hj (by omega) (qi (fin _))))))
      · have e := (i32_lit (k := 2) (by omega)).mp a
        subst e
        exact sI1 (by decide) (g1 (bnT (by decide) (bnT (by decide) (sX7_handOf K hj (by omega) (qi (fin _))))))
    · exact eX6_place _ _ _ _ (sX0_has_in K hj (f1 (sX0_places K hj (sW0 hk (g0 (qi (eX7_place _ _ _ _ (sX7_isCount_in K hj (f1 (sX7_totalOf K hj (sI0 hk (f0 (qi (fin _))))))))))))))
  · exact eX6_place _ _ _ _ (sX0_has_no K h (f0 (qi (eX7_place _ _ _ _ (sX7_isCount_no K h (f0 (qi (fin _))))))))
theorem g_number (c k w : Int32) : Good M_X6_number M_X7_number [.int c, .int k, .int w] := by
  intro st hR P hp
  obtain ⟨n, ⟨hm, nz, bg, wd, K⟩, -⟩ := id hR
  have fin : ∀ v, P v v st := fun v => hp v st hR
  have h6 := K.1
  rcases isC n c with ⟨j, hj, rfl⟩ | h
  · have ht := K.tb hj
    by_cases hk : ¬ k < nI 1 ∧ ¬ nI 400 < k
    · obtain ⟨k1, h1, h2, rfl⟩ := rng (by omega) hk (by omega)
      obtain ⟨v, rfl⟩ : ∃ v, k1 = v + 1 := ⟨k1 - 1, by omega⟩
      have hm := K.md hj v
      refine eX6_number _ _ _ _ (sX0_has_in K hj (f1 (sW1 hk (g1 (sX0_placeOf K hj (by omega) ⟨fun a => qi ?_, fun a => sX0_menOf K hj (by omega) (qi ?_), fun a => qi ?_, fun a => sX0_wordAt K hj hm (qi ?_), fun a => sX0_handAt K hj hm (qi ?_)⟩)))))
      all_goals refine eX7_number _ _ _ _ (sX7_isCount_in K hj (f1 (sI1 hk (f1 ?_))))
      · exact sI0 ((inOut (hi := 3) (by omega)).mpr a) (g0 (qi (fin _)))
      · have e := (i32_lit (k := 0) (by omega)).mp a
        subst e
        exact sI1 (by decide) (g1 (sX7_placeOf K hj (by omega) (bnF rfl (sX7_menOf K hj (by omega) (qi (fin _))))))
      · have e := (i32_lit (k := 1) (by omega)).mp a
        subst e
        exact sI1 (by decide) (g1 (sX7_placeOf K hj (by omega) (bnT (by decide) (bnF rfl (qi (fin _))))))
      · have e := (i32_lit (k := 2) (by omega)).mp a
        subst e
        exact sI1 (by decide) (g1 (sX7_placeOf K hj (by omega) (bnT (by decide) (bnT (by decide) (bnF rfl (sX7_wordOf K hj hm (qi (fin _))))))))
      · have e := (i32_lit (k := 3) (by omega)).mp a
        subst e
        exact sI1 (by decide) (g1 (sX7_placeOf K hj (by omega) (bnT (by decide) (bnT (by decide) (bnT (by decide) (sX7_handOf K hj hm (qi (fin _))))))))
    · exact eX6_number _ _ _ _ (sX0_has_in K hj (f1 (sW0 hk (g0 (qi (eX7_number _ _ _ _ (sX7_isCount_in K hj (f1 (sI0 hk (f0 (qi (fin _))))))))))))
  · exact eX6_number _ _ _ _ (sX0_has_no K h (f0 (qi (eX7_number _ _ _ _ (sX7_isCount_no K h (f0 (qi (fin _))))))))
theorem g_value (c m k : Int32) : Good M_X6_value M_X7_value [.int c, .int m, .int k] := by
  intro st hR P hp
  obtain ⟨n, ⟨hm, nz, bg, wd, K⟩, -⟩ := id hR
  have fin : ∀ v, P v v st := fun v => hp v st hR
  rcases isC n c with ⟨j, hj, rfl⟩ | h
  · by_cases hm' : ¬ m < 0 ∧ ¬ 20 < m
    · by_cases hk : ¬ k < 1 ∧ ¬ nI (tt hm nz j) < k
      · exact eX6_value _ _ _ _ (sX0_has_in K hj (f1 (sW1 hm' (f1 (sX0_places K hj (sW1 hk (g1 (sX0_places K hj (qi (eX7_value _ _ _ _ (sX7_isCount_in K hj (f1 (sI1 hm' (f1 (sX7_totalOf K hj (sI1 hk (f1 (sX7_totalOf K hj (qi (fin _))))))))))))))))))))
      · exact eX6_value _ _ _ _ (sX0_has_in K hj (f1 (sW1 hm' (f1 (sX0_places K hj (sW0 hk (g0 (qi (eX7_value _ _ _ _ (sX7_isCount_in K hj (f1 (sI1 hm' (f1 (sX7_totalOf K hj (sI0 hk (f0 (qi (fin _))))))))))))))))))
    · exact eX6_value _ _ _ _ (sX0_has_in K hj (f1 (sW0 hm' (f0 (qi (eX7_value _ _ _ _ (sX7_isCount_in K hj (f1 (sI0 hm' (f0 (qi (fin _))))))))))))
  · exact eX6_value _ _ _ _ (sX0_has_no K h (f0 (qi (eX7_value _ _ _ _ (sX7_isCount_no K h (f0 (qi (fin _))))))))
theorem g_begins (c w : Int32) : Good M_X6_begins M_X7_begins [.int c, .int w] := by
  intro st hR P hp
  obtain ⟨n, ⟨hm, nz, bg, wd, K⟩, ⟨lv, sz, kS⟩, ⟨q, mt, kR⟩, ⟨p, wy, ow, kD⟩, ⟨ql, len, yr, it, kL⟩, ⟨z, bt, kT⟩⟩ := id hR
  have fin : ∀ v, P v v st := fun v => hp v st hR
  have h6 := K.1
  rcases isC n c with ⟨j, hj, rfl⟩ | h
  · by_cases hw : ¬ w < nI 0 ∧ ¬ nI 1 < w
    · obtain ⟨b, h1, h2, rfl⟩ := rng (by omega) hw (by omega)
      have hc := (K.2.2.2.1 j hj).2
      refine eX6_begins _ _ _ (sX0_has_in K hj (f1 (sW1 hw (g1 (eX0_beginOn _ _ _ (sX0_has_in K hj (g1 ⟨pk_in j 6 (by omega), pk_in j 6 (by omega), qi (qi ?_)⟩)))))))
      rw [nI_clamp (by omega), hc.1.2.2]
      have K1 : RelC (xup st 14 j (nI b)) n hm nz bg wd ∨ True := Or.inr trivial
      have e24 : (xup st 14 j (nI b)).1 7 0 = nI n := by rw [xup_off (by omega)]; exact K.2.2.1
      refine eX7_begins _ _ _ (eX7_isCount _ _ (eX7_in _ _ _ _ ?_))
      rw [e24]
      refine brF (nI_pos (by omega)) (brF (nI_dec_nlt (by omega) hj) (qi ⟨Or.inr rfl, qi (f1 (sI1 hw (g1 ⟨pk_in j 6 (by omega), pk_in j 6 (by omega), qi ?_⟩)))⟩))
      rw [nI_clamp (by omega), xup_off (by omega), hc.2.1.2.2]
      refine hp _ _ ?_
      have fr : ∀ p k, ¬ (p = 14 ∧ k = j) → ¬ (p = 31 ∧ k = j) → (xup (xup st 14 j (nI b)) 31 j (nI b)).1 p k = st.1 p k := fun p k a1 a2 => by rw [xup_off a2, xup_off a1]
      refine ⟨n, ⟨hm, nz, fun x => if x = j then b else bg x, wd, ?_⟩, ⟨lv, sz, kS.congr (fun p k h => fr p k (by unfold inS at h; omega) (by unfold inS at h; omega))⟩, ⟨q, mt, kR.congr (fun p k h => fr p k (by unfold inR at h; omega) (by unfold inR at h; omega))⟩, ⟨p, wy, ow, kD.congr (fun p k h => fr p k (by unfold inD at h; omega) (by unfold inD at h; omega))⟩, ⟨ql, len, yr, it, kL.congr (fun p k h => fr p k (by unfold inL at h; omega) (by unfold inL at h; omega))⟩, ⟨z, bt, kT.congr (fun p k h => fr p k (by unfold inT at h; omega) (by unfold inT at h; omega))⟩⟩
      obtain ⟨-, b2, b3, b4, b5⟩ := K
      refine ⟨h6, by rw [fr _ _ (by omega) (by omega)]; exact b2, by rw [fr _ _ (by omega) (by omega)]; exact b3, fun x hx => ?_, fun x y1 y2 => by rw [fr _ _ (by omega) (by omega)]; exact b5 x y1 y2⟩
      obtain ⟨a1, a2, a3, a4⟩ := b4 x hx
      by_cases e : x = j
      · subst e
        refine ⟨?_, ?_, ?_, fun k hk => ?_⟩
        · simp only [if_true]
          omega
        · rw [fr 12 _ (by omega) (by omega), fr 13 _ (by omega) (by omega), xup_off (by omega), xup_eq]
          simp only [if_true]
          exact ⟨a2.1, a2.2.1, trivial⟩
        · rw [fr 29 _ (by omega) (by omega), fr 30 _ (by omega) (by omega), xup_eq]
          simp only [if_true]
          exact ⟨a3.1, a3.2.1, trivial⟩
        · rw [fr _ _ (by omega) (by omega), fr 28 _ (by omega) (by omega)]
          exact a4 k hk
      · simp only [if_neg e]
        refine ⟨a1, ?_, ?_, fun k hk => ?_⟩
        · rw [fr 12 _ (by omega) (by omega), fr 13 _ (by omega) (by omega), fr 14 _ (by omega) (by omega)]
          exact a2
        · rw [fr 29 _ (by omega) (by omega), fr 30 _ (by omega) (by omega), fr 31 _ (by omega) (by omega)]
          exact a3
        · rw [fr _ _ (by omega) (by omega), fr 28 _ (by omega) (by omega)]
          exact a4 k hk
    · exact eX6_begins _ _ _ (sX0_has_in K hj (f1 (sW0 hw (g0 (qi (eX7_begins _ _ _ (sX7_isCount_in K hj (f1 (sI0 hw (g0 (qi (fin _))))))))))))
  · exact eX6_begins _ _ _ (sX0_has_no K h (f0 (qi (eX7_begins _ _ _ (sX7_isCount_no K h (f0 (qi (fin _))))))))
