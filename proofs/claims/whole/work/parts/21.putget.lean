section S21
variable {st : xSt} {lv : Nat → Bool} {sz : Nat → Nat} {d s i : Nat} {c : Int32} {P : Int32 → xSt → Prop}
theorem sX4_isForm1 {f : Int32} (h : ¬ f < 0 ∧ ¬ 2 < f) (hp : P 1 st) : Ct (d + 1) M_X4_isForm [.int f] st (Qi P) := eX4_isForm _ _ (sW1 h ⟨Or.inr rfl, qi hp⟩)
theorem sX4_isForm0 {f : Int32} (h : ¬ (¬ f < 0 ∧ ¬ 2 < f)) (hp : P 0 st) : Ct (d + 1) M_X4_isForm [.int f] st (Qi P) := eX4_isForm _ _ (sW0 h ⟨Or.inl rfl, qi hp⟩)
theorem ixIn {x : Int32} {z : Nat} (hz : z < 2 ^ 30) (h : ¬ x < 0 ∧ ¬ nI z - 1 < x) : ∃ i, i < z ∧ x = nI i := by
  obtain ⟨i, hi, rfl⟩ := nI_of h.1
  refine ⟨i, Nat.not_le.mp fun q => h.2 (nI_dec_lt hz (nI_le q hi)), rfl⟩
/-- what a SHEET of form f keeps of v -/
def cutv (f : Nat) (v : Int32) : Int32 := if f = 0 then v.toInt8.toInt32 else if f = 1 then v.toInt16.toInt32 else v
theorem sX4_cut {f : Nat} (hf : f ≤ 2) {v : Int32} (hp : P (cutv f v) st) : Ct d M_X4_cut [.int (nI f), .int v] st (Qi P) := by
  unfold cutv at hp
  have : f = 0 ∨ f = 1 ∨ f = 2 := by omega
  rcases this with rfl | rfl | rfl
  · exact eX4_cut _ _ _ (bnF rfl (qi hp))
  · exact eX4_cut _ _ _ (bnT (by decide) (bnF rfl (qi hp)))
  · exact eX4_cut _ _ _ (bnT (by decide) (bnT (by decide) (qi hp)))
theorem sX4_store (K : RS0 st lv sz) (hs : s < 4) (hl : lv s = true) (hi : i < sz s) {f : Nat} (hf : f ≤ 2) (ef : st.1 44 s = nI f) {v : Int32} {P : xSt → Prop} (hp : P (xup st (48 + s) i (cutv f v))) : Ct (d + 2) M_X4_store [.ref 1, .int (nI s), .int (nI i), .int v] st (Qv P) := by
  have k := ((K s hs).1 hl).1
  refine eX4_store _ _ _ _ (sX4_hasItem K hs hl hi (f1 ⟨pk_in s 4 hs, pk_in s 4 hs, ?_⟩))
  rw [nI_clamp (n := s) (by omega), nI_clamp (n := i) (by omega), ((K s hs).1 hl).2.1.1, ef]
  exact sX4_cut hf ⟨pk_in i 60 (by omega), qv hp⟩
theorem sX7_lay (hs : s < 4) (hi : i < 60) {f : Nat} (hf : f ≤ 2) (ef : st.1 44 s = nI f) {v : Int32} {P : xSt → Prop} (hp : P (xup st 46 (60 * s + i) (cutv f v))) : Ct d M_X7_lay [.ref 7, .int (nI s), .int (nI i), .int v] st (Qv P) := by
  refine eX7_lay _ _ _ _ ⟨pk_in s 4 hs, ?_⟩
  rw [e60, nI_clamp (n := s) (by omega), nI_clamp (n := 60 * s + i) (by omega), ef]
  unfold cutv at hp
  have : f = 0 ∨ f = 1 ∨ f = 2 := by omega
  rcases this with rfl | rfl | rfl
  · exact bnF rfl ⟨pk_in (60 * s + i) 240 (by omega), qv hp⟩
  · exact bnT (by decide) ⟨pk_in s 4 hs, bnF rfl ⟨pk_in (60 * s + i) 240 (by omega), qv hp⟩⟩
  · exact bnT (by decide) ⟨pk_in s 4 hs, bnT (by decide) ⟨pk_in (60 * s + i) 240 (by omega), qv hp⟩⟩
theorem sX7_lacks_dead (hs : s < 4) (h : st.1 43 s = 0) {f x : Int32} (hp : P 1 st) : Ct (d + 1) M_X7_lacks [.ref 7, .int (nI s), .int f, .int x] st (Qi P) := by
  refine eX7_lacks _ _ _ _ ⟨pk_in s 4 hs, bnF ?_ (qi hp)⟩
  rw [nI_clamp (by omega)]
  exact h
theorem sX7_lacks_cast (hs : s < 4) (h : st.1 43 s = 1) {f x : Int32} (hf : ¬ st.1 44 s = f) (hp : P 3 st) : Ct (d + 1) M_X7_lacks [.ref 7, .int (nI s), .int f, .int x] st (Qi P) := by
  refine eX7_lacks _ _ _ _ ⟨pk_in s 4 hs, ?_⟩
  rw [nI_clamp (by omega), h]
  exact bnT n10 ⟨pk_in s 4 hs, brF hf (qi hp)⟩
theorem sX7_lacks_ix (hs : s < 4) (h : st.1 43 s = 1) {f x : Int32} (hf : st.1 44 s = f) (hx : ¬ (¬ x < 0 ∧ ¬ st.1 45 s - 1 < x)) (hp : P 2 st) : Ct (d + 1) M_X7_lacks [.ref 7, .int (nI s), .int f, .int x] st (Qi P) := by
  refine eX7_lacks _ _ _ _ ⟨pk_in s 4 hs, ?_⟩
  rw [nI_clamp (by omega), h]
  exact bnT n10 ⟨pk_in s 4 hs, brT hf ⟨pk_in s 4 hs, sI0 hx (f0 (qi hp))⟩⟩
theorem sX7_lacks_ok (hs : s < 4) (h : st.1 43 s = 1) {f x : Int32} (hf : st.1 44 s = f) (hx : ¬ x < 0 ∧ ¬ st.1 45 s - 1 < x) (hp : P 0 st) : Ct (d + 1) M_X7_lacks [.ref 7, .int (nI s), .int f, .int x] st (Qi P) := by
  refine eX7_lacks _ _ _ _ ⟨pk_in s 4 hs, ?_⟩
  rw [nI_clamp (by omega), h]
  exact bnT n10 ⟨pk_in s 4 hs, brT hf ⟨pk_in s 4 hs, sI1 hx (f1 (qi hp))⟩⟩
/-- one item laid down by both -/
theorem RelS.lay {st' : xSt} (K : RelS st lv sz) (hs : s < 4) (hl : lv s = true) (hi : i < sz s) {v : Int32} (fr : ∀ p k, ¬ (p = 48 + s ∧ k = i) → ¬ (p = 46 ∧ k = 60 * s + i) → st'.1 p k = st.1 p k) (h1 : st'.1 (48 + s) i = v) (h2 : st'.1 46 (60 * s + i) = v) : RelS st' lv sz := by
  have k60 := ((K.2 s hs).1 hl).1.1
  refine ⟨by rw [fr _ _ (by omega) (by omega), fr 7 _ (by omega) (by omega)]; exact K.1, fun x hx => ?_⟩
  obtain ⟨a, b⟩ := K.2 x hx
  refine ⟨fun q => ?_, fun q => ?_⟩
  · obtain ⟨a1, a2, a3⟩ := a q
    refine ⟨?_, ?_, fun y hy => ?_⟩
    · rw [fr _ _ (by omega) (by omega), fr 43 _ (by omega) (by omega), fr 45 _ (by omega) (by omega)]
      exact a1
    · rw [fr _ _ (by omega) (by omega), fr 44 _ (by omega) (by omega)]
      exact a2
    · by_cases e : x = s ∧ y = i
      · obtain ⟨rfl, rfl⟩ := e
        rw [h1, h2]
      · rw [fr _ _ (by omega) (by omega), fr 46 _ (by omega) (by omega)]
        exact a3 y hy
  · rw [fr _ _ (by omega) (by omega), fr 43 _ (by omega) (by omega)]
    exact b q
theorem nm1 {v : Int32} (h : v = -11 ∨ v = -12 ∨ v = -13) : ¬ v = 0 := by rcases h with rfl | rfl | rfl <;> decide
end S21
theorem g_put (c f x v : Int32) : Good M_X6_put M_X7_put [.int c, .int f, .int x, .int v] := by
  intro st hR P hp
  have fin : ∀ v, P v v st := fun v => hp v st hR
  obtain ⟨n, -, ⟨lv, sz, K⟩, -⟩ := id hR
  rcases isC 4 c with ⟨s, hs, rfl⟩ | h
  · by_cases hf : ¬ f < 0 ∧ ¬ 2 < f
    · cases hl : lv s with
      | false =>
        refine eX6_put _ _ _ _ _ (sX4_named_in hs (f1 (sX4_isForm1 hf (g1 (eX6_touch _ _ _ _ (sX4_lost_dead K.2 hs hl (f1 (eX4_find _ _ (qi (qi (bnT (by decide) (bnT (by decide) (qi ?_)))))))))))))
        refine eX7_put _ _ _ _ _ (sX7_isSheet_in hs (f1 (sI1 hf (g1 (sX7_lacks_dead hs (by rw [xup_off (by omega)]; exact ((K.2 s hs).2 hl).2) (brF (by decide) (eX7_meets _ _ (qi (qi (hp _ _ (two_find hR _)))))))))))
      | true =>
        have k := (K.2 s hs).1 hl
        obtain ⟨g, hg, eg⟩ := k.2.1.2
        by_cases hfe : st.1 44 s = f
        · by_cases hx : ¬ x < 0 ∧ ¬ nI (sz s) - 1 < x
          · obtain ⟨i, hi, rfl⟩ := ixIn (by omega) hx
            refine eX6_put _ _ _ _ _ (sX4_named_in hs (f1 (sX4_isForm1 hf (g1 (eX6_touch _ _ _ _ (sX4_lost_live K.2 hs hl (f0 (sX4_formOf K.2 hs hl (brT hfe (sX4_sizeOf K.2 hs hl (sW1 hx (f1 (qi (bnF rfl (sX4_store K.2 hs hl hi hg eg (bnF rfl (qi ?_)))))))))))))))) )
            have h44 : (xup st (48 + s) i (cutv g v)).1 44 s = st.1 44 s := xup_off (by omega)
            have h45 : (xup st (48 + s) i (cutv g v)).1 45 s = nI (sz s) := by rw [xup_off (by omega)]; exact k.1.2.2.2
            refine eX7_put _ _ _ _ _ (sX7_isSheet_in hs (f1 (sI1 hf (g1 (sX7_lacks_ok hs (by rw [xup_off (by omega)]; exact k.1.2.2.1) (by rw [h44]; exact hfe) (by rw [h45]; exact hx) (brT (by decide) (sX7_lay hs (by have := k.1.1; omega) hg (by rw [h44]; exact eg) (qi ?_))))))))
            refine hp _ _ (hR.updS (fun p q h => ?_) (fun _ => ⟨lv, sz, K.lay hs hl hi (v := cutv g v) (fun p q a b => by rw [xup_off b, xup_off a]) (by rw [xup_off (by omega), xup_eq]) (xup_eq _ _ _ _)⟩))
            unfold inC inR inD inL inT at h
            rw [xup_off (by omega), xup_off (by omega)]
          · refine eX6_put _ _ _ _ _ (sX4_named_in hs (f1 (sX4_isForm1 hf (g1 (eX6_touch _ _ _ _ (sX4_lost_live K.2 hs hl (f0 (sX4_formOf K.2 hs hl (brT hfe (sX4_sizeOf K.2 hs hl (sW0 hx (f0 (eX4_find _ _ (qi (qi (bnT (by decide) (bnT (by decide) (qi ?_))))))))))))))))))
            refine eX7_put _ _ _ _ _ (sX7_isSheet_in hs (f1 (sI1 hf (g1 (sX7_lacks_ix hs (by rw [xup_off (by omega)]; exact k.1.2.2.1) (by rw [xup_off (by omega)]; exact hfe) (by rw [xup_off (by omega), k.1.2.2.2]; exact hx) (brF (by decide) (eX7_meets _ _ (qi (qi (hp _ _ (two_find hR _)))))))))))
        · refine eX6_put _ _ _ _ _ (sX4_named_in hs (f1 (sX4_isForm1 hf (g1 (eX6_touch _ _ _ _ (sX4_lost_live K.2 hs hl (f0 (sX4_formOf K.2 hs hl (brF hfe (eX4_find _ _ (qi (qi (bnT (by decide) (bnT (by decide) (qi ?_)))))))))))))))
          refine eX7_put _ _ _ _ _ (sX7_isSheet_in hs (f1 (sI1 hf (g1 (sX7_lacks_cast hs (by rw [xup_off (by omega)]; exact k.1.2.2.1) (by rw [xup_off (by omega)]; exact hfe) (brF (by decide) (eX7_meets _ _ (qi (qi (hp _ _ (two_find hR _)))))))))))
    · exact eX6_put _ _ _ _ _ (sX4_named_in hs (f1 (sX4_isForm0 hf (g0 (qi (eX7_put _ _ _ _ _ (sX7_isSheet_in hs (f1 (sI0 hf (g0 (qi (fin _))))))))))))
  · exact eX6_put _ _ _ _ _ (sX4_named_no h (f0 (qi (eX7_put _ _ _ _ _ (sX7_isSheet_no h (f0 (qi (fin _))))))))
theorem g_get (c f x : Int32) : Good M_X6_get M_X7_get [.int c, .int f, .int x] := by
  intro st hR P hp
  have fin : ∀ v, P v v st := fun v => hp v st hR
  obtain ⟨n, -, ⟨lv, sz, K⟩, -⟩ := id hR
  rcases isC 4 c with ⟨s, hs, rfl⟩ | h
  · by_cases hf : ¬ f < 0 ∧ ¬ 2 < f
    · cases hl : lv s with
      | false =>
        refine eX6_get _ _ _ _ (sX4_named_in hs (f1 (sX4_isForm1 hf (f1 (eX6_touch _ _ _ _ (sX4_lost_dead K.2 hs hl (f1 (eX4_find _ _ (qi (qi (brF (by decide) (qi ?_))))))))))))
        refine eX7_get _ _ _ _ (sX7_isSheet_in hs (f1 (sI1 hf (g1 (sX7_lacks_dead hs (by rw [xup_off (by omega)]; exact ((K.2 s hs).2 hl).2) (brF (by decide) (qi (hp _ _ (two_find hR _)))))))))
      | true =>
        have k := (K.2 s hs).1 hl
        by_cases hfe : st.1 44 s = f
        · by_cases hx : ¬ x < 0 ∧ ¬ nI (sz s) - 1 < x
          · obtain ⟨i, hi, rfl⟩ := ixIn (by omega) hx
            refine eX6_get _ _ _ _ (sX4_named_in hs (f1 (sX4_isForm1 hf (f1 (eX6_touch _ _ _ _ (sX4_lost_live K.2 hs hl (f0 (sX4_formOf K.2 hs hl (brT hfe (sX4_sizeOf K.2 hs hl (sW1 hx (f1 (qi (brT rfl (sX4_item K.2 hs hl hi (qi ?_))))))))))))))) )
            refine eX7_get _ _ _ _ (sX7_isSheet_in hs (f1 (sI1 hf (g1 (sX7_lacks_ok hs k.1.2.2.1 hfe (by rw [k.1.2.2.2]; exact hx) (brT (by decide) ?_))))))
            rw [e60, nI_clamp (by omega)]
            exact ⟨pk_in (60 * s + i) 240 (by omega), qi (fin _)⟩
          · refine eX6_get _ _ _ _ (sX4_named_in hs (f1 (sX4_isForm1 hf (f1 (eX6_touch _ _ _ _ (sX4_lost_live K.2 hs hl (f0 (sX4_formOf K.2 hs hl (brT hfe (sX4_sizeOf K.2 hs hl (sW0 hx (f0 (eX4_find _ _ (qi (qi (brF (by decide) (qi ?_)))))))))))))))))
            refine eX7_get _ _ _ _ (sX7_isSheet_in hs (f1 (sI1 hf (g1 (sX7_lacks_ix hs (by rw [xup_off (by omega)]; exact k.1.2.2.1) (by rw [xup_off (by omega)]; exact hfe) (by rw [xup_off (by omega), k.1.2.2.2]; exact hx) (brF (by decide) (qi (hp _ _ (two_find hR _)))))))))
        · refine eX6_get _ _ _ _ (sX4_named_in hs (f1 (sX4_isForm1 hf (f1 (eX6_touch _ _ _ _ (sX4_lost_live K.2 hs hl (f0 (sX4_formOf K.2 hs hl (brF hfe (eX4_find _ _ (qi (qi (brF (by decide) (qi ?_))))))))))))))
          refine eX7_get _ _ _ _ (sX7_isSheet_in hs (f1 (sI1 hf (g1 (sX7_lacks_cast hs (by rw [xup_off (by omega)]; exact k.1.2.2.1) (by rw [xup_off (by omega)]; exact hfe) (brF (by decide) (qi (hp _ _ (two_find hR _)))))))))
    · exact eX6_get _ _ _ _ (sX4_named_in hs (f1 (sX4_isForm0 hf (f0 (qi (eX7_get _ _ _ _ (sX7_isSheet_in hs (f1 (sI0 hf (g0 (qi (fin _))))))))))))
  · exact eX6_get _ _ _ _ (sX4_named_no h (f0 (qi (eX7_get _ _ _ _ (sX7_isSheet_no h (f0 (qi (fin _))))))))
