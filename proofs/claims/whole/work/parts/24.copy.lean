theorem sub31 {a b : Nat} (ha : a < 2 ^ 31) (hb : b < 2 ^ 31) : (nI a - nI b).toInt = (a : Int) - b := by
  rw [Int32.toInt_sub, nI_toInt ha, nI_toInt hb, Int.bmod_def]
  omega
theorem subLt {z i n : Nat} (hz : z < 2 ^ 31) (hi : i < 2 ^ 31) (hn : n < 2 ^ 31) : nI z - nI i < nI n ↔ z < i + n := by
  rw [Int32.lt_iff_toInt_lt, sub31 hz hi, nI_toInt hn]
  omega
theorem leSub {z i n : Nat} (hz : z < 2 ^ 31) (hi : i < 2 ^ 31) (hn : n < 2 ^ 31) : nI n ≤ nI z - nI i ↔ i + n ≤ z := by
  rw [Int32.le_iff_toInt_le, sub31 hz hi, nI_toInt hn]
  omega
theorem cmpGt {z i n : Nat} (hz : z < 2 ^ 31) (hi : i < 2 ^ 31) (hn : n < 2 ^ 31) : 0 < lg_cmp ((nI i).toInt64 + (nI n).toInt64) (nI z).toInt64 ↔ z < i + n := by
  rw [lg_cmp_gt, nI_l hz, nI_l hi, nI_l hn, lN_add, pk_lLT (by omega) (by omega)]
theorem cmpLe {z i n : Nat} (hz : z < 2 ^ 31) (hi : i < 2 ^ 31) (hn : n < 2 ^ 31) : lg_cmp ((nI i).toInt64 + (nI n).toInt64) (nI z).toInt64 ≤ 0 ↔ i + n ≤ z := by
  rw [lg_cmp_le, nI_l hz, nI_l hi, nI_l hn, lN_add, pk_lLE (by omega) (by omega)]
section S24
variable {d s t i j m : Nat} {κ : xK} {Q : Option Value → xSt → Prop}
theorem e60b {a b k : Nat} : (60 : Int32) * nI a + nI b + nI k = nI (60 * a + b + k) := by rw [e60, nI_add]
theorem lX7_copy2 (C : Cx κ M_X7_copy (d + 1)) (Z : xR κ Q) (ht : t < 4) (hm : j + m ≤ 60) : ∀ (f k : Nat) (st : xSt), k + f = m → (∀ st' : xSt, (∀ q y, ¬ (q = 46 ∧ 60 * t + j + k ≤ y ∧ y < 60 * t + j + m) → st'.1 q y = st.1 q y) → (∀ y, k ≤ y → y < m → st'.1 46 (60 * t + j + y) = st.1 47 y) → Q (some (.int 1)) st') → X κ 157 [(0, .ref 7), (3, .int (nI t)), (4, .int (nI j)), (5, .int (nI m)), (6, .int (nI k))] [] st
  | 0, k, st, e, hq => bX7_copy_157 C Z _ _ _ _ _ (brT (nI_le (by omega) (by omega)) (hq st (fun _ _ _ => rfl) (fun k h1 h2 => by omega)))
  | f + 1, k, st, e, hq => by
    refine bX7_copy_157 C Z _ _ _ _ _ (brF (nI_ge (by omega) (by omega)) ⟨pk_in k 60 (by omega), ?_⟩)
    rw [e60b, nI_clamp (n := 60 * t + j + k) (by omega), nI_clamp (n := k) (by omega)]
    refine ⟨pk_in (60 * t + j + k) 240 (by omega), ?_⟩
    simp only [nI_1]
    refine lX7_copy2 C Z ht hm f (k + 1) _ (by omega) (fun st' h1 h2 => hq st' (fun q y g => ?_) (fun y g1 g2 => ?_))
    · rw [h1 q y (by omega), xup_off (by omega)]
    · by_cases ey : y = k
      · subst ey
        rw [h1 46 _ (by omega), xup_eq]
      · rw [h2 y (by omega) g2, xup_off (by omega)]
theorem lX7_copy1 (C : Cx κ M_X7_copy (d + 1)) (Z : xR κ Q) (hs : s < 4) (ht : t < 4) (hm1 : i + m ≤ 60) (hm : j + m ≤ 60) : ∀ (f k : Nat) (st : xSt), k + f = m → (∀ st' : xSt, (∀ q y, ¬ (q = 47 ∧ k ≤ y ∧ y < m) → st'.1 q y = st.1 q y) → (∀ y, k ≤ y → y < m → st'.1 47 y = st.1 46 (60 * s + i + y)) → X κ 157 [(0, .ref 7), (3, .int (nI t)), (4, .int (nI j)), (5, .int (nI m)), (6, .int 0)] [] st') → X κ 120 [(0, .ref 7), (1, .int (nI s)), (2, .int (nI i)), (3, .int (nI t)), (4, .int (nI j)), (5, .int (nI m)), (6, .int (nI k))] [] st
  | 0, k, st, e, hq => bX7_copy_120 C Z _ _ _ _ _ _ _ (brT (nI_le (by omega) (by omega)) (hq st (fun _ _ _ => rfl) (fun k h1 h2 => by omega)))
  | f + 1, k, st, e, hq => by
    refine bX7_copy_120 C Z _ _ _ _ _ _ _ (brF (nI_ge (by omega) (by omega)) ?_)
    rw [e60b, nI_clamp (n := 60 * s + i + k) (by omega), nI_clamp (n := k) (by omega)]
    refine ⟨pk_in (60 * s + i + k) 240 (by omega), pk_in k 60 (by omega), ?_⟩
    simp only [nI_1]
    refine lX7_copy1 C Z hs ht hm1 hm f (k + 1) _ (by omega) (fun st' h1 h2 => hq st' (fun q y g => ?_) (fun y g1 g2 => ?_))
    · rw [h1 q y (by omega), xup_off (by omega)]
    · by_cases ey : y = k
      · subst ey
        rw [h1 47 _ (by omega), xup_eq]
      · rw [h2 y (by omega) g2, xup_off (by omega)]
end S24
/-- what is wanted for a copy: nothing negative, both ends within -/
def cpOK (zs zt : Nat) (i j m : Int32) : Prop := ∃ i0 j0 m0, i = nI i0 ∧ j = nI j0 ∧ m = nI m0 ∧ i0 + m0 ≤ zs ∧ j0 + m0 ≤ zt
theorem cp_no {zs zt : Nat} (hs : zs ≤ 60) (ht : zt ≤ 60) {i j m : Int32} (h : ¬ cpOK zs zt i j m) : i < 0 ∨ (¬ i < 0 ∧ j < 0) ∨ (¬ i < 0 ∧ ¬ j < 0 ∧ m < 0) ∨ ∃ i0 j0 m0, i0 < 2 ^ 31 ∧ j0 < 2 ^ 31 ∧ m0 < 2 ^ 31 ∧ i = nI i0 ∧ j = nI j0 ∧ m = nI m0 ∧ (zs < i0 + m0 ∨ (i0 + m0 ≤ zs ∧ zt < j0 + m0)) := by
  by_cases h1 : i < 0
  · exact Or.inl h1
  · by_cases h2 : j < 0
    · exact Or.inr (Or.inl ⟨h1, h2⟩)
    · by_cases h3 : m < 0
      · exact Or.inr (Or.inr (Or.inl ⟨h1, h2, h3⟩))
      · obtain ⟨i0, a1, rfl⟩ := nI_of h1
        obtain ⟨j0, a2, rfl⟩ := nI_of h2
        obtain ⟨m0, a3, rfl⟩ := nI_of h3
        refine Or.inr (Or.inr (Or.inr ⟨i0, j0, m0, a1, a2, a3, rfl, rfl, rfl, ?_⟩))
        by_cases g1 : zs < i0 + m0
        · exact Or.inl g1
        · by_cases g2 : zt < j0 + m0
          · exact Or.inr ⟨by omega, g2⟩
          · exact (h ⟨i0, j0, m0, rfl, rfl, rfl, by omega, by omega⟩).elim
theorem g_copy (c i e j m : Int32) : Good M_X6_copy M_X7_copy [.int c, .int i, .int e, .int j, .int m] := by
  intro st hR P hp
  have fin : ∀ v, P v v st := fun v => hp v st hR
  obtain ⟨n, -, ⟨lv, sz, K⟩, -⟩ := id hR
  rcases isC 4 c with ⟨s, hs, rfl⟩ | h
  · rcases isC 4 e with ⟨t, ht, rfl⟩ | h
    · have m43 : ∀ {x : Nat} (k : Int32), (xup st 1 3 k).1 43 x = st.1 43 x := fun k => xup_off (by omega)
      have m44 : ∀ {x : Nat} (k : Int32), (xup st 1 3 k).1 44 x = st.1 44 x := fun k => xup_off (by omega)
      have m45 : ∀ {x : Nat} (k : Int32), (xup st 1 3 k).1 45 x = st.1 45 x := fun k => xup_off (by omega)
      have cs : (nI s).toNatClampNeg = s := nI_clamp (by omega)
      have ct : (nI t).toNatClampNeg = t := nI_clamp (by omega)
      have done : ∀ k : Int32, Ct 59 M_X7_meets [.ref 7, .int k] (xup st 1 3 k) (Qi fun v s2 => Qi (fun w s2 => P (-10 - k) w s2) (some (.int v)) s2) := fun k => eX7_meets _ _ (qi (qi (hp _ _ (two_find hR _))))
      cases hl : lv s with
      | false =>
        refine eX6_copy _ _ _ _ _ _ (sX4_named_in hs (f1 (sX4_named_in ht (g1 (sX4_lost_dead K.2 hs hl (g1 (eX4_find _ _ (qi (qi ?_)))))))))
        refine eX7_copy _ _ _ _ _ _ (fun κ C Z => sX7_isSheet_in hs (f1 (sX7_isSheet_in ht (g1 ⟨pk_in s 4 hs, brT ?_ (done _)⟩))))
        rw [cs, m43]
        exact ((K.2 s hs).2 hl).2
      | true =>
        have ks := (K.2 s hs).1 hl
        cases hlt : lv t with
        | false =>
          refine eX6_copy _ _ _ _ _ _ (sX4_named_in hs (f1 (sX4_named_in ht (g1 (sX4_lost_live K.2 hs hl (g0 (sX4_lost_dead K.2 ht hlt (f1 (eX4_find _ _ (qi (qi ?_)))))))))))
          refine eX7_copy _ _ _ _ _ _ (fun κ C Z => sX7_isSheet_in hs (f1 (sX7_isSheet_in ht (g1 ⟨pk_in s 4 hs, brF ?_ ⟨pk_in t 4 ht, bnF ?_ (done _)⟩⟩))))
          · rw [cs, m43, ks.1.2.2.1]
            exact n10
          · rw [ct, m43]
            exact ((K.2 t ht).2 hlt).2
        | true =>
          have kt := (K.2 t ht).1 hlt
          by_cases hfe : st.1 44 s = st.1 44 t
          · by_cases hok : cpOK (sz s) (sz t) i j m
            · obtain ⟨i0, j0, m0, rfl, rfl, rfl, o1, o2⟩ := hok
              have b1 := ks.1.1
              have b2 := kt.1.1
              refine eX6_copy _ _ _ _ _ _ (sX4_named_in hs (f1 (sX4_named_in ht (g1 (sX4_lost_live K.2 hs hl (g0 (sX4_lost_live K.2 ht hlt (f0 (sX4_formOf K.2 hs hl (sX4_formOf K.2 ht hlt (brT hfe (eX4_move _ _ _ _ _ _ (brF (nI_pos (by omega)) (brF (nI_pos (by omega)) (brF (nI_pos (by omega)) (sX4_sizeOf K.2 hs hl (brF (fun q => by have := (subLt (by omega) (by omega) (by omega)).mp q; omega) (sX4_sizeOf K.2 ht hlt (brT ((leSub (by omega) (by omega) (by omega)).mpr o2) (sX4_lost_live K.2 hs hl (g0 (sX4_lost_live K.2 ht hlt (g0 ⟨pk_in s 4 hs, pk_in t 4 ht, ⟨nI_pos (by omega), nI_pos (by omega), nI_pos (by omega), ?_, ?_⟩, qi (f1 (qi ?_))⟩)))))))))))))))))))))))
              · rw [nI_clamp (by omega), nI_clamp (by omega)]
                omega
              · rw [nI_clamp (by omega), nI_clamp (by omega)]
                omega
              · rw [cs, ct, nI_clamp (n := i0) (by omega), nI_clamp (n := j0) (by omega), nI_clamp (n := m0) (by omega)]
                have fr1 : ∀ q y, q ≠ 48 + t → (xcp st (48 + s) (48 + t) i0 j0 m0).1 q y = st.1 q y := fun q y g => by rw [(xcp_ne st (48 + s) (48 + t) i0 j0 m0 q g).1]
                refine eX7_copy _ _ _ _ _ _ (fun κ C Z => sX7_isSheet_in hs (f1 (sX7_isSheet_in ht (g1 ⟨pk_in s 4 hs, ?_⟩))))
                rw [cs, ct, fr1 43 s (by omega), fr1 43 t (by omega), fr1 44 s (by omega), fr1 44 t (by omega), fr1 45 s (by omega), fr1 45 t (by omega), ks.1.2.2.1, kt.1.2.2.1, ks.1.2.2.2, kt.1.2.2.2]
                refine brF n10 ⟨pk_in t 4 ht, bnT n10 ⟨pk_in s 4 hs, pk_in t 4 ht, brT hfe (brF (nI_pos (by omega)) (brF (nI_pos (by omega)) (brF (nI_pos (by omega)) ⟨pk_in s 4 hs, brF (fun q => by have := (cmpGt (by omega) (by omega) (by omega)).mp q; omega) ⟨pk_in t 4 ht, brT ((cmpLe (by omega) (by omega) (by omega)).mpr o2) ?_⟩⟩)))⟩⟩
                refine lX7_copy1 (d := 59) C Z hs ht (by omega) (by omega) m0 0 _ (by omega) (fun s2 fr2 v2 => lX7_copy2 (d := 59) C Z ht (by omega) m0 0 _ (by omega) (fun s3 fr3 v3 => qi (hp _ _ (hR.updS (fun p q h => ?_) (fun _ => ⟨lv, sz, K.range ht (lo := j0) (hi := j0 + m0) (fun y => st.1 46 (60 * s + (i0 + (y - j0)))) (by omega) (fun p q a b c => ?_) (fun y h1 h2 => ?_) (fun y h1 h2 => ?_)⟩)))))
                · unfold inC inR inD inL inT at h
                  rw [fr3 p q (by omega), fr2 p q (by omega), fr1 p q (by omega)]
                · rw [fr3 p q (by omega), fr2 p q (by omega)]
                  by_cases ep : p = 48 + t
                  · subst ep
                    rw [xcp_at]
                    exact pk_cpy_out (by omega)
                  · exact fr1 p q ep
                · rw [fr3 _ _ (by omega), fr2 _ _ (by omega), xcp_at, pk_cpy_in h1 h2]
                  exact ks.2.2 _ (by omega)
                · have e5 : 60 * t + y = 60 * t + j0 + (y - j0) := by omega
                  have e6 : 60 * s + (i0 + (y - j0)) = 60 * s + i0 + (y - j0) := by omega
                  rw [e5, v3 (y - j0) (by omega) (by omega), v2 (y - j0) (by omega) (by omega), fr1 46 _ (by omega), e6]
            · have b1 := ks.1.1
              have b2 := kt.1.1
              have mv : ∀ (F : Int32 → xSt → Prop), F 0 st → Ct 59 M_X4_move [.ref 1, .int (nI s), .int i, .int (nI t), .int j, .int m] st (Qi F) := by
                intro F hF
                rcases cp_no b1 b2 hok with q | ⟨q1, q2⟩ | ⟨q1, q2, q3⟩ | ⟨i0, j0, m0, l1, l2, l3, rfl, rfl, rfl, q | ⟨q, q2⟩⟩
                · exact eX4_move _ _ _ _ _ _ (brT q (qi hF))
                · exact eX4_move _ _ _ _ _ _ (brF q1 (brT q2 (qi hF)))
                · exact eX4_move _ _ _ _ _ _ (brF q1 (brF q2 (brT q3 (qi hF))))
                · exact eX4_move _ _ _ _ _ _ (brF (nI_pos l1) (brF (nI_pos l2) (brF (nI_pos l3) (sX4_sizeOf K.2 hs hl (brT ((subLt (by omega) l1 l3).mpr q) (qi hF))))))
                · exact eX4_move _ _ _ _ _ _ (brF (nI_pos l1) (brF (nI_pos l2) (brF (nI_pos l3) (sX4_sizeOf K.2 hs hl (brF (fun z => by have := (subLt (by omega) l1 l3).mp z; omega) (sX4_sizeOf K.2 ht hlt (brF (fun z => by have := (leSub (by omega) l2 l3).mp z; omega) (qi hF))))))))
              refine eX6_copy _ _ _ _ _ _ (sX4_named_in hs (f1 (sX4_named_in ht (g1 (sX4_lost_live K.2 hs hl (g0 (sX4_lost_live K.2 ht hlt (f0 (sX4_formOf K.2 hs hl (sX4_formOf K.2 ht hlt (brT hfe (mv _ (f0 (eX4_find _ _ (qi (qi ?_))))))))))))))) )
              refine eX7_copy _ _ _ _ _ _ (fun κ C Z => sX7_isSheet_in hs (f1 (sX7_isSheet_in ht (g1 ⟨pk_in s 4 hs, ?_⟩))))
              rw [cs, ct, m43, m43, m44, m44, m45, m45, ks.1.2.2.1, kt.1.2.2.1, ks.1.2.2.2, kt.1.2.2.2]
              refine brF n10 ⟨pk_in t 4 ht, bnT n10 ⟨pk_in s 4 hs, pk_in t 4 ht, brT hfe ?_⟩⟩
              rcases cp_no b1 b2 hok with q | ⟨q1, q2⟩ | ⟨q1, q2, q3⟩ | ⟨i0, j0, m0, l1, l2, l3, rfl, rfl, rfl, q | ⟨q, q2⟩⟩
              · exact brT q (done _)
              · exact brF q1 (brT q2 (done _))
              · exact brF q1 (brF q2 (brT q3 (done _)))
              · exact brF (nI_pos l1) (brF (nI_pos l2) (brF (nI_pos l3) ⟨pk_in s 4 hs, brT ((cmpGt (by omega) l1 l3).mpr q) (done _)⟩))
              · exact brF (nI_pos l1) (brF (nI_pos l2) (brF (nI_pos l3) ⟨pk_in s 4 hs, brF (fun z => by have := (cmpGt (by omega) l1 l3).mp z; omega) ⟨pk_in t 4 ht, brF (fun z => by have := (cmpLe (by omega) l2 l3).mp z; omega) (done _)⟩⟩))
          · refine eX6_copy _ _ _ _ _ _ (sX4_named_in hs (f1 (sX4_named_in ht (g1 (sX4_lost_live K.2 hs hl (g0 (sX4_lost_live K.2 ht hlt (f0 (sX4_formOf K.2 hs hl (sX4_formOf K.2 ht hlt (brF hfe (eX4_find _ _ (qi (qi ?_))))))))))))) )
            refine eX7_copy _ _ _ _ _ _ (fun κ C Z => sX7_isSheet_in hs (f1 (sX7_isSheet_in ht (g1 ⟨pk_in s 4 hs, ?_⟩))))
            rw [cs, ct, m43, m43, m44, m44, ks.1.2.2.1, kt.1.2.2.1]
            exact brF n10 ⟨pk_in t 4 ht, bnT n10 ⟨pk_in s 4 hs, pk_in t 4 ht, brF hfe (done _)⟩⟩
    · exact eX6_copy _ _ _ _ _ _ (sX4_named_in hs (f1 (sX4_named_no h (g0 (qi (eX7_copy _ _ _ _ _ _ (fun κ C Z => sX7_isSheet_in hs (f1 (sX7_isSheet_no h (g0 (qi (fin _))))))))))))
  · exact eX6_copy _ _ _ _ _ _ (sX4_named_no h (f0 (qi (eX7_copy _ _ _ _ _ _ (fun κ C Z => sX7_isSheet_no h (f0 (qi (fin _))))))))
