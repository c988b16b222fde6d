theorem wv_or (x : Int32) : wv x = -1 ∨ ∃ w, w ≤ 99 ∧ wv x = nI w := by
  by_cases h : ¬ x < 0 ∧ ¬ 99 < x
  · obtain ⟨k, -, h2, rfl⟩ := rng (lo := 0) (hi := 99) (by omega) h (by omega)
    exact Or.inr ⟨k, h2, wv_in h⟩
  · exact Or.inl (wv_no h)
section S28
variable {lv : Nat → Bool} {sz : Nat → Nat} {d s q m : Nat} {κ : xK} {Q : Option Value → xSt → Prop} {it0 : Nat → Int32} {y : Int32}
theorem lX2_keep (C : Cx κ M_X2_keep (d + 4)) (Z : xR κ Q) (hs : s < 4) (hl : lv s = true) (hmz : m ≤ sz s) (hm30 : m ≤ 30) (hq8 : q < 8) : ∀ (f i : Nat) (st : xSt), i + f = m → RS0 st lv sz → st.1 5 5 = nI q → (∀ k, k < m → st.1 46 (60 * s + k) = it0 k) → (∀ st' : xSt, (∀ p k, ¬ (p = 74 + q ∧ i ≤ k ∧ k < m) → ¬ ((p = 23 ∨ p = 24) ∧ k = q) → ¬ (p = 5 ∧ k = 5) → st'.1 p k = st.1 p k) → (∀ k, i ≤ k → k < m → st'.1 (74 + q) k = wv (it0 k)) → st'.1 23 q = nI m → st'.1 24 q = y → st'.1 5 5 = nI (q + 1) → Q (some (.int (nI q))) st') → X κ 23 [(0, .ref 5), (1, .ref 1), (2, .int (nI s)), (3, .int (nI m)), (4, .int y), (5, .int (nI i))] [] st
  | 0, i, st, e, K, h5, hi, hq => by
    have eq : (nI q).toNatClampNeg = q := nI_clamp (by omega)
    have o1 : ∀ (s : xSt) (k : Nat) (v : Int32), (xup s 23 k v).1 5 5 = s.1 5 5 := fun s k v => xup_off (by omega)
    have o2 : ∀ (s : xSt) (k : Nat) (v : Int32), (xup s 24 k v).1 5 5 = s.1 5 5 := fun s k v => xup_off (by omega)
    have ep : nI (q + 1) - 1 = nI q := nI_pred q
    refine bX2_keep_23 C Z _ _ _ _ _ ?_
    simp only [h5, o1, o2, eq, xup_eq, nI_1, ep]
    refine brT (nI_le (by omega) (by omega)) ⟨pk_in q 8 hq8, pk_in q 8 hq8, hq _ (fun p k a b c => ?_) (fun k h1 h2 => by omega) ?_ ?_ (xup_eq _ _ _ _)⟩
    · rw [xup_off (by omega), xup_off (by omega), xup_off (by omega)]
    · rw [xup_off (by omega), xup_off (by omega), xup_eq]
    · rw [xup_off (by omega), xup_eq]
  | f + 1, i, st, e, K, h5, hi, hq => by
    have hz := ((K s hs).1 hl).1.1
    refine bX2_keep_23 C Z _ _ _ _ _ (brF (nI_ge (by omega) (by omega)) ?_)
    rw [h5, nI_clamp (n := q) (by omega), nI_clamp (n := i) (by omega)]
    refine ⟨pk_in q 8 hq8, sX4_wordAt K hs hl (by omega) ⟨pk_in i 30 (by omega), ?_⟩⟩
    rw [hi i (by omega)]
    simp only [nI_1]
    refine lX2_keep C Z hs hl hmz hm30 hq8 f (i + 1) _ (by omega) (K.congr (fun p k g => xup_off (by omega))) (by rw [xup_off (by omega)]; exact h5) (fun k hk => by rw [xup_off (by omega)]; exact hi k hk) (fun st' h1 h2 h3 h4 h6 => hq st' (fun p k a b c => ?_) (fun k g1 g2 => ?_) h3 h4 h6)
    · rw [h1 p k (by omega) b c, xup_off (by omega)]
    · by_cases ek : k = i
      · subst ek
        rw [h1 _ k (by omega) (by omega) (by omega), xup_eq]
      · exact h2 k (by omega) g2
theorem lX7_list (C : Cx κ M_X7_list (d + 2)) (Z : xR κ Q) (hs : s < 4) (hm30 : m ≤ 30) (hq8 : q < 8) : ∀ (f i : Nat) (st : xSt), i + f = m → st.1 7 14 = nI q → (∀ k, k < m → st.1 46 (60 * s + k) = it0 k) → (∀ st' : xSt, (∀ p k, ¬ (p = 40 ∧ 30 * q + i ≤ k ∧ k < 30 * q + m) → ¬ ((p = 38 ∨ p = 39) ∧ k = q) → ¬ (p = 7 ∧ k = 14) → st'.1 p k = st.1 p k) → (∀ k, i ≤ k → k < m → st'.1 40 (30 * q + k) = wv (it0 k)) → st'.1 38 q = nI m → st'.1 39 q = y → st'.1 7 14 = nI (q + 1) → Q (some (.int (nI q))) st') → X κ 77 [(0, .ref 7), (1, .int (nI s)), (2, .int (nI m)), (3, .int y), (4, .int (nI i))] [] st
  | 0, i, st, e, h5, hi, hq => by
    have eq : (nI q).toNatClampNeg = q := nI_clamp (by omega)
    have o1 : ∀ (s : xSt) (k : Nat) (v : Int32), (xup s 38 k v).1 7 14 = s.1 7 14 := fun s k v => xup_off (by omega)
    have o2 : ∀ (s : xSt) (k : Nat) (v : Int32), (xup s 39 k v).1 7 14 = s.1 7 14 := fun s k v => xup_off (by omega)
    have ep : nI (q + 1) - 1 = nI q := nI_pred q
    refine bX7_list_77 C Z _ _ _ _ _ ?_
    simp only [h5, o1, o2, eq, xup_eq, nI_1, ep]
    refine brT (nI_le (by omega) (by omega)) ⟨pk_in q 8 hq8, pk_in q 8 hq8, hq _ (fun p k a b c => ?_) (fun k h1 h2 => by omega) ?_ ?_ (xup_eq _ _ _ _)⟩
    · rw [xup_off (by omega), xup_off (by omega), xup_off (by omega)]
    · rw [xup_off (by omega), xup_off (by omega), xup_eq]
    · rw [xup_off (by omega), xup_eq]
  | f + 1, i, st, e, h5, hi, hq => by
    refine bX7_list_77 C Z _ _ _ _ _ (brF (nI_ge (by omega) (by omega)) ?_)
    rw [h5, e60, e30, nI_clamp (n := 60 * s + i) (by omega), nI_clamp (n := 30 * q + i) (by omega), hi i (by omega)]
    refine ⟨pk_in (60 * s + i) 240 (by omega), ?_⟩
    have go : X κ 77 [(0, .ref 7), (1, .int (nI s)), (2, .int (nI m)), (3, .int y), (4, .int (nI i + 1))] [] (xup st 40 (30 * q + i) (wv (it0 i))) := by
      simp only [nI_1]
      refine lX7_list C Z hs hm30 hq8 f (i + 1) _ (by omega) (by rw [xup_off (by omega)]; exact h5) (fun k hk => by rw [xup_off (by omega)]; exact hi k hk) (fun st' h1 h2 h3 h4 h6 => hq st' (fun p k a b c => ?_) (fun k g1 g2 => ?_) h3 h4 h6)
      · rw [h1 p k (by omega) b c, xup_off (by omega)]
      · by_cases ek : k = i
        · subst ek
          rw [h1 _ _ (by omega) (by omega) (by omega), xup_eq]
        · exact h2 k (by omega) g2
    by_cases hw : ¬ it0 i < 0 ∧ ¬ 99 < it0 i
    · rw [wv_in hw] at go
      exact eX7_isWord _ _ (sI1 hw ⟨Or.inr rfl, qi (f1 ⟨pk_in (30 * q + i) 240 (by omega), go⟩)⟩)
    · rw [wv_no hw] at go
      exact eX7_isWord _ _ (sI0 hw ⟨Or.inl rfl, qi (f0 ⟨pk_in (30 * q + i) 240 (by omega), go⟩)⟩)
end S28
theorem g_list (c x y : Int32) : Good M_X6_list M_X7_list [.int c, .int x, .int y] := by
  intro st hR P hp
  have fin : ∀ v, P v v st := fun v => hp v st hR
  obtain ⟨n, -, ⟨lv, sz, K⟩, -, -, ⟨q, len, yr, it, KL⟩, -⟩ := id hR
  have h8 := KL.1
  have m43 : ∀ {z : Nat} (k : Int32), (xup st 1 3 k).1 43 z = st.1 43 z := fun k => xup_off (by omega)
  have m45 : ∀ {z : Nat} (k : Int32), (xup st 1 3 k).1 45 z = st.1 45 z := fun k => xup_off (by omega)
  have done : ∀ k : Int32, Ct 59 M_X7_meets [.ref 7, .int k] (xup st 1 3 k) (Qi fun v s2 => Qi (fun w s2 => P (-10 - k) w s2) (some (.int v)) s2) := fun k => eX7_meets _ _ (qi (qi (hp _ _ (two_find hR _))))
  rcases isC 4 c with ⟨s, hs, rfl⟩ | h
  · have cs : (nI s).toNatClampNeg = s := nI_clamp (by omega)
    by_cases hx : ¬ x < nI 0 ∧ ¬ nI 30 < x
    · by_cases hy : ¬ y < nI 0 ∧ ¬ nI 3000 < y
      · cases hl : lv s with
        | false =>
          refine eX6_list _ _ _ _ (sX4_named_in hs (f1 (sW1 hx (f1 (sW1 hy (g1 (sX4_lost_dead K.2 hs hl (f1 (eX4_find _ _ (qi (qi ?_)))))))))))
          refine eX7_list _ _ _ _ (fun κ C Z => sX7_isSheet_in hs (f1 (sI1 hx (f1 (sI1 hy (g1 ⟨pk_in s 4 hs, bnF ?_ (done _)⟩))))))
          rw [cs, m43]
          exact ((K.2 s hs).2 hl).2
        | true =>
          have k := (K.2 s hs).1 hl
          by_cases hle : x ≤ nI (sz s)
          · obtain ⟨m, -, hm30, rfl⟩ := rng (by omega) hx (by omega)
            obtain ⟨y0, -, hy0, rfl⟩ := rng (by omega) hy (by omega)
            have hmz : m ≤ sz s := (nI_leI (by omega) (by have := k.1.1; omega)).mp hle
            by_cases hf : q < 8
            · refine eX6_list _ _ _ _ (sX4_named_in hs (f1 (sW1 hx (f1 (sW1 hy (g1 (sX4_lost_live K.2 hs hl (f0 (sX4_sizeOf K.2 hs hl (brT hle (eX2_isFull _ (brT ?_ (qi (f0 (eX2_keep _ _ _ _ (fun κ C Z => eX2_isFull _ (brT ?_ (qi (g0 (sW1 hx (g1 (lX2_keep (d := 55) (it0 := fun k => st.1 46 (60 * s + k)) C Z hs hl hmz hm30 hf m 0 st (by omega) K.2 KL.2.1.1 (fun _ _ => rfl) (fun s1 fr1 v1 a1 a2 a3 => qi (qi ?_))))))))))))))))))))))))
              · rw [KL.2.1.1]
                exact nI_lt (b := 8) hf (by omega)
              · rw [KL.2.1.1]
                exact nI_lt (b := 8) hf (by omega)
              · refine eX7_list _ _ _ _ (fun κ C Z => sX7_isSheet_in hs (f1 (sI1 hx (f1 (sI1 hy (g1 ⟨pk_in s 4 hs, ?_⟩))))))
                rw [cs, fr1 43 s (by omega) (by omega) (by omega), fr1 45 s (by omega) (by omega) (by omega), fr1 7 14 (by omega) (by omega) (by omega), k.1.2.2.1, k.1.2.2.2, KL.2.1.2]
                refine bnT n10 ⟨pk_in s 4 hs, brT hle (bnT (fun z => by have := (nI_eq (a := q) (b := 8) (by omega) (by omega)).mp z; omega) ?_)⟩
                refine lX7_list (d := 58) (it0 := fun k => st.1 46 (60 * s + k)) C Z hs hm30 hf m 0 s1 (by omega) (by rw [fr1 7 14 (by omega) (by omega) (by omega)]; exact KL.2.1.2) (fun k hk => fr1 _ _ (by omega) (by omega) (by omega)) (fun s2 fr2 v2 b1 b2 b3 => qi (hp _ _ (hR.updL (fun p z h => ?_) (fun _ => ⟨q + 1, fun z => if z = q then m else len z, fun z => if z = q then y0 else yr z, fun z i => if z = q then wv (st.1 46 (60 * s + i)) else it z i, by omega, ⟨?_, b3⟩, fun z hz => ?_⟩))))
                · unfold inC inS inR inD inT at h
                  rw [fr2 p z (by omega) (by omega) (by omega), fr1 p z (by omega) (by omega) (by omega)]
                · rw [fr2 _ _ (by omega) (by omega) (by omega)]
                  exact a3
                · by_cases ez : z = q
                  · subst ez
                    simp only [if_true]
                    refine ⟨⟨hm30, hy0⟩, ⟨?_, b1, ?_, b2⟩, fun i hi => ⟨?_, v2 i (by omega) hi, wv_or _⟩⟩
                    · rw [fr2 _ _ (by omega) (by omega) (by omega)]
                      exact a1
                    · rw [fr2 _ _ (by omega) (by omega) (by omega)]
                      exact a2
                    · rw [fr2 _ _ (by omega) (by omega) (by omega)]
                      exact v1 i (by omega) hi
                  · simp only [if_neg ez]
                    have kz := KL.2.2 z (by omega)
                    have fr : ∀ p i, ¬ p = 74 + q → ¬ (p = 40 ∧ 30 * q ≤ i ∧ i < 30 * q + 30) → ¬ ((p = 23 ∨ p = 24 ∨ p = 38 ∨ p = 39) ∧ i = q) → p ≠ 5 → p ≠ 7 → s2.1 p i = st.1 p i := fun p i a b c e1 e2 => by rw [fr2 p i (by omega) (by omega) (by omega), fr1 p i (by omega) (by omega) (by omega)]
                    refine ⟨kz.1, ?_, fun i hi => ?_⟩
                    · rw [fr 23 z (by omega) (by omega) (by omega) (by omega) (by omega), fr 38 z (by omega) (by omega) (by omega) (by omega) (by omega), fr 24 z (by omega) (by omega) (by omega) (by omega) (by omega), fr 39 z (by omega) (by omega) (by omega) (by omega) (by omega)]
                      exact kz.2.1
                    · rw [fr (74 + z) i (by omega) (by omega) (by omega) (by omega) (by omega), fr 40 _ (by omega) (by omega) (by omega) (by omega) (by omega)]
                      exact kz.2.2 i hi
            · have eq8 : q = 8 := by omega
              subst eq8
              refine eX6_list _ _ _ _ (sX4_named_in hs (f1 (sW1 hx (f1 (sW1 hy (g1 (sX4_lost_live K.2 hs hl (f0 (sX4_sizeOf K.2 hs hl (brT hle (eX2_isFull _ (brF ?_ (qi (f1 (qi ?_)))))))))))))))
              · rw [KL.2.1.1]
                decide
              · refine eX7_list _ _ _ _ (fun κ C Z => sX7_isSheet_in hs (f1 (sI1 hx (f1 (sI1 hy (g1 ⟨pk_in s 4 hs, ?_⟩))))))
                rw [cs, k.1.2.2.1, k.1.2.2.2, KL.2.1.2]
                exact bnT n10 ⟨pk_in s 4 hs, brT hle (bnF rfl (qi (fin _)))⟩
          · refine eX6_list _ _ _ _ (sX4_named_in hs (f1 (sW1 hx (f1 (sW1 hy (g1 (sX4_lost_live K.2 hs hl (f0 (sX4_sizeOf K.2 hs hl (brF hle (eX4_find _ _ (qi (qi ?_)))))))))))))
            refine eX7_list _ _ _ _ (fun κ C Z => sX7_isSheet_in hs (f1 (sI1 hx (f1 (sI1 hy (g1 ⟨pk_in s 4 hs, ?_⟩))))))
            rw [cs, m43, m45, k.1.2.2.1, k.1.2.2.2]
            exact bnT n10 ⟨pk_in s 4 hs, brF hle (done _)⟩
      · exact eX6_list _ _ _ _ (sX4_named_in hs (f1 (sW1 hx (f1 (sW0 hy (g0 (qi (eX7_list _ _ _ _ (fun κ C Z => sX7_isSheet_in hs (f1 (sI1 hx (f1 (sI0 hy (g0 (qi (fin _))))))))))))))))
    · exact eX6_list _ _ _ _ (sX4_named_in hs (f1 (sW0 hx (f0 (qi (eX7_list _ _ _ _ (fun κ C Z => sX7_isSheet_in hs (f1 (sI0 hx (f0 (qi (fin _))))))))))))
  · exact eX6_list _ _ _ _ (sX4_named_no h (f0 (qi (eX7_list _ _ _ _ (fun κ C Z => sX7_isSheet_no h (f0 (qi (fin _))))))))
