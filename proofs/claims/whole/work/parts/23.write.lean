section S23
variable {st : xSt} {n : Nat} {hm nz bg : Nat → Nat} {wd : Nat → Nat → Int32} {d s i j a b z g N : Nat} {κ : xK} {Q : Option Value → xSt → Prop} {P : Int32 → xSt → Prop}
theorem sX0_wordOf (K : RelC st n hm nz bg wd) (hj : j < n) {v : Nat} (hv : v < 2 ^ 30) (hp : P (wd j (v % tt hm nz j)) st) : Ct (d + 3) M_X0_wordOf [.ref 2, .int (nI j), .int (nI (v + 1))] st (Qi P) := eX0_wordOf _ _ _ (sX0_placeOf K hj hv (sX0_wordAt K hj (K.md hj v) (qi hp)))
theorem sX4_store2 (hs : s < 4) (h10 : st.1 10 s = nI z) (hz : z ≤ 60) (h9 : st.1 9 s = nI g) (hg : g ≤ 2) (hi : i < z) {v : Int32} {P : xSt → Prop} (hp : P (xup st (48 + s) i (cutv g v))) : Ct (d + 2) M_X4_store [.ref 1, .int (nI s), .int (nI i), .int v] st (Qv P) := by
  refine eX4_store _ _ _ _ (eX4_hasItem _ _ _ (sX4_named_in hs (f1 (brF (nI_pos (by omega)) ⟨pk_in s 4 hs, ?_⟩))))
  rw [nI_clamp (n := s) (by omega), h10]
  refine brF (nI_ge hi (by omega)) (brF (nI_ge (a := i) (b := 60) (by omega) (by omega)) (qi (f1 ⟨pk_in s 4 hs, pk_in s 4 hs, ?_⟩)))
  rw [nI_clamp (n := i) (by omega), h9]
  exact sX4_cut hg ⟨pk_in i 60 (by omega), qv hp⟩
/-- the words of a walk -/
def wk (hm nz : Nat → Nat) (wd : Nat → Nat → Int32) (j a b g k : Nat) : Int32 := cutv g (wd j ((a + k * b - 1) % tt hm nz j))
theorem eab {a b k : Nat} : nI a + nI k * nI b = nI (a + k * b) := by rw [pk_mul, nI_add]
theorem lX6_write (C : Cx κ M_X6_write (d + 4)) (Z : xR κ Q) (hs : s < 4) (hj : j < n) (ha : 1 ≤ a) (hz : z ≤ 60) (hg : g ≤ 2) (hN : N ≤ z) (hb : ∀ k, k < N → a + k * b ≤ 400) : ∀ (f i : Nat) (st : xSt), i + f = N → RelC st n hm nz bg wd → st.1 10 s = nI z → st.1 9 s = nI g → (∀ st' : xSt, (∀ q k, ¬ (q = 48 + s ∧ i ≤ k ∧ k < N) → st'.1 q k = st.1 q k) → (∀ k, i ≤ k → k < N → st'.1 (48 + s) k = wk hm nz wd j a b g k) → Q (some (.int (nI N))) st') → X κ 71 [(0, .ref 0), (1, .int (nI s)), (2, .int (nI j)), (3, .int (nI a)), (4, .int (nI b)), (5, .int (nI N)), (6, .int (nI i))] [] st
  | 0, i, st, e, K, h10, h9, hq => bX6_write_71 C Z _ _ _ _ _ _ _ (brT (nI_le (by omega) (by omega)) (hq st (fun _ _ _ => rfl) (fun k h1 h2 => by omega)))
  | f + 1, i, st, e, K, h10, h9, hq => by
    have hbi := hb i (by omega)
    refine bX6_write_71 C Z _ _ _ _ _ _ _ (brF (nI_ge (by omega) (by omega)) ?_)
    rw [eab, show a + i * b = (a + i * b - 1) + 1 by omega]
    refine sX0_wordOf K hj (by omega) (sX4_store2 hs h10 hz h9 hg (by omega) ?_)
    simp only [nI_1]
    refine lX6_write C Z hs hj ha hz hg hN hb f (i + 1) _ (by omega) (K.congr (fun q k h => xup_off (by unfold inC at h; omega))) (by rw [xup_off (by omega)]; exact h10) (by rw [xup_off (by omega)]; exact h9) (fun st' h1 h2 => hq st' (fun q k w => ?_) (fun k w1 w2 => ?_))
    · rw [h1 q k (by omega), xup_off (by omega)]
    · by_cases ek : k = i
      · subst ek
        rw [h1 _ k (by omega), xup_eq]
        rfl
      · exact h2 k (by omega) w2
theorem lX7_write (C : Cx κ M_X7_write (d + 4)) (Z : xR κ Q) (hs : s < 4) (hj : j < n) (ha : 1 ≤ a) (hz : z ≤ 60) (hg : g ≤ 2) (hN : N ≤ z) (hb : ∀ k, k < N → a + k * b ≤ 400) (he : N = z ∨ (400 < a + N * b ∧ a + N * b < 2 ^ 30)) : ∀ (f i : Nat) (st : xSt), i + f = N → RelC st n hm nz bg wd → st.1 45 s = nI z → st.1 44 s = nI g → (∀ st' : xSt, (∀ q k, ¬ (q = 46 ∧ 60 * s + i ≤ k ∧ k < 60 * s + N) → st'.1 q k = st.1 q k) → (∀ k, i ≤ k → k < N → st'.1 46 (60 * s + k) = wk hm nz wd j a b g k) → Q (some (.int (nI N))) st') → X κ 57 [(0, .ref 7), (1, .int (nI s)), (2, .int (nI j)), (3, .int (nI a)), (4, .int (nI b)), (5, .int (nI i))] [] st
  | 0, i, st, e, K, h45, h44, hq => by
    have hq' := hq st (fun _ _ _ => rfl) (fun k h1 h2 => by omega)
    rw [show i = N by omega]
    refine bX7_write_57 C Z _ _ _ _ _ _ ⟨pk_in s 4 hs, ?_⟩
    rw [nI_clamp (n := s) (by omega), h45, eab]
    rcases he with he | he
    · exact brT (nI_le (by omega) (by omega)) hq'
    · by_cases hNz : z ≤ N
      · exact brT (nI_le hNz (by omega)) hq'
      · exact brF (nI_ge (by omega) (by omega)) (brT (nI_lt (a := 400) he.1 (by omega)) hq')
  | f + 1, i, st, e, K, h45, h44, hq => by
    have hbi := hb i (by omega)
    refine bX7_write_57 C Z _ _ _ _ _ _ ⟨pk_in s 4 hs, ?_⟩
    rw [nI_clamp (n := s) (by omega), h45, eab, show a + i * b = (a + i * b - 1) + 1 by omega]
    refine brF (nI_ge (by omega) (by omega)) (brF (nI_nlt (a := 400) (by omega) (by omega)) (sX7_placeOf K hj (by omega) (sX7_wordOf K hj (K.md hj _) (sX7_lay hs (by omega) hg h44 ?_))))
    simp only [nI_1]
    refine lX7_write C Z hs hj ha hz hg hN hb he f (i + 1) _ (by omega) (K.congr (fun q k h => xup_off (by unfold inC at h; omega))) (by rw [xup_off (by omega)]; exact h45) (by rw [xup_off (by omega)]; exact h44) (fun st' h1 h2 => hq st' (fun q k w => ?_) (fun k w1 w2 => ?_))
    · rw [h1 q k (by omega), xup_off (by omega)]
    · by_cases ek : k = i
      · subst ek
        rw [h1 _ _ (by omega), xup_eq]
        rfl
      · exact h2 k (by omega) w2
end S23
def wlkOK (n : Nat) (c a b : Int32) : Prop := (∃ j, j < n ∧ c = nI j) ∧ (¬ a < 1 ∧ ¬ 99 < a) ∧ (¬ b < 1 ∧ ¬ 20 < b)
section S23b
variable {st : xSt} {n : Nat} {hm nz bg : Nat → Nat} {wd : Nat → Nat → Int32} {d : Nat} {P : Int32 → xSt → Prop} {c a b : Int32}
theorem sX6_isWalk (K : RelC st n hm nz bg wd) (h1 : wlkOK n c a b → P 1 st) (h0 : ¬ wlkOK n c a b → P 0 st) : Ct (d + 1) M_X6_isWalk [.ref 0, .int c, .int a, .int b] st (Qi P) := by
  refine eX6_isWalk _ _ _ _ ?_
  rcases isC n c with hc | hc
  · obtain ⟨j, hj, rfl⟩ := id hc
    refine sX0_has_in K hj (f1 ?_)
    by_cases hw : ¬ a < 1 ∧ ¬ 99 < a
    · by_cases hh : ¬ b < 1 ∧ ¬ 20 < b
      · exact sW1 hw (f1 (sW1 hh (f1 (qi (h1 ⟨hc, hw, hh⟩)))))
      · exact sW1 hw (f1 (sW0 hh (f0 (qi (h0 (fun q => hh q.2.2))))))
    · exact sW0 hw (f0 (qi (h0 (fun q => hw q.2.1))))
  · exact sX0_has_no K hc (f0 (qi (h0 (fun ⟨⟨j, hj, e⟩, _⟩ => hc j hj e))))
end S23b
theorem g_write (c w a b : Int32) : Good M_X6_write M_X7_write [.int c, .int w, .int a, .int b] := by
  intro st hR P hp
  have fin : ∀ v, P v v st := fun v => hp v st hR
  obtain ⟨n, ⟨hm, nz, bg, wd, KC⟩, ⟨lv, sz, K⟩, -⟩ := id hR
  rcases isC 4 c with ⟨s, hs, rfl⟩ | h
  · by_cases hw : wlkOK n w a b
    · obtain ⟨⟨j, hj, rfl⟩, ha, hb⟩ := id hw
      cases hl : lv s with
      | false =>
        refine eX6_write _ _ _ _ _ (fun κ C Z => sX4_named_in hs (f1 (sX6_isWalk KC (fun _ => g1 (sX4_lost_dead K.2 hs hl (f1 (eX4_find _ _ (qi (qi ?_)))))) (fun e => (e hw).elim))))
        have KC1 : RelC (xup st 1 3 1) n hm nz bg wd := KC.congr (fun q k h => xup_off (by unfold inC at h; omega))
        refine eX7_write _ _ _ _ _ (fun κ C Z => sX7_isSheet_in hs (f1 (sX7_isCount_in KC1 hj (f1 (sI1 ha (f1 (sI1 hb (g1 ⟨pk_in s 4 hs, bnF ?_ (eX7_meets _ _ (qi (qi (hp _ _ (two_find hR _)))))⟩))))))))
        rw [nI_clamp (by omega), xup_off (by omega)]
        exact ((K.2 s hs).2 hl).2
      | true =>
        have k := (K.2 s hs).1 hl
        obtain ⟨g, hg, eg⟩ := k.2.1.2
        obtain ⟨a0, ha1, ha2, rfl⟩ := rng (lo := 1) (hi := 99) (by omega) ha (by omega)
        obtain ⟨b0, hb1, hb2, rfl⟩ := rng (lo := 1) (hi := 20) (by omega) hb (by omega)
        have eN : (400 - nI a0) / nI b0 + 1 = nI ((400 - a0) / b0 + 1) := by
          have e4 : (400 : Int32) - nI a0 = nI (400 - a0) := pk_sub (a := 400) (by omega)
          rw [e4, pk_div (by omega) (by omega) (by omega), nI_1]
        have hdiv : (400 - a0) / b0 ≤ 400 := Nat.le_trans (Nat.div_le_self _ _) (by omega)
        obtain ⟨N, hNz, eN2, hbk, he⟩ : ∃ N, N ≤ sz s ∧ imin (nI (sz s)) (nI ((400 - a0) / b0 + 1)) = nI N ∧ (∀ k, k < N → a0 + k * b0 ≤ 400) ∧ (N = sz s ∨ (400 < a0 + N * b0 ∧ a0 + N * b0 < 2 ^ 30)) := by
          have key : ∀ k, k ≤ (400 - a0) / b0 → a0 + k * b0 ≤ 400 := by
            intro k hk
            have := (Nat.le_div_iff_mul_le (by omega : 0 < b0)).mp hk
            omega
          by_cases hc : (400 - a0) / b0 + 1 < sz s
          · refine ⟨(400 - a0) / b0 + 1, by omega, ?_, fun k hk => key k (by omega), Or.inr ⟨?_, ?_⟩⟩
            · unfold imin
              rw [if_pos (nI_lt hc (by have := k.1.1; omega))]
            · have h2 := Nat.div_add_mod (400 - a0) b0
              have h3 := Nat.mod_lt (400 - a0) (by omega : 0 < b0)
              rw [Nat.add_mul, Nat.mul_comm ((400 - a0) / b0) b0]
              omega
            · have : ((400 - a0) / b0 + 1) * b0 ≤ 401 * 20 := Nat.mul_le_mul (by omega) hb2
              omega
          · refine ⟨sz s, Nat.le_refl _, ?_, fun k hk => key k (by omega), Or.inl rfl⟩
            unfold imin
            rw [if_neg (nI_nlt (by omega) (by omega))]
        refine eX6_write _ _ _ _ _ (fun κ C Z => sX4_named_in hs (f1 (sX6_isWalk KC (fun _ => g1 (sX4_lost_live K.2 hs hl (f0 (sX4_sizeOf K.2 hs hl ⟨nI_ne0 (by omega) (by omega), ?_⟩)))) (fun e => (e hw).elim))))
        rw [eN, eN2]
        refine lX6_write (d := 56) C Z hs hj ha1 k.1.1 hg hNz hbk N 0 st (by omega) KC k.1.2.1 (by rw [k.2.1.1]; exact eg) (fun s1 fr1 v1 => qi ?_)
        have KC1 : RelC s1 n hm nz bg wd := KC.congr (fun q k h => fr1 q k (by unfold inC at h; omega))
        refine eX7_write _ _ _ _ _ (fun κ C Z => sX7_isSheet_in hs (f1 (sX7_isCount_in KC1 hj (f1 (sI1 ha (f1 (sI1 hb (g1 ⟨pk_in s 4 hs, ?_⟩))))))))
        rw [nI_clamp (by omega), fr1 43 s (by omega), k.1.2.2.1]
        refine bnT n10 (lX7_write (d := 56) C Z hs hj ha1 k.1.1 hg hNz hbk he N 0 s1 (by omega) KC1 (by rw [fr1 45 s (by omega)]; exact k.1.2.2.2) (by rw [fr1 44 s (by omega)]; exact eg) (fun s2 fr2 v2 => qi (hp _ _ (hR.updS (fun p q h => ?_) (fun _ => ⟨lv, sz, K.range hs (lo := 0) (hi := N) (wk hm nz wd j a0 b0 g) (by have := k.1.1; omega) (fun p q a b c => ?_) (fun x _ hx => ?_) (fun x _ hx => v2 x (by omega) hx)⟩)))))
        · unfold inC inR inD inL inT at h
          rw [fr2 p q (by omega), fr1 p q (by omega)]
        · rw [fr2 p q (by omega), fr1 p q (by omega)]
        · rw [fr2 _ _ (by omega)]
          exact v1 x (by omega) hx
    · refine eX6_write _ _ _ _ _ (fun κ C Z => sX4_named_in hs (f1 (sX6_isWalk KC (fun e => (hw e).elim) (fun _ => g0 (qi ?_)))))
      refine eX7_write _ _ _ _ _ (fun κ C Z => sX7_isSheet_in hs (f1 ?_))
      rcases isC n w with ⟨j, hj, rfl⟩ | hj
      · refine sX7_isCount_in KC hj (f1 ?_)
        by_cases ha : ¬ a < 1 ∧ ¬ 99 < a
        · by_cases hb : ¬ b < 1 ∧ ¬ 20 < b
          · exact (hw ⟨⟨j, hj, rfl⟩, ha, hb⟩).elim
          · exact sI1 ha (f1 (sI0 hb (g0 (qi (fin _)))))
        · exact sI0 ha (f0 (qi (fin _)))
      · exact sX7_isCount_no KC hj (f0 (qi (fin _)))
  · exact eX6_write _ _ _ _ _ (fun κ C Z => sX4_named_no h (f0 (qi (eX7_write _ _ _ _ _ (fun κ C Z => sX7_isSheet_no h (f0 (qi (fin _))))))))
