/-- the first m items are WORDS, no two alike -/
def ul (it : Nat → Int32) (m : Nat) : Prop := ∀ i, i < m → (¬ it i < 0 ∧ ¬ 99 < it i) ∧ ∀ j, j < i → ¬ it j = it i
section S29
variable {st : xSt} {lv : Nat → Bool} {sz : Nat → Nat} {d s m : Nat} {κ : xK} {Q : Option Value → xSt → Prop} {P : Int32 → xSt → Prop} {it : Nat → Int32}
theorem wv_eq {x y : Int32} (h : ¬ y < 0 ∧ ¬ 99 < y) : wv x = y ↔ x = y := by
  constructor
  · intro e
    by_cases hx : ¬ x < 0 ∧ ¬ 99 < x
    · rw [wv_in hx] at e
      exact e
    · rw [wv_no hx] at e
      exact (h.1 (by rw [← e]; decide)).elim
  · intro e
    rw [e, wv_in h]
theorem lX4_26 (C : Cx κ M_X4_unlikeWords (d + 4)) (Z : xR κ Q) (K : RS0 st lv sz) (hs : s < 4) (hl : lv s = true) (hmz : m ≤ sz s) (hi : ∀ i, i < m → st.1 46 (60 * s + i) = it i) {i : Nat} (him : i < m) (hw : ¬ it i < 0 ∧ ¬ 99 < it i) (hdup : (¬ ∀ j, j < i → ¬ it j = it i) → Q (some (.int 0)) st) (hgo : (∀ j, j < i → ¬ it j = it i) → X κ 2 [(0, .ref 1), (1, .int (nI s)), (2, .int (nI m)), (3, .int (nI i + 1))] [] st) : ∀ (f j : Nat), j + f = i → (∀ k, k < j → ¬ it k = it i) → X κ 26 [(0, .ref 1), (1, .int (nI s)), (2, .int (nI m)), (3, .int (nI i)), (4, .int (it i)), (5, .int (nI j))] [] st
  | 0, j, e, ok => by
    have hz := ((K s hs).1 hl).1.1
    exact bX4_unlikeWords_26 C Z _ _ _ _ _ _ (brT (nI_le (by omega) (by omega)) (hgo (fun k hk => ok k (by omega))))
  | f + 1, j, e, ok => by
    have hz := ((K s hs).1 hl).1.1
    refine bX4_unlikeWords_26 C Z _ _ _ _ _ _ (brF (nI_ge (by omega) (by omega)) (sX4_wordAt K hs hl (by omega) ?_))
    rw [hi j (by omega)]
    refine ⟨fun g => ?_, fun g => hdup (fun t => t j (by omega) ((wv_eq hw).mp g))⟩
    simp only [nI_1]
    refine lX4_26 C Z K hs hl hmz hi him hw hdup hgo f (j + 1) (by omega) (fun k hk => ?_)
    by_cases ek : k = j
    · rw [ek]
      exact fun q => g ((wv_eq hw).mpr q)
    · exact ok k (by omega)
theorem lX4_2 (C : Cx κ M_X4_unlikeWords (d + 4)) (Z : xR κ Q) (K : RS0 st lv sz) (hs : s < 4) (hl : lv s = true) (hmz : m ≤ sz s) (hi : ∀ i, i < m → st.1 46 (60 * s + i) = it i) (h1 : ul it m → Q (some (.int 1)) st) (h0 : ¬ ul it m → Q (some (.int 0)) st) : ∀ (f i : Nat), i + f = m → (∀ k, k < i → (¬ it k < 0 ∧ ¬ 99 < it k) ∧ ∀ j, j < k → ¬ it j = it k) → X κ 2 [(0, .ref 1), (1, .int (nI s)), (2, .int (nI m)), (3, .int (nI i))] [] st
  | 0, i, e, ok => by
    have hz := ((K s hs).1 hl).1.1
    exact bX4_unlikeWords_2 C Z _ _ _ _ (brT (nI_le (by omega) (by omega)) (h1 (fun k hk => ok k (by omega))))
  | f + 1, i, e, ok => by
    have hz := ((K s hs).1 hl).1.1
    refine bX4_unlikeWords_2 C Z _ _ _ _ (brF (nI_ge (by omega) (by omega)) (sX4_wordAt K hs hl (by omega) ?_))
    rw [hi i (by omega)]
    by_cases hw : ¬ it i < 0 ∧ ¬ 99 < it i
    · rw [wv_in hw]
      refine bnT (fun q => hw.1 (by rw [q]; decide)) (lX4_26 C Z K hs hl hmz hi (by omega) hw (fun t => h0 (fun u => t (u i (by omega)).2)) (fun t => ?_) i 0 (by omega) (fun k hk => by omega))
      simp only [nI_1]
      refine lX4_2 C Z K hs hl hmz hi h1 h0 f (i + 1) (by omega) (fun k hk => ?_)
      by_cases ek : k = i
      · rw [ek]
        exact ⟨hw, t⟩
      · exact ok k (by omega)
    · rw [wv_no hw]
      exact bnF rfl (h0 (fun u => hw (u i (by omega)).1))
theorem sX4_unlikeWords (K : RS0 st lv sz) (hs : s < 4) (hl : lv s = true) (hmz : m ≤ sz s) (hi : ∀ i, i < m → st.1 46 (60 * s + i) = it i) (h1 : ul it m → P 1 st) (h0 : ¬ ul it m → P 0 st) : Ct (d + 4) M_X4_unlikeWords [.ref 1, .int (nI s), .int (nI m)] st (Qi P) := eX4_unlikeWords _ _ _ (fun κ C Z => lX4_2 C Z K hs hl hmz hi (fun t => qi (h1 t)) (fun t => qi (h0 t)) m 0 (by omega) (fun k hk => by omega))
theorem lX7_95 (C : Cx κ M_X7_countBy (d + 2)) (Z : xR κ Q) (hs : s < 4) (hm60 : m ≤ 60) (hi : ∀ i, i < m → st.1 46 (60 * s + i) = it i) {x2 x3 : Int32} {i : Nat} (him : i < m) (hno : (¬ ((¬ it i < 0 ∧ ¬ 99 < it i) ∧ ∀ j, j < i → ¬ it j = it i)) → Q (some (.int (-3))) st) (hgo : ((¬ it i < 0 ∧ ¬ 99 < it i) ∧ ∀ j, j < i → ¬ it j = it i) → X κ 68 [(0, .ref 7), (1, .int (nI s)), (2, .int x2), (3, .int x3), (4, .int (nI m)), (5, .int (nI i + 1))] [] st) : ∀ (f j : Nat) (t : Int32), j + f = i → ((t = 0 ∧ ∀ k, k < j → ¬ it k = it i) ∨ (t = 1 ∧ ¬ ∀ k, k < i → ¬ it k = it i)) → X κ 95 [(0, .ref 7), (1, .int (nI s)), (2, .int x2), (3, .int x3), (4, .int (nI m)), (5, .int (nI i)), (6, .int (it i)), (7, .int t), (8, .int (nI j))] [] st
  | 0, j, t, e, ok => by
    refine bX7_countBy_95 C Z _ _ _ _ _ _ _ _ _ (brT (nI_le (by omega) (by omega)) ?_)
    by_cases hw : ¬ it i < 0 ∧ ¬ 99 < it i
    · refine eX7_isWord _ _ (sI1 hw ⟨Or.inr rfl, qi (f1 ?_)⟩)
      rcases ok with ⟨rfl, ok⟩ | ⟨rfl, ok⟩
      · exact f0 (hgo ⟨hw, fun k hk => ok k (by omega)⟩)
      · exact f1 (hno (fun u => ok u.2))
    · exact eX7_isWord _ _ (sI0 hw ⟨Or.inl rfl, qi (f0 (hno (fun u => hw u.1)))⟩)
  | f + 1, j, t, e, ok => by
    refine bX7_countBy_95 C Z _ _ _ _ _ _ _ _ _ (brF (nI_ge (by omega) (by omega)) ?_)
    rw [e60, nI_clamp (by omega), hi j (by omega)]
    refine ⟨pk_in (60 * s + j) 240 (by omega), fun g => ?_, fun g => ?_⟩
    · simp only [nI_1]
      refine lX7_95 C Z hs hm60 hi him hno hgo f (j + 1) _ (by omega) ?_
      rcases ok with ⟨rfl, ok⟩ | ⟨rfl, ok⟩
      · refine Or.inl ⟨by decide, fun k hk => ?_⟩
        by_cases ek : k = j
        · rw [ek]
          exact g
        · exact ok k (by omega)
      · exact Or.inr ⟨by decide, ok⟩
    · simp only [nI_1]
      refine lX7_95 C Z hs hm60 hi him hno hgo f (j + 1) _ (by omega) (Or.inr ⟨?_, fun u => u j (by omega) g⟩)
      rcases ok with ⟨rfl, -⟩ | ⟨rfl, -⟩ <;> decide
theorem lX7_68 (C : Cx κ M_X7_countBy (d + 2)) (Z : xR κ Q) (hs : s < 4) (hm60 : m ≤ 60) (hi : ∀ i, i < m → st.1 46 (60 * s + i) = it i) {x2 x3 : Int32} (hno : ¬ ul it m → Q (some (.int (-3))) st) (hgo : ul it m → ((¬ (st.1 7 0) = 6 → X κ 172 [(0, .ref 7), (1, .int (nI s)), (2, .int x2), (3, .int x3), (4, .int (nI m)), (5, .int 0)] [] st) ∧ ((st.1 7 0) = 6 → Q (some (.int ((-4)))) st))) : ∀ (f i : Nat), i + f = m → (∀ k, k < i → (¬ it k < 0 ∧ ¬ 99 < it k) ∧ ∀ j, j < k → ¬ it j = it k) → X κ 68 [(0, .ref 7), (1, .int (nI s)), (2, .int x2), (3, .int x3), (4, .int (nI m)), (5, .int (nI i))] [] st
  | 0, i, e, ok => bX7_countBy_68 C Z _ _ _ _ _ _ (brT (nI_le (by omega) (by omega)) (hgo (fun k hk => ok k (by omega))))
  | f + 1, i, e, ok => by
    refine bX7_countBy_68 C Z _ _ _ _ _ _ (brF (nI_ge (by omega) (by omega)) ?_)
    rw [e60, nI_clamp (by omega), hi i (by omega)]
    refine ⟨pk_in (60 * s + i) 240 (by omega), lX7_95 C Z hs hm60 hi (by omega) (fun t => hno (fun u => t (u i (by omega)))) (fun t => ?_) i 0 0 (by omega) (Or.inl ⟨rfl, fun k hk => by omega⟩)⟩
    simp only [nI_1]
    refine lX7_68 C Z hs hm60 hi hno hgo f (i + 1) (by omega) (fun k hk => ?_)
    by_cases ek : k = i
    · rw [ek]
      exact t
    · exact ok k (by omega)
theorem e21 {a b : Nat} : (21 : Int32) * nI a + nI b = nI (21 * a + b) := by
  have e : (21 : Int32) * nI a = nI (21 * a) := pk_mul 21 a
  rw [e, nI_add]
theorem lX7_172 (C : Cx κ M_X7_countBy (d + 2)) (Z : xR κ Q) (hs : s < 4) {n b m0 : Nat} (hn : n < 6) (hb : b ≤ 1) (hm21 : m ≤ 21) : ∀ (f i : Nat) (st : xSt), i + f = m → st.1 7 0 = nI n → (∀ i, i < m → st.1 46 (60 * s + i) = it i) → (∀ st' : xSt, (∀ p k, ¬ (p = 28 ∧ 21 * n + i ≤ k ∧ k < 21 * n + m) → ¬ ((p = 29 ∨ p = 30 ∨ p = 31) ∧ k = n) → ¬ (p = 7 ∧ k = 0) → st'.1 p k = st.1 p k) → (∀ k, i ≤ k → k < m → st'.1 28 (21 * n + k) = it k) → st'.1 29 n = nI m0 → st'.1 30 n = nI b → st'.1 31 n = nI 0 → st'.1 7 0 = nI (n + 1) → Q (some (.int (nI n))) st') → X κ 172 [(0, .ref 7), (1, .int (nI s)), (2, .int (nI m0)), (3, .int (nI b)), (4, .int (nI m)), (5, .int (nI i))] [] st
  | 0, i, st, e, h7, hi, hq => by
    have en : (nI n).toNatClampNeg = n := nI_clamp (by omega)
    have o1 : ∀ (s : xSt) (k : Nat) (v : Int32), (xup s 29 k v).1 7 0 = s.1 7 0 := fun s k v => xup_off (by omega)
    have o2 : ∀ (s : xSt) (k : Nat) (v : Int32), (xup s 30 k v).1 7 0 = s.1 7 0 := fun s k v => xup_off (by omega)
    have o3 : ∀ (s : xSt) (k : Nat) (v : Int32), (xup s 31 k v).1 7 0 = s.1 7 0 := fun s k v => xup_off (by omega)
    have ep : nI (n + 1) - 1 = nI n := nI_pred n
    have eb : vp_nar .boolean (nI b) = nI b := by
      have : b = 0 ∨ b = 1 := by omega
      rcases this with rfl | rfl <;> rfl
    refine bX7_countBy_172 C Z _ _ _ _ _ _ ?_
    simp only [h7, o1, o2, o3, en, xup_eq, nI_1, ep, eb]
    refine brT (nI_le (by omega) (by omega)) ⟨pk_in n 6 hn, pk_in n 6 hn, pk_in n 6 hn, hq _ (fun p k a b c => ?_) (fun k h1 h2 => by omega) ?_ ?_ ?_ (xup_eq _ _ _ _)⟩
    · rw [xup_off (by omega), xup_off (by omega), xup_off (by omega), xup_off (by omega)]
    · rw [xup_off (by omega), xup_off (by omega), xup_off (by omega), xup_eq]
    · rw [xup_off (by omega), xup_off (by omega), xup_eq]
    · rw [xup_off (by omega), xup_eq]
      rfl
  | f + 1, i, st, e, h7, hi, hq => by
    refine bX7_countBy_172 C Z _ _ _ _ _ _ (brF (nI_ge (by omega) (by omega)) ?_)
    rw [h7, e60, e21, nI_clamp (n := 60 * s + i) (by omega), nI_clamp (n := 21 * n + i) (by omega), hi i (by omega)]
    refine ⟨pk_in (60 * s + i) 240 (by omega), pk_in (21 * n + i) 126 (by omega), ?_⟩
    simp only [nI_1]
    refine lX7_172 C Z hs hn hb hm21 f (i + 1) _ (by omega) (by rw [xup_off (by omega)]; exact h7) (fun k hk => by rw [xup_off (by omega)]; exact hi k hk) (fun st' h1 h2 h3 h4 h5 h6 => hq st' (fun p k a b c => ?_) (fun k g1 g2 => ?_) h3 h4 h5 h6)
    · rw [h1 p k (by omega) b c, xup_off (by omega)]
    · by_cases ek : k = i
      · subst ek
        rw [h1 _ _ (by omega) (by omega) (by omega), xup_eq]
      · exact h2 k (by omega) g2
theorem lX0_learn (C : Cx κ M_X0_learn (d + 4)) (Z : xR κ Q) (hs : s < 4) (hl : lv s = true) {n b : Nat} (hn : n < 6) (hb : b ≤ 1) (hm1 : 1 ≤ m) (hm20 : m ≤ 20) (hmz : m + b ≤ sz s) (hu : ul it (m + b)) : ∀ (f i : Nat) (st : xSt), i + f = m → RS0 st lv sz → st.1 2 4 = nI n → (∀ i, i < m + b → st.1 46 (60 * s + i) = it i) → (∀ k, k < i → st.1 (52 + n) k = it k ∧ st.1 (52 + n) (2 * m + b - 1 - k) = it k) → (∀ st' : xSt, (∀ p k, ¬ (p = 52 + n) → ¬ ((p = 12 ∨ p = 13) ∧ k = n) → ¬ (p = 2 ∧ k = 4) → st'.1 p k = st.1 p k) → (∀ k, k < 2 * m + b → st'.1 (52 + n) k = it (if k < m then k else 2 * m + b - 1 - k)) → st'.1 12 n = nI m → st'.1 13 n = nI b → st'.1 2 4 = nI (n + 1) → Q (some (.int (nI n))) st') → X κ 47 [(0, .ref 2), (1, .ref 1), (2, .int (nI s)), (3, .int (nI m)), (4, .int (nI b)), (5, .int (nI n)), (6, .int (nI (2 * m + b - 1))), (7, .int (nI i))] [] st
  | 0, i, st, e, K, h2, hi, hr, hq => by
    have en : (nI n).toNatClampNeg = n := nI_clamp (by omega)
    have em : (nI m).toNatClampNeg = m := nI_clamp (by omega)
    have o1 : ∀ (s : xSt) (k : Nat) (v : Int32), (xup s 12 k v).1 2 4 = s.1 2 4 := fun s k v => xup_off (by omega)
    have o2 : ∀ (s : xSt) (k : Nat) (v : Int32), (xup s 13 k v).1 2 4 = s.1 2 4 := fun s k v => xup_off (by omega)
    have o3 : ∀ (s : xSt) (k : Nat) (v : Int32), (xup s (52 + n) k v).1 2 4 = s.1 2 4 := fun s k v => xup_off (by omega)
    refine bX0_learn_47 C Z _ _ _ _ _ _ _ ?_
    simp only [en, em, o1, o2, o3, h2, nI_1]
    refine brT (nI_le (by omega) (by omega)) ?_
    have hcase : b = 0 ∨ b = 1 := by omega
    rcases hcase with rfl | rfl
    · refine brT rfl ⟨pk_in n 6 hn, brT rfl ⟨pk_in n 6 hn, hq _ (fun p k a b c => ?_) (fun k hk => ?_) ?_ ?_ (xup_eq _ _ _ _)⟩⟩
      · rw [xup_off (by omega), xup_off (by omega), xup_off (by omega)]
      · rw [xup_off (by omega), xup_off (by omega), xup_off (by omega)]
        by_cases hkm : k < m
        · rw [if_pos hkm]
          exact (hr k (by omega)).1
        · rw [if_neg hkm]
          have := (hr (2 * m + 0 - 1 - k) (by omega)).2
          rw [show 2 * m + 0 - 1 - (2 * m + 0 - 1 - k) = k by omega] at this
          exact this
      · rw [xup_off (by omega), xup_off (by omega), xup_eq]
      · rw [xup_off (by omega), xup_eq]
        rfl
    · refine brF n10 ⟨pk_in n 6 hn, sX4_wordAt K hs hl (by omega) ⟨pk_in m 41 (by omega), pk_in n 6 hn, brF n10 ⟨pk_in n 6 hn, ?_⟩⟩⟩
      rw [hi m (by omega), wv_in (hu m (by omega)).1]
      refine hq _ (fun p k a b c => ?_) (fun k hk => ?_) ?_ ?_ (by rw [xup_eq, h2, nI_1])
      · rw [xup_off (by omega), xup_off (by omega), xup_off (by omega), xup_off (by omega)]
      · rw [xup_off (by omega), xup_off (by omega), xup_off (by omega)]
        by_cases ekm : k = m
        · subst ekm
          rw [xup_eq, if_neg (by omega), show 2 * k + 1 - 1 - k = k by omega]
        · rw [xup_off (by omega)]
          by_cases hkm : k < m
          · rw [if_pos hkm]
            exact (hr k (by omega)).1
          · rw [if_neg hkm]
            have := (hr (2 * m + 1 - 1 - k) (by omega)).2
            rw [show 2 * m + 1 - 1 - (2 * m + 1 - 1 - k) = k by omega] at this
            exact this
      · rw [xup_off (by omega), xup_off (by omega), xup_eq]
      · rw [xup_off (by omega), xup_eq]
        rfl
  | f + 1, i, st, e, K, h2, hi, hr, hq => by
    have en : (nI n).toNatClampNeg = n := nI_clamp (by omega)
    have ei : (nI i).toNatClampNeg = i := nI_clamp (by omega)
    have es : nI (2 * m + b - 1) - nI i = nI (2 * m + b - 1 - i) := pk_sub (by omega)
    have es2 : (nI (2 * m + b - 1 - i)).toNatClampNeg = 2 * m + b - 1 - i := nI_clamp (by omega)
    refine bX0_learn_47 C Z _ _ _ _ _ _ _ (brF (nI_ge (by omega) (by omega)) (sX4_wordAt K hs hl (by omega) ?_))
    rw [hi i (by omega), wv_in (hu i (by omega)).1, en, ei, es, es2]
    refine ⟨pk_in n 6 hn, pk_in i 41 (by omega), pk_in n 6 hn, pk_in (2 * m + b - 1 - i) 41 (by omega), ?_⟩
    simp only [nI_1]
    refine lX0_learn C Z hs hl hn hb hm1 hm20 hmz hu f (i + 1) _ (by omega) (K.congr (fun p k g => by rw [xup_off (by omega), xup_off (by omega)])) (by rw [xup_off (by omega), xup_off (by omega)]; exact h2) (fun k hk => by rw [xup_off (by omega), xup_off (by omega)]; exact hi k hk) (fun k hk => ?_) (fun st' h1 h3 h4 h5 h6 => hq st' (fun p k a b c => ?_) h3 h4 h5 h6)
    · by_cases ek : k = i
      · subst ek
        refine ⟨?_, xup_eq _ _ _ _⟩
        by_cases eq : k = 2 * m + b - 1 - k
        · omega
        · rw [xup_off (by omega), xup_eq]
      · rw [xup_off (by omega), xup_off (by omega), xup_off (by omega), xup_off (by omega)]
        exact hr k (by omega)
    · rw [h1 p k a b c, xup_off (by omega), xup_off (by omega)]
end S29

theorem sX0_isFull0 {st : xSt} {n d : Nat} {P : Int32 → xSt → Prop} (h : st.1 2 4 = nI n) (hn : n < 6) (hp : P 0 st) : Ct d M_X0_isFull [.ref 2] st (Qi P) := by
  refine eX0_isFull _ (brT ?_ (qi hp))
  rw [h]
  exact nI_lt (b := 6) hn (by omega)
theorem g_countBy (c x : Int32) (b : Nat) (hb : b ≤ 1) : Good M_X6_countBy M_X7_countBy [.int c, .int x, .int (nI b)] := by
  intro st hR P hp
  have fin : ∀ v, P v v st := fun v => hp v st hR
  obtain ⟨n, ⟨hm, nz, bg, wd, KC⟩, ⟨lv, sz, K⟩, -⟩ := id hR
  have h6 := KC.1
  have m43 : ∀ {z : Nat} (k : Int32), (xup st 1 3 k).1 43 z = st.1 43 z := fun k => xup_off (by omega)
  have m45 : ∀ {z : Nat} (k : Int32), (xup st 1 3 k).1 45 z = st.1 45 z := fun k => xup_off (by omega)
  have done : ∀ k : Int32, Ct 59 M_X7_meets [.ref 7, .int k] (xup st 1 3 k) (Qi fun v s2 => Qi (fun w s2 => P (-10 - k) w s2) (some (.int v)) s2) := fun k => eX7_meets _ _ (qi (qi (hp _ _ (two_find hR _))))
  rcases isC 4 c with ⟨s, hs, rfl⟩ | h
  · have cs : (nI s).toNatClampNeg = s := nI_clamp (by omega)
    by_cases hx : ¬ x < nI 1 ∧ ¬ nI 20 < x
    · obtain ⟨m, hm1, hm20, rfl⟩ := rng (by omega) hx (by omega)
      -- the class from its size test on
      have cl : ∀ (F : Int32 → xSt → Prop), lv s = true → ((nI (m + b) ≤ nI (sz s) → Ct 59 M_X4_unlikeWords [.ref 1, .int (nI s), .int (nI (m + b))] st (Qi fun v10 s9 => ((¬ v10 = 0 → Ct 59 M_X0_isFull [.ref 2] s9 (Qi fun v12 s11 => ((v12 = 0 → Ct 59 M_X0_learn [.ref 2, .ref 1, .int (nI s), .int (nI m), .int (nI b)] s11 (Qi fun v14 s13 => Qi F (some (.int v14)) s13)) ∧ (¬ v12 = 0 → Qi F (some (.int ((-4)))) s11)))) ∧ (v10 = 0 → Qi F (some (.int ((-3)))) s9)))) ∧ (¬ nI (m + b) ≤ nI (sz s) → Ct 59 M_X4_find [.ref 1, .int 2] st (Qi fun v16 s15 => Qi F (some (.int v16)) s15))) → Ct 60 M_X6_countBy [.ref 0, .int (nI s), .int (nI m), .int (nI b)] st (Qi F) := by
        intro F hl hh
        have hcase : b = 0 ∨ b = 1 := by omega
        rcases hcase with rfl | rfl
        · exact eX6_countBy _ _ _ _ (sX4_named_in hs (f1 (sW1 hx (g1 (sX4_lost_live K.2 hs hl (f0 (brT rfl (sX4_sizeOf K.2 hs hl hh))))))))
        · refine eX6_countBy _ _ _ _ (sX4_named_in hs (f1 (sW1 hx (g1 (sX4_lost_live K.2 hs hl (f0 (brF n10 (sX4_sizeOf K.2 hs hl ?_))))))))
          rw [nI_1]
          exact hh
      have ml : ∀ (s1 : xSt) (F : Int32 → xSt → Prop), s1.1 43 s = 1 → s1.1 45 s = nI (sz s) → (∀ κ, Cx κ M_X7_countBy 60 → xR κ (Qi F) → ((nI (m + b) ≤ nI (sz s) → X κ 68 [(0, .ref 7), (1, .int (nI s)), (2, .int (nI m)), (3, .int (nI b)), (4, .int (nI (m + b))), (5, .int 0)] [] s1) ∧ (¬ nI (m + b) ≤ nI (sz s) → Ct 59 M_X7_meets [.ref 7, .int 2] s1 (Qi fun v11 s10 => Qi F (some (.int v11)) s10)))) → Ct 60 M_X7_countBy [.ref 7, .int (nI s), .int (nI m), .int (nI b)] s1 (Qi F) := by
        intro s1 F h43 h45 hh
        have hcase : b = 0 ∨ b = 1 := by omega
        rcases hcase with rfl | rfl
        · refine eX7_countBy _ _ _ _ (fun κ C Z => sX7_isSheet_in hs (f1 (sI1 hx (g1 ⟨pk_in s 4 hs, ?_⟩))))
          rw [cs, h43, h45]
          refine bnT n10 (brT rfl ⟨pk_in s 4 hs, ?_⟩)
          have e0 : nI m + 0 = nI (m + 0) := nI_add m 0
          rw [e0]
          exact hh κ C Z
        · refine eX7_countBy _ _ _ _ (fun κ C Z => sX7_isSheet_in hs (f1 (sI1 hx (g1 ⟨pk_in s 4 hs, ?_⟩))))
          rw [cs, h43, h45]
          refine bnT n10 (brF n10 ⟨pk_in s 4 hs, ?_⟩)
          rw [nI_1]
          exact hh κ C Z
      cases hl : lv s with
      | false =>
        refine eX6_countBy _ _ _ _ (sX4_named_in hs (f1 (sW1 hx (g1 (sX4_lost_dead K.2 hs hl (f1 (eX4_find _ _ (qi (qi ?_)))))))))
        refine eX7_countBy _ _ _ _ (fun κ C Z => sX7_isSheet_in hs (f1 (sI1 hx (g1 ⟨pk_in s 4 hs, bnF ?_ (done _)⟩))))
        rw [cs, m43]
        exact ((K.2 s hs).2 hl).2
      | true =>
        have k := (K.2 s hs).1 hl
        have k60 := k.1.1
        by_cases hle : nI (m + b) ≤ nI (sz s)
        · have hmz : m + b ≤ sz s := (nI_leI (by omega) (by omega)).mp hle
          by_cases hu : ul (fun i => st.1 46 (60 * s + i)) (m + b)
          · by_cases hn : n < 6
            · refine cl _ hl (brT hle (sX4_unlikeWords (it := fun i => st.1 46 (60 * s + i)) K.2 hs hl hmz (fun _ _ => rfl) (fun _ => g1 (sX0_isFull0 KC.2.1 hn (f0 (eX0_learn _ _ _ _ (fun κ C Z => sX0_isFull0 KC.2.1 hn (g0 (sW1 hx (g1 ?_)))))))) (fun t => (t hu).elim)))
              have cont : X κ 47 [(0, .ref 2), (1, .ref 1), (2, .int (nI s)), (3, .int (nI m)), (4, .int (nI b)), (5, .int (nI n)), (6, .int (nI (2 * m + b - 1))), (7, .int (nI 0))] [] st := by
                refine lX0_learn (d := 55) (it := fun i => st.1 46 (60 * s + i)) C Z hs hl hn hb hm1 hm20 hmz hu m 0 st (by omega) K.2 KC.2.1 (fun _ _ => rfl) (fun k hk => by omega) (fun s1 fr1 v1 a1 a2 a3 => qi (qi ?_))
                refine ml s1 _ (by rw [fr1 43 s (by omega) (by omega) (by omega)]; exact k.1.2.2.1) (by rw [fr1 45 s (by omega) (by omega) (by omega)]; exact k.1.2.2.2) (fun κ C Z => brT hle ?_)
                refine lX7_68 (d := 58) (it := fun i => st.1 46 (60 * s + i)) C Z hs (by omega) (fun i hi => fr1 _ _ (by omega) (by omega) (by omega)) (fun t => (t hu).elim) (fun _ => ?_) (m + b) 0 (by omega) (fun k hk => by omega)
                have e70 : s1.1 7 0 = nI n := by rw [fr1 7 0 (by omega) (by omega) (by omega)]; exact KC.2.2.1
                rw [e70]
                refine bnT (fun z => by have := (nI_eq (a := n) (b := 6) (by omega) (by omega)).mp z; omega) ?_
                refine lX7_172 (d := 58) (it := fun i => st.1 46 (60 * s + i)) C Z hs hn hb (by omega) (m + b) 0 s1 (by omega) e70 (fun i hi => fr1 _ _ (by omega) (by omega) (by omega)) (fun s2 fr2 v2 b1 b2 b3 b4 => qi (hp _ _ (hR.updC (fun p z h => ?_) (fun n' hC => ?_))))
                · unfold inS inR inD inL inT at h
                  rw [fr2 p z (by omega) (by omega) (by omega), fr1 p z (by omega) (by omega) (by omega)]
                · have en : n' = n := by
                    obtain ⟨_, _, _, _, KC'⟩ := hC
                    exact (nI_eq (by have := KC'.1; omega) (by omega)).mp (KC'.2.1.symm.trans KC.2.1)
                  subst en
                  have fr : ∀ p z, ¬ p = 52 + n' → ¬ (p = 28 ∧ 21 * n' ≤ z ∧ z < 21 * n' + 21) → ¬ ((p = 12 ∨ p = 13 ∨ p = 29 ∨ p = 30 ∨ p = 31) ∧ z = n') → p ≠ 2 → p ≠ 7 → s2.1 p z = st.1 p z := fun p z a b c e1 e2 => by rw [fr2 p z (by omega) (by omega) (by omega), fr1 p z (by omega) (by omega) (by omega)]
                  refine ⟨n' + 1, by omega, fun y => if y = n' then m else hm y, fun y => if y = n' then b else nz y, fun y => if y = n' then 0 else bg y, fun y z => if y = n' then st.1 46 (60 * s + (if z < m then z else 2 * m + b - 1 - z)) else wd y z, by omega, ?_, b4, fun y hy => ?_, fun y h1 h2 => ?_⟩
                  · rw [fr2 2 4 (by omega) (by omega) (by omega)]
                    exact a3
                  · by_cases ey : y = n'
                    · subst ey
                      unfold tt
                      simp only [if_true]
                      refine ⟨by omega, ⟨?_, ?_, ?_⟩, ⟨b1, b2, b3⟩, fun z hz => ⟨?_, ?_⟩⟩
                      · rw [fr2 12 y (by omega) (by omega) (by omega)]
                        exact a1
                      · rw [fr2 13 y (by omega) (by omega) (by omega)]
                        exact a2
                      · rw [fr 14 y (by omega) (by omega) (by omega) (by omega) (by omega)]
                        exact KC.2.2.2.2 y (by omega) (by omega)
                      · rw [fr2 _ _ (by omega) (by omega) (by omega)]
                        exact v1 z hz
                      · by_cases hzm : z < m
                        · rw [if_pos hzm]
                          exact v2 z (by omega) (by omega)
                        · rw [if_neg hzm]
                          exact v2 _ (by omega) (by omega)
                    · have ky := KC.2.2.2.1 y (by omega)
                      have et : tt (fun y => if y = n' then m else hm y) (fun y => if y = n' then b else nz y) y = tt hm nz y := by
                        unfold tt
                        simp only [if_neg ey]
                      have tb := KC.tb (j := y) (by omega)
                      rw [et]
                      simp only [if_neg ey]
                      refine ⟨ky.1, ?_, ?_, fun z hz => ?_⟩
                      · rw [fr 12 y (by omega) (by omega) (by omega) (by omega) (by omega), fr 13 y (by omega) (by omega) (by omega) (by omega) (by omega), fr 14 y (by omega) (by omega) (by omega) (by omega) (by omega)]
                        exact ky.2.1
                      · rw [fr 29 y (by omega) (by omega) (by omega) (by omega) (by omega), fr 30 y (by omega) (by omega) (by omega) (by omega) (by omega), fr 31 y (by omega) (by omega) (by omega) (by omega) (by omega)]
                        exact ky.2.2.1
                      · have hix : (if z < hm y then z else tt hm nz y - 1 - z) ≤ 20 := by
                          unfold tt at hz ⊢
                          split <;> omega
                        rw [fr (52 + y) z (by omega) (by omega) (by omega) (by omega) (by omega), fr 28 _ (by omega) (by omega) (by omega) (by omega) (by omega)]
                        exact ky.2.2.2 z hz
                  · rw [fr 14 y (by omega) (by omega) (by omega) (by omega) (by omega)]
                    exact KC.2.2.2.2 y (by omega) h2
              rw [KC.2.1]
              have hcase : b = 0 ∨ b = 1 := by omega
              rcases hcase with rfl | rfl
              · refine brT rfl ?_
                have e2 : (2 : Int32) * nI m - 1 = nI (2 * m + 0 - 1) := by
                  have e : (2 : Int32) * nI m = nI (2 * m) := pk_mul 2 m
                  have e' : nI (2 * m) - nI 1 = nI (2 * m - 1) := pk_sub (by omega)
                  rw [e]
                  exact e'
                rw [e2]
                exact cont
              · refine brF n10 ?_
                have e2 : (2 : Int32) * nI m = nI (2 * m + 1 - 1) := pk_mul 2 m
                rw [e2]
                exact cont
            · have en6 : n = 6 := by omega
              subst en6
              refine cl _ hl (brT hle (sX4_unlikeWords (it := fun i => st.1 46 (60 * s + i)) K.2 hs hl hmz (fun _ _ => rfl) (fun _ => g1 (eX0_isFull _ (brF ?_ (qi (f1 (qi ?_)))))) (fun t => (t hu).elim)))
              · rw [KC.2.1]
                decide
              · refine ml st _ k.1.2.2.1 k.1.2.2.2 (fun κ C Z => brT hle (lX7_68 (d := 58) (it := fun i => st.1 46 (60 * s + i)) C Z hs (by omega) (fun _ _ => rfl) (fun t => (t hu).elim) (fun _ => ?_) (m + b) 0 (by omega) (fun k hk => by omega)))
                exact bnF KC.2.2.1 (qi (fin _))
          · refine cl _ hl (brT hle (sX4_unlikeWords (it := fun i => st.1 46 (60 * s + i)) K.2 hs hl hmz (fun _ _ => rfl) (fun t => (hu t).elim) (fun _ => g0 (qi ?_))))
            exact ml st _ k.1.2.2.1 k.1.2.2.2 (fun κ C Z => brT hle (lX7_68 (d := 58) (it := fun i => st.1 46 (60 * s + i)) C Z hs (by omega) (fun _ _ => rfl) (fun _ => qi (fin _)) (fun t => (hu t).elim) (m + b) 0 (by omega) (fun k hk => by omega)))
        · refine cl _ hl (brF hle (eX4_find _ _ (qi (qi ?_))))
          exact ml _ _ (by rw [m43]; exact k.1.2.2.1) (by rw [m45]; exact k.1.2.2.2) (fun κ C Z => brF hle (done _))
    · exact eX6_countBy _ _ _ _ (sX4_named_in hs (f1 (sW0 hx (g0 (qi (eX7_countBy _ _ _ _ (fun κ C Z => sX7_isSheet_in hs (f1 (sI0 hx (g0 (qi (fin _))))))))))))
  · exact eX6_countBy _ _ _ _ (sX4_named_no h (f0 (qi (eX7_countBy _ _ _ _ (fun κ C Z => sX7_isSheet_no h (f0 (qi (fin _))))))))
