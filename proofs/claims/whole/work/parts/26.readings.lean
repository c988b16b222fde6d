/-- the walk w: count w / 1980, start (w / 20) % 99 + 1, step w % 20 + 1 -/
def fw (hm nz : Nat → Nat) (wd : Nat → Nat → Int32) (it : Nat → Int32) (m w : Nat) : Prop := tl hm nz wd it m (w / 1980) (w / 20 % 99 + 1) (w % 20 + 1)
def rs (w : Nat) : Int32 := 100000 * nI (w / 1980) + 1000 * nI (w % 20 + 1) + nI (w / 20 % 99 + 1)
def ors (o : Option Nat) : Int32 := match o with
  | none => -1
  | some w => rs w
section S26
variable {st : xSt} {lv : Nat → Bool} {sz : Nat → Nat} {n : Nat} {hm nz bg : Nat → Nat} {wd : Nat → Nat → Int32} {d s m w : Nat} {κ : xK} {Q : Option Value → xSt → Prop} {P : Int32 → xSt → Prop} {it : Nat → Int32}
theorem w_1980 (hw : w < 2 ^ 30) : nI w / 1980 = nI (w / 1980) := pk_div (d := 1980) (by omega) (by omega) (by omega)
theorem w_20 (hw : w < 2 ^ 30) : nI w / 20 = nI (w / 20) := pk_div (d := 20) (by omega) (by omega) (by omega)
theorem sX6_startOfWalk (hw : w < 2 ^ 30) (hp : P (nI (w / 20 % 99 + 1)) st) : Ct d M_X6_startOfWalk [.int (nI w)] st (Qi P) := by
  refine eX6_startOfWalk _ _ (qi ?_)
  have e : nI (w / 20) - nI (w / 20) / 99 * 99 = nI (w / 20 % 99) := pk_rem (d := 99) (by omega) (by omega) (by omega)
  rw [w_20 hw, e, nI_1]
  exact hp
theorem sX6_stepOfWalk (hw : w < 2 ^ 30) (hp : P (nI (w % 20 + 1)) st) : Ct d M_X6_stepOfWalk [.int (nI w)] st (Qi P) := by
  refine eX6_stepOfWalk _ _ (qi ?_)
  have e : nI w - nI w / 20 * 20 = nI (w % 20) := pk_rem (d := 20) (by omega) (by omega) (by omega)
  rw [e, nI_1]
  exact hp
theorem sX6_countOfWalk (hw : w < 2 ^ 30) (hp : P (nI (w / 1980)) st) : Ct d M_X6_countOfWalk [.int (nI w)] st (Qi P) := by
  refine eX6_countOfWalk _ _ (qi ?_)
  rw [w_1980 hw]
  exact hp
theorem sX6_isReading (K : RelC st n hm nz bg wd) (KS : RS0 st lv sz) (hs : s < 4) (hl : lv s = true) (hmz : m ≤ sz s) (hm1 : 1 ≤ m) (hm30 : m ≤ 30) (hw : w < n * 1980) (hi : ∀ i, i < m → st.1 46 (60 * s + i) = it i) (h1 : fw hm nz wd it m w → P 1 st) (h0 : ¬ fw hm nz wd it m w → P 0 st) : Ct (d + 5) M_X6_isReading [.ref 0, .int (nI s), .int (nI m), .int (nI w)] st (Qi P) := by
  have h6 := K.1
  exact eX6_isReading _ _ _ _ (sX6_countOfWalk (by omega) (sX6_startOfWalk (by omega) (sX6_stepOfWalk (by omega) (sX6_tells K KS hs hl hmz hm1 hm30 (by omega) (by omega) (by omega) (by omega) hi (fun t => ⟨Or.inr rfl, qi (h1 t)⟩) (fun t => ⟨Or.inl rfl, qi (h0 t)⟩)))))
theorem lX6_readings (C : Cx κ M_X6_readings (d + 6)) (Z : xR κ Q) (K : RelC st n hm nz bg wd) (KS : RS0 st lv sz) (hs : s < 4) (hl : lv s = true) (hmz : m ≤ sz s) (hm1 : 1 ≤ m) (hm30 : m ≤ 30) (hi : ∀ i, i < m → st.1 46 (60 * s + i) = it i) (hq : Q (some (.int (nI (cn (fw hm nz wd it m) (n * 1980))))) st) : ∀ (f w : Nat), w + f = n * 1980 → X κ 37 [(0, .ref 0), (1, .int (nI s)), (2, .int (nI m)), (4, .int (nI (cn (fw hm nz wd it m) w))), (5, .int (nI (n * 1980))), (6, .int (nI w))] [] st
  | 0, w, e => by
    have h6 := K.1
    rw [show w = n * 1980 by omega]
    exact bX6_readings_37 C Z _ _ _ _ _ _ (brT (nI_le (by omega) (by omega)) hq)
  | f + 1, w, e => by
    have h6 := K.1
    refine bX6_readings_37 C Z _ _ _ _ _ _ (brF (nI_ge (by omega) (by omega)) (sX6_isReading K KS hs hl hmz hm1 hm30 (by omega) hi (fun g => f1 ?_) (fun g => f0 ?_)))
    · simp only [nI_1]
      rw [← cn_yes g]
      exact lX6_readings C Z K KS hs hl hmz hm1 hm30 hi hq f (w + 1) (by omega)
    · simp only [nI_1]
      rw [← cn_no g]
      exact lX6_readings C Z K KS hs hl hmz hm1 hm30 hi hq f (w + 1) (by omega)
theorem lX6_reading (C : Cx κ M_X6_reading (d + 6)) (Z : xR κ Q) (K : RelC st n hm nz bg wd) (KS : RS0 st lv sz) (hs : s < 4) (hl : lv s = true) (hmz : m ≤ sz s) (hm1 : 1 ≤ m) (hm30 : m ≤ 30) (hi : ∀ i, i < m → st.1 46 (60 * s + i) = it i) {i0 : Nat} (hi0 : i0 < 2 ^ 31) : ∀ (f w fd : Nat), w + f = n * 1980 → fd ≤ i0 → fd ≤ w → Q (some (.int (ors (sc (fw hm nz wd it m) f w (i0 - fd))))) st → X κ 44 [(0, .ref 0), (1, .int (nI s)), (2, .int (nI m)), (3, .int (nI i0)), (5, .int (nI fd)), (6, .int (nI (n * 1980))), (7, .int (nI w))] [] st
  | 0, w, fd, e, e2, e3, hq => by
    have h6 := K.1
    exact bX6_reading_44 C Z _ _ _ _ _ _ _ (brT (nI_le (by omega) (by omega)) hq)
  | f + 1, w, fd, e, e2, e3, hq => by
    have h6 := K.1
    refine bX6_reading_44 C Z _ _ _ _ _ _ _ (brF (nI_ge (by omega) (by omega)) (sX6_isReading K KS hs hl hmz hm1 hm30 (by omega) hi (fun g => f1 ?_) (fun g => f0 ?_)))
    · by_cases ef : fd = i0
      · rw [ef, Nat.sub_self, sc_hit g] at hq
        exact bnF (by rw [ef]) (sX6_countOfWalk (by omega) (sX6_stepOfWalk (by omega) (sX6_startOfWalk (by omega) hq)))
      · refine bnT (fun z => ef ((nI_eq (by omega) (by omega)).mp z)) ?_
        simp only [nI_1]
        obtain ⟨r, hr⟩ : ∃ r, i0 - fd = r + 1 := ⟨i0 - fd - 1, by omega⟩
        rw [hr, sc_next g, show r = i0 - (fd + 1) by omega] at hq
        exact lX6_reading C Z K KS hs hl hmz hm1 hm30 hi hi0 f (w + 1) (fd + 1) (by omega) (by omega) (by omega) hq
    · simp only [nI_1]
      rw [sc_no g] at hq
      exact lX6_reading C Z K KS hs hl hmz hm1 hm30 hi hi0 f (w + 1) fd (by omega) e2 (by omega) hq
/-- from the step behind walk w to the next walk, or the end -/
theorem nX7 (C : Cx κ M_X7_readingOf (d + 1)) (Z : xR κ Q) {x3 : Int32} (h7 : st.1 7 0 = nI n) (h6 : n ≤ 6) (hw : w < n * 1980) (hn : w + 1 < n * 1980 → X κ 30 [(0, .ref 7), (1, .int (nI s)), (2, .int (nI m)), (3, .int x3), (4, .int (nI ((w + 1) / 1980))), (5, .int (nI ((w + 1) / 20 % 99 + 1))), (6, .int (nI ((w + 1) % 20 + 1)))] [] st) (he : w + 1 = n * 1980 → Q (some (.int (-1))) st) : X κ 30 [(0, .ref 7), (1, .int (nI s)), (2, .int (nI m)), (3, .int x3), (4, .int (nI (w / 1980))), (5, .int (nI (w / 20 % 99 + 1))), (6, .int (nI (w % 20 + 1 + 1)))] [] st := by
  by_cases h20 : w % 20 = 19
  · rw [h20]
    refine bX7_readingOf_30 C Z _ _ _ _ _ _ _ (brT (by decide) ?_)
    simp only [nI_1]
    by_cases h99 : w / 20 % 99 = 98
    · rw [h99]
      refine bX7_readingOf_20 C Z _ _ _ _ _ _ (brT (by decide) ?_)
      simp only [nI_1]
      refine bX7_readingOf_8 C Z _ _ _ _ _ ?_
      rw [h7]
      by_cases hl : w + 1 < n * 1980
      · refine brF (nI_ge (by omega) (by omega)) (bX7_readingOf_20 C Z _ _ _ _ _ _ (brF (by decide) ?_))
        have := hn hl
        rw [show (w + 1) / 1980 = w / 1980 + 1 by omega, show (w + 1) / 20 % 99 = 0 by omega, show (w + 1) % 20 = 0 by omega] at this
        exact this
      · exact brT (nI_le (by omega) (by omega)) (he (by omega))
    · refine bX7_readingOf_20 C Z _ _ _ _ _ _ (brF (nI_ge (b := 100) (by omega) (by omega)) ?_)
      have := hn (by omega)
      rw [show (w + 1) / 1980 = w / 1980 by omega, show (w + 1) / 20 % 99 = w / 20 % 99 + 1 by omega, show (w + 1) % 20 = 0 by omega] at this
      exact this
  · have := hn (by omega)
    rw [show (w + 1) / 1980 = w / 1980 by omega, show (w + 1) / 20 % 99 = w / 20 % 99 by omega, show (w + 1) % 20 = w % 20 + 1 by omega] at this
    exact this
theorem sm_720 (st : xSt) (v : Int32) : Sm st (xup st 7 20 v) := fun p k h => xup_off (by unfold inC inS inR inD inL inT at h; omega)
theorem RelC.sm {st' : xSt} (K : RelC st n hm nz bg wd) (h : Sm st st') : RelC st' n hm nz bg wd := K.congr (fun p k g => h p k (Or.inl g))
theorem lX7_readings (C : Cx κ M_X7_readingOf (d + 4)) (Z : xR κ Q) (hs : s < 4) (hm1 : 1 ≤ m) (hm30 : m ≤ 30) : ∀ (f w : Nat) (st : xSt), w + (f + 1) = n * 1980 → RelC st n hm nz bg wd → (∀ i, i < m → st.1 46 (60 * s + i) = it i) → st.1 7 20 = nI (cn (fw hm nz wd it m) w) → (∀ st', Sm st st' → st'.1 7 20 = nI (cn (fw hm nz wd it m) (n * 1980)) → Q (some (.int (-1))) st') → X κ 30 [(0, .ref 7), (1, .int (nI s)), (2, .int (nI m)), (3, .int (-1)), (4, .int (nI (w / 1980))), (5, .int (nI (w / 20 % 99 + 1))), (6, .int (nI (w % 20 + 1)))] [] st
  | f, w, st, e, K, hi, hf, hq => by
    have h6 := K.1
    have hc := cn_le (fw hm nz wd it m) w
    refine bX7_readingOf_30 C Z _ _ _ _ _ _ _ (brF (nI_ge (b := 21) (by omega) (by omega)) (sX7_doesFit K hs hm1 hm30 (by omega) (by omega) (by omega) (by omega) hi (fun g => f1 ?_) (fun g => f0 ?_)))
    · rw [hf]
      refine bnT (nI_m1 (by omega)) ?_
      simp only [nI_1]
      rw [← cn_yes (p := fw hm nz wd it m) g]
      have K1 := K.sm (sm_720 st (nI (cn (fw hm nz wd it m) (w + 1))))
      have hi1 : ∀ i, i < m → (xup st 7 20 (nI (cn (fw hm nz wd it m) (w + 1)))).1 46 (60 * s + i) = it i := fun i h => by rw [xup_off (by omega)]; exact hi i h
      refine nX7 (d := d + 3) C Z K1.2.2.1 h6 (by omega) (fun hl => ?_) (fun he => ?_)
      · match f, e with
        | 0, e => omega
        | f' + 1, e => exact lX7_readings C Z hs hm1 hm30 f' (w + 1) _ (by omega) K1 hi1 (xup_eq _ _ _ _) (fun st' h1 h2 => hq st' ((sm_720 st _).trans h1) h2)
      · exact hq _ (sm_720 st _) (by rw [xup_eq, he])
    · simp only [nI_1]
      refine nX7 (d := d + 3) C Z K.2.2.1 h6 (by omega) (fun hl => ?_) (fun he => ?_)
      · match f, e with
        | 0, e => omega
        | f' + 1, e => exact lX7_readings C Z hs hm1 hm30 f' (w + 1) st (by omega) K hi (by rw [cn_no (p := fw hm nz wd it m) g]; exact hf) hq
      · exact hq _ Sm.rfl (by rw [← he, cn_no (p := fw hm nz wd it m) g]; exact hf)
theorem lX7_reading (C : Cx κ M_X7_readingOf (d + 4)) (Z : xR κ Q) (hs : s < 4) (hm1 : 1 ≤ m) (hm30 : m ≤ 30) {i0 : Nat} (hi0 : i0 < 2 ^ 31) : ∀ (f w fd : Nat) (st : xSt), w + (f + 1) = n * 1980 → fd ≤ i0 → fd ≤ w → RelC st n hm nz bg wd → (∀ i, i < m → st.1 46 (60 * s + i) = it i) → st.1 7 20 = nI fd → (∀ st', Sm st st' → Q (some (.int (ors (sc (fw hm nz wd it m) (f + 1) w (i0 - fd))))) st') → X κ 30 [(0, .ref 7), (1, .int (nI s)), (2, .int (nI m)), (3, .int (nI i0)), (4, .int (nI (w / 1980))), (5, .int (nI (w / 20 % 99 + 1))), (6, .int (nI (w % 20 + 1)))] [] st
  | f, w, fd, st, e, e2, e3, K, hi, hf, hq => by
    have h6 := K.1
    refine bX7_readingOf_30 C Z _ _ _ _ _ _ _ (brF (nI_ge (b := 21) (by omega) (by omega)) (sX7_doesFit K hs hm1 hm30 (by omega) (by omega) (by omega) (by omega) hi (fun g => f1 ?_) (fun g => f0 ?_)))
    · rw [hf]
      by_cases ef : fd = i0
      · rw [ef, Nat.sub_self] at hq
        have hq2 := hq st Sm.rfl
        rw [sc_hit (p := fw hm nz wd it m) g] at hq2
        exact bnF (by rw [ef]) hq2
      · refine bnT (fun z => ef ((nI_eq (by omega) (by omega)).mp z)) ?_
        obtain ⟨r, hr⟩ : ∃ r, i0 - fd = r + 1 := ⟨i0 - fd - 1, by omega⟩
        have hq2 : ∀ st', Sm st st' → Q (some (.int (ors (sc (fw hm nz wd it m) f (w + 1) (i0 - (fd + 1)))))) st' := fun st' h => by
          have := hq st' h
          rw [hr, sc_next (p := fw hm nz wd it m) g, show r = i0 - (fd + 1) by omega] at this
          exact this
        simp only [nI_1]
        have K1 := K.sm (sm_720 st (nI (fd + 1)))
        have hi1 : ∀ i, i < m → (xup st 7 20 (nI (fd + 1))).1 46 (60 * s + i) = it i := fun i h => by rw [xup_off (by omega)]; exact hi i h
        refine nX7 (d := d + 3) C Z K1.2.2.1 h6 (by omega) (fun hl => ?_) (fun he => ?_)
        · match f, e, hq2 with
          | 0, e, _ => omega
          | f' + 1, e, hq2 => exact lX7_reading C Z hs hm1 hm30 hi0 f' (w + 1) (fd + 1) _ (by omega) (by omega) (by omega) K1 hi1 (xup_eq _ _ _ _) (fun st' h1 => hq2 st' ((sm_720 st _).trans h1))
        · have := hq2 _ (sm_720 st (nI (fd + 1)))
          rw [show f = 0 by omega, sc_0] at this
          exact this
    · have hq2 : ∀ st', Sm st st' → Q (some (.int (ors (sc (fw hm nz wd it m) f (w + 1) (i0 - fd))))) st' := fun st' h => by
        have := hq st' h
        rw [sc_no (p := fw hm nz wd it m) g] at this
        exact this
      simp only [nI_1]
      refine nX7 (d := d + 3) C Z K.2.2.1 h6 (by omega) (fun hl => ?_) (fun he => ?_)
      · match f, e, hq2 with
        | 0, e, _ => omega
        | f' + 1, e, hq2 => exact lX7_reading C Z hs hm1 hm30 hi0 f' (w + 1) fd st (by omega) e2 (by omega) K hi hf hq2
      · have := hq2 _ Sm.rfl
        rw [show f = 0 by omega, sc_0] at this
        exact this
/-- the reference's walk over all walks, from its beginning -/
theorem bX7 (C : Cx κ M_X7_readingOf (d + 1)) (Z : xR κ Q) {x3 : Int32} (h7 : st.1 7 0 = nI n) (h6 : n ≤ 6) (h0 : n = 0 → Q (some (.int (-1))) st) (hn : 0 < n → X κ 30 [(0, .ref 7), (1, .int (nI s)), (2, .int (nI m)), (3, .int x3), (4, .int (nI (0 / 1980))), (5, .int (nI (0 / 20 % 99 + 1))), (6, .int (nI (0 % 20 + 1)))] [] st) : X κ 8 [(0, .ref 7), (1, .int (nI s)), (2, .int (nI m)), (3, .int x3), (4, .int 0)] [] st := by
  refine bX7_readingOf_8 C Z _ _ _ _ _ ?_
  rw [h7]
  by_cases h : n = 0
  · exact brT (nI_le (b := 0) (by omega) (by omega)) (h0 h)
  · exact brF (nI_ge (a := 0) (by omega) (by omega)) (bX7_readingOf_20 C Z _ _ _ _ _ _ (brF (by decide) (hn (by omega))))
end S26
theorem g_readings (x c : Int32) : Good M_X6_readings M_X7_readings [.int x, .int c] := by
  intro st hR P hp
  have fin : ∀ v, P v v st := fun v => hp v st hR
  obtain ⟨n, ⟨hm, nz, bg, wd, KC⟩, ⟨lv, sz, K⟩, -⟩ := id hR
  have h6 := KC.1
  rcases tale_cases lv sz (fun s hs hl => ((K.2 s hs).1 hl).1.1) x c with h | ⟨s, hs, rfl, hc, h⟩
  · exact eX6_readings _ _ _ (fun κ C Z => sX6_isTale0 h (g0 (qi (eX7_readings _ _ _ (sX7_refuses_bad h (brF (by decide) (qi (fin _))))))))
  · rcases h with hl | ⟨hl, hle⟩ | ⟨hl, m, h1, h2, h3, rfl⟩
    · refine eX6_readings _ _ _ (fun κ C Z => sX6_isTale1 hs hc (g1 (eX6_missing _ _ _ (sX4_lost_dead K.2 hs hl (f1 (eX4_find _ _ (qi (qi (brF (by decide) (qi ?_))))))))))
      exact eX7_readings _ _ _ (sX7_refuses_dead hs hc (by rw [xup_off (by omega)]; exact ((K.2 s hs).2 hl).2) (brF (by decide) (qi (hp _ _ (two_find hR _)))))
    · have k := (K.2 s hs).1 hl
      refine eX6_readings _ _ _ (fun κ C Z => sX6_isTale1 hs hc (g1 (eX6_missing _ _ _ (sX4_lost_live K.2 hs hl (f0 (sX4_sizeOf K.2 hs hl (brF hle (eX4_find _ _ (qi (qi (brF (by decide) (qi ?_))))))))))))
      exact eX7_readings _ _ _ (sX7_refuses_ix hs hc (by rw [xup_off (by omega)]; exact k.1.2.2.1) (by rw [xup_off (by omega), k.1.2.2.2]; exact hle) (brF (by decide) (qi (hp _ _ (two_find hR _)))))
    · have k := (K.2 s hs).1 hl
      have hle : nI m ≤ nI (sz s) := nI_le h3 (by have := k.1.1; omega)
      refine eX6_readings _ _ _ (fun κ C Z => sX6_isTale1 hs hc (g1 (eX6_missing _ _ _ (sX4_lost_live K.2 hs hl (f0 (sX4_sizeOf K.2 hs hl (brT hle (qi (brT rfl (eX6_allWalks _ (eX0_size _ (qi (qi ?_)))))))))))))
      have eN : st.1 2 4 * 99 * 20 = nI (n * 1980) := by
        have e1 : nI n * 99 = nI (n * 99) := pk_mul n 99
        have e2 : nI (n * 99) * 20 = nI (n * 99 * 20) := pk_mul (n * 99) 20
        rw [KC.2.1, e1, e2]
        congr 1
        omega
      rw [eN]
      refine lX6_readings (d := 54) (it := fun i => st.1 46 (60 * s + i)) C Z KC K.2 hs hl h3 h1 h2 (fun _ _ => rfl) (qi ?_) (n * 1980) 0 (by omega)
      refine eX7_readings _ _ _ (sX7_refuses_ok hs hc k.1.2.2.1 (by rw [k.1.2.2.2]; exact hle) (brT rfl (eX7_readingOf _ _ _ _ (fun κ C Z => bX7 C Z (KC.sm (sm_720 st 0)).2.2.1 h6 (fun h0 => qi (qi ?_)) (fun h0 => lX7_readings (d := 55) (it := fun i => st.1 46 (60 * s + i)) (bg := bg) C Z hs h1 h2 (n * 1980 - 1) 0 _ (by omega) (KC.sm (sm_720 st 0)) (fun i hi => xup_off (by omega)) (xup_eq _ _ _ _) (fun st' g1 g2 => qi (qi ?_)))))))
      · rw [xup_eq]
        subst h0
        exact hp _ _ (hR.sm (sm_720 st 0))
      · rw [g2]
        exact hp _ _ (hR.sm ((sm_720 st 0).trans g1))
theorem g_reading (x c i : Int32) : Good M_X6_reading M_X7_reading [.int x, .int c, .int i] := by
  intro st hR P hp
  have fin : ∀ v, P v v st := fun v => hp v st hR
  obtain ⟨n, ⟨hm, nz, bg, wd, KC⟩, ⟨lv, sz, K⟩, -⟩ := id hR
  have h6 := KC.1
  by_cases hi : 0 ≤ i
  · rcases tale_cases lv sz (fun s hs hl => ((K.2 s hs).1 hl).1.1) x c with h | ⟨s, hs, rfl, hc, h⟩
    · exact eX6_reading _ _ _ _ (fun κ C Z => sX6_isTale0 h (f0 (qi (eX7_reading _ _ _ _ (brT hi (sX7_refuses_bad h (brF (by decide) (qi (fin _)))))))))
    · rcases h with hl | ⟨hl, hle⟩ | ⟨hl, m, h1, h2, h3, rfl⟩
      · refine eX6_reading _ _ _ _ (fun κ C Z => sX6_isTale1 hs hc (f1 (brT hi (eX6_missing _ _ _ (sX4_lost_dead K.2 hs hl (f1 (eX4_find _ _ (qi (qi (brF (by decide) (qi ?_)))))))))))
        exact eX7_reading _ _ _ _ (brT hi (sX7_refuses_dead hs hc (by rw [xup_off (by omega)]; exact ((K.2 s hs).2 hl).2) (brF (by decide) (qi (hp _ _ (two_find hR _))))))
      · have k := (K.2 s hs).1 hl
        refine eX6_reading _ _ _ _ (fun κ C Z => sX6_isTale1 hs hc (f1 (brT hi (eX6_missing _ _ _ (sX4_lost_live K.2 hs hl (f0 (sX4_sizeOf K.2 hs hl (brF hle (eX4_find _ _ (qi (qi (brF (by decide) (qi ?_)))))))))))))
        exact eX7_reading _ _ _ _ (brT hi (sX7_refuses_ix hs hc (by rw [xup_off (by omega)]; exact k.1.2.2.1) (by rw [xup_off (by omega), k.1.2.2.2]; exact hle) (brF (by decide) (qi (hp _ _ (two_find hR _))))))
      · have k := (K.2 s hs).1 hl
        have hle : nI m ≤ nI (sz s) := nI_le h3 (by have := k.1.1; omega)
        obtain ⟨i0, hi0, rfl⟩ := nI_of (x := i) (fun q => by
          have a := Int32.lt_iff_toInt_lt.mp q
          have b := Int32.le_iff_toInt_le.mp hi
          omega)
        refine eX6_reading _ _ _ _ (fun κ C Z => sX6_isTale1 hs hc (f1 (brT hi (eX6_missing _ _ _ (sX4_lost_live K.2 hs hl (f0 (sX4_sizeOf K.2 hs hl (brT hle (qi (brT rfl (eX6_allWalks _ (eX0_size _ (qi (qi ?_))))))))))))))
        have eN : st.1 2 4 * 99 * 20 = nI (n * 1980) := by
          have e1 : nI n * 99 = nI (n * 99) := pk_mul n 99
          have e2 : nI (n * 99) * 20 = nI (n * 99 * 20) := pk_mul (n * 99) 20
          rw [KC.2.1, e1, e2]
          congr 1
          omega
        rw [eN]
        refine lX6_reading (d := 54) (it := fun i => st.1 46 (60 * s + i)) C Z KC K.2 hs hl h3 h1 h2 (fun _ _ => rfl) hi0 (n * 1980) 0 0 (by omega) (by omega) (by omega) (qi ?_)
        refine eX7_reading _ _ _ _ (brT hi (sX7_refuses_ok hs hc k.1.2.2.1 (by rw [k.1.2.2.2]; exact hle) (brT rfl (eX7_readingOf _ _ _ _ (fun κ C Z => bX7 C Z (KC.sm (sm_720 st 0)).2.2.1 h6 (fun h0 => qi (qi ?_)) (fun h0 => lX7_reading (d := 55) (it := fun i => st.1 46 (60 * s + i)) (bg := bg) C Z hs h1 h2 hi0 (n * 1980 - 1) 0 0 _ (by omega) (by omega) (by omega) (KC.sm (sm_720 st 0)) (fun i hi => xup_off (by omega)) (xup_eq _ _ _ _) (fun st' g1 => qi (qi ?_))))))))
        · subst h0
          exact hp _ _ (hR.sm (sm_720 st 0))
        · rw [show n * 1980 - 1 + 1 = n * 1980 by omega]
          exact hp _ _ (hR.sm ((sm_720 st 0).trans g1))
  · have no : ∀ s1, s1 = st → Ct 60 M_X7_reading [.ref 7, .int x, .int c, .int i] s1 (Qi fun w s2 => P (-2) w s2) := fun s1 e => by
      subst e
      exact eX7_reading _ _ _ _ (brF hi (qi (fin _)))
    rcases tale_cases lv sz (fun s hs hl => ((K.2 s hs).1 hl).1.1) x c with h | ⟨s, hs, rfl, hc, -⟩
    · exact eX6_reading _ _ _ _ (fun κ C Z => sX6_isTale0 h (f0 (qi (no _ rfl))))
    · exact eX6_reading _ _ _ _ (fun κ C Z => sX6_isTale1 hs hc (f1 (brF hi (qi (no _ rfl)))))
