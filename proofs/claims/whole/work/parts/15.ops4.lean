/-! how many, and the i-th, of the numbers below that have a property -/
noncomputable def cn (p : Nat → Prop) : Nat → Nat
  | 0 => 0
  | n + 1 => cn p n + @ite Nat (p n) (Classical.propDecidable _) 1 0
theorem cn_yes {p : Nat → Prop} {n : Nat} (h : p n) : cn p (n + 1) = cn p n + 1 := by rw [cn, if_pos h]
theorem cn_no {p : Nat → Prop} {n : Nat} (h : ¬ p n) : cn p (n + 1) = cn p n := by rw [cn, if_neg h]; rfl
theorem cn_le (p : Nat → Prop) : ∀ n, cn p n ≤ n
  | 0 => Nat.le_refl _
  | n + 1 => by
    have := cn_le p n
    by_cases h : p n
    · rw [cn_yes h]; omega
    · rw [cn_no h]; omega
noncomputable def sc (p : Nat → Prop) : Nat → Nat → Nat → Option Nat
  | 0, _, _ => none
  | f + 1, v, i => @ite (Option Nat) (p v) (Classical.propDecidable _) (if i = 0 then some v else sc p f (v + 1) (i - 1)) (sc p f (v + 1) i)
theorem sc_0 (p : Nat → Prop) (v i : Nat) : sc p 0 v i = none := rfl
theorem sc_hit {p : Nat → Prop} {f v : Nat} (h : p v) : sc p (f + 1) v 0 = some v := by rw [sc, if_pos h, if_pos rfl]
theorem sc_next {p : Nat → Prop} {f v i : Nat} (h : p v) : sc p (f + 1) v (i + 1) = sc p f (v + 1) i := by rw [sc, if_pos h, if_neg (by omega)]; rfl
theorem sc_no {p : Nat → Prop} {f v i : Nat} (h : ¬ p v) : sc p (f + 1) v i = sc p f (v + 1) i := by rw [sc, if_neg h]
theorem sc_some {p : Nat → Prop} : ∀ {f v x : Nat}, sc p f v 0 = some x → v ≤ x ∧ x < v + f ∧ p x ∧ ∀ y, v ≤ y → y < x → ¬ p y
  | 0, _, _, h => by cases h
  | f + 1, v, x, h => by
    by_cases hv : p v
    · rw [sc_hit hv] at h
      cases h
      exact ⟨Nat.le_refl _, by omega, hv, fun y h1 h2 => by omega⟩
    · rw [sc_no hv] at h
      obtain ⟨a, b, c, e⟩ := sc_some h
      refine ⟨by omega, by omega, c, fun y h1 h2 => ?_⟩
      by_cases ey : y = v
      · rw [ey]; exact hv
      · exact e y (by omega) h2
theorem sc_none {p : Nat → Prop} : ∀ {f v : Nat}, sc p f v 0 = none → ∀ y, v ≤ y → y < v + f → ¬ p y
  | 0, _, _, y, h1, h2 => by omega
  | f + 1, v, h, y, h1, h2 => by
    by_cases hv : p v
    · rw [sc_hit hv] at h
      cases h
    · rw [sc_no hv] at h
      by_cases ey : y = v
      · rw [ey]; exact hv
      · exact sc_none h y (by omega) (by omega)
/-- an answer: a number counted from 1, or none -/
def oi (o : Option Nat) : Int32 := match o with
  | none => -1
  | some v => nI (v + 1)
section L4
variable {st : xSt} {n : Nat} {hm nz bg : Nat → Nat} {wd : Nat → Nat → Int32} {d j : Nat} {κ : xK} {Q : Option Value → xSt → Prop}
theorem lX6_meanings (C : Cx κ M_X6_meanings (d + 4)) (Z : xR κ Q) (K : RelC st n hm nz bg wd) (hj : j < n) {w h m : Int32} {t : Nat} (ht : t ≤ 400) (hq : Q (some (.int (nI (cn (mm hm nz bg wd j w h m) t)))) st) : ∀ (f v : Nat), v + f = t → X κ 33 [(0, .ref 0), (1, .int (nI j)), (2, .int w), (3, .int h), (4, .int m), (5, .int (nI t)), (6, .int (nI (cn (mm hm nz bg wd j w h m) v))), (7, .int (nI (v + 1)))] [] st
  | 0, v, e => by
    rw [show v = t by omega]
    exact bX6_meanings_33 C Z _ _ _ _ _ _ _ _ (brT (nI_lt (by omega) (by omega)) hq)
  | f + 1, v, e => by
    refine bX6_meanings_33 C Z _ _ _ _ _ _ _ _ (brF (nI_nlt (by omega) (by omega)) (sX0_means K hj (by omega) (fun g => f1 ?_) (fun g => f0 ?_)))
    · simp only [nI_1]
      rw [← cn_yes g]
      exact lX6_meanings C Z K hj ht hq f (v + 1) (by omega)
    · simp only [nI_1]
      rw [← cn_no g]
      exact lX6_meanings C Z K hj ht hq f (v + 1) (by omega)
theorem i_add0 (x : Int32) : x + 0 = x := by
  apply Int32.toInt_inj.mp
  simp
theorem lX7_meanings (C : Cx κ M_X7_meanings (d + 4)) (Z : xR κ Q) (K : RelC st n hm nz bg wd) (hj : j < n) {w h m : Int32} {t : Nat} (ht : t ≤ 400) (hq : Q (some (.int (nI (cn (mm hm nz bg wd j w h m) t)))) st) : ∀ (f v : Nat), v + f = t → X κ 33 [(0, .ref 7), (1, .int (nI j)), (2, .int w), (3, .int h), (4, .int m), (5, .int (nI t)), (6, .int (nI (cn (mm hm nz bg wd j w h m) v))), (7, .int (nI (v + 1)))] [] st
  | 0, v, e => by
    rw [show v = t by omega]
    exact bX7_meanings_33 C Z _ _ _ _ _ _ _ _ (brT (nI_lt (by omega) (by omega)) hq)
  | f + 1, v, e => by
    refine bX7_meanings_33 C Z _ _ _ _ _ _ _ _ (brF (nI_nlt (by omega) (by omega)) (sX7_mayMean K hj (by omega) (fun g => f1 ?_) (fun g => f0 ?_)))
    · simp only [nI_1]
      rw [← cn_yes g]
      exact lX7_meanings C Z K hj ht hq f (v + 1) (by omega)
    · simp only [nI_1, i_add0]
      rw [← cn_no g]
      exact lX7_meanings C Z K hj ht hq f (v + 1) (by omega)
theorem lX6_meaning (C : Cx κ M_X6_meaning (d + 4)) (Z : xR κ Q) (K : RelC st n hm nz bg wd) (hj : j < n) {w h m : Int32} {i0 : Nat} (hi : i0 < 2 ^ 31) : ∀ (f v fd : Nat), v + f = 400 → fd ≤ i0 → fd ≤ v → Q (some (.int (oi (sc (mm hm nz bg wd j w h m) f v (i0 - fd))))) st → X κ 26 [(0, .ref 0), (1, .int (nI j)), (2, .int w), (3, .int h), (4, .int m), (5, .int (nI i0)), (6, .int (nI fd)), (7, .int (nI (v + 1)))] [] st
  | 0, v, fd, e, e2, e3, hq => by
    rw [show v = 400 by omega]
    exact bX6_meaning_26 C Z _ _ _ _ _ _ _ _ (brT (by decide) hq)
  | f + 1, v, fd, e, e2, e3, hq => by
    refine bX6_meaning_26 C Z _ _ _ _ _ _ _ _ (brF (nI_nlt (a := 400) (by omega) (by omega)) (sX0_means K hj (by omega) (fun g => f1 ?_) (fun g => f0 ?_)))
    · by_cases ef : fd = i0
      · refine bnF (by rw [ef]) ?_
        rw [ef, Nat.sub_self, sc_hit g] at hq
        exact hq
      · refine bnT (fun z => ef ((nI_eq (by omega) (by omega)).mp z)) ?_
        simp only [nI_1]
        obtain ⟨r, hr⟩ : ∃ r, i0 - fd = r + 1 := ⟨i0 - fd - 1, by omega⟩
        rw [hr, sc_next g, show r = i0 - (fd + 1) by omega] at hq
        exact lX6_meaning C Z K hj hi f (v + 1) (fd + 1) (by omega) (by omega) (by omega) hq
    · simp only [nI_1]
      rw [sc_no g] at hq
      exact lX6_meaning C Z K hj hi f (v + 1) fd (by omega) e2 (by omega) hq
theorem lX7_meaning (C : Cx κ M_X7_meaning (d + 4)) (Z : xR κ Q) (K : RelC st n hm nz bg wd) (hj : j < n) {w h m : Int32} : ∀ (f v r : Nat), v + f = 400 → r < 2 ^ 31 → Q (some (.int (oi (sc (mm hm nz bg wd j w h m) f v r)))) st → X κ 27 [(0, .ref 7), (1, .int (nI j)), (2, .int w), (3, .int h), (4, .int m), (6, .int (nI r)), (7, .int (nI (v + 1)))] [] st
  | 0, v, r, e, e2, hq => by
    rw [show v = 400 by omega]
    exact bX7_meaning_27 C Z _ _ _ _ _ _ _ (brT (by decide) hq)
  | f + 1, v, r, e, e2, hq => by
    refine bX7_meaning_27 C Z _ _ _ _ _ _ _ (brF (nI_nlt (a := 400) (by omega) (by omega)) (sX7_mayMean K hj (by omega) (fun g => f1 ?_) (fun g => f0 ?_)))
    · cases r with
      | zero =>
        refine bnF rfl ?_
        rw [sc_hit g] at hq
        exact hq
      | succ r =>
        refine bnT (nI_ne0 (by omega) (by omega)) ?_
        simp only [nI_1, pk_m1]
        rw [sc_next g] at hq
        exact lX7_meaning C Z K hj f (v + 1) r (by omega) (by omega) hq
    · simp only [nI_1]
      rw [sc_no g] at hq
      exact lX7_meaning C Z K hj f (v + 1) r (by omega) e2 hq
end L4
theorem g_meanings (c w h m t : Int32) : Good M_X6_meanings M_X7_meanings [.int c, .int w, .int h, .int m, .int t] := by
  intro st hR P hp
  have fin : ∀ v, P v v st := fun v => hp v st hR
  obtain ⟨n, ⟨hm, nz, bg, wd, K⟩, -⟩ := id hR
  by_cases hk : ptOK n c w h m
  · obtain ⟨⟨j, hj, rfl⟩, -⟩ := id hk
    by_cases ht : ¬ t < nI 1 ∧ ¬ nI 400 < t
    · obtain ⟨t0, h1, h2, rfl⟩ := rng (by omega) ht (by omega)
      refine eX6_meanings _ _ _ _ _ _ (fun κ C Z => sX6_isPoint K (fun _ => f1 (sW1 ht (g1 (lX6_meanings (d := 56) C Z K hj h2 (qi ?_) t0 0 (by omega))))) (fun e => (e hk).elim))
      exact eX7_meanings _ _ _ _ _ _ (fun κ C Z => sX7_isPoint K (fun _ => f1 (sI1 ht (g1 (lX7_meanings (d := 56) C Z K hj h2 (qi (fin _)) t0 0 (by omega))))) (fun e => (e hk).elim))
    · exact eX6_meanings _ _ _ _ _ _ (fun κ C Z => sX6_isPoint K (fun _ => f1 (sW0 ht (g0 (qi (eX7_meanings _ _ _ _ _ _ (fun κ C Z => sX7_isPoint K (fun _ => f1 (sI0 ht (g0 (qi (fin _))))) (fun e => (e hk).elim))))))) (fun e => (e hk).elim))
  · exact eX6_meanings _ _ _ _ _ _ (fun κ C Z => sX6_isPoint K (fun e => (hk e).elim) (fun _ => f0 (qi (eX7_meanings _ _ _ _ _ _ (fun κ C Z => sX7_isPoint K (fun e => (hk e).elim) (fun _ => f0 (qi (fin _))))))))
theorem g_meaning (c w h m i : Int32) : Good M_X6_meaning M_X7_meaning [.int c, .int w, .int h, .int m, .int i] := by
  intro st hR P hp
  have fin : ∀ v, P v v st := fun v => hp v st hR
  obtain ⟨n, ⟨hm, nz, bg, wd, K⟩, -⟩ := id hR
  by_cases hk : ptOK n c w h m
  · obtain ⟨⟨j, hj, rfl⟩, -⟩ := id hk
    by_cases hi : 0 ≤ i
    · obtain ⟨i0, h2, rfl⟩ := nI_of (x := i) (fun q => by
        have a := Int32.lt_iff_toInt_lt.mp q
        have b := Int32.le_iff_toInt_le.mp hi
        omega)
      refine eX6_meaning _ _ _ _ _ _ (fun κ C Z => sX6_isPoint K (fun _ => f1 (brT hi (lX6_meaning (d := 56) C Z K hj h2 400 0 0 (by omega) (by omega) (by omega) (qi ?_)))) (fun e => (e hk).elim))
      exact eX7_meaning _ _ _ _ _ _ (fun κ C Z => sX7_isPoint K (fun _ => f1 (brT hi (lX7_meaning (d := 56) C Z K hj 400 0 i0 (by omega) h2 (qi (fin _))))) (fun e => (e hk).elim))
    · exact eX6_meaning _ _ _ _ _ _ (fun κ C Z => sX6_isPoint K (fun _ => f1 (brF hi (qi (eX7_meaning _ _ _ _ _ _ (fun κ C Z => sX7_isPoint K (fun _ => f1 (brF hi (qi (fin _)))) (fun e => (e hk).elim)))))) (fun e => (e hk).elim))
  · exact eX6_meaning _ _ _ _ _ _ (fun κ C Z => sX6_isPoint K (fun e => (hk e).elim) (fun _ => f0 (qi (eX7_meaning _ _ _ _ _ _ (fun κ C Z => sX7_isPoint K (fun e => (hk e).elim) (fun _ => f0 (qi (fin _))))))))
