/-- number v + 1 said by count a, as b hears it -/
noncomputable def hrd (hm nz bg : Nat → Nat) (wd : Nat → Nat → Int32) (a b v : Nat) : Int32 := match sc (fun k => wd b k = wd a (v % tt hm nz a) ∧ hh hm nz bg b k = hh hm nz bg a (v % tt hm nz a)) (tt hm nz b) 0 0 with
  | none => -1
  | some k => if v / tt hm nz a * tt hm nz b + k < 400 then nI (v / tt hm nz a * tt hm nz b + k + 1) else -1
section L5
variable {st : xSt} {n : Nat} {hm nz bg : Nat → Nat} {wd : Nat → Nat → Int32} {d a b v : Nat} {κ : xK} {Q : Option Value → xSt → Prop} {P : Int32 → xSt → Prop}
theorem hh_le (K : RelC st n hm nz bg wd) (ha : a < n) (k : Nat) : hh hm nz bg a k ≤ 2 := by
  have := (K.2.2.2.1 a ha).1
  unfold hh
  split
  · omega
  · split <;> omega
theorem lX0_heardAs (C : Cx κ M_X0_heardAs (d + 3)) (Z : xR κ Q) (K : RelC st n hm nz bg wd) (ha : a < n) (hb : b < n) (hv : v < 400) : ∀ (f k : Nat), k + f = tt hm nz b → Q (some (.int (match sc (fun k => wd b k = wd a (v % tt hm nz a) ∧ hh hm nz bg b k = hh hm nz bg a (v % tt hm nz a)) f k 0 with
  | none => -1
  | some k => if v / tt hm nz a * tt hm nz b + k < 400 then nI (v / tt hm nz a * tt hm nz b + k + 1) else -1))) st → X κ 36 [(0, .ref 2), (1, .int (nI a)), (2, .int (nI b)), (3, .int (nI (v + 1))), (5, .int (wd a (v % tt hm nz a))), (6, .int (nI (hh hm nz bg a (v % tt hm nz a)))), (7, .int (nI (tt hm nz b))), (8, .int (nI (k + 1)))] [] st
  | 0, k, e, hq => by
    have tb := K.tb hb
    exact bX0_heardAs_36 C Z _ _ _ _ _ _ _ _ (brT (nI_lt (by omega) (by omega)) hq)
  | f + 1, k, e, hq => by
    have tb := K.tb hb
    have ta := K.tb ha
    have l1 := hh_le K hb k
    have l2 := hh_le K ha (v % tt hm nz a)
    refine bX0_heardAs_36 C Z _ _ _ _ _ _ _ _ (brF (nI_nlt (by omega) (by omega)) (sX0_wordAt K hb (by omega) ⟨fun g => ?_, fun g => sX0_handAt K hb (by omega) ⟨fun g2 => ?_, fun g2 => sX0_menOf K ha (by omega) ?_⟩⟩))
    · simp only [nI_1]
      rw [sc_no (fun q => g q.1)] at hq
      exact lX0_heardAs C Z K ha hb hv f (k + 1) (by omega) hq
    · simp only [nI_1]
      rw [sc_no (fun q => g2 (by rw [q.2]))] at hq
      exact lX0_heardAs C Z K ha hb hv f (k + 1) (by omega) hq
    · have e2 := (nI_eq (by omega) (by omega)).mp g2
      rw [sc_hit ⟨g, e2⟩] at hq
      have hd1 : v / tt hm nz a ≤ 400 := Nat.le_trans (Nat.div_le_self _ _) (by omega)
      have hd2 : v / tt hm nz a * tt hm nz b ≤ 400 * 41 := Nat.mul_le_mul hd1 tb.2.1
      have e3 : nI (v / tt hm nz a) * nI (tt hm nz b) + nI (k + 1) = nI (v / tt hm nz a * tt hm nz b + k + 1) := by rw [pk_mul, nI_add]; rfl
      rw [e3]
      simp only at hq
      refine pk_lt 400 (v / tt hm nz a * tt hm nz b + k + 1) (fun g3 => ?_) (fun g3 => ?_)
      · rw [if_neg (by omega)] at hq
        exact hq
      · rw [if_pos (by omega)] at hq
        exact hq
theorem sX0_heardAs (K : RelC st n hm nz bg wd) (ha : a < n) (hb : b < n) (hv : v < 400) (hp : P (hrd hm nz bg wd a b v) st) : Ct (d + 3) M_X0_heardAs [.ref 2, .int (nI a), .int (nI b), .int (nI (v + 1))] st (Qi P) := by
  have hm := K.md ha v
  exact eX0_heardAs _ _ _ _ (fun κ C Z => sX0_placeOf K ha (by omega) (sX0_wordAt K ha hm (sX0_handAt K ha hm (sX0_places K hb (lX0_heardAs C Z K ha hb hv _ 0 (by omega) (qi hp))))))
theorem lX7_heardAs (C : Cx κ M_X7_heardAs (d + 4)) (Z : xR κ Q) (K : RelC st n hm nz bg wd) (ha : a < n) (hb : b < n) (hv : v < 400) : ∀ (f x : Nat), x + f = 400 → Q (some (.int (oi (sc (mm hm nz bg wd b (wd a (v % tt hm nz a)) (nI (hh hm nz bg a (v % tt hm nz a))) (nI (v / tt hm nz a))) f x 0)))) st → X κ 11 [(0, .ref 7), (1, .int (nI a)), (2, .int (nI b)), (3, .int (nI (v + 1))), (4, .int (nI (v % tt hm nz a + 1))), (5, .int (nI (x + 1)))] [] st
  | 0, x, e, hq => by
    rw [show x = 400 by omega]
    exact bX7_heardAs_11 C Z _ _ _ _ _ _ (brT (by decide) hq)
  | f + 1, x, e, hq => by
    have hm := K.md ha v
    refine bX7_heardAs_11 C Z _ _ _ _ _ _ (brF (nI_nlt (a := 400) (by omega) (by omega)) (sX7_wordOf K ha hm (sX7_handOf K ha hm (sX7_menOf K ha (by omega) (sX7_mayMean K hb (by omega) (fun g => f1 ?_) (fun g => f0 ?_))))))
    · rw [sc_hit g] at hq
      exact hq
    · simp only [nI_1]
      rw [sc_no g] at hq
      exact lX7_heardAs C Z K ha hb hv f (x + 1) (by omega) hq
theorem nI_m1 {k : Nat} (h : k < 2 ^ 30) : ¬ nI k = -1 := by
  intro e
  have := congrArg Int32.toInt e
  rw [nI_toInt (by omega)] at this
  have e1 : (-1 : Int32).toInt = -1 := by decide
  omega
theorem hrd_eq (K : RelC st n hm nz bg wd) (ha : a < n) (hb : b < n) (hv : v < 400) : oi (sc (mm hm nz bg wd b (wd a (v % tt hm nz a)) (nI (hh hm nz bg a (v % tt hm nz a))) (nI (v / tt hm nz a))) 400 0 0) = hrd hm nz bg wd a b v := by
  have tb := K.tb hb
  have ta := K.tb ha
  have l2 := hh_le K ha (v % tt hm nz a)
  have hd1 : v / tt hm nz a ≤ 400 := Nat.le_trans (Nat.div_le_self _ _) (by omega)
  have iff1 : ∀ x, x < 400 → (mm hm nz bg wd b (wd a (v % tt hm nz a)) (nI (hh hm nz bg a (v % tt hm nz a))) (nI (v / tt hm nz a)) x ↔ (wd b (x % tt hm nz b) = wd a (v % tt hm nz a) ∧ hh hm nz bg b (x % tt hm nz b) = hh hm nz bg a (v % tt hm nz a)) ∧ x / tt hm nz b = v / tt hm nz a) := by
    intro x hx
    have l1 := hh_le K hb (x % tt hm nz b)
    have hd2 : x / tt hm nz b ≤ 400 := Nat.le_trans (Nat.div_le_self _ _) (by omega)
    unfold mm
    constructor
    · rintro ⟨e1, e2, e3⟩
      rcases e2 with e2 | e2
      · exact absurd e2 (nI_m1 (by omega))
      · rcases e3 with e3 | e3
        · exact absurd e3 (nI_m1 (by omega))
        · exact ⟨⟨e1, (nI_eq (by omega) (by omega)).mp e2⟩, (nI_eq (by omega) (by omega)).mp e3⟩
    · rintro ⟨⟨e1, e2⟩, e3⟩
      exact ⟨e1, Or.inr (by rw [e2]), Or.inr (by rw [e3])⟩
  have dm : ∀ k, k < tt hm nz b → (v / tt hm nz a * tt hm nz b + k) / tt hm nz b = v / tt hm nz a ∧ (v / tt hm nz a * tt hm nz b + k) % tt hm nz b = k := by
    intro k hk
    rw [Nat.mul_comm, Nat.mul_add_div (by omega), Nat.mul_add_mod, Nat.div_eq_of_lt hk, Nat.mod_eq_of_lt hk]
    exact ⟨by omega, rfl⟩
  unfold hrd
  cases h1 : sc (fun k => wd b k = wd a (v % tt hm nz a) ∧ hh hm nz bg b k = hh hm nz bg a (v % tt hm nz a)) (tt hm nz b) 0 0 with
  | none =>
    have g1 := sc_none h1
    cases h2 : sc (mm hm nz bg wd b (wd a (v % tt hm nz a)) (nI (hh hm nz bg a (v % tt hm nz a))) (nI (v / tt hm nz a))) 400 0 0 with
    | none => rfl
    | some x =>
      obtain ⟨-, x2, x3, -⟩ := sc_some h2
      have := (iff1 x (by omega)).mp x3
      exact absurd this.1 (g1 _ (by omega) (by have := K.md hb x; omega))
  | some k =>
    obtain ⟨-, k2, k3, k4⟩ := sc_some h1
    have hk := dm k (by omega)
    by_cases hx : v / tt hm nz a * tt hm nz b + k < 400
    · simp only [if_pos hx]
      cases h2 : sc (mm hm nz bg wd b (wd a (v % tt hm nz a)) (nI (hh hm nz bg a (v % tt hm nz a))) (nI (v / tt hm nz a))) 400 0 0 with
      | none =>
        exact absurd ((iff1 _ hx).mpr ⟨by rw [hk.2]; exact k3, hk.1⟩) (sc_none h2 _ (by omega) (by omega))
      | some x =>
        obtain ⟨-, x2, x3, x4⟩ := sc_some h2
        have hx' := (iff1 x (by omega)).mp x3
        have hmod := K.md hb x
        have hdm := Nat.div_add_mod x (tt hm nz b)
        rw [hx'.2, Nat.mul_comm] at hdm
        have c1 : ¬ x % tt hm nz b < k := fun q => k4 _ (by omega) q hx'.1
        have c2 : ¬ v / tt hm nz a * tt hm nz b + k < x := fun q => x4 _ (by omega) q ((iff1 _ hx).mpr ⟨by rw [hk.2]; exact k3, hk.1⟩)
        have : x = v / tt hm nz a * tt hm nz b + k := by omega
        rw [this]
        rfl
    · simp only [if_neg hx]
      cases h2 : sc (mm hm nz bg wd b (wd a (v % tt hm nz a)) (nI (hh hm nz bg a (v % tt hm nz a))) (nI (v / tt hm nz a))) 400 0 0 with
      | none => rfl
      | some x =>
        obtain ⟨-, x2, x3, x4⟩ := sc_some h2
        have hx' := (iff1 x (by omega)).mp x3
        have hdm := Nat.div_add_mod x (tt hm nz b)
        rw [hx'.2, Nat.mul_comm] at hdm
        have c1 : ¬ x % tt hm nz b < k := fun q => k4 _ (by omega) q hx'.1
        omega
theorem sX7_heardAs (K : RelC st n hm nz bg wd) (ha : a < n) (hb : b < n) (hv : v < 400) (hp : P (hrd hm nz bg wd a b v) st) : Ct (d + 4) M_X7_heardAs [.ref 7, .int (nI a), .int (nI b), .int (nI (v + 1))] st (Qi P) := by
  refine eX7_heardAs _ _ _ _ (fun κ C Z => sX7_placeOf K ha (by omega) (lX7_heardAs C Z K ha hb hv 400 0 (by omega) (qi ?_)))
  rw [hrd_eq K ha hb hv]
  exact hp
theorem lX6_clear (C : Cx κ M_X6_clear (d + 5)) (Z : xR κ Q) (K : RelC st n hm nz bg wd) (ha : a < n) (hb : b < n) {t : Nat} (ht : t ≤ 400) (hq : Q (some (.int (nI (cn (fun v => hrd hm nz bg wd a b v = nI (v + 1)) t)))) st) : ∀ (f v : Nat), v + f = t → X κ 42 [(0, .ref 0), (1, .int (nI a)), (2, .int (nI b)), (3, .int (nI t)), (4, .int (nI (cn (fun v => hrd hm nz bg wd a b v = nI (v + 1)) v))), (5, .int (nI (v + 1)))] [] st
  | 0, v, e => by
    rw [show v = t by omega]
    exact bX6_clear_42 C Z _ _ _ _ _ _ (brT (nI_lt (by omega) (by omega)) hq)
  | f + 1, v, e => by
    refine bX6_clear_42 C Z _ _ _ _ _ _ (brF (nI_nlt (by omega) (by omega)) (sX0_heardAs K ha hb (by omega) ⟨fun g => ?_, fun g => ?_⟩))
    · simp only [nI_1]
      rw [← cn_no (p := fun v => hrd hm nz bg wd a b v = nI (v + 1)) g]
      exact lX6_clear C Z K ha hb ht hq f (v + 1) (by omega)
    · simp only [nI_1]
      rw [← cn_yes (p := fun v => hrd hm nz bg wd a b v = nI (v + 1)) g]
      exact lX6_clear C Z K ha hb ht hq f (v + 1) (by omega)
theorem lX7_clear (C : Cx κ M_X7_clear (d + 5)) (Z : xR κ Q) (K : RelC st n hm nz bg wd) (ha : a < n) (hb : b < n) {t : Nat} (ht : t ≤ 400) (hq : Q (some (.int (nI (cn (fun v => hrd hm nz bg wd a b v = nI (v + 1)) t)))) st) : ∀ (f v : Nat), v + f = t → X κ 36 [(0, .ref 7), (1, .int (nI a)), (2, .int (nI b)), (3, .int (nI t)), (4, .int (nI (cn (fun v => hrd hm nz bg wd a b v = nI (v + 1)) v))), (5, .int (nI (v + 1)))] [] st
  | 0, v, e => by
    rw [show v = t by omega]
    exact bX7_clear_36 C Z _ _ _ _ _ _ (brT (nI_lt (by omega) (by omega)) hq)
  | f + 1, v, e => by
    refine bX7_clear_36 C Z _ _ _ _ _ _ (brF (nI_nlt (by omega) (by omega)) (sX7_heardAs K ha hb (by omega) ⟨fun g => ?_, fun g => ?_⟩))
    · simp only [nI_1, i_add0]
      rw [← cn_no (p := fun v => hrd hm nz bg wd a b v = nI (v + 1)) g]
      exact lX7_clear C Z K ha hb ht hq f (v + 1) (by omega)
    · simp only [nI_1]
      rw [← cn_yes (p := fun v => hrd hm nz bg wd a b v = nI (v + 1)) g]
      exact lX7_clear C Z K ha hb ht hq f (v + 1) (by omega)
theorem lX6_trap (C : Cx κ M_X6_trap (d + 5)) (Z : xR κ Q) (K : RelC st n hm nz bg wd) (ha : a < n) (hb : b < n) : ∀ (f v : Nat), v + f = 400 → Q (some (.int (oi (sc (fun v => ¬ hrd hm nz bg wd a b v = -1 ∧ ¬ hrd hm nz bg wd a b v = nI (v + 1)) f v 0)))) st → X κ 27 [(0, .ref 0), (1, .int (nI a)), (2, .int (nI b)), (3, .int (nI (v + 1)))] [] st
  | 0, v, e, hq => by
    rw [show v = 400 by omega]
    exact bX6_trap_27 C Z _ _ _ _ (brT (by decide) hq)
  | f + 1, v, e, hq => by
    refine bX6_trap_27 C Z _ _ _ _ (brF (nI_nlt (a := 400) (by omega) (by omega)) (sX0_heardAs K ha hb (by omega) ⟨fun g => ?_, fun g => ⟨fun g2 => ?_, fun g2 => ?_⟩⟩))
    · simp only [nI_1]
      rw [sc_no (fun q => q.1 g)] at hq
      exact lX6_trap C Z K ha hb f (v + 1) (by omega) hq
    · simp only [nI_1]
      rw [sc_no (fun q => q.2 g2)] at hq
      exact lX6_trap C Z K ha hb f (v + 1) (by omega) hq
    · rw [sc_hit ⟨g, g2⟩] at hq
      exact hq
theorem lX7_trap (C : Cx κ M_X7_trap (d + 5)) (Z : xR κ Q) (K : RelC st n hm nz bg wd) (ha : a < n) (hb : b < n) : ∀ (f v : Nat), v + f = 400 → Q (some (.int (oi (sc (fun v => ¬ hrd hm nz bg wd a b v = -1 ∧ ¬ hrd hm nz bg wd a b v = nI (v + 1)) f v 0)))) st → X κ 21 [(0, .ref 7), (1, .int (nI a)), (2, .int (nI b)), (3, .int (nI (v + 1)))] [] st
  | 0, v, e, hq => by
    rw [show v = 400 by omega]
    exact bX7_trap_21 C Z _ _ _ _ (brT (by decide) hq)
  | f + 1, v, e, hq => by
    refine bX7_trap_21 C Z _ _ _ _ (brF (nI_nlt (a := 400) (by omega) (by omega)) (sX7_heardAs K ha hb (by omega) ⟨fun g2 => ?_, fun g2 => ⟨fun g => ?_, fun g => ?_⟩⟩))
    · simp only [nI_1]
      rw [sc_no (fun q => q.2 g2)] at hq
      exact lX7_trap C Z K ha hb f (v + 1) (by omega) hq
    · simp only [nI_1]
      rw [sc_no (fun q => q.1 g)] at hq
      exact lX7_trap C Z K ha hb f (v + 1) (by omega) hq
    · rw [sc_hit ⟨g, g2⟩] at hq
      exact hq
end L5
theorem g_heard (a b t : Int32) : Good M_X6_heard M_X7_heard [.int a, .int b, .int t] := by
  intro st hR P hp
  have fin : ∀ v, P v v st := fun v => hp v st hR
  obtain ⟨n, ⟨hm, nz, bg, wd, K⟩, -⟩ := id hR
  rcases isC n a with ⟨x, hx, rfl⟩ | hx
  · rcases isC n b with ⟨y, hy, rfl⟩ | hy
    · by_cases ht : ¬ t < nI 1 ∧ ¬ nI 400 < t
      · obtain ⟨t0, h1, h2, rfl⟩ := rng (by omega) ht (by omega)
        obtain ⟨v, rfl⟩ : ∃ v, t0 = v + 1 := ⟨t0 - 1, by omega⟩
        exact eX6_heard _ _ _ _ (sX0_has_in K hx (f1 (sX0_has_in K hy (f1 (sW1 ht (g1 (sX0_heardAs K hx hy (by omega) (qi (eX7_heard _ _ _ _ (sX7_isCount_in K hx (f1 (sX7_isCount_in K hy (f1 (sI1 ht (f1 (sX7_heardAs K hx hy (by omega) (qi (fin _))))))))))))))))))
      · exact eX6_heard _ _ _ _ (sX0_has_in K hx (f1 (sX0_has_in K hy (f1 (sW0 ht (g0 (qi (eX7_heard _ _ _ _ (sX7_isCount_in K hx (f1 (sX7_isCount_in K hy (f1 (sI0 ht (f0 (qi (fin _))))))))))))))))
    · exact eX6_heard _ _ _ _ (sX0_has_in K hx (f1 (sX0_has_no K hy (f0 (qi (eX7_heard _ _ _ _ (sX7_isCount_in K hx (f1 (sX7_isCount_no K hy (f0 (qi (fin _))))))))))))
  · exact eX6_heard _ _ _ _ (sX0_has_no K hx (f0 (qi (eX7_heard _ _ _ _ (sX7_isCount_no K hx (f0 (qi (fin _))))))))
theorem g_clear (a b t : Int32) : Good M_X6_clear M_X7_clear [.int a, .int b, .int t] := by
  intro st hR P hp
  have fin : ∀ v, P v v st := fun v => hp v st hR
  obtain ⟨n, ⟨hm, nz, bg, wd, K⟩, -⟩ := id hR
  rcases isC n a with ⟨x, hx, rfl⟩ | hx
  · rcases isC n b with ⟨y, hy, rfl⟩ | hy
    · by_cases ht : ¬ t < nI 1 ∧ ¬ nI 400 < t
      · obtain ⟨t0, h1, h2, rfl⟩ := rng (by omega) ht (by omega)
        refine eX6_clear _ _ _ _ (fun κ C Z => sX0_has_in K hx (f1 (sX0_has_in K hy (f1 (sW1 ht (g1 (lX6_clear (d := 55) C Z K hx hy h2 (qi ?_) t0 0 (by omega))))))))
        exact eX7_clear _ _ _ _ (fun κ C Z => sX7_isCount_in K hx (f1 (sX7_isCount_in K hy (f1 (sI1 ht (g1 (lX7_clear (d := 55) C Z K hx hy h2 (qi (fin _)) t0 0 (by omega))))))))
      · exact eX6_clear _ _ _ _ (fun κ C Z => sX0_has_in K hx (f1 (sX0_has_in K hy (f1 (sW0 ht (g0 (qi (eX7_clear _ _ _ _ (fun κ C Z => sX7_isCount_in K hx (f1 (sX7_isCount_in K hy (f1 (sI0 ht (g0 (qi (fin _))))))))))))))))
    · exact eX6_clear _ _ _ _ (fun κ C Z => sX0_has_in K hx (f1 (sX0_has_no K hy (f0 (qi (eX7_clear _ _ _ _ (fun κ C Z => sX7_isCount_in K hx (f1 (sX7_isCount_no K hy (f0 (qi (fin _))))))))))))
  · exact eX6_clear _ _ _ _ (fun κ C Z => sX0_has_no K hx (f0 (qi (eX7_clear _ _ _ _ (fun κ C Z => sX7_isCount_no K hx (f0 (qi (fin _))))))))
theorem g_trap (a b : Int32) : Good M_X6_trap M_X7_trap [.int a, .int b] := by
  intro st hR P hp
  have fin : ∀ v, P v v st := fun v => hp v st hR
  obtain ⟨n, ⟨hm, nz, bg, wd, K⟩, -⟩ := id hR
  rcases isC n a with ⟨x, hx, rfl⟩ | hx
  · rcases isC n b with ⟨y, hy, rfl⟩ | hy
    · refine eX6_trap _ _ _ (fun κ C Z => sX0_has_in K hx (f1 (sX0_has_in K hy (g1 (lX6_trap (d := 55) C Z K hx hy 400 0 (by omega) (qi ?_))))))
      exact eX7_trap _ _ _ (fun κ C Z => sX7_isCount_in K hx (f1 (sX7_isCount_in K hy (g1 (lX7_trap (d := 55) C Z K hx hy 400 0 (by omega) (qi (fin _)))))))
    · exact eX6_trap _ _ _ (fun κ C Z => sX0_has_in K hx (f1 (sX0_has_no K hy (g0 (qi (eX7_trap _ _ _ (fun κ C Z => sX7_isCount_in K hx (f1 (sX7_isCount_no K hy (g0 (qi (fin _))))))))))))
  · exact eX6_trap _ _ _ (fun κ C Z => sX0_has_no K hx (f0 (qi (eX7_trap _ _ _ (fun κ C Z => sX7_isCount_no K hx (f0 (qi (fin _))))))))
