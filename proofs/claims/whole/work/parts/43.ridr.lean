/-! the reference's riddle -/
noncomputable def hbs (r : Nat → Prop) : Nat → Nat
  | 0 => 0
  | k + 1 => hbs r k + @ite Nat (r k) (Classical.propDecidable _) (2 ^ k) 0
theorem hbs_yes {r : Nat → Prop} {k : Nat} (h : r k) : hbs r (k + 1) = hbs r k + 2 ^ k := by rw [hbs, if_pos h]
theorem hbs_no {r : Nat → Prop} {k : Nat} (h : ¬ r k) : hbs r (k + 1) = hbs r k := by rw [hbs, if_neg h]; rfl
theorem hbs_lt (r : Nat → Prop) : ∀ k, hbs r k < 2 ^ k
  | 0 => Nat.zero_lt_one
  | k + 1 => by
    have := hbs_lt r k
    have e : 2 ^ (k + 1) = 2 ^ k + 2 ^ k := by rw [Nat.pow_succ]; omega
    by_cases h : r k
    · rw [hbs_yes h]; omega
    · rw [hbs_no h]; omega
theorem p256 {k : Nat} (h : k ≤ 8) : 2 ^ k ≤ 256 := Nat.pow_le_pow_right (n := 2) (by decide) h
theorem hbs_bit (r : Nat → Prop) : ∀ k c, (hbs r k).testBit c = true ↔ c < k ∧ r c
  | 0, c => by
    show (0 : Nat).testBit c = true ↔ _
    rw [Nat.zero_testBit]
    constructor
    · intro q
      cases q
    · intro q
      omega
  | k + 1, c => by
    have hl := hbs_lt r k
    have ih := hbs_bit r k c
    by_cases h : r k
    · rw [hbs_yes h, Nat.add_comm]
      by_cases e : c = k
      · subst e
        rw [Nat.testBit_two_pow_add_eq, Nat.testBit_lt_two_pow hl]
        exact ⟨fun _ => ⟨by omega, h⟩, fun _ => rfl⟩
      · by_cases e2 : c < k
        · rw [Nat.testBit_two_pow_add_gt e2, ih]
          exact ⟨fun q => ⟨by omega, q.2⟩, fun q => ⟨e2, q.2⟩⟩
        · have hk : 2 ^ (k + 1) ≤ 2 ^ c := Nat.pow_le_pow_right (n := 2) (by decide) (by omega)
          have e3 : 2 ^ (k + 1) = 2 ^ k + 2 ^ k := by rw [Nat.pow_succ]; omega
          rw [Nat.testBit_lt_two_pow (by omega)]
          constructor
          · intro q
            cases q
          · intro q
            omega
    · rw [hbs_no h, ih]
      constructor
      · exact fun q => ⟨by omega, q.2⟩
      · intro q
        by_cases e : c = k
        · subst e
          exact (h q.2).elim
        · exact ⟨by omega, q.2⟩
theorem hbs_all (r : Nat → Prop) (k : Nat) : hbs r k = 2 ^ k - 1 ↔ ∀ c, c < k → r c := by
  constructor
  · intro h c hc
    have := (hbs_bit r k c).mp (by rw [h, Nat.testBit_two_pow_sub_one]; exact decide_eq_true hc)
    exact this.2
  · intro h
    apply Nat.eq_of_testBit_eq
    intro i
    rw [Nat.testBit_two_pow_sub_one]
    by_cases hi : i < k
    · rw [(hbs_bit r k i).mpr ⟨hi, h i hi⟩, decide_eq_true hi]
    · rw [decide_eq_false hi]
      cases hb : (hbs r k).testBit i with
      | false => rfl
      | true => exact (hi ((hbs_bit r k i).mp hb).1).elim
/-- of the w-th way to try: the number of unknown u -/
def co (mt w u : Nat) : Nat := tv (1 + w / mt / mt) (1 + w / mt % mt) (1 + w % mt) u
/-- the w-th way fits the clues of a set s -/
def pS (hc : Nat → Nat → Nat → Nat → Prop) (q mt s w : Nat) : Prop := ∀ c, c < q → s.testBit c = true → hc c (1 + w / mt / mt) (1 + w / mt % mt) (1 + w % mt)
theorem pS_all {hc : Nat → Nat → Nat → Nat → Prop} {q mt w : Nat} : pS hc q mt (2 ^ q - 1) w ↔ ∀ c, c < q → hc c (1 + w / mt / mt) (1 + w / mt % mt) (1 + w % mt) := by
  constructor
  · intro h c hc2
    exact h c hc2 (by rw [Nat.testBit_two_pow_sub_one]; exact decide_eq_true hc2)
  · intro h c hc2 _
    exact h c hc2
theorem cube {mt : Nat} (h : mt ≤ 40) : mt * mt * mt ≤ 64000 := Nat.mul_le_mul (Nat.mul_le_mul h h) h
theorem co_b {mt w u : Nat} (h1 : 1 ≤ mt) (hw : w < mt * mt * mt) : 1 ≤ co mt w u ∧ co mt w u ≤ mt := by
  have a : w / mt / mt < mt := by
    rw [Nat.div_div_eq_div_mul]
    exact Nat.div_lt_of_lt_mul hw
  have b : w / mt % mt < mt := Nat.mod_lt _ (by omega)
  have c : w % mt < mt := Nat.mod_lt _ (by omega)
  unfold co tv
  clear hw
  generalize w / mt / mt = A at *
  generalize w / mt % mt = B at *
  generalize w % mt = G at *
  by_cases e : u = 0
  · rw [if_pos e]; omega
  · rw [if_neg e]
    by_cases e2 : u = 1
    · rw [if_pos e2]; omega
    · rw [if_neg e2]; omega
theorem thE {r : Nat → Prop} {q : Nat} (hq : q ≤ 8) : nI (hbs r q) = nI (2 ^ q - 1) ↔ ∀ c, c < q → r c := by
  have h1 := hbs_lt r q
  have h2 := p256 hq
  rw [nI_eq (by omega) (by omega), hbs_all]
section RRL
variable {st : xSt} {n q mt : Nat} {hm nz bg : Nat → Nat} {wd : Nat → Nat → Int32} {d c v w : Nat} {κ : xK} {Q : Option Value → xSt → Prop}
theorem sX7_tryOut {P : xSt → Prop} (h75 : st.1 7 5 = nI mt) (h1 : 1 ≤ mt) (h40 : mt ≤ 40) (hw : w < 2 ^ 30) (hp : ∀ st' : xSt, (∀ p k, ¬ p = 33 → st'.1 p k = st.1 p k) → (∀ u, u < 3 → st'.1 33 u = nI (co mt w u)) → P st') : Ct d M_X7_tryOut [.ref 7, .int (nI w)] st (Qv P) := by
  have off : ∀ (s : xSt) (k : Nat) (v : Int32), (xup s 33 k v).1 7 5 = s.1 7 5 := fun s k v => xup_off (by omega)
  have m0 : ¬ nI mt = 0 := nI_ne0 (by omega) (by omega)
  have l1 : w / mt ≤ w := Nat.div_le_self _ _
  have d1 : nI w / nI mt = nI (w / mt) := pk_div (by omega) (by omega) (by omega)
  have d2 : nI (w / mt) / nI mt = nI (w / mt / mt) := pk_div (by omega) (by omega) (by omega)
  have d3 : nI (w / mt) - nI (w / mt / mt) * nI mt = nI (w / mt % mt) := by
    rw [← d2]
    exact pk_rem (by omega) (by omega) (by omega)
  have d4 : nI w - nI (w / mt) * nI mt = nI (w % mt) := by
    rw [← d1]
    exact pk_rem (by omega) (by omega) (by omega)
  have a1 : ∀ k, 1 + nI k = nI (1 + k) := fun k => nI_add 1 k
  refine eX7_tryOut _ _ ?_
  simp only [off, h75, c0, c1, c2, d1, d2, d3, d4, a1]
  refine ⟨m0, m0, m0, m0, m0, qv (hp _ (fun p k g => ?_) (fun u hu => ?_))⟩
  · rw [xup_off (by omega), xup_off (by omega), xup_off (by omega)]
  · have : u = 0 ∨ u = 1 ∨ u = 2 := by omega
    rcases this with rfl | rfl | rfl
    · rw [xup_off (by omega), xup_off (by omega), xup_eq]
      rfl
    · rw [xup_off (by omega), xup_eq]
      rfl
    · rw [xup_eq]
      rfl
theorem lX7_holding {x y z : Nat} (C : Cx κ M_X7_holding (d + 5)) (Z : xR κ Q) (K : RelC st n hm nz bg wd) (KR : RelR st n q mt) (hx : ∀ u, u < 3 → st.1 33 u = nI (tv x y z u) ∧ 1 ≤ tv x y z u ∧ tv x y z u ≤ 40) (hq : Q (some (.int (nI (hbs (fun c => hcD (st.1 32) hm nz bg wd c x y z) q)))) st) : ∀ (f c : Nat), c + f = q → X κ 4 [(0, .ref 7), (1, .int (nI (hbs (fun c => hcD (st.1 32) hm nz bg wd c x y z) c))), (2, .int (nI c))] [] st
  | 0, c, e => by
    have h8 := KR.1
    have ec : c = q := by omega
    subst ec
    refine bX7_holding_4 C Z _ _ _ (brT ?_ hq)
    rw [KR.2.2.2.1.2.1]
    exact nI_le (Nat.le_refl _) (by omega)
  | f + 1, c, e => by
    have h8 := KR.1
    have hl := hbs_lt (fun c => hcD (st.1 32) hm nz bg wd c x y z) c
    have hp := p256 (k := c) (by omega)
    refine bX7_holding_4 C Z _ _ _ (brF ?_ (sX7_holds K KR (by omega) hx (fun g => f1 ?_) (fun g => f0 ?_)))
    · rw [KR.2.2.2.1.2.1]
      exact nI_ge (by omega) (by omega)
    · have ob := or_bit ⟨c, by omega⟩ ⟨hbs (fun c => hcD (st.1 32) hm nz bg wd c x y z) c, by omega⟩ hl
      simp only at ob
      rw [ob, nI_1, ← hbs_yes (r := fun c => hcD (st.1 32) hm nz bg wd c x y z) g]
      exact lX7_holding C Z K KR hx hq f (c + 1) (by omega)
    · rw [or_z, nI_1, ← hbs_no (r := fun c => hcD (st.1 32) hm nz bg wd c x y z) g]
      exact lX7_holding C Z K KR hx hq f (c + 1) (by omega)
/-- one way tried, and the clues that hold there -/
theorem sTH {st0 : xSt} {F : Int32 → xSt → Prop} (K0 : RelC st0 n hm nz bg wd) (KR0 : RelR st0 n q mt) (hs : Sm st0 st) (hw : w < mt * mt * mt) (hp : ∀ st', Sm st0 st' → (∀ u, u < 3 → st'.1 33 u = nI (co mt w u)) → st'.1 34 = st.1 34 → F (nI (hbs (fun c => hcD (st0.1 32) hm nz bg wd c (1 + w / mt / mt) (1 + w / mt % mt) (1 + w % mt)) q)) st') : Ct (d + 5) M_X7_tryOut [.ref 7, .int (nI w)] st (Qv fun s1 => Ct (d + 5) M_X7_holding [.ref 7] s1 (Qi fun v s => F v s)) := by
  have KR := KR0.sm hs
  have hc := cube KR0.2.2.1
  refine sX7_tryOut KR.2.2.2.1.2.2.2 KR0.2.1 KR0.2.2.1 (by omega) (fun s1 fr ht => ?_)
  have hs1 : Sm st s1 := fun p k g => fr p k (by unfold inC inS inR inD inL inT at g; omega)
  have hs2 := hs.trans hs1
  have b := fun u => co_b (u := u) KR0.2.1 hw
  have h40 := KR0.2.2.1
  have e := hs2.d32
  have r := hp s1 hs2 ht (funext fun k => fr 34 k (by omega))
  rw [← e] at r
  refine eX7_holding _ (fun κ C Z => lX7_holding (d := d) C Z (K0.sm hs2) (KR0.sm hs2) (fun u hu => ⟨ht u hu, (b u).1, ?_⟩) (qi r) q 0 (by omega))
  exact Nat.le_trans (b u).2 h40
theorem lX7_solNow {st0 : xSt} (C : Cx κ M_X7_solutionsNow (d + 6)) (Z : xR κ Q) (K0 : RelC st0 n hm nz bg wd) (KR0 : RelR st0 n q mt) (hq : ∀ st', Sm st0 st' → Q (some (.int (nI (cn (pS (hcD (st0.1 32) hm nz bg wd) q mt (2 ^ q - 1)) (mt * mt * mt))))) st') : ∀ (f w : Nat) (st : xSt), w + f = mt * mt * mt → Sm st0 st → X κ 4 [(0, .ref 7), (1, .int (nI (cn (pS (hcD (st0.1 32) hm nz bg wd) q mt (2 ^ q - 1)) w))), (2, .int (nI w))] [] st
  | 0, w, st, e, hs => by
    have hc := cube KR0.2.2.1
    have ew : w = mt * mt * mt := by omega
    refine bX7_solutionsNow_4 C Z _ _ _ ?_
    rw [(KR0.sm hs).2.2.2.1.2.2.2, pk_mul, pk_mul, ew]
    exact brT (nI_le (Nat.le_refl _) (by omega)) (hq st hs)
  | f + 1, w, st, e, hs => by
    have hc := cube KR0.2.2.1
    refine bX7_solutionsNow_4 C Z _ _ _ ?_
    rw [(KR0.sm hs).2.2.2.1.2.2.2, pk_mul, pk_mul]
    refine brF (nI_ge (by omega) (by omega)) (sTH K0 KR0 hs (by omega) (fun st' hs' ht _ => ?_))
    have h8 := KR0.1
    have eq2 := (all_q ⟨q, by omega⟩).1
    simp only at eq2
    rw [(KR0.sm hs').2.2.2.1.2.1, eq2]
    by_cases g : pS (hcD (st0.1 32) hm nz bg wd) q mt (2 ^ q - 1) w
    · refine bnF ((thE h8).mpr (pS_all.mp g)) ?_
      rw [nI_1, nI_1, ← cn_yes g]
      exact lX7_solNow C Z K0 KR0 hq f (w + 1) st' (by omega) hs'
    · refine bnT (fun z => g (pS_all.mpr ((thE h8).mp z))) ?_
      rw [i_add0, nI_1, ← cn_no g]
      exact lX7_solNow C Z K0 KR0 hq f (w + 1) st' (by omega) hs'
theorem sX7_solNow {st0 : xSt} {P : Int32 → xSt → Prop} (K0 : RelC st0 n hm nz bg wd) (KR0 : RelR st0 n q mt) (hs : Sm st0 st) (hp : ∀ st', Sm st0 st' → P (nI (cn (pS (hcD (st0.1 32) hm nz bg wd) q mt (2 ^ q - 1)) (mt * mt * mt))) st') : Ct (d + 6) M_X7_solutionsNow [.ref 7] st (Qi P) := eX7_solutionsNow _ (fun κ C Z => lX7_solNow C Z K0 KR0 (fun st' h => qi (hp st' h)) (mt * mt * mt) 0 st (by omega) hs)
theorem lX7_solution {st0 : xSt} {i0 u : Nat} (C : Cx κ M_X7_solution (d + 6)) (Z : xR κ Q) (K0 : RelC st0 n hm nz bg wd) (KR0 : RelR st0 n q mt) (hi : i0 < 2 ^ 31) (hu : u < 3) (hy : ∀ w st', w < mt * mt * mt → pS (hcD (st0.1 32) hm nz bg wd) q mt (2 ^ q - 1) w → cn (pS (hcD (st0.1 32) hm nz bg wd) q mt (2 ^ q - 1)) w = i0 → Sm st0 st' → Q (some (.int (nI (co mt w u)))) st') (hn : cn (pS (hcD (st0.1 32) hm nz bg wd) q mt (2 ^ q - 1)) (mt * mt * mt) ≤ i0 → ∀ st', Sm st0 st' → Q (some (.int (-1))) st') : ∀ (f w r : Nat) (st : xSt), w + f = mt * mt * mt → r + cn (pS (hcD (st0.1 32) hm nz bg wd) q mt (2 ^ q - 1)) w = i0 → Sm st0 st → X κ 19 [(0, .ref 7), (2, .int (nI u)), (3, .int (nI r)), (4, .int (nI w))] [] st
  | 0, w, r, st, e, e2, hs => by
    have hc := cube KR0.2.2.1
    have ew : w = mt * mt * mt := by omega
    refine bX7_solution_19 C Z _ _ _ _ ?_
    rw [(KR0.sm hs).2.2.2.1.2.2.2, pk_mul, pk_mul, ew]
    rw [ew] at e2
    exact brT (nI_le (Nat.le_refl _) (by omega)) (hn (by omega) st hs)
  | f + 1, w, r, st, e, e2, hs => by
    have hc := cube KR0.2.2.1
    refine bX7_solution_19 C Z _ _ _ _ ?_
    rw [(KR0.sm hs).2.2.2.1.2.2.2, pk_mul, pk_mul]
    refine brF (nI_ge (by omega) (by omega)) (sTH K0 KR0 hs (by omega) (fun st' hs' ht _ => ?_))
    have h8 := KR0.1
    have eq2 := (all_q ⟨q, by omega⟩).1
    simp only at eq2
    rw [(KR0.sm hs').2.2.2.1.2.1, eq2]
    by_cases g : pS (hcD (st0.1 32) hm nz bg wd) q mt (2 ^ q - 1) w
    · refine bnF ((thE h8).mpr (pS_all.mp g)) ?_
      cases r with
      | zero =>
        refine bnF rfl ⟨pk_in u 3 hu, ?_⟩
        rw [nI_clamp (n := u) (by omega), ht u hu]
        exact hy w st' (by omega) g (by omega) hs'
      | succ r =>
        refine bnT (nI_ne0 (by omega) (by omega)) ?_
        rw [pk_m1, nI_1]
        exact lX7_solution C Z K0 KR0 hi hu hy hn f (w + 1) r st' (by omega) (by rw [cn_yes g]; omega) hs'
    · refine bnT (fun z => g (pS_all.mpr ((thE h8).mp z))) ?_
      rw [nI_1]
      exact lX7_solution C Z K0 KR0 hi hu hy hn f (w + 1) r st' (by omega) (by rw [cn_no g]; omega) hs'
/-- what was found of unknown u up to way w -/
def suF (p : Nat → Prop) (mt u w : Nat) (x : Int32) : Prop := (x = -3 ∧ ∀ w', w' < w → ¬ p w') ∨ (∃ a, x = nI a ∧ 1 ≤ a ∧ a ≤ 40 ∧ (∃ w', w' < w ∧ p w' ∧ co mt w' u = a) ∧ ∀ w', w' < w → p w' → co mt w' u = a) ∨ (x = -1 ∧ ∃ w1 w2, w1 < w ∧ w2 < w ∧ p w1 ∧ p w2 ∧ co mt w1 u ≠ co mt w2 u)
theorem suF_no {p : Nat → Prop} {mt u w : Nat} {x : Int32} (h : suF p mt u w x) (g : ¬ p w) : suF p mt u (w + 1) x := by
  have k : ∀ w', w' < w + 1 → p w' → w' < w := fun w' h1 h2 => by
    by_cases e : w' = w
    · rw [e] at h2
      exact (g h2).elim
    · omega
  rcases h with ⟨e, h⟩ | ⟨a, e, h1, h2, ⟨w', h3, h4, h5⟩, h6⟩ | ⟨e, w1, w2, h1, h2, h3⟩
  · exact Or.inl ⟨e, fun w' h1 h2 => h w' (k w' h1 h2) h2⟩
  · exact Or.inr (Or.inl ⟨a, e, h1, h2, ⟨w', by omega, h4, h5⟩, fun w2 h7 h8 => h6 w2 (k w2 h7 h8) h8⟩)
  · exact Or.inr (Or.inr ⟨e, w1, w2, by omega, by omega, h3⟩)
theorem lX7_sure {st0 : xSt} {u : Nat} (C : Cx κ M_X7_sure (d + 6)) (Z : xR κ Q) (K0 : RelC st0 n hm nz bg wd) (KR0 : RelR st0 n q mt) (hu : u < 3) (hq : ∀ x st', suF (pS (hcD (st0.1 32) hm nz bg wd) q mt (2 ^ q - 1)) mt u (mt * mt * mt) x → Sm st0 st' → Q (some (.int x)) st') : ∀ (f w : Nat) (x : Int32) (st : xSt), w + f = mt * mt * mt → suF (pS (hcD (st0.1 32) hm nz bg wd) q mt (2 ^ q - 1)) mt u w x → Sm st0 st → X κ 15 [(0, .ref 7), (1, .int (nI u)), (2, .int x), (3, .int (nI w))] [] st
  | 0, w, x, st, e, hx, hs => by
    have hc := cube KR0.2.2.1
    have ew : w = mt * mt * mt := by omega
    refine bX7_sure_15 C Z _ _ _ _ ?_
    rw [(KR0.sm hs).2.2.2.1.2.2.2, pk_mul, pk_mul, ew]
    rw [ew] at hx
    exact brT (nI_le (Nat.le_refl _) (by omega)) (hq x st hx hs)
  | f + 1, w, x, st, e, hx, hs => by
    have hc := cube KR0.2.2.1
    have h40 := KR0.2.2.1
    refine bX7_sure_15 C Z _ _ _ _ ?_
    rw [(KR0.sm hs).2.2.2.1.2.2.2, pk_mul, pk_mul]
    refine brF (nI_ge (by omega) (by omega)) (sTH K0 KR0 hs (by omega) (fun st' hs' ht _ => ?_))
    have h8 := KR0.1
    have eq2 := (all_q ⟨q, by omega⟩).1
    simp only at eq2
    have cb := co_b (u := u) KR0.2.1 (show w < mt * mt * mt by omega)
    rw [(KR0.sm hs').2.2.2.1.2.1, eq2, nI_clamp (n := u) (by omega), ht u hu, nI_1]
    by_cases g : pS (hcD (st0.1 32) hm nz bg wd) q mt (2 ^ q - 1) w
    · refine bnF ((thE h8).mpr (pS_all.mp g)) ?_
      have go := fun y hy => lX7_sure C Z K0 KR0 hu hq f (w + 1) y st' (by omega) hy hs'
      rcases hx with ⟨ex, h⟩ | ⟨a, ex, h1, h2, ⟨w', h3, h4, h5⟩, h6⟩ | ⟨ex, w1, w2, h1, h2, h3, h4, h5⟩
      · subst ex
        refine brT rfl ⟨pk_in u 3 hu, go _ (Or.inr (Or.inl ⟨co mt w u, rfl, cb.1, by omega, ⟨w, by omega, g, rfl⟩, fun w' h7 h8 => ?_⟩))⟩
        by_cases ew : w' = w
        · rw [ew]
        · exact (h w' (by omega) h8).elim
      · subst ex
        refine brF (fun z => ?_) ⟨pk_in u 3 hu, ?_⟩
        · have := congrArg Int32.toInt z
          rw [nI_toInt (by omega)] at this
          have e3 : (-3 : Int32).toInt = -3 := by decide
          omega
        · by_cases ea : a = co mt w u
          · refine bnF (by rw [ea]) ⟨pk_in u 3 hu, go _ (Or.inr (Or.inl ⟨a, by rw [ea], h1, h2, ⟨w', by omega, h4, h5⟩, fun w2 h7 h8 => ?_⟩))⟩
            by_cases ew : w2 = w
            · rw [ew, ea]
            · exact h6 w2 (by omega) h8
          · refine bnT (fun z => ea ((nI_eq (by omega) (by omega)).mp z)) (go _ (Or.inr (Or.inr ⟨rfl, w', w, by omega, by omega, h4, g, fun z => ea (by omega)⟩)))
      · subst ex
        refine brF (by decide) ⟨pk_in u 3 hu, bnT (fun z => ?_) (go _ (Or.inr (Or.inr ⟨rfl, w1, w2, by omega, by omega, h3, h4, h5⟩)))⟩
        exact nI_m1 (by omega) z.symm
    · refine bnT (fun z => g (pS_all.mpr ((thE h8).mp z))) ?_
      exact lX7_sure C Z K0 KR0 hu hq f (w + 1) x st' (by omega) (suF_no hx g) hs'
end RRL
