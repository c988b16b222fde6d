/-! quarrel -/
def w1 (a : Int32) : Int32 := a - ((((a : Int32).toUInt32 >>> ((1 : Int32).toUInt32 &&& Int32.toUInt32 31)).toInt32) &&& 1431655765)
def w2 (b : Int32) : Int32 := (b &&& 858993459) + ((((b : Int32).toUInt32 >>> ((2 : Int32).toUInt32 &&& Int32.toUInt32 31)).toInt32) &&& 858993459)
def w3 (b : Int32) : Int32 := (b + (((b : Int32).toUInt32 >>> ((4 : Int32).toUInt32 &&& Int32.toUInt32 31)).toInt32)) &&& 252645135
def w4 (b : Int32) : Int32 := b + (((b : Int32).toUInt32 >>> ((8 : Int32).toUInt32 &&& Int32.toUInt32 31)).toInt32)
def w5 (b : Int32) : Int32 := b + (((b : Int32).toUInt32 >>> ((16 : Int32).toUInt32 &&& Int32.toUInt32 31)).toInt32)
def bc32 (a : Int32) : Int32 := w5 (w4 (w3 (w2 (w1 a)))) &&& 63
theorem bc32_is : ∀ t : Fin 256, bc32 (nI t.1) = nI (pcb t.1 8) := by decide +kernel
theorem ones_b : ∀ t : Fin 256, ∀ c : Fin 8, (((nI t.1 : Int32) >>> ((nI c.1 : Int32) &&& 31)) &&& 1) = nI (if t.1.testBit c.1 = true then 1 else 0) := by decide +kernel
theorem pcb_all : ∀ q : Fin 9, pcb (2 ^ q.1 - 1) 8 = q.1 := by decide +kernel
theorem pcb_less : ∀ q : Fin 9, ∀ t : Fin 256, t.1 < 2 ^ q.1 - 1 → pcb t.1 8 < q.1 := by decide +kernel
theorem pcb_le8 : ∀ t : Fin 256, pcb t.1 8 ≤ 8 := by decide +kernel
theorem pcb_p : ∀ t : Fin 256, t.1 = 0 ∨ 1 ≤ pcb t.1 8 := by decide +kernel
theorem pcb_pos (t : Nat) (h : 1 ≤ t) (h2 : t < 256) : 1 ≤ pcb t 8 := (pcb_p ⟨t, h2⟩).elim (fun e => by simp only at e; omega) id
theorem nb0 : vp_nar .boolean 0 = 0 := by decide
theorem nb1 : vp_nar .boolean 1 = 1 := by decide
theorem pk_land {a b : Nat} (ha : a < 2 ^ 31) (hb : b < 2 ^ 31) : nI a &&& nI b = nI (a &&& b) := by
  apply Int32.toBitVec_inj.mp
  apply BitVec.eq_of_toNat_eq
  have hl : a &&& b ≤ a := Nat.and_le_left
  rw [Int32.toBitVec_and, BitVec.toNat_and, pk_tn (by omega), pk_tn (by omega), pk_tn (by omega)]
/-- no way fits the clues of t -/
def NS (hc : Nat → Nat → Nat → Nat → Prop) (q mt t : Nat) : Prop := ∀ w, w < mt * mt * mt → ¬ pS hc q mt t w
/-- of the sets without a solution: fewest clues, then the least -/
def LM (ns : Nat → Prop) (q b : Nat) : Prop := 1 ≤ b ∧ b < 2 ^ q ∧ ns b ∧ ∀ t, 1 ≤ t → t < 2 ^ q → ns t → (pcb b 8 < pcb t 8 ∨ (pcb b 8 = pcb t 8 ∧ b ≤ t))
theorem LM_one {ns : Nat → Prop} {q a b : Nat} (ha : LM ns q a) (hb : LM ns q b) : a = b := by
  have h1 := ha.2.2.2 b hb.1 hb.2.1 hb.2.2.1
  have h2 := hb.2.2.2 a ha.1 ha.2.1 ha.2.2.1
  omega
def Bt (ns : Nat → Prop) (t b : Nat) : Prop := (b = 0 ∧ ∀ t', 1 ≤ t' → t' < t → ¬ ns t') ∨ (1 ≤ b ∧ b < t ∧ ns b ∧ ∀ t', 1 ≤ t' → t' < t → ns t' → (pcb b 8 < pcb t' 8 ∨ (pcb b 8 = pcb t' 8 ∧ b ≤ t')))
theorem Bt_no {ns : Nat → Prop} {t b : Nat} (h : Bt ns t b) (g : ¬ ns t) : Bt ns (t + 1) b := by
  have k : ∀ t', t' < t + 1 → ns t' → t' < t := fun t' h1 h2 => by
    by_cases e : t' = t
    · rw [e] at h2
      exact (g h2).elim
    · omega
  rcases h with ⟨e, h⟩ | ⟨h1, h2, h3, h4⟩
  · exact Or.inl ⟨e, fun t' a b c => h t' a (k t' b c) c⟩
  · exact Or.inr ⟨h1, by omega, h3, fun t' a b c => h4 t' a (k t' b c) c⟩
theorem Bt_first {ns : Nat → Prop} {t : Nat} (h : Bt ns t 0) (ht : 1 ≤ t) (g : ns t) : Bt ns (t + 1) t := by
  rcases h with ⟨-, h⟩ | ⟨h1, -⟩
  · refine Or.inr ⟨ht, by omega, g, fun t' a b c => ?_⟩
    by_cases e : t' = t
    · rw [e]
      exact Or.inr ⟨rfl, Nat.le_refl _⟩
    · exact (h t' a (by omega) c).elim
  · omega
theorem Bt_keep {ns : Nat → Prop} {t b : Nat} (h : Bt ns t b) (hb : 1 ≤ b) (g : pcb b 8 ≤ pcb t 8) : Bt ns (t + 1) b := by
  rcases h with ⟨e, -⟩ | ⟨h1, h2, h3, h4⟩
  · omega
  · refine Or.inr ⟨h1, by omega, h3, fun t' a b' c => ?_⟩
    by_cases e : t' = t
    · rw [e]
      omega
    · exact h4 t' a (by omega) c
theorem Bt_new {ns : Nat → Prop} {t b : Nat} (h : Bt ns t b) (hb : 1 ≤ b) (ht : 1 ≤ t) (g : pcb t 8 < pcb b 8) (gt : ns t) : Bt ns (t + 1) t := by
  rcases h with ⟨e, -⟩ | ⟨h1, h2, h3, h4⟩
  · omega
  · refine Or.inr ⟨ht, by omega, gt, fun t' a b' c => ?_⟩
    by_cases e : t' = t
    · rw [e]
      exact Or.inr ⟨rfl, Nat.le_refl _⟩
    · have := h4 t' a (by omega) c
      omega
section RQ1
variable {st st0 : xSt} {n q mt : Nat} {hm nz bg : Nat → Nat} {wd : Nat → Nat → Int32} {d s : Nat} {P : Int32 → xSt → Prop} {κ : xK} {Q : Option Value → xSt → Prop}
theorem sJ6_bitCount {t : Nat} (ht : t < 256) (h : P (nI (pcb t 8)) st) : Ct d M_J6_bitCount_0f7a4 [.int (nI t)] st (Qi P) := by
  refine eJ6_bitCount_0f7a4 (nI t) st (qi ?_)
  have := bc32_is ⟨t, ht⟩
  simp only at this
  rw [← this] at h
  exact h
theorem sX3_hasSol {aw : Nat → Nat → Prop} (eaw : aw = awD (st0.1 32) hm nz bg wd) (K0 : RelC st0 n hm nz bg wd) (KR0 : RelR st0 n q mt) (hs : Sm st0 st) (hA : ∀ c, c < q → AL st aw c mt) (h256 : s < 256) (h1 : ¬ NS (hcD (st0.1 32) hm nz bg wd) q mt s → ∀ st', Sm st0 st' → (∀ c, c < q → AL st' aw c mt) → P 1 st') (h0 : NS (hcD (st0.1 32) hm nz bg wd) q mt s → ∀ st', Sm st0 st' → (∀ c, c < q → AL st' aw c mt) → P 0 st') : Ct (d + 4) M_X3_hasSolution [.ref 3, .int (nI s)] st (Qi P) := by
  refine eX3_hasSolution _ _ (sX3_search (a2 := 0) eaw rfl K0 KR0 hs hA h256 (Or.inr ⟨0, rfl, by omega, Nat.le_refl _⟩) (fun s2 I hw => ?_) (fun s2 w i e hi h3 h4 h5 h6 h6b h7 ⟨t, h8, h9, h10⟩ => ?_))
  · obtain ⟨i, e, hi2, h3⟩ := hw.elim (fun z => absurd z (by decide)) id
    have e2 := (nI_eq (a := 0) (by omega) hi2).mp e
    rw [← e2] at h3
    rw [I.2.2.1]
    have e3 : cn (pS (hcD (st0.1 32) hm nz bg wd) q mt s) (mt * mt * mt) = 0 := by omega
    refine brT (by rw [e3]; decide) (qi (h0 (fun w hw2 hp => ?_) s2 I.1 I.2.1))
    have := cn_pos hp hw2
    omega
  · rw [h8]
    exact brF (nI_nle (by omega) (by omega)) (qi (h1 (fun z => z w h3 h4) s2 h6 h6b))
theorem lX3_lw33 {aw : Nat → Nat → Prop} (eaw : aw = awD (st0.1 32) hm nz bg wd) (C : Cx κ M_X3_leastWithout (d + 5)) (Z : xR κ Q) (K0 : RelC st0 n hm nz bg wd) (KR0 : RelR st0 n q mt) {k : Nat} (hk1 : 1 ≤ k) (hkq : k < q) (hn : ∀ t, 1 ≤ t → t < 2 ^ q - 1 → pcb t 8 < k → ¬ NS (hcD (st0.1 32) hm nz bg wd) q mt t) (hq : ∀ b st', LM (NS (hcD (st0.1 32) hm nz bg wd) q mt) q b → Sm st0 st' → Q (some (.int (nI b))) st')
    (k22 : ∀ st', Sm st0 st' → (∀ c, c < q → AL st' aw c mt) → (∀ t, 1 ≤ t → t < 2 ^ q - 1 → pcb t 8 < k + 1 → ¬ NS (hcD (st0.1 32) hm nz bg wd) q mt t) → X κ 22 [(0, .ref 3), (2, .int (nI (2 ^ q - 1))), (3, .int (nI (k + 1)))] [] st') : ∀ (f t : Nat) (st : xSt), 1 ≤ t → t + f = 2 ^ q - 1 → Sm st0 st → (∀ c, c < q → AL st aw c mt) → (∀ t', 1 ≤ t' → t' < t → pcb t' 8 = k → ¬ NS (hcD (st0.1 32) hm nz bg wd) q mt t') → X κ 33 [(0, .ref 3), (2, .int (nI (2 ^ q - 1))), (3, .int (nI k)), (4, .int (nI t))] [] st
  | 0, t, st, ht, e, hs, hA, h => by
    have h256 := all256 KR0.1
    refine bX3_leastWithout_33 C Z _ _ _ _ (brT (nI_le (by omega) (by omega)) ?_)
    rw [nI_1]
    exact k22 st hs hA (fun t' a b c => by
      by_cases e2 : pcb t' 8 = k
      · exact h t' a (by omega) e2
      · exact hn t' a b (by omega))
  | f + 1, t, st, ht, e, hs, hA, h => by
    have h256 := all256 KR0.1
    have h8 := KR0.1
    have hp8 := pcb_le8 ⟨t, by omega⟩
    simp only at hp8
    have next : ∀ st', Sm st0 st' → (∀ c, c < q → AL st' aw c mt) → (pcb t 8 = k → ¬ NS (hcD (st0.1 32) hm nz bg wd) q mt t) → X κ 33 [(0, .ref 3), (2, .int (nI (2 ^ q - 1))), (3, .int (nI k)), (4, .int (nI (t + 1)))] [] st' := fun st' a b c => lX3_lw33 eaw C Z K0 KR0 hk1 hkq hn hq k22 f (t + 1) st' (by omega) (by omega) a b (fun t' g1 g2 g3 => by
      by_cases e2 : t' = t
      · rw [e2] at g3 ⊢
        exact c g3
      · exact h t' g1 (by omega) g3)
    refine bX3_leastWithout_33 C Z _ _ _ _ ?_
    simp only [nI_1]
    refine brF (nI_ge (by omega) (by omega)) (sJ6_bitCount (by omega) ?_)
    by_cases ek : pcb t 8 = k
    · refine bnF (by rw [ek]) (sX3_hasSol (d := d) eaw K0 KR0 hs hA (by omega) (fun g st' a b => g1 (next st' a b (fun _ => g))) (fun g st' a b => g0 (hq t st' ⟨ht, by omega, g, fun t' g1 g2 g3 => ?_⟩ a)))
      by_cases ea : t' = 2 ^ q - 1
      · have := pcb_all ⟨q, by omega⟩
        simp only at this
        rw [ea, this]
        omega
      · have l1 : ¬ pcb t' 8 < k := fun z => hn t' g1 (by omega) z g3
        by_cases e2 : pcb t' 8 = k
        · refine Or.inr ⟨by omega, Nat.le_of_not_lt (fun z => h t' g1 z e2 g3)⟩
        · omega
    · exact bnT (fun z => ek ((nI_eq (by omega) (by omega)).mp z)) (next st hs hA (fun z => (ek z).elim))
theorem lX3_lw22 {aw : Nat → Nat → Prop} (eaw : aw = awD (st0.1 32) hm nz bg wd) (C : Cx κ M_X3_leastWithout (d + 5)) (Z : xR κ Q) (K0 : RelC st0 n hm nz bg wd) (KR0 : RelR st0 n q mt) (hq1 : 1 ≤ q) (hna : NS (hcD (st0.1 32) hm nz bg wd) q mt (2 ^ q - 1)) (hq : ∀ b st', LM (NS (hcD (st0.1 32) hm nz bg wd) q mt) q b → Sm st0 st' → Q (some (.int (nI b))) st') : ∀ (f k : Nat) (st : xSt), 1 ≤ k → k + f = q → Sm st0 st → (∀ c, c < q → AL st aw c mt) → (∀ t, 1 ≤ t → t < 2 ^ q - 1 → pcb t 8 < k → ¬ NS (hcD (st0.1 32) hm nz bg wd) q mt t) → X κ 22 [(0, .ref 3), (2, .int (nI (2 ^ q - 1))), (3, .int (nI k))] [] st
  | 0, k, st, hk, e, hs, hA, hn => by
    have h8 := KR0.1
    have h256 := all256 KR0.1
    have h2 : 2 ≤ 2 ^ q := Nat.pow_le_pow_right (n := 2) (i := 1) (by decide) hq1
    refine bX3_leastWithout_22 C Z _ _ _ ?_
    rw [(KR0.sm hs).2.2.2.1.1]
    refine brT (nI_le (by omega) (by omega)) (hq _ st ⟨by omega, by omega, hna, fun t g1 g2 g3 => ?_⟩ hs)
    by_cases ea : t = 2 ^ q - 1
    · rw [ea]
      exact Or.inr ⟨rfl, Nat.le_refl _⟩
    · have := pcb_less ⟨q, by omega⟩ ⟨t, by omega⟩ (by simp only; omega)
      simp only at this
      exact (hn t g1 (by omega) (by omega) g3).elim
  | f + 1, k, st, hk, e, hs, hA, hn => by
    have h8 := KR0.1
    have h2 : 2 ≤ 2 ^ q := Nat.pow_le_pow_right (n := 2) (i := 1) (by decide) hq1
    refine bX3_leastWithout_22 C Z _ _ _ ?_
    rw [(KR0.sm hs).2.2.2.1.1]
    refine brF (nI_ge (by omega) (by omega)) (lX3_lw33 eaw C Z K0 KR0 hk (by omega) hn hq (fun st' a b c => lX3_lw22 eaw C Z K0 KR0 hq1 hna hq f (k + 1) st' (by omega) (by omega) a b c) (2 ^ q - 2) 1 st (by omega) (by omega) hs hA (fun t' g1 g2 => by omega))
theorem sX3_least (K0 : RelC st0 n hm nz bg wd) (KR0 : RelR st0 n q mt) (hs : Sm st0 st) (h0 : ¬ NS (hcD (st0.1 32) hm nz bg wd) q mt (2 ^ q - 1) → ∀ st', Sm st0 st' → P 0 st') (h1 : NS (hcD (st0.1 32) hm nz bg wd) q mt (2 ^ q - 1) → 1 ≤ q → ∀ b st', LM (NS (hcD (st0.1 32) hm nz bg wd) q mt) q b → Sm st0 st' → P (nI b) st') : Ct (d + 6) M_X3_leastWithout [.ref 3, .ref 2] st (Qi P) := by
  refine eX3_leastWithout _ (fun κ C Z => sX3_prepare K0 KR0 hs (fun s1 g1 hA => sX3_allClues (KR0.sm g1).2.2.2.1.1 KR0.1 (sX3_hasSol (d := d + 1) rfl K0 KR0 g1 hA (all256 KR0.1) (fun g st' a b => f1 (qi (h0 g st' a))) (fun g st' a b => f0 ?_))))
  have hq1 : 1 ≤ q := by
    rcases Nat.eq_zero_or_pos q with e | e
    · have hm1 := KR0.2.1
      exact (g 0 (Nat.mul_pos (Nat.mul_pos hm1 hm1) hm1) (fun c hc => by omega)).elim
    · exact e
  exact lX3_lw22 (d := d + 1) rfl C Z K0 KR0 hq1 g (fun b' st2 hl hs2 => qi (h1 g hq1 b' st2 hl hs2)) (q - 1) 1 st' (by omega) (by omega) a b (fun t g1 g2 g3 => by
    have := pcb_pos t g1 (by have := all256 KR0.1; omega)
    omega)
end RQ1
