/-! quarrel, the reference -/
section RQ2
variable {st st0 : xSt} {n q mt : Nat} {hm nz bg : Nat → Nat} {wd : Nat → Nat → Int32} {d s t : Nat} {P : Int32 → xSt → Prop} {κ : xK} {Q : Option Value → xSt → Prop}
theorem lX7_ones {t : Nat} (C : Cx κ M_X7_ones d) (Z : xR κ Q) (ht : t < 256) (hq : Q (some (.int (nI (pcb t 8)))) st) : ∀ (f k : Nat), k + f = 8 → X κ 4 [(0, .int (nI t)), (1, .int (nI (pcb t k))), (2, .int (nI k))] [] st
  | 0, k, e => by
    have ek : k = 8 := by omega
    rw [ek]
    exact bX7_ones_4 C Z _ _ _ _ (brT (by decide) hq)
  | f + 1, k, e => by
    refine bX7_ones_4 C Z _ _ _ _ (brF (nI_ge (a := k) (b := 8) (by omega) (by omega)) ?_)
    have := ones_b ⟨t, ht⟩ ⟨k, by omega⟩
    simp only at this
    rw [this, nI_add, nI_1, ← pcb_s]
    exact lX7_ones C Z ht hq f (k + 1) (by omega)
theorem sX7_ones {t : Nat} (ht : t < 256) (hp : P (nI (pcb t 8)) st) : Ct d M_X7_ones [.int (nI t)] st (Qi P) := eX7_ones _ _ (fun κ C Z => lX7_ones C Z ht (qi hp) 8 0 (by omega))
/-- the clues that hold of way w, as a set -/
noncomputable def hb (hc : Nat → Nat → Nat → Nat → Prop) (q mt w : Nat) : Nat := hbs (fun c => hc c (1 + w / mt / mt) (1 + w / mt % mt) (1 + w % mt)) q
def cI (st : xSt) (t m : Nat) (x : Int32) : Prop := (x = 0 ∧ ∀ m', m' < m → ¬ (m' &&& t = t ∧ ¬ st.1 34 m' = 0)) ∨ (x = 1 ∧ ∃ m', m' < m ∧ m' &&& t = t ∧ ¬ st.1 34 m' = 0)
theorem NS_ch {hc : Nat → Nat → Nat → Nat → Prop} (hq : q ≤ 8) (ht : t < 2 ^ q) (h34 : ∀ m, m < 256 → (¬ st.1 34 m = 0 ↔ ∃ w, w < mt * mt * mt ∧ hb hc q mt w = m)) : NS hc q mt t ↔ ∀ m, m < 2 ^ q → ¬ (m &&& t = t ∧ ¬ st.1 34 m = 0) := by
  have h256 := p256 hq
  constructor
  · rintro hn m hm ⟨e, g⟩
    obtain ⟨w, hw, ew⟩ := (h34 m (by omega)).mp g
    refine hn w hw (fun c hc2 hb2 => ?_)
    have e2 : (m &&& t).testBit c = true := by rw [e]; exact hb2
    rw [Nat.testBit_and, Bool.and_eq_true] at e2
    have := e2.1
    rw [← ew] at this
    exact ((hbs_bit _ q c).mp this).2
  · intro h w hw hp
    have hl : hb hc q mt w < 2 ^ q := hbs_lt _ q
    refine h (hb hc q mt w) hl ⟨?_, (h34 _ (by omega)).mpr ⟨w, hw, rfl⟩⟩
    apply Nat.eq_of_testBit_eq
    intro i
    rw [Nat.testBit_and]
    cases hti : t.testBit i with
    | false => rw [Bool.and_false]
    | true =>
      have hiq : i < q := Nat.lt_of_not_le (fun z => by
        have : t < 2 ^ i := Nat.lt_of_lt_of_le ht (Nat.pow_le_pow_right (n := 2) (by decide) z)
        rw [Nat.testBit_lt_two_pow this] at hti
        cases hti)
      have hbt : (hb hc q mt w).testBit i = true := (hbs_bit (fun c => hc c (1 + w / mt / mt) (1 + w / mt % mt) (1 + w % mt)) q i).mpr ⟨hiq, hp i hiq hti⟩
      rw [hbt]
      rfl
theorem lX7_q82 {hc : Nat → Nat → Nat → Nat → Prop} {b : Nat} (C : Cx κ M_X7_quarrel (d + 6)) (Z : xR κ Q) (KR : RelR st n q mt) (h34 : ∀ m, m < 256 → (¬ st.1 34 m = 0 ↔ ∃ w, w < mt * mt * mt ∧ hb hc q mt w = m)) (ht1 : 1 ≤ t) (ht : t < 2 ^ q) (hB : Bt (NS hc q mt) t b) (k67 : ∀ b', Bt (NS hc q mt) (t + 1) b' → X κ 67 [(0, .ref 7), (1, .int (nI b')), (2, .int (nI (t + 1)))] [] st) : ∀ (f m : Nat) (x : Int32), m + f = 2 ^ q → cI st t m x → X κ 82 [(0, .ref 7), (1, .int (nI b)), (2, .int (nI t)), (3, .int x), (4, .int (nI m))] [] st
  | 0, m, x, e, hx => by
    have h8 := KR.1
    have h256 := p256 h8
    have eq2 := (all_q ⟨q, by omega⟩).2
    simp only at eq2
    have em : m = 2 ^ q := by omega
    rw [em] at hx
    have hbt : b < 256 := by
      rcases hB with ⟨z, -⟩ | ⟨-, z, -⟩ <;> omega
    have pb := pcb_le8 ⟨b, hbt⟩
    have pt := pcb_le8 ⟨t, by omega⟩
    simp only at pb pt
    refine bX7_quarrel_82 C Z _ _ _ _ _ ?_
    rw [KR.2.2.2.1.2.1, eq2]
    simp only [nI_1]
    refine brT (nI_le (by omega) (by omega)) ?_
    rcases hx with ⟨ex, hx⟩ | ⟨ex, m', h1, h2⟩
    · subst ex
      have hn := (NS_ch h8 ht h34).mpr hx
      refine bnF rfl ?_
      by_cases eb : b = 0
      · subst eb
        exact brT rfl (k67 t (Bt_first hB ht1 hn))
      · refine brF (nI_ne0 (by omega) (by omega)) (sX7_ones (by omega) (sX7_ones hbt (pk_le (pcb b 8) (pcb t 8) (fun g => k67 b (Bt_keep hB (by omega) g)) (fun g => k67 t (Bt_new hB (by omega) ht1 g hn)))))
    · subst ex
      exact bnT (by decide) (k67 b (Bt_no hB (fun z => (NS_ch h8 ht h34).mp z m' h1 h2)))
  | f + 1, m, x, e, hx => by
    have h8 := KR.1
    have h256 := p256 h8
    have eq2 := (all_q ⟨q, by omega⟩).2
    simp only at eq2
    have mc : (nI m).toNatClampNeg = m := nI_clamp (by omega)
    have hle : m &&& t ≤ m := Nat.and_le_left
    have x0 : x ||| 0 = x := or_z x
    have no : ¬ (m &&& t = t ∧ ¬ st.1 34 m = 0) → cI st t (m + 1) x := fun g => by
      rcases hx with ⟨ex, hx⟩ | ⟨ex, m', h1, h2⟩
      · exact Or.inl ⟨ex, fun m' hm' => by
          by_cases e2 : m' = m
          · rw [e2]
            exact g
          · exact hx m' (by omega)⟩
      · exact Or.inr ⟨ex, m', by omega, h2⟩
    have x1 : x ||| 1 = 1 := by
      rcases hx with ⟨ex, -⟩ | ⟨ex, -⟩ <;> rw [ex] <;> decide
    refine bX7_quarrel_82 C Z _ _ _ _ _ ?_
    rw [KR.2.2.2.1.2.1, eq2]
    simp only [mc, x0, x1, nI_1]
    rw [pk_land (by omega) (by omega)]
    refine brF (nI_ge (by omega) (by omega)) ⟨fun g => lX7_q82 C Z KR h34 ht1 ht hB k67 f (m + 1) x (by omega) (no (fun z => g (by rw [z.1]))), fun g => ⟨pk_in m 256 (by omega), fun g2 => lX7_q82 C Z KR h34 ht1 ht hB k67 f (m + 1) x (by omega) (no (fun z => z.2 g2)), fun g2 => lX7_q82 C Z KR h34 ht1 ht hB k67 f (m + 1) 1 (by omega) (Or.inr ⟨rfl, m, by omega, (nI_eq (by omega) (by omega)).mp g, g2⟩)⟩⟩
theorem lX7_q67 {hc : Nat → Nat → Nat → Nat → Prop} (C : Cx κ M_X7_quarrel (d + 6)) (Z : xR κ Q) (KR : RelR st n q mt) (h34 : ∀ m, m < 256 → (¬ st.1 34 m = 0 ↔ ∃ w, w < mt * mt * mt ∧ hb hc q mt w = m)) (hq : ∀ b, Bt (NS hc q mt) (2 ^ q) b → Q (some (.int (nI b))) st) : ∀ (f t b : Nat), 1 ≤ t → t + f = 2 ^ q → Bt (NS hc q mt) t b → X κ 67 [(0, .ref 7), (1, .int (nI b)), (2, .int (nI t))] [] st
  | 0, t, b, ht, e, hB => by
    have h8 := KR.1
    have h256 := p256 h8
    have eq2 := (all_q ⟨q, by omega⟩).2
    simp only at eq2
    have et : t = 2 ^ q := by omega
    rw [et] at hB
    refine bX7_quarrel_67 C Z _ _ _ ?_
    rw [KR.2.2.2.1.2.1, eq2]
    exact brT (nI_le (by omega) (by omega)) (hq b hB)
  | f + 1, t, b, ht, e, hB => by
    have h8 := KR.1
    have h256 := p256 h8
    have eq2 := (all_q ⟨q, by omega⟩).2
    simp only at eq2
    refine bX7_quarrel_67 C Z _ _ _ ?_
    rw [KR.2.2.2.1.2.1, eq2]
    refine brF (nI_ge (by omega) (by omega)) (lX7_q82 C Z KR h34 ht (by omega) hB (fun b' hb' => lX7_q67 C Z KR h34 hq f (t + 1) b' (by omega) (by omega) hb') (2 ^ q) 0 0 (by omega) (Or.inl ⟨rfl, fun m' h => by omega⟩))
theorem lX7_q24 (C : Cx κ M_X7_quarrel (d + 6)) (Z : xR κ Q) (K0 : RelC st0 n hm nz bg wd) (KR0 : RelR st0 n q mt) (hq : ∀ b st', Bt (NS (hcD (st0.1 32) hm nz bg wd) q mt) (2 ^ q) b → Sm st0 st' → Q (some (.int (nI b))) st') : ∀ (f w : Nat) (st : xSt), w + f = mt * mt * mt → Sm st0 st → (∀ m, m < 256 → (¬ st.1 34 m = 0 ↔ ∃ w', w' < w ∧ hb (hcD (st0.1 32) hm nz bg wd) q mt w' = m)) → X κ 24 [(0, .ref 7), (1, .int (nI w))] [] st
  | 0, w, st, e, hs, h => by
    have hc := cube KR0.2.2.1
    have ew : w = mt * mt * mt := by omega
    rw [ew] at h
    have h2 : 1 ≤ 2 ^ q := Nat.two_pow_pos q
    refine bX7_quarrel_24 C Z _ _ ?_
    rw [(KR0.sm hs).2.2.2.1.2.2.2, pk_mul, pk_mul]
    exact brT (nI_le (by omega) (by omega)) (lX7_q67 C Z (KR0.sm hs) h (fun b hb => hq b st hb hs) (2 ^ q - 1) 1 0 (by omega) (by omega) (Or.inl ⟨rfl, fun t' g1 g2 => by omega⟩))
  | f + 1, w, st, e, hs, h => by
    have hc := cube KR0.2.2.1
    refine bX7_quarrel_24 C Z _ _ ?_
    rw [(KR0.sm hs).2.2.2.1.2.2.2, pk_mul, pk_mul]
    refine brF (nI_ge (by omega) (by omega)) (sTH K0 KR0 hs (by omega) (fun st' hs' ht e34 => ?_))
    have hl : hb (hcD (st0.1 32) hm nz bg wd) q mt w < 2 ^ q := hbs_lt _ q
    have h256 := p256 KR0.1
    refine ⟨pk_in (hb (hcD (st0.1 32) hm nz bg wd) q mt w) 256 (by omega), ?_⟩
    have cl : (nI (hb (hcD (st0.1 32) hm nz bg wd) q mt w)).toNatClampNeg = hb (hcD (st0.1 32) hm nz bg wd) q mt w := nI_clamp (by omega)
    show X κ 24 [(0, .ref 7), (1, .int (nI w + 1))] [] (xup st' 34 (nI (hb (hcD (st0.1 32) hm nz bg wd) q mt w)).toNatClampNeg (vp_nar .boolean 1))
    rw [cl, nb1, nI_1]
    refine lX7_q24 C Z K0 KR0 hq f (w + 1) _ (by omega) (hs'.trans (sm_out (Or.inr (Or.inr (Or.inl rfl))))) (fun m hmm => ?_)
    by_cases em : m = hb (hcD (st0.1 32) hm nz bg wd) q mt w
    · rw [em, xup_eq]
      exact ⟨fun _ => ⟨w, by omega, rfl⟩, fun _ => by decide⟩
    · rw [xup_off (by omega), e34, h m hmm]
      constructor
      · rintro ⟨w', h1, h2⟩
        exact ⟨w', by omega, h2⟩
      · rintro ⟨w', h1, h2⟩
        by_cases e2 : w' = w
        · rw [e2] at h2
          exact (em h2.symm).elim
        · exact ⟨w', by omega, h2⟩
theorem lX7_q2 (C : Cx κ M_X7_quarrel (d + 6)) (Z : xR κ Q) (hq : ∀ st', Sm st0 st' → (∀ m, m < 256 → st'.1 34 m = 0) → X κ 24 [(0, .ref 7), (1, .int (nI 0))] [] st') : ∀ (f k : Nat) (st : xSt), k + f = 256 → Sm st0 st → (∀ m, m < k → st.1 34 m = 0) → X κ 2 [(0, .ref 7), (1, .int (nI k))] [] st
  | 0, k, st, e, hs, h => by
    have ek : k = 256 := by omega
    rw [ek] at h ⊢
    exact bX7_quarrel_2 C Z _ _ (brT (by decide) (hq st hs h))
  | f + 1, k, st, e, hs, h => by
    refine bX7_quarrel_2 C Z _ _ (brF (nI_ge (a := k) (b := 256) (by omega) (by omega)) ⟨pk_in k 256 (by omega), ?_⟩)
    rw [nI_clamp (by omega), nb0, nI_1]
    refine lX7_q2 C Z hq f (k + 1) _ (by omega) (hs.trans (sm_out (Or.inr (Or.inr (Or.inl rfl))))) (fun m hm => ?_)
    by_cases em : m = k
    · rw [em, xup_eq]
    · rw [xup_off (by omega)]
      exact h m (by omega)
theorem sX7_quarrel (K0 : RelC st0 n hm nz bg wd) (KR0 : RelR st0 n q mt) (hs : Sm st0 st) (hp : ∀ b st', Bt (NS (hcD (st0.1 32) hm nz bg wd) q mt) (2 ^ q) b → Sm st0 st' → P (nI b) st') : Ct (d + 6) M_X7_quarrel [.ref 7] st (Qi P) := by
  refine eX7_quarrel _ (fun κ C Z => lX7_q2 (st0 := st0) C Z (fun st' a b => ?_) 256 0 st (by omega) hs (fun m hm => by omega))
  exact lX7_q24 C Z K0 KR0 (fun b st' a b2 => qi (hp b st' a b2)) (mt * mt * mt) 0 st' (by omega) a (fun m hm => ⟨fun z => (z (b m hm)).elim, fun ⟨w', h, _⟩ => by omega⟩)
end RQ2
theorem g_quarrel : Good M_X6_quarrel M_X7_quarrel [] := by
  intro st hR P hp
  obtain ⟨n, ⟨hm, nz, bg, wd, K⟩, -, ⟨q, mt, KR⟩, -⟩ := id hR
  refine eX6_quarrel _ (sX3_least (d := 53) K KR Sm.rfl (fun g s hs => qi (sX7_quarrel (d := 54) K KR hs (fun b s2 hB hs2 => ?_))) (fun g hq1 b s hL hs => qi (sX7_quarrel (d := 54) K KR hs (fun b2 s2 hB hs2 => ?_))))
  · rcases hB with ⟨e, -⟩ | ⟨h1, h2, h3, -⟩
    · rw [e]
      exact hp _ _ (hR.sm hs2)
    · exact (g (fun w hw hpw => h3 w hw (fun c hc _ => hpw c hc (by rw [Nat.testBit_two_pow_sub_one]; exact decide_eq_true hc)))).elim
  · have h2 : 2 ≤ 2 ^ q := Nat.pow_le_pow_right (n := 2) (i := 1) (by decide) hq1
    rcases hB with ⟨-, h⟩ | ⟨h1, h2, h3, h4⟩
    · exact (h (2 ^ q - 1) (by omega) (by omega) g).elim
    · rw [LM_one hL ⟨h1, h2, h3, h4⟩]
      exact hp _ _ (hR.sm hs2)
