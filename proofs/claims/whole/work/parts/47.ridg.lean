theorem cn_pos {p : Nat → Prop} {a n : Nat} (h : p a) (ha : a < n) : cn p a < cn p n := by
  have := cn_up (p := p) (a := a + 1) (b := n) ha
  rw [cn_yes h] at this
  omega
theorem cn_two {p : Nat → Prop} {a b n : Nat} (ha : p a) (hb : p b) (hne : a ≠ b) (la : a < n) (lb : b < n) : 2 ≤ cn p n := by
  have h1 := cn_pos ha la
  have h2 := cn_pos hb lb
  rcases Nat.lt_or_gt_of_ne hne with h | h
  · have := cn_pos ha h
    omega
  · have := cn_pos hb h
    omega
theorem suF_one {p : Nat → Prop} {mt u w : Nat} {x y : Int32} (hx : suF p mt u w x) (hy : suF p mt u w y) : x = y := by
  rcases hx with ⟨ex, h⟩ | ⟨a, ex, h1, h2, ⟨w', h3, h4, h5⟩, h6⟩ | ⟨ex, w1, w2, h1, h2, h3, h4, h5⟩
  · rcases hy with ⟨ey, k⟩ | ⟨b, ey, k1, k2, ⟨v', k3, k4, k5⟩, k6⟩ | ⟨ey, v1, v2, k1, k2, k3, k4, k5⟩
    · rw [ex, ey]
    · exact (h v' k3 k4).elim
    · exact (h v1 k1 k3).elim
  · rcases hy with ⟨ey, k⟩ | ⟨b, ey, k1, k2, ⟨v', k3, k4, k5⟩, k6⟩ | ⟨ey, v1, v2, k1, k2, k3, k4, k5⟩
    · exact (k w' h3 h4).elim
    · rw [ex, ey, ← h5, k6 w' h3 h4]
    · exact (k5 ((h6 v1 k1 k3).trans (h6 v2 k2 k4).symm)).elim
  · rcases hy with ⟨ey, k⟩ | ⟨b, ey, k1, k2, ⟨v', k3, k4, k5⟩, k6⟩ | ⟨ey, v1, v2, k1, k2, k3, k4, k5⟩
    · exact (k w1 h1 h3).elim
    · exact (h5 ((k6 w1 h1 h3).trans (k6 w2 h2 h4).symm)).elim
    · rw [ex, ey]
section RG
variable {st st0 : xSt} {n q mt : Nat} {hm nz bg : Nat → Nat} {wd : Nat → Nat → Int32} {d u : Nat} {P : Int32 → xSt → Prop}
theorem sX3_allClues (h : st.1 3 4 = nI q) (hq : q ≤ 8) (hp : P (nI (2 ^ q - 1)) st) : Ct d M_X3_allClues [.ref 3] st (Qi P) := by
  refine eX3_allClues _ (qi ?_)
  have e := (all_q ⟨q, by omega⟩).1
  simp only at e
  rw [h, e]
  exact hp
theorem all256 (hq : q ≤ 8) : 2 ^ q - 1 < 256 := by
  have := p256 hq
  have := Nat.two_pow_pos q
  omega
theorem m1_no {i : Nat} (hi : i < 2 ^ 31) (h : (-1 : Int32) = nI i) : False := nI_pos hi (by rw [← h]; decide)
theorem sX3_howMany (K0 : RelC st0 n hm nz bg wd) (KR0 : RelR st0 n q mt) (hs : Sm st0 st) (hp : ∀ st', Sm st0 st' → P (nI (cn (pS (hcD (st0.1 32) hm nz bg wd) q mt (2 ^ q - 1)) (mt * mt * mt))) st') : Ct (d + 6) M_X3_howMany [.ref 3, .ref 2] st (Qi P) := by
  refine eX3_howMany _ (sX3_prepare K0 KR0 hs (fun s1 h1 hA => sX3_allClues (KR0.sm h1).2.2.2.1.1 KR0.1 ?_))
  refine sX3_search rfl rfl K0 KR0 h1 hA (all256 KR0.1) (Or.inl (by decide)) (fun s2 I _ => qi ?_) (fun s2 w i e hi => (m1_no hi e).elim)
  rw [I.2.2.1]
  exact hp s2 I.1
theorem sX3_pick {i0 : Nat} (K0 : RelC st0 n hm nz bg wd) (KR0 : RelR st0 n q mt) (hs : Sm st0 st) (hi : i0 < 2 ^ 31) (hu : u < 3) (hy : ∀ w st', w < mt * mt * mt → pS (hcD (st0.1 32) hm nz bg wd) q mt (2 ^ q - 1) w → cn (pS (hcD (st0.1 32) hm nz bg wd) q mt (2 ^ q - 1)) w = i0 → Sm st0 st' → P (nI (co mt w u)) st') (hn : cn (pS (hcD (st0.1 32) hm nz bg wd) q mt (2 ^ q - 1)) (mt * mt * mt) ≤ i0 → ∀ st', Sm st0 st' → P (-1) st') : Ct (d + 6) M_X3_pick [.ref 3, .ref 2, .int (nI i0), .int (nI u)] st (Qi P) := by
  refine eX3_pick _ _ _ (sX3_prepare K0 KR0 hs (fun s1 h1 hA => sX3_allClues (KR0.sm h1).2.2.2.1.1 KR0.1 ?_))
  refine sX3_search rfl rfl K0 KR0 h1 hA (all256 KR0.1) (Or.inr ⟨i0, rfl, hi, Nat.zero_le _⟩) (fun s2 I hw => ?_) (fun s2 w i e hi2 h3 h4 h5 h6 _ h7 ⟨t, h8, h9, h10⟩ => ?_)
  · obtain ⟨i, e, hi2, h3⟩ := hw.elim (fun z => (nI_pos hi z).elim) id
    have e2 := (nI_eq hi hi2).mp e
    rw [← e2] at h3
    rw [I.2.2.1]
    exact brT (nI_le h3 hi) (qi (hn h3 s2 I.1))
  · have e2 := (nI_eq hi hi2).mp e
    rw [← e2] at h9 h5
    rw [h8]
    refine brF (nI_ge h9 (by omega)) (sA1 ⟨nI_nlt (by omega) (by omega), nI_nlt (a := 2) (by omega) (by omega)⟩ (f1 ⟨pk_in u 3 hu, qi ?_⟩))
    rw [nI_clamp (by omega), h7 u hu]
    exact hy w s2 h3 h4 h5 h6
theorem sX3_certain (K0 : RelC st0 n hm nz bg wd) (KR0 : RelR st0 n q mt) (hs : Sm st0 st) (hu : u < 3) (hp : ∀ x st', suF (pS (hcD (st0.1 32) hm nz bg wd) q mt (2 ^ q - 1)) mt u (mt * mt * mt) x → Sm st0 st' → P x st') : Ct (d + 6) M_X3_certain [.ref 3, .ref 2, .int (nI u)] st (Qi P) := by
  refine eX3_certain _ _ (sX3_prepare K0 KR0 hs (fun s1 h1 hA => sX3_allClues (KR0.sm h1).2.2.2.1.1 KR0.1 ?_))
  refine sX3_search rfl rfl K0 KR0 h1 hA (all256 KR0.1) (Or.inl (by decide)) (fun s2 I _ => ?_) (fun s2 w i e hi => (m1_no hi e).elim)
  have h40 := KR0.2.2.1
  have hcb := cube h40
  obtain ⟨hs2, -, ht, hb⟩ := I
  have hbu := hb u hu
  have b40 : ∀ i, lb (s2.2 17 u) i = true → 1 ≤ i ∧ i ≤ 40 := fun i hi => by
    obtain ⟨w, w1, w2, w3⟩ := (hbu i).mp hi
    have := co_b (u := u) KR0.2.1 w1
    omega
  rw [ht]
  have hle := cn_le (pS (hcD (st0.1 32) hm nz bg wd) q mt (2 ^ q - 1)) (mt * mt * mt)
  generalize hpp : pS (hcD (st0.1 32) hm nz bg wd) q mt (2 ^ q - 1) = p at *
  refine pk_eq (cn p (mt * mt * mt)) 0 (fun e => qi (hp _ _ (Or.inl ⟨rfl, fun w hw hpw => ?_⟩) hs2)) (fun e => sA1 ⟨nI_nlt (by omega) (by omega), nI_nlt (a := 2) (by omega) (by omega)⟩ (g1 ⟨pk_in u 3 hu, ?_⟩))
  · have := cn_pos hpw hw
    omega
  · rw [nI_clamp (by omega)]
    obtain ⟨w0, l0, p0, -⟩ := cn_ex (p := p) (n := mt * mt * mt) (i := 0) (by omega)
    have lbc := cn_le (fun i => lb (s2.2 17 u) i = true) 64
    refine sJ13_bitCount _ ?_
    by_cases e1 : cn (fun i => lb (s2.2 17 u) i = true) 64 = 1
    · obtain ⟨z, z1, z2, z3⟩ := cn_ex (p := fun i => lb (s2.2 17 u) i = true) (n := 64) (i := 0) (by omega)
      refine bnF (by rw [e1]; rfl) ⟨pk_in u 3 hu, ?_⟩
      refine sX3_nth (i := 0) (fun b => by have := b40 0 b; omega) (b40 z z2).2 z2 z3 (qi (hp _ _ (Or.inr (Or.inl ⟨z, rfl, (b40 z z2).1, (b40 z z2).2, (hbu z).mp z2, fun w hw hpw => ?_⟩)) hs2))
      apply Classical.byContradiction
      intro hne
      have c1 := (hbu (co mt w u)).mpr ⟨w, hw, hpw, rfl⟩
      have := cn_two (p := fun i => lb (s2.2 17 u) i = true) c1 z2 hne (by have := b40 _ c1; omega) z1
      omega
    · refine bnT (fun z => e1 ((nI_eq (b := 1) (by omega) (by omega)).mp z)) (qi (hp _ _ (Or.inr (Or.inr ⟨rfl, ?_⟩)) hs2))
      have c1 := (hbu (co mt w0 u)).mpr ⟨w0, l0, p0, rfl⟩
      have c2 := cn_pos (p := fun i => lb (s2.2 17 u) i = true) (n := 64) c1 (by have := b40 _ c1; omega)
      obtain ⟨z, z1, z2, z3⟩ := cn_ex (p := fun i => lb (s2.2 17 u) i = true) (n := 64) (i := 0) (by omega)
      obtain ⟨y, y1, y2, y3⟩ := cn_ex (p := fun i => lb (s2.2 17 u) i = true) (n := 64) (i := 1) (by omega)
      obtain ⟨v1, a1, a2, a3⟩ := (hbu z).mp z2
      obtain ⟨v2, b1, b2, b3⟩ := (hbu y).mp y2
      refine ⟨v1, v2, a1, b1, a2, b2, fun e => ?_⟩
      rw [a3, b3] at e
      rw [e] at z3
      omega
end RG
theorem g_solutions : Good M_X6_solutions M_X7_solutions [] := by
  intro st hR P hp
  obtain ⟨n, ⟨hm, nz, bg, wd, K⟩, -, ⟨q, mt, KR⟩, -⟩ := id hR
  exact eX6_solutions _ (sX3_howMany (d := 53) K KR Sm.rfl (fun s hs => qi (eX7_solutions _ (sX7_solNow (d := 53) K KR hs (fun s2 hs2 => qi (hp _ _ (hR.sm hs2)))))))
theorem g_solution (i u : Int32) : Good M_X6_solution M_X7_solution [.int i, .int u] := by
  intro st hR P hp
  have fin : ∀ v, P v v st := fun v => hp v st hR
  obtain ⟨n, ⟨hm, nz, bg, wd, K⟩, -, ⟨q, mt, KR⟩, -⟩ := id hR
  by_cases hi : i < 0
  · exact eX6_solution _ _ _ (brT hi (qi (eX7_solution _ _ _ (fun κ C Z => brT hi (qi (fin _))))))
  · by_cases hu : ¬ u < nI 0 ∧ ¬ nI 2 < u
    · obtain ⟨i0, h2, rfl⟩ := nI_of hi
      obtain ⟨u0, -, h4, rfl⟩ := rng (by omega) hu (by omega)
      have h4' : u0 < 3 := by omega
      refine eX6_solution _ _ _ (brF hi (sA1 hu (g1 (sX3_pick (d := 53) K KR Sm.rfl h2 h4' (fun w s hw hpw hc hs => qi ?_) (fun hc s hs => qi ?_)))))
      · refine eX7_solution _ _ _ (fun κ C Z => brF hi (sU1 hu (g1 (lX7_solution (d := 54) C Z K KR h2 h4' (fun w' s' hw' hpw' hc' hs' => qi ?_) (fun hc' s' hs' => ?_) (mt * mt * mt) 0 i0 s (by omega) (by show i0 + 0 = i0; omega) hs))))
        · rw [cn_one hpw hpw' (hc.trans hc'.symm)]
          exact hp _ _ (hR.sm hs')
        · have := cn_pos hpw hw
          omega
      · refine eX7_solution _ _ _ (fun κ C Z => brF hi (sU1 hu (g1 (lX7_solution (d := 54) C Z K KR h2 h4' (fun w' s' hw' hpw' hc' hs' => ?_) (fun hc' s' hs' => qi (hp _ _ (hR.sm hs'))) (mt * mt * mt) 0 i0 s (by omega) (by show i0 + 0 = i0; omega) hs))))
        have := cn_pos hpw' hw'
        omega
    · exact eX6_solution _ _ _ (brF hi (sA0 hu (g0 (qi (eX7_solution _ _ _ (fun κ C Z => brF hi (sU0 hu (g0 (qi (fin _))))))))))
theorem g_sure (u : Int32) : Good M_X6_sure M_X7_sure [.int u] := by
  intro st hR P hp
  have fin : ∀ v, P v v st := fun v => hp v st hR
  obtain ⟨n, ⟨hm, nz, bg, wd, K⟩, -, ⟨q, mt, KR⟩, -⟩ := id hR
  by_cases hu : ¬ u < nI 0 ∧ ¬ nI 2 < u
  · obtain ⟨u0, -, h4, rfl⟩ := rng (by omega) hu (by omega)
    have h4' : u0 < 3 := by omega
    refine eX6_sure _ _ (sA1 hu (f1 (sX3_certain (d := 53) K KR Sm.rfl h4' (fun x s hx hs => qi ?_))))
    refine eX7_sure _ _ (fun κ C Z => sU1 hu (g1 (lX7_sure (d := 54) C Z K KR h4' (fun y s' hy hs' => qi ?_) (mt * mt * mt) 0 (-3) s (by omega) (Or.inl ⟨rfl, fun w' h => by omega⟩) hs)))
    rw [suF_one hx hy]
    exact hp _ _ (hR.sm hs')
  · exact eX6_sure _ _ (sA0 hu (f0 (qi (eX7_sure _ _ (fun κ C Z => sU0 hu (g0 (qi (fin _))))))))
