theorem pS_aln {D : Nat → Int32} {hm nz bg : Nat → Nat} {wd : Nat → Nat → Int32} {q mt s w u : Nat} (h1 : 1 ≤ mt) (hw : w < mt * mt * mt) (h : pS (hcD D hm nz bg wd) q mt s w) : aln D (alD D hm nz bg wd) mt s u q (co mt w u) := by
  have b := co_b (u := u) h1 hw
  refine ⟨b.1, b.2, fun c' hc hb hk hu => ?_⟩
  have := (hcD_0 hk).mp (h c' hc hb)
  rw [hu] at this
  exact this
theorem blkN {D : Nat → Int32} {hm nz bg : Nat → Nat} {wd : Nat → Nat → Int32} {n q mt s x y : Nat} {N0 N : Int64} (hF : ∀ c, c < q → clF D n c) (hy : y < mt) (a0 : aln D (alD D hm nz bg wd) mt s 0 q (x + 1)) (a1 : aln D (alD D hm nz bg wd) mt s 1 q (y + 1)) (hN0 : ∀ i, lb N0 i = true ↔ aln D (alD D hm nz bg wd) mt s 2 q i) (hN : ∀ i, lb N i = true ↔ nrw D (hcD D hm nz bg wd) (x + 1) (y + 1) s N0 q i) (i : Nat) : lb N i = true ↔ (1 ≤ i ∧ i ≤ mt ∧ pS (hcD D hm nz bg wd) q mt s (mt * (mt * x + y) + (i - 1))) := by
  have ex : 1 + x = x + 1 := Nat.add_comm _ _
  have ey : 1 + y = y + 1 := Nat.add_comm _ _
  rw [hN i]
  constructor
  · rintro ⟨z1, z2⟩
    have a2 := (hN0 i).mp z1
    have ai := a2.1
    have bi := a2.2.1
    have ei : 1 + (i - 1) = i := by omega
    obtain ⟨e1, e2, e3⟩ := blk (x := x) (show i - 1 < mt by omega) hy
    refine ⟨ai, bi, fun c hc hb => ?_⟩
    rw [e1, e2, e3, ex, ey, ei]
    obtain ⟨⟨hu, -⟩, F⟩ := hF c hc
    have al0 : (kD D c = 0 ∨ kD D c = 3) → hcD D hm nz bg wd c (x + 1) (y + 1) i := fun k => by
      refine (hcD_0 k).mpr ?_
      have : uD D c 1 = 0 ∨ uD D c 1 = 1 ∨ uD D c 1 = 2 := by omega
      rcases this with e | e | e
      · rw [e]
        exact a0.2.2 c hc hb k e
      · rw [e]
        exact a1.2.2 c hc hb k e
      · rw [e]
        exact a2.2.2 c hc hb k e
    rcases F with ⟨k, -⟩ | ⟨k, -⟩ | ⟨k, -⟩ | ⟨k, -⟩
    · exact al0 (Or.inl k)
    · exact z2 c hc hb (Or.inl k)
    · exact z2 c hc hb (Or.inr k)
    · exact al0 (Or.inr k)
  · rintro ⟨ai, bi, h⟩
    have ei : 1 + (i - 1) = i := by omega
    obtain ⟨e1, e2, e3⟩ := blk (x := x) (show i - 1 < mt by omega) hy
    unfold pS at h
    rw [e1, e2, e3, ex, ey, ei] at h
    refine ⟨(hN0 i).mpr ⟨ai, bi, fun c hc hb hk hu => ?_⟩, fun c hc hb _ => h c hc hb⟩
    have := (hcD_0 hk).mp (h c hc hb)
    rw [hu] at this
    exact this
theorem wb {mt x y : Nat} (hx : x < mt) (hy : y ≤ mt) : mt * (mt * x + y) ≤ mt * mt * mt := by
  have h1 : mt * x + mt ≤ mt * mt := by
    have := Nat.mul_le_mul_left mt (show x + 1 ≤ mt from hx)
    rw [Nat.mul_add, Nat.mul_one] at this
    exact this
  rw [Nat.mul_assoc]
  exact Nat.mul_le_mul_left _ (by omega)
theorem IV.meet {st0 st st' : xSt} {aw : Nat → Nat → Prop} {p : Nat → Prop} {q mt W x y : Nat} {N : Int64} (h : IV st0 st aw p q mt W) (hW : W = mt * (mt * x + y)) (hy : y < mt) (hm : mt ≤ 40) (B : ∀ i, lb N i = true ↔ (1 ≤ i ∧ i ≤ mt ∧ p (W + (i - 1)))) (hne : ∃ i, lb N i = true) (m : mS st st' (x + 1) (y + 1) (cn p W + cn (fun j => lb N j = true) 64) N) : IV st0 st' aw p q mt (W + mt) := by
  obtain ⟨a, b, c, f⟩ := h
  obtain ⟨m1, m2, m3, -, m5, m6, m7⟩ := m
  have hco : ∀ j, j < mt → ∀ u, co mt (W + j) u = tv (1 + x) (1 + y) (1 + j) u := fun j hj u => by
    obtain ⟨e1, e2, e3⟩ := blk (x := x) hj hy
    unfold co
    rw [hW, e1, e2, e3]
  obtain ⟨i0, hi0⟩ := hne
  have b0 := (B i0).mp hi0
  refine ⟨a.trans m1, fun c' hc' i => by rw [m2]; exact b c' hc' i, by rw [cnN64 B hm]; exact m3, fun u hu i => ?_⟩
  have split : (∃ w, w < W + mt ∧ p w ∧ co mt w u = i) ↔ (∃ w, w < W ∧ p w ∧ co mt w u = i) ∨ ∃ j, j < mt ∧ p (W + j) ∧ tv (1 + x) (1 + y) (1 + j) u = i := by
    constructor
    · rintro ⟨w, w1, w2, w3⟩
      by_cases g : w < W
      · exact Or.inl ⟨w, g, w2, w3⟩
      · have ew : w = W + (w - W) := by omega
        rw [ew] at w2 w3
        rw [hco _ (by omega)] at w3
        exact Or.inr ⟨w - W, by omega, w2, w3⟩
    · rintro (⟨w, w1, w2, w3⟩ | ⟨j, j1, j2, j3⟩)
      · exact ⟨w, by omega, w2, w3⟩
      · exact ⟨W + j, by omega, j2, by rw [hco j j1]; exact j3⟩
  rw [split]
  have : u = 0 ∨ u = 1 ∨ u = 2 := by omega
  rcases this with e | e | e
  · subst e
    rw [m5 i, f 0 hu i]
    refine or_congr Iff.rfl ⟨fun e => ⟨i0 - 1, by omega, b0.2.2, ?_⟩, ?_⟩
    · show 1 + x = i
      omega
    · rintro ⟨j, j1, j2, j3⟩
      have : 1 + x = i := j3
      omega
  · subst e
    rw [m6 i, f 1 hu i]
    refine or_congr Iff.rfl ⟨fun e => ⟨i0 - 1, by omega, b0.2.2, ?_⟩, ?_⟩
    · show 1 + y = i
      omega
    · rintro ⟨j, j1, j2, j3⟩
      have : 1 + y = i := j3
      omega
  · subst e
    rw [m7 i, f 2 hu i]
    refine or_congr Iff.rfl ⟨fun e => ?_, ?_⟩
    · have b1 := (B i).mp e
      refine ⟨i - 1, by omega, b1.2.2, ?_⟩
      show 1 + (i - 1) = i
      omega
    · rintro ⟨j, j1, j2, j3⟩
      have e : 1 + j = i := j3
      refine (B i).mpr ⟨by omega, by omega, ?_⟩
      rw [show i - 1 = j by omega]
      exact j2
section RCS
variable {st : xSt} {n q mt : Nat} {hm nz bg : Nat → Nat} {wd : Nat → Nat → Int32} {d c v w s u : Nat} {κ : xK} {Q : Option Value → xSt → Prop}
theorem lX3_s51 {st0 : xSt} {a2 : Int32} {F S T : Int64} {x : Nat} {aw : Nat → Nat → Prop} {p : Nat → Prop} (eaw : aw = awD (st0.1 32) hm nz bg wd) (ep : p = pS (hcD (st0.1 32) hm nz bg wd) q mt s) (C : Cx κ M_X3_search (d + 3)) (Z : xR κ Q) (K0 : RelC st0 n hm nz bg wd) (KR0 : RelR st0 n q mt) (h256 : s < 256) (hF : ∀ i, lb F i = true ↔ aln (st0.1 32) (alD (st0.1 32) hm nz bg wd) mt s 0 q i) (hS : ∀ i, lb S i = true ↔ aln (st0.1 32) (alD (st0.1 32) hm nz bg wd) mt s 1 q i) (hT : ∀ i, lb T i = true ↔ aln (st0.1 32) (alD (st0.1 32) hm nz bg wd) mt s 2 q i) (hx : x < mt)
    (k39 : ∀ st', IV st0 st' aw p q mt (mt * (mt * x + mt)) → wt a2 (cn p (mt * (mt * x + mt))) → X κ 39 [(0, .ref 3), (1, .int (nI s)), (2, .int a2), (3, .long F), (5, .long S), (7, .long T), (9, .int (nI (x + 1 + 1)))] [] st')
    (hq2 : ∀ (st' : xSt) (w i : Nat), a2 = nI i → i < 2 ^ 31 → w < mt * mt * mt → p w → cn p w = i → Sm st0 st' → (∀ c, c < q → AL st' aw c mt) → (∀ u, u < 3 → st'.1 18 u = nI (co mt w u)) → (∃ t, st'.1 3 6 = nI t ∧ i < t ∧ t < 2 ^ 30) → Q none st') : ∀ (f y : Nat) (st : xSt), y + f = mt → IV st0 st aw p q mt (mt * (mt * x + y)) → wt a2 (cn p (mt * (mt * x + y))) → X κ 51 [(0, .ref 3), (1, .int (nI s)), (2, .int a2), (3, .long F), (5, .long S), (7, .long T), (9, .int (nI (x + 1))), (10, .int (nI (y + 1)))] [] st
  | 0, y, st, e, hI, hw => by
    have h40 := KR0.2.2.1
    have ey : y = mt := by omega
    rw [ey] at hI hw
    refine bX3_search_51 C Z _ _ _ _ _ _ _ _ ?_
    rw [(KR0.sm hI.1).2.2.2.1.2.2.1]
    simp only [nI_1]
    exact brT (nI_lt (by omega) (by omega)) (k39 st hI hw)
  | f + 1, y, st, e, hI, hw => by
    have h40 := KR0.2.2.1
    have h1 := KR0.2.1
    have hy : y < mt := by omega
    have hb3 := wb hx (Nat.le_refl mt)
    have hb2 := wb hx (show y + 1 ≤ mt from hy)
    have hcb := cube h40
    have eW : mt * (mt * x + (y + 1)) = mt * (mt * x + y) + mt := by rw [← Nat.add_assoc, Nat.mul_add mt (mt * x + y), Nat.mul_one]
    have eW3 : mt * (mt * x + y) ≤ mt * (mt * x + mt) := Nat.mul_le_mul_left _ (by omega)
    have hlw := cn_le p (mt * (mt * x + y))
    have next : ∀ st', IV st0 st' aw p q mt (mt * (mt * x + y) + mt) → wt a2 (cn p (mt * (mt * x + y) + mt)) → X κ 51 [(0, .ref 3), (1, .int (nI s)), (2, .int a2), (3, .long F), (5, .long S), (7, .long T), (9, .int (nI (x + 1))), (10, .int (nI (y + 1 + 1)))] [] st' := fun st' a b => by
      rw [← eW] at a b
      exact lX3_s51 eaw ep C Z K0 KR0 h256 hF hS hT hx k39 hq2 f (y + 1) st' (by omega) a b
    have noblk : ∀ st', IV st0 st' aw p q mt (mt * (mt * x + y)) → (∀ j, j < mt → ¬ p (mt * (mt * x + y) + j)) → X κ 51 [(0, .ref 3), (1, .int (nI s)), (2, .int a2), (3, .long F), (5, .long S), (7, .long T), (9, .int (nI (x + 1))), (10, .int (nI (y + 1 + 1)))] [] st' := fun st' a hn => by
      obtain ⟨a2, b2⟩ := a.ext (W' := mt * (mt * x + y) + mt) (by omega) (fun w g1 g2 g3 => hn (w - mt * (mt * x + y)) (by omega) (by rw [show mt * (mt * x + y) + (w - mt * (mt * x + y)) = w by omega]; exact g3))
      exact next st' a2 (by rw [b2]; exact hw)
    refine bX3_search_51 C Z _ _ _ _ _ _ _ _ ?_
    rw [(KR0.sm hI.1).2.2.2.1.2.2.1]
    simp only [nI_1, c0, c1]
    refine brF (nI_nlt (by omega) (by omega)) (sX3_isAmong (by omega) (fun gx => f1 (sX3_isAmong (by omega) (fun gy => f1 ?_) (fun gy => f0 ?_))) (fun gx => f0 ?_))
    · have hI1 := (hI.up (k := 0) (v := nI (x + 1))).up (k := 1) (v := nI (y + 1))
      have h18 : (xup (xup st 18 0 (nI (x + 1))) 18 1 (nI (y + 1))).1 18 0 = nI (x + 1) ∧ (xup (xup st 18 0 (nI (x + 1))) 18 1 (nI (y + 1))).1 18 1 = nI (y + 1) := ⟨by rw [xup_off (by omega), xup_eq], by rw [xup_eq]⟩
      generalize xup (xup st 18 0 (nI (x + 1))) 18 1 (nI (y + 1)) = st1 at *
      refine sX3_narrow (K0.sm hI1.1) (KR0.sm hI1.1) h256 h18 (by omega) (by omega) (fun i hi => ?_) (fun N hN => ?_)
      · have := (hT i).mp hi
        exact ⟨this.1, Nat.le_trans this.2.1 h40⟩
      · rw [hI1.1.d32] at hN
        have B := blkN (fun c hc => clF_of K0.1 KR0 hc) hy ((hF _).mp gx) ((hS _).mp gy) hT hN
        rw [← ep] at B
        refine sX3_meet h18 (by omega) (by omega) hI1.2.2.1 (by omega) (fun i hi => ?_) hw (fun e0 => f0 ?_) (fun e0 st' m mw => f0 ?_) (fun st' z i ei hi hz hz2 hz3 m hz4 => f1 ?_)
        · have := (B i).mp hi
          exact ⟨this.1, Nat.le_trans this.2.1 h40⟩
        · refine noblk st1 hI1 (fun j hj hpj => ?_)
          have := (B (j + 1)).mpr ⟨by omega, by omega, hpj⟩
          rw [e0, lb_0] at this
          cases this
        · have I2 := hI1.meet rfl hy h40 B (lb_ne e0) m
          refine next st' I2 ?_
          rw [cnN64 B h40]
          exact mw
        · have bz := (B z).mp hz
          have hz1 := bz.1
          have hz40 := bz.2.1
          have I2 := hI1.meet rfl hy h40 B ⟨z, hz⟩ m
          obtain ⟨e1, e2, e3⟩ := blk (x := x) (show z - 1 < mt by omega) hy
          refine hq2 st' (mt * (mt * x + y) + (z - 1)) i ei hi (by omega) bz.2.2 ?_ I2.1 I2.2.1 (fun u hu => ?_) ⟨_, m.2.2.1, hz3, ?_⟩
          · rw [cnN B (z - 1) (by omega), show z - 1 + 1 = z by omega]
            exact hz2
          · unfold co
            rw [e1, e2, e3]
            have : u = 0 ∨ u = 1 ∨ u = 2 := by omega
            rcases this with rfl | rfl | rfl
            · rw [m.2.2.2.1.1, h18.1]
              show _ = nI (1 + x)
              rw [Nat.add_comm]
            · rw [m.2.2.2.1.2, h18.2]
              show _ = nI (1 + y)
              rw [Nat.add_comm]
            · rw [hz4]
              show _ = nI (1 + (z - 1))
              rw [show 1 + (z - 1) = z by omega]
          · have := cn_le (fun j => lb N j = true) 64
            omega
    · refine noblk st hI (fun j hj hpj => gy ?_)
      rw [ep] at hpj
      have := pS_aln (u := 1) h1 (by omega) hpj
      obtain ⟨e1, e2, e3⟩ := blk (x := x) hj hy
      have e4 : co mt (mt * (mt * x + y) + j) 1 = 1 + y := by
        unfold co
        rw [e2]
        rfl
      rw [e4, Nat.add_comm] at this
      exact (hS _).mpr this
    · obtain ⟨a, b⟩ := hI.ext eW3 (fun w g1 g2 g3 => gx (by
        rw [ep] at g3
        have := pS_aln (u := 0) h1 (by omega) g3
        have e1 := blkx (w := w) (x := x) (by omega) (Nat.le_trans (Nat.mul_le_mul_left _ (by omega)) g1) g2
        have e4 : co mt w 0 = 1 + x := by
          unfold co
          rw [e1]
          rfl
        rw [e4, Nat.add_comm] at this
        exact (hF _).mpr this))
      exact k39 st a (by rw [b]; exact hw)
theorem lX3_s39 {st0 : xSt} {a2 : Int32} {F S T : Int64} {aw : Nat → Nat → Prop} {p : Nat → Prop} (eaw : aw = awD (st0.1 32) hm nz bg wd) (ep : p = pS (hcD (st0.1 32) hm nz bg wd) q mt s) (C : Cx κ M_X3_search (d + 3)) (Z : xR κ Q) (K0 : RelC st0 n hm nz bg wd) (KR0 : RelR st0 n q mt) (h256 : s < 256) (hF : ∀ i, lb F i = true ↔ aln (st0.1 32) (alD (st0.1 32) hm nz bg wd) mt s 0 q i) (hS : ∀ i, lb S i = true ↔ aln (st0.1 32) (alD (st0.1 32) hm nz bg wd) mt s 1 q i) (hT : ∀ i, lb T i = true ↔ aln (st0.1 32) (alD (st0.1 32) hm nz bg wd) mt s 2 q i)
    (hq1 : ∀ st', IV st0 st' aw p q mt (mt * mt * mt) → wt a2 (cn p (mt * mt * mt)) → Q none st')
    (hq2 : ∀ (st' : xSt) (w i : Nat), a2 = nI i → i < 2 ^ 31 → w < mt * mt * mt → p w → cn p w = i → Sm st0 st' → (∀ c, c < q → AL st' aw c mt) → (∀ u, u < 3 → st'.1 18 u = nI (co mt w u)) → (∃ t, st'.1 3 6 = nI t ∧ i < t ∧ t < 2 ^ 30) → Q none st') : ∀ (f x : Nat) (st : xSt), x + f = mt → IV st0 st aw p q mt (mt * (mt * x)) → wt a2 (cn p (mt * (mt * x))) → X κ 39 [(0, .ref 3), (1, .int (nI s)), (2, .int a2), (3, .long F), (5, .long S), (7, .long T), (9, .int (nI (x + 1)))] [] st
  | 0, x, st, e, hI, hw => by
    have h40 := KR0.2.2.1
    have ex : x = mt := by omega
    rw [ex, ← Nat.mul_assoc] at hI hw
    refine bX3_search_39 C Z _ _ _ _ _ _ _ ?_
    rw [(KR0.sm hI.1).2.2.2.1.2.2.1]
    exact brT (nI_lt (by omega) (by omega)) (hq1 st hI hw)
  | f + 1, x, st, e, hI, hw => by
    have h40 := KR0.2.2.1
    refine bX3_search_39 C Z _ _ _ _ _ _ _ ?_
    rw [(KR0.sm hI.1).2.2.2.1.2.2.1]
    refine brF (nI_nlt (by omega) (by omega)) (lX3_s51 eaw ep C Z K0 KR0 h256 hF hS hT (by omega) (fun st' a b => ?_) hq2 mt 0 st (by omega) hI hw)
    have eW : mt * (mt * (x + 1)) = mt * (mt * x + mt) := by rw [Nat.mul_add mt x 1, Nat.mul_one]
    rw [← eW] at a b
    exact lX3_s39 eaw ep C Z K0 KR0 h256 hF hS hT hq1 hq2 f (x + 1) st' (by omega) a b
theorem lJ7_fillL {p0 n0 : Nat} {a1 : Int64} (C : Cx κ M_J7_fill_d0a16 d) (Z : xR κ Q) (hp0 : xshapes[p0]? = some (.inr (1, n0, 0))) (hn : n0 < 2 ^ 30) (st0 : xSt) (hq : ∀ st' : xSt, st'.1 = st0.1 → (∀ q k, ¬ (q = p0 ∧ k < n0) → st'.2 q k = st0.2 q k) → (∀ k, k < n0 → st'.2 p0 k = a1) → Q none st') : ∀ (f i : Nat) (st : xSt), i + f = n0 → st.1 = st0.1 → (∀ q k, ¬ (q = p0 ∧ k < i) → st.2 q k = st0.2 q k) → (∀ k, k < i → st.2 p0 k = a1) → X κ 6 [(0, .ref p0), (1, .long a1), (3, .int (nI i)), (4, .int (nI n0))] [] st
  | 0, i, st, e, h1, h2, h3 => by
    have ei : i = n0 := by omega
    subst ei
    exact bJ7_fill_d0a16_6 C Z _ _ hp0 _ _ _ _ (brT (nI_le (Nat.le_refl _) (by omega)) (hq st h1 h2 h3))
  | f + 1, i, st, e, h1, h2, h3 => by
    refine bJ7_fill_d0a16_6 C Z _ _ hp0 _ _ _ _ (brF (nI_ge (by omega) (by omega)) ⟨pk_in i n0 (by omega), ?_⟩)
    rw [nI_clamp (by omega), nI_1]
    refine lJ7_fillL C Z hp0 hn st0 hq f (i + 1) _ (by omega) h1 (fun q k g => ?_) (fun k hk => ?_)
    · rw [xupL_off (by omega)]
      exact h2 q k (by omega)
    · by_cases ek : k = i
      · rw [ek, xupL_eq]
      · rw [xupL_off (by omega)]
        exact h3 k (by omega)
theorem sX3_search {st0 : xSt} {a2 : Int32} {P : xSt → Prop} {aw : Nat → Nat → Prop} {p : Nat → Prop} (eaw : aw = awD (st0.1 32) hm nz bg wd) (ep : p = pS (hcD (st0.1 32) hm nz bg wd) q mt s) (K0 : RelC st0 n hm nz bg wd) (KR0 : RelR st0 n q mt) (hs : Sm st0 st) (hA : ∀ c, c < q → AL st aw c mt) (h256 : s < 256) (ha : wt a2 0)
    (hq1 : ∀ st', IV st0 st' aw p q mt (mt * mt * mt) → wt a2 (cn p (mt * mt * mt)) → P st')
    (hq2 : ∀ (st' : xSt) (w i : Nat), a2 = nI i → i < 2 ^ 31 → w < mt * mt * mt → p w → cn p w = i → Sm st0 st' → (∀ c, c < q → AL st' aw c mt) → (∀ u, u < 3 → st'.1 18 u = nI (co mt w u)) → (∃ t, st'.1 3 6 = nI t ∧ i < t ∧ t < 2 ^ 30) → P st') : Ct (d + 3) M_X3_search [.ref 3, .int (nI s), .int a2] st (Qv P) := by
  have hA2 := hA
  rw [eaw, ← hs.d32] at hA2
  refine eX3_search _ _ _ (fun κ C Z => sX3_alone (u := 0) (K0.sm hs) (KR0.sm hs) hA2 h256 (by omega) (fun F hF => sX3_alone (u := 1) (K0.sm hs) (KR0.sm hs) hA2 h256 (by omega) (fun S hS => sX3_alone (u := 2) (K0.sm hs) (KR0.sm hs) hA2 h256 (by omega) (fun T hT => ?_))))
  rw [hs.d32] at hF hS hT
  refine eJ7_fill_d0a16 17 3 rfl _ _ (fun κ2 C2 Z2 => lJ7_fillL C2 Z2 rfl (by omega) (xup st 3 6 0) (fun st' g1 g2 g3 => qv ?_) 3 0 (xup st 3 6 0) (by omega) rfl (fun _ _ _ => rfl) (fun k hk => by omega))
  have hs1 : Sm st0 st' := fun p k g => by
    rw [g1]
    exact (hs.trans (sm_out (k := 6) (Or.inr (Or.inr (Or.inr ⟨rfl, rfl⟩))))) p k g
  have c0' : cn p (mt * (mt * 0)) = 0 := by
    rw [Nat.mul_zero, Nat.mul_zero]
    rfl
  refine lX3_s39 eaw ep C Z K0 KR0 h256 hF hS hT (fun s a b => qv (hq1 s a b)) (fun s w i a1 a2 a3 a4 a5 a6 a7 a8 a9 => qv (hq2 s w i a1 a2 a3 a4 a5 a6 a7 a8 a9)) mt 0 st' (by omega) ⟨hs1, fun c hc i => ?_, ?_, fun u hu i => ?_⟩ (by rw [c0']; exact ha)
  · rw [g2 16 c (by omega)]
    exact hA c hc i
  · rw [g1, xup_eq, c0']
    rfl
  · rw [g3 u hu, lb_0]
    constructor
    · intro z
      cases z
    · rintro ⟨w, h, -⟩
      rw [Nat.mul_zero, Nat.mul_zero] at h
      omega
end RCS
