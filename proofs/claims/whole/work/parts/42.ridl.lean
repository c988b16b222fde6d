/-! bits of the longs that the riddle makes -/
theorem xupL_2 (st : xSt) (p k : Nat) (v : Int64) (q j : Nat) : (xupL st p k v).2 q j = if q = p ∧ j = k then v else st.2 q j := by
  show (if q = p then vp_updL (st.2 p) k v else st.2 q) j = _
  by_cases e : q = p
  · subst e
    by_cases e2 : j = k
    · simp [vp_updL, e2]
    · simp [vp_updL, e2]
  · simp [e]
theorem xupL_eq (st : xSt) (p k : Nat) (v : Int64) : (xupL st p k v).2 p k = v := by rw [xupL_2, if_pos ⟨rfl, rfl⟩]
theorem xupL_off {st : xSt} {p k q j : Nat} {v : Int64} (h : ¬ (q = p ∧ j = k)) : (xupL st p k v).2 q j = st.2 q j := by rw [xupL_2, if_neg h]
theorem xup_2 (st : xSt) (p k : Nat) (v : Int32) : (xup st p k v).2 = st.2 := rfl
theorem lb_and (x y : Int64) (i : Nat) : lb (x &&& y) i = (lb x i && lb y i) := by
  unfold lb
  rw [Int64.toBitVec_and, BitVec.getLsbD_and]
theorem lb_or (x y : Int64) (i : Nat) : lb (x ||| y) i = (lb x i || lb y i) := by
  unfold lb
  rw [Int64.toBitVec_or, BitVec.getLsbD_or]
theorem lb_64 {x : Int64} {i : Nat} (h : 64 ≤ i) : lb x i = false := BitVec.getLsbD_of_ge _ _ h
theorem lb_0 (i : Nat) : lb 0 i = false := by
  by_cases h : i < 64
  · exact (by decide +kernel : ∀ i : Fin 64, lb 0 i.1 = false) ⟨i, h⟩
  · exact lb_64 (by omega)
theorem lb_m1 : ∀ i : Fin 64, lb (-1) i.1 = true := by decide +kernel
theorem lb_sh : ∀ v : Fin 42, ∀ i : Fin 64, lb ((1 : Int64) <<< ((nI v.1).toInt64 &&& 63)) i.1 = decide (i.1 = v.1) := by decide +kernel
theorem lb_sh1 : ∀ v : Fin 42, ∀ i : Fin 64, lb (((1 : Int64) <<< ((nI v.1).toInt64 &&& 63)) - 1) i.1 = decide (i.1 < v.1) := by decide +kernel
theorem lb_sh2 : ∀ v : Fin 41, ∀ i : Fin 64, lb (((1 : Int64) <<< ((nI (v.1 + 1)).toInt64 &&& 63)) - 2) i.1 = decide (1 ≤ i.1 ∧ i.1 ≤ v.1) := by decide +kernel
theorem lb_shm : ∀ v : Fin 42, ∀ i : Fin 64, lb (((-1) : Int64) <<< ((nI v.1).toInt64 &&& 63)) i.1 = decide (v.1 ≤ i.1) := by decide +kernel
theorem lb_bit {v i : Nat} (hv : v < 42) : lb ((1 : Int64) <<< ((nI v).toInt64 &&& 63)) i = true ↔ i = v := by
  by_cases h : i < 64
  · have := lb_sh ⟨v, hv⟩ ⟨i, h⟩
    simp only at this
    rw [this, decide_eq_true_iff]
  · rw [lb_64 (by omega)]
    constructor
    · intro q
      cases q
    · intro q
      omega
theorem sm64 : ∀ k : Fin 64, (((nI k.1).toInt64 &&& 63 : Int64).toBitVec.smod 64).toNat = k.1 := by decide +kernel
theorem and1 (y : Int64) : y &&& 1 = 1 ↔ lb y 0 = true := by
  constructor
  · intro h
    have := lb_and y 1 0
    rw [h] at this
    have e : lb 1 0 = true := by decide +kernel
    rw [e, Bool.and_true] at this
    exact this.symm
  · intro h
    apply Int64.toBitVec_inj.mp
    apply BitVec.eq_of_getLsbD_eq
    intro i hi
    show lb (y &&& 1) i = lb 1 i
    rw [lb_and]
    by_cases e : i = 0
    · subst e
      rw [h]
      rfl
    · have h1 : lb 1 i = false := by
        have := (by decide +kernel : ∀ i : Fin 64, i.1 = 0 ∨ lb 1 i.1 = false) ⟨i, hi⟩
        exact this.elim (fun q => (e q).elim) id
      rw [h1, Bool.and_false]
theorem isA {x : Int64} {k : Nat} (hk : k < 64) : (lg_cmp (((x : Int64) >>> ((nI k : Int32).toInt64 &&& 63)) &&& 1) 1) = 0 ↔ lb x k = true := by
  rw [lg_cmp_eq, and1]
  have e := sm64 ⟨k, hk⟩
  simp only at e
  show (x.toBitVec.sshiftRight (((nI k).toInt64 &&& 63 : Int64).toBitVec.smod 64).toNat).getLsbD 0 = true ↔ _
  rw [e, BitVec.getLsbD_sshiftRight]
  unfold lb
  simp [hk]
theorem all_q : ∀ q : Fin 9, ((1 : Int32) <<< ((nI q.1 : Int32) &&& 31)) - 1 = nI (2 ^ q.1 - 1) ∧ ((1 : Int32) <<< ((nI q.1 : Int32) &&& 31)) = nI (2 ^ q.1) := by decide +kernel
theorem in_set : ∀ s : Fin 256, ∀ c : Fin 8, ((((nI s.1 : Int32) >>> ((nI c.1 : Int32) &&& 31)) &&& 1) = 1) ↔ s.1.testBit c.1 = true := by decide +kernel
theorem or_bit : ∀ c : Fin 8, ∀ b : Fin 256, b.1 < 2 ^ c.1 → nI b.1 ||| ((1 : Int32) <<< ((nI c.1 : Int32) &&& 31)) = nI (b.1 + 2 ^ c.1) := by decide +kernel
theorem or_z (x : Int32) : x ||| 0 = x := by simp
/-- quotients of a rest by 1, 2, -1, as a bit -/
def bsf (R t : Int32) : Int64 := if R - R / t * t = 0 then (if ¬ R / t < 1 ∧ ¬ 40 < R / t then (1 : Int64) <<< ((R / t : Int32).toInt64 &&& 63) else 0) else 0
theorem bs_m1 : ∀ r : Fin 121, ∀ i : Fin 40, lb (bsf (nI r.1 - 80) (-1)) (i.1 + 1) = decide (r.1 + (i.1 + 1) = 80) := by decide +kernel
theorem bs_1 : ∀ r : Fin 121, ∀ i : Fin 40, lb (bsf (nI r.1 - 80) 1) (i.1 + 1) = decide (r.1 = 80 + (i.1 + 1)) := by decide +kernel
theorem bs_2 : ∀ r : Fin 121, ∀ i : Fin 40, lb (bsf (nI r.1 - 80) 2) (i.1 + 1) = decide (r.1 = 80 + 2 * (i.1 + 1)) := by decide +kernel
theorem bs_rest {a b c : Nat} (hb : b ≤ 40) (hc : c ≤ 40) : nI a - nI b - nI c = nI (80 + a - b - c) - 80 := by
  have e : nI (80 + a - b - c) = nI 80 + nI a - nI b - nI c := by
    rw [nI_add, pk_sub (by omega), pk_sub (by omega)]
  have e8 : nI 80 = 80 := rfl
  rw [e, e8]
  generalize nI a = x
  generalize nI b = y
  generalize nI c = z
  grind
/-! the clues as numbers, out of the cells D -/
def tv (x y z u : Nat) : Nat := if u = 0 then x else if u = 1 then y else z
def kD (D : Nat → Int32) (c : Nat) : Nat := (D (6 * c)).toNatClampNeg
def uD (D : Nat → Int32) (c f : Nat) : Nat := (D (6 * c + f)).toNatClampNeg
def alD (D : Nat → Int32) (hm nz bg : Nat → Nat) (wd : Nat → Nat → Int32) (c v : Nat) : Prop := (kD D c = 3 ∧ uD D c 2 ≤ v ∧ v ≤ uD D c 3) ∨ (kD D c = 0 ∧ mm hm nz bg wd (uD D c 2) (D (6 * c + 3)) (D (6 * c + 4)) (D (6 * c + 5)) (v - 1))
/-- clue c holds of x, y, z -/
def hcD (D : Nat → Int32) (hm nz bg : Nat → Nat) (wd : Nat → Nat → Int32) (c x y z : Nat) : Prop := (kD D c = 1 ∧ tv x y z (uD D c 1) + tv x y z (uD D c 2) = tv x y z (uD D c 3)) ∨ (kD D c = 2 ∧ tv x y z (uD D c 1) < tv x y z (uD D c 2)) ∨ alD D hm nz bg wd c (tv x y z (uD D c 1))
def clF (D : Nat → Int32) (n c : Nat) : Prop := (uD D c 1 < 3 ∧ D (6 * c + 1) = nI (uD D c 1)) ∧ ((kD D c = 0 ∧ D (6 * c) = 0 ∧ uD D c 2 < n ∧ D (6 * c + 2) = nI (uD D c 2)) ∨ (kD D c = 1 ∧ D (6 * c) = 1 ∧ (uD D c 2 < 3 ∧ D (6 * c + 2) = nI (uD D c 2)) ∧ uD D c 3 < 3 ∧ D (6 * c + 3) = nI (uD D c 3)) ∨ (kD D c = 2 ∧ D (6 * c) = 2 ∧ (uD D c 2 < 3 ∧ D (6 * c + 2) = nI (uD D c 2)) ∧ uD D c 1 ≠ uD D c 2) ∨ (kD D c = 3 ∧ D (6 * c) = 3 ∧ (uD D c 2 ≤ 40 ∧ D (6 * c + 2) = nI (uD D c 2)) ∧ uD D c 3 ≤ 40 ∧ D (6 * c + 3) = nI (uD D c 3)))
theorem cl_of {x : Int32} {k : Nat} (h : x = nI k) (hk : k < 2 ^ 31) : x.toNatClampNeg = k ∧ x = nI x.toNatClampNeg := by
  subst h
  rw [nI_clamp hk]
  exact ⟨rfl, rfl⟩
theorem clF_of {st : xSt} {n q mt c : Nat} (hn : n ≤ 6) (K : RelR st n q mt) (hc : c < q) : clF (st.1 32) n c := by
  have a := (K.2.2.2.2 c hc).2
  unfold clF
  unfold clueOK at a
  rcases a with ⟨e0, ⟨u, hu, e1⟩, ⟨j, hj, e2⟩, -⟩ | ⟨e0, ⟨u, hu, e1⟩, ⟨v, hv, e2⟩, w, hw, e3⟩ | ⟨e0, u, v, hu, hv, hne, e1, e2⟩ | ⟨e0, ⟨u, hu, e1⟩, v, w, h1, h2, h3, e2, e3⟩
  · obtain ⟨a1, b1⟩ := cl_of e1 (by omega)
    obtain ⟨a2, b2⟩ := cl_of e2 (by omega)
    refine ⟨⟨by unfold uD; omega, b1⟩, Or.inl ⟨by unfold kD; rw [e0]; rfl, e0, by unfold uD; omega, b2⟩⟩
  · obtain ⟨a1, b1⟩ := cl_of e1 (by omega)
    obtain ⟨a2, b2⟩ := cl_of e2 (by omega)
    obtain ⟨a3, b3⟩ := cl_of e3 (by omega)
    refine ⟨⟨by unfold uD; omega, b1⟩, Or.inr (Or.inl ⟨by unfold kD; rw [e0]; rfl, e0, ⟨by unfold uD; omega, b2⟩, by unfold uD; omega, b3⟩)⟩
  · obtain ⟨a1, b1⟩ := cl_of e1 (by omega)
    obtain ⟨a2, b2⟩ := cl_of e2 (by omega)
    refine ⟨⟨by unfold uD; omega, b1⟩, Or.inr (Or.inr (Or.inl ⟨by unfold kD; rw [e0]; rfl, e0, ⟨by unfold uD; omega, b2⟩, by unfold uD; omega⟩))⟩
  · obtain ⟨a1, b1⟩ := cl_of e1 (by omega)
    obtain ⟨a2, b2⟩ := cl_of e2 (by omega)
    obtain ⟨a3, b3⟩ := cl_of e3 (by omega)
    refine ⟨⟨by unfold uD; omega, b1⟩, Or.inr (Or.inr (Or.inr ⟨by unfold kD; rw [e0]; rfl, e0, ⟨by unfold uD; omega, b2⟩, by unfold uD; omega, b3⟩))⟩
theorem RelR.sm {st st' : xSt} {n q mt : Nat} (K : RelR st n q mt) (h : Sm st st') : RelR st' n q mt := K.congr (fun p k g => h p k (by simp [g]))
theorem Sm.d32 {st st' : xSt} (h : Sm st st') : st'.1 32 = st.1 32 := funext fun k => h 32 k (Or.inr (Or.inr (Or.inl (by unfold inR; omega))))
theorem sm_out {st : xSt} {p k : Nat} {v : Int32} (h : p = 18 ∨ p = 33 ∨ p = 34 ∨ (p = 3 ∧ k = 6)) : Sm st (xup st p k v) := fun p' k' g => xup_off (by unfold inC inS inR inD inL inT at g; omega)
theorem sm_L {st : xSt} {p k : Nat} {v : Int64} : Sm st (xupL st p k v) := fun _ _ _ => rfl
theorem xs58 (c : Nat) (h : c < 8) : xshapes[58 + c]? = some (.inr (0, 6, 0)) := by
  rcases (by omega : c = 0 ∨ c = 1 ∨ c = 2 ∨ c = 3 ∨ c = 4 ∨ c = 5 ∨ c = 6 ∨ c = 7) with rfl | rfl | rfl | rfl | rfl | rfl | rfl | rfl <;> rfl
theorem rng2 {v a b : Nat} (hv : v < 2 ^ 31) (ha : a < 2 ^ 31) (hb : b < 2 ^ 31) : (¬ nI v < nI a ∧ ¬ nI b < nI v) ↔ a ≤ v ∧ v ≤ b := by
  rw [nI_ltI hv ha, nI_ltI hb hv]
  omega
section RDL
variable {st : xSt} {n q mt : Nat} {hm nz bg : Nat → Nat} {wd : Nat → Nat → Int32} {d c v : Nat} {P : Int32 → xSt → Prop}
/-- does clue c, taken alone, allow the number v + 1 -/
theorem sX3_allows (K : RelC st n hm nz bg wd) (KR : RelR st n q mt) (hc : c < q) (hv : v < 40) (h1 : (kD (st.1 32) c = 1 ∨ kD (st.1 32) c = 2 ∨ alD (st.1 32) hm nz bg wd c (v + 1)) → P 1 st) (h0 : ¬ (kD (st.1 32) c = 1 ∨ kD (st.1 32) c = 2 ∨ alD (st.1 32) hm nz bg wd c (v + 1)) → P 0 st) : Ct (d + 4) M_X3_allows [.ref (58 + c), .ref 2, .int (nI (v + 1))] st (Qi P) := by
  have h8 := KR.1
  have F := clF_of K.1 KR hc
  have e := (KR.2.2.2.2 c hc).1
  have e0 := e 0 (by omega)
  have e2 := e 2 (by omega)
  have e3 := e 3 (by omega)
  have eo := (KR.2.2.2.2 c hc).2
  refine eX3_allows _ (xs58 c (by omega)) _ _ ?_
  simp only [c0, c2, c3, c4, c5]
  rw [e0, e2, e3]
  simp only [Nat.add_zero]
  rcases F.2 with ⟨k, k0, hj, k2⟩ | ⟨k, k0, -⟩ | ⟨k, k0, -⟩ | ⟨k, k0, ⟨ha, k2⟩, hb, k3⟩
  · rw [k0]
    refine bnF rfl ?_
    have e45 : st.1 (58 + c) 4 = st.1 32 (6 * c + 4) ∧ st.1 (58 + c) 5 = st.1 32 (6 * c + 5) := by
      unfold clueOK at eo
      rcases eo with ⟨-, -, -, a, b⟩ | ⟨a, -⟩ | ⟨a, -⟩ | ⟨a, -⟩
      · exact ⟨a, b⟩
      · rw [k0] at a
        exact absurd a (by decide)
      · rw [k0] at a
        exact absurd a (by decide)
      · rw [k0] at a
        exact absurd a (by decide)
    rw [k2, e45.1, e45.2]
    refine sX0_means K hj (by omega) (fun g => ⟨Or.inr rfl, qi (h1 (Or.inr (Or.inr (Or.inr ⟨k, ?_⟩))))⟩) (fun g => ⟨Or.inl rfl, qi (h0 (fun z => ?_))⟩)
    · exact g
    · rcases z with z | z | ⟨z, -⟩ | ⟨-, z⟩
      · omega
      · omega
      · omega
      · exact g z
  · rw [k0]
    exact bnT (by decide) (bnT (by decide) (qi (h1 (Or.inl k))))
  · rw [k0]
    exact bnT (by decide) (bnT (by decide) (qi (h1 (Or.inr (Or.inl k)))))
  · rw [k0]
    refine bnT (by decide) (bnF rfl ?_)
    rw [k2, k3]
    by_cases g : uD (st.1 32) c 2 ≤ v + 1 ∧ v + 1 ≤ uD (st.1 32) c 3
    · exact sW1 ((rng2 (by omega) (by omega) (by omega)).mpr g) (f1 (qi (h1 (Or.inr (Or.inr (Or.inl ⟨k, g⟩))))))
    · refine sW0 (fun z => g ((rng2 (by omega) (by omega) (by omega)).mp z)) (f0 (qi (h0 (fun z => ?_))))
      rcases z with z | z | ⟨-, z⟩ | ⟨z, -⟩
      · omega
      · omega
      · exact g z
      · omega
/-- does clue c hold of what is tried -/
theorem sX7_holds {x y z : Nat} (K : RelC st n hm nz bg wd) (KR : RelR st n q mt) (hc : c < q) (hx : ∀ u, u < 3 → st.1 33 u = nI (tv x y z u) ∧ 1 ≤ tv x y z u ∧ tv x y z u ≤ 40) (h1 : hcD (st.1 32) hm nz bg wd c x y z → P 1 st) (h0 : ¬ hcD (st.1 32) hm nz bg wd c x y z → P 0 st) : Ct (d + 4) M_X7_holds [.ref 7, .int (nI c)] st (Qi P) := by
  have h8 := KR.1
  have F := clF_of K.1 KR hc
  have e6 : (6 : Int32) * nI c = nI (6 * c) := pk_mul 6 c
  have r0 : (nI (6 * c)).toNatClampNeg = 6 * c := nI_clamp (by omega)
  have r1 : nI (6 * c) + 1 = nI (6 * c + 1) := nI_add _ 1
  have r2 : nI (6 * c) + 2 = nI (6 * c + 2) := nI_add _ 2
  have r3 : nI (6 * c) + 3 = nI (6 * c + 3) := nI_add _ 3
  have r4 : nI (6 * c) + 4 = nI (6 * c + 4) := nI_add _ 4
  have r5 : nI (6 * c) + 5 = nI (6 * c + 5) := nI_add _ 5
  have s1 : (nI (6 * c + 1)).toNatClampNeg = 6 * c + 1 := nI_clamp (by omega)
  have s2 : (nI (6 * c + 2)).toNatClampNeg = 6 * c + 2 := nI_clamp (by omega)
  have s3 : (nI (6 * c + 3)).toNatClampNeg = 6 * c + 3 := nI_clamp (by omega)
  have s4 : (nI (6 * c + 4)).toNatClampNeg = 6 * c + 4 := nI_clamp (by omega)
  have s5 : (nI (6 * c + 5)).toNatClampNeg = 6 * c + 5 := nI_clamp (by omega)
  obtain ⟨⟨hu, k1⟩, F⟩ := F
  refine eX7_holds _ _ ?_
  simp only [e6, r0, r1, r2, r3, r4, r5, s1, s2, s3, s4, s5]
  generalize hD : st.1 32 = D at *
  obtain ⟨ht, ht1, ht2⟩ := hx _ hu
  have cu : (D (6 * c + 1)).toNatClampNeg = uD D c 1 := rfl
  have cu2 : (D (6 * c + 2)).toNatClampNeg = uD D c 2 := rfl
  have cu3 : (D (6 * c + 3)).toNatClampNeg = uD D c 3 := rfl
  refine ⟨pk_in (6 * c + 1) 48 (by omega), pk_in (uD D c 1) 3 hu k1, pk_in (6 * c) 48 (by omega), ?_⟩
  rw [cu, ht]
  rcases F with ⟨k, k0, hj, k2⟩ | ⟨k, k0, ⟨hj, k2⟩, hl, k3⟩ | ⟨k, k0, ⟨hj, k2⟩, hne⟩ | ⟨k, k0, ⟨ha, k2⟩, hb, k3⟩
  · rw [k0]
    refine ⟨fun g => absurd g (by decide), fun _ => ⟨pk_in (6 * c + 2) 48 (by omega), pk_in (6 * c + 3) 48 (by omega), pk_in (6 * c + 4) 48 (by omega), pk_in (6 * c + 5) 48 (by omega), ?_⟩, fun g => absurd g (by decide), fun g => absurd g (by decide)⟩
    rw [k2]
    obtain ⟨t, et⟩ : ∃ t, tv x y z (uD D c 1) = t + 1 := ⟨tv x y z (uD D c 1) - 1, by omega⟩
    unfold hcD alD at h1 h0
    rw [et] at h1 h0 ⊢
    refine sX7_mayMean K hj (by omega) (fun g => ⟨Or.inr rfl, qi (h1 (Or.inr (Or.inr (Or.inr ⟨k, g⟩))))⟩) (fun g => ⟨Or.inl rfl, qi (h0 (fun w => ?_))⟩)
    rcases w with ⟨w, -⟩ | ⟨w, -⟩ | ⟨w, -⟩ | ⟨-, w⟩
    · omega
    · omega
    · omega
    · exact g w
  · rw [k0]
    refine ⟨fun g => absurd g (by decide), fun g => absurd g (by decide), fun _ => ⟨pk_in (6 * c + 2) 48 (by omega), pk_in (uD D c 2) 3 hj k2, pk_in (6 * c + 3) 48 (by omega), pk_in (uD D c 3) 3 hl k3, ?_⟩, fun g => absurd g (by decide)⟩
    obtain ⟨hta, hta1, hta2⟩ := hx _ hj
    obtain ⟨htb, htb1, htb2⟩ := hx _ hl
    rw [cu2, cu3, hta, htb, nI_add]
    refine ⟨fun g => qi (h0 (fun w => ?_)), fun g => qi (h1 (Or.inl ⟨k, (nI_eq (by omega) (by omega)).mp g⟩))⟩
    rcases w with ⟨-, w⟩ | ⟨w, -⟩ | ⟨w, -⟩ | ⟨w, -⟩
    · exact g (by rw [w])
    · omega
    · omega
    · omega
  · rw [k0]
    refine ⟨fun g => absurd g (by decide), fun g => absurd g (by decide), fun g => absurd g (by decide), fun _ => ⟨pk_in (6 * c + 2) 48 (by omega), pk_in (uD D c 2) 3 hj k2, ?_⟩⟩
    obtain ⟨hta, hta1, hta2⟩ := hx _ hj
    rw [cu2, hta]
    refine ⟨fun g => qi (h0 (fun w => ?_)), fun g => qi (h1 (Or.inr (Or.inl ⟨k, ?_⟩)))⟩
    · have g2 := (nI_leI (by omega) (by omega)).mp g
      rcases w with ⟨w, -⟩ | ⟨-, w⟩ | ⟨w, -⟩ | ⟨w, -⟩ <;> omega
    · exact Nat.not_le.mp (fun w => g ((nI_leI (by omega) (by omega)).mpr w))
  · rw [k0]
    refine ⟨fun _ => ⟨pk_in (6 * c + 2) 48 (by omega), pk_in (6 * c + 3) 48 (by omega), ?_⟩, fun g => absurd g (by decide), fun g => absurd g (by decide), fun g => absurd g (by decide)⟩
    rw [k2, k3]
    by_cases g : uD D c 2 ≤ tv x y z (uD D c 1) ∧ tv x y z (uD D c 1) ≤ uD D c 3
    · exact sI1 ((rng2 (by omega) (by omega) (by omega)).mpr g) ⟨Or.inr rfl, qi (h1 (Or.inr (Or.inr (Or.inl ⟨k, g⟩))))⟩
    · refine sI0 (fun w => g ((rng2 (by omega) (by omega) (by omega)).mp w)) ⟨Or.inl rfl, qi (h0 (fun w => ?_))⟩
      rcases w with ⟨w, -⟩ | ⟨w, -⟩ | ⟨-, w⟩ | ⟨w, -⟩
      · omega
      · omega
      · exact g w
      · omega
end RDL
