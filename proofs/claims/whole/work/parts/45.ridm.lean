/-! the class's search -/
theorem cn_ex {p : Nat → Prop} {i : Nat} : ∀ {n : Nat}, i < cn p n → ∃ z, z < n ∧ p z ∧ cn p z = i
  | 0, h => by
    have : cn p 0 = 0 := rfl
    omega
  | n + 1, h => by
    by_cases g : p n
    · rw [cn_yes g] at h
      by_cases e : i = cn p n
      · exact ⟨n, by omega, g, e.symm⟩
      · obtain ⟨z, a, b, c⟩ := cn_ex (p := p) (n := n) (i := i) (by omega)
        exact ⟨z, by omega, b, c⟩
    · rw [cn_no g] at h
      obtain ⟨z, a, b, c⟩ := cn_ex (p := p) (n := n) (i := i) h
      exact ⟨z, by omega, b, c⟩
theorem cn_up {p : Nat → Prop} {a : Nat} : ∀ {b : Nat}, a ≤ b → cn p a ≤ cn p b
  | 0, h => by
    have : a = 0 := by omega
    rw [this]
    exact Nat.le_refl _
  | b + 1, h => by
    by_cases e : a = b + 1
    · rw [e]
      exact Nat.le_refl _
    · have := cn_up (p := p) (a := a) (b := b) (by omega)
      by_cases g : p b
      · rw [cn_yes g]; omega
      · rw [cn_no g]; exact this
theorem cn_one {p : Nat → Prop} {a b : Nat} (ha : p a) (hb : p b) (e : cn p a = cn p b) : a = b := by
  rcases Nat.lt_trichotomy a b with h | h | h
  · have := cn_up (p := p) (a := a + 1) (b := b) h
    rw [cn_yes ha] at this
    omega
  · exact h
  · have := cn_up (p := p) (a := b + 1) (b := a) h
    rw [cn_yes hb] at this
    omega
theorem lb_ne {N : Int64} (h : ¬ N = 0) : ∃ i, lb N i = true := by
  apply Classical.byContradiction
  intro g
  apply h
  apply Int64.toBitVec_inj.mp
  apply BitVec.eq_of_getLsbD_eq
  intro i hi
  show lb N i = lb 0 i
  rw [lb_0]
  cases hb : lb N i with
  | false => rfl
  | true => exact (g ⟨i, hb⟩).elim
def ms1 (st : xSt) (v : Int32) : xSt := xup st 3 6 ((st.1 3 6) + v)
def ms2 (st : xSt) (v : Int32) : xSt := xupL (ms1 st v) 17 0 (((ms1 st v).2 17 0) ||| ((1 : Int64) <<< (((ms1 st v).1 18 0 : Int32).toInt64 &&& 63)))
def ms3 (st : xSt) (v : Int32) : xSt := xupL (ms2 st v) 17 1 (((ms2 st v).2 17 1) ||| ((1 : Int64) <<< (((ms2 st v).1 18 1 : Int32).toInt64 &&& 63)))
def ms4 (st : xSt) (v : Int32) (a : Int64) : xSt := xupL (ms3 st v) 17 2 (((ms3 st v).2 17 2) ||| a)
/-- what meet leaves: the count, and the numbers met -/
def mS (st st' : xSt) (x y t : Nat) (N : Int64) : Prop := Sm st st' ∧ st'.2 16 = st.2 16 ∧ st'.1 3 6 = nI t ∧ (st'.1 18 0 = st.1 18 0 ∧ st'.1 18 1 = st.1 18 1) ∧ (∀ i, lb (st'.2 17 0) i = true ↔ lb (st.2 17 0) i = true ∨ i = x) ∧ (∀ i, lb (st'.2 17 1) i = true ↔ lb (st.2 17 1) i = true ∨ i = y) ∧ ∀ i, lb (st'.2 17 2) i = true ↔ lb (st.2 17 2) i = true ∨ lb N i = true
theorem ms_ok {st : xSt} {x y t k : Nat} {N : Int64} (h18 : st.1 18 0 = nI x ∧ st.1 18 1 = nI y) (hx : x < 42) (hy : y < 42) (hT : st.1 3 6 = nI t) : mS st (ms4 st (nI k) N) x y (t + k) N := by
  have r0 : (ms1 st (nI k)).1 18 0 = nI x := by
    unfold ms1
    rw [xup_off (by omega)]
    exact h18.1
  have r1 : (ms2 st (nI k)).1 18 1 = nI y := by
    show (ms1 st (nI k)).1 18 1 = nI y
    unfold ms1
    rw [xup_off (by omega)]
    exact h18.2
  refine ⟨?_, ?_, ?_, ⟨?_, ?_⟩, fun i => ?_, fun i => ?_, fun i => ?_⟩
  · exact (sm_out (k := 6) (Or.inr (Or.inr (Or.inr ⟨rfl, rfl⟩)))).trans (sm_L.trans (sm_L.trans sm_L))
  · funext j
    unfold ms4 ms3 ms2 ms1
    rw [xupL_off (by omega), xupL_off (by omega), xupL_off (by omega)]
    rfl
  · show (ms1 st (nI k)).1 3 6 = _
    unfold ms1
    rw [xup_eq, hT, nI_add]
  · show (ms1 st (nI k)).1 18 0 = _
    unfold ms1
    rw [xup_off (by omega)]
  · show (ms1 st (nI k)).1 18 1 = _
    unfold ms1
    rw [xup_off (by omega)]
  · unfold ms4 ms3
    rw [xupL_off (by omega), xupL_off (by omega)]
    unfold ms2
    rw [xupL_eq, lb_or, Bool.or_eq_true, r0, lb_bit hx]
    exact Iff.rfl
  · unfold ms4
    rw [xupL_off (by omega)]
    unfold ms3
    rw [xupL_eq, lb_or, Bool.or_eq_true, r1, lb_bit hy]
    unfold ms2
    rw [xupL_off (by omega)]
    exact Iff.rfl
  · unfold ms4
    rw [xupL_eq, lb_or, Bool.or_eq_true]
    unfold ms3 ms2
    rw [xupL_off (by omega), xupL_off (by omega)]
    exact Iff.rfl
section RCM
variable {st : xSt} {n q mt : Nat} {hm nz bg : Nat → Nat} {wd : Nat → Nat → Int32} {d c v w s u : Nat} {κ : xK} {Q : Option Value → xSt → Prop} {P : Int32 → xSt → Prop}
theorem lX3_nth {N : Int64} {i z : Nat} (C : Cx κ M_X3_nth (d + 1)) (Z : xR κ Q) (hz : z ≤ 40) (hb : lb N z = true) (hi : cn (fun j => lb N j = true) z = i) (hq : Q (some (.int (nI z))) st) : ∀ (f v : Nat), v + f = z → X κ 5 [(0, .long N), (2, .int (nI i)), (3, .int (nI (cn (fun j => lb N j = true) v))), (4, .int (nI v))] [] st
  | 0, v, e => by
    have ev : v = z := by omega
    rw [ev, hi]
    exact bX3_nth_5 C Z _ _ _ _ _ (brF (nI_nlt (a := 40) (by omega) (by omega)) (sX3_isAmong (by omega) (fun _ => f1 (bnF rfl hq)) (fun g => (g hb).elim)))
  | f + 1, v, e => by
    have l1 := cn_le (fun j => lb N j = true) v
    have l2 := cn_le (fun j => lb N j = true) z
    refine bX3_nth_5 C Z _ _ _ _ _ (brF (nI_nlt (a := 40) (by omega) (by omega)) (sX3_isAmong (by omega) (fun g => f1 (bnT (fun e2 => ?_) ?_)) (fun g => f0 ?_)))
    · have e3 := (nI_eq (by omega) (by omega)).mp e2
      have := cn_up (p := fun j => lb N j = true) (a := v + 1) (b := z) (by omega)
      rw [cn_yes (p := fun j => lb N j = true) g] at this
      omega
    · simp only [nI_1]
      rw [← cn_yes (p := fun j => lb N j = true) g]
      exact lX3_nth C Z hz hb hi hq f (v + 1) (by omega)
    · simp only [nI_1]
      rw [← cn_no (p := fun j => lb N j = true) g]
      exact lX3_nth C Z hz hb hi hq f (v + 1) (by omega)
theorem sX3_nth {N : Int64} {i z : Nat} (h0 : ¬ lb N 0 = true) (hz : z ≤ 40) (hb : lb N z = true) (hi : cn (fun j => lb N j = true) z = i) (hp : P (nI z) st) : Ct (d + 1) M_X3_nth [.long N, .int (nI i)] st (Qi P) := by
  refine eX3_nth _ _ _ (fun κ C Z => ?_)
  have e1 : cn (fun j => lb N j = true) 1 = 0 := cn_no (p := fun j => lb N j = true) h0
  have hz1 : 1 ≤ z := by
    rcases Nat.eq_zero_or_pos z with e | e
    · rw [e] at hb
      exact (h0 hb).elim
    · exact e
  have := lX3_nth C Z hz hb hi (qi hp) (z - 1) 1 (by omega)
  rw [e1] at this
  exact this
/-- what may be wanted: nothing, or the i-th, not yet passed at k -/
def wt (a : Int32) (k : Nat) : Prop := a < 0 ∨ ∃ i, a = nI i ∧ i < 2 ^ 31 ∧ k ≤ i
theorem sX3_meet {N : Int64} {x y t : Nat} {a3 : Int32} (h18 : st.1 18 0 = nI x ∧ st.1 18 1 = nI y) (hx : x < 42) (hy : y < 42) (hT : st.1 3 6 = nI t) (ht : t < 2 ^ 29) (hN : ∀ i, lb N i = true → 1 ≤ i ∧ i ≤ 40) (hw : wt a3 t) (h0 : N = 0 → P 0 st) (hp : ¬ N = 0 → ∀ st', mS st st' x y (t + cn (fun j => lb N j = true) 64) N → wt a3 (t + cn (fun j => lb N j = true) 64) → P 0 st') (hp1 : ∀ (st' : xSt) (z i : Nat), a3 = nI i → i < 2 ^ 31 → lb N z = true → t + cn (fun j => lb N j = true) z = i → i < t + cn (fun j => lb N j = true) 64 → mS st st' x y (t + cn (fun j => lb N j = true) 64) N → st'.1 18 2 = nI z → P 1 st') : Ct (d + 2) M_X3_meet [.ref 3, .long N, .int a3] st (Qi P) := by
  have hk := cn_le (fun j => lb N j = true) 64
  refine eX3_meet _ _ _ ?_
  simp only [c0, c1, c2]
  refine ⟨fun e => sJ13_bitCount N ?_, fun e => qi (h0 ((lg_cmp_eq _ _).mp e))⟩
  have hne : ¬ N = 0 := fun z => e ((lg_cmp_eq _ _).mpr z)
  generalize hkk : cn (fun j => lb N j = true) 64 = k at *
  have M := ms_ok (k := k) (N := N) h18 hx hy hT
  show (a3 < 0 → Qi P (some (.int 0)) (ms4 st (nI k) N)) ∧ (¬ a3 < 0 → ((a3 < (ms4 st (nI k) N).1 3 6 → Ct (d + 1) M_X3_nth [.long N, .int (a3 - st.1 3 6)] (ms4 st (nI k) N) (Qi fun v4 s3 => Qi P (some (.int 1)) (xup s3 18 2 v4))) ∧ (¬ a3 < (ms4 st (nI k) N).1 3 6 → Qi P (some (.int 0)) (ms4 st (nI k) N))))
  rw [M.2.2.1, hT]
  refine ⟨fun g => qi (hp hne _ M (Or.inl g)), fun g => ?_⟩
  obtain ⟨i, rfl, hi, hti⟩ := hw.elim (fun z => (g z).elim) id
  refine ⟨fun g2 => ?_, fun g2 => qi (hp hne _ M (Or.inr ⟨i, rfl, hi, ?_⟩))⟩
  · have g3 := (nI_ltI (by omega) (by omega)).mp g2
    rw [pk_sub hti]
    obtain ⟨z, hz, hz2, hz3⟩ := cn_ex (p := fun j => lb N j = true) (n := 64) (i := i - t) (by omega)
    refine sX3_nth (fun b => by have := hN 0 b; omega) (hN z hz2).2 hz2 hz3 (qi (hp1 _ z i rfl hi hz2 (by omega) g3 ?_ (by rw [xup_eq])))
    obtain ⟨m1, m2, m3, m4, m5⟩ := M
    refine ⟨m1.trans (sm_out (Or.inl rfl)), m2, ?_, ?_, m5⟩
    · rw [xup_off (by omega)]
      exact m3
    · rw [xup_off (by omega), xup_off (by omega)]
      exact m4
  · exact Nat.not_lt.mp (fun z => g2 ((nI_ltI (by omega) (by omega)).mpr z))
end RCM
/-! blocks of ways: unknowns 0 and 1 as they are, the last one runs -/
theorem blk {mt x y z : Nat} (hz : z < mt) (hy : y < mt) : (mt * (mt * x + y) + z) / mt / mt = x ∧ (mt * (mt * x + y) + z) / mt % mt = y ∧ (mt * (mt * x + y) + z) % mt = z := by
  have h1 : (mt * (mt * x + y) + z) / mt = mt * x + y := by rw [Nat.mul_add_div (by omega), Nat.div_eq_of_lt hz, Nat.add_zero]
  have h2 : (mt * x + y) / mt = x := by rw [Nat.mul_add_div (by omega), Nat.div_eq_of_lt hy, Nat.add_zero]
  refine ⟨by rw [h1, h2], by rw [h1, Nat.mul_add_mod, Nat.mod_eq_of_lt hy], by rw [Nat.mul_add_mod, Nat.mod_eq_of_lt hz]⟩
theorem blkx {mt x w : Nat} (h0 : 0 < mt) (h1 : mt * (mt * x) ≤ w) (h2 : w < mt * (mt * x + mt)) : w / mt / mt = x := by
  have a : mt * x ≤ w / mt := (Nat.le_div_iff_mul_le h0).mpr (by rw [Nat.mul_comm]; exact h1)
  have b : w / mt < mt * x + mt := Nat.div_lt_of_lt_mul h2
  have c : x ≤ w / mt / mt := (Nat.le_div_iff_mul_le h0).mpr (by rw [Nat.mul_comm]; exact a)
  have d : w / mt / mt < x + 1 := Nat.div_lt_of_lt_mul (by rw [Nat.mul_add, Nat.mul_one]; exact b)
  exact Nat.le_antisymm (Nat.lt_succ_iff.mp d) c
def IV (st0 st : xSt) (aw : Nat → Nat → Prop) (p : Nat → Prop) (q mt W : Nat) : Prop := Sm st0 st ∧ (∀ c, c < q → AL st aw c mt) ∧ st.1 3 6 = nI (cn p W) ∧ ∀ u, u < 3 → ∀ i, lb (st.2 17 u) i = true ↔ ∃ w, w < W ∧ p w ∧ co mt w u = i
theorem IV.ext {st0 st : xSt} {aw : Nat → Nat → Prop} {p : Nat → Prop} {q mt W W' : Nat} (h : IV st0 st aw p q mt W) (hW : W ≤ W') (hn : ∀ w, W ≤ w → w < W' → ¬ p w) : IV st0 st aw p q mt W' ∧ cn p W' = cn p W := by
  have e := cn_ext hW hn
  obtain ⟨a, b, c, f⟩ := h
  refine ⟨⟨a, b, by rw [e]; exact c, fun u hu i => (f u hu i).trans ⟨fun ⟨w, h1, h2⟩ => ⟨w, by omega, h2⟩, fun ⟨w, h1, h2, h3⟩ => ⟨w, ?_, h2, h3⟩⟩⟩, e⟩
  exact Nat.lt_of_not_le (fun z => hn w z h1 h2)
theorem IV.up {st0 st : xSt} {aw : Nat → Nat → Prop} {p : Nat → Prop} {q mt W k : Nat} {v : Int32} (h : IV st0 st aw p q mt W) : IV st0 (xup st 18 k v) aw p q mt W := by
  obtain ⟨a, b, c, f⟩ := h
  exact ⟨a.trans (sm_out (Or.inl rfl)), b, by rw [xup_off (by omega)]; exact c, f⟩
theorem cnN {p : Nat → Prop} {N : Int64} {W mt : Nat} (h : ∀ i, lb N i = true ↔ (1 ≤ i ∧ i ≤ mt ∧ p (W + (i - 1)))) : ∀ k, k ≤ mt → cn p (W + k) = cn p W + cn (fun j => lb N j = true) (k + 1)
  | 0, _ => by
    have e1 : cn (fun j => lb N j = true) (0 + 1) = 0 := cn_no (p := fun j => lb N j = true) (fun z => by have := (h 0).mp z; omega)
    rw [e1]
    rfl
  | k + 1, hk => by
    have ih := cnN h k (by omega)
    by_cases g : p (W + k)
    · rw [show W + (k + 1) = (W + k) + 1 by omega, cn_yes g, ih, cn_yes (p := fun j => lb N j = true) (n := k + 1) ((h (k + 1)).mpr ⟨by omega, hk, g⟩)]
      omega
    · rw [show W + (k + 1) = (W + k) + 1 by omega, cn_no g, ih, cn_no (p := fun j => lb N j = true) (n := k + 1) (fun z => g ((h (k + 1)).mp z).2.2)]
theorem cnN64 {p : Nat → Prop} {N : Int64} {W mt : Nat} (h : ∀ i, lb N i = true ↔ (1 ≤ i ∧ i ≤ mt ∧ p (W + (i - 1)))) (hm : mt ≤ 40) : cn p (W + mt) = cn p W + cn (fun j => lb N j = true) 64 := by
  rw [cnN h mt (Nat.le_refl _), cn_ext (p := fun j => lb N j = true) (m := mt + 1) (n := 64) (by omega) (fun v h1 h2 z => by have := (h v).mp z; omega)]
