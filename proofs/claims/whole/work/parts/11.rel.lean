theorem xup_r (st : xSt) (p k : Nat) (v : Int32) (q j : Nat) : (xup st p k v).1 q j = if q = p ∧ j = k then v else st.1 q j := by
  show (if q = p then upd (st.1 p) k v else st.1 q) j = _
  by_cases e : q = p
  · subst e
    by_cases e2 : j = k
    · simp [upd, e2]
    · simp [upd, e2]
  · simp [e]
theorem xup_eq (st : xSt) (p k : Nat) (v : Int32) : (xup st p k v).1 p k = v := by rw [xup_r, if_pos ⟨rfl, rfl⟩]
theorem xup_off {st : xSt} {p k q j : Nat} {v : Int32} (h : ¬ (q = p ∧ j = k)) : (xup st p k v).1 q j = st.1 q j := by rw [xup_r, if_neg h]
theorem xupL_r (st : xSt) (p k : Nat) (v : Int64) : (xupL st p k v).1 = st.1 := rfl
def inC (p k : Nat) : Prop := (p = 2 ∧ k = 4) ∨ (p = 7 ∧ k = 0) ∨ p = 12 ∨ p = 13 ∨ p = 14 ∨ p = 28 ∨ p = 29 ∨ p = 30 ∨ p = 31 ∨ (52 ≤ p ∧ p < 58)
def inS (p k : Nat) : Prop := (p = 1 ∧ k = 3) ∨ (p = 7 ∧ k = 31) ∨ p = 9 ∨ p = 10 ∨ p = 43 ∨ p = 44 ∨ p = 45 ∨ p = 46 ∨ (48 ≤ p ∧ p < 52)
def inR (p k : Nat) : Prop := (p = 3 ∧ (k = 4 ∨ k = 5)) ∨ (p = 7 ∧ (k = 5 ∨ k = 6)) ∨ p = 32 ∨ (58 ≤ p ∧ p < 66)
def inD (p k : Nat) : Prop := (p = 4 ∧ k = 3) ∨ (p = 7 ∧ k = 10) ∨ p = 20 ∨ p = 35 ∨ p = 36 ∨ (66 ≤ p ∧ p < 74)
def inL (p k : Nat) : Prop := (p = 5 ∧ k = 5) ∨ (p = 7 ∧ k = 14) ∨ p = 23 ∨ p = 24 ∨ p = 38 ∨ p = 39 ∨ p = 40 ∨ (74 ≤ p ∧ p < 82)
def inT (p k : Nat) : Prop := (p = 6 ∧ k = 1) ∨ (p = 7 ∧ k = 21) ∨ p = 27 ∨ p = 42
/-- the same but for what calls lay aside -/
def Sm (st st' : xSt) : Prop := ∀ p k, (inC p k ∨ inS p k ∨ inR p k ∨ inD p k ∨ inL p k ∨ inT p k) → st'.1 p k = st.1 p k
theorem Sm.rfl {st : xSt} : Sm st st := fun _ _ _ => Eq.refl _
theorem Sm.trans {a b c : xSt} (h : Sm a b) (h2 : Sm b c) : Sm a c := fun p k q => (h2 p k q).trans (h p k q)
def RelS (st : xSt) (lv : Nat → Bool) (sz : Nat → Nat) : Prop := st.1 1 3 = st.1 7 31 ∧ ∀ s, s < 4 → (lv s = true → (sz s ≤ 60 ∧ st.1 10 s = nI (sz s) ∧ st.1 43 s = 1 ∧ st.1 45 s = nI (sz s)) ∧ (st.1 9 s = st.1 44 s ∧ ∃ f, f ≤ 2 ∧ st.1 44 s = nI f) ∧ ∀ i, i < sz s → st.1 (48 + s) i = st.1 46 (60 * s + i)) ∧ (lv s = false → st.1 10 s = -1 ∧ st.1 43 s = 0)
def clueOK (st : xSt) (n c : Nat) : Prop := (st.1 32 (6 * c) = 0 ∧ (∃ u, u < 3 ∧ st.1 32 (6 * c + 1) = nI u) ∧ (∃ j, j < n ∧ st.1 32 (6 * c + 2) = nI j) ∧ st.1 (58 + c) 4 = st.1 32 (6 * c + 4) ∧ st.1 (58 + c) 5 = st.1 32 (6 * c + 5)) ∨ (st.1 32 (6 * c) = 1 ∧ (∃ u, u < 3 ∧ st.1 32 (6 * c + 1) = nI u) ∧ (∃ u, u < 3 ∧ st.1 32 (6 * c + 2) = nI u) ∧ ∃ u, u < 3 ∧ st.1 32 (6 * c + 3) = nI u) ∨ (st.1 32 (6 * c) = 2 ∧ ∃ u v, u < 3 ∧ v < 3 ∧ u ≠ v ∧ st.1 32 (6 * c + 1) = nI u ∧ st.1 32 (6 * c + 2) = nI v) ∨ (st.1 32 (6 * c) = 3 ∧ (∃ u, u < 3 ∧ st.1 32 (6 * c + 1) = nI u) ∧ ∃ a b, 1 ≤ a ∧ a ≤ b ∧ b ≤ 40 ∧ st.1 32 (6 * c + 2) = nI a ∧ st.1 32 (6 * c + 3) = nI b)
def RelR (st : xSt) (n q mt : Nat) : Prop := q ≤ 8 ∧ 1 ≤ mt ∧ mt ≤ 40 ∧ (st.1 3 4 = nI q ∧ st.1 7 6 = nI q ∧ st.1 3 5 = nI mt ∧ st.1 7 5 = nI mt) ∧ ∀ c, c < q → (∀ f, f < 4 → st.1 (58 + c) f = st.1 32 (6 * c + f)) ∧ clueOK st n c
def RelD (st : xSt) (n p : Nat) (wy : Nat → Nat) (ow : Nat → Nat → Nat) : Prop := p ≤ 8 ∧ (st.1 4 3 = nI p ∧ st.1 7 10 = nI p) ∧ (∀ a, a < p → wy a < n ∧ st.1 20 a = nI (wy a) ∧ st.1 35 a = nI (wy a)) ∧ (∀ a b, a < 8 → b < 8 → ow a b ≤ 400 ∧ (ow a b = 0 ∨ ow b a = 0) ∧ st.1 (66 + a) b = nI (ow a b) ∧ st.1 36 (8 * a + b) = nI (ow a b) - nI (ow b a)) ∧ (∀ a b, p ≤ a ∨ p ≤ b → ow a b = 0) ∧ ∀ a, ow a a = 0
def RelL (st : xSt) (q : Nat) (len yr : Nat → Nat) (it : Nat → Nat → Int32) : Prop := q ≤ 8 ∧ (st.1 5 5 = nI q ∧ st.1 7 14 = nI q) ∧ ∀ l, l < q → (len l ≤ 30 ∧ yr l ≤ 3000) ∧ (st.1 23 l = nI (len l) ∧ st.1 38 l = nI (len l) ∧ st.1 24 l = nI (yr l) ∧ st.1 39 l = nI (yr l)) ∧ ∀ i, i < len l → st.1 (74 + l) i = it l i ∧ st.1 40 (30 * l + i) = it l i ∧ (it l i = -1 ∨ ∃ w, w ≤ 99 ∧ it l i = nI w)
def RelT (st : xSt) (z : Nat) (bt : Nat → Nat) : Prop := z ≤ 60 ∧ (st.1 6 1 = nI z ∧ st.1 7 21 = nI z) ∧ ∀ i, i < z → bt i ≤ 255 ∧ st.1 27 i = nI (bt i) ∧ st.1 42 i = nI (bt i)
section CG
variable {st st' : xSt}
theorem RelC.congr {n : Nat} {hm nz bg : Nat → Nat} {wd : Nat → Nat → Int32} (K : RelC st n hm nz bg wd) (h : ∀ p k, inC p k → st'.1 p k = st.1 p k) : RelC st' n hm nz bg wd := by
  obtain ⟨h1, h2, h3, h4, h5⟩ := K
  refine ⟨h1, by rw [h 2 4 (by unfold inC; omega)]; exact h2, by rw [h 7 0 (by unfold inC; omega)]; exact h3, fun c hc => ?_, fun c a b => by rw [h 14 c (by unfold inC; omega)]; exact h5 c a b⟩
  obtain ⟨a, b, e, f⟩ := h4 c hc
  refine ⟨a, ?_, ?_, fun k hk => ?_⟩
  · rw [h 12 c (by unfold inC; omega), h 13 c (by unfold inC; omega), h 14 c (by unfold inC; omega)]
    exact b
  · rw [h 29 c (by unfold inC; omega), h 30 c (by unfold inC; omega), h 31 c (by unfold inC; omega)]
    exact e
  · rw [h (52 + c) k (by unfold inC; omega), h 28 _ (by unfold inC; omega)]
    exact f k hk
theorem RelS.congr {lv : Nat → Bool} {sz : Nat → Nat} (K : RelS st lv sz) (h : ∀ p k, inS p k → st'.1 p k = st.1 p k) : RelS st' lv sz := by
  refine ⟨by rw [h 1 3 (by unfold inS; omega), h 7 31 (by unfold inS; omega)]; exact K.1, fun s hs => ?_⟩
  obtain ⟨a, b⟩ := K.2 s hs
  refine ⟨fun hl => ?_, fun hl => ?_⟩
  · obtain ⟨a1, a2, a3⟩ := a hl
    refine ⟨?_, ?_, fun i hi => ?_⟩
    · rw [h 10 s (by unfold inS; omega), h 43 s (by unfold inS; omega), h 45 s (by unfold inS; omega)]
      exact a1
    · rw [h 9 s (by unfold inS; omega), h 44 s (by unfold inS; omega)]
      exact a2
    · rw [h (48 + s) i (by unfold inS; omega), h 46 _ (by unfold inS; omega)]
      exact a3 i hi
  · rw [h 10 s (by unfold inS; omega), h 43 s (by unfold inS; omega)]
    exact b hl
theorem RelR.congr {n q mt : Nat} (K : RelR st n q mt) (h : ∀ p k, inR p k → st'.1 p k = st.1 p k) : RelR st' n q mt := by
  obtain ⟨h1, h2, h3, h4, h5⟩ := K
  refine ⟨h1, h2, h3, ?_, fun c hc => ⟨fun f hf => ?_, ?_⟩⟩
  · rw [h 3 4 (by unfold inR; omega), h 7 6 (by unfold inR; omega), h 3 5 (by unfold inR; omega), h 7 5 (by unfold inR; omega)]
    exact h4
  · rw [h (58 + c) f (by unfold inR; omega), h 32 _ (by unfold inR; omega)]
    exact (h5 c hc).1 f hf
  · have a := (h5 c hc).2
    unfold clueOK at a ⊢
    rw [h 32 (6 * c) (by unfold inR; omega), h 32 (6 * c + 1) (by unfold inR; omega), h 32 (6 * c + 2) (by unfold inR; omega), h 32 (6 * c + 3) (by unfold inR; omega), h 32 (6 * c + 4) (by unfold inR; omega), h 32 (6 * c + 5) (by unfold inR; omega), h (58 + c) 4 (by unfold inR; omega), h (58 + c) 5 (by unfold inR; omega)]
    exact a
theorem RelD.congr {n p : Nat} {wy : Nat → Nat} {ow : Nat → Nat → Nat} (K : RelD st n p wy ow) (h : ∀ p k, inD p k → st'.1 p k = st.1 p k) : RelD st' n p wy ow := by
  obtain ⟨h1, h2, h3, h4, h5⟩ := K
  refine ⟨h1, ?_, fun a ha => ?_, fun a b ha hb => ?_, h5⟩
  · rw [h 4 3 (by unfold inD; omega), h 7 10 (by unfold inD; omega)]
    exact h2
  · rw [h 20 a (by unfold inD; omega), h 35 a (by unfold inD; omega)]
    exact h3 a ha
  · rw [h (66 + a) b (by unfold inD; omega), h 36 _ (by unfold inD; omega)]
    exact h4 a b ha hb
theorem RelL.congr {q : Nat} {len yr : Nat → Nat} {it : Nat → Nat → Int32} (K : RelL st q len yr it) (h : ∀ p k, inL p k → st'.1 p k = st.1 p k) : RelL st' q len yr it := by
  obtain ⟨h1, h2, h3⟩ := K
  refine ⟨h1, ?_, fun l hl => ?_⟩
  · rw [h 5 5 (by unfold inL; omega), h 7 14 (by unfold inL; omega)]
    exact h2
  · obtain ⟨a, b, e⟩ := h3 l hl
    refine ⟨a, ?_, fun i hi => ?_⟩
    · rw [h 23 l (by unfold inL; omega), h 38 l (by unfold inL; omega), h 24 l (by unfold inL; omega), h 39 l (by unfold inL; omega)]
      exact b
    · rw [h (74 + l) i (by unfold inL; omega), h 40 _ (by unfold inL; omega)]
      exact e i hi
theorem RelT.congr {z : Nat} {bt : Nat → Nat} (K : RelT st z bt) (h : ∀ p k, inT p k → st'.1 p k = st.1 p k) : RelT st' z bt := by
  obtain ⟨h1, h2, h3⟩ := K
  refine ⟨h1, ?_, fun i hi => ?_⟩
  · rw [h 6 1 (by unfold inT; omega), h 7 21 (by unfold inT; omega)]
    exact h2
  · rw [h 27 i (by unfold inT; omega), h 42 i (by unfold inT; omega)]
    exact h3 i hi
end CG
def RCx (st : xSt) (n : Nat) : Prop := ∃ hm nz bg wd, RelC st n hm nz bg wd
def RSx (st : xSt) : Prop := ∃ lv sz, RelS st lv sz
def RRx (st : xSt) (n : Nat) : Prop := ∃ q mt, RelR st n q mt
def RDx (st : xSt) (n : Nat) : Prop := ∃ p wy ow, RelD st n p wy ow
def RLx (st : xSt) : Prop := ∃ q len yr it, RelL st q len yr it
def RTx (st : xSt) : Prop := ∃ z bt, RelT st z bt
/-- class and reference agree -/
def RR (st : xSt) : Prop := ∃ n, RCx st n ∧ RSx st ∧ RRx st n ∧ RDx st n ∧ RLx st ∧ RTx st
theorem RR.sm {st st' : xSt} (h : RR st) (s : Sm st st') : RR st' := by
  obtain ⟨n, ⟨hm, nz, bg, wd, c⟩, ⟨lv, sz, k⟩, ⟨q, mt, r⟩, ⟨p, wy, ow, dd⟩, ⟨ql, len, yr, it, l⟩, ⟨z, bt, t⟩⟩ := h
  exact ⟨n, ⟨hm, nz, bg, wd, c.congr (fun p k h => s p k (by simp [h]))⟩, ⟨lv, sz, k.congr (fun p k h => s p k (by simp [h]))⟩, ⟨q, mt, r.congr (fun p k h => s p k (by simp [h]))⟩, ⟨p, wy, ow, dd.congr (fun p k h => s p k (by simp [h]))⟩, ⟨ql, len, yr, it, l.congr (fun p k h => s p k (by simp [h]))⟩, ⟨z, bt, t.congr (fun p k h => s p k (by simp [h]))⟩⟩
/-- the call M6 of the class and the call M7 of the reference with the same values answer alike, and the two agree behind them -/
def Good (M6 M7 : xM) (as : List Value) : Prop := ∀ st, RR st → ∀ P : Int32 → Int32 → xSt → Prop, (∀ v st', RR st' → P v v st') → Ct 60 M6 (.ref 0 :: as) st (Qi fun v s => Ct 60 M7 (.ref 7 :: as) s (Qi fun w s2 => P v w s2))
/-! within and in -/
theorem sW1 {d : Nat} {st : xSt} {P : Int32 → xSt → Prop} {a lo hi : Int32} (h : ¬ a < lo ∧ ¬ hi < a) (hp : P 1 st) : Ct d M_X6_within [.int a, .int lo, .int hi] st (Qi P) := eX6_within _ _ _ _ (brF h.1 (brF h.2 (qi hp)))
theorem sW0 {d : Nat} {st : xSt} {P : Int32 → xSt → Prop} {a lo hi : Int32} (h : ¬ (¬ a < lo ∧ ¬ hi < a)) (hp : P 0 st) : Ct d M_X6_within [.int a, .int lo, .int hi] st (Qi P) := eX6_within _ _ _ _ ⟨fun _ => qi hp, fun e => ⟨fun _ => qi hp, fun e2 => (h ⟨e, e2⟩).elim⟩⟩
theorem sI1 {d : Nat} {st : xSt} {P : Int32 → xSt → Prop} {a lo hi : Int32} (h : ¬ a < lo ∧ ¬ hi < a) (hp : P 1 st) : Ct d M_X7_in [.int a, .int lo, .int hi] st (Qi P) := eX7_in _ _ _ _ (brF h.1 (brF h.2 (qi hp)))
theorem sI0 {d : Nat} {st : xSt} {P : Int32 → xSt → Prop} {a lo hi : Int32} (h : ¬ (¬ a < lo ∧ ¬ hi < a)) (hp : P 0 st) : Ct d M_X7_in [.int a, .int lo, .int hi] st (Qi P) := eX7_in _ _ _ _ ⟨fun _ => qi hp, fun e => ⟨fun _ => qi hp, fun e2 => (h ⟨e, e2⟩).elim⟩⟩
theorem rng {a : Int32} {lo hi : Nat} (hh : hi < 2 ^ 31) (h : ¬ a < nI lo ∧ ¬ nI hi < a) (hl : lo < 2 ^ 31) : ∃ k, lo ≤ k ∧ k ≤ hi ∧ a = nI k := by
  have h0 : ¬ a < 0 := fun q => h.1 (by
    have h1 := Int32.lt_iff_toInt_lt.mp q
    refine Int32.lt_iff_toInt_lt.mpr ?_
    rw [nI_toInt hl]
    have : (0 : Int32).toInt = 0 := by decide
    omega)
  obtain ⟨k, hk, rfl⟩ := nI_of h0
  refine ⟨k, ?_, ?_, Eq.refl _⟩
  · exact Nat.not_lt.mp fun q => h.1 (nI_lt q hl)
  · exact Nat.not_lt.mp fun q => h.2 (nI_lt q hk)
section RC2
variable {st : xSt} {n : Nat} {hm nz bg : Nat → Nat} {wd : Nat → Nat → Int32} {d j : Nat} {c : Int32} {P : Int32 → xSt → Prop}
theorem sX0_has_no (K : RelC st n hm nz bg wd) (h : ∀ j, j < n → c ≠ nI j) (hp : P 0 st) : Ct d M_X0_has [.ref 2, .int c] st (Qi P) := sX0_has K c (fun j hj e => (h j hj e).elim) (fun _ => hp)
theorem sX7_isCount_in (K : RelC st n hm nz bg wd) (hj : j < n) (hp : P 1 st) : Ct (d + 1) M_X7_isCount [.ref 7, .int (nI j)] st (Qi P) := sX7_isCount K (nI j) (fun _ _ _ => hp) (fun q => (q j hj rfl).elim)
theorem sX7_isCount_no (K : RelC st n hm nz bg wd) (h : ∀ j, j < n → c ≠ nI j) (hp : P 0 st) : Ct (d + 1) M_X7_isCount [.ref 7, .int c] st (Qi P) := sX7_isCount K c (fun j hj e => (h j hj e).elim) (fun _ => hp)
theorem isC (n : Nat) (c : Int32) : (∃ j, j < n ∧ c = nI j) ∨ ∀ j, j < n → c ≠ nI j := by
  by_cases h : ∃ j, j < n ∧ c = nI j
  · exact Or.inl h
  · exact Or.inr (fun j hj e => h ⟨j, hj, e⟩)
end RC2
