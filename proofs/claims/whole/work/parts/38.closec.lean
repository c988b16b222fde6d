/-! the class closes -/
def RDc (st : xSt) (p : Nat) (ow : Nat → Nat → Nat) : Prop := p ≤ 8 ∧ st.1 4 3 = nI p ∧ (∀ a b, a < 8 → b < 8 → st.1 (66 + a) b = nI (ow a b)) ∧ inv p ow
def rowC (st : xSt) (k : Nat) (r : Nat → Nat) : Prop := ∀ i, i < k → st.1 21 i = nI (r i)
section S38
variable {st : xSt} {p : Nat} {ow : Nat → Nat → Nat} {d a b j : Nat} {P : Int32 → xSt → Prop} {κ : xK} {Q : Option Value → xSt → Prop}
theorem RDc.off {st st' : xSt} (K : RDc st p ow) (h : Off [21] st st') : RDc st' p ow := by
  refine ⟨K.1, by rw [h 4 3 (by decide)]; exact K.2.1, fun a b ha hb => ?_, K.2.2.2⟩
  rw [h (66 + a) b (by simp; omega)]
  exact K.2.2.1 a b ha hb
theorem kX1_has (K : RDc st p ow) (hj : j < p) (hp : P 1 st) : Ct d M_X1_has [.ref 4, .int (nI j)] st (Qi P) := by
  have h6 := K.1
  refine eX1_has _ _ (brF (nI_pos (by omega)) (brF ?_ (brF ?_ (qi hp))))
  · rw [K.2.1]
    exact nI_ge hj (by omega)
  · exact nI_ge (a := j) (b := 8) (by omega) (by omega)
theorem kX1_left (K : RDc st p ow) (ha : a < p) (hb : b < p) (hp : P (nI (ow a b)) st) : Ct (d + 1) M_X1_left [.ref 4, .int (nI a), .int (nI b)] st (Qi P) := by
  have h8 := K.1
  refine eX1_left _ _ _ (kX1_has K ha (f1 (kX1_has K hb (f1 ⟨pk_in a 8 (by omega), pk_in b 8 (by omega), qi ?_⟩))))
  rw [nI_clamp (n := a) (by omega), nI_clamp (n := b) (by omega), K.2.2.1 a b (by omega) (by omega)]
  exact hp
theorem lX1_inRow {k x : Nat} {r : Nat → Nat} (C : Cx κ M_X1_inRow d) (Z : xR κ Q) (hr : rowC st k r) (hk : k ≤ 8) (hx : x < 8) (hb : ∀ i, i < k → r i < 8) (h1 : (∃ i, i < k ∧ r i = x) → Q (some (.int 1)) st) (h0 : (∀ i, i < k → r i ≠ x) → Q (some (.int 0)) st) : ∀ (f i : Nat), i + f = k → (∀ j, j < i → r j ≠ x) → X κ 2 [(0, .ref 4), (1, .int (nI x)), (2, .int (nI k)), (3, .int (nI i))] [] st
  | 0, i, e, g => by
    rw [show i = k by omega] at g ⊢
    exact bX1_inRow_2 C Z _ _ _ _ (brT (nI_le (by omega) (by omega)) (h0 g))
  | f + 1, i, e, g => by
    have hi := hb i (by omega)
    refine bX1_inRow_2 C Z _ _ _ _ (brF (nI_ge (by omega) (by omega)) (brF (nI_ge (b := 8) (by omega) (by omega)) ⟨pk_in i 8 (by omega), ?_⟩))
    rw [nI_clamp (by omega), hr i (by omega)]
    by_cases q : r i = x
    · exact bnF (by rw [q]) (h1 ⟨i, by omega, q⟩)
    · refine bnT (fun w => q ((nI_eq (by omega) (by omega)).mp w)) ?_
      rw [nI_1]
      exact lX1_inRow C Z hr hk hx hb h1 h0 f (i + 1) (by omega) (fun j hj => by
        by_cases w : j = i
        · rw [w]
          exact q
        · exact g j (by omega))
theorem kX1_inRow {k x : Nat} {r : Nat → Nat} (hr : rowC st k r) (hk : k ≤ 8) (hx : x < 8) (hb : ∀ i, i < k → r i < 8) (h1 : (∃ i, i < k ∧ r i = x) → P 1 st) (h0 : (∀ i, i < k → r i ≠ x) → P 0 st) : Ct d M_X1_inRow [.ref 4, .int (nI x), .int (nI k)] st (Qi P) :=
  eX1_inRow _ _ _ (fun κ C Z => lX1_inRow C Z hr hk hx hb (fun q => qi (h1 q)) (fun q => qi (h0 q)) k 0 (by omega) (fun j hj => by omega))
/-- what goOn does, from k persons on with f more -/
def gOn (p : Nat) (ow : Nat → Nat → Nat) (d f : Nat) : Prop := ∀ (k : Nat) (r : Nat → Nat) (st : xSt) (P : Int32 → xSt → Prop), 1 ≤ k → k + f ≤ 8 → RDc st p ow → rowC st k r → (∀ i, i < k → r i < p) → (∀ r', sr ow p f k r = some r' → ∀ st', Off [21] st st' → rowC st' (k + f) r' → P 1 st') → (sr ow p f k r = none → ∀ st', Off [21] st st' → rowC st' k r → P 0 st') → Ct d M_X1_goOn [.ref 4, .int (nI k), .int (nI (k + f))] st (Qi P)
theorem gOn_0 : gOn p ow (d + 2) 0 := by
  intro k r st P hk hkf K hr hb h1 h0
  have h8 := K.1
  refine eX1_goOn _ _ _ (fun κ C Z => brF (nI_nlt (b := 1) (by omega) (by omega)) (brT (nI_le (b := 8) (by omega) (by omega)) ?_))
  have e : nI k - 1 = nI (k - 1) := by
    obtain ⟨k', rfl⟩ : ∃ k', k = k' + 1 := ⟨k - 1, by omega⟩
    rw [nI_pred]
    rfl
  rw [e, nI_clamp (by omega), hr (k - 1) (by omega)]
  refine ⟨pk_in (k - 1) 8 (by omega), brF (nI_nlt (by omega) (by omega)) ?_⟩
  have e0 : st.1 21 ((0 : Int32).toNatClampNeg) = nI (r 0) := hr 0 (by omega)
  rw [e0]
  refine kX1_left K (hb _ (by omega)) (hb 0 (by omega)) ?_
  unfold sr at h1 h0
  have b1 := hb (k - 1) (by omega)
  have b2 := hb 0 (by omega)
  have hle := (K.2.2.2.1 (r (k - 1)) (r 0) (by omega) (by omega)).1
  by_cases q : 0 < ow (r (k - 1)) (r 0)
  · rw [if_pos q] at h1
    exact brF (nI_nle q (by omega)) (qi (h1 r rfl st Off.rfl hr))
  · rw [if_neg q] at h0
    rw [show ow (r (k - 1)) (r 0) = 0 by omega]
    exact brT (by decide) (qi (h0 rfl st Off.rfl hr))
theorem rowC.up {k x : Nat} {r : Nat → Nat} (hr : rowC st k r) : rowC (xup st 21 k (nI x)) (k + 1) (ur r k x) := by
  intro i hi
  by_cases e : i = k
  · rw [e, xup_eq, ur_eq]
  · rw [xup_off (by omega), ur_ne e]
    exact hr i (by omega)
theorem rowC.cut {k k' : Nat} {r : Nat → Nat} (hr : rowC st k r) (h : k' ≤ k) : rowC st k' r := fun i hi => hr i (by omega)
theorem rowC.ur {k x : Nat} {r : Nat → Nat} (hr : rowC st (k + 1) (ur r k x)) : rowC st k r := fun i hi => by
  rw [hr i (by omega), ur_ne (by omega)]
theorem kX1_goOnWith {f k x : Nat} {r : Nat → Nat} (IH : gOn p ow d f) (hk : 1 ≤ k) (hkf : k + 1 + f ≤ 8) (K : RDc st p ow) (hr : rowC st k r) (hb : ∀ i, i < k → r i < p) (hx : x < p) (h1 : ∀ r', sr ow p f (k + 1) (ur r k x) = some r' → ∀ st', Off [21] st st' → rowC st' (k + 1 + f) r' → P 1 st') (h0 : sr ow p f (k + 1) (ur r k x) = none → ∀ st', Off [21] st st' → rowC st' k r → P 0 st') : Ct (d + 1) M_X1_goOnWith [.ref 4, .int (nI x), .int (nI k), .int (nI (k + 1 + f))] st (Qi P) := by
  refine eX1_goOnWith _ _ _ _ (brF (nI_pos (by omega)) (brT (nI_lt (b := 8) (by omega) (by omega)) ⟨pk_in k 8 (by omega), ?_⟩))
  rw [nI_clamp (by omega), nI_1]
  have o : Off [21] st (xup st 21 k (nI x)) := Off.up (by decide)
  refine IH (k + 1) (ur r k x) _ _ (by omega) hkf (K.off o) hr.up (fun i hi => ?_) (fun r' e st' o2 hr' => ⟨Or.inr rfl, qi ?_⟩) (fun e st' o2 hr' => ⟨Or.inl rfl, qi ?_⟩)
  · by_cases e : i = k
    · rw [e, ur_eq]
      exact hx
    · rw [ur_ne e]
      exact hb i (by omega)
  · exact h1 r' e st' (o.trans o2) hr'
  · exact h0 e st' (o.trans o2) hr'.ur
theorem lX1_goOn {s0 : xSt} {f k : Nat} {r : Nat → Nat} (IH : gOn p ow d f) (C : Cx κ M_X1_goOn (d + 2)) (Z : xR κ Q) (hk : 1 ≤ k) (hkf : k + 1 + f ≤ 8) (K : RDc s0 p ow) (hb : ∀ i, i < k → r i < p) : ∀ (m x : Nat) (st : xSt), x + m = p → Off [21] s0 st → rowC st k r → r 0 < x → (∀ r', fs (fun x => if okr ow r k x = true then sr ow p f (k + 1) (ur r k x) else none) m x = some r' → ∀ st', Off [21] s0 st' → rowC st' (k + 1 + f) r' → Q (some (.int 1)) st') → (fs (fun x => if okr ow r k x = true then sr ow p f (k + 1) (ur r k x) else none) m x = none → ∀ st', Off [21] s0 st' → rowC st' k r → Q (some (.int 0)) st') → X κ 57 [(0, .ref 4), (1, .int (nI k)), (2, .int (nI (k + 1 + f))), (3, .int (nI (r (k - 1)))), (4, .int (nI x))] [] st
  | 0, x, st, e, o, hr, hx, h1, h0 => by
    have K1 := K.off o
    have h8 := K.1
    refine bX1_goOn_57 C Z _ _ _ _ _ (brT ?_ (h0 rfl st o hr))
    rw [K1.2.1]
    exact nI_le (by omega) (by omega)
  | m + 1, x, st, e, o, hr, hx, h1, h0 => by
    have K1 := K.off o
    have h8 := K.1
    have b1 := hb (k - 1) (by omega)
    have hle := (K.2.2.2.1 (r (k - 1)) x (by omega) (by omega)).1
    have next : (if okr ow r k x = true then sr ow p f (k + 1) (ur r k x) else none) = none → ∀ st', Off [21] s0 st' → rowC st' k r → X κ 57 [(0, .ref 4), (1, .int (nI k)), (2, .int (nI (k + 1 + f))), (3, .int (nI (r (k - 1)))), (4, .int (nI x + 1))] [] st' := by
      intro g st' o' hr'
      rw [nI_1]
      exact lX1_goOn IH C Z hk hkf K hb m (x + 1) st' (by omega) o' hr' (by omega) (fun r' q => h1 r' ((fs_none (g := fun x => if okr ow r k x = true then sr ow p f (k + 1) (ur r k x) else none) g).trans q)) (fun q => h0 ((fs_none (g := fun x => if okr ow r k x = true then sr ow p f (k + 1) (ur r k x) else none) g).trans q))
    refine bX1_goOn_57 C Z _ _ _ _ _ (brF ?_ (kX1_left K1 b1 (by omega) ?_))
    · rw [K1.2.1]
      exact nI_ge (by omega) (by omega)
    by_cases c1 : 0 < ow (r (k - 1)) x
    · refine brF (nI_nle c1 (by omega)) (kX1_inRow hr (by omega) (by omega) (fun i hi => by have := hb i hi; omega) (fun ⟨i, hi, q⟩ => g1 (next (if_neg (fun w => ?_)) st o hr)) (fun q => g0 ?_))
      · rcases of_decide_eq_true w with w | w
        · omega
        · exact w.1 i hi q
      · have ok : okr ow r k x = true := decide_eq_true (Or.inr ⟨q, hx, c1⟩)
        refine kX1_goOnWith IH hk hkf K1 hr hb (by omega) (fun r' e2 st' o2 hr' => f1 ?_) (fun e2 st' o2 hr' => f0 (next (by rw [if_pos ok]; exact e2) st' (o.trans o2) hr'))
        exact h1 r' (fs_some (g := fun x => if okr ow r k x = true then sr ow p f (k + 1) (ur r k x) else none) (by simp only [ok, if_true]; exact e2)) st' (o.trans o2) hr'
    · rw [show ow (r (k - 1)) x = 0 by omega]
      refine brT (by decide) (next (if_neg (fun w => ?_)) st o hr)
      rcases of_decide_eq_true w with w | w
      · omega
      · omega
theorem gOn_s {f : Nat} (IH : gOn p ow d f) : gOn p ow (d + 2) (f + 1) := by
  intro k r st P hk hkf K hr hb h1 h0
  have h8 := K.1
  refine eX1_goOn _ _ _ (fun κ C Z => brF (nI_nlt (b := 1) (by omega) (by omega)) (brT (nI_le (b := 8) (by omega) (by omega)) ?_))
  have e : nI k - 1 = nI (k - 1) := by
    obtain ⟨k', rfl⟩ : ∃ k', k = k' + 1 := ⟨k - 1, by omega⟩
    rw [nI_pred]
    rfl
  rw [e, nI_clamp (by omega), hr (k - 1) (by omega)]
  refine ⟨pk_in (k - 1) 8 (by omega), brT (nI_lt (by omega) (by omega)) ?_⟩
  have e0 : st.1 21 ((0 : Int32).toNatClampNeg) = nI (r 0) := hr 0 (by omega)
  have b0 := hb 0 (by omega)
  rw [e0, nI_1]
  unfold sr at h1 h0
  have sk := fs_skip (g := fun x => if okr ow r k x = true then sr ow p f (k + 1) (ur r k x) else none) (r 0 + 1) (p - (r 0 + 1)) 0 (fun y _ hy => if_neg (fun w => by
    rcases of_decide_eq_true w with w | w <;> omega))
  rw [show r 0 + 1 + (p - (r 0 + 1)) = p by omega, Nat.zero_add] at sk
  rw [sk] at h1 h0
  rw [show k + (f + 1) = k + 1 + f by omega] at h1 ⊢
  exact lX1_goOn IH C Z hk (by omega) K hb (p - (r 0 + 1)) (r 0 + 1) st (by omega) Off.rfl hr (by omega) (fun r' q st' o hr' => qi (h1 r' q st' o hr')) (fun q st' o hr' => qi (h0 q st' o hr'))
theorem gOn_all : ∀ f, gOn p ow (d + 2 + 2 * f) f
  | 0 => gOn_0
  | f + 1 => by
    have := gOn_s (gOn_all f)
    rw [show d + 2 + 2 * (f + 1) = d + 2 + 2 * f + 2 by omega]
    exact this
theorem gOn_d {f e : Nat} (h : d + 2 + 2 * f = e) : gOn p ow e f := h ▸ gOn_all f
end S38
