/-! the text read as a sum -/
def isf (z : Nat) (bt : Nat → Nat) (k : Nat) : Bool := decide (k < z ∧ 48 ≤ bt k ∧ bt k ≤ 57)
def isb (z : Nat) (bt : Nat → Nat) (k c : Nat) : Bool := decide (k < z ∧ bt k = c)
/-- figures at k: what they say and one more (0: none), and where they end -/
def fg (z : Nat) (bt : Nat → Nat) (k : Nat) : Nat × Nat := if isf z bt k = true then (if isf z bt (k + 1) = true then (10 * (bt k - 48) + (bt (k + 1) - 48) + 1, k + 2) else (bt k - 48 + 1, k + 1)) else (0, k)
def fgI (v : Nat) : Int32 := if v = 0 then -1 else nI (v - 1)
def mn (z : Nat) (bt : Nat → Nat) (k : Nat) : Nat × Nat := if isb z bt k 109 = true then fg z bt (k + 1) else (1, k)
def sOK (z : Nat) (bt : Nat → Nat) (k : Nat) : Prop := (mn z bt k).1 ≠ 0 ∧ isb z bt (mn z bt k).2 112 = true ∧ 2 ≤ (fg z bt ((mn z bt k).2 + 1)).1
def sF (z : Nat) (bt : Nat → Nat) (k : Nat) : Nat := if (mn z bt k).1 ≠ 0 ∧ isb z bt (mn z bt k).2 112 = true then (mn z bt k).2 + 1 else (mn z bt k).2
def sN (z : Nat) (bt : Nat → Nat) (k : Nat) : Nat := (fg z bt ((mn z bt k).2 + 1)).2
def sM (z : Nat) (bt : Nat → Nat) (k : Nat) : Int32 := nI ((mn z bt k).1 - 1)
def sP (z : Nat) (bt : Nat → Nat) (k : Nat) : Int32 := nI ((fg z bt ((mn z bt k).2 + 1)).1 - 1)
theorem fg_b {z : Nat} {bt : Nat → Nat} (k : Nat) (hz : ∀ i, i < z → bt i ≤ 255) (hk : k ≤ z) : k ≤ (fg z bt k).2 ∧ (fg z bt k).2 ≤ z ∧ (fg z bt k).1 ≤ 100 ∧ ((fg z bt k).1 ≠ 0 → k + 1 ≤ (fg z bt k).2) := by
  unfold fg
  by_cases h : isf z bt k = true
  · have h' := of_decide_eq_true h
    rw [if_pos h]
    by_cases h2 : isf z bt (k + 1) = true
    · have h2' := of_decide_eq_true h2
      rw [if_pos h2]
      refine ⟨?_, ?_, ?_, fun _ => ?_⟩ <;> simp only <;> omega
    · rw [if_neg h2]
      refine ⟨?_, ?_, ?_, fun _ => ?_⟩ <;> simp only <;> omega
  · rw [if_neg h]
    exact ⟨Nat.le_refl _, hk, by simp, fun q => (q rfl).elim⟩
theorem mn_b {z : Nat} {bt : Nat → Nat} (k : Nat) (hz : ∀ i, i < z → bt i ≤ 255) (hk : k ≤ z) : k ≤ (mn z bt k).2 ∧ (mn z bt k).2 ≤ z ∧ (mn z bt k).1 ≤ 100 := by
  unfold mn
  by_cases h : isb z bt k 109 = true
  · have h' := of_decide_eq_true h
    rw [if_pos h]
    have := fg_b (z := z) (bt := bt) (k + 1) hz (by omega)
    omega
  · rw [if_neg h]
    exact ⟨Nat.le_refl _, hk, by simp⟩
theorem sOK_b {z : Nat} {bt : Nat → Nat} {k : Nat} (hz : ∀ i, i < z → bt i ≤ 255) (hk : k ≤ z) (h : sOK z bt k) : k + 2 ≤ sN z bt k ∧ sN z bt k ≤ z := by
  obtain ⟨a, b, e⟩ := h
  have b' := of_decide_eq_true b
  have h1 := mn_b (z := z) (bt := bt) k hz hk
  have h2 := fg_b (z := z) (bt := bt) ((mn z bt k).2 + 1) hz (by omega)
  have h3 := h2.2.2.2 (by omega)
  unfold sN
  omega
theorem sF_b {z : Nat} {bt : Nat → Nat} {k : Nat} (hz : ∀ i, i < z → bt i ≤ 255) (hk : k ≤ z) : sF z bt k ≤ z := by
  have h1 := mn_b (z := z) (bt := bt) k hz hk
  unfold sF
  by_cases h : (mn z bt k).1 ≠ 0 ∧ isb z bt (mn z bt k).2 112 = true
  · rw [if_pos h]
    have := of_decide_eq_true h.2
    omega
  · rw [if_neg h]
    omega
/-- the fault -/
def ft (z : Nat) (bt : Nat → Nat) : Nat → Nat → Option Nat
  | 0, _ => none
  | f + 1, k => if isb z bt (mn z bt k).2 112 = true ∧ (mn z bt k).1 ≠ 0 ∧ 2 ≤ (fg z bt ((mn z bt k).2 + 1)).1 then (if z ≤ sN z bt k then none else if bt (sN z bt k) = 43 ∨ bt (sN z bt k) = 45 then ft z bt f (sN z bt k + 1) else some (sN z bt k)) else some (sF z bt k)
def ftI : Option Nat → Int32
  | none => -1
  | some k => nI k
def bb (b T x : Int32) : Int32 := if b = 0 then (if x ≤ T then 0 else 1) else 1
def sgn (c : Nat) : Int32 := if c = 43 then 1 else -1
/-- the class's sum, and whether a place lay beyond -/
def ct (z : Nat) (bt : Nat → Nat) (T : Int32) : Nat → Nat → Int32 → Int32 → Int32
  | 0, _, _, _ => 0
  | f + 1, k, sg, acc => if z ≤ sN z bt k then acc + sg * (sM z bt k * T + sP z bt k) else ct z bt T f (sN z bt k + 1) (sgn (bt (sN z bt k))) (acc + sg * (sM z bt k * T + sP z bt k))
def cb (z : Nat) (bt : Nat → Nat) (T : Int32) : Nat → Nat → Int32 → Int32
  | 0, _, b => b
  | f + 1, k, b => if z ≤ sN z bt k then bb b T (sP z bt k) else cb z bt T f (sN z bt k + 1) (bb b T (sP z bt k))
/-- the reference's second reading -/
def rsp (z : Nat) (bt : Nat → Nat) (T : Int32) : Nat → Nat → Int32 → Int32 → Int32
  | 0, _, _, _ => 0
  | f + 1, k, sg, acc => if sP z bt k ≤ T then (if z ≤ sN z bt k then acc + sg * (sM z bt k * T + sP z bt k) else rsp z bt T f (sN z bt k + 1) (sgn (bt (sN z bt k))) (acc + sg * (sM z bt k * T + sP z bt k))) else -100001
theorem cb_1 (z : Nat) (bt : Nat → Nat) (T : Int32) : ∀ (f k : Nat), cb z bt T f k 1 = 1
  | 0, _ => rfl
  | f + 1, k => by
    have e : bb 1 T (sP z bt k) = 1 := if_neg n10
    unfold cb
    rw [e, cb_1 z bt T f]
    exact ite_self _
theorem cb_01 (z : Nat) (bt : Nat → Nat) (T : Int32) : ∀ (f k : Nat), cb z bt T f k 0 = 0 ∨ cb z bt T f k 0 = 1
  | 0, _ => Or.inl rfl
  | f + 1, k => by
    unfold cb
    by_cases h : sP z bt k ≤ T
    · have e : bb 0 T (sP z bt k) = 0 := by unfold bb; rw [if_pos rfl, if_pos h]
      rw [e]
      by_cases h2 : z ≤ sN z bt k
      · exact Or.inl (if_pos h2)
      · rw [if_neg h2]
        exact cb_01 z bt T f _
    · have e : bb 0 T (sP z bt k) = 1 := by unfold bb; rw [if_pos rfl, if_neg h]
      rw [e, cb_1]
      exact Or.inr (ite_self _)
theorem rsp_cb (z : Nat) (bt : Nat → Nat) (T : Int32) : ∀ (f k : Nat) (sg acc : Int32), 0 < f → (cb z bt T f k 0 = 0 → rsp z bt T f k sg acc = ct z bt T f k sg acc ∨ (ct z bt T f k sg acc = rsp z bt T f k sg acc)) ∧ (cb z bt T f k 0 = 1 → rsp z bt T f k sg acc = -100001 ∨ f = 0)
  | 0, _, _, _, h => (Nat.lt_irrefl 0 h).elim
  | f + 1, k, sg, acc, _ => by
    unfold cb rsp ct
    by_cases h : sP z bt k ≤ T
    · have e : bb 0 T (sP z bt k) = 0 := by unfold bb; rw [if_pos rfl, if_pos h]
      rw [e, if_pos h]
      by_cases h2 : z ≤ sN z bt k
      · rw [if_pos h2, if_pos h2, if_pos h2]
        exact ⟨fun _ => Or.inl rfl, fun q => absurd q (by decide)⟩
      · rw [if_neg h2, if_neg h2, if_neg h2]
        cases f with
        | zero => exact ⟨fun _ => Or.inl rfl, fun q => absurd q (by unfold cb; decide)⟩
        | succ f =>
          have ih := rsp_cb z bt T (f + 1) (sN z bt k + 1) (sgn (bt (sN z bt k))) (acc + sg * (sM z bt k * T + sP z bt k)) (by omega)
          exact ⟨ih.1, fun q => by rcases ih.2 q with h | h; exact Or.inl h; omega⟩
    · have e : bb 0 T (sP z bt k) = 1 := by unfold bb; rw [if_pos rfl, if_neg h]
      rw [e, cb_1, if_neg h, ite_self]
      exact ⟨fun q => absurd q n10, fun _ => Or.inl rfl⟩
/-! states of the readers -/
def S5 (s0 : xSt) (a s t b : Int32) (st : xSt) : Prop := (∀ p k, ¬ (p = 6 ∧ 2 ≤ k ∧ k ≤ 5) → st.1 p k = s0.1 p k) ∧ st.1 6 2 = a ∧ st.1 6 3 = s ∧ st.1 6 4 = t ∧ st.1 6 5 = b
section S35
variable {s0 st : xSt} {z : Nat} {bt : Nat → Nat} {d k : Nat} {κ : xK} {Q : Option Value → xSt → Prop} {P : Int32 → xSt → Prop} {a s t b v : Int32}
theorem S5.tx (S : S5 s0 a s t b st) (K : RelT s0 z bt) : RelT st z bt := K.congr (fun p k h => S.1 p k (by unfold inT at h; omega))
theorem S5.u2 (S : S5 s0 a s t b st) : S5 s0 v s t b (xup st 6 2 v) := by
  refine ⟨fun p k h => ?_, xup_eq _ _ _ _, ?_, ?_, ?_⟩
  · rw [xup_off (by omega)]
    exact S.1 p k h
  · rw [xup_off (by omega)]
    exact S.2.2.1
  · rw [xup_off (by omega)]
    exact S.2.2.2.1
  · rw [xup_off (by omega)]
    exact S.2.2.2.2
theorem S5.u3 (S : S5 s0 a s t b st) : S5 s0 a v t b (xup st 6 3 v) := by
  refine ⟨fun p k h => ?_, ?_, xup_eq _ _ _ _, ?_, ?_⟩
  · rw [xup_off (by omega)]
    exact S.1 p k h
  · rw [xup_off (by omega)]
    exact S.2.1
  · rw [xup_off (by omega)]
    exact S.2.2.2.1
  · rw [xup_off (by omega)]
    exact S.2.2.2.2
theorem S5.u4 (S : S5 s0 a s t b st) : S5 s0 a s v b (xup st 6 4 v) := by
  refine ⟨fun p k h => ?_, ?_, ?_, xup_eq _ _ _ _, ?_⟩
  · rw [xup_off (by omega)]
    exact S.1 p k h
  · rw [xup_off (by omega)]
    exact S.2.1
  · rw [xup_off (by omega)]
    exact S.2.2.1
  · rw [xup_off (by omega)]
    exact S.2.2.2.2
theorem S5.u5 (S : S5 s0 a s t b st) : S5 s0 a s t v (xup st 6 5 v) := by
  refine ⟨fun p k h => ?_, ?_, ?_, ?_, xup_eq _ _ _ _⟩
  · rw [xup_off (by omega)]
    exact S.1 p k h
  · rw [xup_off (by omega)]
    exact S.2.1
  · rw [xup_off (by omega)]
    exact S.2.2.1
  · rw [xup_off (by omega)]
    exact S.2.2.2.1
theorem sX5_isNext (K : RelT st z bt) (e : st.1 6 2 = nI k) (hk : k ≤ z) (c : Nat) (hc : c ≤ 255) (h1 : isb z bt k c = true → P 1 st) (h0 : isb z bt k c = false → P 0 st) : Ct d M_X5_isNext [.ref 6, .int (nI c)] st (Qi P) := by
  have hz := K.1
  refine eX5_isNext _ _ ?_
  rw [e, K.2.1.1]
  refine brF (nI_pos (by omega)) ?_
  by_cases h : z ≤ k
  · exact brT (nI_le h (by omega)) (qi (h0 (decide_eq_false (by omega))))
  · refine brF (nI_ge (by omega) (by omega)) (brF (nI_ge (b := 60) (by omega) (by omega)) ⟨pk_in k 60 (by omega), ?_⟩)
    rw [nI_clamp (by omega), (K.2.2 k (by omega)).2.1]
    have hb := (K.2.2 k (by omega)).1
    by_cases h2 : bt k = c
    · exact bnF (by rw [h2]) (qi (h1 (decide_eq_true ⟨by omega, h2⟩)))
    · exact bnT (fun q => h2 ((nI_eq (by omega) (by omega)).mp q)) (qi (h0 (decide_eq_false (fun q => h2 q.2))))
theorem sX5_figureHere (K : RelT st z bt) (e : st.1 6 2 = nI k) (hk : k ≤ 61) (h1 : isf z bt k = true → P (nI (bt k - 48)) st) (h0 : isf z bt k = false → P (-1) st) : Ct (d + 1) M_X5_figureHere [.ref 6] st (Qi P) := by
  have hz := K.1
  refine eX5_figureHere _ ?_
  rw [e, K.2.1.1]
  refine brF (nI_pos (by omega)) ?_
  by_cases h : z ≤ k
  · exact brT (nI_le h (by omega)) (qi (h0 (decide_eq_false (by omega))))
  · refine brF (nI_ge (by omega) (by omega)) (brF (nI_ge (b := 60) (by omega) (by omega)) ⟨pk_in k 60 (by omega), ?_⟩)
    rw [nI_clamp (by omega), (K.2.2 k (by omega)).2.1]
    have hb := (K.2.2 k (by omega)).1
    by_cases h2 : 48 ≤ bt k ∧ bt k ≤ 57
    · refine sW1 ⟨nI_nlt (b := 48) h2.1 (by omega), nI_nlt (a := 57) h2.2 (by omega)⟩ (f1 ⟨by rw [e]; exact pk_in k 60 (by omega), qi ?_⟩)
      rw [e, nI_clamp (by omega), (K.2.2 k (by omega)).2.1]
      show P (nI (bt k) - nI 48) st
      rw [pk_sub h2.1]
      exact h1 (decide_eq_true ⟨by omega, h2⟩)
    · refine sW0 (fun q => h2 ⟨?_, ?_⟩) (f0 (qi (h0 (decide_eq_false (fun q => h2 q.2)))))
      · exact Nat.not_lt.mp (fun w => q.1 (nI_lt (b := 48) w (by omega)))
      · exact Nat.not_lt.mp (fun w => q.2 (nI_lt (a := 57) w (by omega)))
theorem sX5_readFigures (K : RelT s0 z bt) (S : S5 s0 (nI k) s t b st) (hk : k ≤ 60) (h : ∀ st', S5 s0 (nI (fg z bt k).2) s t b st' → P (fgI (fg z bt k).1) st') : Ct (d + 2) M_X5_readFigures [.ref 6] st (Qi P) := by
  have hb : ∀ i, isf z bt i = true → bt i ≤ 57 ∧ 48 ≤ bt i := fun i q => by
    have := of_decide_eq_true q
    omega
  unfold fg at h
  refine eX5_readFigures _ (sX5_figureHere (S.tx K) S.2.1 (by omega) (fun h1 => ?_) (fun h1 => ?_))
  · rw [if_pos h1] at h
    have b1 := hb k h1
    refine bnT (nI_m1 (by omega)) ?_
    rw [S.2.1, nI_1]
    have S2 := S.u2 (v := nI (k + 1))
    refine sX5_figureHere (S2.tx K) S2.2.1 (by omega) (fun h2 => ?_) (fun h2 => ?_)
    · rw [if_pos h2] at h
      have b2 := hb _ h2
      refine bnT (nI_m1 (by omega)) (qi ?_)
      rw [S2.2.1, nI_1]
      show P (nI 10 * nI (bt k - 48) + nI (bt (k + 1) - 48)) _
      rw [pk_mul, nI_add]
      exact h _ S2.u2
    · rw [if_neg (by rw [h2]; decide)] at h
      exact bnF rfl (qi (h _ S2))
  · rw [if_neg (by rw [h1]; decide)] at h
    exact bnF rfl (qi (h _ S))
theorem fgI_m1 {v : Nat} (hv : v ≤ 100) (h : v ≠ 0) : ¬ fgI v = -1 ∧ fgI v = nI (v - 1) := by
  have e : fgI v = nI (v - 1) := if_neg h
  rw [e]
  exact ⟨nI_m1 (by omega), rfl⟩
theorem ct5 (K : RelT s0 z bt) (S : S5 s0 (nI k) s t b st) (hk : k ≤ z) (w a1 a2 : Int32) (h1 : isb z bt k 112 = true → 2 ≤ (fg z bt (k + 1)).1 → ∀ st', S5 s0 (nI (fg z bt (k + 1)).2) s (t + a2 * (w * a1 + nI ((fg z bt (k + 1)).1 - 1))) (bb b a1 (nI ((fg z bt (k + 1)).1 - 1))) st' → Q (some (.int 1)) st') (h0 : ¬ (isb z bt k 112 = true ∧ 2 ≤ (fg z bt (k + 1)).1) → ∀ st' a', S5 s0 a' (nI (if isb z bt k 112 = true then k + 1 else k)) t b st' → Q (some (.int 0)) st') : Ct (d + 2) M_X5_isNext [.ref 6, .int 112] st (Qi fun v10 s9 => ((¬ v10 = 0 → Ct (d + 2) M_X5_readFigures [.ref 6] (xup s9 6 2 ((s9.1 6 2) + 1)) (Qi fun v12 s11 => ((v12 = ((-1)) → Q (some (.int 0)) (xup s11 6 3 ((xup s9 6 2 ((s9.1 6 2) + 1)).1 6 2))) ∧ (¬ v12 = ((-1)) → ((¬ v12 = 0 → ((¬ ((xup s11 6 4 ((s11.1 6 4) + (a2 * ((w * a1) + v12)))).1 6 5) = 0 → Q (some (.int 1)) (xup (xup s11 6 4 ((s11.1 6 4) + (a2 * ((w * a1) + v12)))) 6 5 1)) ∧ (((xup s11 6 4 ((s11.1 6 4) + (a2 * ((w * a1) + v12)))).1 6 5) = 0 → ((v12 ≤ a1 → Q (some (.int 1)) (xup (xup s11 6 4 ((s11.1 6 4) + (a2 * ((w * a1) + v12)))) 6 5 0)) ∧ (¬ v12 ≤ a1 → Q (some (.int 1)) (xup (xup s11 6 4 ((s11.1 6 4) + (a2 * ((w * a1) + v12)))) 6 5 1)))))) ∧ (v12 = 0 → Q (some (.int 0)) (xup s11 6 3 ((xup s9 6 2 ((s9.1 6 2) + 1)).1 6 2)))))))) ∧ (v10 = 0 → Q (some (.int 0)) (xup s9 6 3 (s9.1 6 2))))) := by
  have hz := K.1
  refine sX5_isNext (S.tx K) S.2.1 hk 112 (by omega) (fun e1 => g1 ?_) (fun e1 => g0 ?_)
  · rw [S.2.1, nI_1]
    have hlt := of_decide_eq_true e1
    have S2 := S.u2 (v := nI (k + 1))
    have hb := fg_b (z := z) (bt := bt) (k + 1) (fun i hi => (K.2.2 i hi).1) (by omega)
    refine sX5_readFigures K S2 (by omega) (fun s3 S3 => ?_)
    rw [S2.2.1]
    by_cases e2 : (fg z bt (k + 1)).1 = 0
    · have e3 : fgI (fg z bt (k + 1)).1 = -1 := if_pos e2
      refine brT e3 (h0 (fun q => by omega) _ (nI (fg z bt (k + 1)).2) ?_)
      rw [if_pos e1]
      exact S3.u3
    · obtain ⟨n1, e3⟩ := fgI_m1 hb.2.2.1 e2
      refine brF n1 ?_
      rw [e3]
      by_cases e4 : (fg z bt (k + 1)).1 = 1
      · refine bnF (by rw [e4]; rfl) (h0 (fun q => by omega) _ (nI (fg z bt (k + 1)).2) ?_)
        rw [if_pos e1]
        exact S3.u3
      · refine bnT (nI_ne0 (by omega) (by omega)) ?_
        have S4 := S3.u4 (v := s3.1 6 4 + (a2 * ((w * a1) + nI ((fg z bt (k + 1)).1 - 1))))
        rw [S4.2.2.2.2]
        have fin : ∀ v, v = bb b a1 (nI ((fg z bt (k + 1)).1 - 1)) → Q (some (.int 1)) (xup (xup s3 6 4 ((s3.1 6 4) + (a2 * ((w * a1) + nI ((fg z bt (k + 1)).1 - 1))))) 6 5 v) := fun v hv => by
          refine h1 e1 (by omega) _ ?_
          have S5' := S4.u5 (v := v)
          rw [hv] at S5' ⊢
          rw [S3.2.2.2.1] at S5' ⊢
          exact S5'
        unfold bb at fin
        by_cases e5 : b = 0
        · rw [if_pos e5] at fin
          refine bnF e5 ⟨fun q => fin 0 (if_pos q).symm, fun q => fin 1 (if_neg q).symm⟩
        · rw [if_neg e5] at fin
          exact bnT e5 (fin 1 rfl)
  · refine h0 (fun q => by rw [q.1] at e1; cases e1) _ (nI k) ?_
    rw [if_neg (by rw [e1]; decide), S.2.1]
    exact S.u3
theorem sX5_readNumber (K : RelT s0 z bt) (S : S5 s0 (nI k) s t b st) (hk : k ≤ z) (a1 a2 : Int32) (h1 : sOK z bt k → ∀ st', S5 s0 (nI (sN z bt k)) s (t + a2 * (sM z bt k * a1 + sP z bt k)) (bb b a1 (sP z bt k)) st' → P 1 st') (h0 : ¬ sOK z bt k → ∀ st' a', S5 s0 a' (nI (sF z bt k)) t b st' → P 0 st') : Ct (d + 3) M_X5_readNumber [.ref 6, .int a1, .int a2] st (Qi P) := by
  have hz := K.1
  have hb := mn_b (z := z) (bt := bt) k (fun i hi => (K.2.2 i hi).1) hk
  unfold sOK sN sM sP at h1
  unfold sOK sF at h0
  have em : mn z bt k = if isb z bt k 109 = true then fg z bt (k + 1) else (1, k) := rfl
  refine eX5_readNumber _ _ _ (sX5_isNext (S.tx K) S.2.1 hk 109 (by omega) (fun e1 => f1 ?_) (fun e1 => f0 ?_))
  · rw [S.2.1, nI_1]
    have hlt := of_decide_eq_true e1
    rw [if_pos e1] at em
    refine sX5_readFigures K (S.u2 (v := nI (k + 1))) (by omega) (fun s3 S3 => ?_)
    rw [← em] at S3 ⊢
    by_cases e2 : (mn z bt k).1 = 0
    · refine brT (if_pos e2) (qi ?_)
      rw [S3.2.1]
      refine h0 (fun q => q.1 e2) _ (nI (mn z bt k).2) ?_
      rw [if_neg (fun q => q.1 e2)]
      exact S3.u3
    · obtain ⟨n1, e3⟩ := fgI_m1 hb.2.2 e2
      refine brF n1 (ct5 K S3 hb.2.1 _ _ _ (fun p1 p2 st' hs => qi ?_) (fun p1 st' a' hs => qi ?_))
      · rw [e3] at hs
        exact h1 ⟨e2, p1, p2⟩ st' hs
      · refine h0 (fun q => p1 ⟨q.2.1, q.2.2⟩) st' a' ?_
        by_cases e4 : isb z bt (mn z bt k).2 112 = true
        · rw [if_pos ⟨e2, e4⟩]
          rw [if_pos e4] at hs
          exact hs
        · rw [if_neg (fun q => e4 q.2)]
          rw [if_neg e4] at hs
          exact hs
  · rw [if_neg (by rw [e1]; decide)] at em
    rw [em] at h1 h0
    refine ct5 K S hk 0 _ _ (fun p1 p2 st' hs => qi ?_) (fun p1 st' a' hs => qi ?_)
    · exact h1 ⟨by simp, p1, p2⟩ st' hs
    · refine h0 (fun q => p1 ⟨q.2.1, q.2.2⟩) st' a' ?_
      by_cases e4 : isb z bt k 112 = true
      · rw [if_pos ⟨by simp, e4⟩]
        rw [if_pos e4] at hs
        exact hs
      · rw [if_neg (fun q => e4 q.2)]
        rw [if_neg e4] at hs
        exact hs
theorem sOK_if {z : Nat} {bt : Nat → Nat} {k : Nat} : sOK z bt k ↔ (isb z bt (mn z bt k).2 112 = true ∧ (mn z bt k).1 ≠ 0 ∧ 2 ≤ (fg z bt ((mn z bt k).2 + 1)).1) := by
  unfold sOK
  exact ⟨fun h => ⟨h.2.1, h.1, h.2.2⟩, fun h => ⟨h.2.1, h.1, h.2.2⟩⟩
theorem lX5_read (C : Cx κ M_X5_read (d + 4)) (Z : xR κ Q) (K : RelT s0 z bt) (T : Int32) : ∀ (f k i : Nat) (sg acc b : Int32) (st : xSt), k ≤ z → z < k + f → 3 * i ≤ k → S5 s0 (nI k) (-1) acc b st → (∀ st' a' t' b', S5 s0 a' (ftI (ft z bt f k)) t' b' st' → (ft z bt f k = none → t' = ct z bt T f k sg acc ∧ b' = cb z bt T f k b) → Q none st') → X κ 24 [(0, .ref 6), (1, .int T), (2, .int sg), (3, .int (nI i))] [] st
  | 0, k, i, sg, acc, b, st, hk, hf, hi, S, h => by omega
  | f + 1, k, i, sg, acc, b, st, hk, hf, hi, S, h => by
    have hz := K.1
    unfold ft ct cb at h
    refine bX5_read_24 C Z _ _ _ _ (brF (nI_ge (b := 60) (by omega) (by omega)) (sX5_readNumber K S hk _ _ (fun ok s1 S1 => f1 ?_) (fun no s1 a' S1 => f0 ?_)))
    · rw [if_pos (sOK_if.mp ok)] at h
      have hb := sOK_b (fun i hi => (K.2.2 i hi).1) hk ok
      have K1 := S1.tx K
      rw [S1.2.1, K1.2.1.1]
      by_cases e1 : z ≤ sN z bt k
      · rw [if_pos e1, if_pos e1, if_pos e1] at h
        exact brF (nI_nlt e1 (by omega)) (h s1 _ _ _ S1 (fun _ => ⟨rfl, rfl⟩))
      · rw [if_neg e1, if_neg e1, if_neg e1] at h
        refine brT (nI_lt (by omega) (by omega)) ?_
        have e43 : ∀ (st : xSt), S5 s0 (nI (sN z bt k)) (-1) (acc + sg * (sM z bt k * T + sP z bt k)) (bb b T (sP z bt k)) st → ∀ (sg2 : Int32), (bt (sN z bt k) = 43 ∨ bt (sN z bt k) = 45) → sg2 = sgn (bt (sN z bt k)) → X κ 24 [(0, .ref 6), (1, .int T), (2, .int sg2), (3, .int (nI i + 1))] [] (xup st 6 2 ((st.1 6 2) + 1)) := by
          intro st2 S2 sg2 e2 e3
          rw [if_pos e2] at h
          rw [S2.2.1, nI_1, nI_1, e3]
          exact lX5_read C Z K T f (sN z bt k + 1) (i + 1) _ _ _ _ (by omega) (by omega) (by omega) S2.u2 h
        refine sX5_isNext K1 S1.2.1 hb.2 43 (by omega) (fun c1 => g1 ?_) (fun c1 => g0 ?_)
        · have c1' := of_decide_eq_true c1
          refine sX5_isNext K1 S1.2.1 hb.2 43 (by omega) (fun c2 => f1 ?_) (fun c2 => absurd c2 (by rw [c1]; decide))
          exact e43 s1 S1 1 (Or.inl c1'.2) (by unfold sgn; rw [if_pos c1'.2])
        · have c1' := of_decide_eq_false c1
          refine sX5_isNext K1 S1.2.1 hb.2 45 (by omega) (fun c2 => g1 ?_) (fun c2 => g0 ?_)
          · have c2' := of_decide_eq_true c2
            refine sX5_isNext K1 S1.2.1 hb.2 43 (by omega) (fun c3 => absurd c3 (by rw [c1]; decide)) (fun c3 => f0 ?_)
            exact e43 s1 S1 (-1) (Or.inr c2'.2) (by unfold sgn; rw [if_neg (by omega)])
          · have c2' := of_decide_eq_false c2
            rw [if_neg (by omega)] at h
            rw [S1.2.1]
            exact h _ _ _ _ S1.u3 (fun q => by cases q)
    · rw [if_neg (fun q => no (sOK_if.mpr q))] at h
      exact h s1 a' _ _ S1 (fun q => by cases q)
theorem S5.rfl0 : S5 st 0 (-1) 0 0 (xup (xup (xup (xup st 6 2 0) 6 3 ((-1))) 6 4 0) 6 5 0) := by
  have S : S5 st (st.1 6 2) (st.1 6 3) (st.1 6 4) (st.1 6 5) st := ⟨fun _ _ _ => rfl, rfl, rfl, rfl, rfl⟩
  exact S.u2.u3.u4.u5
theorem sX5_read (K : RelT st z bt) (T : Int32) {P : xSt → Prop} (h : ∀ st' a' t' b', S5 st a' (ftI (ft z bt (z + 1) 0)) t' b' st' → (ft z bt (z + 1) 0 = none → t' = ct z bt T (z + 1) 0 1 0 ∧ b' = cb z bt T (z + 1) 0 0) → P st') : Ct (d + 4) M_X5_read [.ref 6, .int T] st (Qv P) :=
  eX5_read _ _ (fun κ C Z => lX5_read C Z K T (z + 1) 0 0 1 0 0 _ (by omega) (by omega) (by omega) S5.rfl0 (fun st' a' t' b' S e => qv (h st' a' t' b' S e)))
end S35
