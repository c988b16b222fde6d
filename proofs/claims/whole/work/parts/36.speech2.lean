def S7 (s0 : xSt) (a m p : Int32) (st : xSt) : Prop := (∀ q k, ¬ (q = 7 ∧ 23 ≤ k ∧ k ≤ 25) → st.1 q k = s0.1 q k) ∧ st.1 7 23 = a ∧ st.1 7 24 = m ∧ st.1 7 25 = p
def bI (z : Nat) (bt : Nat → Nat) (k : Nat) : Int32 := if k < z then nI (bt k) else -1
section S36
variable {s0 st : xSt} {z : Nat} {bt : Nat → Nat} {d k : Nat} {κ : xK} {Q : Option Value → xSt → Prop} {P : Int32 → xSt → Prop} {a m p v : Int32}
theorem S7.tx (S : S7 s0 a m p st) (K : RelT s0 z bt) : RelT st z bt := K.congr (fun p k h => S.1 p k (by unfold inT at h; omega))
theorem S7.cx {n : Nat} {hm nz bg : Nat → Nat} {wd : Nat → Nat → Int32} (S : S7 s0 a m p st) (K : RelC s0 n hm nz bg wd) : RelC st n hm nz bg wd := K.congr (fun p k h => S.1 p k (by unfold inC at h; omega))
theorem S7.u3 (S : S7 s0 a m p st) : S7 s0 v m p (xup st 7 23 v) := by
  refine ⟨fun p k h => ?_, xup_eq _ _ _ _, ?_, ?_⟩
  · rw [xup_off (by omega)]
    exact S.1 p k h
  · rw [xup_off (by omega)]
    exact S.2.2.1
  · rw [xup_off (by omega)]
    exact S.2.2.2
theorem S7.u4 (S : S7 s0 a m p st) : S7 s0 a v p (xup st 7 24 v) := by
  refine ⟨fun p k h => ?_, ?_, xup_eq _ _ _ _, ?_⟩
  · rw [xup_off (by omega)]
    exact S.1 p k h
  · rw [xup_off (by omega)]
    exact S.2.1
  · rw [xup_off (by omega)]
    exact S.2.2.2
theorem S7.u5 (S : S7 s0 a m p st) : S7 s0 a m v (xup st 7 25 v) := by
  refine ⟨fun p k h => ?_, ?_, ?_, xup_eq _ _ _ _⟩
  · rw [xup_off (by omega)]
    exact S.1 p k h
  · rw [xup_off (by omega)]
    exact S.2.1
  · rw [xup_off (by omega)]
    exact S.2.2.1
theorem S7.rfl0 : S7 st (st.1 7 23) (st.1 7 24) (st.1 7 25) st := ⟨fun _ _ _ => rfl, rfl, rfl, rfl⟩
theorem sX7_byteAt (K : RelT st z bt) (hk : k < 2 ^ 30) (h : P (bI z bt k) st) : Ct d M_X7_byteAt [.ref 7, .int (nI k)] st (Qi P) := by
  have hz := K.1
  refine eX7_byteAt _ _ ?_
  rw [K.2.1.2]
  unfold bI at h
  by_cases e : k < z
  · rw [if_pos e] at h
    refine brF (nI_ge e (by omega)) ⟨pk_in k 60 (by omega), qi ?_⟩
    rw [nI_clamp (by omega), (K.2.2 k e).2.2]
    exact h
  · rw [if_neg e] at h
    exact brT (nI_le (by omega) (by omega)) (qi h)
theorem bI_is (K : RelT s0 z bt) {c : Nat} (hc : c ≤ 255) : bI z bt k = nI c ↔ isb z bt k c = true := by
  unfold bI
  by_cases e : k < z
  · have := (K.2.2 k e).1
    rw [if_pos e, nI_eq (by omega) (by omega)]
    exact ⟨fun h => decide_eq_true ⟨e, h⟩, fun h => (of_decide_eq_true h).2⟩
  · rw [if_neg e]
    exact ⟨fun h => (nI_m1 (k := c) (by omega) h.symm).elim, fun h => (e (of_decide_eq_true h).1).elim⟩
theorem lfg_no (C : Cx κ M_X7_figures (d + 1)) (Z : xR κ Q) (K : RelT st z bt) (e : st.1 7 23 = nI k) (hk : k < 2 ^ 30) {x1 x2 : Int32} (h1 : isf z bt k = false) (h : (¬ (st.1 7 23) = x1 → Q (some (.int x2)) st) ∧ ((st.1 7 23) = x1 → Q (some (.int ((-1)))) st)) : X κ 7 [(0, .ref 7), (1, .int x1), (2, .int x2)] [] st := by
  refine bX7_figures_7 C Z _ _ _ ⟨fun _ => h, fun _ => ?_⟩
  have h1' := of_decide_eq_false h1
  rw [e]
  refine sX7_byteAt K hk ⟨fun _ => h, fun q => ?_⟩
  rw [e]
  refine sX7_byteAt K hk ⟨fun _ => h, fun q2 => (h1' ?_).elim⟩
  unfold bI at q q2
  by_cases e : k < z
  · rw [if_pos e] at q q2
    have := (K.2.2 k e).1
    refine ⟨e, ?_, ?_⟩
    · exact Nat.not_lt.mp (fun w => q (nI_lt (b := 48) w (by omega)))
    · exact Nat.not_lt.mp (fun w => q2 (nI_lt (a := 57) w (by omega)))
  · rw [if_neg e] at q
    exact (q (by decide)).elim
theorem lfg_yes (C : Cx κ M_X7_figures (d + 1)) (Z : xR κ Q) (K : RelT st z bt) (e : st.1 7 23 = nI k) {x0 w : Nat} (hx : k < x0 + 2) (hk : k < 61) (hw : w < 100) (h1 : isf z bt k = true) (h : X κ 7 [(0, .ref 7), (1, .int (nI x0)), (2, .int (nI (10 * w + (bt k - 48))))] [] (xup st 7 23 (nI (k + 1)))) (hx2 : x0 < 2 ^ 30) : X κ 7 [(0, .ref 7), (1, .int (nI x0)), (2, .int (nI w))] [] st := by
  have h1' := of_decide_eq_true h1
  have eb : bI z bt k = nI (bt k) := if_pos h1'.1
  have hb := (K.2.2 k h1'.1).1
  refine bX7_figures_7 C Z _ _ _ ?_
  rw [e]
  refine brF (by
    show ¬ nI x0 + nI 2 ≤ nI k
    rw [nI_add]
    exact nI_ge hx (by omega)) ?_
  refine sX7_byteAt K (by omega) (brF ?_ ?_)
  · rw [eb]
    exact nI_nlt (b := 48) h1'.2.1 (by omega)
  rw [e]
  refine sX7_byteAt K (by omega) (brF ?_ ?_)
  · rw [eb]
    exact nI_nlt (a := 57) h1'.2.2 (by omega)
  rw [e]
  refine sX7_byteAt K (by omega) ?_
  rw [e, eb, nI_1]
  have e2 : (10 * nI w + nI (bt k)) - 48 = nI (10 * w + (bt k - 48)) := by
    show (nI 10 * nI w + nI (bt k)) - nI 48 = _
    rw [pk_mul, nI_add, pk_sub (by omega)]
    congr 1
    omega
  rw [e2]
  exact h
theorem sX7_figures (K : RelT s0 z bt) (S : S7 s0 (nI k) m p st) (hk : k ≤ 60) (h : ∀ st', S7 s0 (nI (fg z bt k).2) m p st' → P (fgI (fg z bt k).1) st') : Ct (d + 1) M_X7_figures [.ref 7] st (Qi P) := by
  refine eX7_figures _ (fun κ C Z => ?_)
  rw [S.2.1]
  unfold fg at h
  have hz := K.1
  cases h1 : isf z bt k with
  | false =>
    rw [if_neg (by rw [h1]; decide)] at h
    exact lfg_no C Z (S.tx K) S.2.1 (by omega) h1 (bnF S.2.1 (qi (h _ S)))
  | true =>
    rw [if_pos h1] at h
    have h1' := of_decide_eq_true h1
    refine lfg_yes (x0 := k) (w := 0) C Z (S.tx K) S.2.1 (by omega) (by omega) (by omega) h1 ?_ (by omega)
    have S2 := S.u3 (v := nI (k + 1))
    have ne : ∀ j, k < j → j < 100 → ¬ nI j = nI k := fun j hj hj2 q => by
      have := (nI_eq (by omega) (by omega)).mp q
      omega
    cases h2 : isf z bt (k + 1) with
    | false =>
      rw [if_neg (by rw [h2]; decide)] at h
      refine lfg_no C Z (S2.tx K) S2.2.1 (by omega) h2 (bnT ?_ (qi ?_))
      · rw [S2.2.1]
        exact ne _ (by omega) (by omega)
      · rw [show 10 * 0 + (bt k - 48) = bt k - 48 by omega]
        exact h _ S2
    | true =>
      rw [if_pos h2] at h
      have h2' := of_decide_eq_true h2
      refine lfg_yes (x0 := k) C Z (S2.tx K) S2.2.1 (by omega) (by omega) (by omega) h2 ?_ (by omega)
      have S3 := S2.u3 (v := nI (k + 1 + 1))
      refine bX7_figures_7 C Z _ _ _ (brT ?_ (bnT ?_ (qi ?_)))
      · rw [S3.2.1]
        show nI k + nI 2 ≤ _
        rw [nI_add]
        exact nI_le (by omega) (by omega)
      · rw [S3.2.1]
        exact ne _ (by omega) (by omega)
      · rw [show 10 * (10 * 0 + (bt k - 48)) + (bt (k + 1) - 48) = 10 * (bt k - 48) + (bt (k + 1) - 48) by omega]
        exact h _ S3
theorem ct7 (K : RelT s0 z bt) (S : S7 s0 (nI k) m p st) (hk : k ≤ z) (h1 : isb z bt k 112 = true → 2 ≤ (fg z bt (k + 1)).1 → ∀ st', S7 s0 (nI (fg z bt (k + 1)).2) m (nI ((fg z bt (k + 1)).1 - 1)) st' → Q (some (.int (-1))) st') (h0 : ¬ (isb z bt k 112 = true ∧ 2 ≤ (fg z bt (k + 1)).1) → ∀ st' a' p', S7 s0 a' m p' st' → Q (some (.int (nI (if isb z bt k 112 = true then k + 1 else k)))) st') : Ct (d + 1) M_X7_byteAt [.ref 7, .int (st.1 7 23)] st (Qi fun v10 s9 => ((v10 = 112 → Ct (d + 1) M_X7_figures [.ref 7] (xup s9 7 23 ((s9.1 7 23) + 1)) (Qi fun v12 s11 => ((((xup s11 7 25 v12).1 7 25) = ((-1)) → Q (some (.int ((xup s9 7 23 ((s9.1 7 23) + 1)).1 7 23))) (xup s11 7 25 v12)) ∧ (¬ ((xup s11 7 25 v12).1 7 25) = ((-1)) → ((¬ ((xup s11 7 25 v12).1 7 25) = 0 → Q (some (.int ((-1)))) (xup s11 7 25 v12)) ∧ (((xup s11 7 25 v12).1 7 25) = 0 → Q (some (.int ((xup s9 7 23 ((s9.1 7 23) + 1)).1 7 23))) (xup s11 7 25 v12))))))) ∧ (¬ v10 = 112 → Q (some (.int (s9.1 7 23))) s9))) := by
  have hz := K.1
  rw [S.2.1]
  refine sX7_byteAt (S.tx K) (by omega) ?_
  rw [S.2.1, nI_1]
  by_cases e1 : isb z bt k 112 = true
  · have hlt := of_decide_eq_true e1
    refine brT ((bI_is K (c := 112) (by omega)).mpr e1) ?_
    have S2 := S.u3 (v := nI (k + 1))
    have hb := fg_b (z := z) (bt := bt) (k + 1) (fun i hi => (K.2.2 i hi).1) (by omega)
    refine sX7_figures K S2 (by omega) (fun s3 S3 => ?_)
    have S4 := S3.u5 (v := fgI (fg z bt (k + 1)).1)
    rw [S2.2.1, S4.2.2.2]
    rw [if_pos e1] at h0
    by_cases e2 : (fg z bt (k + 1)).1 = 0
    · exact brT (if_pos e2) (h0 (fun q => by omega) _ _ _ S4)
    · obtain ⟨n1, e3⟩ := fgI_m1 hb.2.2.1 e2
      refine brF n1 ?_
      rw [e3] at S4 ⊢
      by_cases e4 : (fg z bt (k + 1)).1 = 1
      · exact bnF (by rw [e4]; rfl) (h0 (fun q => by omega) _ _ _ S4)
      · exact bnT (nI_ne0 (by omega) (by omega)) (h1 e1 (by omega) _ S4)
  · refine brF (fun q => e1 ((bI_is K (c := 112) (by omega)).mp q)) ?_
    have := h0 (fun q => e1 q.1) st _ _ S
    rw [if_neg e1] at this
    exact this
theorem sX7_says (K : RelT s0 z bt) (S : S7 s0 (nI k) m p st) (hk : k ≤ z) (h1 : sOK z bt k → ∀ st', S7 s0 (nI (sN z bt k)) (sM z bt k) (sP z bt k) st' → P (-1) st') (h0 : ¬ sOK z bt k → ∀ st' a' m' p', S7 s0 a' m' p' st' → P (nI (sF z bt k)) st') : Ct (d + 2) M_X7_says [.ref 7] st (Qi P) := by
  have hz := K.1
  have hb := mn_b (z := z) (bt := bt) k (fun i hi => (K.2.2 i hi).1) hk
  unfold sOK sN sM sP at h1
  unfold sOK sF at h0
  have em : mn z bt k = if isb z bt k 109 = true then fg z bt (k + 1) else (1, k) := rfl
  have S1 := S.u4 (v := 0)
  refine eX7_says _ ?_
  rw [S1.2.1]
  refine sX7_byteAt (S1.tx K) (by omega) ?_
  by_cases e1 : isb z bt k 109 = true
  · have hlt := of_decide_eq_true e1
    rw [if_pos e1] at em
    refine bnF ((bI_is K (c := 109) (by omega)).mpr e1) ?_
    rw [S1.2.1, nI_1]
    refine sX7_figures K (S1.u3 (v := nI (k + 1))) (by omega) (fun s3 S3 => ?_)
    rw [← em] at S3 ⊢
    have S4 := S3.u4 (v := fgI (mn z bt k).1)
    rw [S4.2.2.1]
    by_cases e2 : (mn z bt k).1 = 0
    · refine bnF (if_pos e2) (qi ?_)
      rw [S4.2.1]
      have := h0 (fun q => q.1 e2) _ _ _ _ S4
      rw [if_neg (fun q => q.1 e2)] at this
      exact this
    · obtain ⟨n1, e3⟩ := fgI_m1 hb.2.2 e2
      refine bnT n1 (ct7 K S4 hb.2.1 (fun p1 p2 st' hs => qi ?_) (fun p1 st' a' p' hs => qi ?_))
      · rw [e3] at hs
        exact h1 ⟨e2, p1, p2⟩ st' hs
      · have := h0 (fun q => p1 ⟨q.2.1, q.2.2⟩) st' _ _ _ hs
        by_cases e4 : isb z bt (mn z bt k).2 112 = true
        · rw [if_pos ⟨e2, e4⟩] at this
          rw [if_pos e4]
          exact this
        · rw [if_neg (fun q => e4 q.2)] at this
          rw [if_neg e4]
          exact this
  · rw [if_neg e1] at em
    rw [em] at h1 h0
    refine bnT (fun q => e1 ((bI_is K (c := 109) (by omega)).mp q)) (ct7 K S1 hk (fun p1 p2 st' hs => qi ?_) (fun p1 st' a' p' hs => qi ?_))
    · exact h1 ⟨by simp, p1, p2⟩ st' hs
    · have := h0 (fun q => p1 ⟨q.2.1, q.2.2⟩) st' _ _ _ hs
      by_cases e4 : isb z bt k 112 = true
      · rw [if_pos ⟨by simp, e4⟩] at this
        rw [if_pos e4]
        exact this
      · rw [if_neg (fun q => e4 q.2)] at this
        rw [if_neg e4]
        exact this
theorem lX7_fn (C : Cx κ M_X7_faultNow (d + 3)) (Z : xR κ Q) (K : RelT s0 z bt) : ∀ (f k : Nat) (m p : Int32) (st : xSt), k ≤ z → z < k + f → S7 s0 (nI k) m p st → (∀ st' a' m' p', S7 s0 a' m' p' st' → Q (some (.int (ftI (ft z bt f k)))) st') → Ct (d + 2) M_X7_says [.ref 7] st (Qi fun v2 s1 => X κ 10 [(0, .ref 7), (1, .int v2)] [] s1)
  | 0, k, m, p, st, hk, hf, S, h => by omega
  | f + 1, k, m, p, st, hk, hf, S, h => by
    have hz := K.1
    unfold ft at h
    refine sX7_says K S hk (fun ok s1 S1 => ?_) (fun no s1 a' m' p' S1 => ?_)
    · rw [if_pos (sOK_if.mp ok)] at h
      have hb := sOK_b (fun i hi => (K.2.2 i hi).1) hk ok
      refine bX7_faultNow_10 C Z _ _ (bnF rfl ?_)
      have K1 := S1.tx K
      rw [S1.2.1, K1.2.1.2]
      by_cases e1 : z ≤ sN z bt k
      · rw [if_pos e1] at h
        exact brT (nI_le e1 (by omega)) (h s1 _ _ _ S1)
      · rw [if_neg e1] at h
        refine brF (nI_ge (by omega) (by omega)) (sX7_byteAt K1 (by omega) ?_)
        have is := fun c (hc : c ≤ 255) => bI_is (k := sN z bt k) K hc
        by_cases c1 : bt (sN z bt k) = 43
        · rw [if_pos (Or.inl c1)] at h
          refine brT ((is 43 (by omega)).mpr (decide_eq_true ⟨by omega, c1⟩)) ?_
          rw [S1.2.1, nI_1]
          exact lX7_fn C Z K f (sN z bt k + 1) _ _ _ (by omega) (by omega) S1.u3 h
        · refine brF (fun q => c1 (of_decide_eq_true ((is 43 (by omega)).mp q)).2) ?_
          rw [S1.2.1]
          refine sX7_byteAt K1 (by omega) ?_
          by_cases c2 : bt (sN z bt k) = 45
          · rw [if_pos (Or.inr c2)] at h
            refine brT ((is 45 (by omega)).mpr (decide_eq_true ⟨by omega, c2⟩)) ?_
            rw [S1.2.1, nI_1]
            exact lX7_fn C Z K f (sN z bt k + 1) _ _ _ (by omega) (by omega) S1.u3 h
          · refine brF (fun q => c2 (of_decide_eq_true ((is 45 (by omega)).mp q)).2) ?_
            rw [if_neg (by omega)] at h
            rw [S1.2.1]
            exact h s1 _ _ _ S1
    · rw [if_neg (fun q => no (sOK_if.mpr q))] at h
      have hb := sF_b (fun i hi => (K.2.2 i hi).1) hk
      exact bX7_faultNow_10 C Z _ _ (bnT (nI_m1 (by omega)) (h s1 _ _ _ S1))
theorem sX7_faultNow (K : RelT st z bt) (h : ∀ st' a' m' p', S7 st a' m' p' st' → P (ftI (ft z bt (z + 1) 0)) st') : Ct (d + 3) M_X7_faultNow [.ref 7] st (Qi P) :=
  eX7_faultNow _ (fun κ C Z => lX7_fn C Z K (z + 1) 0 _ _ _ (by omega) (by omega) (S7.rfl0.u3 (v := 0)) (fun st' a' m' p' S => qi (h st' a' m' p' S)))
theorem ft_n {f k : Nat} (h : ft z bt (f + 1) k = none) : sOK z bt k ∧ (z ≤ sN z bt k ∨ (sN z bt k < z ∧ (bt (sN z bt k) = 43 ∨ bt (sN z bt k) = 45) ∧ ft z bt f (sN z bt k + 1) = none)) := by
  unfold ft at h
  by_cases ok : sOK z bt k
  · rw [if_pos (sOK_if.mp ok)] at h
    refine ⟨ok, ?_⟩
    by_cases e1 : z ≤ sN z bt k
    · exact Or.inl e1
    · rw [if_neg e1] at h
      by_cases e2 : bt (sN z bt k) = 43 ∨ bt (sN z bt k) = 45
      · rw [if_pos e2] at h
        exact Or.inr ⟨by omega, e2, h⟩
      · rw [if_neg e2] at h
        cases h
  · rw [if_neg (fun q => ok (sOK_if.mpr q))] at h
    cases h
theorem ft_b (hz : ∀ i, i < z → bt i ≤ 255) : ∀ (f k q : Nat), k ≤ z → ft z bt f k = some q → q ≤ z
  | 0, k, q, hk, h => by cases h
  | f + 1, k, q, hk, h => by
    unfold ft at h
    by_cases ok : sOK z bt k
    · rw [if_pos (sOK_if.mp ok)] at h
      have hb := sOK_b hz hk ok
      by_cases e1 : z ≤ sN z bt k
      · rw [if_pos e1] at h
        cases h
      · rw [if_neg e1] at h
        by_cases e2 : bt (sN z bt k) = 43 ∨ bt (sN z bt k) = 45
        · rw [if_pos e2] at h
          exact ft_b hz f _ q (by omega) h
        · rw [if_neg e2] at h
          cases h
          omega
    · rw [if_neg (fun q => ok (sOK_if.mpr q))] at h
      cases h
      exact sF_b hz hk
theorem lX7_sp {n : Nat} {hm nz bg : Nat → Nat} {wd : Nat → Nat → Int32} {j : Nat} (C : Cx κ M_X7_speech (d + 3)) (Z : xR κ Q) (K : RelT s0 z bt) (KC : RelC s0 n hm nz bg wd) (hj : j < n) : ∀ (f k : Nat) (m p sg acc : Int32) (st : xSt), k ≤ z → z < k + f → ft z bt f k = none → S7 s0 (nI k) m p st → (∀ st' a' m' p', S7 s0 a' m' p' st' → Q (some (.int (rsp z bt (nI (tt hm nz j)) f k sg acc))) st') → X κ 31 [(0, .ref 7), (1, .int (nI j)), (2, .int acc), (3, .int sg)] [] st
  | 0, k, m, p, sg, acc, st, hk, hf, hn, S, h => by omega
  | f + 1, k, m, p, sg, acc, st, hk, hf, hn, S, h => by
    have hz := K.1
    obtain ⟨ok, hn2⟩ := ft_n hn
    have hb := sOK_b (fun i hi => (K.2.2 i hi).1) hk ok
    unfold rsp at h
    refine bX7_speech_31 C Z _ _ _ _ ?_
    rw [(S.tx K).2.1.2, S.2.1]
    refine brF (nI_ge (by omega) (by omega)) (sX7_says K S hk (fun _ s1 S1 => ?_) (fun no => (no ok).elim))
    refine sX7_totalOf (S1.cx KC) hj ?_
    rw [S1.2.2.2]
    by_cases e1 : sP z bt k ≤ nI (tt hm nz j)
    · rw [if_pos e1] at h
      refine brT e1 (sX7_totalOf (S1.cx KC) hj ?_)
      rw [S1.2.1, S1.2.2.1, S1.2.2.2]
      refine sX7_byteAt (S1.tx K) (by omega) ?_
      rw [S1.2.1, nI_1]
      rcases hn2 with e2 | ⟨e2, e3, e4⟩
      · rw [if_pos e2] at h
        have S2 := S1.u3 (v := nI (sN z bt k + 1))
        refine bnT (fun q => ?_) (bX7_speech_31 C Z _ _ _ _ (brT ?_ (h _ _ _ _ S2)))
        · have := (of_decide_eq_true ((bI_is K (c := 45) (by omega)).mp q)).1
          omega
        · rw [(S2.tx K).2.1.2, S2.2.1]
          exact nI_le (by omega) (by omega)
      · rw [if_neg (by omega)] at h
        have S2 := S1.u3 (v := nI (sN z bt k + 1))
        by_cases e5 : bt (sN z bt k) = 45
        · have sg' : sgn (bt (sN z bt k)) = -1 := by unfold sgn; rw [if_neg (by omega)]
          rw [sg'] at h
          exact bnF ((bI_is K (c := 45) (by omega)).mpr (decide_eq_true ⟨e2, e5⟩)) (lX7_sp C Z K KC hj f _ _ _ _ _ _ (by omega) (by omega) e4 S2 h)
        · have sg' : sgn (bt (sN z bt k)) = 1 := by unfold sgn; rw [if_pos (by omega)]
          rw [sg'] at h
          exact bnT (fun q => e5 (of_decide_eq_true ((bI_is K (c := 45) (by omega)).mp q)).2) (lX7_sp C Z K KC hj f _ _ _ _ _ _ (by omega) (by omega) e4 S2 h)
    · rw [if_neg e1] at h
      exact brF e1 (h s1 _ _ _ S1)
theorem S5.sm {a s t b : Int32} (S : S5 s0 a s t b st) : Sm s0 st := fun p k h => S.1 p k (by unfold inC inS inR inD inL inT at h; omega)
theorem S7.sm (S : S7 s0 a m p st) : Sm s0 st := fun p k h => S.1 p k (by unfold inC inS inR inD inL inT at h; omega)
end S36
theorem g_fault : Good M_X6_fault M_X7_fault [] := by
  intro st hR P hp
  obtain ⟨n, -, -, -, -, -, ⟨z, bt, KT⟩⟩ := id hR
  refine eX6_fault _ (sX5_read (d := 55) KT 1 (fun s1 a' t' b' S _ => eX5_stop _ (qi (qi ?_))))
  rw [S.2.2.1]
  refine eX7_fault _ (sX7_faultNow (d := 56) (S.tx KT) (fun s2 a2 m2 p2 S2 => qi ?_))
  exact hp _ _ ((hR.sm S.sm).sm S2.sm)
theorem g_speech (c : Int32) : Good M_X6_speech M_X7_speech [.int c] := by
  intro st hR P hp
  obtain ⟨n, ⟨hm, nz, bg, wd, KC⟩, -, -, -, -, ⟨z, bt, KT⟩⟩ := id hR
  rcases isC n c with ⟨j, hj, rfl⟩ | h
  · refine eX6_speech _ _ (sX0_has_in KC hj (g1 (sX0_places KC hj (sX5_read (d := 55) KT _ (fun s1 a' t' b' S hn => eX5_stop _ (qi ?_))))))
    rw [S.2.2.1]
    have K1 := S.tx KT
    have C1 : RelC s1 n hm nz bg wd := KC.congr (fun p k h => S.1 p k (by unfold inC at h; omega))
    have no : ¬ ftI (ft z bt (z + 1) 0) = -1 → Ct 60 M_X7_speech [.ref 7, .int (nI j)] s1 (Qi fun w s2 => P (-100001) w s2) := fun hne => eX7_speech _ _ (fun κ C Z => sX7_isCount_in C1 hj (g1 (sX7_faultNow (d := 56) K1 (fun s2 a2 m2 p2 S2 => brF hne (qi (hp _ _ ((hR.sm S.sm).sm S2.sm)))))))
    cases hf : ft z bt (z + 1) 0 with
    | some q =>
      rw [hf] at no
      have hne : ¬ ftI (some q) = -1 := by
        have := ft_b (fun i hi => (KT.2.2 i hi).1) (z + 1) 0 q (by omega) hf
        have := KT.1
        exact nI_m1 (by omega)
      exact bnT hne (qi (no hne))
    | none =>
      have yes : ∀ v, rsp z bt (nI (tt hm nz j)) (z + 1) 0 1 0 = v → Ct 60 M_X7_speech [.ref 7, .int (nI j)] s1 (Qi fun w s2 => P v w s2) := fun v hv => by
        refine eX7_speech _ _ (fun κ C Z => sX7_isCount_in C1 hj (g1 (sX7_faultNow (d := 56) K1 (fun s2 a2 m2 p2 S2 => ?_))))
        rw [hf]
        refine brT rfl ?_
        refine lX7_sp (d := 57) C Z (S2.tx K1) (S2.cx C1) hj (z + 1) 0 _ _ _ _ _ (by omega) (by omega) hf (S7.rfl0.u3 (v := 0)) (fun s3 a3 m3 p3 S3 => qi ?_)
        rw [hv]
        exact hp _ _ (((hR.sm S.sm).sm S2.sm).sm S3.sm)
      obtain ⟨et, eb⟩ := hn hf
      have hc := rsp_cb z bt (nI (tt hm nz j)) (z + 1) 0 1 0 (by omega)
      refine bnF rfl (eX5_isBeyond _ ⟨?_, qi ?_⟩)
      · rw [S.2.2.2.2, eb]
        exact cb_01 z bt _ _ _
      rw [S.2.2.2.2, eb]
      rcases cb_01 z bt (nI (tt hm nz j)) (z + 1) 0 with e | e
      · rw [e]
        refine f0 (eX5_total _ (qi (qi ?_)))
        rw [S.2.2.2.1, et]
        refine yes _ ?_
        rcases hc.1 e with h | h
        · exact h
        · exact h.symm
      · rw [e]
        refine f1 (qi (yes _ ?_))
        rcases hc.2 e with h | h
        · exact h
        · omega
  · exact eX6_speech _ _ (sX0_has_no KC h (g0 (qi (eX7_speech _ _ (fun κ C Z => sX7_isCount_no KC h (g0 (qi (hp _ _ hR))))))))
