/-! small rows of branches and answers -/
theorem qi {P : Int32 → xSt → Prop} {v : Int32} {st : xSt} (h : P v st) : Qi P (some (.int v)) st := ⟨v, rfl, h⟩
theorem ql {P : Int64 → xSt → Prop} {v : Int64} {st : xSt} (h : P v st) : Ql P (some (.long v)) st := ⟨v, rfl, h⟩
theorem qv {P : xSt → Prop} {st : xSt} (h : P st) : Qv P none st := ⟨rfl, h⟩
theorem brT {c A B : Prop} (hc : c) (h : A) : (c → A) ∧ (¬ c → B) := ⟨fun _ => h, fun n => (n hc).elim⟩
theorem brF {c A B : Prop} (hc : ¬ c) (h : B) : (c → A) ∧ (¬ c → B) := ⟨fun n => (hc n).elim, fun _ => h⟩
theorem bnT {c A B : Prop} (hc : ¬ c) (h : A) : (¬ c → A) ∧ (c → B) := ⟨fun _ => h, fun n => (hc n).elim⟩
theorem bnF {c A B : Prop} (hc : c) (h : B) : (¬ c → A) ∧ (c → B) := ⟨fun n => (n hc).elim, fun _ => h⟩
theorem n10 : ¬ (1 : Int32) = 0 := by decide
theorem f0 {A B : Prop} (h : A) : ((0 : Int32) = 0 → A) ∧ (¬ (0 : Int32) = 0 → B) := brT rfl h
theorem f1 {A B : Prop} (h : B) : ((1 : Int32) = 0 → A) ∧ (¬ (1 : Int32) = 0 → B) := brF n10 h
theorem g0 {A B : Prop} (h : B) : (¬ (0 : Int32) = 0 → A) ∧ ((0 : Int32) = 0 → B) := bnF rfl h
theorem g1 {A B : Prop} (h : A) : (¬ (1 : Int32) = 0 → A) ∧ ((1 : Int32) = 0 → B) := bnT n10 h
theorem nI_dec_lt {c : Int32} {n : Nat} (hn : n < 2 ^ 30) (h : nI n ≤ c) : nI n - 1 < c := by
  have h1 := Int32.le_iff_toInt_le.mp h
  have h2 : (nI n - nI 1).toInt = (n : Int) - (1 : Nat) := pk_sub_toInt hn (by omega)
  rw [nI_toInt (by omega)] at h1
  refine Int32.lt_iff_toInt_lt.mpr ?_
  show (nI n - nI 1).toInt < _
  omega
theorem nI_dec_nlt {j n : Nat} (hn : n < 2 ^ 30) (h : j < n) : ¬ nI n - 1 < nI j := by
  intro q
  have h1 := Int32.lt_iff_toInt_lt.mp q
  have h2 : (nI n - nI 1).toInt = (n : Int) - (1 : Nat) := pk_sub_toInt hn (by omega)
  have h3 : (nI n - nI 1).toInt < (nI j).toInt := h1
  rw [nI_toInt (by omega)] at h3
  omega
/-! the COUNTS of class and reference: n of them; hm, nz, bg: half, nose, beginning hand; wd c k: the word of place k + 1 -/
def tt (hm nz : Nat → Nat) (c : Nat) : Nat := 2 * hm c + nz c
def sdv (hm nz : Nat → Nat) (c k : Nat) : Nat := if k < hm c then 0 else if nz c = 1 ∧ k = hm c then 2 else 1
def hh (hm nz bg : Nat → Nat) (c k : Nat) : Nat := if k < hm c then bg c else if nz c = 1 ∧ k = hm c then 2 else 1 - bg c
def RelC (st : xSt) (n : Nat) (hm nz bg : Nat → Nat) (wd : Nat → Nat → Int32) : Prop :=
  n ≤ 6 ∧ st.1 2 4 = nI n ∧ st.1 7 0 = nI n ∧ (∀ c, c < n → (1 ≤ hm c ∧ hm c ≤ 20 ∧ nz c ≤ 1 ∧ bg c ≤ 1) ∧ (st.1 12 c = nI (hm c) ∧ st.1 13 c = nI (nz c) ∧ st.1 14 c = nI (bg c)) ∧ (st.1 29 c = nI (hm c) ∧ st.1 30 c = nI (nz c) ∧ st.1 31 c = nI (bg c)) ∧ ∀ k, k < tt hm nz c → st.1 (52 + c) k = wd c k ∧ st.1 28 (21 * c + (if k < hm c then k else tt hm nz c - 1 - k)) = wd c k) ∧ ∀ c, n ≤ c → c < 6 → st.1 14 c = 0
section RC
variable {st : xSt} {n : Nat} {hm nz bg : Nat → Nat} {wd : Nat → Nat → Int32} {d j k : Nat} {P : Int32 → xSt → Prop}
theorem RelC.tb (K : RelC st n hm nz bg wd) (hj : j < n) : 2 ≤ tt hm nz j ∧ tt hm nz j ≤ 41 ∧ j < 6 := by
  have h := (K.2.2.2.1 j hj).1
  have h6 := K.1
  unfold tt
  omega
theorem sX0_has_in (K : RelC st n hm nz bg wd) (hj : j < n) (hp : P 1 st) : Ct d M_X0_has [.ref 2, .int (nI j)] st (Qi P) := by
  have h6 := K.1
  refine eX0_has _ _ (brF (nI_pos (by omega)) (brF ?_ (brF ?_ (qi hp))))
  · rw [K.2.1]
    exact nI_ge hj (by omega)
  · exact nI_ge (a := j) (b := 6) (by omega) (by omega)
theorem sX0_has (K : RelC st n hm nz bg wd) (c : Int32) (h1 : ∀ j, j < n → c = nI j → P 1 st) (h0 : (∀ j, j < n → c ≠ nI j) → P 0 st) : Ct d M_X0_has [.ref 2, .int c] st (Qi P) := by
  have h6 := K.1
  rcases pk_ix c (n := n) (by omega) with h | h | ⟨j, hj, rfl⟩
  · exact eX0_has _ _ (brT h (qi (h0 (fun j hj e => nI_pos (n := j) (by omega) (e ▸ h)))))
  · have hp : P 0 st := h0 (fun j hj e => nI_ge hj (by omega) (e ▸ h))
    exact eX0_has _ _ ⟨fun _ => qi hp, fun _ => ⟨fun _ => qi hp, fun e => absurd (by rw [K.2.1]; exact h) e⟩⟩
  · exact sX0_has_in K hj (h1 j hj rfl)
theorem sX7_isCount (K : RelC st n hm nz bg wd) (c : Int32) (h1 : ∀ j, j < n → c = nI j → P 1 st) (h0 : (∀ j, j < n → c ≠ nI j) → P 0 st) : Ct (d + 1) M_X7_isCount [.ref 7, .int c] st (Qi P) := by
  have h6 := K.1
  refine eX7_isCount _ _ (eX7_in _ _ _ _ ?_)
  rw [K.2.2.1]
  rcases pk_ix c (n := n) (by omega) with h | h | ⟨j, hj, rfl⟩
  · exact brT h (qi ⟨Or.inl rfl, qi (h0 (fun j hj e => nI_pos (n := j) (by omega) (e ▸ h)))⟩)
  · have hp : P 0 st := h0 (fun j hj e => nI_ge hj (by omega) (e ▸ h))
    exact ⟨fun _ => qi ⟨Or.inl rfl, qi hp⟩, fun _ => brT (nI_dec_lt (by omega) h) (qi ⟨Or.inl rfl, qi hp⟩)⟩
  · exact brF (nI_pos (by omega)) (brF (nI_dec_nlt (by omega) hj) (qi ⟨Or.inr rfl, qi (h1 j hj rfl)⟩))
theorem sX0_places (K : RelC st n hm nz bg wd) (hj : j < n) (hp : P (nI (tt hm nz j)) st) : Ct (d + 1) M_X0_places [.ref 2, .int (nI j)] st (Qi P) := by
  have h6 := K.1
  have hc := (K.2.2.2.1 j hj).2.1
  refine eX0_places _ _ (sX0_has_in K hj (f1 ⟨pk_in j 6 (by omega), pk_in j 6 (by omega), qi ?_⟩))
  rw [nI_clamp (by omega), hc.1, hc.2.1]
  show P (nI 2 * nI (hm j) + nI (nz j)) st
  rw [pk_mul, nI_add]
  exact hp
theorem sX7_totalOf (K : RelC st n hm nz bg wd) (hj : j < n) (hp : P (nI (tt hm nz j)) st) : Ct d M_X7_totalOf [.ref 7, .int (nI j)] st (Qi P) := by
  have h6 := K.1
  have hb := (K.2.2.2.1 j hj).1
  have hc := (K.2.2.2.1 j hj).2.2.1
  refine eX7_totalOf _ _ ⟨pk_in j 6 (by omega), pk_in j 6 (by omega), ?_⟩
  rw [nI_clamp (by omega), hc.1, hc.2.1]
  refine pk_eq (nz j) 0 (fun h => qi ?_) (fun h => qi ?_)
  · show P (nI 2 * nI (hm j) + nI 0) st
    rw [pk_mul, nI_add]
    unfold tt at hp
    rw [h] at hp
    exact hp
  · have e : nz j = 1 := by omega
    show P (nI 2 * nI (hm j) + nI 1) st
    rw [pk_mul, nI_add]
    unfold tt at hp
    rw [e] at hp
    exact hp
theorem sX0_halfOf (K : RelC st n hm nz bg wd) (hj : j < n) (hp : P (nI (hm j)) st) : Ct (d + 1) M_X0_halfOf [.ref 2, .int (nI j)] st (Qi P) := by
  have h6 := K.1
  have hc := (K.2.2.2.1 j hj).2.1
  refine eX0_halfOf _ _ (sX0_has_in K hj (f1 ⟨pk_in j 6 (by omega), qi ?_⟩))
  rw [nI_clamp (by omega), hc.1]
  exact hp
theorem sX0_noseOf (K : RelC st n hm nz bg wd) (hj : j < n) (hp : P (nI (nz j)) st) : Ct (d + 1) M_X0_noseOf [.ref 2, .int (nI j)] st (Qi P) := by
  have h6 := K.1
  have hc := (K.2.2.2.1 j hj).2.1
  refine eX0_noseOf _ _ (sX0_has_in K hj (f1 ⟨pk_in j 6 (by omega), qi ?_⟩))
  rw [nI_clamp (by omega), hc.2.1]
  exact hp
theorem sX0_firstHand (K : RelC st n hm nz bg wd) (hj : j < n) (hp : P (nI (bg j)) st) : Ct (d + 1) M_X0_firstHand [.ref 2, .int (nI j)] st (Qi P) := by
  have h6 := K.1
  have hc := (K.2.2.2.1 j hj).2.1
  refine eX0_firstHand _ _ (sX0_has_in K hj (f1 ⟨pk_in j 6 (by omega), qi ?_⟩))
  rw [nI_clamp (by omega), hc.2.2]
  exact hp
theorem sX0_sideAt (K : RelC st n hm nz bg wd) (hj : j < n) (hk : k < tt hm nz j) (hp : P (nI (sdv hm nz j k)) st) : Ct (d + 1) M_X0_sideAt [.ref 2, .int (nI j), .int (nI (k + 1))] st (Qi P) := by
  have h6 := K.1
  have hb := (K.2.2.2.1 j hj).1
  have ht := K.tb hj
  have hc := (K.2.2.2.1 j hj).2.1
  refine eX0_sideAt _ _ _ (sX0_has_in K hj (g1 ⟨pk_in j 6 (by omega), ?_⟩))
  rw [nI_clamp (by omega), hc.1, hc.2.1]
  refine pk_lt (hm j) (k + 1) (fun h => ⟨pk_in j 6 (by omega), ?_⟩) (fun h => qi ?_)
  · by_cases e1 : nz j = 1
    · rw [e1]
      refine bnF rfl ⟨pk_in j 6 (by omega), ?_⟩
      rw [nI_1]
      by_cases e2 : k = hm j
      · refine bnF (by rw [e2]) (qi ?_)
        have e : sdv hm nz j k = 2 := by unfold sdv; rw [if_neg (by omega), if_pos ⟨e1, e2⟩]
        rw [e] at hp
        exact hp
      · refine bnT (fun q => e2 (by have := (nI_eq (by omega) (by omega)).mp q; omega)) (qi ?_)
        have e : sdv hm nz j k = 1 := by unfold sdv; rw [if_neg (by omega), if_neg (fun q => e2 q.2)]
        rw [e] at hp
        exact hp
    · refine bnT (fun q => e1 ((nI_eq (a := nz j) (b := 1) (by omega) (by omega)).mp q)) (qi ?_)
      have e : sdv hm nz j k = 1 := by unfold sdv; rw [if_neg (by omega), if_neg (fun q => e1 q.1)]
      rw [e] at hp
      exact hp
  · have e : sdv hm nz j k = 0 := by unfold sdv; rw [if_pos (by omega)]
    rw [e] at hp
    exact hp
theorem sX7_sideOf (K : RelC st n hm nz bg wd) (hj : j < n) (hk : k < tt hm nz j) (hp : P (nI (sdv hm nz j k)) st) : Ct d M_X7_sideOf [.ref 7, .int (nI j), .int (nI (k + 1))] st (Qi P) := by
  have h6 := K.1
  have hb := (K.2.2.2.1 j hj).1
  have ht := K.tb hj
  have hc := (K.2.2.2.1 j hj).2.2.1
  refine eX7_sideOf _ _ _ ⟨pk_in j 6 (by omega), ?_⟩
  rw [nI_clamp (by omega), hc.1, hc.2.1]
  refine pk_lt (hm j) (k + 1) (fun h => ⟨pk_in j 6 (by omega), ?_⟩) (fun h => qi ?_)
  · by_cases e1 : nz j = 1
    · rw [e1]
      refine brF n10 ⟨pk_in j 6 (by omega), ?_⟩
      rw [nI_1]
      by_cases e2 : k = hm j
      · refine bnF (by rw [e2]) (qi ?_)
        have e : sdv hm nz j k = 2 := by unfold sdv; rw [if_neg (by omega), if_pos ⟨e1, e2⟩]
        rw [e] at hp
        exact hp
      · refine bnT (fun q => e2 (by have := (nI_eq (by omega) (by omega)).mp q; omega)) (qi ?_)
        have e : sdv hm nz j k = 1 := by unfold sdv; rw [if_neg (by omega), if_neg (fun q => e2 q.2)]
        rw [e] at hp
        exact hp
    · have e0 : nz j = 0 := by omega
      rw [e0]
      refine brT rfl (qi ?_)
      have e : sdv hm nz j k = 1 := by unfold sdv; rw [if_neg (by omega), if_neg (fun q => e1 q.1)]
      rw [e] at hp
      exact hp
  · have e : sdv hm nz j k = 0 := by unfold sdv; rw [if_pos (by omega)]
    rw [e] at hp
    exact hp
theorem sdv_cases (hm nz bg : Nat → Nat) (c k : Nat) : (sdv hm nz c k = 0 ∧ hh hm nz bg c k = bg c ∧ k < hm c) ∨ (sdv hm nz c k = 2 ∧ hh hm nz bg c k = 2 ∧ nz c = 1 ∧ k = hm c) ∨ (sdv hm nz c k = 1 ∧ hh hm nz bg c k = 1 - bg c ∧ hm c ≤ k ∧ ¬ (nz c = 1 ∧ k = hm c)) := by
  unfold sdv hh
  by_cases h : k < hm c
  · simp [h]
  · by_cases h2 : nz c = 1 ∧ k = hm c
    · simp [h, h2]
    · simp only [if_neg h, if_neg h2]
      exact Or.inr (Or.inr ⟨trivial, trivial, by omega, h2⟩)
theorem sX0_handAt (K : RelC st n hm nz bg wd) (hj : j < n) (hk : k < tt hm nz j) (hp : P (nI (hh hm nz bg j k)) st) : Ct (d + 2) M_X0_handAt [.ref 2, .int (nI j), .int (nI (k + 1))] st (Qi P) := by
  have hb := (K.2.2.2.1 j hj).1
  refine eX0_handAt _ _ _ (sX0_sideAt K hj hk ?_)
  rcases sdv_cases hm nz bg j k with ⟨e, e2, -⟩ | ⟨e, e2, -⟩ | ⟨e, e2, -⟩ <;> rw [e] <;> rw [e2] at hp
  · exact ⟨fun q => absurd rfl q.1, fun _ => sX0_firstHand K hj (qi hp), fun q => absurd q (by decide)⟩
  · exact ⟨fun _ => qi hp, fun q => absurd q (by decide), fun q => absurd q (by decide)⟩
  · refine ⟨fun q => absurd rfl q.2, fun q => absurd q (by decide), fun _ => sX0_firstHand K hj (qi ?_)⟩
    show P (nI 1 - nI (bg j)) st
    rw [pk_sub (by omega)]
    exact hp
theorem sX7_handOf (K : RelC st n hm nz bg wd) (hj : j < n) (hk : k < tt hm nz j) (hp : P (nI (hh hm nz bg j k)) st) : Ct (d + 1) M_X7_handOf [.ref 7, .int (nI j), .int (nI (k + 1))] st (Qi P) := by
  have h6 := K.1
  have hb := (K.2.2.2.1 j hj).1
  have hc := (K.2.2.2.1 j hj).2.2.1
  refine eX7_handOf _ _ _ (sX7_sideOf K hj hk ?_)
  rcases sdv_cases hm nz bg j k with ⟨e, e2, -⟩ | ⟨e, e2, -⟩ | ⟨e, e2, -⟩ <;> rw [e] <;> rw [e2] at hp
  · refine bnT (by decide) (bnF rfl ⟨pk_in j 6 (by omega), qi ?_⟩)
    rw [nI_clamp (by omega), hc.2.2]
    exact hp
  · exact bnF rfl (qi hp)
  · refine bnT (by decide) (bnT (by decide) ⟨pk_in j 6 (by omega), qi ?_⟩)
    rw [nI_clamp (by omega), hc.2.2]
    show P (nI 1 - nI (bg j)) st
    rw [pk_sub (by omega)]
    exact hp
theorem sX0_wordAt (K : RelC st n hm nz bg wd) (hj : j < n) (hk : k < tt hm nz j) (hp : P (wd j k) st) : Ct (d + 2) M_X0_wordAt [.ref 2, .int (nI j), .int (nI (k + 1))] st (Qi P) := by
  have h6 := K.1
  have ht := K.tb hj
  refine eX0_wordAt _ _ _ (sX0_has_in K hj (f1 (brF (nI_nlt (a := k + 1) (b := 1) (by omega) (by omega)) (sX0_places K hj (brF (nI_nlt (by omega) (by omega)) (brF (nI_nlt (a := 41) (b := k + 1) (by omega) (by omega)) ⟨pk_in j 6 (by omega), ?_⟩))))))
  have e : nI (k + 1) - 1 = nI k := nI_pred k
  rw [e, nI_clamp (n := j) (by omega), nI_clamp (n := k) (by omega)]
  refine ⟨pk_in k 41 (by omega), qi ?_⟩
  rw [((K.2.2.2.1 j hj).2.2.2 k hk).1]
  exact hp
theorem sX7_wordOf (K : RelC st n hm nz bg wd) (hj : j < n) (hk : k < tt hm nz j) (hp : P (wd j k) st) : Ct (d + 1) M_X7_wordOf [.ref 7, .int (nI j), .int (nI (k + 1))] st (Qi P) := by
  have h6 := K.1
  have ht := K.tb hj
  have hb := (K.2.2.2.1 j hj).1
  have hc := (K.2.2.2.1 j hj).2.2.1
  have hw := ((K.2.2.2.1 j hj).2.2.2 k hk).2
  rw [← hw] at hp
  refine eX7_wordOf _ _ _ (sX7_sideOf K hj hk ?_)
  have e21 : (21 : Int32) * nI j = nI (21 * j) := pk_mul 21 j
  rcases sdv_cases hm nz bg j k with ⟨e, e2, e3⟩ | ⟨e, e2, e3, e4⟩ | ⟨e, e2, e3, e4⟩ <;> rw [e]
  · refine bnF rfl ?_
    have e5 : nI (k + 1) - 1 = nI k := nI_pred k
    rw [e21, e5, nI_add, nI_clamp (by omega)]
    rw [if_pos e3] at hp
    exact ⟨pk_in (21 * j + k) 126 (by omega), qi hp⟩
  · refine bnT (by decide) (bnF rfl ⟨pk_in j 6 (by omega), ?_⟩)
    rw [nI_clamp (n := j) (by omega), hc.1, e21, nI_add, nI_clamp (by omega)]
    rw [if_neg (by omega), show tt hm nz j - 1 - k = hm j by unfold tt; omega] at hp
    exact ⟨pk_in (21 * j + hm j) 126 (by omega), qi hp⟩
  · refine bnT (by decide) (bnT (by decide) (sX7_totalOf K hj ?_))
    have e5 : nI (tt hm nz j) - nI (k + 1) = nI (tt hm nz j - 1 - k) := by
      rw [pk_sub (by omega)]
      congr 1
      omega
    have hlt : tt hm nz j - 1 - k ≤ 20 := by unfold tt; omega
    rw [e21, e5, nI_add, nI_clamp (by omega)]
    rw [if_neg (by omega)] at hp
    exact ⟨pk_in (21 * j + (tt hm nz j - 1 - k)) 126 (by omega), qi hp⟩
/-- v counts from 0: the number v + 1 -/
theorem sX0_menOf (K : RelC st n hm nz bg wd) (hj : j < n) {v : Nat} (hv : v < 2 ^ 30) (hp : P (nI (v / tt hm nz j)) st) : Ct (d + 2) M_X0_menOf [.ref 2, .int (nI j), .int (nI (v + 1))] st (Qi P) := by
  have ht := K.tb hj
  refine eX0_menOf _ _ _ (sX0_places K hj (brF (nI_nle (by omega) (by omega)) ⟨nI_ne0 (by omega) (by omega), qi ?_⟩))
  have e : nI (v + 1) - 1 = nI v := nI_pred v
  rw [e, pk_div (by omega) (by omega) (by omega)]
  exact hp
theorem sX0_placeOf (K : RelC st n hm nz bg wd) (hj : j < n) {v : Nat} (hv : v < 2 ^ 30) (hp : P (nI (v % tt hm nz j + 1)) st) : Ct (d + 2) M_X0_placeOf [.ref 2, .int (nI j), .int (nI (v + 1))] st (Qi P) := by
  have ht := K.tb hj
  refine eX0_placeOf _ _ _ (sX0_places K hj (brF (nI_nle (by omega) (by omega)) ⟨nI_ne0 (by omega) (by omega), qi ?_⟩))
  have e : nI (v + 1) - 1 = nI v := nI_pred v
  rw [e, pk_rem (by omega) (by omega) (by omega), nI_1]
  exact hp
theorem sX7_menOf (K : RelC st n hm nz bg wd) (hj : j < n) {v : Nat} (hv : v < 2 ^ 30) (hp : P (nI (v / tt hm nz j)) st) : Ct (d + 1) M_X7_menOf [.ref 7, .int (nI j), .int (nI (v + 1))] st (Qi P) := by
  have ht := K.tb hj
  refine eX7_menOf _ _ _ (sX7_totalOf K hj ⟨nI_ne0 (by omega) (by omega), qi ?_⟩)
  have e : nI (v + 1) - 1 = nI v := nI_pred v
  rw [e, pk_div (by omega) (by omega) (by omega)]
  exact hp
theorem sX7_placeOf (K : RelC st n hm nz bg wd) (hj : j < n) {v : Nat} (hv : v < 2 ^ 30) (hp : P (nI (v % tt hm nz j + 1)) st) : Ct (d + 2) M_X7_placeOf [.ref 7, .int (nI j), .int (nI (v + 1))] st (Qi P) := by
  have ht := K.tb hj
  refine eX7_placeOf _ _ _ (sX7_totalOf K hj (sX7_menOf K hj hv (qi ?_)))
  have e := Nat.div_add_mod v (tt hm nz j)
  rw [pk_mul, pk_sub (by omega), show v + 1 - tt hm nz j * (v / tt hm nz j) = v % tt hm nz j + 1 by omega]
  exact hp
theorem RelC.md (K : RelC st n hm nz bg wd) (hj : j < n) (v : Nat) : v % tt hm nz j < tt hm nz j := Nat.mod_lt _ (by have := K.tb hj; omega)
/-- what number v + 1 means by count j: its word, hand, men -/
def mm (hm nz bg : Nat → Nat) (wd : Nat → Nat → Int32) (j : Nat) (w h m : Int32) (v : Nat) : Prop := wd j (v % tt hm nz j) = w ∧ (h = -1 ∨ nI (hh hm nz bg j (v % tt hm nz j)) = h) ∧ (m = -1 ∨ nI (v / tt hm nz j) = m)
theorem sX0_means (K : RelC st n hm nz bg wd) (hj : j < n) {v : Nat} (hv : v < 2 ^ 30) {w h m : Int32} (h1 : mm hm nz bg wd j w h m v → P 1 st) (h0 : ¬ mm hm nz bg wd j w h m v → P 0 st) : Ct (d + 3) M_X0_means [.ref 2, .int (nI j), .int w, .int h, .int m, .int (nI (v + 1))] st (Qi P) := by
  have hk := K.md hj v
  refine eX0_means _ _ _ _ _ _ (sX0_placeOf K hj hv (sX0_wordAt K hj hk ⟨fun e => qi (h0 (fun q => e q.1)), fun e => ?_⟩))
  refine ⟨fun e2 => ⟨fun e3 => qi (h1 ⟨e, Or.inl e2, Or.inl e3⟩), fun e3 => sX0_menOf K hj hv ⟨fun e4 => qi (h0 (fun q => q.2.2.elim e3 e4)), fun e4 => qi (h1 ⟨e, Or.inl e2, Or.inr e4⟩)⟩⟩, fun e2 => sX0_handAt K hj hk ⟨fun e3 => qi (h0 (fun q => q.2.1.elim e2 e3)), fun e3 => ?_⟩⟩
  exact ⟨fun e4 => qi (h1 ⟨e, Or.inr e3, Or.inl e4⟩), fun e4 => sX0_menOf K hj hv ⟨fun e5 => qi (h0 (fun q => q.2.2.elim e4 e5)), fun e5 => qi (h1 ⟨e, Or.inr e3, Or.inr e5⟩)⟩⟩
theorem sX7_mayMean (K : RelC st n hm nz bg wd) (hj : j < n) {v : Nat} (hv : v < 2 ^ 30) {w h m : Int32} (h1 : mm hm nz bg wd j w h m v → P 1 st) (h0 : ¬ mm hm nz bg wd j w h m v → P 0 st) : Ct (d + 3) M_X7_mayMean [.ref 7, .int (nI j), .int w, .int h, .int m, .int (nI (v + 1))] st (Qi P) := by
  have hk := K.md hj v
  refine eX7_mayMean _ _ _ _ _ _ (sX7_placeOf K hj hv (sX7_wordOf K hj hk ⟨fun e => qi (h0 (fun q => e q.1)), fun e => ?_⟩))
  refine ⟨fun e2 => ⟨fun e3 => qi (h1 ⟨e, Or.inl e2, Or.inl e3⟩), fun e3 => sX7_menOf K hj hv ⟨fun e4 => qi (h0 (fun q => q.2.2.elim e3 e4)), fun e4 => qi (h1 ⟨e, Or.inl e2, Or.inr e4⟩)⟩⟩, fun e2 => sX7_handOf K hj hk ⟨fun e3 => qi (h0 (fun q => q.2.1.elim e2 e3)), fun e3 => ?_⟩⟩
  exact ⟨fun e4 => qi (h1 ⟨e, Or.inr e3, Or.inl e4⟩), fun e4 => sX7_menOf K hj hv ⟨fun e5 => qi (h0 (fun q => q.2.2.elim e4 e5)), fun e5 => qi (h1 ⟨e, Or.inr e3, Or.inr e5⟩)⟩⟩
end RC
