theorem cn_lt {p : Nat → Prop} {l : Nat} (hl : ¬ p l) : ∀ {n : Nat}, l < n → cn p n < n
  | 0, h => by omega
  | n + 1, h => by
    have := cn_le p n
    by_cases e : l = n
    · subst e
      rw [cn_no hl]; omega
    · have ih := cn_lt hl (n := n) (by omega)
      by_cases hp : p n
      · rw [cn_yes hp]; omega
      · rw [cn_no hp]; omega
theorem cn_lt2 {p r : Nat → Prop} (h : ∀ v, p v → r v) {m : Nat} (hm : r m) (hn : ¬ p m) : ∀ {n : Nat}, m < n → cn p n < cn r n
  | 0, h => by omega
  | n + 1, hmn => by
    by_cases e : m = n
    · subst e
      have := cn_mono h m
      rw [cn_no hn, cn_yes hm]; omega
    · have ih := cn_lt2 h hm hn (n := n) (by omega)
      by_cases hp : p n
      · rw [cn_yes hp, cn_yes (h n hp)]; omega
      · rw [cn_no hp]
        by_cases hr : r n
        · rw [cn_yes hr]; omega
        · rw [cn_no hr]; exact ih
/-- how far m lies from l -/
noncomputable def dD (len : Nat → Nat) (it : Nat → Nat → Int32) (l m : Nat) : Nat := ds (uc len it m l) (len m) (len l)
noncomputable def nm (len yr : Nat → Nat) (it : Nat → Nat → Int32) (l : Nat) (o : Option Nat) (m : Nat) : Option Nat := if yr m < yr l then (match o with
  | none => some m
  | some b => if dD len it l m < dD len it l b ∨ (dD len it l m = dD len it l b ∧ yr b < yr m) then some m else some b) else o
noncomputable def fM (len yr : Nat → Nat) (it : Nat → Nat → Int32) (l : Nat) : Nat → Nat → Option Nat → Option Nat
  | 0, _, o => o
  | f + 1, m, o => fM len yr it l f (m + 1) (nm len yr it l o m)
noncomputable def mo (len yr : Nat → Nat) (it : Nat → Nat → Int32) (q l : Nat) : Option Nat := fM len yr it l q 0 none
def em (o : Option Nat) : Int32 := match o with
  | none => -1
  | some m => nI m
noncomputable def ed (len : Nat → Nat) (it : Nat → Nat → Int32) (l : Nat) (o : Option Nat) : Int32 := match o with
  | none => 0
  | some m => nI (dD len it l m)
def okm (yr : Nat → Nat) (q l : Nat) (o : Option Nat) : Prop := ∀ m, o = some m → m < q ∧ yr m < yr l
theorem nm_ok {len yr : Nat → Nat} {it : Nat → Nat → Int32} {q l m : Nat} {o : Option Nat} (ho : okm yr q l o) (hm : m < q) : okm yr q l (nm len yr it l o m) := by
  unfold nm
  by_cases h : yr m < yr l
  · rw [if_pos h]
    cases o with
    | none => intro x e; cases e; exact ⟨hm, h⟩
    | some b =>
      simp only
      by_cases hc : dD len it l m < dD len it l b ∨ (dD len it l m = dD len it l b ∧ yr b < yr m)
      · rw [if_pos hc]; intro x e; cases e; exact ⟨hm, h⟩
      · rw [if_neg hc]; exact ho
  · rw [if_neg h]
    exact ho
theorem fM_ok {len yr : Nat → Nat} {it : Nat → Nat → Int32} {q l : Nat} : ∀ (f m : Nat) (o : Option Nat), m + f = q → okm yr q l o → okm yr q l (fM len yr it l f m o)
  | 0, _, _, _, ho => ho
  | f + 1, m, o, e, ho => fM_ok f (m + 1) _ (by omega) (nm_ok ho (by omega))
theorem mo_ok (len yr : Nat → Nat) (it : Nat → Nat → Int32) (q l : Nat) : okm yr q l (mo len yr it q l) := fM_ok q 0 none (by omega) (fun m e => by cases e)
section S33
variable {q : Nat} {len yr : Nat → Nat} {it : Nat → Nat → Int32} {d l : Nat} {P : Int32 → xSt → Prop} {κ : xK} {Q : Option Value → xSt → Prop}
theorem dD_le {st : xSt} (K : RelL st q len yr it) (hl : l < q) {m : Nat} (hm : m < q) : dD len it l m ≤ 200 := by
  have k1 := (K.2.2 l hl).1
  have k2 := (K.2.2 m hm).1
  have := ds_le (uc len it m l) (len m) (len l)
  unfold dD
  omega
theorem lX2_mother (C : Cx κ M_X2_motherOf (d + 3)) (Z : xR κ Q) (hl : l < q) : ∀ (f m : Nat) (o : Option Nat) (st : xSt), m + f = q → RelL st q len yr it → okm yr q l o → (∀ st', Off [25, 26] st st' → Q (some (.int (em (fM len yr it l f m o)))) st') → X κ 7 [(0, .ref 5), (1, .int (nI l)), (2, .int (em o)), (3, .int (ed len it l o)), (4, .int (nI m))] [] st
  | 0, m, o, st, e, K, ho, hq => by
    have h8 := K.1
    refine bX2_motherOf_7 C Z _ _ _ _ _ (brT ?_ (hq st Off.rfl))
    rw [K.2.1.1]
    exact nI_le (by omega) (by omega)
  | f + 1, m, o, st, e, K, ho, hq => by
    have h8 := K.1
    have hm : m < q := by omega
    have k1 := (K.2.2 l hl).1
    have k2 := (K.2.2 m hm).1
    have d1 := dD_le K hl hm
    have go : ∀ o' st', o' = nm len yr it l o m → Off [25, 26] st st' → X κ 7 [(0, .ref 5), (1, .int (nI l)), (2, .int (em o')), (3, .int (ed len it l o')), (4, .int (nI m + 1))] [] st' := fun o' st' eo of => by
      simp only [nI_1]
      subst eo
      exact lX2_mother C Z hl f (m + 1) _ st' (by omega) (K.off of c25) (nm_ok ho hm) (fun s2 o2 => hq s2 (of.trans o2))
    refine bX2_motherOf_7 C Z _ _ _ _ _ (brF ?_ (sX2_yearOf K hm (sX2_yearOf K hl (pk_le (yr l) (yr m) (fun g => go o st (by unfold nm; rw [if_neg (by omega)]) Off.rfl) (fun g => sX2_distance K hm hl (fun s1 o1 => ?_))))))
    · rw [K.2.1.1]
      exact nI_ge (by omega) (by omega)
    · have K1 := K.off o1 c25
      show (em o = -1 → _) ∧ _
      cases o with
      | none => exact brT rfl (go (some m) s1 (by unfold nm; rw [if_pos g]) o1)
      | some b =>
        have hb := ho b rfl
        have d2 := dD_le K hl hb.1
        have k3 := (K.2.2 b hb.1).1
        refine brF (nI_m1 (by omega)) (pk_lt (dD len it l m) (dD len it l b) (fun g2 => ?_) (fun g2 => ⟨fun g3 => ?_, fun g3 => sX2_yearOf K1 hm (sX2_yearOf K1 hb.1 (pk_le (yr m) (yr b) (fun g4 => ?_) (fun g4 => ?_)))⟩))
        · exact go (some m) s1 (by unfold nm; rw [if_pos g]; simp only; rw [if_pos (Or.inl g2)]) o1
        · have g5 : dD len it l m ≠ dD len it l b := fun e => g3 (show nI (dD len it l m) = nI (dD len it l b) by rw [e])
          exact go (some b) s1 (by unfold nm; rw [if_pos g]; simp only; rw [if_neg (by omega)]) o1
        · exact go (some b) s1 (by unfold nm; rw [if_pos g]; simp only; rw [if_neg (by omega)]) o1
        · have g5 : dD len it l m = dD len it l b := (nI_eq (by omega) (by omega)).mp g3
          exact go (some m) s1 (by unfold nm; rw [if_pos g]; simp only; rw [if_pos (Or.inr ⟨g5, g4⟩)]) o1
theorem sX2_motherOf {st : xSt} (K : RelL st q len yr it) (hl : l < q) (hp : ∀ st', Off [25, 26] st st' → P (em (mo len yr it q l)) st') : Ct (d + 3) M_X2_motherOf [.ref 5, .int (nI l)] st (Qi P) := eX2_motherOf _ _ (fun κ C Z => lX2_mother C Z hl q 0 none st (by omega) K (fun m e => by cases e) (fun s2 o => qi (hp s2 o)))
theorem lX7_mother (C : Cx κ M_X7_motherOf (d + 1)) (Z : xR κ Q) (hl : l < q) : ∀ (f m : Nat) (o : Option Nat) (st : xSt), m + f = q → RelL st q len yr it → okm yr q l o → (∀ st', Off [41] st st' → Q (some (.int (em (fM len yr it l f m o)))) st') → X κ 7 [(0, .ref 7), (1, .int (nI l)), (2, .int (em o)), (3, .int (ed len it l o)), (4, .int (nI m))] [] st
  | 0, m, o, st, e, K, ho, hq => by
    have h8 := K.1
    refine bX7_motherOf_7 C Z _ _ _ _ _ (brT ?_ (hq st Off.rfl))
    rw [K.2.1.2]
    exact nI_le (by omega) (by omega)
  | f + 1, m, o, st, e, K, ho, hq => by
    have h8 := K.1
    have hm : m < q := by omega
    have k1 := K.2.2 l hl
    have k2 := K.2.2 m hm
    have d1 := dD_le K hl hm
    have go : ∀ o' st', o' = nm len yr it l o m → Off [41] st st' → X κ 7 [(0, .ref 7), (1, .int (nI l)), (2, .int (em o')), (3, .int (ed len it l o')), (4, .int (nI m + 1))] [] st' := fun o' st' eo of => by
      simp only [nI_1]
      subst eo
      exact lX7_mother C Z hl f (m + 1) _ st' (by omega) (K.off of c41) (nm_ok ho hm) (fun s2 o2 => hq s2 (of.trans o2))
    refine bX7_motherOf_7 C Z _ _ _ _ _ (brF ?_ ⟨pk_in m 8 (by omega), pk_in l 8 (by omega), ?_⟩)
    · rw [K.2.1.2]
      exact nI_ge (by omega) (by omega)
    · rw [nI_clamp (n := l) (by omega), nI_clamp (n := m) (by omega), k1.2.1.2.2.2, k2.2.1.2.2.2]
      refine pk_le (yr l) (yr m) (fun g => go o st (by unfold nm; rw [if_neg (by omega)]) Off.rfl) (fun g => sX7_changesOf K hm hl (fun s1 o1 => ?_))
      have K1 := K.off o1 c41
      have k4 := K1.2.2 m hm
      show (em o = -1 → _) ∧ _
      cases o with
      | none => exact brT rfl (go (some m) s1 (by unfold nm; rw [if_pos g]) o1)
      | some b =>
        have hb := ho b rfl
        have d2 := dD_le K hl hb.1
        have k5 := K1.2.2 b hb.1
        refine brF (nI_m1 (by omega)) (pk_lt (dD len it l m) (dD len it l b) (fun g2 => ?_) (fun g2 => ⟨fun g3 => ?_, fun g3 => ⟨pk_in m 8 (by omega), pk_in b 8 (by omega), ?_⟩⟩))
        · exact go (some m) s1 (by unfold nm; rw [if_pos g]; simp only; rw [if_pos (Or.inl g2)]) o1
        · have g5 : dD len it l m ≠ dD len it l b := fun e => g3 (show nI (dD len it l m) = nI (dD len it l b) by rw [e])
          exact go (some b) s1 (by unfold nm; rw [if_pos g]; simp only; rw [if_neg (by omega)]) o1
        · have g5 : dD len it l m = dD len it l b := (nI_eq (by omega) (by omega)).mp g3
          have cb : (em (some b)).toNatClampNeg = b := nI_clamp (by omega)
          rw [k4.2.1.2.2.2, cb, k5.2.1.2.2.2]
          refine pk_le (yr m) (yr b) (fun g4 => ?_) (fun g4 => ?_)
          · exact go (some b) s1 (by unfold nm; rw [if_pos g]; simp only; rw [if_neg (by omega)]) o1
          · exact go (some m) s1 (by unfold nm; rw [if_pos g]; simp only; rw [if_pos (Or.inr ⟨g5, g4⟩)]) o1
theorem sX7_motherOf {st : xSt} (K : RelL st q len yr it) (hl : l < q) (hp : ∀ st', Off [41] st st' → P (em (mo len yr it q l)) st') : Ct (d + 1) M_X7_motherOf [.ref 7, .int (nI l)] st (Qi P) := eX7_motherOf _ _ (fun κ C Z => lX7_mother C Z hl q 0 none st (by omega) K (fun m e => by cases e) (fun s2 o => qi (hp s2 o)))
/-- how many mothers up -/
noncomputable def ag (len yr : Nat → Nat) (it : Nat → Nat → Int32) (q : Nat) : Nat → Nat → Nat
  | 0, _ => 0
  | f + 1, l => match mo len yr it q l with
    | none => 0
    | some m => ag len yr it q f m + 1
theorem lX2_gen (C : Cx κ M_X2_generations (d + 4)) (Z : xR κ Q) : ∀ (f s l : Nat) (st : xSt), s + f = 8 → l < q → RelL st q len yr it → (∀ st', Off [25, 26] st st' → Q (some (.int (nI (s + ag len yr it q f l)))) st') → X κ 4 [(0, .ref 5), (2, .int (nI l)), (3, .int (nI s))] [] st
  | 0, s, l, st, e, hl, K, hq => by
    have := hq st Off.rfl
    rw [show s + ag len yr it q 0 l = 8 by rw [ag]; omega] at this
    rw [show s = 8 by omega]
    exact bX2_generations_4 C Z _ _ _ (brT (by decide) this)
  | f + 1, s, l, st, e, hl, K, hq => by
    have ok := mo_ok len yr it q l
    refine bX2_generations_4 C Z _ _ _ (brF (nI_ge (b := 8) (by omega) (by omega)) (sX2_motherOf K hl (fun s1 o1 => ?_)))
    rw [ag] at hq
    cases hmo : mo len yr it q l with
    | none =>
      rw [hmo] at hq
      exact bnF rfl (hq s1 o1)
    | some m =>
      rw [hmo] at hq ok
      have hm := ok m rfl
      have h8 := K.1
      refine bnT (nI_m1 (by omega)) ?_
      simp only [nI_1]
      refine lX2_gen C Z f (s + 1) m s1 (by omega) hm.1 (K.off o1 c25) (fun s2 o2 => ?_)
      have := hq s2 (o1.trans o2)
      simp only at this
      rw [show s + 1 + ag len yr it q f m = s + (ag len yr it q f m + 1) by omega]
      exact this
theorem lX7_age (C : Cx κ M_X7_age (d + 2)) (Z : xR κ Q) : ∀ (r n l : Nat) (st : xSt), l < q → cn (fun k => yr k < yr l) q < r → RelL st q len yr it → (∀ st', Off [41] st st' → Q (some (.int (nI (n + ag len yr it q r l)))) st') → X κ 19 [(0, .ref 7), (2, .int (nI n)), (3, .int (em (mo len yr it q l)))] [] st
  | 0, n, l, st, hl, hr, K, hq => by omega
  | r + 1, n, l, st, hl, hr, K, hq => by
    have ok := mo_ok len yr it q l
    rw [ag] at hq
    cases hmo : mo len yr it q l with
    | none =>
      rw [hmo] at hq
      exact bX7_age_19 C Z _ _ _ (brT rfl (hq st Off.rfl))
    | some m =>
      rw [hmo] at hq ok
      have hm := ok m rfl
      have h8 := K.1
      refine bX7_age_19 C Z _ _ _ (brF (nI_m1 (by omega)) (sX7_motherOf K hm.1 (fun s1 o1 => ?_)))
      simp only [nI_1]
      have lt : cn (fun k => yr k < yr m) q < cn (fun k => yr k < yr l) q := cn_lt2 (p := fun k => yr k < yr m) (r := fun k => yr k < yr l) (fun v h => Nat.lt_trans h hm.2) hm.2 (fun h => by omega) hm.1
      refine lX7_age C Z r (n + 1) m s1 hm.1 (by omega) (K.off o1 c41) (fun s2 o2 => ?_)
      have := hq s2 (o1.trans o2)
      simp only at this
      rw [show n + 1 + ag len yr it q r m = n + (ag len yr it q r m + 1) by omega]
      exact this
end S33
theorem g_mother (c : Int32) : Good M_X6_mother M_X7_mother [.int c] := by
  intro st hR P hp
  have fin : ∀ v, P v v st := fun v => hp v st hR
  obtain ⟨n, -, -, -, -, ⟨q, len, yr, it, K⟩, -⟩ := id hR
  rcases isC q c with ⟨a, ha, rfl⟩ | h
  · refine eX6_mother _ _ (sX2_has_in K ha (f1 (sX2_motherOf K ha (fun s1 o1 => qi ?_))))
    have K1 := K.off o1 c25
    exact eX7_mother _ _ (sX7_isList_in K1 ha (f1 (sX7_motherOf K1 ha (fun s2 o2 => qi (hp _ _ ((hR.sm (o1.sm c25)).sm (o2.sm c41)))))))
  · exact eX6_mother _ _ (sX2_has_no K h (f0 (qi (eX7_mother _ _ (sX7_isList_no K h (f0 (qi (fin _))))))))
theorem g_age (c : Int32) : Good M_X6_age M_X7_age [.int c] := by
  intro st hR P hp
  have fin : ∀ v, P v v st := fun v => hp v st hR
  obtain ⟨n, -, -, -, -, ⟨q, len, yr, it, K⟩, -⟩ := id hR
  have h8 := K.1
  rcases isC q c with ⟨a, ha, rfl⟩ | h
  · refine eX6_age _ _ (sX2_has_in K ha (f1 (eX2_generations _ _ (fun κ C Z => lX2_gen (d := 55) C Z 8 0 a st (by omega) ha K (fun s1 o1 => qi (qi ?_))))))
    have K1 := K.off o1 c25
    have lt : cn (fun k => yr k < yr a) q < q := cn_lt (fun h => by omega) ha
    refine eX7_age _ _ (fun κ C Z => sX7_isList_in K1 ha (g1 (sX7_motherOf K1 ha (fun s2 o2 => ?_))))
    exact lX7_age (d := 58) C Z 8 0 a s2 ha (by omega) (K1.off o2 c41) (fun s3 o3 => qi (hp _ _ (((hR.sm (o1.sm c25)).sm (o2.sm c41)).sm (o3.sm c41))))
  · exact eX6_age _ _ (sX2_has_no K h (f0 (qi (eX7_age _ _ (fun κ C Z => sX7_isList_no K h (g0 (qi (fin _))))))))
