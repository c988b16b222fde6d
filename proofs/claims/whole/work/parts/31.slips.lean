theorem cn_ext {p : Nat → Prop} {m : Nat} : ∀ {n : Nat}, m ≤ n → (∀ v, m ≤ v → v < n → ¬ p v) → cn p n = cn p m
  | 0, h, _ => by rw [show m = 0 by omega]
  | n + 1, h, hn => by
    by_cases e : m = n + 1
    · rw [e]
    · rw [cn_no (hn n (by omega) (by omega)), cn_ext (by omega) (fun v h1 h2 => hn v h1 (by omega))]
/-- said before year bf at i -/
def sd (len yr : Nat → Nat) (it : Nat → Nat → Int32) (q bf i : Nat) (w : Int32) : Prop := ∃ l, l < q ∧ yr l < bf ∧ iv len it l i = w
def ps (len yr : Nat → Nat) (it : Nat → Nat → Int32) (q a b bf i : Nat) : Prop := ¬ iv len it a i = -1 ∧ iv len it a i = iv len it b i ∧ ¬ sd len yr it q bf i (iv len it a i)
section S31
variable {st : xSt} {q : Nat} {len yr : Nat → Nat} {it : Nat → Nat → Int32} {d a b bf i : Nat} {P : Int32 → xSt → Prop} {κ : xK} {Q : Option Value → xSt → Prop}
theorem lX2_wasSaid (C : Cx κ M_X2_wasSaid (d + 2)) (Z : xR κ Q) (K : RelL st q len yr it) {w : Int32} (hi : i < 2 ^ 30) (hbf : bf ≤ 3000) (h1 : sd len yr it q bf i w → Q (some (.int 1)) st) (h0 : ¬ sd len yr it q bf i w → Q (some (.int 0)) st) : ∀ (f l : Nat), l + f = q → (∀ k, k < l → ¬ (yr k < bf ∧ iv len it k i = w)) → X κ 3 [(0, .ref 5), (1, .int w), (2, .int (nI i)), (3, .int (nI bf)), (4, .int (nI l))] [] st
  | 0, l, e, ok => by
    have h8 := K.1
    refine bX2_wasSaid_3 C Z _ _ _ _ _ (brT ?_ (h0 (fun ⟨k, hk, t⟩ => ok k (by omega) t)))
    rw [K.2.1.1]
    exact nI_le (by omega) (by omega)
  | f + 1, l, e, ok => by
    have h8 := K.1
    have k := (K.2.2 l (by omega)).1
    have go : ¬ (yr l < bf ∧ iv len it l i = w) → X κ 3 [(0, .ref 5), (1, .int w), (2, .int (nI i)), (3, .int (nI bf)), (4, .int (nI l + 1))] [] st := fun g => by
      simp only [nI_1]
      refine lX2_wasSaid C Z K hi hbf h1 h0 f (l + 1) (by omega) (fun k hk => ?_)
      by_cases ek : k = l
      · rw [ek]
        exact g
      · exact ok k (by omega)
    refine bX2_wasSaid_3 C Z _ _ _ _ _ (brF ?_ (sX2_yearOf K (by omega) (pk_le bf (yr l) (fun g => go (fun t => by omega)) (fun g => sX2_item K (by omega) hi ⟨fun g2 => go (fun t => g2 t.2), fun g2 => h1 ⟨l, by omega, g, g2⟩⟩))))
    rw [K.2.1.1]
    exact nI_ge (by omega) (by omega)
theorem lX2_slips (C : Cx κ M_X2_sharedSlips (d + 3)) (Z : xR κ Q) (K : RelL st q len yr it) (ha : a < q) (hb : b < q) (hbf : bf ≤ 3000) (hq : Q (some (.int (nI (cn (ps len yr it q a b bf) (len a))))) st) : ∀ (f v : Nat), v + f = len a → X κ 20 [(0, .ref 5), (1, .int (nI a)), (2, .int (nI b)), (3, .int (nI (cn (ps len yr it q a b bf) v))), (4, .int (nI bf)), (5, .int (nI v))] [] st
  | 0, v, e => by
    have k := (K.2.2 a ha).1
    rw [show v = len a by omega]
    exact bX2_sharedSlips_20 C Z _ _ _ _ _ _ (sX2_lengthOf K ha (brT (nI_le (by omega) (by omega)) hq))
  | f + 1, v, e => by
    have k := (K.2.2 a ha).1
    have ng : ¬ ps len yr it q a b bf v → X κ 20 [(0, .ref 5), (1, .int (nI a)), (2, .int (nI b)), (3, .int (nI (cn (ps len yr it q a b bf) v))), (4, .int (nI bf)), (5, .int (nI v + 1))] [] st := fun g => by
      simp only [nI_1]
      rw [← cn_no g]
      exact lX2_slips C Z K ha hb hbf hq f (v + 1) (by omega)
    refine bX2_sharedSlips_20 C Z _ _ _ _ _ _ (sX2_lengthOf K ha (brF (nI_ge (by omega) (by omega)) (sX2_item K ha (by omega) ⟨fun g => ng (fun t => t.1 g), fun g => sX2_item K hb (by omega) ⟨fun g2 => ng (fun t => g2 t.2.1), fun g2 => eX2_wasSaid _ _ _ _ (fun κ2 C2 Z2 => lX2_wasSaid (d := d) C2 Z2 K (by omega) hbf (fun g3 => qi (g1 (ng (fun t => t.2.2 g3)))) (fun g3 => qi (g0 ?_)) q 0 (by omega) (fun k hk => by omega))⟩⟩)))
    simp only [nI_1]
    rw [← cn_yes (p := ps len yr it q a b bf) ⟨g, g2, g3⟩]
    exact lX2_slips C Z K ha hb hbf hq f (v + 1) (by omega)
theorem lX7_130 (C : Cx κ M_X7_slips (d + 1)) (Z : xR κ Q) (K : RelL st q len yr it) (ha : a < q) (hi : i < len a) (hbf : bf ≤ 3000) {x4 : Int32} (h1 : ¬ sd len yr it q bf i (iv len it a i) → X κ 61 [(0, .ref 7), (1, .int (nI a)), (2, .int (nI b)), (3, .int (nI bf)), (4, .int (x4 + 1)), (5, .int (nI i + 1))] [] st) (h0 : X κ 61 [(0, .ref 7), (1, .int (nI a)), (2, .int (nI b)), (3, .int (nI bf)), (4, .int (x4 + 0)), (5, .int (nI i + 1))] [] st) (hw : ¬ iv len it a i = -1) : ∀ (f l : Nat) (t : Int32), l + f = q → (t = 0 ∨ (t = 1 ∧ ∀ k, k < l → ¬ (yr k < bf ∧ iv len it k i = iv len it a i))) → X κ 130 [(0, .ref 7), (1, .int (nI a)), (2, .int (nI b)), (3, .int (nI bf)), (4, .int x4), (5, .int (nI i)), (6, .int (iv len it a i)), (7, .int t), (8, .int (nI l))] [] st
  | 0, l, t, e, ok => by
    have h8 := K.1
    refine bX7_slips_130 C Z _ _ _ _ _ _ _ _ _ (brT ?_ ?_)
    · rw [K.2.1.2]
      exact nI_le (by omega) (by omega)
    · rcases ok with rfl | ⟨rfl, ok⟩
      · exact f0 h0
      · exact f1 (h1 (fun ⟨k, hk, t⟩ => ok k (by omega) t))
  | f + 1, l, t, e, ok => by
    have h8 := K.1
    have k := K.2.2 l (by omega)
    have k3 := K.2.2 a ha
    have go : ¬ (yr l < bf ∧ iv len it l i = iv len it a i) → X κ 130 [(0, .ref 7), (1, .int (nI a)), (2, .int (nI b)), (3, .int (nI bf)), (4, .int x4), (5, .int (nI i)), (6, .int (iv len it a i)), (7, .int (t &&& 1)), (8, .int (nI l + 1))] [] st := fun g => by
      simp only [nI_1]
      refine lX7_130 C Z K ha hi hbf h1 h0 hw f (l + 1) _ (by omega) ?_
      rcases ok with rfl | ⟨rfl, ok⟩
      · exact Or.inl (by decide)
      · refine Or.inr ⟨by decide, fun k hk => ?_⟩
        by_cases ek : k = l
        · rw [ek]
          exact g
        · exact ok k (by omega)
    refine bX7_slips_130 C Z _ _ _ _ _ _ _ _ _ (brF ?_ ⟨pk_in l 8 (by omega), ?_⟩)
    · rw [K.2.1.2]
      exact nI_ge (by omega) (by omega)
    · rw [nI_clamp (n := l) (by omega), k.2.1.2.2.2, k.2.1.2.1, e30, nI_clamp (n := 30 * l + i) (by omega)]
      refine pk_le bf (yr l) (fun g => go (fun t => by omega)) (fun g => ⟨pk_in l 8 (by omega), pk_le (len l) i (fun g2 => go (fun t => hw ?_)) (fun g2 => ⟨pk_in (30 * l + i) 240 (by omega), ?_⟩)⟩)
      · have := t.2
        unfold iv at this
        rw [if_neg (by omega)] at this
        unfold iv
        exact this.symm
      · rw [m40 K (by omega) g2]
        refine ⟨fun g3 => ?_, fun g3 => go (fun t => g3 t.2)⟩
        simp only [nI_1]
        refine lX7_130 C Z K ha hi hbf h1 h0 hw f (l + 1) _ (by omega) (Or.inl ?_)
        rcases ok with rfl | ⟨rfl, -⟩ <;> decide
theorem lX7_130z (C : Cx κ M_X7_slips (d + 1)) (Z : xR κ Q) (K : RelL st q len yr it) (hi : i < 30) (hbf : bf ≤ 3000) {x4 x6 : Int32} (h0 : X κ 61 [(0, .ref 7), (1, .int (nI a)), (2, .int (nI b)), (3, .int (nI bf)), (4, .int (x4 + 0)), (5, .int (nI i + 1))] [] st) : ∀ (f l : Nat), l + f = q → X κ 130 [(0, .ref 7), (1, .int (nI a)), (2, .int (nI b)), (3, .int (nI bf)), (4, .int x4), (5, .int (nI i)), (6, .int x6), (7, .int 0), (8, .int (nI l))] [] st
  | 0, l, e => by
    have h8 := K.1
    refine bX7_slips_130 C Z _ _ _ _ _ _ _ _ _ (brT ?_ (f0 h0))
    rw [K.2.1.2]
    exact nI_le (by omega) (by omega)
  | f + 1, l, e => by
    have h8 := K.1
    have k := K.2.2 l (by omega)
    have ih := lX7_130z C Z K hi hbf h0 (x6 := x6) f (l + 1) (by omega)
    have z1 : (0 : Int32) &&& 1 = 0 := by decide
    have z0 : (0 : Int32) &&& 0 = 0 := by decide
    refine bX7_slips_130 C Z _ _ _ _ _ _ _ _ _ (brF ?_ ⟨pk_in l 8 (by omega), ?_⟩)
    · rw [K.2.1.2]
      exact nI_ge (by omega) (by omega)
    · rw [nI_clamp (n := l) (by omega), k.2.1.2.2.2, k.2.1.2.1, e30, nI_clamp (n := 30 * l + i) (by omega), z1, z0]
      simp only [nI_1]
      exact ⟨fun _ => ih, fun _ => ⟨pk_in l 8 (by omega), fun _ => ih, fun _ => ⟨pk_in (30 * l + i) 240 (by omega), fun _ => ih, fun _ => ih⟩⟩⟩
theorem lX7_slips (C : Cx κ M_X7_slips (d + 1)) (Z : xR κ Q) (K : RelL st q len yr it) (ha : a < q) (hb : b < q) (hbf : bf ≤ 3000) (hq : Q (some (.int (nI (cn (ps len yr it q a b bf) (min (len a) (len b)))))) st) : ∀ (f v : Nat), v + f = min (len a) (len b) → X κ 61 [(0, .ref 7), (1, .int (nI a)), (2, .int (nI b)), (3, .int (nI bf)), (4, .int (nI (cn (ps len yr it q a b bf) v))), (5, .int (nI v))] [] st
  | 0, v, e => by
    have h8 := K.1
    have ka := K.2.2 a ha
    have kb := K.2.2 b hb
    rw [show v = min (len a) (len b) by omega]
    refine bX7_slips_61 C Z _ _ _ _ _ _ ⟨pk_in a 8 (by omega), ?_⟩
    rw [nI_clamp (n := a) (by omega), nI_clamp (n := b) (by omega), ka.2.1.2.1, kb.2.1.2.1]
    by_cases hab : len a ≤ len b
    · exact brT (nI_le (by omega) (by omega)) hq
    · exact brF (nI_ge (by omega) (by omega)) ⟨pk_in b 8 (by omega), brT (nI_le (by omega) (by omega)) hq⟩
  | f + 1, v, e => by
    have h8 := K.1
    have ka := K.2.2 a ha
    have kb := K.2.2 b hb
    have ng : ¬ ps len yr it q a b bf v → X κ 61 [(0, .ref 7), (1, .int (nI a)), (2, .int (nI b)), (3, .int (nI bf)), (4, .int (nI (cn (ps len yr it q a b bf) v) + 0)), (5, .int (nI v + 1))] [] st := fun g => by
      simp only [nI_1, i_add0]
      rw [← cn_no g]
      exact lX7_slips C Z K ha hb hbf hq f (v + 1) (by omega)
    refine bX7_slips_61 C Z _ _ _ _ _ _ ⟨pk_in a 8 (by omega), ?_⟩
    rw [nI_clamp (n := a) (by omega), nI_clamp (n := b) (by omega), ka.2.1.2.1, kb.2.1.2.1, e30, e30, nI_clamp (n := 30 * a + v) (by omega), nI_clamp (n := 30 * b + v) (by omega), m40 K ha (by omega), m40 K hb (by omega)]
    refine brF (nI_ge (by omega) (by omega)) ⟨pk_in b 8 (by omega), brF (nI_ge (by omega) (by omega)) ⟨pk_in (30 * a + v) 240 (by omega), fun g => lX7_130z C Z K (by omega) hbf (ng (fun t => t.1 g)) q 0 (by omega), fun g => ⟨pk_in (30 * b + v) 240 (by omega), fun g2 => lX7_130z C Z K (by omega) hbf (ng (fun t => g2 t.2.1)) q 0 (by omega), fun g2 => ?_⟩⟩⟩
    by_cases hs : sd len yr it q bf v (iv len it a v)
    · exact lX7_130 C Z K ha (by omega) hbf (fun t => (t hs).elim) (ng (fun t => t.2.2 hs)) g q 0 1 (by omega) (Or.inr ⟨rfl, fun k hk => by omega⟩)
    · have hps : ps len yr it q a b bf v := ⟨g, g2, hs⟩
      have pos : X κ 61 [(0, .ref 7), (1, .int (nI a)), (2, .int (nI b)), (3, .int (nI bf)), (4, .int (nI (cn (ps len yr it q a b bf) v) + 1)), (5, .int (nI v + 1))] [] st := by
        simp only [nI_1]
        rw [← cn_yes hps]
        exact lX7_slips C Z K ha hb hbf hq f (v + 1) (by omega)
      have fin : ∀ (f l : Nat), l + f = q → X κ 130 [(0, .ref 7), (1, .int (nI a)), (2, .int (nI b)), (3, .int (nI bf)), (4, .int (nI (cn (ps len yr it q a b bf) v))), (5, .int (nI v)), (6, .int (iv len it a v)), (7, .int 1), (8, .int (nI l))] [] st := by
        intro f
        induction f with
        | zero =>
          intro l e
          refine bX7_slips_130 C Z _ _ _ _ _ _ _ _ _ (brT ?_ (f1 pos))
          rw [K.2.1.2]
          exact nI_le (by omega) (by omega)
        | succ f ih =>
          intro l e
          have k := K.2.2 l (by omega)
          have ih := ih (l + 1) (by omega)
          have z1 : (1 : Int32) &&& 1 = 1 := by decide
          refine bX7_slips_130 C Z _ _ _ _ _ _ _ _ _ (brF ?_ ⟨pk_in l 8 (by omega), ?_⟩)
          · rw [K.2.1.2]
            exact nI_ge (by omega) (by omega)
          · rw [nI_clamp (n := l) (by omega), k.2.1.2.2.2, k.2.1.2.1, e30, nI_clamp (n := 30 * l + v) (by omega), z1]
            simp only [nI_1]
            refine pk_le bf (yr l) (fun _ => ih) (fun y1 => ⟨pk_in l 8 (by omega), pk_le (len l) v (fun _ => ih) (fun y2 => ⟨pk_in (30 * l + v) 240 (by omega), fun y3 => ?_, fun _ => ih⟩)⟩)
            rw [m40 K (by omega) y2] at y3
            exact (hs ⟨l, by omega, y1, y3⟩).elim
      exact fin q 0 (by omega)
end S31
theorem g_slips (c x : Int32) : Good M_X6_slips M_X7_slips [.int c, .int x] := by
  intro st hR P hp
  have fin : ∀ v, P v v st := fun v => hp v st hR
  obtain ⟨n, -, -, -, -, ⟨q, len, yr, it, K⟩, -⟩ := id hR
  have h8 := K.1
  rcases two_cases q c x with ⟨a, b, ha, hb, hn, rfl, rfl⟩ | h | ⟨⟨a, ha, rfl⟩, h⟩ | ⟨⟨a, ha, rfl⟩, rfl⟩
  · have hne : ¬ nI a = nI b := fun z => hn ((nI_eq (by omega) (by omega)).mp z)
    have ka := K.2.2 a ha
    have kb := K.2.2 b hb
    have em : imin (nI (yr a)) (nI (yr b)) = nI (min (yr a) (yr b)) := by
      unfold imin
      by_cases h : yr b < yr a
      · rw [if_pos (nI_lt h (by omega)), show min (yr a) (yr b) = yr b by omega]
      · rw [if_neg (nI_nlt (by omega) (by omega)), show min (yr a) (yr b) = yr a by omega]
    have ext : cn (ps len yr it q a b (min (yr a) (yr b))) (len a) = cn (ps len yr it q a b (min (yr a) (yr b))) (min (len a) (len b)) := by
      refine cn_ext (by omega) (fun v h1 h2 t => ?_)
      have e2 : iv len it b v = -1 := by
        unfold iv
        rw [if_neg (by omega)]
      exact t.1 (t.2.1.trans e2)
    refine eX6_slips _ _ _ (sX2_has_in K ha (f1 (sX2_has_in K hb (f1 (bnT hne (eX2_sharedSlips _ _ _ (fun κ C Z => sX2_yearOf K ha (sX2_yearOf K hb ?_))))))))
    rw [em]
    refine lX2_slips (d := 56) C Z K ha hb (by omega) (qi (qi ?_)) (len a) 0 (by omega)
    rw [ext]
    refine eX7_slips _ _ _ (fun κ C Z => sX7_isList_in K ha (f1 (sX7_isList_in K hb (f1 (bnT hne ⟨pk_in a 8 (by omega), pk_in b 8 (by omega), ?_⟩)))))
    rw [nI_clamp (n := a) (by omega), nI_clamp (n := b) (by omega), ka.2.1.2.2.2, kb.2.1.2.2.2]
    refine pk_le (yr b) (yr a) (fun g => ⟨pk_in b 8 (by omega), ?_⟩) (fun g => ⟨pk_in a 8 (by omega), ?_⟩)
    · have := lX7_slips (d := 59) C Z K ha hb (bf := min (yr a) (yr b)) (by omega) (qi (fin _)) (min (len a) (len b)) 0 (by omega)
      rw [show min (yr a) (yr b) = yr b by omega] at this
      exact this
    · have := lX7_slips (d := 59) C Z K ha hb (bf := min (yr a) (yr b)) (by omega) (qi (fin _)) (min (len a) (len b)) 0 (by omega)
      rw [show min (yr a) (yr b) = yr a by omega] at this
      exact this
  · exact eX6_slips _ _ _ (sX2_has_no K h (f0 (qi (eX7_slips _ _ _ (fun κ C Z => sX7_isList_no K h (f0 (qi (fin _))))))))
  · exact eX6_slips _ _ _ (sX2_has_in K ha (f1 (sX2_has_no K h (f0 (qi (eX7_slips _ _ _ (fun κ C Z => sX7_isList_in K ha (f1 (sX7_isList_no K h (f0 (qi (fin _))))))))))))
  · exact eX6_slips _ _ _ (sX2_has_in K ha (f1 (sX2_has_in K ha (f1 (bnF rfl (qi (eX7_slips _ _ _ (fun κ C Z => sX7_isList_in K ha (f1 (sX7_isList_in K ha (f1 (bnF rfl (qi (fin _))))))))))))))
