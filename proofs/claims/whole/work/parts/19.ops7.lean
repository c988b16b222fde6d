theorem RR.putD {st st' : xSt} {n : Nat} (c : RCx st n) (s : RSx st) (r : RRx st n) (l : RLx st) (t : RTx st) (hf : ∀ p k, (inC p k ∨ inS p k ∨ inR p k ∨ inL p k ∨ inT p k) → st'.1 p k = st.1 p k) (dd : RDx st' n) : RR st' := by
  obtain ⟨hm, nz, bg, wd, c⟩ := c
  obtain ⟨lv, sz, k⟩ := s
  obtain ⟨q, mt, r⟩ := r
  obtain ⟨ql, len, yr, it, l⟩ := l
  obtain ⟨z, bt, t⟩ := t
  exact ⟨n, ⟨hm, nz, bg, wd, c.congr (fun p k h => hf p k (by simp [h]))⟩, ⟨lv, sz, k.congr (fun p k h => hf p k (by simp [h]))⟩, ⟨q, mt, r.congr (fun p k h => hf p k (by simp [h]))⟩, dd, ⟨ql, len, yr, it, l.congr (fun p k h => hf p k (by simp [h]))⟩, ⟨z, bt, t.congr (fun p k h => hf p k (by simp [h]))⟩⟩
theorem g_person (c : Int32) : Good M_X6_person M_X7_person [.int c] := by
  intro st hR P hp
  have fin : ∀ v, P v v st := fun v => hp v st hR
  obtain ⟨n, ⟨hm, nz, bg, wd, KC⟩, -, -, ⟨p, wy, ow, K⟩, -⟩ := id hR
  have h8 := K.1
  rcases isC n c with ⟨j, hj, rfl⟩ | h
  · by_cases hf : p < 8
    · have e : (nI p).toNatClampNeg = p := nI_clamp (by omega)
      have o1 : ∀ (k : Nat) (v : Int32), (xup st 20 k v).1 4 3 = nI p := fun k v => by rw [xup_off (by omega)]; exact K.2.1.1
      have ep : nI (p + 1) - 1 = nI p := nI_pred p
      refine eX6_person _ _ (sX0_has_in KC hj (f1 (eX1_welcome _ _ ?_)))
      simp only [K.2.1.1, e, o1, xup_eq, nI_1, ep]
      refine brT (nI_lt (b := 8) hf (by omega)) ⟨pk_in p 8 hf, qi (qi ?_)⟩
      have fr1 : ∀ q k, ¬ (q = 20 ∧ k = p) → ¬ (q = 4 ∧ k = 3) → (xup (xup st 20 p (nI j)) 4 3 (nI (p + 1))).1 q k = st.1 q k := fun q k a1 a2 => by rw [xup_off a2, xup_off a1]
      have KC1 : RelC (xup (xup st 20 p (nI j)) 4 3 (nI (p + 1))) n hm nz bg wd := KC.congr (fun q k g => fr1 q k (by unfold inC at g; omega) (by unfold inC at g; omega))
      refine eX7_person _ _ (sX7_isCount_in KC1 hj (g1 ?_))
      have o2 : (xup (xup st 20 p (nI j)) 4 3 (nI (p + 1))).1 7 10 = nI p := by rw [fr1 _ _ (by omega) (by omega)]; exact K.2.1.2
      have o3 : ∀ (s : xSt) (k : Nat) (v : Int32), (xup s 35 k v).1 7 10 = s.1 7 10 := fun s k v => xup_off (by omega)
      simp only [o3, o2, e, xup_eq, nI_1, ep]
      refine bnT (fun z => by have := (nI_eq (a := p) (b := 8) (by omega) (by omega)).mp z; omega) ⟨pk_in p 8 hf, qi ?_⟩
      have fr : ∀ q k, ¬ (q = 20 ∧ k = p) → ¬ (q = 4 ∧ k = 3) → ¬ (q = 35 ∧ k = p) → ¬ (q = 7 ∧ k = 10) → (xup (xup (xup (xup st 20 p (nI j)) 4 3 (nI (p + 1))) 35 p (nI j)) 7 10 (nI (p + 1))).1 q k = st.1 q k := fun q k a1 a2 a3 a4 => by rw [xup_off a4, xup_off a3, fr1 q k a1 a2]
      refine hp _ _ (hR.updD (fun q k g => fr q k (by unfold inC inS inR inL inT at g; omega) (by unfold inC inS inR inL inT at g; omega) (by unfold inC inS inR inL inT at g; omega) (by unfold inC inS inR inL inT at g; omega)) (fun n' hC hD => ?_))
      have en : n' = n := by
        obtain ⟨_, _, _, _, KC'⟩ := hC
        exact (nI_eq (by have := KC'.1; omega) (by have := KC.1; omega)).mp (KC'.2.1.symm.trans KC.2.1)
      subst en
      refine ⟨p + 1, fun x => if x = p then j else wy x, ow, by omega, ⟨?_, ?_⟩, fun x hx => ?_, fun x y hx hy => ?_, fun x y g => K.2.2.2.2.1 x y (by omega), K.2.2.2.2.2⟩
      · rw [xup_off (by omega), xup_off (by omega), xup_eq]
      · rw [xup_eq]
      · by_cases ex : x = p
        · subst ex
          simp only [if_true]
          refine ⟨hj, ?_, ?_⟩
          · rw [xup_off (by omega), xup_off (by omega), xup_off (by omega), xup_eq]
          · rw [xup_off (by omega), xup_eq]
        · simp only [if_neg ex]
          have w := K.2.2.1 x (by omega)
          rw [fr 20 x (by omega) (by omega) (by omega) (by omega), fr 35 x (by omega) (by omega) (by omega) (by omega)]
          exact w
      · rw [fr _ _ (by omega) (by omega) (by omega) (by omega), fr _ _ (by omega) (by omega) (by omega) (by omega)]
        exact K.2.2.2.1 x y hx hy
    · have ep : p = 8 := by omega
      subst ep
      refine eX6_person _ _ (sX0_has_in KC hj (f1 (eX1_welcome _ _ (brF ?_ (qi (qi (eX7_person _ _ (sX7_isCount_in KC hj (g1 (bnF K.2.1.2 (qi (fin _)))))))))))) 
      rw [K.2.1.1]
      decide
  · exact eX6_person _ _ (sX0_has_no KC h (f0 (qi (eX7_person _ _ (sX7_isCount_no KC h (g0 (qi (fin _))))))))
theorem sX7_owe {st : xSt} {d a b : Nat} {m : Int32} {P : xSt → Prop} (ha : a < 8) (hb : b < 8) (hn : a ≠ b) (hp : P (xup (xup st 36 (8 * a + b) (st.1 36 (8 * a + b) + m)) 36 (8 * b + a) (st.1 36 (8 * b + a) - m))) : Ct d M_X7_owe [.ref 7, .int (nI a), .int (nI b), .int m] st (Qv P) := by
  refine eX7_owe _ _ _ _ ?_
  rw [e8, e8, nI_clamp (n := 8 * a + b) (by omega), nI_clamp (n := 8 * b + a) (by omega)]
  refine ⟨pk_in (8 * a + b) 64 (by omega), pk_in (8 * a + b) 64 (by omega), pk_in (8 * b + a) 64 (by omega), pk_in (8 * b + a) 64 (by omega), qv ?_⟩
  rw [xup_off (q := 36) (j := 8 * b + a) (by omega)]
  exact hp
theorem i400 {x : Int32} {k : Int} (h : x.toInt = k) : x ≤ 400 ↔ k ≤ 400 := by
  rw [Int32.le_iff_toInt_le, h, show (400 : Int32).toInt = 400 by decide]
theorem g_gift (a b m : Int32) : Good M_X6_gift M_X7_gift [.int a, .int b, .int m] := by
  intro st hR P hp
  have fin : ∀ v, P v v st := fun v => hp v st hR
  obtain ⟨n, hC, hS, hRx, ⟨p, wy, ow, K⟩, hL, hT⟩ := id hR
  have h8 := K.1
  rcases two_cases p a b with ⟨x, y, hx, hy, hn, rfl, rfl⟩ | h | ⟨⟨x, hx, rfl⟩, h⟩ | ⟨⟨x, hx, rfl⟩, rfl⟩
  · have hne : ¬ nI x = nI y := fun q => hn ((nI_eq (by omega) (by omega)).mp q)
    by_cases hm : ¬ m < nI 1 ∧ ¬ nI 400 < m
    · obtain ⟨g, h1, h2, rfl⟩ := rng (by omega) hm (by omega)
      have k1 := K.2.2.2.1 y x (by omega) (by omega)
      have k2 := K.2.2.2.1 x y (by omega) (by omega)
      have ti : (nI (ow y x) - nI (ow x y) + nI g).toInt = (ow y x : Int) - ow x y + g := by
        rw [rg2, nI_add, pk_sub_toInt (by omega) (by omega)]
        omega
      refine eX6_gift _ _ _ _ (sX1_areTwo K hx hy hn (f1 (sW1 hm (g1 (eX1_give _ _ _ _ (sX1_areTwo K hx hy hn (g1 ⟨pk_in y 8 (by omega), pk_in x 8 (by omega), pk_in x 8 (by omega), pk_in y 8 (by omega), ?_⟩)))))))
      rw [nI_clamp (n := x) (by omega), nI_clamp (n := y) (by omega), k1.2.2.1, k2.2.2.1]
      by_cases hle : (ow y x : Int) - ow x y + g ≤ 400
      · obtain ⟨u, w, hu, hw, huw, e1, e2, e3, e4, e5⟩ : ∃ u w : Nat, u ≤ 400 ∧ w ≤ 400 ∧ (u = 0 ∨ w = 0) ∧ imax (nI (ow y x) - nI (ow x y) + nI g) 0 = nI u ∧ imax (-(nI (ow y x) - nI (ow x y) + nI g)) 0 = nI w ∧ nI (ow y x) - nI (ow x y) + nI g = nI u - nI w ∧ nI (ow x y) - nI (ow y x) - nI g = nI w - nI u ∧ (u : Int) - w = (ow y x : Int) - ow x y + g := by
          by_cases hc : ow x y ≤ ow y x + g
          · refine ⟨ow y x + g - ow x y, 0, by omega, by omega, Or.inr rfl, ?_, ?_, ?_, ?_, by omega⟩
            · rw [rg2, nI_add, pk_sub hc]
              unfold imax
              rw [if_neg (nI_pos (by omega))]
            · rw [rg2, nI_add, pk_sub hc]
              unfold imax
              by_cases h0 : ow y x + g - ow x y = 0
              · rw [h0]
                decide
              · rw [if_pos]
                · rfl
                · refine Int32.lt_iff_toInt_lt.mpr ?_
                  have e0 : (0 : Int32).toInt = 0 := by decide
                  have e1 : -(nI (ow y x + g - ow x y)) = nI 0 - nI (ow y x + g - ow x y) := by
                    have : nI 0 = 0 := rfl
                    rw [this]
                    grind
                  rw [e1, pk_sub_toInt (by omega) (by omega), e0]
                  omega
            · rw [rg2, nI_add]
              exact sg1 hc
            · rw [rg3, nI_add]
              exact sg2 hc
          · refine ⟨0, ow x y - (ow y x + g), by omega, by omega, Or.inl rfl, ?_, ?_, ?_, ?_, by omega⟩
            · rw [rg2, nI_add]
              unfold imax
              rw [if_pos]
              · rfl
              · refine Int32.lt_iff_toInt_lt.mpr ?_
                have e0 : (0 : Int32).toInt = 0 := by decide
                rw [pk_sub_toInt (by omega) (by omega), e0]
                omega
            · rw [rg2, nI_add, rg4, pk_sub (by omega)]
              unfold imax
              rw [if_neg (nI_pos (by omega))]
            · rw [rg2, nI_add]
              exact sg2 (by omega)
            · rw [rg3, nI_add]
              exact sg1 (by omega)
        refine brT ((i400 ti).mpr hle) ⟨pk_in y 8 (by omega), pk_in x 8 (by omega), pk_in x 8 (by omega), pk_in y 8 (by omega), pk_in y 8 (by omega), pk_in x 8 (by omega), qi (qi ?_)⟩
        rw [e1, e2, xup_off (by omega), xup_eq]
        have fr1 : ∀ q k, ¬ (q = 66 + y ∧ k = x) → ¬ (q = 66 + x ∧ k = y) → (xup (xup st (66 + y) x (nI u)) (66 + x) y (nI w)).1 q k = st.1 q k := fun q k a1 a2 => by rw [xup_off a2, xup_off a1]
        have p7 : (xup (xup st (66 + y) x (nI u)) (66 + x) y (nI w)).1 7 10 = nI p := by rw [fr1 _ _ (by omega) (by omega)]; exact K.2.1.2
        have per : ∀ {z : Nat}, z < p → ∀ {F : Int32 → xSt → Prop}, F 1 (xup (xup st (66 + y) x (nI u)) (66 + x) y (nI w)) → Ct 59 M_X7_isPerson [.ref 7, .int (nI z)] (xup (xup st (66 + y) x (nI u)) (66 + x) y (nI w)) (Qi F) := by
          intro z hz F hF
          refine eX7_isPerson _ _ (eX7_in _ _ _ _ ?_)
          rw [p7]
          exact brF (nI_pos (by omega)) (brF (nI_dec_nlt (by omega) hz) (qi ⟨Or.inr rfl, qi hF⟩))
        refine eX7_gift _ _ _ _ (per hx (f1 (per hy (f1 (brF hne (sI1 hm (g1 ?_)))))))
        rw [e8, nI_clamp (by omega), fr1 36 _ (by omega) (by omega), k1.2.2.2]
        refine ⟨pk_in (8 * y + x) 64 (by omega), brT ((i400 ti).mpr hle) (sX7_owe (by omega) (by omega) (fun q => hn q.symm) ?_)⟩
        rw [fr1 36 _ (by omega) (by omega), fr1 36 _ (by omega) (by omega), k1.2.2.2, k2.2.2.2, e3, e4]
        have hRn : RR (xup (xup (xup (xup st (66 + y) x (nI u)) (66 + x) y (nI w)) 36 (8 * y + x) (nI u - nI w)) 36 (8 * x + y) (nI w - nI u)) ∧ RDx (xup (xup (xup (xup st (66 + y) x (nI u)) (66 + x) y (nI w)) 36 (8 * y + x) (nI u - nI w)) 36 (8 * x + y) (nI w - nI u)) n ∧ RelD (xup (xup (xup (xup st (66 + y) x (nI u)) (66 + x) y (nI w)) 36 (8 * y + x) (nI u - nI w)) 36 (8 * x + y) (nI w - nI u)) n p wy (fun i k => if i = y ∧ k = x then u else if i = x ∧ k = y then w else ow i k) := by
          have fr : ∀ q k, ¬ (q = 66 + y ∧ k = x) → ¬ (q = 66 + x ∧ k = y) → ¬ (q = 36 ∧ k = 8 * y + x) → ¬ (q = 36 ∧ k = 8 * x + y) → (xup (xup (xup (xup st (66 + y) x (nI u)) (66 + x) y (nI w)) 36 (8 * y + x) (nI u - nI w)) 36 (8 * x + y) (nI w - nI u)).1 q k = st.1 q k := fun q k a1 a2 a3 a4 => by rw [xup_off a4, xup_off a3, fr1 q k a1 a2]
          have kd : ∀ {n' : Nat}, RelD st n' p wy ow → RelD (xup (xup (xup (xup st (66 + y) x (nI u)) (66 + x) y (nI w)) 36 (8 * y + x) (nI u - nI w)) 36 (8 * x + y) (nI w - nI u)) n' p wy (fun i k => if i = y ∧ k = x then u else if i = x ∧ k = y then w else ow i k) := by
            intro n' K
            refine ⟨h8, ⟨?_, ?_⟩, fun i hi => ?_, fun i k hi hk => ?_, fun i k g => ?_, fun i => ?_⟩
            · rw [fr _ _ (by omega) (by omega) (by omega) (by omega)]
              exact K.2.1.1
            · rw [fr _ _ (by omega) (by omega) (by omega) (by omega)]
              exact K.2.1.2
            · rw [fr _ _ (by omega) (by omega) (by omega) (by omega), fr 35 _ (by omega) (by omega) (by omega) (by omega)]
              exact K.2.2.1 i hi
            · by_cases c1 : i = y ∧ k = x
              · obtain ⟨rfl, rfl⟩ := c1
                have ne : ¬ (k = i ∧ i = k) := fun q => hn q.1
                have ne2 : ¬ (i = k ∧ k = i) := fun q => hn q.2
                simp only [if_true, and_self, if_neg ne]
                refine ⟨hu, huw, ?_, ?_⟩
                · rw [xup_off (by omega), xup_off (by omega), xup_off (by omega), xup_eq]
                · rw [xup_off (by omega), xup_eq]
              · by_cases c2 : i = x ∧ k = y
                · obtain ⟨rfl, rfl⟩ := c2
                  have ne : ¬ (i = k ∧ k = i) := fun q => hn q.1
                  simp only [if_neg ne, if_true, and_self]
                  refine ⟨hw, huw.symm, ?_, ?_⟩
                  · rw [xup_off (by omega), xup_off (by omega), xup_eq]
                  · rw [xup_eq]
                · have c3 : ¬ (k = y ∧ i = x) := fun q => c2 ⟨q.2, q.1⟩
                  have c4 : ¬ (k = x ∧ i = y) := fun q => c1 ⟨q.2, q.1⟩
                  simp only [if_neg c1, if_neg c2, if_neg c3, if_neg c4]
                  rw [fr _ _ (by omega) (by omega) (by omega) (by omega), fr 36 _ (by omega) (by omega) (by omega) (by omega)]
                  exact K.2.2.2.1 i k hi hk
            · have c1 : ¬ (i = y ∧ k = x) := by omega
              have c2 : ¬ (i = x ∧ k = y) := by omega
              simp only [if_neg c1, if_neg c2]
              exact K.2.2.2.2.1 i k g
            · have c1 : ¬ (i = y ∧ i = x) := by omega
              have c2 : ¬ (i = x ∧ i = y) := by omega
              simp only [if_neg c1, if_neg c2]
              exact K.2.2.2.2.2 i
          exact ⟨RR.putD hC hS hRx hL hT (fun q k g => fr q k (by unfold inC inS inR inL inT at g; omega) (by unfold inC inS inR inL inT at g; omega) (by unfold inC inS inR inL inT at g; omega) (by unfold inC inS inR inL inT at g; omega)) ⟨p, wy, _, kd K⟩, ⟨p, wy, _, kd K⟩, kd K⟩
        refine sX7_owedBy hRn.2.2 (by omega) (by omega) (qi ?_)
        have eu : (if y = y ∧ x = x then u else if y = x ∧ x = y then w else ow y x) = u := if_pos ⟨rfl, rfl⟩
        rw [eu]
        exact hp _ _ hRn.1
      · refine brF (fun q => hle ((i400 ti).mp q)) (qi (qi (eX7_gift _ _ _ _ (sX7_isPerson_in K hx (f1 (sX7_isPerson_in K hy (f1 (brF hne (sI1 hm (g1 ?_))))))))))
        rw [e8, nI_clamp (by omega), k1.2.2.2]
        exact ⟨pk_in (8 * y + x) 64 (by omega), brF (fun q => hle ((i400 ti).mp q)) (qi (fin _))⟩
    · exact eX6_gift _ _ _ _ (sX1_areTwo K hx hy hn (f1 (sW0 hm (g0 (qi (eX7_gift _ _ _ _ (sX7_isPerson_in K hx (f1 (sX7_isPerson_in K hy (f1 (brF hne (sI0 hm (g0 (qi (fin _)))))))))))))))
  · exact eX6_gift _ _ _ _ (eX1_areTwo _ _ _ (sX1_has_no K h (f0 (qi (f0 (qi (eX7_gift _ _ _ _ (sX7_isPerson_no K h (f0 (qi (fin _)))))))))))
  · exact eX6_gift _ _ _ _ (eX1_areTwo _ _ _ (sX1_has_in K hx (f1 (sX1_has_no K h (f0 (qi (f0 (qi (eX7_gift _ _ _ _ (sX7_isPerson_in K hx (f1 (sX7_isPerson_no K h (f0 (qi (fin _)))))))))))))))
  · exact eX6_gift _ _ _ _ (eX1_areTwo _ _ _ (sX1_has_in K hx (f1 (sX1_has_in K hx (f1 (brT rfl (qi (f0 (qi (eX7_gift _ _ _ _ (sX7_isPerson_in K hx (f1 (sX7_isPerson_in K hx (f1 (brT rfl (qi (fin _)))))))))))))))))
