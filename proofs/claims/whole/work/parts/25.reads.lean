/-- a tale of m items it fits count j from a on in steps of b -/
def tl (hm nz : Nat → Nat) (wd : Nat → Nat → Int32) (it : Nat → Int32) (m j a b : Nat) : Prop := a + (m - 1) * b ≤ 400 ∧ ∀ i, i < m → wv (it i) = -1 ∨ wv (it i) = wd j ((a + i * b - 1) % tt hm nz j)
section S25
variable {st : xSt} {lv : Nat → Bool} {sz : Nat → Nat} {n : Nat} {hm nz bg : Nat → Nat} {wd : Nat → Nat → Int32} {d s i j a b m : Nat} {κ : xK} {Q : Option Value → xSt → Prop} {P : Int32 → xSt → Prop} {it : Nat → Int32}
theorem mb_le {a b m k : Nat} (h : a + (m - 1) * b ≤ 400) (hk : k < m) : a + k * b ≤ 400 := by
  have : k * b ≤ (m - 1) * b := Nat.mul_le_mul_right b (by omega)
  omega
theorem emb (hm1 : 1 ≤ m) : nI a + (nI m - 1) * nI b = nI (a + (m - 1) * b) := by
  have e : nI m - 1 = nI (m - 1) := pk_sub (b := 1) hm1
  rw [e, pk_mul, nI_add]
theorem mb_small (ha : a ≤ 99) (hb : b ≤ 20) (hm : m ≤ 30) : a + (m - 1) * b ≤ 1000 := by
  have : (m - 1) * b ≤ 29 * 20 := Nat.mul_le_mul (by omega) hb
  omega
theorem lX6_tells (C : Cx κ M_X6_tells (d + 4)) (Z : xR κ Q) (K : RelC st n hm nz bg wd) (KS : RS0 st lv sz) (hs : s < 4) (hl : lv s = true) (hmz : m ≤ sz s) (hj : j < n) (ha : 1 ≤ a) (hi : ∀ i, i < m → st.1 46 (60 * s + i) = it i) (hfit : a + (m - 1) * b ≤ 400) (h1 : tl hm nz wd it m j a b → Q (some (.int 1)) st) (h0 : ¬ tl hm nz wd it m j a b → Q (some (.int 0)) st) : ∀ (f i : Nat), i + f = m → (∀ k, k < i → wv (it k) = -1 ∨ wv (it k) = wd j ((a + k * b - 1) % tt hm nz j)) → X κ 20 [(0, .ref 0), (1, .int (nI s)), (2, .int (nI m)), (3, .int (nI j)), (4, .int (nI a)), (5, .int (nI b)), (6, .int (nI i))] [] st
  | 0, i, e, ok => by
    have b60 := ((KS s hs).1 hl).1.1
    exact bX6_tells_20 C Z _ _ _ _ _ _ _ (brT (nI_le (by omega) (by omega)) (h1 ⟨hfit, fun k hk => ok k (by omega)⟩))
  | f + 1, i, e, ok => by
    have b60 := ((KS s hs).1 hl).1.1
    have hb := mb_le (k := i) hfit (by omega)
    have next : (wv (it i) = -1 ∨ wv (it i) = wd j ((a + i * b - 1) % tt hm nz j)) → X κ 20 [(0, .ref 0), (1, .int (nI s)), (2, .int (nI m)), (3, .int (nI j)), (4, .int (nI a)), (5, .int (nI b)), (6, .int (nI i + 1))] [] st := fun q => by
      simp only [nI_1]
      refine lX6_tells C Z K KS hs hl hmz hj ha hi hfit h1 h0 f (i + 1) (by omega) (fun k hk => ?_)
      by_cases ek : k = i
      · rw [ek]
        exact q
      · exact ok k (by omega)
    refine bX6_tells_20 C Z _ _ _ _ _ _ _ (brF (nI_ge (by omega) (by omega)) (sX4_wordAt KS hs hl (by omega) ?_))
    rw [hi i (by omega), eab, show a + i * b = (a + i * b - 1) + 1 by omega]
    exact ⟨fun q => next (Or.inl q), fun q => sX0_wordOf K hj (by omega) ⟨fun q2 => next (Or.inr q2), fun q2 => h0 (fun t => (t.2 i (by omega)).elim q q2)⟩⟩
theorem sX6_tells (K : RelC st n hm nz bg wd) (KS : RS0 st lv sz) (hs : s < 4) (hl : lv s = true) (hmz : m ≤ sz s) (hm1 : 1 ≤ m) (hm30 : m ≤ 30) (hj : j < n) (ha : 1 ≤ a) (ha2 : a ≤ 99) (hb2 : b ≤ 20) (hi : ∀ i, i < m → st.1 46 (60 * s + i) = it i) (h1 : tl hm nz wd it m j a b → P 1 st) (h0 : ¬ tl hm nz wd it m j a b → P 0 st) : Ct (d + 4) M_X6_tells [.ref 0, .int (nI s), .int (nI m), .int (nI j), .int (nI a), .int (nI b)] st (Qi P) := by
  have hsm := mb_small (a := a) (b := b) (m := m) ha2 hb2 hm30
  refine eX6_tells _ _ _ _ _ _ (fun κ C Z => ?_)
  rw [emb hm1]
  refine pk_le (a + (m - 1) * b) 400 (fun q => ?_) (fun q => qi (h0 (fun t => by have := t.1; omega)))
  exact lX6_tells C Z K KS hs hl hmz hj ha hi q (fun t => qi (h1 t)) (fun t => qi (h0 t)) m 0 (by omega) (fun k hk => by omega)
theorem lX7_doesFit (C : Cx κ M_X7_doesFit (d + 3)) (Z : xR κ Q) (K : RelC st n hm nz bg wd) (hs : s < 4) (hm60 : m ≤ 60) (hj : j < n) (ha : 1 ≤ a) (hi : ∀ i, i < m → st.1 46 (60 * s + i) = it i) (hfit : a + (m - 1) * b ≤ 400) (h1 : tl hm nz wd it m j a b → Q (some (.int 1)) st) (h0 : ¬ tl hm nz wd it m j a b → Q (some (.int 0)) st) : ∀ (f i : Nat), i + f = m → (∀ k, k < i → wv (it k) = -1 ∨ wv (it k) = wd j ((a + k * b - 1) % tt hm nz j)) → X κ 20 [(0, .ref 7), (1, .int (nI s)), (2, .int (nI m)), (3, .int (nI j)), (4, .int (nI a)), (5, .int (nI b)), (6, .int (nI i))] [] st
  | 0, i, e, ok => bX7_doesFit_20 C Z _ _ _ _ _ _ _ (brT (nI_le (by omega) (by omega)) (h1 ⟨hfit, fun k hk => ok k (by omega)⟩))
  | f + 1, i, e, ok => by
    have hb := mb_le (k := i) hfit (by omega)
    have next : (wv (it i) = -1 ∨ wv (it i) = wd j ((a + i * b - 1) % tt hm nz j)) → X κ 20 [(0, .ref 7), (1, .int (nI s)), (2, .int (nI m)), (3, .int (nI j)), (4, .int (nI a)), (5, .int (nI b)), (6, .int (nI i + 1))] [] st := fun q => by
      simp only [nI_1]
      refine lX7_doesFit C Z K hs hm60 hj ha hi hfit h1 h0 f (i + 1) (by omega) (fun k hk => ?_)
      by_cases ek : k = i
      · rw [ek]
        exact q
      · exact ok k (by omega)
    refine bX7_doesFit_20 C Z _ _ _ _ _ _ _ (brF (nI_ge (by omega) (by omega)) ?_)
    rw [e60, nI_clamp (by omega), hi i (by omega), eab, show a + i * b = (a + i * b - 1) + 1 by omega]
    refine ⟨pk_in (60 * s + i) 240 (by omega), ?_⟩
    by_cases hw : ¬ it i < 0 ∧ ¬ 99 < it i
    · refine eX7_isWord _ _ (sI1 hw ⟨Or.inr rfl, qi (f1 (sX7_placeOf K hj (by omega) (sX7_wordOf K hj (K.md hj _) ⟨fun q => next (Or.inr (by rw [wv_in hw, q])), fun q => h0 (fun t => ?_)⟩)))⟩)
      rcases t.2 i (by omega) with t1 | t1
      · rw [wv_in hw] at t1
        exact hw.1 (by rw [t1]; decide)
      · rw [wv_in hw] at t1
        exact q t1.symm
    · exact eX7_isWord _ _ (sI0 hw ⟨Or.inl rfl, qi (f0 (next (Or.inl (wv_no hw))))⟩)
theorem sX7_doesFit (K : RelC st n hm nz bg wd) (hs : s < 4) (hm1 : 1 ≤ m) (hm30 : m ≤ 30) (hj : j < n) (ha : 1 ≤ a) (ha2 : a ≤ 99) (hb2 : b ≤ 20) (hi : ∀ i, i < m → st.1 46 (60 * s + i) = it i) (h1 : tl hm nz wd it m j a b → P 1 st) (h0 : ¬ tl hm nz wd it m j a b → P 0 st) : Ct (d + 3) M_X7_doesFit [.ref 7, .int (nI s), .int (nI m), .int (nI j), .int (nI a), .int (nI b)] st (Qi P) := by
  have hsm := mb_small (a := a) (b := b) (m := m) ha2 hb2 hm30
  refine eX7_doesFit _ _ _ _ _ _ (fun κ C Z => ?_)
  rw [emb hm1]
  refine pk_le (a + (m - 1) * b) 400 (fun q => ?_) (fun q => qi (h0 (fun t => by have := t.1; omega)))
  exact lX7_doesFit C Z K hs (by omega) hj ha hi q (fun t => qi (h1 t)) (fun t => qi (h0 t)) m 0 (by omega) (fun k hk => by omega)
/-- the three refusals of a tale -/
theorem sX6_isTale1 (hs : s < 4) {c : Int32} (hm : ¬ c < 1 ∧ ¬ 30 < c) (hp : P 1 st) : Ct (d + 1) M_X6_isTale [.ref 0, .int (nI s), .int c] st (Qi P) := eX6_isTale _ _ _ (sX4_named_in hs (f1 (sW1 hm (f1 (qi hp)))))
theorem sX6_isTale0 {x c : Int32} (h : (∀ s, s < 4 → x ≠ nI s) ∨ ((∃ s, s < 4 ∧ x = nI s) ∧ ¬ (¬ c < 1 ∧ ¬ 30 < c))) (hp : P 0 st) : Ct (d + 1) M_X6_isTale [.ref 0, .int x, .int c] st (Qi P) := by
  rcases h with h | ⟨⟨s, hs, rfl⟩, h⟩
  · exact eX6_isTale _ _ _ (sX4_named_no h (f0 (qi hp)))
  · exact eX6_isTale _ _ _ (sX4_named_in hs (f1 (sW0 h (f0 (qi hp)))))
theorem sX7_refuses_bad {x c : Int32} (h : (∀ s, s < 4 → x ≠ nI s) ∨ ((∃ s, s < 4 ∧ x = nI s) ∧ ¬ (¬ c < 1 ∧ ¬ 30 < c))) (hp : P (-2) st) : Ct (d + 2) M_X7_refuses [.ref 7, .int x, .int c] st (Qi P) := by
  rcases h with h | ⟨⟨s, hs, rfl⟩, h⟩
  · exact eX7_refuses _ _ _ (sX7_isSheet_no h (f0 (qi hp)))
  · exact eX7_refuses _ _ _ (sX7_isSheet_in hs (f1 (sI0 h (g0 (qi hp)))))
theorem sX7_refuses_dead (hs : s < 4) {c : Int32} (hm : ¬ c < 1 ∧ ¬ 30 < c) (h43 : st.1 43 s = 0) (hp : P (-10 - 1) (xup st 7 31 1)) : Ct (d + 2) M_X7_refuses [.ref 7, .int (nI s), .int c] st (Qi P) := by
  refine eX7_refuses _ _ _ (sX7_isSheet_in hs (f1 (sI1 hm (g1 ⟨pk_in s 4 hs, bnF ?_ (eX7_meets _ _ (qi (qi hp)))⟩))))
  rw [nI_clamp (by omega)]
  exact h43
theorem sX7_refuses_ix (hs : s < 4) {c : Int32} (hm : ¬ c < 1 ∧ ¬ 30 < c) (h43 : st.1 43 s = 1) (h45 : ¬ c ≤ st.1 45 s) (hp : P (-10 - 2) (xup st 7 31 2)) : Ct (d + 2) M_X7_refuses [.ref 7, .int (nI s), .int c] st (Qi P) := by
  refine eX7_refuses _ _ _ (sX7_isSheet_in hs (f1 (sI1 hm (g1 ⟨pk_in s 4 hs, ?_⟩))))
  rw [nI_clamp (by omega), h43]
  exact bnT n10 ⟨pk_in s 4 hs, brF h45 (eX7_meets _ _ (qi (qi hp)))⟩
theorem sX7_refuses_ok (hs : s < 4) {c : Int32} (hm : ¬ c < 1 ∧ ¬ 30 < c) (h43 : st.1 43 s = 1) (h45 : c ≤ st.1 45 s) (hp : P 0 st) : Ct (d + 2) M_X7_refuses [.ref 7, .int (nI s), .int c] st (Qi P) := by
  refine eX7_refuses _ _ _ (sX7_isSheet_in hs (f1 (sI1 hm (g1 ⟨pk_in s 4 hs, ?_⟩))))
  rw [nI_clamp (by omega), h43]
  exact bnT n10 ⟨pk_in s 4 hs, brT h45 (qi hp)⟩
theorem tale_cases (lv : Nat → Bool) (sz : Nat → Nat) (hz : ∀ s, s < 4 → lv s = true → sz s ≤ 60) (x c : Int32) : ((∀ s, s < 4 → x ≠ nI s) ∨ ((∃ s, s < 4 ∧ x = nI s) ∧ ¬ (¬ c < 1 ∧ ¬ 30 < c))) ∨ ∃ s, s < 4 ∧ x = nI s ∧ (¬ c < 1 ∧ ¬ 30 < c) ∧ (lv s = false ∨ (lv s = true ∧ ¬ c ≤ nI (sz s)) ∨ (lv s = true ∧ ∃ m, 1 ≤ m ∧ m ≤ 30 ∧ m ≤ sz s ∧ c = nI m)) := by
  rcases isC 4 x with ⟨s, hs, rfl⟩ | h
  · by_cases hc : ¬ c < 1 ∧ ¬ 30 < c
    · refine Or.inr ⟨s, hs, rfl, hc, ?_⟩
      cases hl : lv s with
      | false => exact Or.inl rfl
      | true =>
        by_cases hle : c ≤ nI (sz s)
        · obtain ⟨m, h1, h2, rfl⟩ := rng (lo := 1) (hi := 30) (by omega) hc (by omega)
          exact Or.inr (Or.inr ⟨rfl, m, h1, h2, (nI_leI (by omega) (by have := hz s hs hl; omega)).mp hle, rfl⟩)
        · exact Or.inr (Or.inl ⟨rfl, hle⟩)
    · exact Or.inl (Or.inr ⟨⟨s, hs, rfl⟩, hc⟩)
  · exact Or.inl (Or.inl h)
end S25
theorem g_fits (x c w a b : Int32) : Good M_X6_fits M_X7_fits [.int x, .int c, .int w, .int a, .int b] := by
  intro st hR P hp
  have fin : ∀ v, P v v st := fun v => hp v st hR
  obtain ⟨n, ⟨hm, nz, bg, wd, KC⟩, ⟨lv, sz, K⟩, -⟩ := id hR
  have KC1 : ∀ k : Int32, RelC (xup st 1 3 k) n hm nz bg wd := fun k => KC.congr (fun q z h => xup_off (by unfold inC at h; omega))
  have noW : ∀ (s1 : xSt), RelC s1 n hm nz bg wd → ¬ wlkOK n w a b → ∀ F : Int32 → xSt → Prop, F (-2) s1 → Ct 60 M_X7_fits [.ref 7, .int x, .int c, .int w, .int a, .int b] s1 (Qi F) := by
    intro s1 Ks hw F hF
    refine eX7_fits _ _ _ _ _ _ ?_
    rcases isC n w with ⟨j, hj, rfl⟩ | hj
    · refine sX7_isCount_in Ks hj (f1 ?_)
      by_cases ha : ¬ a < 1 ∧ ¬ 99 < a
      · by_cases hb : ¬ b < 1 ∧ ¬ 20 < b
        · exact (hw ⟨⟨j, hj, rfl⟩, ha, hb⟩).elim
        · exact sI1 ha (f1 (sI0 hb (g0 (qi hF))))
      · exact sI0 ha (f0 (qi hF))
    · exact sX7_isCount_no Ks hj (f0 (qi hF))
  rcases tale_cases lv sz (fun s hs hl => ((K.2 s hs).1 hl).1.1) x c with h | ⟨s, hs, rfl, hc, h⟩
  · refine eX6_fits _ _ _ _ _ _ (sX6_isTale0 h (f0 (qi ?_)))
    by_cases hw : wlkOK n w a b
    · obtain ⟨⟨j, hj, rfl⟩, ha, hb⟩ := id hw
      exact eX7_fits _ _ _ _ _ _ (sX7_isCount_in KC hj (f1 (sI1 ha (f1 (sI1 hb (g1 (sX7_refuses_bad h (brF (by decide) (qi (fin _))))))))))
    · exact noW st KC hw _ (fin _)
  · by_cases hw : wlkOK n w a b
    · obtain ⟨⟨j, hj, rfl⟩, ha, hb⟩ := id hw
      refine eX6_fits _ _ _ _ _ _ (sX6_isTale1 hs hc (f1 (sX6_isWalk KC (fun _ => g1 ?_) (fun e => (e hw).elim))))
      rcases h with hl | ⟨hl, hle⟩ | ⟨hl, m, h1, h2, h3, rfl⟩
      · refine eX6_missing _ _ _ (sX4_lost_dead K.2 hs hl (f1 (eX4_find _ _ (qi (qi (brF (by decide) (qi ?_)))))))
        exact eX7_fits _ _ _ _ _ _ (sX7_isCount_in (KC1 _) hj (f1 (sI1 ha (f1 (sI1 hb (g1 (sX7_refuses_dead hs hc (by rw [xup_off (by omega)]; exact ((K.2 s hs).2 hl).2) (brF (by decide) (qi (hp _ _ (two_find hR _)))))))))))
      · have k := (K.2 s hs).1 hl
        refine eX6_missing _ _ _ (sX4_lost_live K.2 hs hl (f0 (sX4_sizeOf K.2 hs hl (brF hle (eX4_find _ _ (qi (qi (brF (by decide) (qi ?_)))))))))
        exact eX7_fits _ _ _ _ _ _ (sX7_isCount_in (KC1 _) hj (f1 (sI1 ha (f1 (sI1 hb (g1 (sX7_refuses_ix hs hc (by rw [xup_off (by omega)]; exact k.1.2.2.1) (by rw [xup_off (by omega), k.1.2.2.2]; exact hle) (brF (by decide) (qi (hp _ _ (two_find hR _)))))))))))
      · have k := (K.2 s hs).1 hl
        have hle : nI m ≤ nI (sz s) := nI_le h3 (by have := k.1.1; omega)
        obtain ⟨a0, ha1, ha2, rfl⟩ := rng (lo := 1) (hi := 99) (by omega) ha (by omega)
        obtain ⟨b0, hb1, hb2, rfl⟩ := rng (lo := 1) (hi := 20) (by omega) hb (by omega)
        refine eX6_missing _ _ _ (sX4_lost_live K.2 hs hl (f0 (sX4_sizeOf K.2 hs hl (brT hle (qi (brT rfl (sX6_tells (it := fun i => st.1 46 (60 * s + i)) KC K.2 hs hl h3 h1 h2 hj ha1 ha2 hb2 (fun _ _ => rfl) (fun t => f1 (qi ?_)) (fun t => f0 (qi ?_)))))))))
        all_goals refine eX7_fits _ _ _ _ _ _ (sX7_isCount_in KC hj (f1 (sI1 ha (f1 (sI1 hb (g1 (sX7_refuses_ok hs hc k.1.2.2.1 (by rw [k.1.2.2.2]; exact hle) (brT rfl (sX7_doesFit (it := fun i => st.1 46 (60 * s + i)) KC hs h1 h2 hj ha1 ha2 hb2 (fun _ _ => rfl) (fun t2 => f1 (qi ?_)) (fun t2 => f0 (qi ?_)))))))))))
        · exact fin _
        · exact (t2 t).elim
        · exact (t t2).elim
        · exact fin _
    · refine eX6_fits _ _ _ _ _ _ (sX6_isTale1 hs hc (f1 (sX6_isWalk KC (fun e => (hw e).elim) (fun _ => g0 (qi (noW st KC hw _ (fin _)))))))
