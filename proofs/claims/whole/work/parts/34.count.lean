/-- sums of all debts -/
def s1 (ow : Nat → Nat → Nat) (a : Nat) (acc : Int32) : Nat → Int32
  | 0 => acc
  | b + 1 => s1 ow a acc b + nI (ow a b)
def s2 (ow : Nat → Nat → Nat) (p : Nat) : Nat → Int32
  | 0 => 0
  | a + 1 => s1 ow a (s2 ow p a) p
section S34
variable {st : xSt} {n p : Nat} {wy : Nat → Nat} {ow : Nat → Nat → Nat} {lv : Nat → Bool} {sz : Nat → Nat} {d a : Nat} {κ : xK} {Q : Option Value → xSt → Prop} {P : Int32 → xSt → Prop}
theorem lX1_14 (C : Cx κ M_X1_whole (d + 2)) (Z : xR κ Q) (K : RelD st n p wy ow) (ha : a < p) {acc : Int32} (hq : X κ 4 [(0, .ref 4), (1, .int (s1 ow a acc p)), (2, .int (nI (a + 1)))] [] st) : ∀ (f b : Nat), b + f = p → X κ 14 [(0, .ref 4), (1, .int (s1 ow a acc b)), (2, .int (nI a)), (3, .int (nI b))] [] st
  | 0, b, e => by
    have h8 := K.1
    rw [show b = p by omega]
    refine bX1_whole_14 C Z _ _ _ _ (brT ?_ ?_)
    · rw [K.2.1.1]
      exact nI_le (by omega) (by omega)
    · simp only [nI_1]
      exact hq
  | f + 1, b, e => by
    have h8 := K.1
    refine bX1_whole_14 C Z _ _ _ _ (brF ?_ (sX1_left K ha (by omega) ?_))
    · rw [K.2.1.1]
      exact nI_ge (by omega) (by omega)
    · simp only [nI_1]
      exact lX1_14 C Z K ha hq f (b + 1) (by omega)
theorem lX1_4 (C : Cx κ M_X1_whole (d + 2)) (Z : xR κ Q) (K : RelD st n p wy ow) (hq : Q (some (.int (s2 ow p p))) st) : ∀ (f a : Nat), a + f = p → X κ 4 [(0, .ref 4), (1, .int (s2 ow p a)), (2, .int (nI a))] [] st
  | 0, a, e => by
    have h8 := K.1
    rw [show a = p by omega]
    refine bX1_whole_4 C Z _ _ _ (brT ?_ hq)
    rw [K.2.1.1]
    exact nI_le (by omega) (by omega)
  | f + 1, a, e => by
    have h8 := K.1
    refine bX1_whole_4 C Z _ _ _ (brF ?_ (lX1_14 C Z K (by omega) (lX1_4 C Z K hq f (a + 1) (by omega)) p 0 (by omega)))
    rw [K.2.1.1]
    exact nI_ge (by omega) (by omega)
theorem lX7_c95 (C : Cx κ M_X7_count (d + 1)) (Z : xR κ Q) (K : RelD st n p wy ow) (ha : a < p) {acc : Int32} (hq : X κ 84 [(0, .ref 7), (2, .int (s1 ow a acc p)), (3, .int (nI (a + 1)))] [] st) : ∀ (f b : Nat), b + f = p → X κ 95 [(0, .ref 7), (2, .int (s1 ow a acc b)), (3, .int (nI a)), (4, .int (nI b))] [] st
  | 0, b, e => by
    have h8 := K.1
    rw [show b = p by omega]
    refine bX7_count_95 C Z _ _ _ _ (brT ?_ ?_)
    · rw [K.2.1.2]
      exact nI_le (by omega) (by omega)
    · simp only [nI_1]
      exact hq
  | f + 1, b, e => by
    have h8 := K.1
    refine bX7_count_95 C Z _ _ _ _ (brF ?_ (sX7_owedBy K (by omega) (by omega) ?_))
    · rw [K.2.1.2]
      exact nI_ge (by omega) (by omega)
    · simp only [nI_1]
      exact lX7_c95 C Z K ha hq f (b + 1) (by omega)
theorem lX7_c84 (C : Cx κ M_X7_count (d + 1)) (Z : xR κ Q) (K : RelD st n p wy ow) (hq : Q (some (.int (s2 ow p p))) st) : ∀ (f a : Nat), a + f = p → X κ 84 [(0, .ref 7), (2, .int (s2 ow p a)), (3, .int (nI a))] [] st
  | 0, a, e => by
    have h8 := K.1
    rw [show a = p by omega]
    refine bX7_count_84 C Z _ _ _ (brT ?_ hq)
    rw [K.2.1.2]
    exact nI_le (by omega) (by omega)
  | f + 1, a, e => by
    have h8 := K.1
    refine bX7_count_84 C Z _ _ _ (brF ?_ (lX7_c95 C Z K (by omega) (lX7_c84 C Z K hq f (a + 1) (by omega)) p 0 (by omega)))
    rw [K.2.1.2]
    exact nI_ge (by omega) (by omega)
theorem lX4_inUse (C : Cx κ M_X4_inUse (d + 2)) (Z : xR κ Q) (K : RS0 st lv sz) (hq : Q (some (.int (nI (cn (fun s => lv s = true) 4)))) st) : ∀ (f s : Nat), s + f = 4 → X κ 4 [(0, .ref 1), (1, .int (nI (cn (fun s => lv s = true) s))), (2, .int (nI s))] [] st
  | 0, s, e => by
    rw [show s = 4 by omega]
    exact bX4_inUse_4 C Z _ _ _ (brT (by decide) hq)
  | f + 1, s, e => by
    refine bX4_inUse_4 C Z _ _ _ (brF (nI_ge (b := 4) (by omega) (by omega)) ?_)
    cases hl : lv s with
    | true =>
      refine sX4_lost_live K (by omega) hl (g0 ?_)
      simp only [nI_1]
      rw [← cn_yes (p := fun s => lv s = true) hl]
      exact lX4_inUse C Z K hq f (s + 1) (by omega)
    | false =>
      refine sX4_lost_dead K (by omega) hl (g1 ?_)
      simp only [nI_1]
      rw [← cn_no (p := fun s => lv s = true) (by rw [hl]; decide)]
      exact lX4_inUse C Z K hq f (s + 1) (by omega)
theorem lX7_c130 (C : Cx κ M_X7_count (d + 1)) (Z : xR κ Q) (K : RS0 st lv sz) (hq : Q (some (.int (nI (cn (fun s => lv s = true) 4)))) st) : ∀ (f s : Nat), s + f = 4 → X κ 130 [(0, .ref 7), (2, .int (nI (cn (fun s => lv s = true) s))), (3, .int (nI s))] [] st
  | 0, s, e => by
    rw [show s = 4 by omega]
    exact bX7_count_130 C Z _ _ _ (brT (by decide) hq)
  | f + 1, s, e => by
    refine bX7_count_130 C Z _ _ _ (brF (nI_ge (b := 4) (by omega) (by omega)) ⟨pk_in s 4 (by omega), ?_⟩)
    rw [nI_clamp (by omega)]
    cases hl : lv s with
    | true =>
      rw [((K s (by omega)).1 hl).1.2.2.1]
      refine brF n10 ?_
      simp only [nI_1]
      rw [← cn_yes (p := fun s => lv s = true) hl]
      exact lX7_c130 C Z K hq f (s + 1) (by omega)
    | false =>
      rw [((K s (by omega)).2 hl).2]
      refine brT rfl ?_
      simp only [nI_1, i_add0]
      rw [← cn_no (p := fun s => lv s = true) (by rw [hl]; decide)]
      exact lX7_c130 C Z K hq f (s + 1) (by omega)
end S34
theorem nine (w : Int32) : (w.toInt < 0 ∨ 8 < w.toInt) ∨ w.toInt = 0 ∨ w.toInt = 1 ∨ w.toInt = 2 ∨ w.toInt = 3 ∨ w.toInt = 4 ∨ w.toInt = 5 ∨ w.toInt = 6 ∨ w.toInt = 7 ∨ w.toInt = 8 := by omega
/-- what count tells, of class and reference alike, whatever lies aside -/
theorem count_v {st : xSt} (hR : RR st) (w : Int32) : ∃ v, ∀ st', Sm st st' → (∀ (d : Nat) (P : Int32 → xSt → Prop), P v st' → Ct (d + 5) M_X6_count [.ref 0, .int w] st' (Qi P)) ∧ ∀ (d : Nat) (P : Int32 → xSt → Prop), P v st' → Ct (d + 5) M_X7_count [.ref 7, .int w] st' (Qi P) := by
  obtain ⟨n, ⟨hm, nz, bg, wd, KC⟩, ⟨lv, sz, KS⟩, ⟨cq, mt, KR⟩, ⟨p, wy, ow, KD⟩, ⟨ql, len, yr, it, KL⟩, ⟨z, bt, KT⟩⟩ := hR
  have C' := fun st' (s : Sm st st') => KC.congr (fun p k h => s p k (by simp [h]))
  have S' := fun st' (s : Sm st st') => KS.congr (fun p k h => s p k (by simp [h]))
  have R' := fun st' (s : Sm st st') => KR.congr (fun p k h => s p k (by simp [h]))
  have D' := fun st' (s : Sm st st') => KD.congr (fun p k h => s p k (by simp [h]))
  have L' := fun st' (s : Sm st st') => KL.congr (fun p k h => s p k (by simp [h]))
  have T' := fun st' (s : Sm st st') => KT.congr (fun p k h => s p k (by simp [h]))
  rcases nine w with h | h | h | h | h | h | h | h | h | h
  · exact ⟨-2, fun st' s => ⟨fun d P hp => eX6_count _ _ ⟨fun _ => qi hp, fun e => by omega, fun e => by omega, fun e => by omega, fun e => by omega, fun e => by omega, fun e => by omega, fun e => by omega, fun e => by omega, fun e => by omega⟩, fun d P hp => eX7_count _ _ (fun κ C Z => ⟨fun _ => qi hp, fun e => by omega, fun e => by omega, fun e => by omega, fun e => by omega, fun e => by omega, fun e => by omega, fun e => by omega, fun e => by omega, fun e => by omega⟩)⟩⟩
  · exact ⟨nI n, fun st' s => ⟨fun d P hp => eX6_count _ _ ⟨fun e => by omega, fun _ => eX0_size _ (qi (qi (by rw [(C' st' s).2.1]; exact hp))), fun e => by omega, fun e => by omega, fun e => by omega, fun e => by omega, fun e => by omega, fun e => by omega, fun e => by omega, fun e => by omega⟩, fun d P hp => eX7_count _ _ (fun κ C Z => ⟨fun e => by omega, fun _ => qi (by rw [(C' st' s).2.2.1]; exact hp), fun e => by omega, fun e => by omega, fun e => by omega, fun e => by omega, fun e => by omega, fun e => by omega, fun e => by omega, fun e => by omega⟩)⟩⟩
  · exact ⟨nI cq, fun st' s => ⟨fun d P hp => eX6_count _ _ ⟨fun e => by omega, fun e => by omega, fun _ => eX3_size _ (qi (qi (by rw [(R' st' s).2.2.2.1.1]; exact hp))), fun e => by omega, fun e => by omega, fun e => by omega, fun e => by omega, fun e => by omega, fun e => by omega, fun e => by omega⟩, fun d P hp => eX7_count _ _ (fun κ C Z => ⟨fun e => by omega, fun e => by omega, fun _ => qi (by rw [(R' st' s).2.2.2.1.2.1]; exact hp), fun e => by omega, fun e => by omega, fun e => by omega, fun e => by omega, fun e => by omega, fun e => by omega, fun e => by omega⟩)⟩⟩
  · exact ⟨nI mt, fun st' s => ⟨fun d P hp => eX6_count _ _ ⟨fun e => by omega, fun e => by omega, fun e => by omega, fun _ => eX3_matSize _ (qi (qi (by rw [(R' st' s).2.2.2.1.2.2.1]; exact hp))), fun e => by omega, fun e => by omega, fun e => by omega, fun e => by omega, fun e => by omega, fun e => by omega⟩, fun d P hp => eX7_count _ _ (fun κ C Z => ⟨fun e => by omega, fun e => by omega, fun e => by omega, fun _ => qi (by rw [(R' st' s).2.2.2.1.2.2.2]; exact hp), fun e => by omega, fun e => by omega, fun e => by omega, fun e => by omega, fun e => by omega, fun e => by omega⟩)⟩⟩
  · exact ⟨nI p, fun st' s => ⟨fun d P hp => eX6_count _ _ ⟨fun e => by omega, fun e => by omega, fun e => by omega, fun e => by omega, fun _ => eX1_size _ (qi (qi (by rw [(D' st' s).2.1.1]; exact hp))), fun e => by omega, fun e => by omega, fun e => by omega, fun e => by omega, fun e => by omega⟩, fun d P hp => eX7_count _ _ (fun κ C Z => ⟨fun e => by omega, fun e => by omega, fun e => by omega, fun e => by omega, fun _ => qi (by rw [(D' st' s).2.1.2]; exact hp), fun e => by omega, fun e => by omega, fun e => by omega, fun e => by omega, fun e => by omega⟩)⟩⟩
  · exact ⟨nI ql, fun st' s => ⟨fun d P hp => eX6_count _ _ ⟨fun e => by omega, fun e => by omega, fun e => by omega, fun e => by omega, fun e => by omega, fun _ => eX2_size _ (qi (qi (by rw [(L' st' s).2.1.1]; exact hp))), fun e => by omega, fun e => by omega, fun e => by omega, fun e => by omega⟩, fun d P hp => eX7_count _ _ (fun κ C Z => ⟨fun e => by omega, fun e => by omega, fun e => by omega, fun e => by omega, fun e => by omega, fun _ => qi (by rw [(L' st' s).2.1.2]; exact hp), fun e => by omega, fun e => by omega, fun e => by omega, fun e => by omega⟩)⟩⟩
  · exact ⟨nI z, fun st' s => ⟨fun d P hp => eX6_count _ _ ⟨fun e => by omega, fun e => by omega, fun e => by omega, fun e => by omega, fun e => by omega, fun e => by omega, fun _ => eX5_size _ (qi (qi (by rw [(T' st' s).2.1.1]; exact hp))), fun e => by omega, fun e => by omega, fun e => by omega⟩, fun d P hp => eX7_count _ _ (fun κ C Z => ⟨fun e => by omega, fun e => by omega, fun e => by omega, fun e => by omega, fun e => by omega, fun e => by omega, fun _ => qi (by rw [(T' st' s).2.1.2]; exact hp), fun e => by omega, fun e => by omega, fun e => by omega⟩)⟩⟩
  · exact ⟨s2 ow p p, fun st' s => ⟨fun d P hp => eX6_count _ _ ⟨fun e => by omega, fun e => by omega, fun e => by omega, fun e => by omega, fun e => by omega, fun e => by omega, fun e => by omega, fun _ => eX1_whole _ (fun κ C Z => lX1_4 (d := d + 2) C Z (D' st' s) (qi (qi hp)) p 0 (by omega)), fun e => by omega, fun e => by omega⟩, fun d P hp => eX7_count _ _ (fun κ C Z => ⟨fun e => by omega, fun e => by omega, fun e => by omega, fun e => by omega, fun e => by omega, fun e => by omega, fun e => by omega, fun _ => lX7_c84 (d := d + 4) C Z (D' st' s) (qi hp) p 0 (by omega), fun e => by omega, fun e => by omega⟩)⟩⟩
  · exact ⟨nI (cn (fun s => lv s = true) 4), fun st' s => ⟨fun d P hp => eX6_count _ _ ⟨fun e => by omega, fun e => by omega, fun e => by omega, fun e => by omega, fun e => by omega, fun e => by omega, fun e => by omega, fun e => by omega, fun _ => eX4_inUse _ (fun κ C Z => lX4_inUse (d := d + 2) C Z (S' st' s).2 (qi (qi hp)) 4 0 (by omega)), fun e => by omega⟩, fun d P hp => eX7_count _ _ (fun κ C Z => ⟨fun e => by omega, fun e => by omega, fun e => by omega, fun e => by omega, fun e => by omega, fun e => by omega, fun e => by omega, fun e => by omega, fun _ => lX7_c130 (d := d + 4) C Z (S' st' s).2 (qi hp) 4 0 (by omega), fun e => by omega⟩)⟩⟩
  · exact ⟨st.1 1 3, fun st' s => ⟨fun d P hp => eX6_count _ _ ⟨fun e => by omega, fun e => by omega, fun e => by omega, fun e => by omega, fun e => by omega, fun e => by omega, fun e => by omega, fun e => by omega, fun e => by omega, fun _ => eX4_latest _ (qi (qi (by rw [s 1 3 (by unfold inS; omega)]; exact hp)))⟩, fun d P hp => eX7_count _ _ (fun κ C Z => ⟨fun e => by omega, fun e => by omega, fun e => by omega, fun e => by omega, fun e => by omega, fun e => by omega, fun e => by omega, fun e => by omega, fun e => by omega, fun _ => qi (by rw [← (S' st' s).1, s 1 3 (by unfold inS; omega)]; exact hp)⟩)⟩⟩
theorem g_count (w : Int32) : Good M_X6_count M_X7_count [.int w] := by
  intro st hR P hp
  obtain ⟨v, h⟩ := count_v hR w
  exact (h st Sm.rfl).1 55 _ ((h st Sm.rfl).2 55 _ (hp v st hR))
