theorem c0 : (0 : Int32).toNatClampNeg = 0 := by decide
theorem c1 : (1 : Int32).toNatClampNeg = 1 := by decide
theorem c2 : (2 : Int32).toNatClampNeg = 2 := by decide
theorem c3 : (3 : Int32).toNatClampNeg = 3 := by decide
theorem c4 : (4 : Int32).toNatClampNeg = 4 := by decide
theorem c5 : (5 : Int32).toNatClampNeg = 5 := by decide
section UP
variable {st st' : xSt}
theorem RRx.mono {n n' : Nat} (h : n ≤ n') (K : RRx st n) : RRx st n' := by
  obtain ⟨q, mt, a, b, c, e, f⟩ := K
  refine ⟨q, mt, a, b, c, e, fun x hx => ⟨(f x hx).1, ?_⟩⟩
  rcases (f x hx).2 with g | g | g | g
  · obtain ⟨g1, g2, ⟨j, hj, g3⟩, g4⟩ := g
    exact Or.inl ⟨g1, g2, ⟨j, by omega, g3⟩, g4⟩
  · exact Or.inr (Or.inl g)
  · exact Or.inr (Or.inr (Or.inl g))
  · exact Or.inr (Or.inr (Or.inr g))
theorem RDx.mono {n n' : Nat} (h : n ≤ n') (K : RDx st n) : RDx st n' := by
  obtain ⟨p, wy, ow, a, b, c, e⟩ := K
  exact ⟨p, wy, ow, a, b, fun x hx => ⟨by have := (c x hx).1; omega, (c x hx).2⟩, e⟩
theorem RR.updC (h : RR st) (hf : ∀ p k, (inS p k ∨ inR p k ∨ inD p k ∨ inL p k ∨ inT p k) → st'.1 p k = st.1 p k) (hC : ∀ n, RCx st n → ∃ n', n ≤ n' ∧ RCx st' n') : RR st' := by
  obtain ⟨n, c, ⟨lv, sz, k⟩, r, dd, ⟨ql, len, yr, it, l⟩, ⟨z, bt, t⟩⟩ := h
  obtain ⟨n', hn, c'⟩ := hC n c
  obtain ⟨q, mt, r⟩ := r.mono hn
  obtain ⟨p, wy, ow, dd⟩ := dd.mono hn
  exact ⟨n', c', ⟨lv, sz, k.congr (fun p k h => hf p k (by simp [h]))⟩, ⟨q, mt, r.congr (fun p k h => hf p k (by simp [h]))⟩, ⟨p, wy, ow, dd.congr (fun p k h => hf p k (by simp [h]))⟩, ⟨ql, len, yr, it, l.congr (fun p k h => hf p k (by simp [h]))⟩, ⟨z, bt, t.congr (fun p k h => hf p k (by simp [h]))⟩⟩
theorem RR.updS (h : RR st) (hf : ∀ p k, (inC p k ∨ inR p k ∨ inD p k ∨ inL p k ∨ inT p k) → st'.1 p k = st.1 p k) (hS : RSx st → RSx st') : RR st' := by
  obtain ⟨n, ⟨hm, nz, bg, wd, c⟩, k, ⟨q, mt, r⟩, ⟨p, wy, ow, dd⟩, ⟨ql, len, yr, it, l⟩, ⟨z, bt, t⟩⟩ := h
  exact ⟨n, ⟨hm, nz, bg, wd, c.congr (fun p k h => hf p k (by simp [h]))⟩, hS k, ⟨q, mt, r.congr (fun p k h => hf p k (by simp [h]))⟩, ⟨p, wy, ow, dd.congr (fun p k h => hf p k (by simp [h]))⟩, ⟨ql, len, yr, it, l.congr (fun p k h => hf p k (by simp [h]))⟩, ⟨z, bt, t.congr (fun p k h => hf p k (by simp [h]))⟩⟩
theorem RR.updR (h : RR st) (hf : ∀ p k, (inC p k ∨ inS p k ∨ inD p k ∨ inL p k ∨ inT p k) → st'.1 p k = st.1 p k) (hr : ∀ n, RCx st n → RRx st n → RRx st' n) : RR st' := by
  obtain ⟨n, ⟨hm, nz, bg, wd, c⟩, ⟨lv, sz, k⟩, r, ⟨p, wy, ow, dd⟩, ⟨ql, len, yr, it, l⟩, ⟨z, bt, t⟩⟩ := h
  exact ⟨n, ⟨hm, nz, bg, wd, c.congr (fun p k h => hf p k (by simp [h]))⟩, ⟨lv, sz, k.congr (fun p k h => hf p k (by simp [h]))⟩, hr n ⟨hm, nz, bg, wd, c⟩ r, ⟨p, wy, ow, dd.congr (fun p k h => hf p k (by simp [h]))⟩, ⟨ql, len, yr, it, l.congr (fun p k h => hf p k (by simp [h]))⟩, ⟨z, bt, t.congr (fun p k h => hf p k (by simp [h]))⟩⟩
theorem RR.updD (h : RR st) (hf : ∀ p k, (inC p k ∨ inS p k ∨ inR p k ∨ inL p k ∨ inT p k) → st'.1 p k = st.1 p k) (hr : ∀ n, RCx st n → RDx st n → RDx st' n) : RR st' := by
  obtain ⟨n, ⟨hm, nz, bg, wd, c⟩, ⟨lv, sz, k⟩, ⟨q, mt, r⟩, dd, ⟨ql, len, yr, it, l⟩, ⟨z, bt, t⟩⟩ := h
  exact ⟨n, ⟨hm, nz, bg, wd, c.congr (fun p k h => hf p k (by simp [h]))⟩, ⟨lv, sz, k.congr (fun p k h => hf p k (by simp [h]))⟩, ⟨q, mt, r.congr (fun p k h => hf p k (by simp [h]))⟩, hr n ⟨hm, nz, bg, wd, c⟩ dd, ⟨ql, len, yr, it, l.congr (fun p k h => hf p k (by simp [h]))⟩, ⟨z, bt, t.congr (fun p k h => hf p k (by simp [h]))⟩⟩
theorem RR.updL (h : RR st) (hf : ∀ p k, (inC p k ∨ inS p k ∨ inR p k ∨ inD p k ∨ inT p k) → st'.1 p k = st.1 p k) (hr : RLx st → RLx st') : RR st' := by
  obtain ⟨n, ⟨hm, nz, bg, wd, c⟩, ⟨lv, sz, k⟩, ⟨q, mt, r⟩, ⟨p, wy, ow, dd⟩, l, ⟨z, bt, t⟩⟩ := h
  exact ⟨n, ⟨hm, nz, bg, wd, c.congr (fun p k h => hf p k (by simp [h]))⟩, ⟨lv, sz, k.congr (fun p k h => hf p k (by simp [h]))⟩, ⟨q, mt, r.congr (fun p k h => hf p k (by simp [h]))⟩, ⟨p, wy, ow, dd.congr (fun p k h => hf p k (by simp [h]))⟩, hr l, ⟨z, bt, t.congr (fun p k h => hf p k (by simp [h]))⟩⟩
theorem RR.updT (h : RR st) (hf : ∀ p k, (inC p k ∨ inS p k ∨ inR p k ∨ inD p k ∨ inL p k) → st'.1 p k = st.1 p k) (hr : RTx st → RTx st') : RR st' := by
  obtain ⟨n, ⟨hm, nz, bg, wd, c⟩, ⟨lv, sz, k⟩, ⟨q, mt, r⟩, ⟨p, wy, ow, dd⟩, ⟨ql, len, yr, it, l⟩, t⟩ := h
  exact ⟨n, ⟨hm, nz, bg, wd, c.congr (fun p k h => hf p k (by simp [h]))⟩, ⟨lv, sz, k.congr (fun p k h => hf p k (by simp [h]))⟩, ⟨q, mt, r.congr (fun p k h => hf p k (by simp [h]))⟩, ⟨p, wy, ow, dd.congr (fun p k h => hf p k (by simp [h]))⟩, ⟨ql, len, yr, it, l.congr (fun p k h => hf p k (by simp [h]))⟩, hr t⟩
end UP
/-! type, hush -/
theorem g_hush : Good M_X6_hush M_X7_hush [] := by
  intro st hR P hp
  obtain ⟨n, -, -, -, -, -, ⟨z, bt, K⟩⟩ := id hR
  refine eX6_hush _ (eX5_empty _ (qi (qi (eX7_hush _ (qi ?_)))))
  rw [xup_off (by omega), K.2.1.1, K.2.1.2]
  refine hp _ _ (hR.updT (fun p k h => ?_) (fun _ => ⟨0, bt, by omega, ⟨?_, ?_⟩, fun i hi => by omega⟩))
  · rw [xup_off (by unfold inC inS inR inD inL at h; omega), xup_off (by unfold inC inS inR inD inL at h; omega)]
  · rw [xup_off (by omega), xup_eq]
    rfl
  · rw [xup_eq]
    rfl
theorem g_type (b : Int32) : Good M_X6_type M_X7_type [.int b] := by
  intro st hR P hp
  obtain ⟨n, -, -, -, -, -, ⟨z, bt, K⟩⟩ := id hR
  have fin : ∀ v, P v v st := fun v => hp v st hR
  have hz := K.1
  by_cases hb : ¬ b < nI 0 ∧ ¬ nI 255 < b
  · obtain ⟨b0, h1, h2, rfl⟩ := rng (by omega) hb (by omega)
    have e : (nI z).toNatClampNeg = z := nI_clamp (by omega)
    refine eX6_type _ _ (sW1 hb (f1 (eX5_append _ _ ?_)))
    by_cases h60 : z < 60
    · have o1 : ∀ (k : Nat) (v : Int32), (xup st 27 k v).1 6 1 = nI z := fun k v => by rw [xup_off (by omega)]; exact K.2.1.1
      simp only [K.2.1.1, e, o1, xup_eq, nI_1]
      refine brT (nI_lt (b := 60) h60 (by omega)) ⟨pk_in z 60 h60, qi (qi ?_)⟩
      refine eX7_type _ _ (sI1 hb (g1 ?_))
      have o2 : (xup (xup st 27 z (nI b0)) 6 1 (nI (z + 1))).1 7 21 = nI z := by rw [xup_off (by omega), xup_off (by omega)]; exact K.2.1.2
      have o3 : ∀ (s : xSt) (k : Nat) (v : Int32), (xup s 42 k v).1 7 21 = s.1 7 21 := fun s k v => xup_off (by omega)
      simp only [o3, o2, e, xup_eq, nI_1]
      refine bnT (fun q => by have := (nI_eq (a := z) (b := 60) (by omega) (by omega)).mp q; omega) ⟨pk_in z 60 h60, qi ?_⟩
      refine hp _ _ (hR.updT (fun p k h => ?_) (fun _ => ⟨z + 1, fun i => if i = z then b0 else bt i, by omega, ⟨?_, ?_⟩, fun i hi => ?_⟩))
      · unfold inC inS inR inD inL at h
        rw [xup_off (by omega), xup_off (by omega), xup_off (by omega), xup_off (by omega)]
      · rw [xup_off (by omega), xup_off (by omega), xup_eq]
      · rw [xup_eq]
      · by_cases ei : i = z
        · subst ei
          simp only [if_true]
          refine ⟨h2, ?_, ?_⟩
          · rw [xup_off (by omega), xup_off (by omega), xup_off (by omega), xup_eq]
          · rw [xup_off (by omega), xup_eq]
        · simp only [if_neg ei]
          have := K.2.2 i (by omega)
          refine ⟨this.1, ?_, ?_⟩
          · rw [xup_off (by omega), xup_off (by omega), xup_off (by omega), xup_off (by omega)]
            exact this.2.1
          · rw [xup_off (by omega), xup_off (by omega), xup_off (by omega), xup_off (by omega)]
            exact this.2.2
    · have ez : z = 60 := by omega
      subst ez
      rw [K.2.1.1]
      refine brF (nI_nlt (a := 60) (b := 60) (by omega) (by omega)) (qi (qi (eX7_type _ _ (sI1 hb (g1 ?_)))))
      rw [K.2.1.2]
      exact bnF rfl (qi (fin _))
  · exact eX6_type _ _ (sW0 hb (f0 (qi (eX7_type _ _ (sI0 hb (g0 (qi (fin _))))))))
/-! mat, forget -/
theorem g_forget : Good M_X6_forget M_X7_forget [] := by
  intro st hR P hp
  obtain ⟨n, -, -, ⟨q, mt, K⟩, -⟩ := id hR
  refine eX6_forget _ (eX3_empty _ (qi (qi (eX7_forget _ (qi ?_)))))
  rw [xup_off (by omega), K.2.2.2.1.1, K.2.2.2.1.2.1]
  refine hp _ _ (hR.updR (fun p k h => ?_) (fun n _ ⟨q, mt, K⟩ => ⟨0, mt, by omega, K.2.1, K.2.2.1, ⟨?_, ?_, ?_, ?_⟩, fun i hi => by omega⟩))
  · unfold inC inS inD inL inT at h
    rw [xup_off (by omega), xup_off (by omega)]
  · rw [xup_off (by omega), xup_eq]
    rfl
  · rw [xup_eq]
    rfl
  · rw [xup_off (by omega), xup_off (by omega)]
    exact K.2.2.2.1.2.2.1
  · rw [xup_off (by omega), xup_off (by omega)]
    exact K.2.2.2.1.2.2.2
theorem g_mat (b : Int32) : Good M_X6_mat M_X7_mat [.int b] := by
  intro st hR P hp
  obtain ⟨n, -, -, ⟨q, mt, K⟩, -⟩ := id hR
  have fin : ∀ v, P v v st := fun v => hp v st hR
  by_cases hb : ¬ b < nI 1 ∧ ¬ nI 40 < b
  · obtain ⟨b0, h1, h2, rfl⟩ := rng (by omega) hb (by omega)
    refine eX6_mat _ _ (sW1 hb (f1 (eX3_spread _ _ (qi (qi (eX7_mat _ _ (sI1 hb (g1 (qi ?_)))))))))
    rw [xup_off (by omega), K.2.2.2.1.2.2.1, K.2.2.2.1.2.2.2]
    refine hp _ _ (hR.updR (fun p k h => ?_) (fun n _ ⟨q, mt, K⟩ => ⟨q, b0, K.1, h1, h2, ⟨?_, ?_, ?_, ?_⟩, fun c hc => ⟨fun f hf => ?_, ?_⟩⟩))
    · unfold inC inS inD inL inT at h
      rw [xup_off (by omega), xup_off (by omega)]
    · rw [xup_off (by omega), xup_off (by omega)]
      exact K.2.2.2.1.1
    · rw [xup_off (by omega), xup_off (by omega)]
      exact K.2.2.2.1.2.1
    · rw [xup_off (by omega), xup_eq]
    · rw [xup_eq]
    · rw [xup_off (by omega), xup_off (by omega), xup_off (by omega), xup_off (by omega)]
      exact (K.2.2.2.2 c hc).1 f hf
    · have a := (K.2.2.2.2 c hc).2
      have fr : ∀ k, (xup (xup st 3 5 (nI b0)) 7 5 (nI b0)).1 32 k = st.1 32 k := fun k => by rw [xup_off (by omega), xup_off (by omega)]
      have fr2 : ∀ k, (xup (xup st 3 5 (nI b0)) 7 5 (nI b0)).1 (58 + c) k = st.1 (58 + c) k := fun k => by rw [xup_off (by omega), xup_off (by omega)]
      unfold clueOK at a ⊢
      simp only [fr, fr2]
      exact a
  · exact eX6_mat _ _ (sW0 hb (f0 (qi (eX7_mat _ _ (sI0 hb (g0 (qi (fin _))))))))
