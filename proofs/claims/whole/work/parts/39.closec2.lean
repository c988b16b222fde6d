def pcs : List Nat := [21, 66, 67, 68, 69, 70, 71, 72, 73]
theorem Off.mono {ps qs : List Nat} {st st' : xSt} (h : Off ps st st') (hp : ∀ p, p ∈ ps → p ∈ qs) : Off qs st st' := fun p k g => h p k (fun q => g (hp p q))
theorem pcs_in {a : Nat} (h : a < 8) : 66 + a ∈ pcs := by
  have : a = 0 ∨ a = 1 ∨ a = 2 ∨ a = 3 ∨ a = 4 ∨ a = 5 ∨ a = 6 ∨ a = 7 := by omega
  rcases this with e | e | e | e | e | e | e | e <;> subst e <;> decide
theorem m21 (p : Nat) (h : p ∈ [21]) : p ∈ pcs := by
  rw [List.mem_singleton.mp h]
  decide
theorem tk_s (ow : Nat → Nat → Nat) (n : Nat) (r : Nat → Nat) (l i a b : Nat) : tk ow n r l (i + 1) a b = if a = r i ∧ b = nx n r i then tk ow n r l i a b - l else tk ow n r l i a b := rfl
theorem cl_0 (p : Nat) (ow : Nat → Nat → Nat) : cl p 0 ow = (0, ow) := rfl
section S39
variable {st : xSt} {p : Nat} {ow : Nat → Nat → Nat} {d a b j : Nat} {P : Int32 → xSt → Prop} {κ : xK} {Q : Option Value → xSt → Prop}
theorem lX1_fr12 {s0 : xSt} {f : Nat} {r0 : Nat → Nat} (C : Cx κ M_X1_findRow (d + 17)) (Z : xR κ Q) (hf : 2 ≤ f) (hfp : f + 1 ≤ p) (K : RDc s0 p ow) : ∀ (m x : Nat) (st : xSt), x + m = p → Off [21] s0 st → (∀ r', fs (fun x => if okr ow r0 0 x = true then sr ow p f 1 (ur r0 0 x) else none) m x = some r' → ∀ st', Off [21] s0 st' → rowC st' (f + 1) r' → Q (some (.int (nI (f + 1)))) st') → (fs (fun x => if okr ow r0 0 x = true then sr ow p f 1 (ur r0 0 x) else none) m x = none → ∀ st', Off [21] s0 st' → X κ 2 [(0, .ref 4), (1, .int (nI (f + 1) + 1))] [] st') → X κ 12 [(0, .ref 4), (1, .int (nI (f + 1))), (2, .int (nI x))] [] st
  | 0, x, st, e, o, h1, h0 => by
    have h8 := K.1
    refine bX1_findRow_12 C Z _ _ _ (brT ?_ (h0 rfl st o))
    rw [(K.off o).2.1]
    exact nI_le (by omega) (by omega)
  | m + 1, x, st, e, o, h1, h0 => by
    have h8 := K.1
    have ok : okr ow r0 0 x = true := decide_eq_true (Or.inl rfl)
    have o2 : Off [21] st (xup st 21 0 (nI x)) := Off.up (by decide)
    have G : gOn p ow (d + 16) f := gOn_d (d := d + 14 - 2 * f) (by omega)
    refine bX1_findRow_12 C Z _ _ _ (brF ?_ ?_)
    · rw [(K.off o).2.1]
      exact nI_ge (by omega) (by omega)
    have hr : rowC (xup st 21 0 (nI x)) 1 (ur r0 0 x) := rowC.up (k := 0) (fun i hi => by omega)
    have e1 : nI (f + 1) = nI (1 + f) := by rw [Nat.add_comm]
    have g := G 1 (ur r0 0 x) (xup st 21 0 (nI x)) (fun v2 s1 => ((v2 = 0 → X κ 12 [(0, .ref 4), (1, .int (nI (f + 1))), (2, .int (nI x + 1))] [] s1) ∧ (¬ v2 = 0 → Q (some (.int (nI (f + 1)))) s1))) (by omega) (by omega) (K.off (o.trans o2)) hr (fun i hi => by rw [show i = 0 by omega, ur_eq]; omega) (fun r' q st' o3 hr' => f1 (h1 r' ?_ st' ((o.trans o2).trans o3) ?_)) (fun q st' o3 hr' => f0 ?_)
    · rw [← e1] at g
      exact g
    · exact fs_some (g := fun x => if okr ow r0 0 x = true then sr ow p f 1 (ur r0 0 x) else none) (by simp only [ok, if_true]; exact q)
    · rw [Nat.add_comm f 1]
      exact hr'
    · have g : (fun x => if okr ow r0 0 x = true then sr ow p f 1 (ur r0 0 x) else none) x = none := by
        simp only [ok, if_true]
        exact q
      rw [fs_none g] at h1 h0
      rw [nI_1]
      exact lX1_fr12 C Z hf hfp K m (x + 1) st' (by omega) ((o.trans o2).trans o3) h1 h0
theorem lX1_fr2 {s0 : xSt} (C : Cx κ M_X1_findRow (d + 17)) (Z : xR κ Q) (K : RDc s0 p ow) : ∀ (m n : Nat) (st : xSt), 3 ≤ n → m = p + 1 - n → Off [21] s0 st → (∀ n' r', fs (fun n => (sr ow p n 0 (fun _ => 0)).map (fun r => (n, r))) m n = some (n', r') → ∀ st', Off [21] s0 st' → rowC st' n' r' → Q (some (.int (nI n'))) st') → (fs (fun n => (sr ow p n 0 (fun _ => 0)).map (fun r => (n, r))) m n = none → ∀ st', Off [21] s0 st' → Q (some (.int 0)) st') → n ≤ 9 → X κ 2 [(0, .ref 4), (1, .int (nI n))] [] st
  | 0, n, st, hn, e, o, h1, h0, h9 => by
    have h8 := K.1
    refine bX1_findRow_2 C Z _ _ (brT ?_ (h0 rfl st o))
    rw [(K.off o).2.1]
    exact nI_lt (by omega) (by omega)
  | m + 1, n, st, hn, e, o, h1, h0, h9 => by
    have h8 := K.1
    refine bX1_findRow_2 C Z _ _ (brF ?_ ?_)
    · rw [(K.off o).2.1]
      exact nI_nlt (by omega) (by omega)
    obtain ⟨f, rfl⟩ : ∃ f, n = f + 1 := ⟨n - 1, by omega⟩
    refine lX1_fr12 (x := 0) (r0 := fun _ => 0) C Z (by omega) (by omega) K p st (by omega) o (fun r' q st' o' hr' => h1 (f + 1) r' (fs_some ?_) st' o' hr') (fun q st' o' => ?_)
    · show (sr ow p (f + 1) 0 (fun _ => 0)).map _ = _
      unfold sr
      rw [q]
      rfl
    · have g : (fun n => (sr ow p n 0 (fun _ => 0)).map (fun r => (n, r))) (f + 1) = none := by
        show (sr ow p (f + 1) 0 (fun _ => 0)).map _ = _
        unfold sr
        rw [q]
        rfl
      rw [fs_none g] at h1 h0
      rw [nI_1]
      exact lX1_fr2 C Z K m (f + 1 + 1) st' (by omega) (by omega) o' h1 h0 (by omega)
theorem kX1_findRow (K : RDc st p ow) (h1 : ∀ n r, fnd ow p = some (n, r) → ∀ st', Off [21] st st' → rowC st' n r → P (nI n) st') (h0 : fnd ow p = none → ∀ st', Off [21] st st' → P 0 st') : Ct (d + 17) M_X1_findRow [.ref 4] st (Qi P) :=
  eX1_findRow _ (fun κ C Z => lX1_fr2 C Z K (p - 2) 3 st (by omega) (by omega) Off.rfl (fun n r e st' o hr => qi (h1 n r e st' o hr)) (fun e st' o => qi (h0 e st' o)) (by omega))
theorem kX1_nextOf {n i : Nat} {r : Nat → Nat} (hr : rowC st n r) (hn : 3 ≤ n) (h8 : n ≤ 8) (hi : i < n) (hp : P (nI (nx n r i)) st) : Ct d M_X1_nextOf [.ref 4, .int (nI i), .int (nI n)] st (Qi P) := by
  refine eX1_nextOf _ _ _ ?_
  rw [nI_1]
  unfold nx at hp
  have e0 : st.1 21 ((0 : Int32).toNatClampNeg) = nI (r 0) := hr 0 (by omega)
  by_cases e : i + 1 < n
  · rw [if_pos e] at hp
    refine brF (nI_ge e (by omega)) (brF (nI_ge (b := 8) (by omega) (by omega)) ⟨pk_in (i + 1) 8 (by omega), qi ?_⟩)
    rw [nI_clamp (by omega), hr (i + 1) e]
    exact hp
  · rw [if_neg e] at hp
    refine brT (nI_le (by omega) (by omega)) (qi ?_)
    rw [e0]
    exact hp
theorem lX1_to6 {n : Nat} {r : Nat → Nat} (C : Cx κ M_X1_takeOff (d + 2)) (Z : xR κ Q) (K : RDc st p ow) (hr : rowC st n r) (R : 3 ≤ n ∧ n ≤ p ∧ pfx ow p n r ∧ 0 < ow (r (n - 1)) (r 0)) (h : X κ 46 [(0, .ref 4), (1, .int (nI n)), (2, .int (nI (lsm ow n r n))), (3, .int 0)] [] st) : ∀ (f i : Nat), i + f = n → X κ 6 [(0, .ref 4), (1, .int (nI n)), (2, .int (nI (lsm ow n r i))), (3, .int (nI i))] [] st
  | 0, i, e => by
    have h8 := K.1
    rw [show i = n by omega]
    exact bX1_takeOff_6 C Z _ _ _ _ (brT (nI_le (by omega) (by omega)) h)
  | f + 1, i, e => by
    have h8 := K.1
    have b := row_pos R (i := i) (by omega)
    refine bX1_takeOff_6 C Z _ _ _ _ (brF (nI_ge (by omega) (by omega)) (brF (nI_ge (b := 8) (by omega) (by omega)) ⟨pk_in i 8 (by omega), ?_⟩))
    refine kX1_nextOf hr R.1 (by omega) (by omega) ?_
    rw [nI_clamp (by omega), hr i (by omega)]
    refine kX1_left K b.2.1 b.2.2.1 ?_
    have l4 := lsm_400 (ow := ow) (n := n) (r := r) i
    have o4 := (K.2.2.2.1 (r i) (nx n r i) (by omega) (by omega)).1
    rw [imin_nI (by omega) (by omega), nI_1]
    exact lX1_to6 C Z K hr R h f (i + 1) (by omega)
theorem lX1_to46 {s0 : xSt} {n l : Nat} {r : Nat → Nat} (C : Cx κ M_X1_takeOff (d + 2)) (Z : xR κ Q) (h8 : p ≤ 8) (I : inv p ow) (R : 3 ≤ n ∧ n ≤ p ∧ pfx ow p n r ∧ 0 < ow (r (n - 1)) (r 0)) (hl : ∀ j, j < n → l ≤ ow (r j) (nx n r j)) (h : ∀ st', Off pcs s0 st' → RDc st' p (tk ow n r l n) → Q none st') : ∀ (f i : Nat) (st : xSt), i + f = n → rowC st n r → Off pcs s0 st → RDc st p (tk ow n r l i) → X κ 46 [(0, .ref 4), (1, .int (nI n)), (2, .int (nI l)), (3, .int (nI i))] [] st
  | 0, i, st, e, hr, o, K => by
    rw [show i = n by omega] at K ⊢
    exact bX1_takeOff_46 C Z _ _ _ _ (brT (nI_le (by omega) (by omega)) (h st o K))
  | f + 1, i, st, e, hr, o, K => by
    have b := row_pos R (i := i) (by omega)
    refine bX1_takeOff_46 C Z _ _ _ _ (brF (nI_ge (by omega) (by omega)) (brF (nI_ge (b := 8) (by omega) (by omega)) ⟨pk_in i 8 (by omega), ?_⟩))
    refine kX1_nextOf hr R.1 (by omega) (by omega) ?_
    rw [nI_clamp (by omega), hr i (by omega)]
    refine eX1_lessen _ _ _ _ (kX1_has K b.2.1 (f1 (kX1_has K b.2.2.1 (f1 ⟨pk_in (r i) 8 (by omega), pk_in (nx n r i) 8 (by omega), pk_in (nx n r i) 8 (by omega), qv ?_⟩))))
    rw [nI_clamp (n := r i) (by omega), nI_clamp (n := nx n r i) (by omega), nI_1, K.2.2.1 (r i) (nx n r i) (by omega) (by omega)]
    have ev : tk ow n r l i (r i) (nx n r i) = ow (r i) (nx n r i) := tk_off ow n r l i _ _ (fun k hk q => R.2.2.1.2.1 k i hk (by omega) q.symm)
    have hli := hl i (by omega)
    rw [pk_sub (by omega)]
    refine lX1_to46 C Z h8 I R hl h f (i + 1) _ (by omega) (fun k hk => ?_) (o.trans (Off.up (pcs_in (by omega)))) ⟨h8, ?_, fun a b2 ha hb => ?_, I.le (tk_le ow n r l (i + 1))⟩
    · rw [xup_off (by omega)]
      exact hr k hk
    · rw [xup_off (by omega)]
      exact K.2.1
    · rw [xup_r]
      rw [tk_s]
      by_cases q : a = r i ∧ b2 = nx n r i
      · rw [if_pos ⟨by omega, q.2⟩, if_pos q, q.1, q.2]
      · rw [if_neg (fun w => q ⟨by omega, w.2⟩), if_neg q]
        exact K.2.2.1 a b2 ha hb
theorem kX1_takeOff {n : Nat} {r : Nat → Nat} {P : xSt → Prop} (K : RDc st p ow) (hr : rowC st n r) (R : 3 ≤ n ∧ n ≤ p ∧ pfx ow p n r ∧ 0 < ow (r (n - 1)) (r 0)) (h : ∀ st', Off pcs st st' → RDc st' p (nw ow n r) → P st') : Ct (d + 2) M_X1_takeOff [.ref 4, .int (nI n)] st (Qv P) :=
  eX1_takeOff _ _ (fun κ C Z => lX1_to6 C Z K hr R (lX1_to46 (l := lsm ow n r n) C Z K.1 K.2.2.2 R (fun j hj => lsm_le n j hj) (fun st' o K' => qv (h st' o K')) n 0 st (by omega) hr Off.rfl K) n 0 (by omega))
theorem lX1_cl {s0 : xSt} (C : Cx κ M_X1_closeAll (d + 18)) (Z : xR κ Q) (f : Nat) : ∀ (c : Nat) (ow : Nat → Nat → Nat) (st : xSt), kn ow prs ≤ f → c + f = 28 → Off pcs s0 st → RDc st p ow → (∀ st', Off pcs s0 st' → RDc st' p (cl p f ow).2 → Q (some (.int (nI (c + (cl p f ow).1)))) st') → X κ 2 [(0, .ref 4), (1, .int (nI c))] [] st := by
  induction f with
  | zero =>
    intro c ow st hk hc o K h
    have e := fnd_no K.1 K.2.2.2 (by omega)
    refine bX1_closeAll_2 C Z _ _ (brF (nI_nlt (a := 28) (by omega) (by omega)) (kX1_findRow K (fun n r q => by rw [e] at q; cases q) (fun _ st' o' => g0 ?_)))
    have := h st' (o.trans (o'.mono m21))
    rw [cl_0] at this
    exact this (K.off o')
  | succ f ih =>
    intro c ow st hk hc o K h
    have h8 := K.1
    refine bX1_closeAll_2 C Z _ _ (brF (nI_nlt (a := 28) (by omega) (by omega)) (kX1_findRow K (fun n r q st' o' hr => ?_) (fun q st' o' => g0 ?_)))
    · have R := fnd_ok q
      have lt := nw_lt K.1 K.2.2.2 R
      refine bnT (nI_ne0 (by omega) (by omega)) (kX1_takeOff (K.off o') hr R (fun s2 o2 K2 => ?_))
      rw [nI_1]
      refine ih (c + 1) (nw ow n r) s2 (by omega) (by omega) ((o.trans (o'.mono m21)).trans o2) K2 (fun s3 o3 K3 => ?_)
      have := h s3 o3
      rw [cl_some q] at this
      rw [show c + 1 + (cl p f (nw ow n r)).1 = c + ((cl p f (nw ow n r)).1 + 1) by omega]
      exact this K3
    · have := h st' (o.trans (o'.mono m21))
      rw [cl_none q] at this
      exact this (K.off o')
theorem kX1_closeAll (K : RDc st p ow) (h : ∀ st', Off pcs st st' → RDc st' p (cl p 28 ow).2 → P (nI (cl p 28 ow).1) st') : Ct (d + 18) M_X1_closeAll [.ref 4] st (Qi P) :=
  eX1_closeAll _ (fun κ C Z => lX1_cl C Z 28 0 ow st (kn_len ow prs) (by omega) Off.rfl K (fun st' o K' => qi (by rw [Nat.zero_add]; exact h st' o K')))
end S39
