/-! the reference closes -/
def RDr (st : xSt) (p : Nat) (ow : Nat → Nat → Nat) : Prop := p ≤ 8 ∧ st.1 7 10 = nI p ∧ (∀ a b, a < 8 → b < 8 → st.1 36 (8 * a + b) = nI (ow a b) - nI (ow b a)) ∧ inv p ow
def rowR (st : xSt) (k : Nat) (r : Nat → Nat) : Prop := ∀ i, i < k → st.1 37 i = nI (r i)
theorem rg5 (x : Int32) : x - 1 + 1 = x := by grind
theorem rg6 (x y l : Int32) : x - y + -l = x - l - y := by grind
theorem rg7 (x y l : Int32) : y - x - -l = y - (x - l) := by grind
section S40
variable {st s0 : xSt} {p : Nat} {ow : Nat → Nat → Nat} {d a b j n : Nat} {P : Int32 → xSt → Prop} {κ : xK} {Q : Option Value → xSt → Prop}
theorem RDr.off {st st' : xSt} (K : RDr st p ow) (h : Off [37] st st') : RDr st' p ow := by
  refine ⟨K.1, by rw [h 7 10 (by decide)]; exact K.2.1, fun a b ha hb => ?_, K.2.2.2⟩
  rw [h 36 _ (by decide)]
  exact K.2.2.1 a b ha hb
theorem kX7_owedBy (K : RDr st p ow) (ha : a < 8) (hb : b < 8) (hp : P (nI (ow a b)) st) : Ct d M_X7_owedBy [.ref 7, .int (nI a), .int (nI b)] st (Qi P) := by
  have k := K.2.2.2.1 a b ha hb
  have k2 := K.2.2.2.1 b a hb ha
  refine eX7_owedBy _ _ _ ?_
  rw [e8, nI_clamp (by omega), K.2.2.1 a b ha hb]
  refine ⟨pk_in (8 * a + b) 64 (by omega), ?_⟩
  by_cases h0 : ow a b = 0
  · refine brT ?_ (qi (by rw [h0] at hp; exact hp))
    refine Int32.le_iff_toInt_le.mpr ?_
    rw [pk_sub_toInt (by omega) (by omega)]
    have e0 : (0 : Int32).toInt = 0 := by decide
    omega
  · have h1 : ow b a = 0 := by omega
    rw [h1, pk_sub (Nat.zero_le _)]
    exact brF (nI_nle (by omega) (by omega)) ⟨pk_in (8 * a + b) 64 (by omega), qi hp⟩
theorem lX7_ms {k x : Nat} {r : Nat → Nat} (C : Cx κ M_X7_mayStand (d + 1)) (Z : xR κ Q) (K : RDr st p ow) (hr : rowR st k r) (ex : st.1 37 k = nI x) (hx : x < p) (hk : k < 8) (hb : ∀ i, i < k → r i < p) (h1 : okr ow r k x = true → Q (some (.int 1)) st) (h0 : ¬ okr ow r k x = true → Q (some (.int 0)) st) : ∀ (f i : Nat), i + f = k → (∀ j, j < i → r j ≠ x) → X κ 2 [(0, .ref 7), (1, .int (nI k)), (2, .int (nI i))] [] st
  | 0, i, e, g => by
    have h8 := K.1
    rw [show i = k by omega] at g ⊢
    refine bX7_mayStand_2 C Z _ _ _ (brT (nI_le (by omega) (by omega)) ?_)
    by_cases e0 : k = 0
    · exact brT (by rw [e0]; rfl) (h1 (decide_eq_true (Or.inl e0)))
    · refine brF (nI_ne0 (by omega) (by omega)) ⟨pk_in k 8 (by omega), ?_⟩
      have c0 : st.1 37 ((0 : Int32).toNatClampNeg) = nI (r 0) := hr 0 (by omega)
      have b0 := hb 0 (by omega)
      have bk := hb (k - 1) (by omega)
      have ek : nI k - 1 = nI (k - 1) := by
        obtain ⟨k', rfl⟩ : ∃ k', k = k' + 1 := ⟨k - 1, by omega⟩
        rw [nI_pred]
        rfl
      rw [ek, nI_clamp (n := k) (by omega), ex, c0]
      by_cases q : x ≤ r 0
      · exact brT (nI_le q (by omega)) (h0 (fun w => by rcases of_decide_eq_true w with w | w <;> omega))
      · refine brF (nI_ge (by omega) (by omega)) ⟨pk_in (k - 1) 8 (by omega), pk_in k 8 (by omega), ?_⟩
        rw [nI_clamp (n := k - 1) (by omega), hr (k - 1) (by omega)]
        refine kX7_owedBy K (by omega) (by omega) ?_
        have o4 := (K.2.2.2.1 (r (k - 1)) x (by omega) (by omega)).1
        by_cases q2 : 0 < ow (r (k - 1)) x
        · exact brF (nI_nle q2 (by omega)) (h1 (decide_eq_true (Or.inr ⟨g, by omega, q2⟩)))
        · rw [show ow (r (k - 1)) x = 0 by omega]
          exact brT (by decide) (h0 (fun w => by rcases of_decide_eq_true w with w | w <;> omega))
  | f + 1, i, e, g => by
    have h8 := K.1
    have bi := hb i (by omega)
    refine bX7_mayStand_2 C Z _ _ _ (brF (nI_ge (by omega) (by omega)) ⟨pk_in i 8 (by omega), pk_in k 8 (by omega), ?_⟩)
    rw [nI_clamp (n := i) (by omega), nI_clamp (n := k) (by omega), hr i (by omega), ex]
    by_cases q : r i = x
    · exact bnF (by rw [q]) (h0 (fun w => by
        rcases of_decide_eq_true w with w | w
        · omega
        · exact w.1 i (by omega) q))
    · refine bnT (fun w => q ((nI_eq (by omega) (by omega)).mp w)) ?_
      rw [nI_1]
      exact lX7_ms C Z K hr ex hx hk hb h1 h0 f (i + 1) (by omega) (fun j hj => by
        by_cases w : j = i
        · rw [w]
          exact q
        · exact g j (by omega))
theorem kX7_mayStand {k x : Nat} {r : Nat → Nat} (K : RDr st p ow) (hr : rowR st k r) (ex : st.1 37 k = nI x) (hx : x < p) (hk : k < 8) (hb : ∀ i, i < k → r i < p) (h1 : okr ow r k x = true → P 1 st) (h0 : ¬ okr ow r k x = true → P 0 st) : Ct (d + 1) M_X7_mayStand [.ref 7, .int (nI k)] st (Qi P) :=
  eX7_mayStand _ _ (fun κ C Z => lX7_ms C Z K hr ex hx hk hb (fun q => qi (h1 q)) (fun q => qi (h0 q)) k 0 (by omega) (fun j hj => by omega))
theorem rowR.up {k x : Nat} {r : Nat → Nat} (hr : rowR st k r) : rowR (xup st 37 k (nI x)) (k + 1) (ur r k x) := by
  intro i hi
  by_cases e : i = k
  · rw [e, xup_eq, ur_eq]
  · rw [xup_off (by omega), ur_ne e]
    exact hr i (by omega)
theorem rowR.ur {k x : Nat} {r : Nat → Nat} (hr : rowR st (k + 1) (ur r k x)) : rowR st k r ∧ st.1 37 k = nI x := by
  refine ⟨fun i hi => ?_, ?_⟩
  · rw [hr i (by omega), ur_ne (by omega)]
  · rw [hr k (by omega), ur_eq]
def gg (ow : Nat → Nat → Nat) (p f k : Nat) (r : Nat → Nat) (x : Nat) : Option (Nat → Nat) := if okr ow r k x = true then sr ow p f (k + 1) (ur r k x) else none
theorem sr_gg {f k : Nat} {r : Nat → Nat} : sr ow p (f + 1) k r = fs (gg ow p f k r) p 0 := rfl
theorem lX7_lev (C : Cx κ M_X7_goesRound (d + 2)) (Z : xR κ Q) (K : RDr s0 p ow) (hn : 3 ≤ n) (hn8 : n ≤ 8) (f : Nat) : ∀ (k : Nat) (r : Nat → Nat), k + 1 + f = n → (∀ i, i < k → r i < p) → ∀ (m x : Nat) (st : xSt), x + m = p → Off [37] s0 st → rowR st k r → st.1 37 k = nI x - 1 → (∀ i, k < i → i < n → st.1 37 i = -1) → (∀ r', fs (gg ow p f k r) m x = some r' → ∀ st', Off [37] s0 st' → rowR st' n r' → Q (some (.int 1)) st') → (fs (gg ow p f k r) m x = none → ∀ st', Off [37] s0 st' → rowR st' k r → (∀ i, k ≤ i → i < n → st'.1 37 i = -1) → X κ 22 [(0, .ref 7), (1, .int (nI n)), (2, .int (nI k + (-1)))] [] st') → X κ 22 [(0, .ref 7), (1, .int (nI n)), (2, .int (nI k))] [] st := by
  induction f with
  | zero =>
    intro k r hk hb m
    induction m with
    | zero =>
      intro x st hx o hr ex hm h1 h0
      have h8 := K.1
      refine bX7_goesRound_22 C Z _ _ _ (brF (nI_pos (by omega)) ⟨pk_in k 8 (by omega), pk_in k 8 (by omega), pk_in k 8 (by omega), ?_⟩)
      rw [nI_clamp (by omega), ex, rg5, xup_eq, xup_off (by omega), (K.off o).2.1]
      refine bnF (by rw [show x = p by omega]) ⟨pk_in k 8 (by omega), h0 rfl _ ((o.trans (Off.up (by decide))).trans (Off.up (by decide))) (fun i hi => ?_) (fun i h2 h3 => ?_)⟩
      · rw [xup_off (by omega), xup_off (by omega)]
        exact hr i hi
      · rw [xup_r]
        by_cases e : i = k
        · rw [if_pos ⟨rfl, e⟩]
        · rw [if_neg (fun q => e q.2), xup_off (by omega)]
          exact hm i (by omega) h3
    | succ m ih =>
      intro x st hx o hr ex hm h1 h0
      have h8 := K.1
      refine bX7_goesRound_22 C Z _ _ _ (brF (nI_pos (by omega)) ⟨pk_in k 8 (by omega), pk_in k 8 (by omega), pk_in k 8 (by omega), ?_⟩)
      rw [nI_clamp (by omega), ex, rg5, xup_eq, xup_off (p := 37) (q := 7) (by omega), (K.off o).2.1]
      have o2 : Off [37] s0 (xup st 37 k (nI x)) := o.trans (Off.up (by decide))
      have hr1 : rowR (xup st 37 k (nI x)) (k + 1) (ur r k x) := hr.up
      have next : gg ow p 0 k r x = none → X κ 22 [(0, .ref 7), (1, .int (nI n)), (2, .int (nI k))] [] (xup st 37 k (nI x)) := fun g => by
        rw [fs_none g] at h1 h0
        refine ih (x + 1) _ (by omega) o2 hr1.ur.1 ?_ (fun i h2 h3 => ?_) h1 h0
        · rw [nI_pred]
          exact hr1.ur.2
        · rw [xup_off (by omega)]
          exact hm i h2 h3
      refine bnT (fun w => by have := (nI_eq (by omega) (by omega)).mp w; omega) (kX7_mayStand (K.off o2) hr1.ur.1 hr1.ur.2 (by omega) (by omega) hb (fun ok => f1 ?_) (fun no => f0 (next (if_neg no))))
      have ek : nI n - 1 = nI k := by
        rw [← hk, nI_pred]
      rw [ek]
      refine bnF rfl ⟨pk_in k 8 (by omega), ?_⟩
      have c0 : (xup st 37 k (nI x)).1 37 ((0 : Int32).toNatClampNeg) = nI (ur r k x 0) := hr1 0 (by omega)
      have bu : ur r k x 0 < p := by
        by_cases e : 0 = k
        · rw [← e, ur_eq]
          omega
        · rw [ur_ne e]
          exact hb 0 (by omega)
      rw [hr1.ur.2, c0]
      refine kX7_owedBy (K.off o2) (by omega) (by omega) ?_
      have o4 := (K.2.2.2.1 x (ur r k x 0) (by omega) (by omega)).1
      have es : sr ow p 0 (k + 1) (ur r k x) = if 0 < ow x (ur r k x 0) then some (ur r k x) else none := by
        unfold sr
        rw [Nat.add_sub_cancel, ur_eq]
      by_cases q : 0 < ow x (ur r k x 0)
      · rw [if_pos q] at es
        refine brF (nI_nle q (by omega)) (h1 (ur r k x) (fs_some (by unfold gg; rw [if_pos ok]; exact es)) _ o2 ?_)
        rw [show n = k + 1 by omega]
        exact hr1
      · rw [if_neg q] at es
        rw [show ow x (ur r k x 0) = 0 by omega]
        refine brT (by decide) (brT (nI_le (by omega) (by omega)) ?_)
        rw [i_add0]
        exact next (by unfold gg; rw [if_pos ok]; exact es)
  | succ f ihf =>
    intro k r hk hb m
    induction m with
    | zero =>
      intro x st hx o hr ex hm h1 h0
      have h8 := K.1
      refine bX7_goesRound_22 C Z _ _ _ (brF (nI_pos (by omega)) ⟨pk_in k 8 (by omega), pk_in k 8 (by omega), pk_in k 8 (by omega), ?_⟩)
      rw [nI_clamp (by omega), ex, rg5, xup_eq, xup_off (by omega), (K.off o).2.1]
      refine bnF (by rw [show x = p by omega]) ⟨pk_in k 8 (by omega), h0 rfl _ ((o.trans (Off.up (by decide))).trans (Off.up (by decide))) (fun i hi => ?_) (fun i h2 h3 => ?_)⟩
      · rw [xup_off (by omega), xup_off (by omega)]
        exact hr i hi
      · rw [xup_r]
        by_cases e : i = k
        · rw [if_pos ⟨rfl, e⟩]
        · rw [if_neg (fun q => e q.2), xup_off (by omega)]
          exact hm i (by omega) h3
    | succ m ih =>
      intro x st hx o hr ex hm h1 h0
      have h8 := K.1
      refine bX7_goesRound_22 C Z _ _ _ (brF (nI_pos (by omega)) ⟨pk_in k 8 (by omega), pk_in k 8 (by omega), pk_in k 8 (by omega), ?_⟩)
      rw [nI_clamp (by omega), ex, rg5, xup_eq, xup_off (p := 37) (q := 7) (by omega), (K.off o).2.1]
      have o2 : Off [37] s0 (xup st 37 k (nI x)) := o.trans (Off.up (by decide))
      have hr1 : rowR (xup st 37 k (nI x)) (k + 1) (ur r k x) := hr.up
      have next : gg ow p (f + 1) k r x = none → ∀ st', Off [37] s0 st' → rowR st' (k + 1) (ur r k x) → (∀ i, k + 1 ≤ i → i < n → st'.1 37 i = -1) → X κ 22 [(0, .ref 7), (1, .int (nI n)), (2, .int (nI k))] [] st' := fun g st' o' hr' hm' => by
        rw [fs_none g] at h1 h0
        refine ih (x + 1) _ (by omega) o' hr'.ur.1 ?_ (fun i h2 h3 => hm' i (by omega) h3) h1 h0
        rw [nI_pred]
        exact hr'.ur.2
      have hm1 : ∀ i, k + 1 ≤ i → i < n → (xup st 37 k (nI x)).1 37 i = -1 := fun i h2 h3 => by
        rw [xup_off (by omega)]
        exact hm i (by omega) h3
      refine bnT (fun w => by have := (nI_eq (by omega) (by omega)).mp w; omega) (kX7_mayStand (K.off o2) hr1.ur.1 hr1.ur.2 (by omega) (by omega) hb (fun ok => f1 ?_) (fun no => f0 (next (if_neg no) _ o2 hr1 hm1)))
      have ek : nI n - 1 = nI (n - 1) := by
        obtain ⟨n', rfl⟩ : ∃ n', n = n' + 1 := ⟨n - 1, by omega⟩
        rw [nI_pred]
        rfl
      rw [ek, nI_1]
      have eg : gg ow p (f + 1) k r x = fs (gg ow p f (k + 1) (ur r k x)) p 0 := by
        unfold gg
        rw [if_pos ok]
        rfl
      refine bnT (fun w => by have := (nI_eq (by omega) (by omega)).mp w; omega) (brF (nI_ge (by omega) (by omega)) ?_)
      refine ihf (k + 1) (ur r k x) (by omega) (fun i hi => ?_) p 0 _ (by omega) o2 hr1 (hm1 _ (by omega) (by omega)) (fun i h2 h3 => hm1 i (by omega) h3) (fun r' q st' o' hr' => h1 r' (fs_some (eg.trans q)) st' o' hr') (fun q st' o' hr' hm' => ?_)
      · by_cases e : i = k
        · rw [e, ur_eq]
          omega
        · rw [ur_ne e]
          exact hb i (by omega)
      · rw [pk_m1]
        exact next (eg.trans q) st' o' hr' hm'
theorem lX7_gr2 (C : Cx κ M_X7_goesRound (d + 2)) (Z : xR κ Q) (hn8 : n ≤ 8) (h : ∀ st', Off [37] s0 st' → (∀ i, i < n → st'.1 37 i = -1) → X κ 22 [(0, .ref 7), (1, .int (nI n)), (2, .int 0)] [] st') : ∀ (f i : Nat) (st : xSt), i + f = n → Off [37] s0 st → (∀ j, j < i → st.1 37 j = -1) → X κ 2 [(0, .ref 7), (1, .int (nI n)), (2, .int (nI i))] [] st
  | 0, i, st, e, o, hm => by
    rw [show i = n by omega] at hm ⊢
    exact bX7_goesRound_2 C Z _ _ _ (brT (nI_le (by omega) (by omega)) (h st o hm))
  | f + 1, i, st, e, o, hm => by
    refine bX7_goesRound_2 C Z _ _ _ (brF (nI_ge (by omega) (by omega)) ⟨pk_in i 8 (by omega), ?_⟩)
    rw [nI_clamp (by omega), nI_1]
    refine lX7_gr2 C Z hn8 h f (i + 1) _ (by omega) (o.trans (Off.up (by decide))) (fun j hj => ?_)
    rw [xup_r]
    by_cases e : j = i
    · rw [if_pos ⟨rfl, e⟩]
    · rw [if_neg (fun q => e q.2)]
      exact hm j (by omega)
theorem kX7_goesRound (K : RDr st p ow) (hn : 3 ≤ n) (hnp : n ≤ p) (h1 : ∀ r', sr ow p n 0 (fun _ => 0) = some r' → ∀ st', Off [37] st st' → rowR st' n r' → P 1 st') (h0 : sr ow p n 0 (fun _ => 0) = none → ∀ st', Off [37] st st' → P 0 st') : Ct (d + 2) M_X7_goesRound [.ref 7, .int (nI n)] st (Qi P) := by
  have h8 := K.1
  obtain ⟨f, rfl⟩ : ∃ f, n = f + 1 := ⟨n - 1, by omega⟩
  rw [sr_gg] at h1 h0
  refine eX7_goesRound _ _ (fun κ C Z => lX7_gr2 C Z (by omega) (fun s1 o1 hm => ?_) (f + 1) 0 st (by omega) Off.rfl (fun j hj => by omega))
  refine lX7_lev C Z K (by omega) (by omega) f 0 (fun _ => 0) (by omega) (fun i hi => by omega) p 0 s1 (by omega) o1 (fun i hi => by omega) (hm 0 (by omega)) (fun i _ hi => hm i hi) (fun r' q st' o' hr' => qi (h1 r' q st' o' hr')) (fun q st' o' _ _ => ?_)
  exact bX7_goesRound_22 C Z _ _ _ (brT (by decide) (qi (h0 q st' o')))
theorem lX7_fi2 (C : Cx κ M_X7_finds (d + 3)) (Z : xR κ Q) (K : RDr s0 p ow) : ∀ (m n : Nat) (st : xSt), 3 ≤ n → m = p + 1 - n → Off [37] s0 st → (∀ n' r', fs (fun n => (sr ow p n 0 (fun _ => 0)).map (fun r => (n, r))) m n = some (n', r') → ∀ st', Off [37] s0 st' → rowR st' n' r' → Q (some (.int (nI n'))) st') → (fs (fun n => (sr ow p n 0 (fun _ => 0)).map (fun r => (n, r))) m n = none → ∀ st', Off [37] s0 st' → Q (some (.int 0)) st') → n ≤ 9 → X κ 2 [(0, .ref 7), (1, .int (nI n))] [] st
  | 0, n, st, hn, e, o, h1, h0, h9 => by
    have h8 := K.1
    refine bX7_finds_2 C Z _ _ (brT ?_ (h0 rfl st o))
    rw [(K.off o).2.1]
    exact nI_lt (by omega) (by omega)
  | m + 1, n, st, hn, e, o, h1, h0, h9 => by
    have h8 := K.1
    refine bX7_finds_2 C Z _ _ (brF ?_ (kX7_goesRound (K.off o) hn (by omega) (fun r' q st' o' hr' => f1 (h1 n r' (fs_some ?_) st' (o.trans o') hr')) (fun q st' o' => f0 ?_)))
    · rw [(K.off o).2.1]
      exact nI_nlt (by omega) (by omega)
    · show (sr ow p n 0 (fun _ => 0)).map _ = _
      rw [q]
      rfl
    · have g : (fun n => (sr ow p n 0 (fun _ => 0)).map (fun r => (n, r))) n = none := by
        show (sr ow p n 0 (fun _ => 0)).map _ = _
        rw [q]
        rfl
      rw [fs_none g] at h1 h0
      rw [nI_1]
      exact lX7_fi2 C Z K m (n + 1) st' (by omega) (by omega) (o.trans o') h1 h0 (by omega)
theorem kX7_finds (K : RDr st p ow) (h1 : ∀ n r, fnd ow p = some (n, r) → ∀ st', Off [37] st st' → rowR st' n r → P (nI n) st') (h0 : fnd ow p = none → ∀ st', Off [37] st st' → P 0 st') : Ct (d + 3) M_X7_finds [.ref 7] st (Qi P) :=
  eX7_finds _ (fun κ C Z => lX7_fi2 C Z K (p - 2) 3 st (by omega) (by omega) Off.rfl (fun n r e st' o hr => qi (h1 n r e st' o hr)) (fun e st' o => qi (h0 e st' o)) (by omega))
theorem nx_mod2 {r : Nat → Nat} {i : Nat} (hi : i < n) : r ((i + 1) % n) = nx n r i := by
  unfold nx
  by_cases e : i + 1 < n
  · rw [if_pos e, Nat.mod_eq_of_lt e]
  · rw [if_neg e, show i + 1 = n by omega, Nat.mod_self]
theorem lX7_c18 {r : Nat → Nat} {c : Nat} (C : Cx κ M_X7_close (d + 2)) (Z : xR κ Q) (K : RDr st p ow) (hr : rowR st n r) (R : 3 ≤ n ∧ n ≤ p ∧ pfx ow p n r ∧ 0 < ow (r (n - 1)) (r 0)) (h : X κ 70 [(0, .ref 7), (1, .int (nI c)), (2, .int (nI n)), (3, .int (nI (lsm ow n r n))), (4, .int 0)] [] st) : ∀ (f i : Nat), i + f = n → X κ 18 [(0, .ref 7), (1, .int (nI c)), (2, .int (nI n)), (3, .int (nI (lsm ow n r i))), (4, .int (nI i))] [] st
  | 0, i, e => by
    have h8 := K.1
    rw [show i = n by omega]
    exact bX7_close_18 C Z _ _ _ _ _ (brT (nI_le (by omega) (by omega)) h)
  | f + 1, i, e => by
    have h8 := K.1
    have b := row_pos R (i := i) (by omega)
    have hmod : (i + 1) % n < n := Nat.mod_lt _ (by omega)
    refine bX7_close_18 C Z _ _ _ _ _ (brF (nI_ge (by omega) (by omega)) ?_)
    rw [nI_1, pk_rem (by omega) (by omega) (by omega), nI_clamp (by omega), nI_clamp (by omega), hr i (by omega), hr _ hmod, nx_mod2 (r := r) (i := i) (n := n) (by omega)]
    refine ⟨pk_in i 8 (by omega), nI_ne0 (by omega) (by omega), pk_in ((i + 1) % n) 8 (by omega), kX7_owedBy K (by omega) (by omega) ?_⟩
    have l4 := lsm_400 (ow := ow) (n := n) (r := r) i
    have o4 := (K.2.2.2.1 (r i) (nx n r i) (by omega) (by omega)).1
    have go := lX7_c18 C Z K hr R h f (i + 1) (by omega)
    rw [show lsm ow n r (i + 1) = min (lsm ow n r i) (ow (r i) (nx n r i)) by rfl] at go
    by_cases q : lsm ow n r i ≤ ow (r i) (nx n r i)
    · rw [Nat.min_eq_left q] at go
      exact brT (nI_le q (by omega)) go
    · rw [Nat.min_eq_right (by omega)] at go
      exact brF (nI_ge (by omega) (by omega)) go
theorem lX7_c70 {l c : Nat} {r : Nat → Nat} (C : Cx κ M_X7_close (d + 2)) (Z : xR κ Q) (h8 : p ≤ 8) (I : inv p ow) (R : 3 ≤ n ∧ n ≤ p ∧ pfx ow p n r ∧ 0 < ow (r (n - 1)) (r 0)) (hl : ∀ j, j < n → l ≤ ow (r j) (nx n r j)) (h : ∀ st', Off [36, 37] s0 st' → RDr st' p (tk ow n r l n) → Ct (d + 1) M_X7_finds [.ref 7] st' (Qi fun v2 s1 => X κ 7 [(0, .ref 7), (1, .int (nI c + 1)), (2, .int v2)] [] s1)) : ∀ (f i : Nat) (st : xSt), i + f = n → rowR st n r → Off [36, 37] s0 st → RDr st p (tk ow n r l i) → X κ 70 [(0, .ref 7), (1, .int (nI c)), (2, .int (nI n)), (3, .int (nI l)), (4, .int (nI i))] [] st
  | 0, i, st, e, hr, o, K => by
    rw [show i = n by omega] at K ⊢
    exact bX7_close_70 C Z _ _ _ _ _ (brT (nI_le (by omega) (by omega)) (h st o K))
  | f + 1, i, st, e, hr, o, K => by
    have b := row_pos R (i := i) (by omega)
    have hmod : (i + 1) % n < n := Nat.mod_lt _ (by omega)
    refine bX7_close_70 C Z _ _ _ _ _ (brF (nI_ge (by omega) (by omega)) ?_)
    rw [nI_1, pk_rem (by omega) (by omega) (by omega), nI_clamp (by omega), nI_clamp (by omega), hr i (by omega), hr _ hmod, nx_mod2 (r := r) (i := i) (n := n) (by omega)]
    refine ⟨pk_in i 8 (by omega), nI_ne0 (by omega) (by omega), pk_in ((i + 1) % n) 8 (by omega), sX7_owe (by omega) (by omega) b.2.2.2 ?_⟩
    have ev : tk ow n r l i (r i) (nx n r i) = ow (r i) (nx n r i) := tk_off ow n r l i _ _ (fun k hk q => R.2.2.1.2.1 k i hk (by omega) q.symm)
    have hli := hl i (by omega)
    refine lX7_c70 C Z h8 I R hl h f (i + 1) _ (by omega) (fun k hk => ?_) ((o.trans (Off.up (by decide))).trans (Off.up (by decide))) ⟨h8, ?_, fun a b2 ha hb => ?_, I.le (tk_le ow n r l (i + 1))⟩
    · rw [xup_off (by omega), xup_off (by omega)]
      exact hr k hk
    · rw [xup_off (by omega), xup_off (by omega)]
      exact K.2.1
    · rw [tk_s, tk_s]
      by_cases q : a = r i ∧ b2 = nx n r i
      · obtain ⟨q1, q2⟩ := q
        rw [xup_off (by omega), q1, q2, xup_eq, K.2.2.1 (r i) (nx n r i) (by omega) (by omega), if_pos ⟨rfl, rfl⟩, if_neg (fun w => b.2.2.2 w.2), rg6, pk_sub (by omega)]
      · by_cases q2 : b2 = r i ∧ a = nx n r i
        · obtain ⟨q3, q4⟩ := q2
          rw [q3, q4, xup_eq, K.2.2.1 (nx n r i) (r i) (by omega) (by omega), if_neg (fun w => b.2.2.2 w.2), if_pos ⟨rfl, rfl⟩, rg7, pk_sub (by omega)]
        · rw [xup_off (by omega), xup_off (by omega), if_neg q, if_neg q2]
          exact K.2.2.1 a b2 ha hb
theorem m37 (p : Nat) (h : p ∈ [37]) : p ∈ [36, 37] := by
  rw [List.mem_singleton.mp h]
  decide
theorem lX7_cl (C : Cx κ M_X7_close (d + 4)) (Z : xR κ Q) (f : Nat) : ∀ (c : Nat) (ow : Nat → Nat → Nat) (st : xSt), kn ow prs ≤ f → c + f ≤ 28 → Off [36, 37] s0 st → RDr st p ow → (∀ st', Off [36, 37] s0 st' → RDr st' p (cl p f ow).2 → Q (some (.int (nI (c + (cl p f ow).1)))) st') → Ct (d + 3) M_X7_finds [.ref 7] st (Qi fun v2 s1 => X κ 7 [(0, .ref 7), (1, .int (nI c)), (2, .int v2)] [] s1) := by
  induction f with
  | zero =>
    intro c ow st hk hc o K h
    have e := fnd_no K.1 K.2.2.2 (by omega)
    refine kX7_finds K (fun n r q => by rw [e] at q; cases q) (fun _ st' o' => bX7_close_7 C Z _ _ _ (brT (by decide) ?_))
    have := h st' (o.trans (o'.mono m37))
    rw [cl_0] at this
    exact this (K.off o')
  | succ f ih =>
    intro c ow st hk hc o K h
    have h8 := K.1
    refine kX7_finds K (fun n r q st' o' hr => ?_) (fun q st' o' => bX7_close_7 C Z _ _ _ (brT (by decide) ?_))
    · have R := fnd_ok q
      have lt := nw_lt K.1 K.2.2.2 R
      refine bX7_close_7 C Z _ _ _ (brF (nI_nle (by omega) (by omega)) ?_)
      refine lX7_c18 C Z (K.off o') hr R (lX7_c70 (l := lsm ow n r n) (s0 := s0) C Z K.1 K.2.2.2 R (fun j hj => lsm_le n j hj) (fun s2 o2 K2 => ?_) n 0 st' (by omega) hr (o.trans (o'.mono m37)) (K.off o')) n 0 (by omega)
      rw [nI_1]
      refine ih (c + 1) (nw ow n r) s2 (by omega) (by omega) o2 K2 (fun s3 o3 K3 => ?_)
      have := h s3 o3
      rw [cl_some q] at this
      rw [show c + 1 + (cl p f (nw ow n r)).1 = c + ((cl p f (nw ow n r)).1 + 1) by omega]
      exact this K3
    · have := h st' (o.trans (o'.mono m37))
      rw [cl_none q] at this
      exact this (K.off o')
end S40
theorem g_close : Good M_X6_close M_X7_close [] := by
  intro st hR P hp
  obtain ⟨n, hC, hS, hRx, ⟨p, wy, ow, K⟩, hL, hT⟩ := id hR
  have I : inv p ow := ⟨fun a b ha hb => ⟨(K.2.2.2.1 a b ha hb).1, (K.2.2.2.1 a b ha hb).2.1⟩, K.2.2.2.2.1, K.2.2.2.2.2⟩
  have Kc : RDc st p ow := ⟨K.1, K.2.1.1, fun a b ha hb => (K.2.2.2.1 a b ha hb).2.2.1, I⟩
  refine eX6_close _ (kX1_closeAll (d := 41) Kc (fun s1 o1 K1 => qi ?_))
  have hpc : ∀ q, q ∈ pcs → q = 21 ∨ (66 ≤ q ∧ q < 74) := by decide
  have n1 : ∀ q k, q ≠ 21 → ¬ (66 ≤ q ∧ q < 74) → s1.1 q k = st.1 q k := fun q k a b => o1 q k (fun w => by rcases hpc q w with e | e; exact a e; exact b e)
  have Kr : RDr s1 p ow := ⟨K.1, by rw [n1 7 10 (by omega) (by omega)]; exact K.2.1.2, fun a b ha hb => by rw [n1 36 _ (by omega) (by omega)]; exact (K.2.2.2.1 a b ha hb).2.2.2, I⟩
  refine eX7_close _ (fun κ C Z => lX7_cl (d := 56) C Z 28 0 ow s1 (kn_len ow prs) (by omega) Off.rfl Kr (fun s2 o2 K2 => qi ?_))
  rw [Nat.zero_add]
  have n2 : ∀ q k, q ≠ 36 → q ≠ 37 → s2.1 q k = s1.1 q k := fun q k a b => o2 q k (by simp [a, b])
  refine hp _ s2 (RR.putD hC hS hRx hL hT (fun q k g => ?_) ⟨p, wy, (cl p 28 ow).2, K.1, ⟨?_, K2.2.1⟩, fun a ha => ?_, fun a b ha hb => ?_, K2.2.2.2.2.1, K2.2.2.2.2.2⟩)
  · rw [n2 q k (by unfold inC inS inR inL inT at g; omega) (by unfold inC inS inR inL inT at g; omega), n1 q k (by unfold inC inS inR inL inT at g; omega) (by unfold inC inS inR inL inT at g; omega)]
  · rw [n2 4 3 (by omega) (by omega)]
    exact K1.2.1
  · have h8 := K.1
    rw [n2 20 a (by omega) (by omega), n1 20 a (by omega) (by omega), n2 35 a (by omega) (by omega), n1 35 a (by omega) (by omega)]
    exact K.2.2.1 a ha
  · rw [n2 (66 + a) b (by omega) (by omega)]
    exact ⟨(K1.2.2.2.1 a b ha hb).1, (K1.2.2.2.1 a b ha hb).2, K1.2.2.1 a b ha hb, K2.2.2.1 a b ha hb⟩
