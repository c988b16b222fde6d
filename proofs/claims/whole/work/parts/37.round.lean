/-! rows of debts that go round -/
def fs {α : Type} (g : Nat → Option α) : Nat → Nat → Option α
  | 0, _ => none
  | m + 1, x => match g x with
    | some r => some r
    | none => fs g m (x + 1)
theorem fs_some {α : Type} {g : Nat → Option α} {m x : Nat} {r : α} (h : g x = some r) : fs g (m + 1) x = some r := by
  show (match g x with | some r => some r | none => fs g m (x + 1)) = _
  rw [h]
theorem fs_none {α : Type} {g : Nat → Option α} {m x : Nat} (h : g x = none) : fs g (m + 1) x = fs g m (x + 1) := by
  show (match g x with | some r => some r | none => fs g m (x + 1)) = _
  rw [h]
theorem fs_skip {α : Type} {g : Nat → Option α} : ∀ (j m x : Nat), (∀ y, x ≤ y → y < x + j → g y = none) → fs g (j + m) x = fs g m (x + j)
  | 0, m, x, _ => by rw [Nat.zero_add, Nat.add_zero]
  | j + 1, m, x, h => by
    rw [show j + 1 + m = (j + m) + 1 by omega, fs_none (h x (by omega) (by omega)), fs_skip j m (x + 1) (fun y h1 h2 => h y (by omega) (by omega))]
    congr 1
    omega
theorem fs_ex {α : Type} {g : Nat → Option α} {r : α} : ∀ (m x : Nat), fs g m x = some r → ∃ y, x ≤ y ∧ y < x + m ∧ g y = some r
  | 0, _, h => by cases h
  | m + 1, x, h => by
    cases e : g x with
    | some r' =>
      rw [fs_some e] at h
      exact ⟨x, by omega, by omega, e.trans h⟩
    | none =>
      rw [fs_none e] at h
      obtain ⟨y, a, b, c⟩ := fs_ex m (x + 1) h
      exact ⟨y, by omega, by omega, c⟩
def ur (r : Nat → Nat) (k x : Nat) : Nat → Nat := fun i => if i = k then x else r i
theorem ur_eq {r : Nat → Nat} {k x : Nat} : ur r k x k = x := if_pos rfl
theorem ur_ne {r : Nat → Nat} {k x i : Nat} (h : i ≠ k) : ur r k x i = r i := if_neg h
def okr (ow : Nat → Nat → Nat) (r : Nat → Nat) (k x : Nat) : Bool := decide (k = 0 ∨ ((∀ i, i < k → r i ≠ x) ∧ r 0 < x ∧ 0 < ow (r (k - 1)) x))
def sr (ow : Nat → Nat → Nat) (p : Nat) : Nat → Nat → (Nat → Nat) → Option (Nat → Nat)
  | 0, k, r => if 0 < ow (r (k - 1)) (r 0) then some r else none
  | f + 1, k, r => fs (fun x => if okr ow r k x = true then sr ow p f (k + 1) (ur r k x) else none) p 0
/-- a row begun -/
def pfx (ow : Nat → Nat → Nat) (p k : Nat) (r : Nat → Nat) : Prop := (∀ i, i < k → r i < p) ∧ (∀ i j, i < j → j < k → r i ≠ r j) ∧ ∀ i, i + 1 < k → 0 < ow (r i) (r (i + 1))
theorem pfx_up {ow : Nat → Nat → Nat} {p k x : Nat} {r : Nat → Nat} (h : pfx ow p k r) (ok : okr ow r k x = true) (hx : x < p) : pfx ow p (k + 1) (ur r k x) := by
  have ok' := of_decide_eq_true ok
  refine ⟨fun i hi => ?_, fun i j hij hj => ?_, fun i hi => ?_⟩
  · by_cases e : i = k
    · rw [e, ur_eq]
      exact hx
    · rw [ur_ne e]
      exact h.1 i (by omega)
  · rw [ur_ne (i := i) (by omega)]
    by_cases e : j = k
    · rw [e, ur_eq]
      rcases ok' with q | q
      · omega
      · exact q.1 i (by omega)
    · rw [ur_ne e]
      exact h.2.1 i j hij (by omega)
  · rw [ur_ne (i := i) (by omega)]
    by_cases e : i + 1 = k
    · rw [e, ur_eq]
      rcases ok' with q | q
      · omega
      · have := q.2.2
        rw [show k - 1 = i by omega] at this
        exact this
    · rw [ur_ne e]
      exact h.2.2 i (by omega)
theorem sr_ok {ow : Nat → Nat → Nat} {p : Nat} : ∀ (f k : Nat) (r r' : Nat → Nat), pfx ow p k r → sr ow p f k r = some r' → pfx ow p (k + f) r' ∧ 0 < ow (r' (k + f - 1)) (r' 0)
  | 0, k, r, r', h, e => by
    unfold sr at e
    by_cases c : 0 < ow (r (k - 1)) (r 0)
    · rw [if_pos c] at e
      cases e
      exact ⟨h, c⟩
    · rw [if_neg c] at e
      cases e
  | f + 1, k, r, r', h, e => by
    unfold sr at e
    obtain ⟨x, -, hx, e⟩ := fs_ex _ _ e
    by_cases c : okr ow r k x = true
    · rw [if_pos c] at e
      have := sr_ok f (k + 1) _ r' (pfx_up h c (by omega)) e
      rw [show k + (f + 1) = k + 1 + f by omega]
      exact this
    · rw [if_neg c] at e
      cases e
/-- the shortest row, and the first of these: its length and its persons -/
def fnd (ow : Nat → Nat → Nat) (p : Nat) : Option (Nat × (Nat → Nat)) := fs (fun n => (sr ow p n 0 (fun _ => 0)).map (fun r => (n, r))) (p - 2) 3
theorem fnd_ok {ow : Nat → Nat → Nat} {p n : Nat} {r : Nat → Nat} (h : fnd ow p = some (n, r)) : 3 ≤ n ∧ n ≤ p ∧ pfx ow p n r ∧ 0 < ow (r (n - 1)) (r 0) := by
  obtain ⟨y, h1, h2, e⟩ := fs_ex _ _ h
  cases e2 : sr ow p y 0 (fun _ => 0) with
  | none => rw [e2] at e; cases e
  | some r2 =>
    rw [e2] at e
    cases e
    have := sr_ok n 0 _ r ⟨fun i hi => by omega, fun i j a b => by omega, fun i hi => by omega⟩ e2
    rw [Nat.zero_add] at this
    exact ⟨h1, by omega, this⟩
def nx (n : Nat) (r : Nat → Nat) (i : Nat) : Nat := if i + 1 < n then r (i + 1) else r 0
def lsm (ow : Nat → Nat → Nat) (n : Nat) (r : Nat → Nat) : Nat → Nat
  | 0 => 400
  | i + 1 => min (lsm ow n r i) (ow (r i) (nx n r i))
def tk (ow : Nat → Nat → Nat) (n : Nat) (r : Nat → Nat) (l : Nat) : Nat → Nat → Nat → Nat
  | 0 => ow
  | i + 1 => fun a b => if a = r i ∧ b = nx n r i then tk ow n r l i a b - l else tk ow n r l i a b
theorem tk_le (ow : Nat → Nat → Nat) (n : Nat) (r : Nat → Nat) (l : Nat) : ∀ i a b, tk ow n r l i a b ≤ ow a b
  | 0, a, b => Nat.le_refl _
  | i + 1, a, b => by
    have ih := tk_le ow n r l i a b
    unfold tk
    by_cases h : a = r i ∧ b = nx n r i
    · rw [if_pos h]
      omega
    · rw [if_neg h]
      exact ih
theorem tk_off (ow : Nat → Nat → Nat) (n : Nat) (r : Nat → Nat) (l : Nat) : ∀ i a b, (∀ j, j < i → a ≠ r j) → tk ow n r l i a b = ow a b
  | 0, a, b, _ => rfl
  | i + 1, a, b, h => by
    unfold tk
    rw [if_neg (fun q => h i (by omega) q.1)]
    exact tk_off ow n r l i a b (fun j hj => h j (by omega))
theorem tk_in {ow : Nat → Nat → Nat} {n : Nat} {r : Nat → Nat} {l : Nat} (hd : ∀ i j, i < j → j < n → r i ≠ r j) : ∀ i, i ≤ n → ∀ j, j < i → tk ow n r l i (r j) (nx n r j) = ow (r j) (nx n r j) - l
  | 0, _, j, hj => by omega
  | i + 1, hi, j, hj => by
    unfold tk
    by_cases e : j = i
    · rw [e, if_pos ⟨rfl, rfl⟩, tk_off ow n r l i _ _ (fun k hk q => hd k i hk (by omega) q.symm)]
    · rw [if_neg (fun q => hd j i (by omega) (by omega) q.1)]
      exact tk_in hd i (by omega) j (by omega)
theorem lsm_le {ow : Nat → Nat → Nat} {n : Nat} {r : Nat → Nat} : ∀ i j, j < i → lsm ow n r i ≤ ow (r j) (nx n r j)
  | 0, j, h => by omega
  | i + 1, j, h => by
    unfold lsm
    by_cases e : j = i
    · rw [e]
      omega
    · have := lsm_le (ow := ow) (n := n) (r := r) i j (by omega)
      omega
theorem lsm_ex {ow : Nat → Nat → Nat} {n : Nat} {r : Nat → Nat} : ∀ i, lsm ow n r i = 400 ∨ ∃ j, j < i ∧ lsm ow n r i = ow (r j) (nx n r j)
  | 0 => Or.inl rfl
  | i + 1 => by
    unfold lsm
    by_cases e : lsm ow n r i ≤ ow (r i) (nx n r i)
    · rw [Nat.min_eq_left e]
      rcases lsm_ex (ow := ow) (n := n) (r := r) i with h | ⟨j, h1, h2⟩
      · exact Or.inl h
      · exact Or.inr ⟨j, by omega, h2⟩
    · rw [Nat.min_eq_right (by omega)]
      exact Or.inr ⟨i, by omega, rfl⟩
theorem lsm_400 {ow : Nat → Nat → Nat} {n : Nat} {r : Nat → Nat} : ∀ i, lsm ow n r i ≤ 400
  | 0 => Nat.le_refl _
  | i + 1 => by
    have := lsm_400 (ow := ow) (n := n) (r := r) i
    unfold lsm
    omega
def inv (p : Nat) (ow : Nat → Nat → Nat) : Prop := (∀ a b, a < 8 → b < 8 → ow a b ≤ 400 ∧ (ow a b = 0 ∨ ow b a = 0)) ∧ (∀ a b, p ≤ a ∨ p ≤ b → ow a b = 0) ∧ ∀ a, ow a a = 0
theorem inv.le {p : Nat} {ow ow' : Nat → Nat → Nat} (h : inv p ow) (hl : ∀ a b, ow' a b ≤ ow a b) : inv p ow' := by
  refine ⟨fun a b ha hb => ⟨Nat.le_trans (hl a b) (h.1 a b ha hb).1, ?_⟩, fun a b q => ?_, fun a => ?_⟩
  · have := hl a b
    have := hl b a
    rcases (h.1 a b ha hb).2 with e | e <;> omega
  · have := hl a b
    have := h.2.1 a b q
    omega
  · have := hl a a
    have := h.2.2 a
    omega
def prs : List (Nat × Nat) := [(0, 1), (0, 2), (0, 3), (0, 4), (0, 5), (0, 6), (0, 7), (1, 2), (1, 3), (1, 4), (1, 5), (1, 6), (1, 7), (2, 3), (2, 4), (2, 5), (2, 6), (2, 7), (3, 4), (3, 5), (3, 6), (3, 7), (4, 5), (4, 6), (4, 7), (5, 6), (5, 7), (6, 7)]
theorem prs_f : ∀ a b : Fin 8, a.1 < b.1 → (prs.any fun q => decide (q.1 = a.1) && decide (q.2 = b.1)) = true := by decide
theorem prs_in (a : Nat) (ha : a < 8) (b : Nat) (hb : b < 8) (h : a < b) : (a, b) ∈ prs := by
  obtain ⟨q, h1, h2⟩ := List.any_eq_true.mp (prs_f ⟨a, ha⟩ ⟨b, hb⟩ h)
  have h3 := Bool.and_eq_true _ _ ▸ h2
  have e1 : q.1 = a := of_decide_eq_true h3.1
  have e2 : q.2 = b := of_decide_eq_true h3.2
  rw [← e1, ← e2]
  exact h1
def kn (ow : Nat → Nat → Nat) : List (Nat × Nat) → Nat
  | [] => 0
  | q :: l => (if 0 < ow q.1 q.2 + ow q.2 q.1 then 1 else 0) + kn ow l
theorem kn_len (ow : Nat → Nat → Nat) : ∀ l, kn ow l ≤ l.length
  | [] => Nat.le_refl _
  | q :: l => by
    have := kn_len ow l
    unfold kn
    rw [List.length_cons]
    split <;> omega
theorem kn_le {ow ow' : Nat → Nat → Nat} (hl : ∀ a b, ow' a b ≤ ow a b) : ∀ l, kn ow' l ≤ kn ow l
  | [] => Nat.le_refl _
  | q :: l => by
    have := kn_le hl l
    have := hl q.1 q.2
    have := hl q.2 q.1
    unfold kn
    split <;> split <;> omega
theorem kn_lt {ow ow' : Nat → Nat → Nat} (hl : ∀ a b, ow' a b ≤ ow a b) {a b : Nat} (h1 : 0 < ow a b + ow b a) (h2 : ow' a b + ow' b a = 0) : ∀ l, (a, b) ∈ l → kn ow' l < kn ow l
  | [], h => by cases h
  | q :: l, h => by
    have hle := kn_le hl l
    have i1 := hl q.1 q.2
    have i2 := hl q.2 q.1
    rcases List.mem_cons.mp h with e | e
    · subst e
      unfold kn
      rw [if_pos (c := 0 < ow a b + ow b a) h1, if_neg (c := 0 < ow' a b + ow' b a) (by omega)]
      omega
    · have := kn_lt hl h1 h2 l e
      unfold kn
      split <;> split <;> omega
theorem kn_pos {ow : Nat → Nat → Nat} {a b : Nat} (h1 : 0 < ow a b + ow b a) (hm : (a, b) ∈ prs) : 0 < kn ow prs := by
  have := kn_lt (ow := ow) (ow' := fun _ _ => 0) (fun a b => Nat.zero_le _) h1 rfl prs hm
  omega
def nw (ow : Nat → Nat → Nat) (n : Nat) (r : Nat → Nat) : Nat → Nat → Nat := tk ow n r (lsm ow n r n) n
theorem nw_le (ow : Nat → Nat → Nat) (n : Nat) (r : Nat → Nat) (a b : Nat) : nw ow n r a b ≤ ow a b := tk_le _ _ _ _ _ _ _
theorem row_pos {ow : Nat → Nat → Nat} {p n : Nat} {r : Nat → Nat} (h : 3 ≤ n ∧ n ≤ p ∧ pfx ow p n r ∧ 0 < ow (r (n - 1)) (r 0)) {i : Nat} (hi : i < n) : 0 < ow (r i) (nx n r i) ∧ r i < p ∧ nx n r i < p ∧ r i ≠ nx n r i := by
  obtain ⟨h1, h2, h3, h4⟩ := h
  unfold nx
  by_cases e : i + 1 < n
  · rw [if_pos e]
    exact ⟨h3.2.2 i e, h3.1 i hi, h3.1 _ e, h3.2.1 i (i + 1) (by omega) e⟩
  · rw [if_neg e]
    have e2 : n - 1 = i := by omega
    rw [e2] at h4
    exact ⟨h4, h3.1 i hi, h3.1 0 (by omega), fun q => h3.2.1 0 i (by omega) hi q.symm⟩
theorem nw_lt {ow : Nat → Nat → Nat} {p n : Nat} {r : Nat → Nat} (h8 : p ≤ 8) (I : inv p ow) (h : 3 ≤ n ∧ n ≤ p ∧ pfx ow p n r ∧ 0 < ow (r (n - 1)) (r 0)) : kn (nw ow n r) prs < kn ow prs := by
  have hl : ∃ j, j < n ∧ lsm ow n r n = ow (r j) (nx n r j) := by
    rcases lsm_ex (ow := ow) (n := n) (r := r) n with e | e
    · refine ⟨0, by omega, ?_⟩
      have a := lsm_le (ow := ow) (n := n) (r := r) n 0 (by omega)
      have b := row_pos h (i := 0) (by omega)
      have c := (I.1 (r 0) (nx n r 0) (by omega) (by omega)).1
      omega
    · exact e
  obtain ⟨j, hj, e⟩ := hl
  have b := row_pos h hj
  have z1 : nw ow n r (r j) (nx n r j) = 0 := by
    unfold nw
    rw [tk_in h.2.2.1.2.1 n (Nat.le_refl _) j hj, e]
    omega
  have z2 : nw ow n r (nx n r j) (r j) = 0 := by
    have := nw_le ow n r (nx n r j) (r j)
    rcases (I.1 (r j) (nx n r j) (by omega) (by omega)).2 with q | q <;> omega
  rcases Nat.lt_or_gt_of_ne b.2.2.2 with q | q
  · exact kn_lt (nw_le ow n r) (a := r j) (b := nx n r j) (by omega) (by omega) prs (prs_in _ (by omega) _ (by omega) q)
  · exact kn_lt (nw_le ow n r) (a := nx n r j) (b := r j) (by omega) (by omega) prs (prs_in _ (by omega) _ (by omega) q)
theorem fnd_no {ow : Nat → Nat → Nat} {p : Nat} (h8 : p ≤ 8) (I : inv p ow) (h : kn ow prs = 0) : fnd ow p = none := by
  cases e : fnd ow p with
  | none => rfl
  | some q =>
    obtain ⟨n, r⟩ := q
    have := nw_lt h8 I (fnd_ok e)
    omega
/-- all closings: how many, and what is owed then -/
def cl (p : Nat) : Nat → (Nat → Nat → Nat) → Nat × (Nat → Nat → Nat)
  | 0, ow => (0, ow)
  | f + 1, ow => match fnd ow p with
    | none => (0, ow)
    | some q => ((cl p f (nw ow q.1 q.2)).1 + 1, (cl p f (nw ow q.1 q.2)).2)
theorem cl_none {p f : Nat} {ow : Nat → Nat → Nat} (h : fnd ow p = none) : cl p f ow = (0, ow) := by
  cases f with
  | zero => rfl
  | succ f =>
    unfold cl
    rw [h]
theorem cl_some {p f n : Nat} {r : Nat → Nat} {ow : Nat → Nat → Nat} (h : fnd ow p = some (n, r)) : cl p (f + 1) ow = ((cl p f (nw ow n r)).1 + 1, (cl p f (nw ow n r)).2) := by
  rw [cl]
  rw [h]
theorem cl_le (p : Nat) : ∀ (f : Nat) (ow : Nat → Nat → Nat), (cl p f ow).1 ≤ f ∧ ∀ a b, (cl p f ow).2 a b ≤ ow a b
  | 0, ow => ⟨Nat.le_refl _, fun a b => Nat.le_refl _⟩
  | f + 1, ow => by
    cases e : fnd ow p with
    | none =>
      rw [cl_none e]
      exact ⟨Nat.zero_le _, fun a b => Nat.le_refl _⟩
    | some q =>
      obtain ⟨n, r⟩ := q
      have ih := cl_le p f (nw ow n r)
      rw [cl_some e]
      exact ⟨Nat.succ_le_succ ih.1, fun a b => Nat.le_trans (ih.2 a b) (nw_le ow n r a b)⟩
