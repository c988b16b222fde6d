/-! the law from its entry to its loop -/
theorem gtb {w : Cond} (h : w ∈ lw_good) : w ∈ lw_tbl := (List.mem_filter.mp h).1
theorem arr_of {ty : FieldType} {s : State} {args : Array Value} (hob : ∀ C, ty ≠ .object C) (h : (Cond.arrayClass ty).before args s = true) : ∃ cA, ArrOfT s cA ty ∧ va_RA s cA ty := by
  obtain ⟨c, k, comp, h1, h2, h3⟩ := Cond.arrayClass_spec h
  refine ⟨c, fun n z => ⟨fun k h => (by cases h), k, h2, comp, h3⟩, ?_⟩
  cases ty with
  | object C => exact (hob C rfl).elim
  | _ => exact h1
theorem arr2_of {s : State} (h : va_AOA .int s) : ∃ cA, ArrOfT s cA (.array .int) ∧ va_RA s cA (.array .int) := by
  obtain ⟨comp, c, k, h1, h2, h3, h4, h5⟩ := Jvm.Stand.arrayOver_specB h
  exact ⟨c, fun n z => ⟨fun k h => (by cases h), k, h3, comp, h4⟩, h5⟩
/-- the cells at the start -/
def st0 : xSt := (fun p => if p = 10 then fl (fun _ => 0) (-1) 4 else if p = 3 then (fun k => if k = 5 then 30 else 0) else if p = 7 then (fun k => if k = 5 then 30 else 0) else if p = 6 then (fun k => if k = 3 then (-1) else 0) else fun _ => 0, fun _ _ => 0)
theorem st0_hi {p : Nat} (h : 10 < p) (k : Nat) : st0.1 p k = 0 := by
  show (if p = 10 then fl (fun _ => 0) (-1) 4 else if p = 3 then (fun k => if k = 5 then 30 else 0) else if p = 7 then (fun k => if k = 5 then 30 else 0) else if p = 6 then (fun k => if k = 3 then (-1) else 0) else fun _ => (0 : Int32)) k = 0
  rw [if_neg (by omega), if_neg (by omega), if_neg (by omega), if_neg (by omega)]
theorem RR_st0 : RR st0 := by
  refine ⟨0, ⟨fun _ => 0, fun _ => 0, fun _ => 0, fun _ _ => 0, ?_⟩, ⟨fun _ => false, fun _ => 0, ?_⟩, ⟨0, 30, ?_⟩, ⟨0, fun _ => 0, fun _ _ => 0, ?_⟩, ⟨0, fun _ => 0, fun _ => 0, fun _ _ => 0, ?_⟩, ⟨0, fun _ => 0, ?_⟩⟩
  · exact ⟨by omega, by decide, by decide, fun c hc => by omega, fun c _ hc => st0_hi (by omega) c⟩
  · refine ⟨by decide, fun s hs => ⟨fun h => (by cases h), fun _ => ⟨?_, st0_hi (by omega) s⟩⟩⟩
    rcases (show s = 0 ∨ s = 1 ∨ s = 2 ∨ s = 3 by omega) with rfl | rfl | rfl | rfl <;> decide
  · exact ⟨by omega, by omega, by omega, ⟨by decide, by decide, by decide, by decide⟩, fun c hc => by omega⟩
  · refine ⟨by omega, ⟨by decide, by decide⟩, fun a ha => by omega, fun a b ha hb => ⟨Nat.zero_le _, Or.inl rfl, ?_, ?_⟩, fun _ _ _ => rfl, fun _ => rfl⟩
    · rw [st0_hi (by omega)]
      rfl
    · rw [st0_hi (by omega)]
      show (0 : Int32) = nI 0 - nI 0
      decide
  · exact ⟨by omega, ⟨by decide, by decide⟩, fun l hl => by omega⟩
  · exact ⟨by omega, ⟨by decide, by decide⟩, fun i hi => by omega⟩
/-- where the cells lie -/
def adr (q0 q8 b : Nat) (u0 : (Nat → (Nat → Nat) × (Nat → Nat)) × (Nat → Nat)) (u8 : (Nat → Nat) × (Nat → Nat)) (p : Nat) : Nat := if p = 9999 then b else [q0, u0.2 0, u0.2 1, u0.2 2, u0.2 3, u0.2 4, u0.2 5, q8, (u0.1 0).1 0, (u0.1 0).1 1, (u0.1 0).1 2, (u0.1 1).1 0, (u0.1 1).1 1, (u0.1 1).1 2, (u0.1 1).1 3, (u0.1 2).1 0, (u0.1 2).1 1, (u0.1 2).1 2, (u0.1 2).1 3, (u0.1 3).1 0, (u0.1 3).1 1, (u0.1 3).1 2, (u0.1 4).1 0, (u0.1 4).1 1, (u0.1 4).1 2, (u0.1 4).1 3, (u0.1 4).1 4, (u0.1 5).1 0, u8.1 0, u8.1 1, u8.1 2, u8.1 3, u8.1 4, u8.1 5, u8.1 6, u8.1 7, u8.1 8, u8.1 9, u8.1 10, u8.1 11, u8.1 12, u8.1 13, u8.1 14, u8.1 15, u8.1 16, u8.1 17, u8.1 18, u8.1 19, (u0.1 0).2 0, (u0.1 0).2 1, (u0.1 0).2 2, (u0.1 0).2 3, (u0.1 1).2 0, (u0.1 1).2 1, (u0.1 1).2 2, (u0.1 1).2 3, (u0.1 1).2 4, (u0.1 1).2 5, (u0.1 2).2 0, (u0.1 2).2 1, (u0.1 2).2 2, (u0.1 2).2 3, (u0.1 2).2 4, (u0.1 2).2 5, (u0.1 2).2 6, (u0.1 2).2 7, (u0.1 3).2 0, (u0.1 3).2 1, (u0.1 3).2 2, (u0.1 3).2 3, (u0.1 3).2 4, (u0.1 3).2 5, (u0.1 3).2 6, (u0.1 3).2 7, (u0.1 4).2 0, (u0.1 4).2 1, (u0.1 4).2 2, (u0.1 4).2 3, (u0.1 4).2 4, (u0.1 4).2 5, (u0.1 4).2 6, (u0.1 4).2 7].getD p 0
theorem grd_4 (q0 q8 b : Nat) (u0 : (Nat → (Nat → Nat) × (Nat → Nat)) × (Nat → Nat)) (u8 : (Nat → Nat) × (Nat → Nat)) : (fun i => if i < 4 then some ((u0.1 0).2 i) else none : Nat → Option Nat) = (fun i => if i < 4 then some (adr q0 q8 b u0 u8 (48 + i)) else none) := by
  funext i
  by_cases h : i < 4
  · rw [if_pos h, if_pos h]
    rcases (show i = 0 ∨ i = 1 ∨ i = 2 ∨ i = 3 by omega) with rfl | rfl | rfl | rfl <;> rfl
  · rw [if_neg h, if_neg h]
theorem grd_0 (q0 q8 b : Nat) (u0 : (Nat → (Nat → Nat) × (Nat → Nat)) × (Nat → Nat)) (u8 : (Nat → Nat) × (Nat → Nat)) : (fun i => if i < 6 then some ((u0.1 1).2 i) else none : Nat → Option Nat) = (fun i => if i < 6 then some (adr q0 q8 b u0 u8 (52 + i)) else none) := by
  funext i
  by_cases h : i < 6
  · rw [if_pos h, if_pos h]
    rcases (show i = 0 ∨ i = 1 ∨ i = 2 ∨ i = 3 ∨ i = 4 ∨ i = 5 by omega) with rfl | rfl | rfl | rfl | rfl | rfl <;> rfl
  · rw [if_neg h, if_neg h]
theorem grd_3 (q0 q8 b : Nat) (u0 : (Nat → (Nat → Nat) × (Nat → Nat)) × (Nat → Nat)) (u8 : (Nat → Nat) × (Nat → Nat)) : (fun i => if i < 8 then some ((u0.1 2).2 i) else none : Nat → Option Nat) = (fun i => if i < 8 then some (adr q0 q8 b u0 u8 (58 + i)) else none) := by
  funext i
  by_cases h : i < 8
  · rw [if_pos h, if_pos h]
    rcases (show i = 0 ∨ i = 1 ∨ i = 2 ∨ i = 3 ∨ i = 4 ∨ i = 5 ∨ i = 6 ∨ i = 7 by omega) with rfl | rfl | rfl | rfl | rfl | rfl | rfl | rfl <;> rfl
  · rw [if_neg h, if_neg h]
theorem grd_1 (q0 q8 b : Nat) (u0 : (Nat → (Nat → Nat) × (Nat → Nat)) × (Nat → Nat)) (u8 : (Nat → Nat) × (Nat → Nat)) : (fun i => if i < 8 then some ((u0.1 3).2 i) else none : Nat → Option Nat) = (fun i => if i < 8 then some (adr q0 q8 b u0 u8 (66 + i)) else none) := by
  funext i
  by_cases h : i < 8
  · rw [if_pos h, if_pos h]
    rcases (show i = 0 ∨ i = 1 ∨ i = 2 ∨ i = 3 ∨ i = 4 ∨ i = 5 ∨ i = 6 ∨ i = 7 by omega) with rfl | rfl | rfl | rfl | rfl | rfl | rfl | rfl <;> rfl
  · rw [if_neg h, if_neg h]
theorem grd_2 (q0 q8 b : Nat) (u0 : (Nat → (Nat → Nat) × (Nat → Nat)) × (Nat → Nat)) (u8 : (Nat → Nat) × (Nat → Nat)) : (fun i => if i < 8 then some ((u0.1 4).2 i) else none : Nat → Option Nat) = (fun i => if i < 8 then some (adr q0 q8 b u0 u8 (74 + i)) else none) := by
  funext i
  by_cases h : i < 8
  · rw [if_pos h, if_pos h]
    rcases (show i = 0 ∨ i = 1 ∨ i = 2 ∨ i = 3 ∨ i = 4 ∨ i = 5 ∨ i = 6 ∨ i = 7 by omega) with rfl | rfl | rfl | rfl | rfl | rfl | rfl | rfl <;> rfl
  · rw [if_neg h, if_neg h]
set_option maxHeartbeats 8000000 in
set_option maxRecDepth 100000 in
theorem start_ws (D : va_G) (cs : yC) (q0 q8 b : Nat) (u0 : (Nat → (Nat → Nat) × (Nat → Nat)) × (Nat → Nat)) (u8 : (Nat → Nat) × (Nat → Nat)) : [0, 1, 9, 20, 33, 45, 59, 61, 2, 7, 8, 10, 17, 18, 19, 21, 30, 31, 32, 34, 43, 44, 46, 55, 56, 57, 58, 60, 62, 63, 64, 65, 66, 67, 68, 69, 70, 71, 72, 73, 74, 75, 76, 77, 78, 79, 80, 81, 3, 4, 5, 6, 11, 12, 13, 14, 15, 16, 22, 23, 24, 25, 26, 27, 28, 29, 35, 36, 37, 38, 39, 40, 41, 42, 47, 48, 49, 50, 51, 52, 53, 54].map (fun i => (([] ++ wX6 cs q0 u0) ++ wX7 cs q8 u8)[i]?) = (xw (D, adr q0 q8 b u0 u8, cs) st0).map some := by
  unfold wX6 wX4 wX0 wX3 wX1 wX2 wX5
  rw [grd_4 q0 q8 b u0 u8, grd_0 q0 q8 b u0 u8, grd_3 q0 q8 b u0 u8, grd_1 q0 q8 b u0 u8, grd_2 q0 q8 b u0 u8]
  rfl
set_option maxHeartbeats 4000000 in
set_option maxRecDepth 100000 in
theorem whole_start {p : Program} {e : Env} {s : State} {m : MethodId} {below : List Frame} {meth : Method} {c : Code} (l : Launch) {b L : Nat} {xs : Nat → Int32} (hL : L ≤ 3072) (C0 : lw_At p s m meth c b L xs) : W p l e room_1 s m #[Value.ref b] below meth c s.heap [] 0 0 (lw_Z below #[Value.ref b] s) (entryFrame m ([Value.ref b] : List Value).toArray 4) := by
  obtain ⟨hx, hb, hr, hml, hown, hts, hX, hbl, hlocks, hgv⟩ := id C0
  obtain ⟨c0, i0, k0⟩ := u_known (C := RX0) (T := TX0) (N := 5) (n := 5) hts inX0 (hts _ (gtb gw_124))
  obtain ⟨c1, i1, k1⟩ := u_known (C := RX1) (T := TX1) (N := 4) (n := 4) hts inX1 (hts _ (gtb gw_177))
  obtain ⟨c2, i2, k2⟩ := u_known (C := RX2) (T := TX2) (N := 6) (n := 6) hts inX2 (hts _ (gtb gw_197))
  obtain ⟨c3, i3, k3⟩ := u_known (C := RX3) (T := TX3) (N := 7) (n := 7) hts inX3 (hts _ (gtb gw_147))
  obtain ⟨c4, i4, k4⟩ := u_known (C := RX4) (T := TX4) (N := 4) (n := 4) hts inX4 (hts _ (gtb gw_99))
  obtain ⟨c5, i5, k5⟩ := u_known (C := RX5) (T := TX5) (N := 6) (n := 6) hts inX5 (hts _ (gtb gw_223))
  obtain ⟨c6, i6, k6⟩ := u_known (C := RX6) (T := TX6) (N := 6) (n := 6) hts inX6 (hts _ (gtb gw_91))
  obtain ⟨c7, i7, k7⟩ := u_known (C := RX7) (T := TX7) (N := 32) (n := 32) hts inX7 (hts _ (gtb gw_1024))
  obtain ⟨D, hKc⟩ : ∃ D : va_G, ∀ (k : Nat) (q : vw_C), vwCl[k]? = some q → u_Kn s q.1 q.2.1 q.2.2 (D.1 k) (D.2 k) := by
    refine ⟨(fun k => [c0, c1, c2, c3, c4, c5, c6, c7].getD k c0, fun k => [i0, i1, i2, i3, i4, i5, i6, i7].getD k i0), ?_⟩
    intro k q hq
    match k, hq with
    | 0, hq => cases hq; exact k0
    | 1, hq => cases hq; exact k1
    | 2, hq => cases hq; exact k2
    | 3, hq => cases hq; exact k3
    | 4, hq => cases hq; exact k4
    | 5, hq => cases hq; exact k5
    | 6, hq => cases hq; exact k6
    | 7, hq => cases hq; exact k7
    | k + 8, hq => simp [vwCl] at hq
  have hO : va_AOA .int s := va_AOA.of (hts (.arrayOver (.array .int)) (List.mem_of_getElem? (i := 105) (by decide +kernel)))
  obtain ⟨cI, aI, rI⟩ := arr_of (ty := .int) (fun C h => by cases h) (hts _ (gtb gw_122))
  obtain ⟨cJ, aJ, rJ⟩ := arr_of (ty := .long) (fun C h => by cases h) (hts _ (gtb gw_175))
  obtain ⟨cZ, aZ, rZ⟩ := arr_of (ty := .boolean) (fun C h => by cases h) (hts _ (gtb gw_1126))
  obtain ⟨cA, aA, rA⟩ := arr2_of hO
  have hK : va_K D vwCl (ytys (cI, cJ, cZ, cA)) s := ⟨hKc, fun k q hq => by
    match k, hq with
    | 0, hq => cases hq; exact ⟨aI, rI⟩
    | 1, hq => cases hq; exact ⟨aJ, rJ⟩
    | 2, hq => cases hq; exact ⟨aZ, rZ⟩
    | 3, hq => cases hq; exact ⟨aA, rA⟩
    | k + 4, hq => simp [ytys] at hq⟩
  generalize hcs : ((cI, cJ, cZ, cA) : yC) = cs at hK
  clear hcs aI rI aJ rJ aZ rZ aA rA
  have hY : Y (p, l, e, room_1, s, m, #[Value.ref b], below, meth, c, lw_Z below #[Value.ref b] s, fun q : Nat => s.heap.size ≤ q, D, cs) 0 [(0, .ref b)] [] [] 0 0 := by
    generalize hκ : ((p, l, e, room_1, s, m, #[Value.ref b], below, meth, c, lw_Z below #[Value.ref b] s, fun q : Nat => s.heap.size ≤ q, D, cs) : yK) = κ
    have C : Cy κ M_L_law (2 + 1) 600000 7302250 := by
      subst hκ
      exact ⟨hx, hb, hml, hr, hlocks, hown, fun w hw => hts w (gtb hw), ⟨by decide, by decide, Nat.le_refl _, Nat.le_refl _⟩, hK, hO, fun q h => h, fun h => absurd h (by decide)⟩
    refine Y_make (M' := M_X6_init) (ci := 6) (T := TX6) (ty := tyX6) (N := 6) C ctorX6 rfl giX6 tyX6_ok dfX6 gw_90 gw_91 gw_77 gw_92 gw_93 gw_94 rfl ⟨by decide +kernel, by decide +kernel, by decide +kernel⟩ (by decide) (Nat.le_of_ble_eq_true rfl) (Nat.le_of_ble_eq_true rfl) (Nat.le_of_ble_eq_true rfl) dL_law_0 dL_law_3 dL_law_4 (fun q0 u0 => ?_)
    refine Y_astore_n C dL_law_7 rfl (by decide) (L' := [(1, .ref q0), (0, .ref b)]) rfl ?_
    refine Y_make (M' := M_X7_init) (ci := 7) (T := TX7) (ty := tyX7) (N := 32) C ctorX7 rfl giX7 tyX7_ok dfX7 gw_1023 gw_1024 gw_85 gw_1025 gw_1026 gw_1027 rfl ⟨by decide +kernel, by decide +kernel, by decide +kernel⟩ (by decide) (Nat.le_of_ble_eq_true rfl) (Nat.le_of_ble_eq_true rfl) (Nat.le_of_ble_eq_true rfl) dL_law_8 dL_law_11 dL_law_12 (fun q8 u8 => ?_)
    refine Y_astore_n C dL_law_15 rfl (by decide) (L' := [(2, .ref q8), (1, .ref q0), (0, .ref b)]) rfl ?_
    refine Y_iconst C (v := 0) (by decide) dL_law_16 ?_
    refine Y_istore_n C dL_law_17 rfl (by decide) (L' := [(3, .int 0), (2, .ref q8), (1, .ref q0), (0, .ref b)]) rfl ?_
    refine Y_loc [3, 2, 1, 0] rfl ?_
    subst hκ
    intro H locs ls hP hD hS hl
    have hsw := start_ws D cs q0 q8 b u0 u8
    have hD1 := hD.sub (ws' := xw (D, adr q0 q8 b u0 u8, cs) st0) _ (by decide +kernel) hsw
    have hP1 : va_P D vwCl (xw (D, adr q0 q8 b u0 u8, cs) st0) H := by
      intro k q hk
      have h1 := congrArg (fun z => z[k]?) hsw
      simp only [List.getElem?_map, hk] at h1
      obtain ⟨i, -, hi⟩ := Option.map_eq_some_iff.mp h1
      exact hP i q hi
    have hX1 := law_loop (κ := (p, l, e, room_1, s, m, #[Value.ref b], below, meth, c, 82, 3256, lw_Z below #[Value.ref b] s, fun q : Nat => s.heap.size ≤ q, (D, adr q0 q8 b u0 u8, cs))) (Ln := L) (xs := xs) ⟨hx, hb, hml, hr, hlocks, hown, fun w hw => hts w (List.mem_filter.mp hw).1, ⟨by decide, by decide, by decide, by decide⟩, hK, xw_D _ hD1⟩ ⟨rfl, rfl, by decide, by decide, rfl, fun q h => h⟩ ⟨hX, hbl, Nat.not_le.mpr hbl⟩ hL L 0 st0 (by omega) (by omega) RR_st0
    exact hX1 H locs ls hP1 hS hl
  have hl := lv_entry ([.ref b]) (n := 4) (Nat.le_of_ble_eq_true rfl)
  rw [lg_entry_eq]
  exact hY s.heap [] _ (fun k q h => by simp at h) ⟨fun i j p q h => by simp at h, fun k q h => by simp at h⟩ va_S.rf (by rw [hml]; exact hl)
