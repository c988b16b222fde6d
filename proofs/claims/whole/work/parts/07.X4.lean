set_option maxHeartbeats 4000000 in
set_option maxRecDepth 100000 in
theorem eX4_isForm {d : Nat} {Q : Option Value → xSt → Prop} (a0 : Int32) (st : xSt) (h : Ct d M_X6_within [.int a0, .int 0, .int 2] st (Qi fun v2 s1 => (v2 = 0 ∨ v2 = 1) ∧ Q (some (.int v2)) s1)) : Ct (d + 1) M_X4_isForm [.int a0] st Q := by
  refine Ct_of (by decide +kernel) (Nat.le_of_ble_eq_true rfl) (fun κ C Z => ?_)
  show X κ 0 [(0, .int a0)] [] st
  refine X_iload_n C dX4_isForm_0 rfl (j := 0) rfl ?_
  refine X_iconst C (v := 0) (by decide) dX4_isForm_1 ?_
  refine X_iconst C (v := 2) (by decide) dX4_isForm_2 ?_
  refine X_callN C dX4_isForm_3 pw_RX4_29 (as := [.int a0, .int 0, .int 2]) (S := []) rfl rfl (Nat.le_of_ble_eq_true rfl) (Ct_mono h ?_)
  rintro _ s1 ⟨v2, rfl, h⟩
  show X κ 6 [(0, .int a0)] [.int v2] s1
  exact X_zret C Z rfl h.1 dX4_isForm_6 h.2
set_option maxHeartbeats 4000000 in
set_option maxRecDepth 100000 in
theorem eX4_named {d : Nat} {Q : Option Value → xSt → Prop} (a1 : Int32) (st : xSt) (h : ((a1 < 0 → Q (some (.int 0)) st) ∧ (¬ a1 < 0 → ((4 ≤ a1 → Q (some (.int 0)) st) ∧ (¬ 4 ≤ a1 → Q (some (.int 1)) st))))) : Ct (d) M_X4_named [.ref 1, .int a1] st Q := by
  refine Ct_of (by decide +kernel) (Nat.le_of_ble_eq_true rfl) (fun κ C Z => ?_)
  show X κ 0 [(0, .ref 1), (1, .int a1)] [] st
  refine X_iload_n C dX4_named_0 rfl (j := 1) rfl ?_
  refine X_if_lt C dX4_named_1 (tgt := 13) (by decide) (fun c => ?_) (fun c => ?_)
  · replace h := h.1 c
    refine X_iconst C (v := 0) (by decide) dX4_named_13 ?_
    exact X_zret C Z rfl (by decide) dX4_named_14 h
  · replace h := h.2 c
    refine X_iload_n C dX4_named_4 rfl (j := 1) rfl ?_
    refine X_iconst C (v := 4) (by decide) dX4_named_5 ?_
    refine X_icmp_ge C dX4_named_6 (tgt := 13) (by decide) (fun c => ?_) (fun c => ?_)
    · replace h := h.1 c
      refine X_iconst C (v := 0) (by decide) dX4_named_13 ?_
      exact X_zret C Z rfl (by decide) dX4_named_14 h
    · replace h := h.2 c
      refine X_iconst C (v := 1) (by decide) dX4_named_9 ?_
      refine X_goto C dX4_named_10 (tgt := 14) (by decide) ?_
      exact X_zret C Z rfl (by decide) dX4_named_14 h
set_option maxHeartbeats 4000000 in
set_option maxRecDepth 100000 in
theorem eX4_lost {d : Nat} {Q : Option Value → xSt → Prop} (a1 : Int32) (st : xSt) (h : Ct d M_X4_named [.ref 1, .int a1] st (Qi fun v2 s1 => ((v2 = 0 → Q (some (.int 1)) s1) ∧ (¬ v2 = 0 → vp_in a1 4 ∧ ((¬ (s1.1 10 (a1 : Int32).toNatClampNeg) = ((-1)) → Q (some (.int 0)) s1) ∧ ((s1.1 10 (a1 : Int32).toNatClampNeg) = ((-1)) → Q (some (.int 1)) s1)))))) : Ct (d + 1) M_X4_lost [.ref 1, .int a1] st Q := by
  refine Ct_of (by decide +kernel) (Nat.le_of_ble_eq_true rfl) (fun κ C Z => ?_)
  show X κ 0 [(0, .ref 1), (1, .int a1)] [] st
  refine X_aload_n C dX4_lost_0 rfl (j := 0) rfl ?_
  refine X_iload_n C dX4_lost_1 rfl (j := 1) rfl ?_
  refine X_callV C dX4_lost_2 pw_RX4_33 (b := 1) (as := [.int a1]) (S := []) sh_1 rfl rfl rfl (Nat.le_of_ble_eq_true rfl) (Ct_mono h ?_)
  rintro _ s1 ⟨v2, rfl, h⟩
  show X κ 5 [(0, .ref 1), (1, .int a1)] [.int v2] s1
  refine X_if_eq C dX4_lost_5 (tgt := 18) (by decide) (fun c => ?_) (fun c => ?_)
  · replace h := h.1 c
    refine X_iconst C (v := 1) (by decide) dX4_lost_18 ?_
    refine X_goto C dX4_lost_19 (tgt := 23) (by decide) ?_
    exact X_zret C Z rfl (by decide) dX4_lost_23 h
  · replace h := h.2 c
    refine X_aload_n C dX4_lost_8 rfl (j := 0) rfl ?_
    refine X_getR C sh_1 rfl fw_RX4_20 dX4_lost_9 ?_
    refine X_iload_n C dX4_lost_12 rfl (j := 1) rfl ?_
    obtain ⟨g3, h⟩ := h
    refine X_iald C sh_10 g3 dX4_lost_13 ?_
    refine X_iconst C (v := (-1)) (by decide) dX4_lost_14 ?_
    refine X_icmp_ne C dX4_lost_15 (tgt := 22) (by decide) (fun c => ?_) (fun c => ?_)
    · replace h := h.1 c
      refine X_iconst C (v := 0) (by decide) dX4_lost_22 ?_
      exact X_zret C Z rfl (by decide) dX4_lost_23 h
    · replace h := h.2 c
      refine X_iconst C (v := 1) (by decide) dX4_lost_18 ?_
      refine X_goto C dX4_lost_19 (tgt := 23) (by decide) ?_
      exact X_zret C Z rfl (by decide) dX4_lost_23 h
set_option maxHeartbeats 4000000 in
set_option maxRecDepth 100000 in
theorem eX4_sizeOf {d : Nat} {Q : Option Value → xSt → Prop} (a1 : Int32) (st : xSt) (h : Ct d M_X4_lost [.ref 1, .int a1] st (Qi fun v2 s1 => ((v2 = 0 → vp_in a1 4 ∧ Q (some (.int (s1.1 10 (a1 : Int32).toNatClampNeg))) s1) ∧ (¬ v2 = 0 → Q (some (.int 0)) s1)))) : Ct (d + 1) M_X4_sizeOf [.ref 1, .int a1] st Q := by
  refine Ct_of (by decide +kernel) (Nat.le_of_ble_eq_true rfl) (fun κ C Z => ?_)
  show X κ 0 [(0, .ref 1), (1, .int a1)] [] st
  refine X_aload_n C dX4_sizeOf_0 rfl (j := 0) rfl ?_
  refine X_iload_n C dX4_sizeOf_1 rfl (j := 1) rfl ?_
  refine X_callV C dX4_sizeOf_2 pw_RX4_37 (b := 1) (as := [.int a1]) (S := []) sh_1 rfl rfl rfl (Nat.le_of_ble_eq_true rfl) (Ct_mono h ?_)
  rintro _ s1 ⟨v2, rfl, h⟩
  show X κ 5 [(0, .ref 1), (1, .int a1)] [.int v2] s1
  refine X_if_eq C dX4_sizeOf_5 (tgt := 12) (by decide) (fun c => ?_) (fun c => ?_)
  · replace h := h.1 c
    refine X_aload_n C dX4_sizeOf_12 rfl (j := 0) rfl ?_
    refine X_getR C sh_1 rfl fw_RX4_20 dX4_sizeOf_13 ?_
    refine X_iload_n C dX4_sizeOf_16 rfl (j := 1) rfl ?_
    obtain ⟨g3, h⟩ := h
    refine X_iald C sh_10 g3 dX4_sizeOf_17 ?_
    exact X_iret C Z rfl dX4_sizeOf_18 h
  · replace h := h.2 c
    refine X_iconst C (v := 0) (by decide) dX4_sizeOf_8 ?_
    refine X_goto C dX4_sizeOf_9 (tgt := 18) (by decide) ?_
    exact X_iret C Z rfl dX4_sizeOf_18 h
set_option maxHeartbeats 4000000 in
set_option maxRecDepth 100000 in
theorem eX4_formOf {d : Nat} {Q : Option Value → xSt → Prop} (a1 : Int32) (st : xSt) (h : Ct d M_X4_lost [.ref 1, .int a1] st (Qi fun v2 s1 => ((v2 = 0 → vp_in a1 4 ∧ Q (some (.int (s1.1 9 (a1 : Int32).toNatClampNeg))) s1) ∧ (¬ v2 = 0 → Q (some (.int ((-1)))) s1)))) : Ct (d + 1) M_X4_formOf [.ref 1, .int a1] st Q := by
  refine Ct_of (by decide +kernel) (Nat.le_of_ble_eq_true rfl) (fun κ C Z => ?_)
  show X κ 0 [(0, .ref 1), (1, .int a1)] [] st
  refine X_aload_n C dX4_formOf_0 rfl (j := 0) rfl ?_
  refine X_iload_n C dX4_formOf_1 rfl (j := 1) rfl ?_
  refine X_callV C dX4_formOf_2 pw_RX4_37 (b := 1) (as := [.int a1]) (S := []) sh_1 rfl rfl rfl (Nat.le_of_ble_eq_true rfl) (Ct_mono h ?_)
  rintro _ s1 ⟨v2, rfl, h⟩
  show X κ 5 [(0, .ref 1), (1, .int a1)] [.int v2] s1
  refine X_if_eq C dX4_formOf_5 (tgt := 12) (by decide) (fun c => ?_) (fun c => ?_)
  · replace h := h.1 c
    refine X_aload_n C dX4_formOf_12 rfl (j := 0) rfl ?_
    refine X_getR C sh_1 rfl fw_RX4_16 dX4_formOf_13 ?_
    refine X_iload_n C dX4_formOf_16 rfl (j := 1) rfl ?_
    obtain ⟨g3, h⟩ := h
    refine X_iald C sh_9 g3 dX4_formOf_17 ?_
    exact X_iret C Z rfl dX4_formOf_18 h
  · replace h := h.2 c
    refine X_iconst C (v := (-1)) (by decide) dX4_formOf_8 ?_
    refine X_goto C dX4_formOf_9 (tgt := 18) (by decide) ?_
    exact X_iret C Z rfl dX4_formOf_18 h
set_option maxHeartbeats 4000000 in
set_option maxRecDepth 100000 in
theorem eX4_hasItem {d : Nat} {Q : Option Value → xSt → Prop} (a1 : Int32) (a2 : Int32) (st : xSt) (h : Ct d M_X4_named [.ref 1, .int a1] st (Qi fun v2 s1 => ((v2 = 0 → Q (some (.int 0)) s1) ∧ (¬ v2 = 0 → ((a2 < 0 → Q (some (.int 0)) s1) ∧ (¬ a2 < 0 → vp_in a1 4 ∧ (((s1.1 10 (a1 : Int32).toNatClampNeg) ≤ a2 → Q (some (.int 0)) s1) ∧ (¬ (s1.1 10 (a1 : Int32).toNatClampNeg) ≤ a2 → ((60 ≤ a2 → Q (some (.int 0)) s1) ∧ (¬ 60 ≤ a2 → Q (some (.int 1)) s1)))))))))) : Ct (d + 1) M_X4_hasItem [.ref 1, .int a1, .int a2] st Q := by
  refine Ct_of (by decide +kernel) (Nat.le_of_ble_eq_true rfl) (fun κ C Z => ?_)
  show X κ 0 [(0, .ref 1), (1, .int a1), (2, .int a2)] [] st
  refine X_aload_n C dX4_hasItem_0 rfl (j := 0) rfl ?_
  refine X_iload_n C dX4_hasItem_1 rfl (j := 1) rfl ?_
  refine X_callV C dX4_hasItem_2 pw_RX4_33 (b := 1) (as := [.int a1]) (S := []) sh_1 rfl rfl rfl (Nat.le_of_ble_eq_true rfl) (Ct_mono h ?_)
  rintro _ s1 ⟨v2, rfl, h⟩
  show X κ 5 [(0, .ref 1), (1, .int a1), (2, .int a2)] [.int v2] s1
  refine X_if_eq C dX4_hasItem_5 (tgt := 32) (by decide) (fun c => ?_) (fun c => ?_)
  · replace h := h.1 c
    refine X_iconst C (v := 0) (by decide) dX4_hasItem_32 ?_
    exact X_zret C Z rfl (by decide) dX4_hasItem_33 h
  · replace h := h.2 c
    refine X_iload_n C dX4_hasItem_8 rfl (j := 2) rfl ?_
    refine X_if_lt C dX4_hasItem_9 (tgt := 32) (by decide) (fun c => ?_) (fun c => ?_)
    · replace h := h.1 c
      refine X_iconst C (v := 0) (by decide) dX4_hasItem_32 ?_
      exact X_zret C Z rfl (by decide) dX4_hasItem_33 h
    · replace h := h.2 c
      refine X_iload_n C dX4_hasItem_12 rfl (j := 2) rfl ?_
      refine X_aload_n C dX4_hasItem_13 rfl (j := 0) rfl ?_
      refine X_getR C sh_1 rfl fw_RX4_20 dX4_hasItem_14 ?_
      refine X_iload_n C dX4_hasItem_17 rfl (j := 1) rfl ?_
      obtain ⟨g3, h⟩ := h
      refine X_iald C sh_10 g3 dX4_hasItem_18 ?_
      refine X_icmp_ge C dX4_hasItem_19 (tgt := 32) (by decide) (fun c => ?_) (fun c => ?_)
      · replace h := h.1 c
        refine X_iconst C (v := 0) (by decide) dX4_hasItem_32 ?_
        exact X_zret C Z rfl (by decide) dX4_hasItem_33 h
      · replace h := h.2 c
        refine X_iload_n C dX4_hasItem_22 rfl (j := 2) rfl ?_
        refine X_bipush C (v := 60) (by decide) dX4_hasItem_23 ?_
        refine X_icmp_ge C dX4_hasItem_25 (tgt := 32) (by decide) (fun c => ?_) (fun c => ?_)
        · replace h := h.1 c
          refine X_iconst C (v := 0) (by decide) dX4_hasItem_32 ?_
          exact X_zret C Z rfl (by decide) dX4_hasItem_33 h
        · replace h := h.2 c
          refine X_iconst C (v := 1) (by decide) dX4_hasItem_28 ?_
          refine X_goto C dX4_hasItem_29 (tgt := 33) (by decide) ?_
          exact X_zret C Z rfl (by decide) dX4_hasItem_33 h
set_option maxHeartbeats 4000000 in
set_option maxRecDepth 100000 in
theorem eX4_item {d : Nat} {Q : Option Value → xSt → Prop} (a1 : Int32) (a2 : Int32) (st : xSt) (h : Ct d M_X4_hasItem [.ref 1, .int a1, .int a2] st (Qi fun v2 s1 => ((v2 = 0 → Q (some (.int ((-1)))) s1) ∧ (¬ v2 = 0 → vp_in a1 4 ∧ vp_in a2 60 ∧ Q (some (.int (s1.1 (48 + (a1 : Int32).toNatClampNeg) (a2 : Int32).toNatClampNeg))) s1)))) : Ct (d + 1) M_X4_item [.ref 1, .int a1, .int a2] st Q := by
  refine Ct_of (by decide +kernel) (Nat.le_of_ble_eq_true rfl) (fun κ C Z => ?_)
  show X κ 0 [(0, .ref 1), (1, .int a1), (2, .int a2)] [] st
  refine X_aload_n C dX4_item_0 rfl (j := 0) rfl ?_
  refine X_iload_n C dX4_item_1 rfl (j := 1) rfl ?_
  refine X_iload_n C dX4_item_2 rfl (j := 2) rfl ?_
  refine X_callV C dX4_item_3 pw_RX4_40 (b := 1) (as := [.int a1, .int a2]) (S := []) sh_1 rfl rfl rfl (Nat.le_of_ble_eq_true rfl) (Ct_mono h ?_)
  rintro _ s1 ⟨v2, rfl, h⟩
  show X κ 6 [(0, .ref 1), (1, .int a1), (2, .int a2)] [.int v2] s1
  refine X_if_eq C dX4_item_6 (tgt := 20) (by decide) (fun c => ?_) (fun c => ?_)
  · replace h := h.1 c
    refine X_iconst C (v := (-1)) (by decide) dX4_item_20 ?_
    exact X_iret C Z rfl dX4_item_21 h
  · replace h := h.2 c
    refine X_aload_n C dX4_item_9 rfl (j := 0) rfl ?_
    refine X_getR C sh_1 rfl fw_RX4_13 dX4_item_10 ?_
    refine X_iload_n C dX4_item_13 rfl (j := 1) rfl ?_
    obtain ⟨g3, h⟩ := h
    refine X_aald C sh_8 g3 dX4_item_14 ?_
    refine X_iload_n C dX4_item_15 rfl (j := 2) rfl ?_
    obtain ⟨g4, h⟩ := h
    refine X_iald C (shr_48 (vp_lt g3)) g4 dX4_item_16 ?_
    refine X_goto C dX4_item_17 (tgt := 21) (by decide) ?_
    exact X_iret C Z rfl dX4_item_21 h
set_option maxHeartbeats 4000000 in
set_option maxRecDepth 100000 in
theorem eX4_wordAt {d : Nat} {Q : Option Value → xSt → Prop} (a1 : Int32) (a2 : Int32) (st : xSt) (h : Ct d M_X4_item [.ref 1, .int a1, .int a2] st (Qi fun v2 s1 => Ct d M_X6_within [.int v2, .int 0, .int 99] s1 (Qi fun v4 s3 => ((v4 = 0 → Q (some (.int ((-1)))) s3) ∧ (¬ v4 = 0 → Q (some (.int v2)) s3))))) : Ct (d + 1) M_X4_wordAt [.ref 1, .int a1, .int a2] st Q := by
  refine Ct_of (by decide +kernel) (Nat.le_of_ble_eq_true rfl) (fun κ C Z => ?_)
  show X κ 0 [(0, .ref 1), (1, .int a1), (2, .int a2)] [] st
  refine X_aload_n C dX4_wordAt_0 rfl (j := 0) rfl ?_
  refine X_iload_n C dX4_wordAt_1 rfl (j := 1) rfl ?_
  refine X_iload_n C dX4_wordAt_2 rfl (j := 2) rfl ?_
  refine X_callV C dX4_wordAt_3 pw_RX4_44 (b := 1) (as := [.int a1, .int a2]) (S := []) sh_1 rfl rfl rfl (Nat.le_of_ble_eq_true rfl) (Ct_mono h ?_)
  rintro _ s1 ⟨v2, rfl, h⟩
  show X κ 6 [(0, .ref 1), (1, .int a1), (2, .int a2)] [.int v2] s1
  refine X_istore_n C dX4_wordAt_6 rfl (by decide) (L' := [(3, .int v2), (0, .ref 1), (1, .int a1), (2, .int a2)]) rfl ?_
  refine X_iload_n C dX4_wordAt_7 rfl (j := 0) rfl ?_
  refine X_iconst C (v := 0) (by decide) dX4_wordAt_8 ?_
  refine X_bipush C (v := 99) (by decide) dX4_wordAt_9 ?_
  refine X_callN C dX4_wordAt_11 pw_RX4_29 (as := [.int v2, .int 0, .int 99]) (S := []) rfl rfl (Nat.le_of_ble_eq_true rfl) (Ct_mono h ?_)
  rintro _ s3 ⟨v4, rfl, h⟩
  show X κ 14 [(3, .int v2), (0, .ref 1), (1, .int a1), (2, .int a2)] [.int v4] s3
  refine X_if_eq C dX4_wordAt_14 (tgt := 21) (by decide) (fun c => ?_) (fun c => ?_)
  · replace h := h.1 c
    refine X_iconst C (v := (-1)) (by decide) dX4_wordAt_21 ?_
    exact X_iret C Z rfl dX4_wordAt_22 h
  · replace h := h.2 c
    refine X_iload_n C dX4_wordAt_17 rfl (j := 0) rfl ?_
    refine X_goto C dX4_wordAt_18 (tgt := 22) (by decide) ?_
    exact X_iret C Z rfl dX4_wordAt_22 h
set_option maxHeartbeats 4000000 in
set_option maxRecDepth 100000 in
theorem eX4_find {d : Nat} {Q : Option Value → xSt → Prop} (a1 : Int32) (st : xSt) (h : Q (some (.int (((-10)) - a1))) (xup st 1 3 a1)) : Ct (d) M_X4_find [.ref 1, .int a1] st Q := by
  refine Ct_of (by decide +kernel) (Nat.le_of_ble_eq_true rfl) (fun κ C Z => ?_)
  show X κ 0 [(0, .ref 1), (1, .int a1)] [] st
  refine X_aload_n C dX4_find_0 rfl (j := 0) rfl ?_
  refine X_iload_n C dX4_find_1 rfl (j := 1) rfl ?_
  refine X_putI C sh_1 rfl fp_RX4_48 dX4_find_2 ?_
  refine X_bipush C (v := (-10)) (by decide) dX4_find_5 ?_
  refine X_iload_n C dX4_find_7 rfl (j := 1) rfl ?_
  refine X_isub C dX4_find_8 ?_
  exact X_iret C Z rfl dX4_find_9 h
set_option maxHeartbeats 4000000 in
set_option maxRecDepth 100000 in
theorem eX4_latest {d : Nat} {Q : Option Value → xSt → Prop} (st : xSt) (h : Q (some (.int (st.1 1 3))) st) : Ct (d) M_X4_latest [.ref 1] st Q := by
  refine Ct_of (by decide +kernel) (Nat.le_of_ble_eq_true rfl) (fun κ C Z => ?_)
  show X κ 0 [(0, .ref 1)] [] st
  refine X_aload_n C dX4_latest_0 rfl (j := 0) rfl ?_
  refine X_getI C sh_1 rfl fw_RX4_48 dX4_latest_1 ?_
  exact X_iret C Z rfl dX4_latest_4 h
set_option maxHeartbeats 4000000 in
set_option maxRecDepth 100000 in
theorem bX4_inUse_4 {κ : xK} {d : Nat} {Q : Option Value → xSt → Prop} (C : Cx κ M_X4_inUse (d + 1)) (Z : xR κ Q) (x1 : Int32) (x2 : Int32) (st : xSt) (h : ((4 ≤ x2 → Q (some (.int x1)) st) ∧ (¬ 4 ≤ x2 → Ct d M_X4_lost [.ref 1, .int x2] st (Qi fun v2 s1 => ((¬ v2 = 0 → X κ 4 [(0, .ref 1), (1, .int x1), (2, .int (x2 + 1))] [] s1) ∧ (v2 = 0 → X κ 4 [(0, .ref 1), (1, .int (x1 + 1)), (2, .int (x2 + 1))] [] s1)))))) : X κ 4 [(0, .ref 1), (1, .int x1), (2, .int x2)] [] st := by
  refine X_iload_n C dX4_inUse_4 rfl (j := 2) rfl ?_
  refine X_iconst C (v := 4) (by decide) dX4_inUse_5 ?_
  refine X_icmp_ge C dX4_inUse_6 (tgt := 26) (by decide) (fun c => ?_) (fun c => ?_)
  · replace h := h.1 c
    refine X_iload_n C dX4_inUse_26 rfl (j := 1) rfl ?_
    exact X_iret C Z rfl dX4_inUse_27 h
  · replace h := h.2 c
    refine X_aload_n C dX4_inUse_9 rfl (j := 0) rfl ?_
    refine X_iload_n C dX4_inUse_10 rfl (j := 2) rfl ?_
    refine X_callV C dX4_inUse_11 pw_RX4_37 (b := 1) (as := [.int x2]) (S := []) sh_1 rfl rfl rfl (Nat.le_of_ble_eq_true rfl) (Ct_mono h ?_)
    rintro _ s1 ⟨v2, rfl, h⟩
    show X κ 14 [(0, .ref 1), (1, .int x1), (2, .int x2)] [.int v2] s1
    refine X_if_ne C dX4_inUse_14 (tgt := 20) (by decide) (fun c => ?_) (fun c => ?_)
    · replace h := h.1 c
      refine X_iinc C dX4_inUse_20 (j := 2) rfl (v := x2 + 1) rfl (by decide) (L' := [(2, .int (x2 + 1)), (0, .ref 1), (1, .int x1)]) rfl ?_
      refine X_goto C dX4_inUse_23 (tgt := 4) (by decide) ?_
      refine X_loc [1, 2, 0] rfl ?_
      exact h
    · replace h := h.2 c
      refine X_iinc C dX4_inUse_17 (j := 1) rfl (v := x1 + 1) rfl (by decide) (L' := [(1, .int (x1 + 1)), (0, .ref 1), (2, .int x2)]) rfl ?_
      refine X_iinc C dX4_inUse_20 (j := 2) rfl (v := x2 + 1) rfl (by decide) (L' := [(2, .int (x2 + 1)), (1, .int (x1 + 1)), (0, .ref 1)]) rfl ?_
      refine X_goto C dX4_inUse_23 (tgt := 4) (by decide) ?_
      refine X_loc [2, 1, 0] rfl ?_
      exact h
set_option maxHeartbeats 4000000 in
set_option maxRecDepth 100000 in
theorem eX4_inUse {d : Nat} {Q : Option Value → xSt → Prop} (st : xSt) (h : ∀ κ : xK, Cx κ M_X4_inUse (d + 1) → xR κ Q → X κ 4 [(0, .ref 1), (1, .int 0), (2, .int 0)] [] st) : Ct (d + 1) M_X4_inUse [.ref 1] st Q := by
  refine Ct_of (by decide +kernel) (Nat.le_of_ble_eq_true rfl) (fun κ C Z => ?_)
  replace h := h κ C Z
  show X κ 0 [(0, .ref 1)] [] st
  refine X_iconst C (v := 0) (by decide) dX4_inUse_0 ?_
  refine X_istore_n C dX4_inUse_1 rfl (by decide) (L' := [(1, .int 0), (0, .ref 1)]) rfl ?_
  refine X_iconst C (v := 0) (by decide) dX4_inUse_2 ?_
  refine X_istore_n C dX4_inUse_3 rfl (by decide) (L' := [(2, .int 0), (1, .int 0), (0, .ref 1)]) rfl ?_
  refine X_loc [2, 1, 0] rfl ?_
  exact h
set_option maxHeartbeats 4000000 in
set_option maxRecDepth 100000 in
theorem eX4_renew {d : Nat} {Q : Option Value → xSt → Prop} (a1 : Int32) (a2 : Int32) (a3 : Int32) (st : xSt) (h : Ct d M_X4_named [.ref 1, .int a1] st (Qi fun v2 s1 => ((v2 = 0 → Q (some (.int ((-2)))) s1) ∧ (¬ v2 = 0 → Ct d M_X6_within [.int a3, .int 0, .int 60] s1 (Qi fun v4 s3 => ((¬ v4 = 0 → vp_in a1 4 ∧ Ct d M_J7_fill_53178 [.ref (48 + (a1 : Int32).toNatClampNeg), .int 0] s3 (Qv fun s6 => vp_in a1 4 ∧ vp_in a1 4 ∧ Q (some (.int a3)) (xup (xup s6 9 (a1 : Int32).toNatClampNeg a2) 10 (a1 : Int32).toNatClampNeg a3))) ∧ (v4 = 0 → Q (some (.int ((-2)))) s3))))))) : Ct (d + 1) M_X4_renew [.ref 1, .int a1, .int a2, .int a3] st Q := by
  refine Ct_of (by decide +kernel) (Nat.le_of_ble_eq_true rfl) (fun κ C Z => ?_)
  show X κ 0 [(0, .ref 1), (1, .int a1), (2, .int a2), (3, .int a3)] [] st
  refine X_aload_n C dX4_renew_0 rfl (j := 0) rfl ?_
  refine X_iload_n C dX4_renew_1 rfl (j := 1) rfl ?_
  refine X_callV C dX4_renew_2 pw_RX4_33 (b := 1) (as := [.int a1]) (S := []) sh_1 rfl rfl rfl (Nat.le_of_ble_eq_true rfl) (Ct_mono h ?_)
  rintro _ s1 ⟨v2, rfl, h⟩
  show X κ 5 [(0, .ref 1), (1, .int a1), (2, .int a2), (3, .int a3)] [.int v2] s1
  refine X_if_eq C dX4_renew_5 (tgt := 18) (by decide) (fun c => ?_) (fun c => ?_)
  · replace h := h.1 c
    refine X_bipush C (v := (-2)) (by decide) dX4_renew_18 ?_
    exact X_iret C Z rfl dX4_renew_20 h
  · replace h := h.2 c
    refine X_iload_n C dX4_renew_8 rfl (j := 3) rfl ?_
    refine X_iconst C (v := 0) (by decide) dX4_renew_9 ?_
    refine X_bipush C (v := 60) (by decide) dX4_renew_10 ?_
    refine X_callN C dX4_renew_12 pw_RX4_29 (as := [.int a3, .int 0, .int 60]) (S := []) rfl rfl (Nat.le_of_ble_eq_true rfl) (Ct_mono h ?_)
    rintro _ s3 ⟨v4, rfl, h⟩
    show X κ 15 [(0, .ref 1), (1, .int a1), (2, .int a2), (3, .int a3)] [.int v4] s3
    refine X_if_ne C dX4_renew_15 (tgt := 21) (by decide) (fun c => ?_) (fun c => ?_)
    · replace h := h.1 c
      refine X_aload_n C dX4_renew_21 rfl (j := 0) rfl ?_
      refine X_getR C sh_1 rfl fw_RX4_13 dX4_renew_22 ?_
      refine X_iload_n C dX4_renew_25 rfl (j := 1) rfl ?_
      obtain ⟨g5, h⟩ := h
      refine X_aald C sh_8 g5 dX4_renew_26 ?_
      refine X_iconst C (v := 0) (by decide) dX4_renew_27 ?_
      refine X_callS C dX4_renew_28 pw_RX4_23 (as := [.ref (48 + (a1 : Int32).toNatClampNeg), .int 0]) (S := []) rfl rfl (Nat.le_of_ble_eq_true rfl) (Ct_mono h ?_)
      rintro _ s6 ⟨rfl, h⟩
      show X κ 31 [(0, .ref 1), (1, .int a1), (2, .int a2), (3, .int a3)] [] s6
      refine X_aload_n C dX4_renew_31 rfl (j := 0) rfl ?_
      refine X_getR C sh_1 rfl fw_RX4_16 dX4_renew_32 ?_
      refine X_iload_n C dX4_renew_35 rfl (j := 1) rfl ?_
      refine X_iload_n C dX4_renew_36 rfl (j := 2) rfl ?_
      obtain ⟨g7, h⟩ := h
      refine X_iast C sh_9 g7 dX4_renew_37 ?_
      refine X_aload_n C dX4_renew_38 rfl (j := 0) rfl ?_
      refine X_getR C sh_1 rfl fw_RX4_20 dX4_renew_39 ?_
      refine X_iload_n C dX4_renew_42 rfl (j := 1) rfl ?_
      refine X_iload_n C dX4_renew_43 rfl (j := 3) rfl ?_
      obtain ⟨g8, h⟩ := h
      refine X_iast C sh_10 g8 dX4_renew_44 ?_
      refine X_iload_n C dX4_renew_45 rfl (j := 3) rfl ?_
      exact X_iret C Z rfl dX4_renew_46 h
    · replace h := h.2 c
      refine X_bipush C (v := (-2)) (by decide) dX4_renew_18 ?_
      exact X_iret C Z rfl dX4_renew_20 h
set_option maxHeartbeats 4000000 in
set_option maxRecDepth 100000 in
theorem eX4_drop {d : Nat} {Q : Option Value → xSt → Prop} (a1 : Int32) (st : xSt) (h : Ct d M_X4_lost [.ref 1, .int a1] st (Qi fun v2 s1 => ((v2 = 0 → vp_in a1 4 ∧ vp_in a1 4 ∧ Q (some (.int (s1.1 10 (a1 : Int32).toNatClampNeg))) (xup s1 10 (a1 : Int32).toNatClampNeg ((-1)))) ∧ (¬ v2 = 0 → Q (some (.int ((-2)))) s1)))) : Ct (d + 1) M_X4_drop [.ref 1, .int a1] st Q := by
  refine Ct_of (by decide +kernel) (Nat.le_of_ble_eq_true rfl) (fun κ C Z => ?_)
  show X κ 0 [(0, .ref 1), (1, .int a1)] [] st
  refine X_aload_n C dX4_drop_0 rfl (j := 0) rfl ?_
  refine X_iload_n C dX4_drop_1 rfl (j := 1) rfl ?_
  refine X_callV C dX4_drop_2 pw_RX4_37 (b := 1) (as := [.int a1]) (S := []) sh_1 rfl rfl rfl (Nat.le_of_ble_eq_true rfl) (Ct_mono h ?_)
  rintro _ s1 ⟨v2, rfl, h⟩
  show X κ 5 [(0, .ref 1), (1, .int a1)] [.int v2] s1
  refine X_if_eq C dX4_drop_5 (tgt := 11) (by decide) (fun c => ?_) (fun c => ?_)
  · replace h := h.1 c
    refine X_aload_n C dX4_drop_11 rfl (j := 0) rfl ?_
    refine X_getR C sh_1 rfl fw_RX4_20 dX4_drop_12 ?_
    refine X_iload_n C dX4_drop_15 rfl (j := 1) rfl ?_
    obtain ⟨g3, h⟩ := h
    refine X_iald C sh_10 g3 dX4_drop_16 ?_
    refine X_istore_n C dX4_drop_17 rfl (by decide) (L' := [(2, .int (s1.1 10 (a1 : Int32).toNatClampNeg)), (0, .ref 1), (1, .int a1)]) rfl ?_
    refine X_aload_n C dX4_drop_18 rfl (j := 1) rfl ?_
    refine X_getR C sh_1 rfl fw_RX4_20 dX4_drop_19 ?_
    refine X_iload_n C dX4_drop_22 rfl (j := 2) rfl ?_
    refine X_iconst C (v := (-1)) (by decide) dX4_drop_23 ?_
    obtain ⟨g4, h⟩ := h
    refine X_iast C sh_10 g4 dX4_drop_24 ?_
    refine X_iload_n C dX4_drop_25 rfl (j := 0) rfl ?_
    exact X_iret C Z rfl dX4_drop_26 h
  · replace h := h.2 c
    refine X_bipush C (v := (-2)) (by decide) dX4_drop_8 ?_
    exact X_iret C Z rfl dX4_drop_10 h
set_option maxHeartbeats 4000000 in
set_option maxRecDepth 100000 in
theorem eX4_store {d : Nat} {Q : Option Value → xSt → Prop} (a1 : Int32) (a2 : Int32) (a3 : Int32) (st : xSt) (h : Ct d M_X4_hasItem [.ref 1, .int a1, .int a2] st (Qi fun v2 s1 => ((v2 = 0 → Q none s1) ∧ (¬ v2 = 0 → vp_in a1 4 ∧ vp_in a1 4 ∧ Ct d M_X4_cut [.int (s1.1 9 (a1 : Int32).toNatClampNeg), .int a3] s1 (Qi fun v6 s5 => vp_in a2 60 ∧ Q none (xup s5 (48 + (a1 : Int32).toNatClampNeg) (a2 : Int32).toNatClampNeg v6)))))) : Ct (d + 1) M_X4_store [.ref 1, .int a1, .int a2, .int a3] st Q := by
  refine Ct_of (by decide +kernel) (Nat.le_of_ble_eq_true rfl) (fun κ C Z => ?_)
  show X κ 0 [(0, .ref 1), (1, .int a1), (2, .int a2), (3, .int a3)] [] st
  refine X_aload_n C dX4_store_0 rfl (j := 0) rfl ?_
  refine X_iload_n C dX4_store_1 rfl (j := 1) rfl ?_
  refine X_iload_n C dX4_store_2 rfl (j := 2) rfl ?_
  refine X_callV C dX4_store_3 pw_RX4_40 (b := 1) (as := [.int a1, .int a2]) (S := []) sh_1 rfl rfl rfl (Nat.le_of_ble_eq_true rfl) (Ct_mono h ?_)
  rintro _ s1 ⟨v2, rfl, h⟩
  show X κ 6 [(0, .ref 1), (1, .int a1), (2, .int a2), (3, .int a3)] [.int v2] s1
  refine X_if_eq C dX4_store_6 (tgt := 27) (by decide) (fun c => ?_) (fun c => ?_)
  · replace h := h.1 c
    exact X_vret C Z rfl dX4_store_27 h
  · replace h := h.2 c
    refine X_aload_n C dX4_store_9 rfl (j := 0) rfl ?_
    refine X_getR C sh_1 rfl fw_RX4_13 dX4_store_10 ?_
    refine X_iload_n C dX4_store_13 rfl (j := 1) rfl ?_
    obtain ⟨g3, h⟩ := h
    refine X_aald C sh_8 g3 dX4_store_14 ?_
    refine X_iload_n C dX4_store_15 rfl (j := 2) rfl ?_
    refine X_aload_n C dX4_store_16 rfl (j := 0) rfl ?_
    refine X_getR C sh_1 rfl fw_RX4_16 dX4_store_17 ?_
    refine X_iload_n C dX4_store_20 rfl (j := 1) rfl ?_
    obtain ⟨g4, h⟩ := h
    refine X_iald C sh_9 g4 dX4_store_21 ?_
    refine X_iload_n C dX4_store_22 rfl (j := 3) rfl ?_
    refine X_callS C dX4_store_23 pw_RX4_52 (as := [.int (s1.1 9 (a1 : Int32).toNatClampNeg), .int a3]) (S := [.int a2, .ref (48 + (a1 : Int32).toNatClampNeg)]) rfl rfl (Nat.le_of_ble_eq_true rfl) (Ct_mono h ?_)
    rintro _ s5 ⟨v6, rfl, h⟩
    show X κ 26 [(0, .ref 1), (1, .int a1), (2, .int a2), (3, .int a3)] [.int v6, .int a2, .ref (48 + (a1 : Int32).toNatClampNeg)] s5
    obtain ⟨g7, h⟩ := h
    refine X_iast C (shr_48 (vp_lt g3)) g7 dX4_store_26 ?_
    exact X_vret C Z rfl dX4_store_27 h
set_option maxHeartbeats 4000000 in
set_option maxRecDepth 100000 in
theorem eX4_cut {d : Nat} {Q : Option Value → xSt → Prop} (a0 : Int32) (a1 : Int32) (st : xSt) (h : ((¬ a0 = 0 → ((¬ a0 = 1 → Q (some (.int a1)) st) ∧ (a0 = 1 → Q (some (.int ((a1 : Int32).toInt16.toInt32))) st))) ∧ (a0 = 0 → Q (some (.int ((a1 : Int32).toInt8.toInt32))) st))) : Ct (d) M_X4_cut [.int a0, .int a1] st Q := by
  refine Ct_of (by decide +kernel) (Nat.le_of_ble_eq_true rfl) (fun κ C Z => ?_)
  show X κ 0 [(0, .int a0), (1, .int a1)] [] st
  refine X_iload_n C dX4_cut_0 rfl (j := 0) rfl ?_
  refine X_if_ne C dX4_cut_1 (tgt := 7) (by decide) (fun c => ?_) (fun c => ?_)
  · replace h := h.1 c
    refine X_iload_n C dX4_cut_7 rfl (j := 0) rfl ?_
    refine X_iconst C (v := 1) (by decide) dX4_cut_8 ?_
    refine X_icmp_ne C dX4_cut_9 (tgt := 17) (by decide) (fun c => ?_) (fun c => ?_)
    · replace h := h.1 c
      refine X_iload_n C dX4_cut_17 rfl (j := 1) rfl ?_
      exact X_iret C Z rfl dX4_cut_18 h
    · replace h := h.2 c
      refine X_iload_n C dX4_cut_12 rfl (j := 1) rfl ?_
      refine X_i2s C dX4_cut_13 ?_
      refine X_goto C dX4_cut_14 (tgt := 18) (by decide) ?_
      exact X_iret C Z rfl dX4_cut_18 h
  · replace h := h.2 c
    refine X_iload_n C dX4_cut_4 rfl (j := 1) rfl ?_
    refine X_i2b C dX4_cut_5 ?_
    exact X_iret C Z rfl dX4_cut_6 h
set_option maxHeartbeats 4000000 in
set_option maxRecDepth 100000 in
theorem eX4_move {d : Nat} {Q : Option Value → xSt → Prop} (a1 : Int32) (a2 : Int32) (a3 : Int32) (a4 : Int32) (a5 : Int32) (st : xSt) (h : ((a2 < 0 → Q (some (.int 0)) st) ∧ (¬ a2 < 0 → ((a4 < 0 → Q (some (.int 0)) st) ∧ (¬ a4 < 0 → ((a5 < 0 → Q (some (.int 0)) st) ∧ (¬ a5 < 0 → Ct d M_X4_sizeOf [.ref 1, .int a1] st (Qi fun v2 s1 => (((v2 - a2) < a5 → Q (some (.int 0)) s1) ∧ (¬ (v2 - a2) < a5 → Ct d M_X4_sizeOf [.ref 1, .int a3] s1 (Qi fun v4 s3 => ((a5 ≤ (v4 - a4) → Ct d M_X4_lost [.ref 1, .int a1] s3 (Qi fun v6 s5 => ((¬ v6 = 0 → Q (some (.int 1)) s5) ∧ (v6 = 0 → Ct d M_X4_lost [.ref 1, .int a3] s5 (Qi fun v8 s7 => ((¬ v8 = 0 → Q (some (.int 1)) s7) ∧ (v8 = 0 → vp_in a1 4 ∧ vp_in a3 4 ∧ (¬ (a2 : Int32) < 0 ∧ ¬ (a4 : Int32) < 0 ∧ ¬ (a5 : Int32) < 0 ∧ (a2 : Int32).toNatClampNeg + (a5 : Int32).toNatClampNeg ≤ 60 ∧ (a4 : Int32).toNatClampNeg + (a5 : Int32).toNatClampNeg ≤ 60) ∧ Q (some (.int 1)) (xcp s7 (48 + (a1 : Int32).toNatClampNeg) (48 + (a3 : Int32).toNatClampNeg) (a2 : Int32).toNatClampNeg (a4 : Int32).toNatClampNeg (a5 : Int32).toNatClampNeg)))))))) ∧ (¬ a5 ≤ (v4 - a4) → Q (some (.int 0)) s3))))))))))))) : Ct (d + 1) M_X4_move [.ref 1, .int a1, .int a2, .int a3, .int a4, .int a5] st Q := by
  refine Ct_of (by decide +kernel) (Nat.le_of_ble_eq_true rfl) (fun κ C Z => ?_)
  show X κ 0 [(0, .ref 1), (1, .int a1), (2, .int a2), (3, .int a3), (4, .int a4), (5, .int a5)] [] st
  refine X_iload_n C dX4_move_0 rfl (j := 2) rfl ?_
  refine X_if_lt C dX4_move_1 (tgt := 39) (by decide) (fun c => ?_) (fun c => ?_)
  · replace h := h.1 c
    refine X_iconst C (v := 0) (by decide) dX4_move_39 ?_
    exact X_zret C Z rfl (by decide) dX4_move_40 h
  · replace h := h.2 c
    refine X_iload C dX4_move_4 (j := 4) rfl ?_
    refine X_if_lt C dX4_move_6 (tgt := 39) (by decide) (fun c => ?_) (fun c => ?_)
    · replace h := h.1 c
      refine X_iconst C (v := 0) (by decide) dX4_move_39 ?_
      exact X_zret C Z rfl (by decide) dX4_move_40 h
    · replace h := h.2 c
      refine X_iload C dX4_move_9 (j := 5) rfl ?_
      refine X_if_lt C dX4_move_11 (tgt := 39) (by decide) (fun c => ?_) (fun c => ?_)
      · replace h := h.1 c
        refine X_iconst C (v := 0) (by decide) dX4_move_39 ?_
        exact X_zret C Z rfl (by decide) dX4_move_40 h
      · replace h := h.2 c
        refine X_iload C dX4_move_14 (j := 5) rfl ?_
        refine X_aload_n C dX4_move_16 rfl (j := 0) rfl ?_
        refine X_iload_n C dX4_move_17 rfl (j := 1) rfl ?_
        refine X_callV C dX4_move_18 pw_RX4_55 (b := 1) (as := [.int a1]) (S := [.int a5]) sh_1 rfl rfl rfl (Nat.le_of_ble_eq_true rfl) (Ct_mono h ?_)
        rintro _ s1 ⟨v2, rfl, h⟩
        show X κ 21 [(0, .ref 1), (1, .int a1), (2, .int a2), (3, .int a3), (4, .int a4), (5, .int a5)] [.int v2, .int a5] s1
        refine X_iload_n C dX4_move_21 rfl (j := 2) rfl ?_
        refine X_isub C dX4_move_22 ?_
        refine X_icmp_gt C dX4_move_23 (tgt := 39) (by decide) (fun c => ?_) (fun c => ?_)
        · replace h := h.1 c
          refine X_iconst C (v := 0) (by decide) dX4_move_39 ?_
          exact X_zret C Z rfl (by decide) dX4_move_40 h
        · replace h := h.2 c
          refine X_iload C dX4_move_26 (j := 5) rfl ?_
          refine X_aload_n C dX4_move_28 rfl (j := 0) rfl ?_
          refine X_iload_n C dX4_move_29 rfl (j := 3) rfl ?_
          refine X_callV C dX4_move_30 pw_RX4_55 (b := 1) (as := [.int a3]) (S := [.int a5]) sh_1 rfl rfl rfl (Nat.le_of_ble_eq_true rfl) (Ct_mono h ?_)
          rintro _ s3 ⟨v4, rfl, h⟩
          show X κ 33 [(0, .ref 1), (1, .int a1), (2, .int a2), (3, .int a3), (4, .int a4), (5, .int a5)] [.int v4, .int a5] s3
          refine X_iload C dX4_move_33 (j := 4) rfl ?_
          refine X_isub C dX4_move_35 ?_
          refine X_icmp_le C dX4_move_36 (tgt := 41) (by decide) (fun c => ?_) (fun c => ?_)
          · replace h := h.1 c
            refine X_aload_n C dX4_move_41 rfl (j := 0) rfl ?_
            refine X_iload_n C dX4_move_42 rfl (j := 1) rfl ?_
            refine X_callV C dX4_move_43 pw_RX4_37 (b := 1) (as := [.int a1]) (S := []) sh_1 rfl rfl rfl (Nat.le_of_ble_eq_true rfl) (Ct_mono h ?_)
            rintro _ s5 ⟨v6, rfl, h⟩
            show X κ 46 [(0, .ref 1), (1, .int a1), (2, .int a2), (3, .int a3), (4, .int a4), (5, .int a5)] [.int v6] s5
            refine X_if_ne C dX4_move_46 (tgt := 77) (by decide) (fun c => ?_) (fun c => ?_)
            · replace h := h.1 c
              refine X_iconst C (v := 1) (by decide) dX4_move_77 ?_
              exact X_zret C Z rfl (by decide) dX4_move_78 h
            · replace h := h.2 c
              refine X_aload_n C dX4_move_49 rfl (j := 0) rfl ?_
              refine X_iload_n C dX4_move_50 rfl (j := 3) rfl ?_
              refine X_callV C dX4_move_51 pw_RX4_37 (b := 1) (as := [.int a3]) (S := []) sh_1 rfl rfl rfl (Nat.le_of_ble_eq_true rfl) (Ct_mono h ?_)
              rintro _ s7 ⟨v8, rfl, h⟩
              show X κ 54 [(0, .ref 1), (1, .int a1), (2, .int a2), (3, .int a3), (4, .int a4), (5, .int a5)] [.int v8] s7
              refine X_if_ne C dX4_move_54 (tgt := 77) (by decide) (fun c => ?_) (fun c => ?_)
              · replace h := h.1 c
                refine X_iconst C (v := 1) (by decide) dX4_move_77 ?_
                exact X_zret C Z rfl (by decide) dX4_move_78 h
              · replace h := h.2 c
                refine X_aload_n C dX4_move_57 rfl (j := 0) rfl ?_
                refine X_getR C sh_1 rfl fw_RX4_13 dX4_move_58 ?_
                refine X_iload_n C dX4_move_61 rfl (j := 1) rfl ?_
                obtain ⟨g9, h⟩ := h
                refine X_aald C sh_8 g9 dX4_move_62 ?_
                refine X_iload_n C dX4_move_63 rfl (j := 2) rfl ?_
                refine X_aload_n C dX4_move_64 rfl (j := 0) rfl ?_
                refine X_getR C sh_1 rfl fw_RX4_13 dX4_move_65 ?_
                refine X_iload_n C dX4_move_68 rfl (j := 3) rfl ?_
                obtain ⟨g10, h⟩ := h
                refine X_aald C sh_8 g10 dX4_move_69 ?_
                refine X_iload C dX4_move_70 (j := 4) rfl ?_
                refine X_iload C dX4_move_72 (j := 5) rfl ?_
                obtain ⟨⟨z1, z2, z3, z4, z5⟩, h⟩ := h
                refine X_copy C dX4_move_74 cc_RX4_59 (shr_48 (vp_lt g9)) (shr_48 (vp_lt g10)) z1 z2 z3 z4 z5 (Nat.le_of_ble_eq_true rfl) ?_
                refine X_iconst C (v := 1) (by decide) dX4_move_77 ?_
                exact X_zret C Z rfl (by decide) dX4_move_78 h
          · replace h := h.2 c
            refine X_iconst C (v := 0) (by decide) dX4_move_39 ?_
            exact X_zret C Z rfl (by decide) dX4_move_40 h
set_option maxHeartbeats 4000000 in
set_option maxRecDepth 100000 in
theorem bX4_unlikeWords_2 {κ : xK} {d : Nat} {Q : Option Value → xSt → Prop} (C : Cx κ M_X4_unlikeWords (d + 1)) (Z : xR κ Q) (x1 : Int32) (x2 : Int32) (x3 : Int32) (st : xSt) (h : ((x2 ≤ x3 → Q (some (.int 1)) st) ∧ (¬ x2 ≤ x3 → Ct d M_X4_wordAt [.ref 1, .int x1, .int x3] st (Qi fun v2 s1 => ((¬ v2 = ((-1)) → X κ 26 [(0, .ref 1), (1, .int x1), (2, .int x2), (3, .int x3), (4, .int v2), (5, .int 0)] [] s1) ∧ (v2 = ((-1)) → Q (some (.int 0)) s1)))))) : X κ 2 [(0, .ref 1), (1, .int x1), (2, .int x2), (3, .int x3)] [] st := by
  refine X_iload_n C dX4_unlikeWords_2 rfl (j := 3) rfl ?_
  refine X_iload_n C dX4_unlikeWords_3 rfl (j := 2) rfl ?_
  refine X_icmp_ge C dX4_unlikeWords_4 (tgt := 58) (by decide) (fun c => ?_) (fun c => ?_)
  · replace h := h.1 c
    refine X_iconst C (v := 1) (by decide) dX4_unlikeWords_58 ?_
    exact X_zret C Z rfl (by decide) dX4_unlikeWords_59 h
  · replace h := h.2 c
    refine X_aload_n C dX4_unlikeWords_7 rfl (j := 0) rfl ?_
    refine X_iload_n C dX4_unlikeWords_8 rfl (j := 1) rfl ?_
    refine X_iload_n C dX4_unlikeWords_9 rfl (j := 3) rfl ?_
    refine X_callV C dX4_unlikeWords_10 pw_RX4_65 (b := 1) (as := [.int x1, .int x3]) (S := []) sh_1 rfl rfl rfl (Nat.le_of_ble_eq_true rfl) (Ct_mono h ?_)
    rintro _ s1 ⟨v2, rfl, h⟩
    show X κ 13 [(0, .ref 1), (1, .int x1), (2, .int x2), (3, .int x3)] [.int v2] s1
    refine X_istore C dX4_unlikeWords_13 (by decide) (L' := [(4, .int v2), (0, .ref 1), (1, .int x1), (2, .int x2), (3, .int x3)]) rfl ?_
    refine X_iload C dX4_unlikeWords_15 (j := 0) rfl ?_
    refine X_iconst C (v := (-1)) (by decide) dX4_unlikeWords_17 ?_
    refine X_icmp_ne C dX4_unlikeWords_18 (tgt := 23) (by decide) (fun c => ?_) (fun c => ?_)
    · replace h := h.1 c
      refine X_iconst C (v := 0) (by decide) dX4_unlikeWords_23 ?_
      refine X_istore C dX4_unlikeWords_24 (by decide) (L' := [(5, .int 0), (4, .int v2), (0, .ref 1), (1, .int x1), (2, .int x2), (3, .int x3)]) rfl ?_
      refine X_loc [2, 3, 4, 5, 1, 0] rfl ?_
      exact h
    · replace h := h.2 c
      refine X_iconst C (v := 0) (by decide) dX4_unlikeWords_21 ?_
      exact X_zret C Z rfl (by decide) dX4_unlikeWords_22 h
set_option maxHeartbeats 4000000 in
set_option maxRecDepth 100000 in
theorem bX4_unlikeWords_26 {κ : xK} {d : Nat} {Q : Option Value → xSt → Prop} (C : Cx κ M_X4_unlikeWords (d + 1)) (Z : xR κ Q) (x1 : Int32) (x2 : Int32) (x3 : Int32) (x4 : Int32) (x5 : Int32) (st : xSt) (h : ((x3 ≤ x5 → X κ 2 [(0, .ref 1), (1, .int x1), (2, .int x2), (3, .int (x3 + 1))] [] st) ∧ (¬ x3 ≤ x5 → Ct d M_X4_wordAt [.ref 1, .int x1, .int x5] st (Qi fun v2 s1 => ((¬ v2 = x4 → X κ 26 [(0, .ref 1), (1, .int x1), (2, .int x2), (3, .int x3), (4, .int x4), (5, .int (x5 + 1))] [] s1) ∧ (v2 = x4 → Q (some (.int 0)) s1)))))) : X κ 26 [(0, .ref 1), (1, .int x1), (2, .int x2), (3, .int x3), (4, .int x4), (5, .int x5)] [] st := by
  refine X_iload C dX4_unlikeWords_26 (j := 5) rfl ?_
  refine X_iload_n C dX4_unlikeWords_28 rfl (j := 3) rfl ?_
  refine X_icmp_ge C dX4_unlikeWords_29 (tgt := 52) (by decide) (fun c => ?_) (fun c => ?_)
  · replace h := h.1 c
    refine X_iinc C dX4_unlikeWords_52 (j := 3) rfl (v := x3 + 1) rfl (by decide) (L' := [(3, .int (x3 + 1)), (0, .ref 1), (1, .int x1), (2, .int x2), (4, .int x4), (5, .int x5)]) rfl ?_
    refine X_goto C dX4_unlikeWords_55 (tgt := 2) (by decide) ?_
    refine X_loc [1, 2, 3, 0] rfl ?_
    exact h
  · replace h := h.2 c
    refine X_aload_n C dX4_unlikeWords_32 rfl (j := 0) rfl ?_
    refine X_iload_n C dX4_unlikeWords_33 rfl (j := 1) rfl ?_
    refine X_iload C dX4_unlikeWords_34 (j := 5) rfl ?_
    refine X_callV C dX4_unlikeWords_36 pw_RX4_65 (b := 1) (as := [.int x1, .int x5]) (S := []) sh_1 rfl rfl rfl (Nat.le_of_ble_eq_true rfl) (Ct_mono h ?_)
    rintro _ s1 ⟨v2, rfl, h⟩
    show X κ 39 [(0, .ref 1), (1, .int x1), (2, .int x2), (3, .int x3), (4, .int x4), (5, .int x5)] [.int v2] s1
    refine X_iload C dX4_unlikeWords_39 (j := 4) rfl ?_
    refine X_icmp_ne C dX4_unlikeWords_41 (tgt := 46) (by decide) (fun c => ?_) (fun c => ?_)
    · replace h := h.1 c
      refine X_iinc C dX4_unlikeWords_46 (j := 5) rfl (v := x5 + 1) rfl (by decide) (L' := [(5, .int (x5 + 1)), (0, .ref 1), (1, .int x1), (2, .int x2), (3, .int x3), (4, .int x4)]) rfl ?_
      refine X_goto C dX4_unlikeWords_49 (tgt := 26) (by decide) ?_
      refine X_loc [1, 2, 3, 4, 5, 0] rfl ?_
      exact h
    · replace h := h.2 c
      refine X_iconst C (v := 0) (by decide) dX4_unlikeWords_44 ?_
      exact X_zret C Z rfl (by decide) dX4_unlikeWords_45 h
set_option maxHeartbeats 4000000 in
set_option maxRecDepth 100000 in
theorem eX4_unlikeWords {d : Nat} {Q : Option Value → xSt → Prop} (a1 : Int32) (a2 : Int32) (st : xSt) (h : ∀ κ : xK, Cx κ M_X4_unlikeWords (d + 1) → xR κ Q → X κ 2 [(0, .ref 1), (1, .int a1), (2, .int a2), (3, .int 0)] [] st) : Ct (d + 1) M_X4_unlikeWords [.ref 1, .int a1, .int a2] st Q := by
  refine Ct_of (by decide +kernel) (Nat.le_of_ble_eq_true rfl) (fun κ C Z => ?_)
  replace h := h κ C Z
  show X κ 0 [(0, .ref 1), (1, .int a1), (2, .int a2)] [] st
  refine X_iconst C (v := 0) (by decide) dX4_unlikeWords_0 ?_
  refine X_istore_n C dX4_unlikeWords_1 rfl (by decide) (L' := [(3, .int 0), (0, .ref 1), (1, .int a1), (2, .int a2)]) rfl ?_
  refine X_loc [1, 2, 3, 0] rfl ?_
  exact h
