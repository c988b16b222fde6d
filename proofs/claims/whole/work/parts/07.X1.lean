set_option maxHeartbeats 4000000 in
set_option maxRecDepth 100000 in
theorem eX1_size {d : Nat} {Q : Option Value → xSt → Prop} (st : xSt) (h : Q (some (.int (st.1 4 3))) st) : Ct (d) M_X1_size [.ref 4] st Q := by
  refine Ct_of (by decide +kernel) (Nat.le_of_ble_eq_true rfl) (fun κ C Z => ?_)
  show X κ 0 [(0, .ref 4)] [] st
  refine X_aload_n C dX1_size_0 rfl (j := 0) rfl ?_
  refine X_getI C sh_4 rfl fw_RX1_23 dX1_size_1 ?_
  exact X_iret C Z rfl dX1_size_4 h
set_option maxHeartbeats 4000000 in
set_option maxRecDepth 100000 in
theorem eX1_has {d : Nat} {Q : Option Value → xSt → Prop} (a1 : Int32) (st : xSt) (h : ((a1 < 0 → Q (some (.int 0)) st) ∧ (¬ a1 < 0 → (((st.1 4 3) ≤ a1 → Q (some (.int 0)) st) ∧ (¬ (st.1 4 3) ≤ a1 → ((8 ≤ a1 → Q (some (.int 0)) st) ∧ (¬ 8 ≤ a1 → Q (some (.int 1)) st))))))) : Ct (d) M_X1_has [.ref 4, .int a1] st Q := by
  refine Ct_of (by decide +kernel) (Nat.le_of_ble_eq_true rfl) (fun κ C Z => ?_)
  show X κ 0 [(0, .ref 4), (1, .int a1)] [] st
  refine X_iload_n C dX1_has_0 rfl (j := 1) rfl ?_
  refine X_if_lt C dX1_has_1 (tgt := 22) (by decide) (fun c => ?_) (fun c => ?_)
  · replace h := h.1 c
    refine X_iconst C (v := 0) (by decide) dX1_has_22 ?_
    exact X_zret C Z rfl (by decide) dX1_has_23 h
  · replace h := h.2 c
    refine X_iload_n C dX1_has_4 rfl (j := 1) rfl ?_
    refine X_aload_n C dX1_has_5 rfl (j := 0) rfl ?_
    refine X_getI C sh_4 rfl fw_RX1_23 dX1_has_6 ?_
    refine X_icmp_ge C dX1_has_9 (tgt := 22) (by decide) (fun c => ?_) (fun c => ?_)
    · replace h := h.1 c
      refine X_iconst C (v := 0) (by decide) dX1_has_22 ?_
      exact X_zret C Z rfl (by decide) dX1_has_23 h
    · replace h := h.2 c
      refine X_iload_n C dX1_has_12 rfl (j := 1) rfl ?_
      refine X_bipush C (v := 8) (by decide) dX1_has_13 ?_
      refine X_icmp_ge C dX1_has_15 (tgt := 22) (by decide) (fun c => ?_) (fun c => ?_)
      · replace h := h.1 c
        refine X_iconst C (v := 0) (by decide) dX1_has_22 ?_
        exact X_zret C Z rfl (by decide) dX1_has_23 h
      · replace h := h.2 c
        refine X_iconst C (v := 1) (by decide) dX1_has_18 ?_
        refine X_goto C dX1_has_19 (tgt := 23) (by decide) ?_
        exact X_zret C Z rfl (by decide) dX1_has_23 h
set_option maxHeartbeats 4000000 in
set_option maxRecDepth 100000 in
theorem eX1_areTwo {d : Nat} {Q : Option Value → xSt → Prop} (a1 : Int32) (a2 : Int32) (st : xSt) (h : Ct d M_X1_has [.ref 4, .int a1] st (Qi fun v2 s1 => ((v2 = 0 → Q (some (.int 0)) s1) ∧ (¬ v2 = 0 → Ct d M_X1_has [.ref 4, .int a2] s1 (Qi fun v4 s3 => ((v4 = 0 → Q (some (.int 0)) s3) ∧ (¬ v4 = 0 → ((a1 = a2 → Q (some (.int 0)) s3) ∧ (¬ a1 = a2 → Q (some (.int 1)) s3))))))))) : Ct (d + 1) M_X1_areTwo [.ref 4, .int a1, .int a2] st Q := by
  refine Ct_of (by decide +kernel) (Nat.le_of_ble_eq_true rfl) (fun κ C Z => ?_)
  show X κ 0 [(0, .ref 4), (1, .int a1), (2, .int a2)] [] st
  refine X_aload_n C dX1_areTwo_0 rfl (j := 0) rfl ?_
  refine X_iload_n C dX1_areTwo_1 rfl (j := 1) rfl ?_
  refine X_callV C dX1_areTwo_2 pw_RX1_27 (b := 4) (as := [.int a1]) (S := []) sh_4 rfl rfl rfl (Nat.le_of_ble_eq_true rfl) (Ct_mono h ?_)
  rintro _ s1 ⟨v2, rfl, h⟩
  show X κ 5 [(0, .ref 4), (1, .int a1), (2, .int a2)] [.int v2] s1
  refine X_if_eq C dX1_areTwo_5 (tgt := 25) (by decide) (fun c => ?_) (fun c => ?_)
  · replace h := h.1 c
    refine X_iconst C (v := 0) (by decide) dX1_areTwo_25 ?_
    exact X_zret C Z rfl (by decide) dX1_areTwo_26 h
  · replace h := h.2 c
    refine X_aload_n C dX1_areTwo_8 rfl (j := 0) rfl ?_
    refine X_iload_n C dX1_areTwo_9 rfl (j := 2) rfl ?_
    refine X_callV C dX1_areTwo_10 pw_RX1_27 (b := 4) (as := [.int a2]) (S := []) sh_4 rfl rfl rfl (Nat.le_of_ble_eq_true rfl) (Ct_mono h ?_)
    rintro _ s3 ⟨v4, rfl, h⟩
    show X κ 13 [(0, .ref 4), (1, .int a1), (2, .int a2)] [.int v4] s3
    refine X_if_eq C dX1_areTwo_13 (tgt := 25) (by decide) (fun c => ?_) (fun c => ?_)
    · replace h := h.1 c
      refine X_iconst C (v := 0) (by decide) dX1_areTwo_25 ?_
      exact X_zret C Z rfl (by decide) dX1_areTwo_26 h
    · replace h := h.2 c
      refine X_iload_n C dX1_areTwo_16 rfl (j := 1) rfl ?_
      refine X_iload_n C dX1_areTwo_17 rfl (j := 2) rfl ?_
      refine X_icmp_eq C dX1_areTwo_18 (tgt := 25) (by decide) (fun c => ?_) (fun c => ?_)
      · replace h := h.1 c
        refine X_iconst C (v := 0) (by decide) dX1_areTwo_25 ?_
        exact X_zret C Z rfl (by decide) dX1_areTwo_26 h
      · replace h := h.2 c
        refine X_iconst C (v := 1) (by decide) dX1_areTwo_21 ?_
        refine X_goto C dX1_areTwo_22 (tgt := 26) (by decide) ?_
        exact X_zret C Z rfl (by decide) dX1_areTwo_26 h
set_option maxHeartbeats 4000000 in
set_option maxRecDepth 100000 in
theorem eX1_welcome {d : Nat} {Q : Option Value → xSt → Prop} (a1 : Int32) (st : xSt) (h : (((st.1 4 3) < 8 → vp_in (st.1 4 3) 8 ∧ Q (some (.int (((xup (xup st 20 (st.1 4 3 : Int32).toNatClampNeg a1) 4 3 (((xup st 20 (st.1 4 3 : Int32).toNatClampNeg a1).1 4 3) + 1)).1 4 3) - 1))) (xup (xup st 20 (st.1 4 3 : Int32).toNatClampNeg a1) 4 3 (((xup st 20 (st.1 4 3 : Int32).toNatClampNeg a1).1 4 3) + 1))) ∧ (¬ (st.1 4 3) < 8 → Q (some (.int ((-4)))) st))) : Ct (d) M_X1_welcome [.ref 4, .int a1] st Q := by
  refine Ct_of (by decide +kernel) (Nat.le_of_ble_eq_true rfl) (fun κ C Z => ?_)
  show X κ 0 [(0, .ref 4), (1, .int a1)] [] st
  refine X_aload_n C dX1_welcome_0 rfl (j := 0) rfl ?_
  refine X_getI C sh_4 rfl fw_RX1_23 dX1_welcome_1 ?_
  refine X_bipush C (v := 8) (by decide) dX1_welcome_4 ?_
  refine X_icmp_lt C dX1_welcome_6 (tgt := 12) (by decide) (fun c => ?_) (fun c => ?_)
  · replace h := h.1 c
    refine X_aload_n C dX1_welcome_12 rfl (j := 0) rfl ?_
    refine X_getR C sh_4 rfl fw_RX1_16 dX1_welcome_13 ?_
    refine X_aload_n C dX1_welcome_16 rfl (j := 0) rfl ?_
    refine X_getI C sh_4 rfl fw_RX1_23 dX1_welcome_17 ?_
    refine X_iload_n C dX1_welcome_20 rfl (j := 1) rfl ?_
    obtain ⟨g1, h⟩ := h
    refine X_iast C sh_20 g1 dX1_welcome_21 ?_
    refine X_aload_n C dX1_welcome_22 rfl (j := 0) rfl ?_
    refine X_dup C rfl dX1_welcome_23 ?_
    refine X_getI C sh_4 rfl fw_RX1_23 dX1_welcome_24 ?_
    refine X_iconst C (v := 1) (by decide) dX1_welcome_27 ?_
    refine X_iadd C dX1_welcome_28 ?_
    refine X_putI C sh_4 rfl fp_RX1_23 dX1_welcome_29 ?_
    refine X_aload_n C dX1_welcome_32 rfl (j := 0) rfl ?_
    refine X_getI C sh_4 rfl fw_RX1_23 dX1_welcome_33 ?_
    refine X_iconst C (v := 1) (by decide) dX1_welcome_36 ?_
    refine X_isub C dX1_welcome_37 ?_
    exact X_iret C Z rfl dX1_welcome_38 h
  · replace h := h.2 c
    refine X_bipush C (v := (-4)) (by decide) dX1_welcome_9 ?_
    exact X_iret C Z rfl dX1_welcome_11 h
set_option maxHeartbeats 4000000 in
set_option maxRecDepth 100000 in
theorem eX1_countOf {d : Nat} {Q : Option Value → xSt → Prop} (a1 : Int32) (st : xSt) (h : Ct d M_X1_has [.ref 4, .int a1] st (Qi fun v2 s1 => ((v2 = 0 → Q (some (.int ((-1)))) s1) ∧ (¬ v2 = 0 → vp_in a1 8 ∧ Q (some (.int (s1.1 20 (a1 : Int32).toNatClampNeg))) s1)))) : Ct (d + 1) M_X1_countOf [.ref 4, .int a1] st Q := by
  refine Ct_of (by decide +kernel) (Nat.le_of_ble_eq_true rfl) (fun κ C Z => ?_)
  show X κ 0 [(0, .ref 4), (1, .int a1)] [] st
  refine X_aload_n C dX1_countOf_0 rfl (j := 0) rfl ?_
  refine X_iload_n C dX1_countOf_1 rfl (j := 1) rfl ?_
  refine X_callV C dX1_countOf_2 pw_RX1_27 (b := 4) (as := [.int a1]) (S := []) sh_4 rfl rfl rfl (Nat.le_of_ble_eq_true rfl) (Ct_mono h ?_)
  rintro _ s1 ⟨v2, rfl, h⟩
  show X κ 5 [(0, .ref 4), (1, .int a1)] [.int v2] s1
  refine X_if_eq C dX1_countOf_5 (tgt := 17) (by decide) (fun c => ?_) (fun c => ?_)
  · replace h := h.1 c
    refine X_iconst C (v := (-1)) (by decide) dX1_countOf_17 ?_
    exact X_iret C Z rfl dX1_countOf_18 h
  · replace h := h.2 c
    refine X_aload_n C dX1_countOf_8 rfl (j := 0) rfl ?_
    refine X_getR C sh_4 rfl fw_RX1_16 dX1_countOf_9 ?_
    refine X_iload_n C dX1_countOf_12 rfl (j := 1) rfl ?_
    obtain ⟨g3, h⟩ := h
    refine X_iald C sh_20 g3 dX1_countOf_13 ?_
    refine X_goto C dX1_countOf_14 (tgt := 18) (by decide) ?_
    exact X_iret C Z rfl dX1_countOf_18 h
set_option maxHeartbeats 4000000 in
set_option maxRecDepth 100000 in
theorem eX1_left {d : Nat} {Q : Option Value → xSt → Prop} (a1 : Int32) (a2 : Int32) (st : xSt) (h : Ct d M_X1_has [.ref 4, .int a1] st (Qi fun v2 s1 => ((v2 = 0 → Q (some (.int 0)) s1) ∧ (¬ v2 = 0 → Ct d M_X1_has [.ref 4, .int a2] s1 (Qi fun v4 s3 => ((v4 = 0 → Q (some (.int 0)) s3) ∧ (¬ v4 = 0 → vp_in a1 8 ∧ vp_in a2 8 ∧ Q (some (.int (s3.1 (66 + (a1 : Int32).toNatClampNeg) (a2 : Int32).toNatClampNeg))) s3))))))) : Ct (d + 1) M_X1_left [.ref 4, .int a1, .int a2] st Q := by
  refine Ct_of (by decide +kernel) (Nat.le_of_ble_eq_true rfl) (fun κ C Z => ?_)
  show X κ 0 [(0, .ref 4), (1, .int a1), (2, .int a2)] [] st
  refine X_aload_n C dX1_left_0 rfl (j := 0) rfl ?_
  refine X_iload_n C dX1_left_1 rfl (j := 1) rfl ?_
  refine X_callV C dX1_left_2 pw_RX1_27 (b := 4) (as := [.int a1]) (S := []) sh_4 rfl rfl rfl (Nat.le_of_ble_eq_true rfl) (Ct_mono h ?_)
  rintro _ s1 ⟨v2, rfl, h⟩
  show X κ 5 [(0, .ref 4), (1, .int a1), (2, .int a2)] [.int v2] s1
  refine X_if_eq C dX1_left_5 (tgt := 27) (by decide) (fun c => ?_) (fun c => ?_)
  · replace h := h.1 c
    refine X_iconst C (v := 0) (by decide) dX1_left_27 ?_
    exact X_iret C Z rfl dX1_left_28 h
  · replace h := h.2 c
    refine X_aload_n C dX1_left_8 rfl (j := 0) rfl ?_
    refine X_iload_n C dX1_left_9 rfl (j := 2) rfl ?_
    refine X_callV C dX1_left_10 pw_RX1_27 (b := 4) (as := [.int a2]) (S := []) sh_4 rfl rfl rfl (Nat.le_of_ble_eq_true rfl) (Ct_mono h ?_)
    rintro _ s3 ⟨v4, rfl, h⟩
    show X κ 13 [(0, .ref 4), (1, .int a1), (2, .int a2)] [.int v4] s3
    refine X_if_eq C dX1_left_13 (tgt := 27) (by decide) (fun c => ?_) (fun c => ?_)
    · replace h := h.1 c
      refine X_iconst C (v := 0) (by decide) dX1_left_27 ?_
      exact X_iret C Z rfl dX1_left_28 h
    · replace h := h.2 c
      refine X_aload_n C dX1_left_16 rfl (j := 0) rfl ?_
      refine X_getR C sh_4 rfl fw_RX1_13 dX1_left_17 ?_
      refine X_iload_n C dX1_left_20 rfl (j := 1) rfl ?_
      obtain ⟨g5, h⟩ := h
      refine X_aald C sh_19 g5 dX1_left_21 ?_
      refine X_iload_n C dX1_left_22 rfl (j := 2) rfl ?_
      obtain ⟨g6, h⟩ := h
      refine X_iald C (shr_66 (vp_lt g5)) g6 dX1_left_23 ?_
      refine X_goto C dX1_left_24 (tgt := 28) (by decide) ?_
      exact X_iret C Z rfl dX1_left_28 h
set_option maxHeartbeats 4000000 in
set_option maxRecDepth 100000 in
theorem eX1_give {d : Nat} {Q : Option Value → xSt → Prop} (a1 : Int32) (a2 : Int32) (a3 : Int32) (st : xSt) (h : Ct d M_X1_areTwo [.ref 4, .int a1, .int a2] st (Qi fun v2 s1 => ((¬ v2 = 0 → vp_in a2 8 ∧ vp_in a1 8 ∧ vp_in a1 8 ∧ vp_in a2 8 ∧ (((((s1.1 (66 + (a2 : Int32).toNatClampNeg) (a1 : Int32).toNatClampNeg) - (s1.1 (66 + (a1 : Int32).toNatClampNeg) (a2 : Int32).toNatClampNeg)) + a3) ≤ 400 → vp_in a2 8 ∧ vp_in a1 8 ∧ vp_in a1 8 ∧ vp_in a2 8 ∧ vp_in a2 8 ∧ vp_in a1 8 ∧ Q (some (.int ((xup (xup s1 (66 + (a2 : Int32).toNatClampNeg) (a1 : Int32).toNatClampNeg (imax (((s1.1 (66 + (a2 : Int32).toNatClampNeg) (a1 : Int32).toNatClampNeg) - (s1.1 (66 + (a1 : Int32).toNatClampNeg) (a2 : Int32).toNatClampNeg)) + a3) 0)) (66 + (a1 : Int32).toNatClampNeg) (a2 : Int32).toNatClampNeg (imax (-(((s1.1 (66 + (a2 : Int32).toNatClampNeg) (a1 : Int32).toNatClampNeg) - (s1.1 (66 + (a1 : Int32).toNatClampNeg) (a2 : Int32).toNatClampNeg)) + a3)) 0)).1 (66 + (a2 : Int32).toNatClampNeg) (a1 : Int32).toNatClampNeg))) (xup (xup s1 (66 + (a2 : Int32).toNatClampNeg) (a1 : Int32).toNatClampNeg (imax (((s1.1 (66 + (a2 : Int32).toNatClampNeg) (a1 : Int32).toNatClampNeg) - (s1.1 (66 + (a1 : Int32).toNatClampNeg) (a2 : Int32).toNatClampNeg)) + a3) 0)) (66 + (a1 : Int32).toNatClampNeg) (a2 : Int32).toNatClampNeg (imax (-(((s1.1 (66 + (a2 : Int32).toNatClampNeg) (a1 : Int32).toNatClampNeg) - (s1.1 (66 + (a1 : Int32).toNatClampNeg) (a2 : Int32).toNatClampNeg)) + a3)) 0))) ∧ (¬ (((s1.1 (66 + (a2 : Int32).toNatClampNeg) (a1 : Int32).toNatClampNeg) - (s1.1 (66 + (a1 : Int32).toNatClampNeg) (a2 : Int32).toNatClampNeg)) + a3) ≤ 400 → Q (some (.int ((-3)))) s1))) ∧ (v2 = 0 → Q (some (.int ((-2)))) s1)))) : Ct (d + 1) M_X1_give [.ref 4, .int a1, .int a2, .int a3] st Q := by
  refine Ct_of (by decide +kernel) (Nat.le_of_ble_eq_true rfl) (fun κ C Z => ?_)
  show X κ 0 [(0, .ref 4), (1, .int a1), (2, .int a2), (3, .int a3)] [] st
  refine X_aload_n C dX1_give_0 rfl (j := 0) rfl ?_
  refine X_iload_n C dX1_give_1 rfl (j := 1) rfl ?_
  refine X_iload_n C dX1_give_2 rfl (j := 2) rfl ?_
  refine X_callV C dX1_give_3 pw_RX1_31 (b := 4) (as := [.int a1, .int a2]) (S := []) sh_4 rfl rfl rfl (Nat.le_of_ble_eq_true rfl) (Ct_mono h ?_)
  rintro _ s1 ⟨v2, rfl, h⟩
  show X κ 6 [(0, .ref 4), (1, .int a1), (2, .int a2), (3, .int a3)] [.int v2] s1
  refine X_if_ne C dX1_give_6 (tgt := 12) (by decide) (fun c => ?_) (fun c => ?_)
  · replace h := h.1 c
    refine X_aload_n C dX1_give_12 rfl (j := 0) rfl ?_
    refine X_getR C sh_4 rfl fw_RX1_13 dX1_give_13 ?_
    refine X_iload_n C dX1_give_16 rfl (j := 2) rfl ?_
    obtain ⟨g3, h⟩ := h
    refine X_aald C sh_19 g3 dX1_give_17 ?_
    refine X_iload_n C dX1_give_18 rfl (j := 1) rfl ?_
    obtain ⟨g4, h⟩ := h
    refine X_iald C (shr_66 (vp_lt g3)) g4 dX1_give_19 ?_
    refine X_aload_n C dX1_give_20 rfl (j := 0) rfl ?_
    refine X_getR C sh_4 rfl fw_RX1_13 dX1_give_21 ?_
    refine X_iload_n C dX1_give_24 rfl (j := 1) rfl ?_
    obtain ⟨g5, h⟩ := h
    refine X_aald C sh_19 g5 dX1_give_25 ?_
    refine X_iload_n C dX1_give_26 rfl (j := 2) rfl ?_
    obtain ⟨g6, h⟩ := h
    refine X_iald C (shr_66 (vp_lt g5)) g6 dX1_give_27 ?_
    refine X_isub C dX1_give_28 ?_
    refine X_iload_n C dX1_give_29 rfl (j := 3) rfl ?_
    refine X_iadd C dX1_give_30 ?_
    refine X_istore C dX1_give_31 (by decide) (L' := [(4, .int (((s1.1 (66 + (a2 : Int32).toNatClampNeg) (a1 : Int32).toNatClampNeg) - (s1.1 (66 + (a1 : Int32).toNatClampNeg) (a2 : Int32).toNatClampNeg)) + a3)), (0, .ref 4), (1, .int a1), (2, .int a2), (3, .int a3)]) rfl ?_
    refine X_iload C dX1_give_33 (j := 0) rfl ?_
    refine X_sipush C (v := 400) (by decide) dX1_give_35 ?_
    refine X_icmp_le C dX1_give_38 (tgt := 44) (by decide) (fun c => ?_) (fun c => ?_)
    · replace h := h.1 c
      refine X_aload_n C dX1_give_44 rfl (j := 1) rfl ?_
      refine X_getR C sh_4 rfl fw_RX1_13 dX1_give_45 ?_
      refine X_iload_n C dX1_give_48 rfl (j := 3) rfl ?_
      obtain ⟨g7, h⟩ := h
      refine X_aald C sh_19 g7 dX1_give_49 ?_
      refine X_iload_n C dX1_give_50 rfl (j := 2) rfl ?_
      refine X_iload C dX1_give_51 (j := 0) rfl ?_
      refine X_iconst C (v := 0) (by decide) dX1_give_53 ?_
      refine X_mmax C dX1_give_54 mm_RX1_35 (Nat.le_of_ble_eq_true rfl) ?_
      obtain ⟨g10, h⟩ := h
      refine X_iast C (shr_66 (vp_lt g7)) g10 dX1_give_57 ?_
      refine X_aload_n C dX1_give_58 rfl (j := 1) rfl ?_
      refine X_getR C sh_4 rfl fw_RX1_13 dX1_give_59 ?_
      refine X_iload_n C dX1_give_62 rfl (j := 2) rfl ?_
      obtain ⟨g11, h⟩ := h
      refine X_aald C sh_19 g11 dX1_give_63 ?_
      refine X_iload_n C dX1_give_64 rfl (j := 3) rfl ?_
      refine X_iload C dX1_give_65 (j := 0) rfl ?_
      refine X_ineg C dX1_give_67 ?_
      refine X_iconst C (v := 0) (by decide) dX1_give_68 ?_
      refine X_mmax C dX1_give_69 mm_RX1_35 (Nat.le_of_ble_eq_true rfl) ?_
      obtain ⟨g14, h⟩ := h
      refine X_iast C (shr_66 (vp_lt g11)) g14 dX1_give_72 ?_
      refine X_aload_n C dX1_give_73 rfl (j := 1) rfl ?_
      refine X_getR C sh_4 rfl fw_RX1_13 dX1_give_74 ?_
      refine X_iload_n C dX1_give_77 rfl (j := 3) rfl ?_
      obtain ⟨g15, h⟩ := h
      refine X_aald C sh_19 g15 dX1_give_78 ?_
      refine X_iload_n C dX1_give_79 rfl (j := 2) rfl ?_
      obtain ⟨g16, h⟩ := h
      refine X_iald C (shr_66 (vp_lt g15)) g16 dX1_give_80 ?_
      exact X_iret C Z rfl dX1_give_81 h
    · replace h := h.2 c
      refine X_bipush C (v := (-3)) (by decide) dX1_give_41 ?_
      exact X_iret C Z rfl dX1_give_43 h
  · replace h := h.2 c
    refine X_bipush C (v := (-2)) (by decide) dX1_give_9 ?_
    exact X_iret C Z rfl dX1_give_11 h
set_option maxHeartbeats 4000000 in
set_option maxRecDepth 100000 in
theorem bX1_balance_4 {κ : xK} {d : Nat} {Q : Option Value → xSt → Prop} (C : Cx κ M_X1_balance (d + 1)) (Z : xR κ Q) (x1 : Int32) (x2 : Int32) (x3 : Int32) (st : xSt) (h : (((st.1 4 3) ≤ x3 → Q (some (.int x2)) st) ∧ (¬ (st.1 4 3) ≤ x3 → Ct d M_X1_left [.ref 4, .int x3, .int x1] st (Qi fun v2 s1 => Ct d M_X1_left [.ref 4, .int x1, .int x3] s1 (Qi fun v4 s3 => X κ 4 [(0, .ref 4), (1, .int x1), (2, .int (x2 + (v2 - v4))), (3, .int (x3 + 1))] [] s3))))) : X κ 4 [(0, .ref 4), (1, .int x1), (2, .int x2), (3, .int x3)] [] st := by
  refine X_iload_n C dX1_balance_4 rfl (j := 3) rfl ?_
  refine X_aload_n C dX1_balance_5 rfl (j := 0) rfl ?_
  refine X_getI C sh_4 rfl fw_RX1_23 dX1_balance_6 ?_
  refine X_icmp_ge C dX1_balance_9 (tgt := 34) (by decide) (fun c => ?_) (fun c => ?_)
  · replace h := h.1 c
    refine X_iload_n C dX1_balance_34 rfl (j := 2) rfl ?_
    exact X_iret C Z rfl dX1_balance_35 h
  · replace h := h.2 c
    refine X_iload_n C dX1_balance_12 rfl (j := 2) rfl ?_
    refine X_aload_n C dX1_balance_13 rfl (j := 0) rfl ?_
    refine X_iload_n C dX1_balance_14 rfl (j := 3) rfl ?_
    refine X_iload_n C dX1_balance_15 rfl (j := 1) rfl ?_
    refine X_callV C dX1_balance_16 pw_RX1_41 (b := 4) (as := [.int x3, .int x1]) (S := [.int x2]) sh_4 rfl rfl rfl (Nat.le_of_ble_eq_true rfl) (Ct_mono h ?_)
    rintro _ s1 ⟨v2, rfl, h⟩
    show X κ 19 [(0, .ref 4), (1, .int x1), (2, .int x2), (3, .int x3)] [.int v2, .int x2] s1
    refine X_aload_n C dX1_balance_19 rfl (j := 0) rfl ?_
    refine X_iload_n C dX1_balance_20 rfl (j := 1) rfl ?_
    refine X_iload_n C dX1_balance_21 rfl (j := 3) rfl ?_
    refine X_callV C dX1_balance_22 pw_RX1_41 (b := 4) (as := [.int x1, .int x3]) (S := [.int v2, .int x2]) sh_4 rfl rfl rfl (Nat.le_of_ble_eq_true rfl) (Ct_mono h ?_)
    rintro _ s3 ⟨v4, rfl, h⟩
    show X κ 25 [(0, .ref 4), (1, .int x1), (2, .int x2), (3, .int x3)] [.int v4, .int v2, .int x2] s3
    refine X_isub C dX1_balance_25 ?_
    refine X_iadd C dX1_balance_26 ?_
    refine X_istore_n C dX1_balance_27 rfl (by decide) (L' := [(2, .int (x2 + (v2 - v4))), (0, .ref 4), (1, .int x1), (3, .int x3)]) rfl ?_
    refine X_iinc C dX1_balance_28 (j := 3) rfl (v := x3 + 1) rfl (by decide) (L' := [(3, .int (x3 + 1)), (2, .int (x2 + (v2 - v4))), (0, .ref 4), (1, .int x1)]) rfl ?_
    refine X_goto C dX1_balance_31 (tgt := 4) (by decide) ?_
    refine X_loc [2, 3, 1, 0] rfl ?_
    exact h
set_option maxHeartbeats 4000000 in
set_option maxRecDepth 100000 in
theorem eX1_balance {d : Nat} {Q : Option Value → xSt → Prop} (a1 : Int32) (st : xSt) (h : ∀ κ : xK, Cx κ M_X1_balance (d + 1) → xR κ Q → X κ 4 [(0, .ref 4), (1, .int a1), (2, .int 0), (3, .int 0)] [] st) : Ct (d + 1) M_X1_balance [.ref 4, .int a1] st Q := by
  refine Ct_of (by decide +kernel) (Nat.le_of_ble_eq_true rfl) (fun κ C Z => ?_)
  replace h := h κ C Z
  show X κ 0 [(0, .ref 4), (1, .int a1)] [] st
  refine X_iconst C (v := 0) (by decide) dX1_balance_0 ?_
  refine X_istore_n C dX1_balance_1 rfl (by decide) (L' := [(2, .int 0), (0, .ref 4), (1, .int a1)]) rfl ?_
  refine X_iconst C (v := 0) (by decide) dX1_balance_2 ?_
  refine X_istore_n C dX1_balance_3 rfl (by decide) (L' := [(3, .int 0), (2, .int 0), (0, .ref 4), (1, .int a1)]) rfl ?_
  refine X_loc [2, 3, 1, 0] rfl ?_
  exact h
set_option maxHeartbeats 4000000 in
set_option maxRecDepth 100000 in
theorem bX1_whole_4 {κ : xK} {d : Nat} {Q : Option Value → xSt → Prop} (C : Cx κ M_X1_whole (d + 1)) (Z : xR κ Q) (x1 : Int32) (x2 : Int32) (st : xSt) (h : (((st.1 4 3) ≤ x2 → Q (some (.int x1)) st) ∧ (¬ (st.1 4 3) ≤ x2 → X κ 14 [(0, .ref 4), (1, .int x1), (2, .int x2), (3, .int 0)] [] st))) : X κ 4 [(0, .ref 4), (1, .int x1), (2, .int x2)] [] st := by
  refine X_iload_n C dX1_whole_4 rfl (j := 2) rfl ?_
  refine X_aload_n C dX1_whole_5 rfl (j := 0) rfl ?_
  refine X_getI C sh_4 rfl fw_RX1_23 dX1_whole_6 ?_
  refine X_icmp_ge C dX1_whole_9 (tgt := 43) (by decide) (fun c => ?_) (fun c => ?_)
  · replace h := h.1 c
    refine X_iload_n C dX1_whole_43 rfl (j := 1) rfl ?_
    exact X_iret C Z rfl dX1_whole_44 h
  · replace h := h.2 c
    refine X_iconst C (v := 0) (by decide) dX1_whole_12 ?_
    refine X_istore_n C dX1_whole_13 rfl (by decide) (L' := [(3, .int 0), (0, .ref 4), (1, .int x1), (2, .int x2)]) rfl ?_
    refine X_loc [1, 2, 3, 0] rfl ?_
    exact h
set_option maxHeartbeats 4000000 in
set_option maxRecDepth 100000 in
theorem bX1_whole_14 {κ : xK} {d : Nat} {Q : Option Value → xSt → Prop} (C : Cx κ M_X1_whole (d + 1)) (Z : xR κ Q) (x1 : Int32) (x2 : Int32) (x3 : Int32) (st : xSt) (h : (((st.1 4 3) ≤ x3 → X κ 4 [(0, .ref 4), (1, .int x1), (2, .int (x2 + 1))] [] st) ∧ (¬ (st.1 4 3) ≤ x3 → Ct d M_X1_left [.ref 4, .int x2, .int x3] st (Qi fun v2 s1 => X κ 14 [(0, .ref 4), (1, .int (x1 + v2)), (2, .int x2), (3, .int (x3 + 1))] [] s1)))) : X κ 14 [(0, .ref 4), (1, .int x1), (2, .int x2), (3, .int x3)] [] st := by
  refine X_iload_n C dX1_whole_14 rfl (j := 3) rfl ?_
  refine X_aload_n C dX1_whole_15 rfl (j := 0) rfl ?_
  refine X_getI C sh_4 rfl fw_RX1_23 dX1_whole_16 ?_
  refine X_icmp_ge C dX1_whole_19 (tgt := 37) (by decide) (fun c => ?_) (fun c => ?_)
  · replace h := h.1 c
    refine X_iinc C dX1_whole_37 (j := 2) rfl (v := x2 + 1) rfl (by decide) (L' := [(2, .int (x2 + 1)), (0, .ref 4), (1, .int x1), (3, .int x3)]) rfl ?_
    refine X_goto C dX1_whole_40 (tgt := 4) (by decide) ?_
    refine X_loc [1, 2, 0] rfl ?_
    exact h
  · replace h := h.2 c
    refine X_iload_n C dX1_whole_22 rfl (j := 1) rfl ?_
    refine X_aload_n C dX1_whole_23 rfl (j := 0) rfl ?_
    refine X_iload_n C dX1_whole_24 rfl (j := 2) rfl ?_
    refine X_iload_n C dX1_whole_25 rfl (j := 3) rfl ?_
    refine X_callV C dX1_whole_26 pw_RX1_41 (b := 4) (as := [.int x2, .int x3]) (S := [.int x1]) sh_4 rfl rfl rfl (Nat.le_of_ble_eq_true rfl) (Ct_mono h ?_)
    rintro _ s1 ⟨v2, rfl, h⟩
    show X κ 29 [(0, .ref 4), (1, .int x1), (2, .int x2), (3, .int x3)] [.int v2, .int x1] s1
    refine X_iadd C dX1_whole_29 ?_
    refine X_istore_n C dX1_whole_30 rfl (by decide) (L' := [(1, .int (x1 + v2)), (0, .ref 4), (2, .int x2), (3, .int x3)]) rfl ?_
    refine X_iinc C dX1_whole_31 (j := 3) rfl (v := x3 + 1) rfl (by decide) (L' := [(3, .int (x3 + 1)), (1, .int (x1 + v2)), (0, .ref 4), (2, .int x2)]) rfl ?_
    refine X_goto C dX1_whole_34 (tgt := 14) (by decide) ?_
    refine X_loc [2, 1, 3, 0] rfl ?_
    exact h
set_option maxHeartbeats 4000000 in
set_option maxRecDepth 100000 in
theorem eX1_whole {d : Nat} {Q : Option Value → xSt → Prop} (st : xSt) (h : ∀ κ : xK, Cx κ M_X1_whole (d + 1) → xR κ Q → X κ 4 [(0, .ref 4), (1, .int 0), (2, .int 0)] [] st) : Ct (d + 1) M_X1_whole [.ref 4] st Q := by
  refine Ct_of (by decide +kernel) (Nat.le_of_ble_eq_true rfl) (fun κ C Z => ?_)
  replace h := h κ C Z
  show X κ 0 [(0, .ref 4)] [] st
  refine X_iconst C (v := 0) (by decide) dX1_whole_0 ?_
  refine X_istore_n C dX1_whole_1 rfl (by decide) (L' := [(1, .int 0), (0, .ref 4)]) rfl ?_
  refine X_iconst C (v := 0) (by decide) dX1_whole_2 ?_
  refine X_istore_n C dX1_whole_3 rfl (by decide) (L' := [(2, .int 0), (1, .int 0), (0, .ref 4)]) rfl ?_
  refine X_loc [2, 1, 0] rfl ?_
  exact h
set_option maxHeartbeats 4000000 in
set_option maxRecDepth 100000 in
theorem bX1_closeAll_2 {κ : xK} {d : Nat} {Q : Option Value → xSt → Prop} (C : Cx κ M_X1_closeAll (d + 1)) (Z : xR κ Q) (x1 : Int32) (st : xSt) (h : ((28 < x1 → Q (some (.int 28)) st) ∧ (¬ 28 < x1 → Ct d M_X1_findRow [.ref 4] st (Qi fun v2 s1 => ((¬ v2 = 0 → Ct d M_X1_takeOff [.ref 4, .int v2] s1 (Qv fun s3 => X κ 2 [(0, .ref 4), (1, .int (x1 + 1))] [] s3)) ∧ (v2 = 0 → Q (some (.int x1)) s1)))))) : X κ 2 [(0, .ref 4), (1, .int x1)] [] st := by
  refine X_iload_n C dX1_closeAll_2 rfl (j := 1) rfl ?_
  refine X_bipush C (v := 28) (by decide) dX1_closeAll_3 ?_
  refine X_icmp_gt C dX1_closeAll_5 (tgt := 30) (by decide) (fun c => ?_) (fun c => ?_)
  · replace h := h.1 c
    refine X_bipush C (v := 28) (by decide) dX1_closeAll_30 ?_
    exact X_iret C Z rfl dX1_closeAll_32 h
  · replace h := h.2 c
    refine X_aload_n C dX1_closeAll_8 rfl (j := 0) rfl ?_
    refine X_callV C dX1_closeAll_9 pw_RX1_44 (b := 4) (as := []) (S := []) sh_4 rfl rfl rfl (Nat.le_of_ble_eq_true rfl) (Ct_mono h ?_)
    rintro _ s1 ⟨v2, rfl, h⟩
    show X κ 12 [(0, .ref 4), (1, .int x1)] [.int v2] s1
    refine X_istore_n C dX1_closeAll_12 rfl (by decide) (L' := [(2, .int v2), (0, .ref 4), (1, .int x1)]) rfl ?_
    refine X_iload_n C dX1_closeAll_13 rfl (j := 0) rfl ?_
    refine X_if_ne C dX1_closeAll_14 (tgt := 19) (by decide) (fun c => ?_) (fun c => ?_)
    · replace h := h.1 c
      refine X_aload_n C dX1_closeAll_19 rfl (j := 1) rfl ?_
      refine X_iload_n C dX1_closeAll_20 rfl (j := 0) rfl ?_
      refine X_callV C dX1_closeAll_21 pw_RX1_48 (b := 4) (as := [.int v2]) (S := []) sh_4 rfl rfl rfl (Nat.le_of_ble_eq_true rfl) (Ct_mono h ?_)
      rintro _ s3 ⟨rfl, h⟩
      show X κ 24 [(2, .int v2), (0, .ref 4), (1, .int x1)] [] s3
      refine X_iinc C dX1_closeAll_24 (j := 2) rfl (v := x1 + 1) rfl (by decide) (L' := [(1, .int (x1 + 1)), (2, .int v2), (0, .ref 4)]) rfl ?_
      refine X_goto C dX1_closeAll_27 (tgt := 2) (by decide) ?_
      refine X_loc [2, 0] rfl ?_
      exact h
    · replace h := h.2 c
      refine X_iload_n C dX1_closeAll_17 rfl (j := 2) rfl ?_
      exact X_iret C Z rfl dX1_closeAll_18 h
set_option maxHeartbeats 4000000 in
set_option maxRecDepth 100000 in
theorem eX1_closeAll {d : Nat} {Q : Option Value → xSt → Prop} (st : xSt) (h : ∀ κ : xK, Cx κ M_X1_closeAll (d + 1) → xR κ Q → X κ 2 [(0, .ref 4), (1, .int 0)] [] st) : Ct (d + 1) M_X1_closeAll [.ref 4] st Q := by
  refine Ct_of (by decide +kernel) (Nat.le_of_ble_eq_true rfl) (fun κ C Z => ?_)
  replace h := h κ C Z
  show X κ 0 [(0, .ref 4)] [] st
  refine X_iconst C (v := 0) (by decide) dX1_closeAll_0 ?_
  refine X_istore_n C dX1_closeAll_1 rfl (by decide) (L' := [(1, .int 0), (0, .ref 4)]) rfl ?_
  refine X_loc [1, 0] rfl ?_
  exact h
set_option maxHeartbeats 4000000 in
set_option maxRecDepth 100000 in
theorem bX1_findRow_2 {κ : xK} {d : Nat} {Q : Option Value → xSt → Prop} (C : Cx κ M_X1_findRow (d + 1)) (Z : xR κ Q) (x1 : Int32) (st : xSt) (h : (((st.1 4 3) < x1 → Q (some (.int 0)) st) ∧ (¬ (st.1 4 3) < x1 → X κ 12 [(0, .ref 4), (1, .int x1), (2, .int 0)] [] st))) : X κ 2 [(0, .ref 4), (1, .int x1)] [] st := by
  refine X_iload_n C dX1_findRow_2 rfl (j := 1) rfl ?_
  refine X_aload_n C dX1_findRow_3 rfl (j := 0) rfl ?_
  refine X_getI C sh_4 rfl fw_RX1_23 dX1_findRow_4 ?_
  refine X_icmp_gt C dX1_findRow_7 (tgt := 50) (by decide) (fun c => ?_) (fun c => ?_)
  · replace h := h.1 c
    refine X_iconst C (v := 0) (by decide) dX1_findRow_50 ?_
    exact X_iret C Z rfl dX1_findRow_51 h
  · replace h := h.2 c
    refine X_iconst C (v := 0) (by decide) dX1_findRow_10 ?_
    refine X_istore_n C dX1_findRow_11 rfl (by decide) (L' := [(2, .int 0), (0, .ref 4), (1, .int x1)]) rfl ?_
    refine X_loc [1, 2, 0] rfl ?_
    exact h
set_option maxHeartbeats 4000000 in
set_option maxRecDepth 100000 in
theorem bX1_findRow_12 {κ : xK} {d : Nat} {Q : Option Value → xSt → Prop} (C : Cx κ M_X1_findRow (d + 1)) (Z : xR κ Q) (x1 : Int32) (x2 : Int32) (st : xSt) (h : (((st.1 4 3) ≤ x2 → X κ 2 [(0, .ref 4), (1, .int (x1 + 1))] [] st) ∧ (¬ (st.1 4 3) ≤ x2 → Ct d M_X1_goOn [.ref 4, .int 1, .int x1] (xup st 21 (0 : Int32).toNatClampNeg x2) (Qi fun v2 s1 => ((v2 = 0 → X κ 12 [(0, .ref 4), (1, .int x1), (2, .int (x2 + 1))] [] s1) ∧ (¬ v2 = 0 → Q (some (.int x1)) s1)))))) : X κ 12 [(0, .ref 4), (1, .int x1), (2, .int x2)] [] st := by
  refine X_iload_n C dX1_findRow_12 rfl (j := 2) rfl ?_
  refine X_aload_n C dX1_findRow_13 rfl (j := 0) rfl ?_
  refine X_getI C sh_4 rfl fw_RX1_23 dX1_findRow_14 ?_
  refine X_icmp_ge C dX1_findRow_17 (tgt := 44) (by decide) (fun c => ?_) (fun c => ?_)
  · replace h := h.1 c
    refine X_iinc C dX1_findRow_44 (j := 1) rfl (v := x1 + 1) rfl (by decide) (L' := [(1, .int (x1 + 1)), (0, .ref 4), (2, .int x2)]) rfl ?_
    refine X_goto C dX1_findRow_47 (tgt := 2) (by decide) ?_
    refine X_loc [1, 0] rfl ?_
    exact h
  · replace h := h.2 c
    refine X_aload_n C dX1_findRow_20 rfl (j := 0) rfl ?_
    refine X_getR C sh_4 rfl fw_RX1_20 dX1_findRow_21 ?_
    refine X_iconst C (v := 0) (by decide) dX1_findRow_24 ?_
    refine X_iload_n C dX1_findRow_25 rfl (j := 2) rfl ?_
    refine X_iast C sh_21 (by unfold vp_in; decide) dX1_findRow_26 ?_
    refine X_aload_n C dX1_findRow_27 rfl (j := 0) rfl ?_
    refine X_iconst C (v := 1) (by decide) dX1_findRow_28 ?_
    refine X_iload_n C dX1_findRow_29 rfl (j := 1) rfl ?_
    refine X_callV C dX1_findRow_30 pw_RX1_52 (b := 4) (as := [.int 1, .int x1]) (S := []) sh_4 rfl rfl rfl (Nat.le_of_ble_eq_true rfl) (Ct_mono h ?_)
    rintro _ s1 ⟨v2, rfl, h⟩
    show X κ 33 [(0, .ref 4), (1, .int x1), (2, .int x2)] [.int v2] s1
    refine X_if_eq C dX1_findRow_33 (tgt := 38) (by decide) (fun c => ?_) (fun c => ?_)
    · replace h := h.1 c
      refine X_iinc C dX1_findRow_38 (j := 2) rfl (v := x2 + 1) rfl (by decide) (L' := [(2, .int (x2 + 1)), (0, .ref 4), (1, .int x1)]) rfl ?_
      refine X_goto C dX1_findRow_41 (tgt := 12) (by decide) ?_
      refine X_loc [1, 2, 0] rfl ?_
      exact h
    · replace h := h.2 c
      refine X_iload_n C dX1_findRow_36 rfl (j := 1) rfl ?_
      exact X_iret C Z rfl dX1_findRow_37 h
set_option maxHeartbeats 4000000 in
set_option maxRecDepth 100000 in
theorem eX1_findRow {d : Nat} {Q : Option Value → xSt → Prop} (st : xSt) (h : ∀ κ : xK, Cx κ M_X1_findRow (d + 1) → xR κ Q → X κ 2 [(0, .ref 4), (1, .int 3)] [] st) : Ct (d + 1) M_X1_findRow [.ref 4] st Q := by
  refine Ct_of (by decide +kernel) (Nat.le_of_ble_eq_true rfl) (fun κ C Z => ?_)
  replace h := h κ C Z
  show X κ 0 [(0, .ref 4)] [] st
  refine X_iconst C (v := 3) (by decide) dX1_findRow_0 ?_
  refine X_istore_n C dX1_findRow_1 rfl (by decide) (L' := [(1, .int 3), (0, .ref 4)]) rfl ?_
  refine X_loc [1, 0] rfl ?_
  exact h
set_option maxHeartbeats 4000000 in
set_option maxRecDepth 100000 in
theorem bX1_goOn_57 {κ : xK} {d : Nat} {Q : Option Value → xSt → Prop} (C : Cx κ M_X1_goOn (d + 1)) (Z : xR κ Q) (x1 : Int32) (x2 : Int32) (x3 : Int32) (x4 : Int32) (st : xSt) (h : (((st.1 4 3) ≤ x4 → Q (some (.int 0)) st) ∧ (¬ (st.1 4 3) ≤ x4 → Ct d M_X1_left [.ref 4, .int x3, .int x4] st (Qi fun v2 s1 => ((v2 ≤ 0 → X κ 57 [(0, .ref 4), (1, .int x1), (2, .int x2), (3, .int x3), (4, .int (x4 + 1))] [] s1) ∧ (¬ v2 ≤ 0 → Ct d M_X1_inRow [.ref 4, .int x4, .int x1] s1 (Qi fun v4 s3 => ((¬ v4 = 0 → X κ 57 [(0, .ref 4), (1, .int x1), (2, .int x2), (3, .int x3), (4, .int (x4 + 1))] [] s3) ∧ (v4 = 0 → Ct d M_X1_goOnWith [.ref 4, .int x4, .int x1, .int x2] s3 (Qi fun v6 s5 => ((v6 = 0 → X κ 57 [(0, .ref 4), (1, .int x1), (2, .int x2), (3, .int x3), (4, .int (x4 + 1))] [] s5) ∧ (¬ v6 = 0 → Q (some (.int 1)) s5)))))))))))) : X κ 57 [(0, .ref 4), (1, .int x1), (2, .int x2), (3, .int x3), (4, .int x4)] [] st := by
  refine X_iload C dX1_goOn_57 (j := 4) rfl ?_
  refine X_aload_n C dX1_goOn_59 rfl (j := 0) rfl ?_
  refine X_getI C sh_4 rfl fw_RX1_23 dX1_goOn_60 ?_
  refine X_icmp_ge C dX1_goOn_63 (tgt := 105) (by decide) (fun c => ?_) (fun c => ?_)
  · replace h := h.1 c
    refine X_iconst C (v := 0) (by decide) dX1_goOn_105 ?_
    exact X_zret C Z rfl (by decide) dX1_goOn_106 h
  · replace h := h.2 c
    refine X_aload_n C dX1_goOn_66 rfl (j := 0) rfl ?_
    refine X_iload_n C dX1_goOn_67 rfl (j := 3) rfl ?_
    refine X_iload C dX1_goOn_68 (j := 4) rfl ?_
    refine X_callV C dX1_goOn_70 pw_RX1_41 (b := 4) (as := [.int x3, .int x4]) (S := []) sh_4 rfl rfl rfl (Nat.le_of_ble_eq_true rfl) (Ct_mono h ?_)
    rintro _ s1 ⟨v2, rfl, h⟩
    show X κ 73 [(0, .ref 4), (1, .int x1), (2, .int x2), (3, .int x3), (4, .int x4)] [.int v2] s1
    refine X_if_le C dX1_goOn_73 (tgt := 99) (by decide) (fun c => ?_) (fun c => ?_)
    · replace h := h.1 c
      refine X_iinc C dX1_goOn_99 (j := 4) rfl (v := x4 + 1) rfl (by decide) (L' := [(4, .int (x4 + 1)), (0, .ref 4), (1, .int x1), (2, .int x2), (3, .int x3)]) rfl ?_
      refine X_goto C dX1_goOn_102 (tgt := 57) (by decide) ?_
      refine X_loc [1, 2, 3, 4, 0] rfl ?_
      exact h
    · replace h := h.2 c
      refine X_aload_n C dX1_goOn_76 rfl (j := 0) rfl ?_
      refine X_iload C dX1_goOn_77 (j := 4) rfl ?_
      refine X_iload_n C dX1_goOn_79 rfl (j := 1) rfl ?_
      refine X_callV C dX1_goOn_80 pw_RX1_55 (b := 4) (as := [.int x4, .int x1]) (S := []) sh_4 rfl rfl rfl (Nat.le_of_ble_eq_true rfl) (Ct_mono h ?_)
      rintro _ s3 ⟨v4, rfl, h⟩
      show X κ 83 [(0, .ref 4), (1, .int x1), (2, .int x2), (3, .int x3), (4, .int x4)] [.int v4] s3
      refine X_if_ne C dX1_goOn_83 (tgt := 99) (by decide) (fun c => ?_) (fun c => ?_)
      · replace h := h.1 c
        refine X_iinc C dX1_goOn_99 (j := 4) rfl (v := x4 + 1) rfl (by decide) (L' := [(4, .int (x4 + 1)), (0, .ref 4), (1, .int x1), (2, .int x2), (3, .int x3)]) rfl ?_
        refine X_goto C dX1_goOn_102 (tgt := 57) (by decide) ?_
        refine X_loc [1, 2, 3, 4, 0] rfl ?_
        exact h
      · replace h := h.2 c
        refine X_aload_n C dX1_goOn_86 rfl (j := 0) rfl ?_
        refine X_iload C dX1_goOn_87 (j := 4) rfl ?_
        refine X_iload_n C dX1_goOn_89 rfl (j := 1) rfl ?_
        refine X_iload_n C dX1_goOn_90 rfl (j := 2) rfl ?_
        refine X_callV C dX1_goOn_91 pw_RX1_58 (b := 4) (as := [.int x4, .int x1, .int x2]) (S := []) sh_4 rfl rfl rfl (Nat.le_of_ble_eq_true rfl) (Ct_mono h ?_)
        rintro _ s5 ⟨v6, rfl, h⟩
        show X κ 94 [(0, .ref 4), (1, .int x1), (2, .int x2), (3, .int x3), (4, .int x4)] [.int v6] s5
        refine X_if_eq C dX1_goOn_94 (tgt := 99) (by decide) (fun c => ?_) (fun c => ?_)
        · replace h := h.1 c
          refine X_iinc C dX1_goOn_99 (j := 4) rfl (v := x4 + 1) rfl (by decide) (L' := [(4, .int (x4 + 1)), (0, .ref 4), (1, .int x1), (2, .int x2), (3, .int x3)]) rfl ?_
          refine X_goto C dX1_goOn_102 (tgt := 57) (by decide) ?_
          refine X_loc [1, 2, 3, 4, 0] rfl ?_
          exact h
        · replace h := h.2 c
          refine X_iconst C (v := 1) (by decide) dX1_goOn_97 ?_
          exact X_zret C Z rfl (by decide) dX1_goOn_98 h
set_option maxHeartbeats 4000000 in
set_option maxRecDepth 100000 in
theorem eX1_goOn {d : Nat} {Q : Option Value → xSt → Prop} (a1 : Int32) (a2 : Int32) (st : xSt) (h : ∀ κ : xK, Cx κ M_X1_goOn (d + 1) → xR κ Q → ((a1 < 1 → Q (some (.int 0)) st) ∧ (¬ a1 < 1 → ((a1 ≤ 8 → vp_in (a1 - 1) 8 ∧ ((a1 < a2 → X κ 57 [(0, .ref 4), (1, .int a1), (2, .int a2), (3, .int (st.1 21 (a1 - 1 : Int32).toNatClampNeg)), (4, .int ((st.1 21 (0 : Int32).toNatClampNeg) + 1))] [] st) ∧ (¬ a1 < a2 → Ct d M_X1_left [.ref 4, .int (st.1 21 (a1 - 1 : Int32).toNatClampNeg), .int (st.1 21 (0 : Int32).toNatClampNeg)] st (Qi fun v3 s2 => ((v3 ≤ 0 → Q (some (.int 0)) s2) ∧ (¬ v3 ≤ 0 → Q (some (.int 1)) s2)))))) ∧ (¬ a1 ≤ 8 → Q (some (.int 0)) st))))) : Ct (d + 1) M_X1_goOn [.ref 4, .int a1, .int a2] st Q := by
  refine Ct_of (by decide +kernel) (Nat.le_of_ble_eq_true rfl) (fun κ C Z => ?_)
  replace h := h κ C Z
  show X κ 0 [(0, .ref 4), (1, .int a1), (2, .int a2)] [] st
  refine X_iload_n C dX1_goOn_0 rfl (j := 1) rfl ?_
  refine X_iconst C (v := 1) (by decide) dX1_goOn_1 ?_
  refine X_icmp_lt C dX1_goOn_2 (tgt := 11) (by decide) (fun c => ?_) (fun c => ?_)
  · replace h := h.1 c
    refine X_iconst C (v := 0) (by decide) dX1_goOn_11 ?_
    exact X_zret C Z rfl (by decide) dX1_goOn_12 h
  · replace h := h.2 c
    refine X_iload_n C dX1_goOn_5 rfl (j := 1) rfl ?_
    refine X_bipush C (v := 8) (by decide) dX1_goOn_6 ?_
    refine X_icmp_le C dX1_goOn_8 (tgt := 13) (by decide) (fun c => ?_) (fun c => ?_)
    · replace h := h.1 c
      refine X_aload_n C dX1_goOn_13 rfl (j := 0) rfl ?_
      refine X_getR C sh_4 rfl fw_RX1_20 dX1_goOn_14 ?_
      refine X_iload_n C dX1_goOn_17 rfl (j := 1) rfl ?_
      refine X_iconst C (v := 1) (by decide) dX1_goOn_18 ?_
      refine X_isub C dX1_goOn_19 ?_
      obtain ⟨g1, h⟩ := h
      refine X_iald C sh_21 g1 dX1_goOn_20 ?_
      refine X_istore_n C dX1_goOn_21 rfl (by decide) (L' := [(3, .int (st.1 21 (a1 - 1 : Int32).toNatClampNeg)), (0, .ref 4), (1, .int a1), (2, .int a2)]) rfl ?_
      refine X_iload_n C dX1_goOn_22 rfl (j := 2) rfl ?_
      refine X_iload_n C dX1_goOn_23 rfl (j := 3) rfl ?_
      refine X_icmp_lt C dX1_goOn_24 (tgt := 47) (by decide) (fun c => ?_) (fun c => ?_)
      · replace h := h.1 c
        refine X_aload_n C dX1_goOn_47 rfl (j := 1) rfl ?_
        refine X_getR C sh_4 rfl fw_RX1_20 dX1_goOn_48 ?_
        refine X_iconst C (v := 0) (by decide) dX1_goOn_51 ?_
        refine X_iald C sh_21 (by unfold vp_in; decide) dX1_goOn_52 ?_
        refine X_iconst C (v := 1) (by decide) dX1_goOn_53 ?_
        refine X_iadd C dX1_goOn_54 ?_
        refine X_istore C dX1_goOn_55 (by decide) (L' := [(4, .int ((st.1 21 (0 : Int32).toNatClampNeg) + 1)), (3, .int (st.1 21 (a1 - 1 : Int32).toNatClampNeg)), (0, .ref 4), (1, .int a1), (2, .int a2)]) rfl ?_
        refine X_loc [2, 3, 4, 1, 0] rfl ?_
        exact h
      · replace h := h.2 c
        refine X_aload_n C dX1_goOn_27 rfl (j := 1) rfl ?_
        refine X_iload_n C dX1_goOn_28 rfl (j := 0) rfl ?_
        refine X_aload_n C dX1_goOn_29 rfl (j := 1) rfl ?_
        refine X_getR C sh_4 rfl fw_RX1_20 dX1_goOn_30 ?_
        refine X_iconst C (v := 0) (by decide) dX1_goOn_33 ?_
        refine X_iald C sh_21 (by unfold vp_in; decide) dX1_goOn_34 ?_
        refine X_callV C dX1_goOn_35 pw_RX1_41 (b := 4) (as := [.int (st.1 21 (a1 - 1 : Int32).toNatClampNeg), .int (st.1 21 (0 : Int32).toNatClampNeg)]) (S := []) sh_4 rfl rfl rfl (Nat.le_of_ble_eq_true rfl) (Ct_mono h ?_)
        rintro _ s2 ⟨v3, rfl, h⟩
        show X κ 38 [(3, .int (st.1 21 (a1 - 1 : Int32).toNatClampNeg)), (0, .ref 4), (1, .int a1), (2, .int a2)] [.int v3] s2
        refine X_if_le C dX1_goOn_38 (tgt := 45) (by decide) (fun c => ?_) (fun c => ?_)
        · replace h := h.1 c
          refine X_iconst C (v := 0) (by decide) dX1_goOn_45 ?_
          exact X_zret C Z rfl (by decide) dX1_goOn_46 h
        · replace h := h.2 c
          refine X_iconst C (v := 1) (by decide) dX1_goOn_41 ?_
          refine X_goto C dX1_goOn_42 (tgt := 46) (by decide) ?_
          exact X_zret C Z rfl (by decide) dX1_goOn_46 h
    · replace h := h.2 c
      refine X_iconst C (v := 0) (by decide) dX1_goOn_11 ?_
      exact X_zret C Z rfl (by decide) dX1_goOn_12 h
set_option maxHeartbeats 4000000 in
set_option maxRecDepth 100000 in
theorem eX1_goOnWith {d : Nat} {Q : Option Value → xSt → Prop} (a1 : Int32) (a2 : Int32) (a3 : Int32) (st : xSt) (h : ((a2 < 0 → Q (some (.int 0)) st) ∧ (¬ a2 < 0 → ((a2 < 8 → vp_in a2 8 ∧ Ct d M_X1_goOn [.ref 4, .int (a2 + 1), .int a3] (xup st 21 (a2 : Int32).toNatClampNeg a1) (Qi fun v3 s2 => (v3 = 0 ∨ v3 = 1) ∧ Q (some (.int v3)) s2)) ∧ (¬ a2 < 8 → Q (some (.int 0)) st))))) : Ct (d + 1) M_X1_goOnWith [.ref 4, .int a1, .int a2, .int a3] st Q := by
  refine Ct_of (by decide +kernel) (Nat.le_of_ble_eq_true rfl) (fun κ C Z => ?_)
  show X κ 0 [(0, .ref 4), (1, .int a1), (2, .int a2), (3, .int a3)] [] st
  refine X_iload_n C dX1_goOnWith_0 rfl (j := 2) rfl ?_
  refine X_if_lt C dX1_goOnWith_1 (tgt := 10) (by decide) (fun c => ?_) (fun c => ?_)
  · replace h := h.1 c
    refine X_iconst C (v := 0) (by decide) dX1_goOnWith_10 ?_
    exact X_zret C Z rfl (by decide) dX1_goOnWith_11 h
  · replace h := h.2 c
    refine X_iload_n C dX1_goOnWith_4 rfl (j := 2) rfl ?_
    refine X_bipush C (v := 8) (by decide) dX1_goOnWith_5 ?_
    refine X_icmp_lt C dX1_goOnWith_7 (tgt := 12) (by decide) (fun c => ?_) (fun c => ?_)
    · replace h := h.1 c
      refine X_aload_n C dX1_goOnWith_12 rfl (j := 0) rfl ?_
      refine X_getR C sh_4 rfl fw_RX1_20 dX1_goOnWith_13 ?_
      refine X_iload_n C dX1_goOnWith_16 rfl (j := 2) rfl ?_
      refine X_iload_n C dX1_goOnWith_17 rfl (j := 1) rfl ?_
      obtain ⟨g1, h⟩ := h
      refine X_iast C sh_21 g1 dX1_goOnWith_18 ?_
      refine X_aload_n C dX1_goOnWith_19 rfl (j := 0) rfl ?_
      refine X_iload_n C dX1_goOnWith_20 rfl (j := 2) rfl ?_
      refine X_iconst C (v := 1) (by decide) dX1_goOnWith_21 ?_
      refine X_iadd C dX1_goOnWith_22 ?_
      refine X_iload_n C dX1_goOnWith_23 rfl (j := 3) rfl ?_
      refine X_callV C dX1_goOnWith_24 pw_RX1_52 (b := 4) (as := [.int (a2 + 1), .int a3]) (S := []) sh_4 rfl rfl rfl (Nat.le_of_ble_eq_true rfl) (Ct_mono h ?_)
      rintro _ s2 ⟨v3, rfl, h⟩
      show X κ 27 [(0, .ref 4), (1, .int a1), (2, .int a2), (3, .int a3)] [.int v3] s2
      exact X_zret C Z rfl h.1 dX1_goOnWith_27 h.2
    · replace h := h.2 c
      refine X_iconst C (v := 0) (by decide) dX1_goOnWith_10 ?_
      exact X_zret C Z rfl (by decide) dX1_goOnWith_11 h
set_option maxHeartbeats 4000000 in
set_option maxRecDepth 100000 in
theorem bX1_inRow_2 {κ : xK} {d : Nat} {Q : Option Value → xSt → Prop} (C : Cx κ M_X1_inRow (d)) (Z : xR κ Q) (x1 : Int32) (x2 : Int32) (x3 : Int32) (st : xSt) (h : ((x2 ≤ x3 → Q (some (.int 0)) st) ∧ (¬ x2 ≤ x3 → ((8 ≤ x3 → Q (some (.int 0)) st) ∧ (¬ 8 ≤ x3 → vp_in x3 8 ∧ ((¬ (st.1 21 (x3 : Int32).toNatClampNeg) = x1 → X κ 2 [(0, .ref 4), (1, .int x1), (2, .int x2), (3, .int (x3 + 1))] [] st) ∧ ((st.1 21 (x3 : Int32).toNatClampNeg) = x1 → Q (some (.int 1)) st))))))) : X κ 2 [(0, .ref 4), (1, .int x1), (2, .int x2), (3, .int x3)] [] st := by
  refine X_iload_n C dX1_inRow_2 rfl (j := 3) rfl ?_
  refine X_iload_n C dX1_inRow_3 rfl (j := 2) rfl ?_
  refine X_icmp_ge C dX1_inRow_4 (tgt := 31) (by decide) (fun c => ?_) (fun c => ?_)
  · replace h := h.1 c
    refine X_iconst C (v := 0) (by decide) dX1_inRow_31 ?_
    exact X_zret C Z rfl (by decide) dX1_inRow_32 h
  · replace h := h.2 c
    refine X_iload_n C dX1_inRow_7 rfl (j := 3) rfl ?_
    refine X_bipush C (v := 8) (by decide) dX1_inRow_8 ?_
    refine X_icmp_ge C dX1_inRow_10 (tgt := 31) (by decide) (fun c => ?_) (fun c => ?_)
    · replace h := h.1 c
      refine X_iconst C (v := 0) (by decide) dX1_inRow_31 ?_
      exact X_zret C Z rfl (by decide) dX1_inRow_32 h
    · replace h := h.2 c
      refine X_aload_n C dX1_inRow_13 rfl (j := 0) rfl ?_
      refine X_getR C sh_4 rfl fw_RX1_20 dX1_inRow_14 ?_
      refine X_iload_n C dX1_inRow_17 rfl (j := 3) rfl ?_
      obtain ⟨g1, h⟩ := h
      refine X_iald C sh_21 g1 dX1_inRow_18 ?_
      refine X_iload_n C dX1_inRow_19 rfl (j := 1) rfl ?_
      refine X_icmp_ne C dX1_inRow_20 (tgt := 25) (by decide) (fun c => ?_) (fun c => ?_)
      · replace h := h.1 c
        refine X_iinc C dX1_inRow_25 (j := 3) rfl (v := x3 + 1) rfl (by decide) (L' := [(3, .int (x3 + 1)), (0, .ref 4), (1, .int x1), (2, .int x2)]) rfl ?_
        refine X_goto C dX1_inRow_28 (tgt := 2) (by decide) ?_
        refine X_loc [1, 2, 3, 0] rfl ?_
        exact h
      · replace h := h.2 c
        refine X_iconst C (v := 1) (by decide) dX1_inRow_23 ?_
        exact X_zret C Z rfl (by decide) dX1_inRow_24 h
set_option maxHeartbeats 4000000 in
set_option maxRecDepth 100000 in
theorem eX1_inRow {d : Nat} {Q : Option Value → xSt → Prop} (a1 : Int32) (a2 : Int32) (st : xSt) (h : ∀ κ : xK, Cx κ M_X1_inRow (d) → xR κ Q → X κ 2 [(0, .ref 4), (1, .int a1), (2, .int a2), (3, .int 0)] [] st) : Ct (d) M_X1_inRow [.ref 4, .int a1, .int a2] st Q := by
  refine Ct_of (by decide +kernel) (Nat.le_of_ble_eq_true rfl) (fun κ C Z => ?_)
  replace h := h κ C Z
  show X κ 0 [(0, .ref 4), (1, .int a1), (2, .int a2)] [] st
  refine X_iconst C (v := 0) (by decide) dX1_inRow_0 ?_
  refine X_istore_n C dX1_inRow_1 rfl (by decide) (L' := [(3, .int 0), (0, .ref 4), (1, .int a1), (2, .int a2)]) rfl ?_
  refine X_loc [1, 2, 3, 0] rfl ?_
  exact h
set_option maxHeartbeats 4000000 in
set_option maxRecDepth 100000 in
theorem bX1_takeOff_6 {κ : xK} {d : Nat} {Q : Option Value → xSt → Prop} (C : Cx κ M_X1_takeOff (d + 1)) (Z : xR κ Q) (x1 : Int32) (x2 : Int32) (x3 : Int32) (st : xSt) (h : ((x1 ≤ x3 → X κ 46 [(0, .ref 4), (1, .int x1), (2, .int x2), (3, .int 0)] [] st) ∧ (¬ x1 ≤ x3 → ((8 ≤ x3 → X κ 46 [(0, .ref 4), (1, .int x1), (2, .int x2), (3, .int 0)] [] st) ∧ (¬ 8 ≤ x3 → vp_in x3 8 ∧ Ct d M_X1_nextOf [.ref 4, .int x3, .int x1] st (Qi fun v3 s2 => Ct d M_X1_left [.ref 4, .int (st.1 21 (x3 : Int32).toNatClampNeg), .int v3] s2 (Qi fun v5 s4 => X κ 6 [(0, .ref 4), (1, .int x1), (2, .int (imin x2 v5)), (3, .int (x3 + 1))] [] s4))))))) : X κ 6 [(0, .ref 4), (1, .int x1), (2, .int x2), (3, .int x3)] [] st := by
  refine X_iload_n C dX1_takeOff_6 rfl (j := 3) rfl ?_
  refine X_iload_n C dX1_takeOff_7 rfl (j := 1) rfl ?_
  refine X_icmp_ge C dX1_takeOff_8 (tgt := 44) (by decide) (fun c => ?_) (fun c => ?_)
  · replace h := h.1 c
    refine X_iconst C (v := 0) (by decide) dX1_takeOff_44 ?_
    refine X_istore_n C dX1_takeOff_45 rfl (by decide) (L' := [(3, .int 0), (0, .ref 4), (1, .int x1), (2, .int x2)]) rfl ?_
    refine X_loc [1, 2, 3, 0] rfl ?_
    exact h
  · replace h := h.2 c
    refine X_iload_n C dX1_takeOff_11 rfl (j := 3) rfl ?_
    refine X_bipush C (v := 8) (by decide) dX1_takeOff_12 ?_
    refine X_icmp_ge C dX1_takeOff_14 (tgt := 44) (by decide) (fun c => ?_) (fun c => ?_)
    · replace h := h.1 c
      refine X_iconst C (v := 0) (by decide) dX1_takeOff_44 ?_
      refine X_istore_n C dX1_takeOff_45 rfl (by decide) (L' := [(3, .int 0), (0, .ref 4), (1, .int x1), (2, .int x2)]) rfl ?_
      refine X_loc [1, 2, 3, 0] rfl ?_
      exact h
    · replace h := h.2 c
      refine X_iload_n C dX1_takeOff_17 rfl (j := 2) rfl ?_
      refine X_aload_n C dX1_takeOff_18 rfl (j := 0) rfl ?_
      refine X_aload_n C dX1_takeOff_19 rfl (j := 0) rfl ?_
      refine X_getR C sh_4 rfl fw_RX1_20 dX1_takeOff_20 ?_
      refine X_iload_n C dX1_takeOff_23 rfl (j := 3) rfl ?_
      obtain ⟨g1, h⟩ := h
      refine X_iald C sh_21 g1 dX1_takeOff_24 ?_
      refine X_aload_n C dX1_takeOff_25 rfl (j := 0) rfl ?_
      refine X_iload_n C dX1_takeOff_26 rfl (j := 3) rfl ?_
      refine X_iload_n C dX1_takeOff_27 rfl (j := 1) rfl ?_
      refine X_callV C dX1_takeOff_28 pw_RX1_62 (b := 4) (as := [.int x3, .int x1]) (S := [.int (st.1 21 (x3 : Int32).toNatClampNeg), .ref 4, .int x2]) sh_4 rfl rfl rfl (Nat.le_of_ble_eq_true rfl) (Ct_mono h ?_)
      rintro _ s2 ⟨v3, rfl, h⟩
      show X κ 31 [(0, .ref 4), (1, .int x1), (2, .int x2), (3, .int x3)] [.int v3, .int (st.1 21 (x3 : Int32).toNatClampNeg), .ref 4, .int x2] s2
      refine X_callV C dX1_takeOff_31 pw_RX1_41 (b := 4) (as := [.int (st.1 21 (x3 : Int32).toNatClampNeg), .int v3]) (S := [.int x2]) sh_4 rfl rfl rfl (Nat.le_of_ble_eq_true rfl) (Ct_mono h ?_)
      rintro _ s4 ⟨v5, rfl, h⟩
      show X κ 34 [(0, .ref 4), (1, .int x1), (2, .int x2), (3, .int x3)] [.int v5, .int x2] s4
      refine X_mmin C dX1_takeOff_34 mm_RX1_65 (Nat.le_of_ble_eq_true rfl) ?_
      refine X_istore_n C dX1_takeOff_37 rfl (by decide) (L' := [(2, .int (imin x2 v5)), (0, .ref 4), (1, .int x1), (3, .int x3)]) rfl ?_
      refine X_iinc C dX1_takeOff_38 (j := 3) rfl (v := x3 + 1) rfl (by decide) (L' := [(3, .int (x3 + 1)), (2, .int (imin x2 v5)), (0, .ref 4), (1, .int x1)]) rfl ?_
      refine X_goto C dX1_takeOff_41 (tgt := 6) (by decide) ?_
      refine X_loc [2, 3, 1, 0] rfl ?_
      exact h
set_option maxHeartbeats 4000000 in
set_option maxRecDepth 100000 in
theorem bX1_takeOff_46 {κ : xK} {d : Nat} {Q : Option Value → xSt → Prop} (C : Cx κ M_X1_takeOff (d + 1)) (Z : xR κ Q) (x1 : Int32) (x2 : Int32) (x3 : Int32) (st : xSt) (h : ((x1 ≤ x3 → Q none st) ∧ (¬ x1 ≤ x3 → ((8 ≤ x3 → Q none st) ∧ (¬ 8 ≤ x3 → vp_in x3 8 ∧ Ct d M_X1_nextOf [.ref 4, .int x3, .int x1] st (Qi fun v3 s2 => Ct d M_X1_lessen [.ref 4, .int (st.1 21 (x3 : Int32).toNatClampNeg), .int v3, .int x2] s2 (Qv fun s4 => X κ 46 [(0, .ref 4), (1, .int x1), (2, .int x2), (3, .int (x3 + 1))] [] s4))))))) : X κ 46 [(0, .ref 4), (1, .int x1), (2, .int x2), (3, .int x3)] [] st := by
  refine X_iload_n C dX1_takeOff_46 rfl (j := 3) rfl ?_
  refine X_iload_n C dX1_takeOff_47 rfl (j := 1) rfl ?_
  refine X_icmp_ge C dX1_takeOff_48 (tgt := 80) (by decide) (fun c => ?_) (fun c => ?_)
  · replace h := h.1 c
    exact X_vret C Z rfl dX1_takeOff_80 h
  · replace h := h.2 c
    refine X_iload_n C dX1_takeOff_51 rfl (j := 3) rfl ?_
    refine X_bipush C (v := 8) (by decide) dX1_takeOff_52 ?_
    refine X_icmp_ge C dX1_takeOff_54 (tgt := 80) (by decide) (fun c => ?_) (fun c => ?_)
    · replace h := h.1 c
      exact X_vret C Z rfl dX1_takeOff_80 h
    · replace h := h.2 c
      refine X_aload_n C dX1_takeOff_57 rfl (j := 0) rfl ?_
      refine X_aload_n C dX1_takeOff_58 rfl (j := 0) rfl ?_
      refine X_getR C sh_4 rfl fw_RX1_20 dX1_takeOff_59 ?_
      refine X_iload_n C dX1_takeOff_62 rfl (j := 3) rfl ?_
      obtain ⟨g1, h⟩ := h
      refine X_iald C sh_21 g1 dX1_takeOff_63 ?_
      refine X_aload_n C dX1_takeOff_64 rfl (j := 0) rfl ?_
      refine X_iload_n C dX1_takeOff_65 rfl (j := 3) rfl ?_
      refine X_iload_n C dX1_takeOff_66 rfl (j := 1) rfl ?_
      refine X_callV C dX1_takeOff_67 pw_RX1_62 (b := 4) (as := [.int x3, .int x1]) (S := [.int (st.1 21 (x3 : Int32).toNatClampNeg), .ref 4]) sh_4 rfl rfl rfl (Nat.le_of_ble_eq_true rfl) (Ct_mono h ?_)
      rintro _ s2 ⟨v3, rfl, h⟩
      show X κ 70 [(0, .ref 4), (1, .int x1), (2, .int x2), (3, .int x3)] [.int v3, .int (st.1 21 (x3 : Int32).toNatClampNeg), .ref 4] s2
      refine X_iload_n C dX1_takeOff_70 rfl (j := 2) rfl ?_
      refine X_callV C dX1_takeOff_71 pw_RX1_68 (b := 4) (as := [.int (st.1 21 (x3 : Int32).toNatClampNeg), .int v3, .int x2]) (S := []) sh_4 rfl rfl rfl (Nat.le_of_ble_eq_true rfl) (Ct_mono h ?_)
      rintro _ s4 ⟨rfl, h⟩
      show X κ 74 [(0, .ref 4), (1, .int x1), (2, .int x2), (3, .int x3)] [] s4
      refine X_iinc C dX1_takeOff_74 (j := 3) rfl (v := x3 + 1) rfl (by decide) (L' := [(3, .int (x3 + 1)), (0, .ref 4), (1, .int x1), (2, .int x2)]) rfl ?_
      refine X_goto C dX1_takeOff_77 (tgt := 46) (by decide) ?_
      refine X_loc [1, 2, 3, 0] rfl ?_
      exact h
set_option maxHeartbeats 4000000 in
set_option maxRecDepth 100000 in
theorem eX1_takeOff {d : Nat} {Q : Option Value → xSt → Prop} (a1 : Int32) (st : xSt) (h : ∀ κ : xK, Cx κ M_X1_takeOff (d + 1) → xR κ Q → X κ 6 [(0, .ref 4), (1, .int a1), (2, .int 400), (3, .int 0)] [] st) : Ct (d + 1) M_X1_takeOff [.ref 4, .int a1] st Q := by
  refine Ct_of (by decide +kernel) (Nat.le_of_ble_eq_true rfl) (fun κ C Z => ?_)
  replace h := h κ C Z
  show X κ 0 [(0, .ref 4), (1, .int a1)] [] st
  refine X_sipush C (v := 400) (by decide) dX1_takeOff_0 ?_
  refine X_istore_n C dX1_takeOff_3 rfl (by decide) (L' := [(2, .int 400), (0, .ref 4), (1, .int a1)]) rfl ?_
  refine X_iconst C (v := 0) (by decide) dX1_takeOff_4 ?_
  refine X_istore_n C dX1_takeOff_5 rfl (by decide) (L' := [(3, .int 0), (2, .int 400), (0, .ref 4), (1, .int a1)]) rfl ?_
  refine X_loc [2, 3, 1, 0] rfl ?_
  exact h
set_option maxHeartbeats 4000000 in
set_option maxRecDepth 100000 in
theorem eX1_nextOf {d : Nat} {Q : Option Value → xSt → Prop} (a1 : Int32) (a2 : Int32) (st : xSt) (h : ((a2 ≤ (a1 + 1) → Q (some (.int (st.1 21 (0 : Int32).toNatClampNeg))) st) ∧ (¬ a2 ≤ (a1 + 1) → ((8 ≤ (a1 + 1) → Q (some (.int (st.1 21 (0 : Int32).toNatClampNeg))) st) ∧ (¬ 8 ≤ (a1 + 1) → vp_in (a1 + 1) 8 ∧ Q (some (.int (st.1 21 (a1 + 1 : Int32).toNatClampNeg))) st))))) : Ct (d) M_X1_nextOf [.ref 4, .int a1, .int a2] st Q := by
  refine Ct_of (by decide +kernel) (Nat.le_of_ble_eq_true rfl) (fun κ C Z => ?_)
  show X κ 0 [(0, .ref 4), (1, .int a1), (2, .int a2)] [] st
  refine X_iload_n C dX1_nextOf_0 rfl (j := 1) rfl ?_
  refine X_iconst C (v := 1) (by decide) dX1_nextOf_1 ?_
  refine X_iadd C dX1_nextOf_2 ?_
  refine X_iload_n C dX1_nextOf_3 rfl (j := 2) rfl ?_
  refine X_icmp_ge C dX1_nextOf_4 (tgt := 26) (by decide) (fun c => ?_) (fun c => ?_)
  · replace h := h.1 c
    refine X_aload_n C dX1_nextOf_26 rfl (j := 0) rfl ?_
    refine X_getR C sh_4 rfl fw_RX1_20 dX1_nextOf_27 ?_
    refine X_iconst C (v := 0) (by decide) dX1_nextOf_30 ?_
    refine X_iald C sh_21 (by unfold vp_in; decide) dX1_nextOf_31 ?_
    exact X_iret C Z rfl dX1_nextOf_32 h
  · replace h := h.2 c
    refine X_iload_n C dX1_nextOf_7 rfl (j := 1) rfl ?_
    refine X_iconst C (v := 1) (by decide) dX1_nextOf_8 ?_
    refine X_iadd C dX1_nextOf_9 ?_
    refine X_bipush C (v := 8) (by decide) dX1_nextOf_10 ?_
    refine X_icmp_ge C dX1_nextOf_12 (tgt := 26) (by decide) (fun c => ?_) (fun c => ?_)
    · replace h := h.1 c
      refine X_aload_n C dX1_nextOf_26 rfl (j := 0) rfl ?_
      refine X_getR C sh_4 rfl fw_RX1_20 dX1_nextOf_27 ?_
      refine X_iconst C (v := 0) (by decide) dX1_nextOf_30 ?_
      refine X_iald C sh_21 (by unfold vp_in; decide) dX1_nextOf_31 ?_
      exact X_iret C Z rfl dX1_nextOf_32 h
    · replace h := h.2 c
      refine X_aload_n C dX1_nextOf_15 rfl (j := 0) rfl ?_
      refine X_getR C sh_4 rfl fw_RX1_20 dX1_nextOf_16 ?_
      refine X_iload_n C dX1_nextOf_19 rfl (j := 1) rfl ?_
      refine X_iconst C (v := 1) (by decide) dX1_nextOf_20 ?_
      refine X_iadd C dX1_nextOf_21 ?_
      obtain ⟨g1, h⟩ := h
      refine X_iald C sh_21 g1 dX1_nextOf_22 ?_
      refine X_goto C dX1_nextOf_23 (tgt := 32) (by decide) ?_
      exact X_iret C Z rfl dX1_nextOf_32 h
set_option maxHeartbeats 4000000 in
set_option maxRecDepth 100000 in
theorem eX1_lessen {d : Nat} {Q : Option Value → xSt → Prop} (a1 : Int32) (a2 : Int32) (a3 : Int32) (st : xSt) (h : Ct d M_X1_has [.ref 4, .int a1] st (Qi fun v2 s1 => ((v2 = 0 → Q none s1) ∧ (¬ v2 = 0 → Ct d M_X1_has [.ref 4, .int a2] s1 (Qi fun v4 s3 => ((v4 = 0 → Q none s3) ∧ (¬ v4 = 0 → vp_in a1 8 ∧ vp_in a2 8 ∧ vp_in a2 8 ∧ Q none (xup s3 (66 + (a1 : Int32).toNatClampNeg) (a2 : Int32).toNatClampNeg ((s3.1 (66 + (a1 : Int32).toNatClampNeg) (a2 : Int32).toNatClampNeg) - a3))))))))) : Ct (d + 1) M_X1_lessen [.ref 4, .int a1, .int a2, .int a3] st Q := by
  refine Ct_of (by decide +kernel) (Nat.le_of_ble_eq_true rfl) (fun κ C Z => ?_)
  show X κ 0 [(0, .ref 4), (1, .int a1), (2, .int a2), (3, .int a3)] [] st
  refine X_aload_n C dX1_lessen_0 rfl (j := 0) rfl ?_
  refine X_iload_n C dX1_lessen_1 rfl (j := 1) rfl ?_
  refine X_callV C dX1_lessen_2 pw_RX1_27 (b := 4) (as := [.int a1]) (S := []) sh_4 rfl rfl rfl (Nat.le_of_ble_eq_true rfl) (Ct_mono h ?_)
  rintro _ s1 ⟨v2, rfl, h⟩
  show X κ 5 [(0, .ref 4), (1, .int a1), (2, .int a2), (3, .int a3)] [.int v2] s1
  refine X_if_eq C dX1_lessen_5 (tgt := 28) (by decide) (fun c => ?_) (fun c => ?_)
  · replace h := h.1 c
    exact X_vret C Z rfl dX1_lessen_28 h
  · replace h := h.2 c
    refine X_aload_n C dX1_lessen_8 rfl (j := 0) rfl ?_
    refine X_iload_n C dX1_lessen_9 rfl (j := 2) rfl ?_
    refine X_callV C dX1_lessen_10 pw_RX1_27 (b := 4) (as := [.int a2]) (S := []) sh_4 rfl rfl rfl (Nat.le_of_ble_eq_true rfl) (Ct_mono h ?_)
    rintro _ s3 ⟨v4, rfl, h⟩
    show X κ 13 [(0, .ref 4), (1, .int a1), (2, .int a2), (3, .int a3)] [.int v4] s3
    refine X_if_eq C dX1_lessen_13 (tgt := 28) (by decide) (fun c => ?_) (fun c => ?_)
    · replace h := h.1 c
      exact X_vret C Z rfl dX1_lessen_28 h
    · replace h := h.2 c
      refine X_aload_n C dX1_lessen_16 rfl (j := 0) rfl ?_
      refine X_getR C sh_4 rfl fw_RX1_13 dX1_lessen_17 ?_
      refine X_iload_n C dX1_lessen_20 rfl (j := 1) rfl ?_
      obtain ⟨g5, h⟩ := h
      refine X_aald C sh_19 g5 dX1_lessen_21 ?_
      refine X_iload_n C dX1_lessen_22 rfl (j := 2) rfl ?_
      refine X_dup2 C rfl rfl dX1_lessen_23 ?_
      obtain ⟨g6, h⟩ := h
      refine X_iald C (shr_66 (vp_lt g5)) g6 dX1_lessen_24 ?_
      refine X_iload_n C dX1_lessen_25 rfl (j := 3) rfl ?_
      refine X_isub C dX1_lessen_26 ?_
      obtain ⟨g7, h⟩ := h
      refine X_iast C (shr_66 (vp_lt g5)) g7 dX1_lessen_27 ?_
      exact X_vret C Z rfl dX1_lessen_28 h
