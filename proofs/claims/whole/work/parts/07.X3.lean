set_option maxHeartbeats 4000000 in
set_option maxRecDepth 100000 in
theorem eX3_asks {d : Nat} {Q : Option Value → xSt → Prop} (a0 : Int32) (st : xSt) (h : ((a0 < 0 → Q (some (.int 0)) st) ∧ (¬ a0 < 0 → ((3 ≤ a0 → Q (some (.int 0)) st) ∧ (¬ 3 ≤ a0 → Q (some (.int 1)) st))))) : Ct (d) M_X3_asks [.int a0] st Q := by
  refine Ct_of (by decide +kernel) (Nat.le_of_ble_eq_true rfl) (fun κ C Z => ?_)
  show X κ 0 [(0, .int a0)] [] st
  refine X_iload_n C dX3_asks_0 rfl (j := 0) rfl ?_
  refine X_if_lt C dX3_asks_1 (tgt := 13) (by decide) (fun c => ?_) (fun c => ?_)
  · replace h := h.1 c
    refine X_iconst C (v := 0) (by decide) dX3_asks_13 ?_
    exact X_zret C Z rfl (by decide) dX3_asks_14 h
  · replace h := h.2 c
    refine X_iload_n C dX3_asks_4 rfl (j := 0) rfl ?_
    refine X_iconst C (v := 3) (by decide) dX3_asks_5 ?_
    refine X_icmp_ge C dX3_asks_6 (tgt := 13) (by decide) (fun c => ?_) (fun c => ?_)
    · replace h := h.1 c
      refine X_iconst C (v := 0) (by decide) dX3_asks_13 ?_
      exact X_zret C Z rfl (by decide) dX3_asks_14 h
    · replace h := h.2 c
      refine X_iconst C (v := 1) (by decide) dX3_asks_9 ?_
      refine X_goto C dX3_asks_10 (tgt := 14) (by decide) ?_
      exact X_zret C Z rfl (by decide) dX3_asks_14 h
set_option maxHeartbeats 4000000 in
set_option maxRecDepth 100000 in
theorem eX3_size {d : Nat} {Q : Option Value → xSt → Prop} (st : xSt) (h : Q (some (.int (st.1 3 4))) st) : Ct (d) M_X3_size [.ref 3] st Q := by
  refine Ct_of (by decide +kernel) (Nat.le_of_ble_eq_true rfl) (fun κ C Z => ?_)
  show X κ 0 [(0, .ref 3)] [] st
  refine X_aload_n C dX3_size_0 rfl (j := 0) rfl ?_
  refine X_getI C sh_3 rfl fw_RX3_31 dX3_size_1 ?_
  exact X_iret C Z rfl dX3_size_4 h
set_option maxHeartbeats 4000000 in
set_option maxRecDepth 100000 in
theorem eX3_matSize {d : Nat} {Q : Option Value → xSt → Prop} (st : xSt) (h : Q (some (.int (st.1 3 5))) st) : Ct (d) M_X3_matSize [.ref 3] st Q := by
  refine Ct_of (by decide +kernel) (Nat.le_of_ble_eq_true rfl) (fun κ C Z => ?_)
  show X κ 0 [(0, .ref 3)] [] st
  refine X_aload_n C dX3_matSize_0 rfl (j := 0) rfl ?_
  refine X_getI C sh_3 rfl fw_RX3_27 dX3_matSize_1 ?_
  exact X_iret C Z rfl dX3_matSize_4 h
set_option maxHeartbeats 4000000 in
set_option maxRecDepth 100000 in
theorem eX3_spread {d : Nat} {Q : Option Value → xSt → Prop} (a1 : Int32) (st : xSt) (h : Q (some (.int (st.1 3 5))) (xup st 3 5 a1)) : Ct (d) M_X3_spread [.ref 3, .int a1] st Q := by
  refine Ct_of (by decide +kernel) (Nat.le_of_ble_eq_true rfl) (fun κ C Z => ?_)
  show X κ 0 [(0, .ref 3), (1, .int a1)] [] st
  refine X_aload_n C dX3_spread_0 rfl (j := 0) rfl ?_
  refine X_getI C sh_3 rfl fw_RX3_27 dX3_spread_1 ?_
  refine X_istore_n C dX3_spread_4 rfl (by decide) (L' := [(2, .int (st.1 3 5)), (0, .ref 3), (1, .int a1)]) rfl ?_
  refine X_aload_n C dX3_spread_5 rfl (j := 1) rfl ?_
  refine X_iload_n C dX3_spread_6 rfl (j := 2) rfl ?_
  refine X_putI C sh_3 rfl fp_RX3_27 dX3_spread_7 ?_
  refine X_iload_n C dX3_spread_10 rfl (j := 0) rfl ?_
  exact X_iret C Z rfl dX3_spread_11 h
set_option maxHeartbeats 4000000 in
set_option maxRecDepth 100000 in
theorem eX3_empty {d : Nat} {Q : Option Value → xSt → Prop} (st : xSt) (h : Q (some (.int (st.1 3 4))) (xup st 3 4 0)) : Ct (d) M_X3_empty [.ref 3] st Q := by
  refine Ct_of (by decide +kernel) (Nat.le_of_ble_eq_true rfl) (fun κ C Z => ?_)
  show X κ 0 [(0, .ref 3)] [] st
  refine X_aload_n C dX3_empty_0 rfl (j := 0) rfl ?_
  refine X_getI C sh_3 rfl fw_RX3_31 dX3_empty_1 ?_
  refine X_istore_n C dX3_empty_4 rfl (by decide) (L' := [(1, .int (st.1 3 4)), (0, .ref 3)]) rfl ?_
  refine X_aload_n C dX3_empty_5 rfl (j := 1) rfl ?_
  refine X_iconst C (v := 0) (by decide) dX3_empty_6 ?_
  refine X_putI C sh_3 rfl fp_RX3_31 dX3_empty_7 ?_
  refine X_iload_n C dX3_empty_10 rfl (j := 0) rfl ?_
  exact X_iret C Z rfl dX3_empty_11 h
set_option maxHeartbeats 4000000 in
set_option maxRecDepth 100000 in
theorem eX3_add {d : Nat} {Q : Option Value → xSt → Prop} (a1 : Int32) (a2 : Int32) (a3 : Int32) (a4 : Int32) (st : xSt) (h : (((st.1 3 4) < 8 → vp_in (st.1 3 4) 8 ∧ vp_in ((xup st (58 + (st.1 3 4 : Int32).toNatClampNeg) (0 : Int32).toNatClampNeg a1).1 3 4) 8 ∧ vp_in ((xup (xup st (58 + (st.1 3 4 : Int32).toNatClampNeg) (0 : Int32).toNatClampNeg a1) (58 + ((xup st (58 + (st.1 3 4 : Int32).toNatClampNeg) (0 : Int32).toNatClampNeg a1).1 3 4 : Int32).toNatClampNeg) (1 : Int32).toNatClampNeg a2).1 3 4) 8 ∧ vp_in ((xup (xup (xup st (58 + (st.1 3 4 : Int32).toNatClampNeg) (0 : Int32).toNatClampNeg a1) (58 + ((xup st (58 + (st.1 3 4 : Int32).toNatClampNeg) (0 : Int32).toNatClampNeg a1).1 3 4 : Int32).toNatClampNeg) (1 : Int32).toNatClampNeg a2) (58 + ((xup (xup st (58 + (st.1 3 4 : Int32).toNatClampNeg) (0 : Int32).toNatClampNeg a1) (58 + ((xup st (58 + (st.1 3 4 : Int32).toNatClampNeg) (0 : Int32).toNatClampNeg a1).1 3 4 : Int32).toNatClampNeg) (1 : Int32).toNatClampNeg a2).1 3 4 : Int32).toNatClampNeg) (2 : Int32).toNatClampNeg a3).1 3 4) 8 ∧ Q (some (.int ((xup (xup (xup (xup (xup st (58 + (st.1 3 4 : Int32).toNatClampNeg) (0 : Int32).toNatClampNeg a1) (58 + ((xup st (58 + (st.1 3 4 : Int32).toNatClampNeg) (0 : Int32).toNatClampNeg a1).1 3 4 : Int32).toNatClampNeg) (1 : Int32).toNatClampNeg a2) (58 + ((xup (xup st (58 + (st.1 3 4 : Int32).toNatClampNeg) (0 : Int32).toNatClampNeg a1) (58 + ((xup st (58 + (st.1 3 4 : Int32).toNatClampNeg) (0 : Int32).toNatClampNeg a1).1 3 4 : Int32).toNatClampNeg) (1 : Int32).toNatClampNeg a2).1 3 4 : Int32).toNatClampNeg) (2 : Int32).toNatClampNeg a3) (58 + ((xup (xup (xup st (58 + (st.1 3 4 : Int32).toNatClampNeg) (0 : Int32).toNatClampNeg a1) (58 + ((xup st (58 + (st.1 3 4 : Int32).toNatClampNeg) (0 : Int32).toNatClampNeg a1).1 3 4 : Int32).toNatClampNeg) (1 : Int32).toNatClampNeg a2) (58 + ((xup (xup st (58 + (st.1 3 4 : Int32).toNatClampNeg) (0 : Int32).toNatClampNeg a1) (58 + ((xup st (58 + (st.1 3 4 : Int32).toNatClampNeg) (0 : Int32).toNatClampNeg a1).1 3 4 : Int32).toNatClampNeg) (1 : Int32).toNatClampNeg a2).1 3 4 : Int32).toNatClampNeg) (2 : Int32).toNatClampNeg a3).1 3 4 : Int32).toNatClampNeg) (3 : Int32).toNatClampNeg a4) 3 4 (((xup (xup (xup (xup st (58 + (st.1 3 4 : Int32).toNatClampNeg) (0 : Int32).toNatClampNeg a1) (58 + ((xup st (58 + (st.1 3 4 : Int32).toNatClampNeg) (0 : Int32).toNatClampNeg a1).1 3 4 : Int32).toNatClampNeg) (1 : Int32).toNatClampNeg a2) (58 + ((xup (xup st (58 + (st.1 3 4 : Int32).toNatClampNeg) (0 : Int32).toNatClampNeg a1) (58 + ((xup st (58 + (st.1 3 4 : Int32).toNatClampNeg) (0 : Int32).toNatClampNeg a1).1 3 4 : Int32).toNatClampNeg) (1 : Int32).toNatClampNeg a2).1 3 4 : Int32).toNatClampNeg) (2 : Int32).toNatClampNeg a3) (58 + ((xup (xup (xup st (58 + (st.1 3 4 : Int32).toNatClampNeg) (0 : Int32).toNatClampNeg a1) (58 + ((xup st (58 + (st.1 3 4 : Int32).toNatClampNeg) (0 : Int32).toNatClampNeg a1).1 3 4 : Int32).toNatClampNeg) (1 : Int32).toNatClampNeg a2) (58 + ((xup (xup st (58 + (st.1 3 4 : Int32).toNatClampNeg) (0 : Int32).toNatClampNeg a1) (58 + ((xup st (58 + (st.1 3 4 : Int32).toNatClampNeg) (0 : Int32).toNatClampNeg a1).1 3 4 : Int32).toNatClampNeg) (1 : Int32).toNatClampNeg a2).1 3 4 : Int32).toNatClampNeg) (2 : Int32).toNatClampNeg a3).1 3 4 : Int32).toNatClampNeg) (3 : Int32).toNatClampNeg a4).1 3 4) + 1)).1 3 4))) (xup (xup (xup (xup (xup st (58 + (st.1 3 4 : Int32).toNatClampNeg) (0 : Int32).toNatClampNeg a1) (58 + ((xup st (58 + (st.1 3 4 : Int32).toNatClampNeg) (0 : Int32).toNatClampNeg a1).1 3 4 : Int32).toNatClampNeg) (1 : Int32).toNatClampNeg a2) (58 + ((xup (xup st (58 + (st.1 3 4 : Int32).toNatClampNeg) (0 : Int32).toNatClampNeg a1) (58 + ((xup st (58 + (st.1 3 4 : Int32).toNatClampNeg) (0 : Int32).toNatClampNeg a1).1 3 4 : Int32).toNatClampNeg) (1 : Int32).toNatClampNeg a2).1 3 4 : Int32).toNatClampNeg) (2 : Int32).toNatClampNeg a3) (58 + ((xup (xup (xup st (58 + (st.1 3 4 : Int32).toNatClampNeg) (0 : Int32).toNatClampNeg a1) (58 + ((xup st (58 + (st.1 3 4 : Int32).toNatClampNeg) (0 : Int32).toNatClampNeg a1).1 3 4 : Int32).toNatClampNeg) (1 : Int32).toNatClampNeg a2) (58 + ((xup (xup st (58 + (st.1 3 4 : Int32).toNatClampNeg) (0 : Int32).toNatClampNeg a1) (58 + ((xup st (58 + (st.1 3 4 : Int32).toNatClampNeg) (0 : Int32).toNatClampNeg a1).1 3 4 : Int32).toNatClampNeg) (1 : Int32).toNatClampNeg a2).1 3 4 : Int32).toNatClampNeg) (2 : Int32).toNatClampNeg a3).1 3 4 : Int32).toNatClampNeg) (3 : Int32).toNatClampNeg a4) 3 4 (((xup (xup (xup (xup st (58 + (st.1 3 4 : Int32).toNatClampNeg) (0 : Int32).toNatClampNeg a1) (58 + ((xup st (58 + (st.1 3 4 : Int32).toNatClampNeg) (0 : Int32).toNatClampNeg a1).1 3 4 : Int32).toNatClampNeg) (1 : Int32).toNatClampNeg a2) (58 + ((xup (xup st (58 + (st.1 3 4 : Int32).toNatClampNeg) (0 : Int32).toNatClampNeg a1) (58 + ((xup st (58 + (st.1 3 4 : Int32).toNatClampNeg) (0 : Int32).toNatClampNeg a1).1 3 4 : Int32).toNatClampNeg) (1 : Int32).toNatClampNeg a2).1 3 4 : Int32).toNatClampNeg) (2 : Int32).toNatClampNeg a3) (58 + ((xup (xup (xup st (58 + (st.1 3 4 : Int32).toNatClampNeg) (0 : Int32).toNatClampNeg a1) (58 + ((xup st (58 + (st.1 3 4 : Int32).toNatClampNeg) (0 : Int32).toNatClampNeg a1).1 3 4 : Int32).toNatClampNeg) (1 : Int32).toNatClampNeg a2) (58 + ((xup (xup st (58 + (st.1 3 4 : Int32).toNatClampNeg) (0 : Int32).toNatClampNeg a1) (58 + ((xup st (58 + (st.1 3 4 : Int32).toNatClampNeg) (0 : Int32).toNatClampNeg a1).1 3 4 : Int32).toNatClampNeg) (1 : Int32).toNatClampNeg a2).1 3 4 : Int32).toNatClampNeg) (2 : Int32).toNatClampNeg a3).1 3 4 : Int32).toNatClampNeg) (3 : Int32).toNatClampNeg a4).1 3 4) + 1))) ∧ (¬ (st.1 3 4) < 8 → Q (some (.int ((-4)))) st))) : Ct (d) M_X3_add [.ref 3, .int a1, .int a2, .int a3, .int a4] st Q := by
  refine Ct_of (by decide +kernel) (Nat.le_of_ble_eq_true rfl) (fun κ C Z => ?_)
  show X κ 0 [(0, .ref 3), (1, .int a1), (2, .int a2), (3, .int a3), (4, .int a4)] [] st
  refine X_aload_n C dX3_add_0 rfl (j := 0) rfl ?_
  refine X_getI C sh_3 rfl fw_RX3_31 dX3_add_1 ?_
  refine X_bipush C (v := 8) (by decide) dX3_add_4 ?_
  refine X_icmp_lt C dX3_add_6 (tgt := 12) (by decide) (fun c => ?_) (fun c => ?_)
  · replace h := h.1 c
    refine X_aload_n C dX3_add_12 rfl (j := 0) rfl ?_
    refine X_getR C sh_3 rfl fw_RX3_13 dX3_add_13 ?_
    refine X_aload_n C dX3_add_16 rfl (j := 0) rfl ?_
    refine X_getI C sh_3 rfl fw_RX3_31 dX3_add_17 ?_
    obtain ⟨g1, h⟩ := h
    refine X_aald C sh_15 g1 dX3_add_20 ?_
    refine X_iconst C (v := 0) (by decide) dX3_add_21 ?_
    refine X_iload_n C dX3_add_22 rfl (j := 1) rfl ?_
    refine X_iast C (shr_58 (vp_lt g1)) (by unfold vp_in; decide) dX3_add_23 ?_
    refine X_aload_n C dX3_add_24 rfl (j := 0) rfl ?_
    refine X_getR C sh_3 rfl fw_RX3_13 dX3_add_25 ?_
    refine X_aload_n C dX3_add_28 rfl (j := 0) rfl ?_
    refine X_getI C sh_3 rfl fw_RX3_31 dX3_add_29 ?_
    obtain ⟨g2, h⟩ := h
    refine X_aald C sh_15 g2 dX3_add_32 ?_
    refine X_iconst C (v := 1) (by decide) dX3_add_33 ?_
    refine X_iload_n C dX3_add_34 rfl (j := 2) rfl ?_
    refine X_iast C (shr_58 (vp_lt g2)) (by unfold vp_in; decide) dX3_add_35 ?_
    refine X_aload_n C dX3_add_36 rfl (j := 0) rfl ?_
    refine X_getR C sh_3 rfl fw_RX3_13 dX3_add_37 ?_
    refine X_aload_n C dX3_add_40 rfl (j := 0) rfl ?_
    refine X_getI C sh_3 rfl fw_RX3_31 dX3_add_41 ?_
    obtain ⟨g3, h⟩ := h
    refine X_aald C sh_15 g3 dX3_add_44 ?_
    refine X_iconst C (v := 2) (by decide) dX3_add_45 ?_
    refine X_iload_n C dX3_add_46 rfl (j := 3) rfl ?_
    refine X_iast C (shr_58 (vp_lt g3)) (by unfold vp_in; decide) dX3_add_47 ?_
    refine X_aload_n C dX3_add_48 rfl (j := 0) rfl ?_
    refine X_getR C sh_3 rfl fw_RX3_13 dX3_add_49 ?_
    refine X_aload_n C dX3_add_52 rfl (j := 0) rfl ?_
    refine X_getI C sh_3 rfl fw_RX3_31 dX3_add_53 ?_
    obtain ⟨g4, h⟩ := h
    refine X_aald C sh_15 g4 dX3_add_56 ?_
    refine X_iconst C (v := 3) (by decide) dX3_add_57 ?_
    refine X_iload C dX3_add_58 (j := 4) rfl ?_
    refine X_iast C (shr_58 (vp_lt g4)) (by unfold vp_in; decide) dX3_add_60 ?_
    refine X_aload_n C dX3_add_61 rfl (j := 0) rfl ?_
    refine X_dup C rfl dX3_add_62 ?_
    refine X_getI C sh_3 rfl fw_RX3_31 dX3_add_63 ?_
    refine X_iconst C (v := 1) (by decide) dX3_add_66 ?_
    refine X_iadd C dX3_add_67 ?_
    refine X_putI C sh_3 rfl fp_RX3_31 dX3_add_68 ?_
    refine X_aload_n C dX3_add_71 rfl (j := 0) rfl ?_
    refine X_getI C sh_3 rfl fw_RX3_31 dX3_add_72 ?_
    exact X_iret C Z rfl dX3_add_75 h
  · replace h := h.2 c
    refine X_bipush C (v := (-4)) (by decide) dX3_add_9 ?_
    exact X_iret C Z rfl dX3_add_11 h
set_option maxHeartbeats 4000000 in
set_option maxRecDepth 100000 in
theorem eX3_addPoint {d : Nat} {Q : Option Value → xSt → Prop} (a1 : Int32) (a2 : Int32) (a3 : Int32) (a4 : Int32) (a5 : Int32) (st : xSt) (h : (((st.1 3 4) < 8 → vp_in (st.1 3 4) 8 ∧ vp_in ((xup st (58 + (st.1 3 4 : Int32).toNatClampNeg) (4 : Int32).toNatClampNeg a4).1 3 4) 8 ∧ Ct d M_X3_add [.ref 3, .int 0, .int a1, .int a2, .int a3] (xup (xup st (58 + (st.1 3 4 : Int32).toNatClampNeg) (4 : Int32).toNatClampNeg a4) (58 + ((xup st (58 + (st.1 3 4 : Int32).toNatClampNeg) (4 : Int32).toNatClampNeg a4).1 3 4 : Int32).toNatClampNeg) (5 : Int32).toNatClampNeg a5) (Qi fun v4 s3 => Q (some (.int v4)) s3)) ∧ (¬ (st.1 3 4) < 8 → Q (some (.int ((-4)))) st))) : Ct (d + 1) M_X3_addPoint [.ref 3, .int a1, .int a2, .int a3, .int a4, .int a5] st Q := by
  refine Ct_of (by decide +kernel) (Nat.le_of_ble_eq_true rfl) (fun κ C Z => ?_)
  show X κ 0 [(0, .ref 3), (1, .int a1), (2, .int a2), (3, .int a3), (4, .int a4), (5, .int a5)] [] st
  refine X_aload_n C dX3_addPoint_0 rfl (j := 0) rfl ?_
  refine X_getI C sh_3 rfl fw_RX3_31 dX3_addPoint_1 ?_
  refine X_bipush C (v := 8) (by decide) dX3_addPoint_4 ?_
  refine X_icmp_lt C dX3_addPoint_6 (tgt := 12) (by decide) (fun c => ?_) (fun c => ?_)
  · replace h := h.1 c
    refine X_aload_n C dX3_addPoint_12 rfl (j := 0) rfl ?_
    refine X_getR C sh_3 rfl fw_RX3_13 dX3_addPoint_13 ?_
    refine X_aload_n C dX3_addPoint_16 rfl (j := 0) rfl ?_
    refine X_getI C sh_3 rfl fw_RX3_31 dX3_addPoint_17 ?_
    obtain ⟨g1, h⟩ := h
    refine X_aald C sh_15 g1 dX3_addPoint_20 ?_
    refine X_iconst C (v := 4) (by decide) dX3_addPoint_21 ?_
    refine X_iload C dX3_addPoint_22 (j := 4) rfl ?_
    refine X_iast C (shr_58 (vp_lt g1)) (by unfold vp_in; decide) dX3_addPoint_24 ?_
    refine X_aload_n C dX3_addPoint_25 rfl (j := 0) rfl ?_
    refine X_getR C sh_3 rfl fw_RX3_13 dX3_addPoint_26 ?_
    refine X_aload_n C dX3_addPoint_29 rfl (j := 0) rfl ?_
    refine X_getI C sh_3 rfl fw_RX3_31 dX3_addPoint_30 ?_
    obtain ⟨g2, h⟩ := h
    refine X_aald C sh_15 g2 dX3_addPoint_33 ?_
    refine X_iconst C (v := 5) (by decide) dX3_addPoint_34 ?_
    refine X_iload C dX3_addPoint_35 (j := 5) rfl ?_
    refine X_iast C (shr_58 (vp_lt g2)) (by unfold vp_in; decide) dX3_addPoint_37 ?_
    refine X_aload_n C dX3_addPoint_38 rfl (j := 0) rfl ?_
    refine X_iconst C (v := 0) (by decide) dX3_addPoint_39 ?_
    refine X_iload_n C dX3_addPoint_40 rfl (j := 1) rfl ?_
    refine X_iload_n C dX3_addPoint_41 rfl (j := 2) rfl ?_
    refine X_iload_n C dX3_addPoint_42 rfl (j := 3) rfl ?_
    refine X_callV C dX3_addPoint_43 pw_RX3_34 (b := 3) (as := [.int 0, .int a1, .int a2, .int a3]) (S := []) sh_3 rfl rfl rfl (Nat.le_of_ble_eq_true rfl) (Ct_mono h ?_)
    rintro _ s3 ⟨v4, rfl, h⟩
    show X κ 46 [(0, .ref 3), (1, .int a1), (2, .int a2), (3, .int a3), (4, .int a4), (5, .int a5)] [.int v4] s3
    exact X_iret C Z rfl dX3_addPoint_46 h
  · replace h := h.2 c
    refine X_bipush C (v := (-4)) (by decide) dX3_addPoint_9 ?_
    exact X_iret C Z rfl dX3_addPoint_11 h
set_option maxHeartbeats 4000000 in
set_option maxRecDepth 100000 in
theorem eX3_howMany {d : Nat} {Q : Option Value → xSt → Prop} (st : xSt) (h : Ct d M_X3_prepare [.ref 3, .ref 2] st (Qv fun s1 => Ct d M_X3_allClues [.ref 3] s1 (Qi fun v3 s2 => Ct d M_X3_search [.ref 3, .int v3, .int ((-1))] s2 (Qv fun s4 => Q (some (.int (s4.1 3 6))) s4)))) : Ct (d + 1) M_X3_howMany [.ref 3, .ref 2] st Q := by
  refine Ct_of (by decide +kernel) (Nat.le_of_ble_eq_true rfl) (fun κ C Z => ?_)
  show X κ 0 [(0, .ref 3), (1, .ref 2)] [] st
  refine X_aload_n C dX3_howMany_0 rfl (j := 0) rfl ?_
  refine X_aload_n C dX3_howMany_1 rfl (j := 1) rfl ?_
  refine X_callV C dX3_howMany_2 pw_RX3_38 (b := 3) (as := [.ref 2]) (S := []) sh_3 rfl rfl rfl (Nat.le_of_ble_eq_true rfl) (Ct_mono h ?_)
  rintro _ s1 ⟨rfl, h⟩
  show X κ 5 [(0, .ref 3), (1, .ref 2)] [] s1
  refine X_aload_n C dX3_howMany_5 rfl (j := 0) rfl ?_
  refine X_aload_n C dX3_howMany_6 rfl (j := 0) rfl ?_
  refine X_callV C dX3_howMany_7 pw_RX3_42 (b := 3) (as := []) (S := [.ref 3]) sh_3 rfl rfl rfl (Nat.le_of_ble_eq_true rfl) (Ct_mono h ?_)
  rintro _ s2 ⟨v3, rfl, h⟩
  show X κ 10 [(0, .ref 3), (1, .ref 2)] [.int v3, .ref 3] s2
  refine X_iconst C (v := (-1)) (by decide) dX3_howMany_10 ?_
  refine X_callV C dX3_howMany_11 pw_RX3_46 (b := 3) (as := [.int v3, .int ((-1))]) (S := []) sh_3 rfl rfl rfl (Nat.le_of_ble_eq_true rfl) (Ct_mono h ?_)
  rintro _ s4 ⟨rfl, h⟩
  show X κ 14 [(0, .ref 3), (1, .ref 2)] [] s4
  refine X_aload_n C dX3_howMany_14 rfl (j := 0) rfl ?_
  refine X_getI C sh_3 rfl fw_RX3_50 dX3_howMany_15 ?_
  exact X_iret C Z rfl dX3_howMany_18 h
set_option maxHeartbeats 4000000 in
set_option maxRecDepth 100000 in
theorem eX3_pick {d : Nat} {Q : Option Value → xSt → Prop} (a2 : Int32) (a3 : Int32) (st : xSt) (h : Ct d M_X3_prepare [.ref 3, .ref 2] st (Qv fun s1 => Ct d M_X3_allClues [.ref 3] s1 (Qi fun v3 s2 => Ct d M_X3_search [.ref 3, .int v3, .int a2] s2 (Qv fun s4 => (((s4.1 3 6) ≤ a2 → Q (some (.int ((-1)))) s4) ∧ (¬ (s4.1 3 6) ≤ a2 → Ct d M_X3_asks [.int a3] s4 (Qi fun v6 s5 => ((v6 = 0 → Q (some (.int ((-1)))) s5) ∧ (¬ v6 = 0 → vp_in a3 3 ∧ Q (some (.int (s5.1 18 (a3 : Int32).toNatClampNeg))) s5))))))))) : Ct (d + 1) M_X3_pick [.ref 3, .ref 2, .int a2, .int a3] st Q := by
  refine Ct_of (by decide +kernel) (Nat.le_of_ble_eq_true rfl) (fun κ C Z => ?_)
  show X κ 0 [(0, .ref 3), (1, .ref 2), (2, .int a2), (3, .int a3)] [] st
  refine X_aload_n C dX3_pick_0 rfl (j := 0) rfl ?_
  refine X_aload_n C dX3_pick_1 rfl (j := 1) rfl ?_
  refine X_callV C dX3_pick_2 pw_RX3_38 (b := 3) (as := [.ref 2]) (S := []) sh_3 rfl rfl rfl (Nat.le_of_ble_eq_true rfl) (Ct_mono h ?_)
  rintro _ s1 ⟨rfl, h⟩
  show X κ 5 [(0, .ref 3), (1, .ref 2), (2, .int a2), (3, .int a3)] [] s1
  refine X_aload_n C dX3_pick_5 rfl (j := 0) rfl ?_
  refine X_aload_n C dX3_pick_6 rfl (j := 0) rfl ?_
  refine X_callV C dX3_pick_7 pw_RX3_42 (b := 3) (as := []) (S := [.ref 3]) sh_3 rfl rfl rfl (Nat.le_of_ble_eq_true rfl) (Ct_mono h ?_)
  rintro _ s2 ⟨v3, rfl, h⟩
  show X κ 10 [(0, .ref 3), (1, .ref 2), (2, .int a2), (3, .int a3)] [.int v3, .ref 3] s2
  refine X_iload_n C dX3_pick_10 rfl (j := 2) rfl ?_
  refine X_callV C dX3_pick_11 pw_RX3_46 (b := 3) (as := [.int v3, .int a2]) (S := []) sh_3 rfl rfl rfl (Nat.le_of_ble_eq_true rfl) (Ct_mono h ?_)
  rintro _ s4 ⟨rfl, h⟩
  show X κ 14 [(0, .ref 3), (1, .ref 2), (2, .int a2), (3, .int a3)] [] s4
  refine X_aload_n C dX3_pick_14 rfl (j := 0) rfl ?_
  refine X_getI C sh_3 rfl fw_RX3_50 dX3_pick_15 ?_
  refine X_iload_n C dX3_pick_18 rfl (j := 2) rfl ?_
  refine X_icmp_le C dX3_pick_19 (tgt := 38) (by decide) (fun c => ?_) (fun c => ?_)
  · replace h := h.1 c
    refine X_iconst C (v := (-1)) (by decide) dX3_pick_38 ?_
    exact X_iret C Z rfl dX3_pick_39 h
  · replace h := h.2 c
    refine X_iload_n C dX3_pick_22 rfl (j := 3) rfl ?_
    refine X_callS C dX3_pick_23 pw_RX3_53 (as := [.int a3]) (S := []) rfl rfl (Nat.le_of_ble_eq_true rfl) (Ct_mono h ?_)
    rintro _ s5 ⟨v6, rfl, h⟩
    show X κ 26 [(0, .ref 3), (1, .ref 2), (2, .int a2), (3, .int a3)] [.int v6] s5
    refine X_if_eq C dX3_pick_26 (tgt := 38) (by decide) (fun c => ?_) (fun c => ?_)
    · replace h := h.1 c
      refine X_iconst C (v := (-1)) (by decide) dX3_pick_38 ?_
      exact X_iret C Z rfl dX3_pick_39 h
    · replace h := h.2 c
      refine X_aload_n C dX3_pick_29 rfl (j := 0) rfl ?_
      refine X_getR C sh_3 rfl fw_RX3_23 dX3_pick_30 ?_
      refine X_iload_n C dX3_pick_33 rfl (j := 3) rfl ?_
      obtain ⟨g7, h⟩ := h
      refine X_iald C sh_18 g7 dX3_pick_34 ?_
      refine X_goto C dX3_pick_35 (tgt := 39) (by decide) ?_
      exact X_iret C Z rfl dX3_pick_39 h
set_option maxHeartbeats 4000000 in
set_option maxRecDepth 100000 in
theorem eX3_certain {d : Nat} {Q : Option Value → xSt → Prop} (a2 : Int32) (st : xSt) (h : Ct d M_X3_prepare [.ref 3, .ref 2] st (Qv fun s1 => Ct d M_X3_allClues [.ref 3] s1 (Qi fun v3 s2 => Ct d M_X3_search [.ref 3, .int v3, .int ((-1))] s2 (Qv fun s4 => (((s4.1 3 6) = 0 → Q (some (.int ((-3)))) s4) ∧ (¬ (s4.1 3 6) = 0 → Ct d M_X3_asks [.int a2] s4 (Qi fun v6 s5 => ((¬ v6 = 0 → vp_in a2 3 ∧ Ct d M_J13_bitCount_95d88 [.long (s5.2 17 (a2 : Int32).toNatClampNeg)] s5 (Qi fun v9 s8 => ((¬ v9 = 1 → Q (some (.int ((-1)))) s8) ∧ (v9 = 1 → vp_in a2 3 ∧ Ct d M_X3_nth [.long (s8.2 17 (a2 : Int32).toNatClampNeg), .int 0] s8 (Qi fun v12 s11 => Q (some (.int v12)) s11))))) ∧ (v6 = 0 → Q (some (.int ((-3)))) s5))))))))) : Ct (d + 1) M_X3_certain [.ref 3, .ref 2, .int a2] st Q := by
  refine Ct_of (by decide +kernel) (Nat.le_of_ble_eq_true rfl) (fun κ C Z => ?_)
  show X κ 0 [(0, .ref 3), (1, .ref 2), (2, .int a2)] [] st
  refine X_aload_n C dX3_certain_0 rfl (j := 0) rfl ?_
  refine X_aload_n C dX3_certain_1 rfl (j := 1) rfl ?_
  refine X_callV C dX3_certain_2 pw_RX3_38 (b := 3) (as := [.ref 2]) (S := []) sh_3 rfl rfl rfl (Nat.le_of_ble_eq_true rfl) (Ct_mono h ?_)
  rintro _ s1 ⟨rfl, h⟩
  show X κ 5 [(0, .ref 3), (1, .ref 2), (2, .int a2)] [] s1
  refine X_aload_n C dX3_certain_5 rfl (j := 0) rfl ?_
  refine X_aload_n C dX3_certain_6 rfl (j := 0) rfl ?_
  refine X_callV C dX3_certain_7 pw_RX3_42 (b := 3) (as := []) (S := [.ref 3]) sh_3 rfl rfl rfl (Nat.le_of_ble_eq_true rfl) (Ct_mono h ?_)
  rintro _ s2 ⟨v3, rfl, h⟩
  show X κ 10 [(0, .ref 3), (1, .ref 2), (2, .int a2)] [.int v3, .ref 3] s2
  refine X_iconst C (v := (-1)) (by decide) dX3_certain_10 ?_
  refine X_callV C dX3_certain_11 pw_RX3_46 (b := 3) (as := [.int v3, .int ((-1))]) (S := []) sh_3 rfl rfl rfl (Nat.le_of_ble_eq_true rfl) (Ct_mono h ?_)
  rintro _ s4 ⟨rfl, h⟩
  show X κ 14 [(0, .ref 3), (1, .ref 2), (2, .int a2)] [] s4
  refine X_aload_n C dX3_certain_14 rfl (j := 0) rfl ?_
  refine X_getI C sh_3 rfl fw_RX3_50 dX3_certain_15 ?_
  refine X_if_eq C dX3_certain_18 (tgt := 28) (by decide) (fun c => ?_) (fun c => ?_)
  · replace h := h.1 c
    refine X_bipush C (v := (-3)) (by decide) dX3_certain_28 ?_
    exact X_iret C Z rfl dX3_certain_30 h
  · replace h := h.2 c
    refine X_iload_n C dX3_certain_21 rfl (j := 2) rfl ?_
    refine X_callS C dX3_certain_22 pw_RX3_53 (as := [.int a2]) (S := []) rfl rfl (Nat.le_of_ble_eq_true rfl) (Ct_mono h ?_)
    rintro _ s5 ⟨v6, rfl, h⟩
    show X κ 25 [(0, .ref 3), (1, .ref 2), (2, .int a2)] [.int v6] s5
    refine X_if_ne C dX3_certain_25 (tgt := 31) (by decide) (fun c => ?_) (fun c => ?_)
    · replace h := h.1 c
      refine X_aload_n C dX3_certain_31 rfl (j := 0) rfl ?_
      refine X_getR C sh_3 rfl fw_RX3_20 dX3_certain_32 ?_
      refine X_iload_n C dX3_certain_35 rfl (j := 2) rfl ?_
      obtain ⟨g7, h⟩ := h
      refine X_lald C sh_17 g7 dX3_certain_36 ?_
      refine X_callS C dX3_certain_37 pw_RX3_57 (as := [.long (s5.2 17 (a2 : Int32).toNatClampNeg)]) (S := []) rfl rfl (Nat.le_of_ble_eq_true rfl) (Ct_mono h ?_)
      rintro _ s8 ⟨v9, rfl, h⟩
      show X κ 40 [(0, .ref 3), (1, .ref 2), (2, .int a2)] [.int v9] s8
      refine X_iconst C (v := 1) (by decide) dX3_certain_40 ?_
      refine X_icmp_ne C dX3_certain_41 (tgt := 57) (by decide) (fun c => ?_) (fun c => ?_)
      · replace h := h.1 c
        refine X_iconst C (v := (-1)) (by decide) dX3_certain_57 ?_
        exact X_iret C Z rfl dX3_certain_58 h
      · replace h := h.2 c
        refine X_aload_n C dX3_certain_44 rfl (j := 0) rfl ?_
        refine X_getR C sh_3 rfl fw_RX3_20 dX3_certain_45 ?_
        refine X_iload_n C dX3_certain_48 rfl (j := 2) rfl ?_
        obtain ⟨g10, h⟩ := h
        refine X_lald C sh_17 g10 dX3_certain_49 ?_
        refine X_iconst C (v := 0) (by decide) dX3_certain_50 ?_
        refine X_callS C dX3_certain_51 pw_RX3_63 (as := [.long (s8.2 17 (a2 : Int32).toNatClampNeg), .int 0]) (S := []) rfl rfl (Nat.le_of_ble_eq_true rfl) (Ct_mono h ?_)
        rintro _ s11 ⟨v12, rfl, h⟩
        show X κ 54 [(0, .ref 3), (1, .ref 2), (2, .int a2)] [.int v12] s11
        refine X_goto C dX3_certain_54 (tgt := 58) (by decide) ?_
        exact X_iret C Z rfl dX3_certain_58 h
    · replace h := h.2 c
      refine X_bipush C (v := (-3)) (by decide) dX3_certain_28 ?_
      exact X_iret C Z rfl dX3_certain_30 h
set_option maxHeartbeats 4000000 in
set_option maxRecDepth 100000 in
theorem bX3_leastWithout_22 {κ : xK} {d : Nat} {Q : Option Value → xSt → Prop} (C : Cx κ M_X3_leastWithout (d + 1)) (Z : xR κ Q) (x2 : Int32) (x3 : Int32) (st : xSt) (h : (((st.1 3 4) ≤ x3 → Q (some (.int x2)) st) ∧ (¬ (st.1 3 4) ≤ x3 → X κ 33 [(0, .ref 3), (2, .int x2), (3, .int x3), (4, .int 1)] [] st))) : X κ 22 [(0, .ref 3), (2, .int x2), (3, .int x3)] [] st := by
  refine X_iload_n C dX3_leastWithout_22 rfl (j := 2) rfl ?_
  refine X_aload_n C dX3_leastWithout_23 rfl (j := 0) rfl ?_
  refine X_getI C sh_3 rfl fw_RX3_31 dX3_leastWithout_24 ?_
  refine X_icmp_ge C dX3_leastWithout_27 (tgt := 72) (by decide) (fun c => ?_) (fun c => ?_)
  · replace h := h.1 c
    refine X_iload_n C dX3_leastWithout_72 rfl (j := 1) rfl ?_
    exact X_iret C Z rfl dX3_leastWithout_73 h
  · replace h := h.2 c
    refine X_iconst C (v := 1) (by decide) dX3_leastWithout_30 ?_
    refine X_istore C dX3_leastWithout_31 (by decide) (L' := [(4, .int 1), (0, .ref 3), (2, .int x2), (3, .int x3)]) rfl ?_
    refine X_loc [1, 2, 3, 0] rfl ?_
    exact h
set_option maxHeartbeats 4000000 in
set_option maxRecDepth 100000 in
theorem bX3_leastWithout_33 {κ : xK} {d : Nat} {Q : Option Value → xSt → Prop} (C : Cx κ M_X3_leastWithout (d + 1)) (Z : xR κ Q) (x2 : Int32) (x3 : Int32) (x4 : Int32) (st : xSt) (h : ((x2 ≤ x4 → X κ 22 [(0, .ref 3), (2, .int x2), (3, .int (x3 + 1))] [] st) ∧ (¬ x2 ≤ x4 → Ct d M_J6_bitCount_0f7a4 [.int x4] st (Qi fun v2 s1 => ((¬ v2 = x3 → X κ 33 [(0, .ref 3), (2, .int x2), (3, .int x3), (4, .int (x4 + 1))] [] s1) ∧ (v2 = x3 → Ct d M_X3_hasSolution [.ref 3, .int x4] s1 (Qi fun v4 s3 => ((¬ v4 = 0 → X κ 33 [(0, .ref 3), (2, .int x2), (3, .int x3), (4, .int (x4 + 1))] [] s3) ∧ (v4 = 0 → Q (some (.int x4)) s3))))))))) : X κ 33 [(0, .ref 3), (2, .int x2), (3, .int x3), (4, .int x4)] [] st := by
  refine X_iload C dX3_leastWithout_33 (j := 3) rfl ?_
  refine X_iload_n C dX3_leastWithout_35 rfl (j := 1) rfl ?_
  refine X_icmp_ge C dX3_leastWithout_36 (tgt := 66) (by decide) (fun c => ?_) (fun c => ?_)
  · replace h := h.1 c
    refine X_iinc C dX3_leastWithout_66 (j := 2) rfl (v := x3 + 1) rfl (by decide) (L' := [(3, .int (x3 + 1)), (0, .ref 3), (2, .int x2), (4, .int x4)]) rfl ?_
    refine X_goto C dX3_leastWithout_69 (tgt := 22) (by decide) ?_
    refine X_loc [1, 2, 0] rfl ?_
    exact h
  · replace h := h.2 c
    refine X_iload C dX3_leastWithout_39 (j := 3) rfl ?_
    refine X_callS C dX3_leastWithout_41 pw_RX3_70 (as := [.int x4]) (S := []) rfl rfl (Nat.le_of_ble_eq_true rfl) (Ct_mono h ?_)
    rintro _ s1 ⟨v2, rfl, h⟩
    show X κ 44 [(0, .ref 3), (2, .int x2), (3, .int x3), (4, .int x4)] [.int v2] s1
    refine X_iload_n C dX3_leastWithout_44 rfl (j := 2) rfl ?_
    refine X_icmp_ne C dX3_leastWithout_45 (tgt := 60) (by decide) (fun c => ?_) (fun c => ?_)
    · replace h := h.1 c
      refine X_iinc C dX3_leastWithout_60 (j := 3) rfl (v := x4 + 1) rfl (by decide) (L' := [(4, .int (x4 + 1)), (0, .ref 3), (2, .int x2), (3, .int x3)]) rfl ?_
      refine X_goto C dX3_leastWithout_63 (tgt := 33) (by decide) ?_
      refine X_loc [1, 2, 3, 0] rfl ?_
      exact h
    · replace h := h.2 c
      refine X_aload_n C dX3_leastWithout_48 rfl (j := 0) rfl ?_
      refine X_iload C dX3_leastWithout_49 (j := 3) rfl ?_
      refine X_callV C dX3_leastWithout_51 pw_RX3_67 (b := 3) (as := [.int x4]) (S := []) sh_3 rfl rfl rfl (Nat.le_of_ble_eq_true rfl) (Ct_mono h ?_)
      rintro _ s3 ⟨v4, rfl, h⟩
      show X κ 54 [(0, .ref 3), (2, .int x2), (3, .int x3), (4, .int x4)] [.int v4] s3
      refine X_if_ne C dX3_leastWithout_54 (tgt := 60) (by decide) (fun c => ?_) (fun c => ?_)
      · replace h := h.1 c
        refine X_iinc C dX3_leastWithout_60 (j := 3) rfl (v := x4 + 1) rfl (by decide) (L' := [(4, .int (x4 + 1)), (0, .ref 3), (2, .int x2), (3, .int x3)]) rfl ?_
        refine X_goto C dX3_leastWithout_63 (tgt := 33) (by decide) ?_
        refine X_loc [1, 2, 3, 0] rfl ?_
        exact h
      · replace h := h.2 c
        refine X_iload C dX3_leastWithout_57 (j := 3) rfl ?_
        exact X_iret C Z rfl dX3_leastWithout_59 h
set_option maxHeartbeats 4000000 in
set_option maxRecDepth 100000 in
theorem eX3_leastWithout {d : Nat} {Q : Option Value → xSt → Prop} (st : xSt) (h : ∀ κ : xK, Cx κ M_X3_leastWithout (d + 1) → xR κ Q → Ct d M_X3_prepare [.ref 3, .ref 2] st (Qv fun s1 => Ct d M_X3_allClues [.ref 3] s1 (Qi fun v3 s2 => Ct d M_X3_hasSolution [.ref 3, .int v3] s2 (Qi fun v5 s4 => ((v5 = 0 → X κ 22 [(0, .ref 3), (2, .int v3), (3, .int 1)] [] s4) ∧ (¬ v5 = 0 → Q (some (.int 0)) s4)))))) : Ct (d + 1) M_X3_leastWithout [.ref 3, .ref 2] st Q := by
  refine Ct_of (by decide +kernel) (Nat.le_of_ble_eq_true rfl) (fun κ C Z => ?_)
  replace h := h κ C Z
  show X κ 0 [(0, .ref 3), (1, .ref 2)] [] st
  refine X_aload_n C dX3_leastWithout_0 rfl (j := 0) rfl ?_
  refine X_aload_n C dX3_leastWithout_1 rfl (j := 1) rfl ?_
  refine X_callV C dX3_leastWithout_2 pw_RX3_38 (b := 3) (as := [.ref 2]) (S := []) sh_3 rfl rfl rfl (Nat.le_of_ble_eq_true rfl) (Ct_mono h ?_)
  rintro _ s1 ⟨rfl, h⟩
  show X κ 5 [(0, .ref 3), (1, .ref 2)] [] s1
  refine X_aload_n C dX3_leastWithout_5 rfl (j := 0) rfl ?_
  refine X_callV C dX3_leastWithout_6 pw_RX3_42 (b := 3) (as := []) (S := []) sh_3 rfl rfl rfl (Nat.le_of_ble_eq_true rfl) (Ct_mono h ?_)
  rintro _ s2 ⟨v3, rfl, h⟩
  show X κ 9 [(0, .ref 3), (1, .ref 2)] [.int v3] s2
  refine X_istore_n C dX3_leastWithout_9 rfl (by decide) (L' := [(2, .int v3), (0, .ref 3), (1, .ref 2)]) rfl ?_
  refine X_aload_n C dX3_leastWithout_10 rfl (j := 1) rfl ?_
  refine X_iload_n C dX3_leastWithout_11 rfl (j := 0) rfl ?_
  refine X_callV C dX3_leastWithout_12 pw_RX3_67 (b := 3) (as := [.int v3]) (S := []) sh_3 rfl rfl rfl (Nat.le_of_ble_eq_true rfl) (Ct_mono h ?_)
  rintro _ s4 ⟨v5, rfl, h⟩
  show X κ 15 [(2, .int v3), (0, .ref 3), (1, .ref 2)] [.int v5] s4
  refine X_if_eq C dX3_leastWithout_15 (tgt := 20) (by decide) (fun c => ?_) (fun c => ?_)
  · replace h := h.1 c
    refine X_iconst C (v := 1) (by decide) dX3_leastWithout_20 ?_
    refine X_istore_n C dX3_leastWithout_21 rfl (by decide) (L' := [(3, .int 1), (2, .int v3), (0, .ref 3), (1, .ref 2)]) rfl ?_
    refine X_loc [2, 1, 0] rfl ?_
    exact h
  · replace h := h.2 c
    refine X_iconst C (v := 0) (by decide) dX3_leastWithout_18 ?_
    exact X_iret C Z rfl dX3_leastWithout_19 h
set_option maxHeartbeats 4000000 in
set_option maxRecDepth 100000 in
theorem eX3_allClues {d : Nat} {Q : Option Value → xSt → Prop} (st : xSt) (h : Q (some (.int (((1 : Int32) <<< ((st.1 3 4 : Int32) &&& 31)) - 1))) st) : Ct (d) M_X3_allClues [.ref 3] st Q := by
  refine Ct_of (by decide +kernel) (Nat.le_of_ble_eq_true rfl) (fun κ C Z => ?_)
  show X κ 0 [(0, .ref 3)] [] st
  refine X_iconst C (v := 1) (by decide) dX3_allClues_0 ?_
  refine X_aload_n C dX3_allClues_1 rfl (j := 0) rfl ?_
  refine X_getI C sh_3 rfl fw_RX3_31 dX3_allClues_2 ?_
  refine X_ishl C dX3_allClues_5 ?_
  refine X_iconst C (v := 1) (by decide) dX3_allClues_6 ?_
  refine X_isub C dX3_allClues_7 ?_
  exact X_iret C Z rfl dX3_allClues_8 h
set_option maxHeartbeats 4000000 in
set_option maxRecDepth 100000 in
theorem eX3_hasSolution {d : Nat} {Q : Option Value → xSt → Prop} (a1 : Int32) (st : xSt) (h : Ct d M_X3_search [.ref 3, .int a1, .int 0] st (Qv fun s1 => (((s1.1 3 6) ≤ 0 → Q (some (.int 0)) s1) ∧ (¬ (s1.1 3 6) ≤ 0 → Q (some (.int 1)) s1)))) : Ct (d + 1) M_X3_hasSolution [.ref 3, .int a1] st Q := by
  refine Ct_of (by decide +kernel) (Nat.le_of_ble_eq_true rfl) (fun κ C Z => ?_)
  show X κ 0 [(0, .ref 3), (1, .int a1)] [] st
  refine X_aload_n C dX3_hasSolution_0 rfl (j := 0) rfl ?_
  refine X_iload_n C dX3_hasSolution_1 rfl (j := 1) rfl ?_
  refine X_iconst C (v := 0) (by decide) dX3_hasSolution_2 ?_
  refine X_callV C dX3_hasSolution_3 pw_RX3_46 (b := 3) (as := [.int a1, .int 0]) (S := []) sh_3 rfl rfl rfl (Nat.le_of_ble_eq_true rfl) (Ct_mono h ?_)
  rintro _ s1 ⟨rfl, h⟩
  show X κ 6 [(0, .ref 3), (1, .int a1)] [] s1
  refine X_aload_n C dX3_hasSolution_6 rfl (j := 0) rfl ?_
  refine X_getI C sh_3 rfl fw_RX3_50 dX3_hasSolution_7 ?_
  refine X_if_le C dX3_hasSolution_10 (tgt := 17) (by decide) (fun c => ?_) (fun c => ?_)
  · replace h := h.1 c
    refine X_iconst C (v := 0) (by decide) dX3_hasSolution_17 ?_
    exact X_zret C Z rfl (by decide) dX3_hasSolution_18 h
  · replace h := h.2 c
    refine X_iconst C (v := 1) (by decide) dX3_hasSolution_13 ?_
    refine X_goto C dX3_hasSolution_14 (tgt := 18) (by decide) ?_
    exact X_zret C Z rfl (by decide) dX3_hasSolution_18 h
set_option maxHeartbeats 4000000 in
set_option maxRecDepth 100000 in
theorem bX3_prepare_2 {κ : xK} {d : Nat} {Q : Option Value → xSt → Prop} (C : Cx κ M_X3_prepare (d + 1)) (Z : xR κ Q) (x2 : Int32) (st : xSt) (h : (((st.1 3 4) ≤ x2 → Q none st) ∧ (¬ (st.1 3 4) ≤ x2 → ((8 ≤ x2 → Q none st) ∧ (¬ 8 ≤ x2 → vp_in x2 8 ∧ X κ 25 [(0, .ref 3), (1, .ref 2), (2, .int x2), (3, .int 1)] [] (xupL st 16 (x2 : Int32).toNatClampNeg 0)))))) : X κ 2 [(0, .ref 3), (1, .ref 2), (2, .int x2)] [] st := by
  refine X_iload_n C dX3_prepare_2 rfl (j := 2) rfl ?_
  refine X_aload_n C dX3_prepare_3 rfl (j := 0) rfl ?_
  refine X_getI C sh_3 rfl fw_RX3_31 dX3_prepare_4 ?_
  refine X_icmp_ge C dX3_prepare_7 (tgt := 71) (by decide) (fun c => ?_) (fun c => ?_)
  · replace h := h.1 c
    exact X_vret C Z rfl dX3_prepare_71 h
  · replace h := h.2 c
    refine X_iload_n C dX3_prepare_10 rfl (j := 2) rfl ?_
    refine X_bipush C (v := 8) (by decide) dX3_prepare_11 ?_
    refine X_icmp_ge C dX3_prepare_13 (tgt := 71) (by decide) (fun c => ?_) (fun c => ?_)
    · replace h := h.1 c
      exact X_vret C Z rfl dX3_prepare_71 h
    · replace h := h.2 c
      refine X_aload_n C dX3_prepare_16 rfl (j := 0) rfl ?_
      refine X_getR C sh_3 rfl fw_RX3_16 dX3_prepare_17 ?_
      refine X_iload_n C dX3_prepare_20 rfl (j := 2) rfl ?_
      refine X_lconst C (v := 0) (by decide) dX3_prepare_21 ?_
      obtain ⟨g1, h⟩ := h
      refine X_last C sh_16 g1 dX3_prepare_22 ?_
      refine X_iconst C (v := 1) (by decide) dX3_prepare_23 ?_
      refine X_istore_n C dX3_prepare_24 rfl (by decide) (L' := [(3, .int 1), (0, .ref 3), (1, .ref 2), (2, .int x2)]) rfl ?_
      refine X_loc [1, 2, 3, 0] rfl ?_
      exact h
set_option maxHeartbeats 4000000 in
set_option maxRecDepth 100000 in
theorem bX3_prepare_25 {κ : xK} {d : Nat} {Q : Option Value → xSt → Prop} (C : Cx κ M_X3_prepare (d + 1)) (Z : xR κ Q) (x2 : Int32) (x3 : Int32) (st : xSt) (h : (((st.1 3 5) < x3 → X κ 2 [(0, .ref 3), (1, .ref 2), (2, .int (x2 + 1))] [] st) ∧ (¬ (st.1 3 5) < x3 → vp_in x2 8 ∧ Ct d M_X3_allows [.ref (58 + (x2 : Int32).toNatClampNeg), .ref 2, .int x3] st (Qi fun v3 s2 => ((v3 = 0 → X κ 25 [(0, .ref 3), (1, .ref 2), (2, .int x2), (3, .int (x3 + 1))] [] s2) ∧ (¬ v3 = 0 → vp_in x2 8 ∧ vp_in x2 8 ∧ X κ 25 [(0, .ref 3), (1, .ref 2), (2, .int x2), (3, .int (x3 + 1))] [] (xupL s2 16 (x2 : Int32).toNatClampNeg ((s2.2 16 (x2 : Int32).toNatClampNeg) ||| ((1 : Int64) <<< ((x3 : Int32).toInt64 &&& 63)))))))))) : X κ 25 [(0, .ref 3), (1, .ref 2), (2, .int x2), (3, .int x3)] [] st := by
  refine X_iload_n C dX3_prepare_25 rfl (j := 3) rfl ?_
  refine X_aload_n C dX3_prepare_26 rfl (j := 0) rfl ?_
  refine X_getI C sh_3 rfl fw_RX3_27 dX3_prepare_27 ?_
  refine X_icmp_gt C dX3_prepare_30 (tgt := 65) (by decide) (fun c => ?_) (fun c => ?_)
  · replace h := h.1 c
    refine X_iinc C dX3_prepare_65 (j := 2) rfl (v := x2 + 1) rfl (by decide) (L' := [(2, .int (x2 + 1)), (0, .ref 3), (1, .ref 2), (3, .int x3)]) rfl ?_
    refine X_goto C dX3_prepare_68 (tgt := 2) (by decide) ?_
    refine X_loc [1, 2, 0] rfl ?_
    exact h
  · replace h := h.2 c
    refine X_aload_n C dX3_prepare_33 rfl (j := 0) rfl ?_
    refine X_getR C sh_3 rfl fw_RX3_13 dX3_prepare_34 ?_
    refine X_iload_n C dX3_prepare_37 rfl (j := 2) rfl ?_
    obtain ⟨g1, h⟩ := h
    refine X_aald C sh_15 g1 dX3_prepare_38 ?_
    refine X_aload_n C dX3_prepare_39 rfl (j := 1) rfl ?_
    refine X_iload_n C dX3_prepare_40 rfl (j := 3) rfl ?_
    refine X_callS C dX3_prepare_41 pw_RX3_75 (as := [.ref (58 + (x2 : Int32).toNatClampNeg), .ref 2, .int x3]) (S := []) rfl rfl (Nat.le_of_ble_eq_true rfl) (Ct_mono h ?_)
    rintro _ s2 ⟨v3, rfl, h⟩
    show X κ 44 [(0, .ref 3), (1, .ref 2), (2, .int x2), (3, .int x3)] [.int v3] s2
    refine X_if_eq C dX3_prepare_44 (tgt := 59) (by decide) (fun c => ?_) (fun c => ?_)
    · replace h := h.1 c
      refine X_iinc C dX3_prepare_59 (j := 3) rfl (v := x3 + 1) rfl (by decide) (L' := [(3, .int (x3 + 1)), (0, .ref 3), (1, .ref 2), (2, .int x2)]) rfl ?_
      refine X_goto C dX3_prepare_62 (tgt := 25) (by decide) ?_
      refine X_loc [1, 2, 3, 0] rfl ?_
      exact h
    · replace h := h.2 c
      refine X_aload_n C dX3_prepare_47 rfl (j := 0) rfl ?_
      refine X_getR C sh_3 rfl fw_RX3_16 dX3_prepare_48 ?_
      refine X_iload_n C dX3_prepare_51 rfl (j := 2) rfl ?_
      refine X_dup2 C rfl rfl dX3_prepare_52 ?_
      obtain ⟨g4, h⟩ := h
      refine X_lald C sh_16 g4 dX3_prepare_53 ?_
      refine X_lconst C (v := 1) (by decide) dX3_prepare_54 ?_
      refine X_iload_n C dX3_prepare_55 rfl (j := 3) rfl ?_
      refine X_lshl C dX3_prepare_56 ?_
      refine X_lor C dX3_prepare_57 ?_
      obtain ⟨g5, h⟩ := h
      refine X_last C sh_16 g5 dX3_prepare_58 ?_
      refine X_iinc C dX3_prepare_59 (j := 3) rfl (v := x3 + 1) rfl (by decide) (L' := [(3, .int (x3 + 1)), (0, .ref 3), (1, .ref 2), (2, .int x2)]) rfl ?_
      refine X_goto C dX3_prepare_62 (tgt := 25) (by decide) ?_
      refine X_loc [1, 2, 3, 0] rfl ?_
      exact h
set_option maxHeartbeats 4000000 in
set_option maxRecDepth 100000 in
theorem eX3_prepare {d : Nat} {Q : Option Value → xSt → Prop} (st : xSt) (h : ∀ κ : xK, Cx κ M_X3_prepare (d + 1) → xR κ Q → X κ 2 [(0, .ref 3), (1, .ref 2), (2, .int 0)] [] st) : Ct (d + 1) M_X3_prepare [.ref 3, .ref 2] st Q := by
  refine Ct_of (by decide +kernel) (Nat.le_of_ble_eq_true rfl) (fun κ C Z => ?_)
  replace h := h κ C Z
  show X κ 0 [(0, .ref 3), (1, .ref 2)] [] st
  refine X_iconst C (v := 0) (by decide) dX3_prepare_0 ?_
  refine X_istore_n C dX3_prepare_1 rfl (by decide) (L' := [(2, .int 0), (0, .ref 3), (1, .ref 2)]) rfl ?_
  refine X_loc [1, 2, 0] rfl ?_
  exact h
set_option maxHeartbeats 4000000 in
set_option maxRecDepth 100000 in
theorem eX3_allows {d : Nat} {Q : Option Value → xSt → Prop} (p0 : Nat) (hp0 : xshapes[p0]? = some (.inr (0, 6, 0))) (a2 : Int32) (st : xSt) (h : ((¬ (st.1 p0 (0 : Int32).toNatClampNeg) = 0 → ((¬ (st.1 p0 (0 : Int32).toNatClampNeg) = 3 → Q (some (.int 1)) st) ∧ ((st.1 p0 (0 : Int32).toNatClampNeg) = 3 → Ct d M_X6_within [.int a2, .int (st.1 p0 (2 : Int32).toNatClampNeg), .int (st.1 p0 (3 : Int32).toNatClampNeg)] st (Qi fun v2 s1 => ((v2 = 0 → Q (some (.int 0)) s1) ∧ (¬ v2 = 0 → Q (some (.int 1)) s1)))))) ∧ ((st.1 p0 (0 : Int32).toNatClampNeg) = 0 → Ct d M_X0_means [.ref 2, .int (st.1 p0 (2 : Int32).toNatClampNeg), .int (st.1 p0 (3 : Int32).toNatClampNeg), .int (st.1 p0 (4 : Int32).toNatClampNeg), .int (st.1 p0 (5 : Int32).toNatClampNeg), .int a2] st (Qi fun v4 s3 => (v4 = 0 ∨ v4 = 1) ∧ Q (some (.int v4)) s3)))) : Ct (d + 1) M_X3_allows [.ref p0, .ref 2, .int a2] st Q := by
  refine Ct_of (by decide +kernel) (Nat.le_of_ble_eq_true rfl) (fun κ C Z => ?_)
  show X κ 0 [(0, .ref p0), (1, .ref 2), (2, .int a2)] [] st
  refine X_aload_n C dX3_allows_0 rfl (j := 0) rfl ?_
  refine X_iconst C (v := 0) (by decide) dX3_allows_1 ?_
  refine X_iald C hp0 (by unfold vp_in; decide) dX3_allows_2 ?_
  refine X_if_ne C dX3_allows_3 (tgt := 24) (by decide) (fun c => ?_) (fun c => ?_)
  · replace h := h.1 c
    refine X_aload_n C dX3_allows_24 rfl (j := 0) rfl ?_
    refine X_iconst C (v := 0) (by decide) dX3_allows_25 ?_
    refine X_iald C hp0 (by unfold vp_in; decide) dX3_allows_26 ?_
    refine X_iconst C (v := 3) (by decide) dX3_allows_27 ?_
    refine X_icmp_ne C dX3_allows_28 (tgt := 44) (by decide) (fun c => ?_) (fun c => ?_)
    · replace h := h.1 c
      refine X_iconst C (v := 1) (by decide) dX3_allows_44 ?_
      refine X_goto C dX3_allows_45 (tgt := 49) (by decide) ?_
      exact X_zret C Z rfl (by decide) dX3_allows_49 h
    · replace h := h.2 c
      refine X_iload_n C dX3_allows_31 rfl (j := 2) rfl ?_
      refine X_aload_n C dX3_allows_32 rfl (j := 0) rfl ?_
      refine X_iconst C (v := 2) (by decide) dX3_allows_33 ?_
      refine X_iald C hp0 (by unfold vp_in; decide) dX3_allows_34 ?_
      refine X_aload_n C dX3_allows_35 rfl (j := 0) rfl ?_
      refine X_iconst C (v := 3) (by decide) dX3_allows_36 ?_
      refine X_iald C hp0 (by unfold vp_in; decide) dX3_allows_37 ?_
      refine X_callN C dX3_allows_38 pw_RX3_85 (as := [.int a2, .int (st.1 p0 (2 : Int32).toNatClampNeg), .int (st.1 p0 (3 : Int32).toNatClampNeg)]) (S := []) rfl rfl (Nat.le_of_ble_eq_true rfl) (Ct_mono h ?_)
      rintro _ s1 ⟨v2, rfl, h⟩
      show X κ 41 [(0, .ref p0), (1, .ref 2), (2, .int a2)] [.int v2] s1
      refine X_if_eq C dX3_allows_41 (tgt := 48) (by decide) (fun c => ?_) (fun c => ?_)
      · replace h := h.1 c
        refine X_iconst C (v := 0) (by decide) dX3_allows_48 ?_
        exact X_zret C Z rfl (by decide) dX3_allows_49 h
      · replace h := h.2 c
        refine X_iconst C (v := 1) (by decide) dX3_allows_44 ?_
        refine X_goto C dX3_allows_45 (tgt := 49) (by decide) ?_
        exact X_zret C Z rfl (by decide) dX3_allows_49 h
  · replace h := h.2 c
    refine X_aload_n C dX3_allows_6 rfl (j := 1) rfl ?_
    refine X_aload_n C dX3_allows_7 rfl (j := 0) rfl ?_
    refine X_iconst C (v := 2) (by decide) dX3_allows_8 ?_
    refine X_iald C hp0 (by unfold vp_in; decide) dX3_allows_9 ?_
    refine X_aload_n C dX3_allows_10 rfl (j := 0) rfl ?_
    refine X_iconst C (v := 3) (by decide) dX3_allows_11 ?_
    refine X_iald C hp0 (by unfold vp_in; decide) dX3_allows_12 ?_
    refine X_aload_n C dX3_allows_13 rfl (j := 0) rfl ?_
    refine X_iconst C (v := 4) (by decide) dX3_allows_14 ?_
    refine X_iald C hp0 (by unfold vp_in; decide) dX3_allows_15 ?_
    refine X_aload_n C dX3_allows_16 rfl (j := 0) rfl ?_
    refine X_iconst C (v := 5) (by decide) dX3_allows_17 ?_
    refine X_iald C hp0 (by unfold vp_in; decide) dX3_allows_18 ?_
    refine X_iload_n C dX3_allows_19 rfl (j := 2) rfl ?_
    refine X_callV C dX3_allows_20 pw_RX3_79 (b := 2) (as := [.int (st.1 p0 (2 : Int32).toNatClampNeg), .int (st.1 p0 (3 : Int32).toNatClampNeg), .int (st.1 p0 (4 : Int32).toNatClampNeg), .int (st.1 p0 (5 : Int32).toNatClampNeg), .int a2]) (S := []) sh_2 rfl rfl rfl (Nat.le_of_ble_eq_true rfl) (Ct_mono h ?_)
    rintro _ s3 ⟨v4, rfl, h⟩
    show X κ 23 [(0, .ref p0), (1, .ref 2), (2, .int a2)] [.int v4] s3
    exact X_zret C Z rfl h.1 dX3_allows_23 h.2
set_option maxHeartbeats 4000000 in
set_option maxRecDepth 100000 in
theorem eX3_inSet {d : Nat} {Q : Option Value → xSt → Prop} (a0 : Int32) (a1 : Int32) (st : xSt) (h : ((¬ (((a0 : Int32) >>> ((a1 : Int32) &&& 31)) &&& 1) = 1 → Q (some (.int 0)) st) ∧ ((((a0 : Int32) >>> ((a1 : Int32) &&& 31)) &&& 1) = 1 → Q (some (.int 1)) st))) : Ct (d) M_X3_inSet [.int a0, .int a1] st Q := by
  refine Ct_of (by decide +kernel) (Nat.le_of_ble_eq_true rfl) (fun κ C Z => ?_)
  show X κ 0 [(0, .int a0), (1, .int a1)] [] st
  refine X_iload_n C dX3_inSet_0 rfl (j := 0) rfl ?_
  refine X_iload_n C dX3_inSet_1 rfl (j := 1) rfl ?_
  refine X_ishr C dX3_inSet_2 ?_
  refine X_iconst C (v := 1) (by decide) dX3_inSet_3 ?_
  refine X_iand C dX3_inSet_4 ?_
  refine X_iconst C (v := 1) (by decide) dX3_inSet_5 ?_
  refine X_icmp_ne C dX3_inSet_6 (tgt := 13) (by decide) (fun c => ?_) (fun c => ?_)
  · replace h := h.1 c
    refine X_iconst C (v := 0) (by decide) dX3_inSet_13 ?_
    exact X_zret C Z rfl (by decide) dX3_inSet_14 h
  · replace h := h.2 c
    refine X_iconst C (v := 1) (by decide) dX3_inSet_9 ?_
    refine X_goto C dX3_inSet_10 (tgt := 14) (by decide) ?_
    exact X_zret C Z rfl (by decide) dX3_inSet_14 h
set_option maxHeartbeats 4000000 in
set_option maxRecDepth 100000 in
theorem eX3_isAmong {d : Nat} {Q : Option Value → xSt → Prop} (a0 : Int64) (a2 : Int32) (st : xSt) (h : ((¬ (lg_cmp (((a0 : Int64) >>> ((a2 : Int32).toInt64 &&& 63)) &&& 1) 1) = 0 → Q (some (.int 0)) st) ∧ ((lg_cmp (((a0 : Int64) >>> ((a2 : Int32).toInt64 &&& 63)) &&& 1) 1) = 0 → Q (some (.int 1)) st))) : Ct (d) M_X3_isAmong [.long a0, .int a2] st Q := by
  refine Ct_of (by decide +kernel) (Nat.le_of_ble_eq_true rfl) (fun κ C Z => ?_)
  show X κ 0 [(0, .long a0), (2, .int a2)] [] st
  refine X_lload_n C dX3_isAmong_0 rfl (j := 0) rfl ?_
  refine X_iload_n C dX3_isAmong_1 rfl (j := 1) rfl ?_
  refine X_lshr C dX3_isAmong_2 ?_
  refine X_lconst C (v := 1) (by decide) dX3_isAmong_3 ?_
  refine X_land C dX3_isAmong_4 ?_
  refine X_lconst C (v := 1) (by decide) dX3_isAmong_5 ?_
  refine X_lcmp C dX3_isAmong_6 ?_
  refine X_if_ne C dX3_isAmong_7 (tgt := 14) (by decide) (fun c => ?_) (fun c => ?_)
  · replace h := h.1 c
    refine X_iconst C (v := 0) (by decide) dX3_isAmong_14 ?_
    exact X_zret C Z rfl (by decide) dX3_isAmong_15 h
  · replace h := h.2 c
    refine X_iconst C (v := 1) (by decide) dX3_isAmong_10 ?_
    refine X_goto C dX3_isAmong_11 (tgt := 15) (by decide) ?_
    exact X_zret C Z rfl (by decide) dX3_isAmong_15 h
set_option maxHeartbeats 4000000 in
set_option maxRecDepth 100000 in
theorem bX3_alone_16 {κ : xK} {d : Nat} {Q : Option Value → xSt → Prop} (C : Cx κ M_X3_alone (d + 1)) (Z : xR κ Q) (x1 : Int32) (x2 : Int32) (x3 : Int64) (x5 : Int32) (st : xSt) (h : (((st.1 3 4) ≤ x5 → Q (some (.long x3)) st) ∧ (¬ (st.1 3 4) ≤ x5 → ((8 ≤ x5 → Q (some (.long x3)) st) ∧ (¬ 8 ≤ x5 → vp_in x5 8 ∧ (((st.1 (58 + (x5 : Int32).toNatClampNeg) (0 : Int32).toNatClampNeg) = 0 → Ct d M_X3_inSet [.int x2, .int x5] st (Qi fun v3 s2 => ((v3 = 0 → X κ 16 [(0, .ref 3), (1, .int x1), (2, .int x2), (3, .long x3), (5, .int (x5 + 1))] [] s2) ∧ (¬ v3 = 0 → vp_in x5 8 ∧ ((¬ (s2.1 (58 + (x5 : Int32).toNatClampNeg) (1 : Int32).toNatClampNeg) = x1 → X κ 16 [(0, .ref 3), (1, .int x1), (2, .int x2), (3, .long x3), (5, .int (x5 + 1))] [] s2) ∧ ((s2.1 (58 + (x5 : Int32).toNatClampNeg) (1 : Int32).toNatClampNeg) = x1 → vp_in x5 8 ∧ X κ 16 [(0, .ref 3), (1, .int x1), (2, .int x2), (3, .long (x3 &&& (s2.2 16 (x5 : Int32).toNatClampNeg))), (5, .int (x5 + 1))] [] s2)))))) ∧ (¬ (st.1 (58 + (x5 : Int32).toNatClampNeg) (0 : Int32).toNatClampNeg) = 0 → vp_in x5 8 ∧ ((¬ (st.1 (58 + (x5 : Int32).toNatClampNeg) (0 : Int32).toNatClampNeg) = 3 → Ct d M_X3_inSet [.int x2, .int x5] st (Qi fun v8 s7 => ((v8 = 0 → X κ 16 [(0, .ref 3), (1, .int x1), (2, .int x2), (3, .long x3), (5, .int (x5 + 1))] [] s7) ∧ (¬ v8 = 0 → X κ 16 [(0, .ref 3), (1, .int x1), (2, .int x2), (3, .long x3), (5, .int (x5 + 1))] [] s7)))) ∧ ((st.1 (58 + (x5 : Int32).toNatClampNeg) (0 : Int32).toNatClampNeg) = 3 → Ct d M_X3_inSet [.int x2, .int x5] st (Qi fun v10 s9 => ((v10 = 0 → X κ 16 [(0, .ref 3), (1, .int x1), (2, .int x2), (3, .long x3), (5, .int (x5 + 1))] [] s9) ∧ (¬ v10 = 0 → vp_in x5 8 ∧ ((¬ (s9.1 (58 + (x5 : Int32).toNatClampNeg) (1 : Int32).toNatClampNeg) = x1 → X κ 16 [(0, .ref 3), (1, .int x1), (2, .int x2), (3, .long x3), (5, .int (x5 + 1))] [] s9) ∧ ((s9.1 (58 + (x5 : Int32).toNatClampNeg) (1 : Int32).toNatClampNeg) = x1 → vp_in x5 8 ∧ X κ 16 [(0, .ref 3), (1, .int x1), (2, .int x2), (3, .long (x3 &&& (s9.2 16 (x5 : Int32).toNatClampNeg))), (5, .int (x5 + 1))] [] s9)))))))))))))) : X κ 16 [(0, .ref 3), (1, .int x1), (2, .int x2), (3, .long x3), (5, .int x5)] [] st := by
  refine X_iload C dX3_alone_16 (j := 4) rfl ?_
  refine X_aload_n C dX3_alone_18 rfl (j := 0) rfl ?_
  refine X_getI C sh_3 rfl fw_RX3_31 dX3_alone_19 ?_
  refine X_icmp_ge C dX3_alone_22 (tgt := 107) (by decide) (fun c => ?_) (fun c => ?_)
  · replace h := h.1 c
    refine X_lload_n C dX3_alone_107 rfl (j := 3) rfl ?_
    exact X_lret C Z rfl dX3_alone_108 h
  · replace h := h.2 c
    refine X_iload C dX3_alone_25 (j := 4) rfl ?_
    refine X_bipush C (v := 8) (by decide) dX3_alone_27 ?_
    refine X_icmp_ge C dX3_alone_29 (tgt := 107) (by decide) (fun c => ?_) (fun c => ?_)
    · replace h := h.1 c
      refine X_lload_n C dX3_alone_107 rfl (j := 3) rfl ?_
      exact X_lret C Z rfl dX3_alone_108 h
    · replace h := h.2 c
      refine X_aload_n C dX3_alone_32 rfl (j := 0) rfl ?_
      refine X_getR C sh_3 rfl fw_RX3_13 dX3_alone_33 ?_
      refine X_iload C dX3_alone_36 (j := 4) rfl ?_
      obtain ⟨g1, h⟩ := h
      refine X_aald C sh_15 g1 dX3_alone_38 ?_
      refine X_iconst C (v := 0) (by decide) dX3_alone_39 ?_
      refine X_iald C (shr_58 (vp_lt g1)) (by unfold vp_in; decide) dX3_alone_40 ?_
      refine X_if_eq C dX3_alone_41 (tgt := 57) (by decide) (fun c => ?_) (fun c => ?_)
      · replace h := h.1 c
        refine X_iconst C (v := 1) (by decide) dX3_alone_57 ?_
        refine X_goto C dX3_alone_58 (tgt := 62) (by decide) ?_
        refine X_istore C dX3_alone_62 (by decide) (L' := [(6, .int 1), (0, .ref 3), (1, .int x1), (2, .int x2), (3, .long x3), (5, .int x5)]) rfl ?_
        refine X_iload_n C dX3_alone_64 rfl (j := 3) rfl ?_
        refine X_iload C dX3_alone_65 (j := 5) rfl ?_
        refine X_callS C dX3_alone_67 pw_RX3_91 (as := [.int x2, .int x5]) (S := []) rfl rfl (Nat.le_of_ble_eq_true rfl) (Ct_mono h ?_)
        rintro _ s2 ⟨v3, rfl, h⟩
        show X κ 70 [(6, .int 1), (0, .ref 3), (1, .int x1), (2, .int x2), (3, .long x3), (5, .int x5)] [.int v3] s2
        refine X_if_eq C dX3_alone_70 (tgt := 101) (by decide) (fun c => ?_) (fun c => ?_)
        · replace h := h.1 c
          refine X_iinc C dX3_alone_101 (j := 5) rfl (v := x5 + 1) rfl (by decide) (L' := [(5, .int (x5 + 1)), (6, .int 1), (0, .ref 3), (1, .int x1), (2, .int x2), (3, .long x3)]) rfl ?_
          refine X_goto C dX3_alone_104 (tgt := 16) (by decide) ?_
          refine X_loc [2, 3, 4, 5, 0] rfl ?_
          exact h
        · replace h := h.2 c
          refine X_iload C dX3_alone_73 (j := 0) rfl ?_
          refine X_if_eq C dX3_alone_75 (tgt := 101) (by decide) (fun c => absurd c (by decide)) (fun _ => ?_)
          refine X_aload_n C dX3_alone_78 rfl (j := 1) rfl ?_
          refine X_getR C sh_3 rfl fw_RX3_13 dX3_alone_79 ?_
          refine X_iload C dX3_alone_82 (j := 5) rfl ?_
          obtain ⟨g4, h⟩ := h
          refine X_aald C sh_15 g4 dX3_alone_84 ?_
          refine X_iconst C (v := 1) (by decide) dX3_alone_85 ?_
          refine X_iald C (shr_58 (vp_lt g4)) (by unfold vp_in; decide) dX3_alone_86 ?_
          refine X_iload_n C dX3_alone_87 rfl (j := 2) rfl ?_
          refine X_icmp_ne C dX3_alone_88 (tgt := 101) (by decide) (fun c => ?_) (fun c => ?_)
          · replace h := h.1 c
            refine X_iinc C dX3_alone_101 (j := 5) rfl (v := x5 + 1) rfl (by decide) (L' := [(5, .int (x5 + 1)), (6, .int 1), (0, .ref 3), (1, .int x1), (2, .int x2), (3, .long x3)]) rfl ?_
            refine X_goto C dX3_alone_104 (tgt := 16) (by decide) ?_
            refine X_loc [2, 3, 4, 5, 0] rfl ?_
            exact h
          · replace h := h.2 c
            refine X_lload_n C dX3_alone_91 rfl (j := 4) rfl ?_
            refine X_aload_n C dX3_alone_92 rfl (j := 1) rfl ?_
            refine X_getR C sh_3 rfl fw_RX3_16 dX3_alone_93 ?_
            refine X_iload C dX3_alone_96 (j := 5) rfl ?_
            obtain ⟨g5, h⟩ := h
            refine X_lald C sh_16 g5 dX3_alone_98 ?_
            refine X_land C dX3_alone_99 ?_
            refine X_lstore_n C dX3_alone_100 rfl (by decide) (L' := [(3, .long (x3 &&& (s2.2 16 (x5 : Int32).toNatClampNeg))), (6, .int 1), (0, .ref 3), (1, .int x1), (2, .int x2), (5, .int x5)]) rfl ?_
            refine X_iinc C dX3_alone_101 (j := 5) rfl (v := x5 + 1) rfl (by decide) (L' := [(5, .int (x5 + 1)), (3, .long (x3 &&& (s2.2 16 (x5 : Int32).toNatClampNeg))), (6, .int 1), (0, .ref 3), (1, .int x1), (2, .int x2)]) rfl ?_
            refine X_goto C dX3_alone_104 (tgt := 16) (by decide) ?_
            refine X_loc [3, 4, 5, 1, 0] rfl ?_
            exact h
      · replace h := h.2 c
        refine X_aload_n C dX3_alone_44 rfl (j := 0) rfl ?_
        refine X_getR C sh_3 rfl fw_RX3_13 dX3_alone_45 ?_
        refine X_iload C dX3_alone_48 (j := 4) rfl ?_
        obtain ⟨g6, h⟩ := h
        refine X_aald C sh_15 g6 dX3_alone_50 ?_
        refine X_iconst C (v := 0) (by decide) dX3_alone_51 ?_
        refine X_iald C (shr_58 (vp_lt g6)) (by unfold vp_in; decide) dX3_alone_52 ?_
        refine X_iconst C (v := 3) (by decide) dX3_alone_53 ?_
        refine X_icmp_ne C dX3_alone_54 (tgt := 61) (by decide) (fun c => ?_) (fun c => ?_)
        · replace h := h.1 c
          refine X_iconst C (v := 0) (by decide) dX3_alone_61 ?_
          refine X_istore C dX3_alone_62 (by decide) (L' := [(6, .int 0), (0, .ref 3), (1, .int x1), (2, .int x2), (3, .long x3), (5, .int x5)]) rfl ?_
          refine X_iload_n C dX3_alone_64 rfl (j := 3) rfl ?_
          refine X_iload C dX3_alone_65 (j := 5) rfl ?_
          refine X_callS C dX3_alone_67 pw_RX3_91 (as := [.int x2, .int x5]) (S := []) rfl rfl (Nat.le_of_ble_eq_true rfl) (Ct_mono h ?_)
          rintro _ s7 ⟨v8, rfl, h⟩
          show X κ 70 [(6, .int 0), (0, .ref 3), (1, .int x1), (2, .int x2), (3, .long x3), (5, .int x5)] [.int v8] s7
          refine X_if_eq C dX3_alone_70 (tgt := 101) (by decide) (fun c => ?_) (fun c => ?_)
          · replace h := h.1 c
            refine X_iinc C dX3_alone_101 (j := 5) rfl (v := x5 + 1) rfl (by decide) (L' := [(5, .int (x5 + 1)), (6, .int 0), (0, .ref 3), (1, .int x1), (2, .int x2), (3, .long x3)]) rfl ?_
            refine X_goto C dX3_alone_104 (tgt := 16) (by decide) ?_
            refine X_loc [2, 3, 4, 5, 0] rfl ?_
            exact h
          · replace h := h.2 c
            refine X_iload C dX3_alone_73 (j := 0) rfl ?_
            refine X_if_eq C dX3_alone_75 (tgt := 101) (by decide) (fun _ => ?_) (fun c => absurd c (by decide))
            refine X_iinc C dX3_alone_101 (j := 5) rfl (v := x5 + 1) rfl (by decide) (L' := [(5, .int (x5 + 1)), (6, .int 0), (0, .ref 3), (1, .int x1), (2, .int x2), (3, .long x3)]) rfl ?_
            refine X_goto C dX3_alone_104 (tgt := 16) (by decide) ?_
            refine X_loc [2, 3, 4, 5, 0] rfl ?_
            exact h
        · replace h := h.2 c
          refine X_iconst C (v := 1) (by decide) dX3_alone_57 ?_
          refine X_goto C dX3_alone_58 (tgt := 62) (by decide) ?_
          refine X_istore C dX3_alone_62 (by decide) (L' := [(6, .int 1), (0, .ref 3), (1, .int x1), (2, .int x2), (3, .long x3), (5, .int x5)]) rfl ?_
          refine X_iload_n C dX3_alone_64 rfl (j := 3) rfl ?_
          refine X_iload C dX3_alone_65 (j := 5) rfl ?_
          refine X_callS C dX3_alone_67 pw_RX3_91 (as := [.int x2, .int x5]) (S := []) rfl rfl (Nat.le_of_ble_eq_true rfl) (Ct_mono h ?_)
          rintro _ s9 ⟨v10, rfl, h⟩
          show X κ 70 [(6, .int 1), (0, .ref 3), (1, .int x1), (2, .int x2), (3, .long x3), (5, .int x5)] [.int v10] s9
          refine X_if_eq C dX3_alone_70 (tgt := 101) (by decide) (fun c => ?_) (fun c => ?_)
          · replace h := h.1 c
            refine X_iinc C dX3_alone_101 (j := 5) rfl (v := x5 + 1) rfl (by decide) (L' := [(5, .int (x5 + 1)), (6, .int 1), (0, .ref 3), (1, .int x1), (2, .int x2), (3, .long x3)]) rfl ?_
            refine X_goto C dX3_alone_104 (tgt := 16) (by decide) ?_
            refine X_loc [2, 3, 4, 5, 0] rfl ?_
            exact h
          · replace h := h.2 c
            refine X_iload C dX3_alone_73 (j := 0) rfl ?_
            refine X_if_eq C dX3_alone_75 (tgt := 101) (by decide) (fun c => absurd c (by decide)) (fun _ => ?_)
            refine X_aload_n C dX3_alone_78 rfl (j := 1) rfl ?_
            refine X_getR C sh_3 rfl fw_RX3_13 dX3_alone_79 ?_
            refine X_iload C dX3_alone_82 (j := 5) rfl ?_
            obtain ⟨g11, h⟩ := h
            refine X_aald C sh_15 g11 dX3_alone_84 ?_
            refine X_iconst C (v := 1) (by decide) dX3_alone_85 ?_
            refine X_iald C (shr_58 (vp_lt g11)) (by unfold vp_in; decide) dX3_alone_86 ?_
            refine X_iload_n C dX3_alone_87 rfl (j := 2) rfl ?_
            refine X_icmp_ne C dX3_alone_88 (tgt := 101) (by decide) (fun c => ?_) (fun c => ?_)
            · replace h := h.1 c
              refine X_iinc C dX3_alone_101 (j := 5) rfl (v := x5 + 1) rfl (by decide) (L' := [(5, .int (x5 + 1)), (6, .int 1), (0, .ref 3), (1, .int x1), (2, .int x2), (3, .long x3)]) rfl ?_
              refine X_goto C dX3_alone_104 (tgt := 16) (by decide) ?_
              refine X_loc [2, 3, 4, 5, 0] rfl ?_
              exact h
            · replace h := h.2 c
              refine X_lload_n C dX3_alone_91 rfl (j := 4) rfl ?_
              refine X_aload_n C dX3_alone_92 rfl (j := 1) rfl ?_
              refine X_getR C sh_3 rfl fw_RX3_16 dX3_alone_93 ?_
              refine X_iload C dX3_alone_96 (j := 5) rfl ?_
              obtain ⟨g12, h⟩ := h
              refine X_lald C sh_16 g12 dX3_alone_98 ?_
              refine X_land C dX3_alone_99 ?_
              refine X_lstore_n C dX3_alone_100 rfl (by decide) (L' := [(3, .long (x3 &&& (s9.2 16 (x5 : Int32).toNatClampNeg))), (6, .int 1), (0, .ref 3), (1, .int x1), (2, .int x2), (5, .int x5)]) rfl ?_
              refine X_iinc C dX3_alone_101 (j := 5) rfl (v := x5 + 1) rfl (by decide) (L' := [(5, .int (x5 + 1)), (3, .long (x3 &&& (s9.2 16 (x5 : Int32).toNatClampNeg))), (6, .int 1), (0, .ref 3), (1, .int x1), (2, .int x2)]) rfl ?_
              refine X_goto C dX3_alone_104 (tgt := 16) (by decide) ?_
              refine X_loc [3, 4, 5, 1, 0] rfl ?_
              exact h
set_option maxHeartbeats 4000000 in
set_option maxRecDepth 100000 in
theorem eX3_alone {d : Nat} {Q : Option Value → xSt → Prop} (a1 : Int32) (a2 : Int32) (st : xSt) (h : ∀ κ : xK, Cx κ M_X3_alone (d + 1) → xR κ Q → X κ 16 [(0, .ref 3), (1, .int a1), (2, .int a2), (3, .long (((1 : Int64) <<< (((st.1 3 5) + 1 : Int32).toInt64 &&& 63)) - 2)), (5, .int 0)] [] st) : Ct (d + 1) M_X3_alone [.ref 3, .int a1, .int a2] st Q := by
  refine Ct_of (by decide +kernel) (Nat.le_of_ble_eq_true rfl) (fun κ C Z => ?_)
  replace h := h κ C Z
  show X κ 0 [(0, .ref 3), (1, .int a1), (2, .int a2)] [] st
  refine X_lconst C (v := 1) (by decide) dX3_alone_0 ?_
  refine X_aload_n C dX3_alone_1 rfl (j := 0) rfl ?_
  refine X_getI C sh_3 rfl fw_RX3_27 dX3_alone_2 ?_
  refine X_iconst C (v := 1) (by decide) dX3_alone_5 ?_
  refine X_iadd C dX3_alone_6 ?_
  refine X_lshl C dX3_alone_7 ?_
  refine X_ldc2 C (v := 2) u_480 dX3_alone_8 ?_
  refine X_lsub C dX3_alone_11 ?_
  refine X_lstore_n C dX3_alone_12 rfl (by decide) (L' := [(3, .long (((1 : Int64) <<< (((st.1 3 5) + 1 : Int32).toInt64 &&& 63)) - 2)), (0, .ref 3), (1, .int a1), (2, .int a2)]) rfl ?_
  refine X_iconst C (v := 0) (by decide) dX3_alone_13 ?_
  refine X_istore C dX3_alone_14 (by decide) (L' := [(5, .int 0), (3, .long (((1 : Int64) <<< (((st.1 3 5) + 1 : Int32).toInt64 &&& 63)) - 2)), (0, .ref 3), (1, .int a1), (2, .int a2)]) rfl ?_
  refine X_loc [2, 3, 4, 1, 0] rfl ?_
  exact h
set_option maxHeartbeats 4000000 in
set_option maxRecDepth 100000 in
theorem bX3_search_39 {κ : xK} {d : Nat} {Q : Option Value → xSt → Prop} (C : Cx κ M_X3_search (d + 1)) (Z : xR κ Q) (x1 : Int32) (x2 : Int32) (x3 : Int64) (x5 : Int64) (x7 : Int64) (x9 : Int32) (st : xSt) (h : (((st.1 3 5) < x9 → Q none st) ∧ (¬ (st.1 3 5) < x9 → X κ 51 [(0, .ref 3), (1, .int x1), (2, .int x2), (3, .long x3), (5, .long x5), (7, .long x7), (9, .int x9), (10, .int 1)] [] st))) : X κ 39 [(0, .ref 3), (1, .int x1), (2, .int x2), (3, .long x3), (5, .long x5), (7, .long x7), (9, .int x9)] [] st := by
  refine X_iload C dX3_search_39 (j := 6) rfl ?_
  refine X_aload_n C dX3_search_41 rfl (j := 0) rfl ?_
  refine X_getI C sh_3 rfl fw_RX3_27 dX3_search_42 ?_
  refine X_icmp_gt C dX3_search_45 (tgt := 123) (by decide) (fun c => ?_) (fun c => ?_)
  · replace h := h.1 c
    exact X_vret C Z rfl dX3_search_123 h
  · replace h := h.2 c
    refine X_iconst C (v := 1) (by decide) dX3_search_48 ?_
    refine X_istore C dX3_search_49 (by decide) (L' := [(10, .int 1), (0, .ref 3), (1, .int x1), (2, .int x2), (3, .long x3), (5, .long x5), (7, .long x7), (9, .int x9)]) rfl ?_
    refine X_loc [1, 2, 3, 4, 5, 6, 7, 0] rfl ?_
    exact h
set_option maxHeartbeats 4000000 in
set_option maxRecDepth 100000 in
theorem bX3_search_51 {κ : xK} {d : Nat} {Q : Option Value → xSt → Prop} (C : Cx κ M_X3_search (d + 1)) (Z : xR κ Q) (x1 : Int32) (x2 : Int32) (x3 : Int64) (x5 : Int64) (x7 : Int64) (x9 : Int32) (x10 : Int32) (st : xSt) (h : (((st.1 3 5) < x10 → X κ 39 [(0, .ref 3), (1, .int x1), (2, .int x2), (3, .long x3), (5, .long x5), (7, .long x7), (9, .int (x9 + 1))] [] st) ∧ (¬ (st.1 3 5) < x10 → Ct d M_X3_isAmong [.long x3, .int x9] st (Qi fun v2 s1 => ((v2 = 0 → X κ 39 [(0, .ref 3), (1, .int x1), (2, .int x2), (3, .long x3), (5, .long x5), (7, .long x7), (9, .int (x9 + 1))] [] s1) ∧ (¬ v2 = 0 → Ct d M_X3_isAmong [.long x5, .int x10] s1 (Qi fun v4 s3 => ((v4 = 0 → X κ 51 [(0, .ref 3), (1, .int x1), (2, .int x2), (3, .long x3), (5, .long x5), (7, .long x7), (9, .int x9), (10, .int (x10 + 1))] [] s3) ∧ (¬ v4 = 0 → Ct d M_X3_narrow [.ref 3, .long x7, .int x1] (xup (xup s3 18 (0 : Int32).toNatClampNeg x9) 18 (1 : Int32).toNatClampNeg x10) (Ql fun v6 s5 => Ct d M_X3_meet [.ref 3, .long v6, .int x2] s5 (Qi fun v8 s7 => ((v8 = 0 → X κ 51 [(0, .ref 3), (1, .int x1), (2, .int x2), (3, .long x3), (5, .long x5), (7, .long x7), (9, .int x9), (10, .int (x10 + 1))] [] s7) ∧ (¬ v8 = 0 → Q none s7))))))))))))) : X κ 51 [(0, .ref 3), (1, .int x1), (2, .int x2), (3, .long x3), (5, .long x5), (7, .long x7), (9, .int x9), (10, .int x10)] [] st := by
  refine X_iload C dX3_search_51 (j := 7) rfl ?_
  refine X_aload_n C dX3_search_53 rfl (j := 0) rfl ?_
  refine X_getI C sh_3 rfl fw_RX3_27 dX3_search_54 ?_
  refine X_icmp_gt C dX3_search_57 (tgt := 117) (by decide) (fun c => ?_) (fun c => ?_)
  · replace h := h.1 c
    refine X_iinc C dX3_search_117 (j := 6) rfl (v := x9 + 1) rfl (by decide) (L' := [(9, .int (x9 + 1)), (0, .ref 3), (1, .int x1), (2, .int x2), (3, .long x3), (5, .long x5), (7, .long x7), (10, .int x10)]) rfl ?_
    refine X_goto C dX3_search_120 (tgt := 39) (by decide) ?_
    refine X_loc [1, 2, 3, 4, 5, 6, 0] rfl ?_
    exact h
  · replace h := h.2 c
    refine X_lload_n C dX3_search_60 rfl (j := 3) rfl ?_
    refine X_iload C dX3_search_61 (j := 6) rfl ?_
    refine X_callS C dX3_search_63 pw_RX3_105 (as := [.long x3, .int x9]) (S := []) rfl rfl (Nat.le_of_ble_eq_true rfl) (Ct_mono h ?_)
    rintro _ s1 ⟨v2, rfl, h⟩
    show X κ 66 [(0, .ref 3), (1, .int x1), (2, .int x2), (3, .long x3), (5, .long x5), (7, .long x7), (9, .int x9), (10, .int x10)] [.int v2] s1
    refine X_if_eq C dX3_search_66 (tgt := 117) (by decide) (fun c => ?_) (fun c => ?_)
    · replace h := h.1 c
      refine X_iinc C dX3_search_117 (j := 6) rfl (v := x9 + 1) rfl (by decide) (L' := [(9, .int (x9 + 1)), (0, .ref 3), (1, .int x1), (2, .int x2), (3, .long x3), (5, .long x5), (7, .long x7), (10, .int x10)]) rfl ?_
      refine X_goto C dX3_search_120 (tgt := 39) (by decide) ?_
      refine X_loc [1, 2, 3, 4, 5, 6, 0] rfl ?_
      exact h
    · replace h := h.2 c
      refine X_lload C dX3_search_69 (j := 4) rfl ?_
      refine X_iload C dX3_search_71 (j := 7) rfl ?_
      refine X_callS C dX3_search_73 pw_RX3_105 (as := [.long x5, .int x10]) (S := []) rfl rfl (Nat.le_of_ble_eq_true rfl) (Ct_mono h ?_)
      rintro _ s3 ⟨v4, rfl, h⟩
      show X κ 76 [(0, .ref 3), (1, .int x1), (2, .int x2), (3, .long x3), (5, .long x5), (7, .long x7), (9, .int x9), (10, .int x10)] [.int v4] s3
      refine X_if_eq C dX3_search_76 (tgt := 111) (by decide) (fun c => ?_) (fun c => ?_)
      · replace h := h.1 c
        refine X_iinc C dX3_search_111 (j := 7) rfl (v := x10 + 1) rfl (by decide) (L' := [(10, .int (x10 + 1)), (0, .ref 3), (1, .int x1), (2, .int x2), (3, .long x3), (5, .long x5), (7, .long x7), (9, .int x9)]) rfl ?_
        refine X_goto C dX3_search_114 (tgt := 51) (by decide) ?_
        refine X_loc [1, 2, 3, 4, 5, 6, 7, 0] rfl ?_
        exact h
      · replace h := h.2 c
        refine X_aload_n C dX3_search_79 rfl (j := 0) rfl ?_
        refine X_getR C sh_3 rfl fw_RX3_23 dX3_search_80 ?_
        refine X_iconst C (v := 0) (by decide) dX3_search_83 ?_
        refine X_iload C dX3_search_84 (j := 6) rfl ?_
        refine X_iast C sh_18 (by unfold vp_in; decide) dX3_search_86 ?_
        refine X_aload_n C dX3_search_87 rfl (j := 0) rfl ?_
        refine X_getR C sh_3 rfl fw_RX3_23 dX3_search_88 ?_
        refine X_iconst C (v := 1) (by decide) dX3_search_91 ?_
        refine X_iload C dX3_search_92 (j := 7) rfl ?_
        refine X_iast C sh_18 (by unfold vp_in; decide) dX3_search_94 ?_
        refine X_aload_n C dX3_search_95 rfl (j := 0) rfl ?_
        refine X_aload_n C dX3_search_96 rfl (j := 0) rfl ?_
        refine X_lload C dX3_search_97 (j := 5) rfl ?_
        refine X_iload_n C dX3_search_99 rfl (j := 1) rfl ?_
        refine X_callV C dX3_search_100 pw_RX3_109 (b := 3) (as := [.long x7, .int x1]) (S := [.ref 3]) sh_3 rfl rfl rfl (Nat.le_of_ble_eq_true rfl) (Ct_mono h ?_)
        rintro _ s5 ⟨v6, rfl, h⟩
        show X κ 103 [(0, .ref 3), (1, .int x1), (2, .int x2), (3, .long x3), (5, .long x5), (7, .long x7), (9, .int x9), (10, .int x10)] [.long v6, .ref 3] s5
        refine X_iload_n C dX3_search_103 rfl (j := 2) rfl ?_
        refine X_callV C dX3_search_104 pw_RX3_113 (b := 3) (as := [.long v6, .int x2]) (S := []) sh_3 rfl rfl rfl (Nat.le_of_ble_eq_true rfl) (Ct_mono h ?_)
        rintro _ s7 ⟨v8, rfl, h⟩
        show X κ 107 [(0, .ref 3), (1, .int x1), (2, .int x2), (3, .long x3), (5, .long x5), (7, .long x7), (9, .int x9), (10, .int x10)] [.int v8] s7
        refine X_if_eq C dX3_search_107 (tgt := 111) (by decide) (fun c => ?_) (fun c => ?_)
        · replace h := h.1 c
          refine X_iinc C dX3_search_111 (j := 7) rfl (v := x10 + 1) rfl (by decide) (L' := [(10, .int (x10 + 1)), (0, .ref 3), (1, .int x1), (2, .int x2), (3, .long x3), (5, .long x5), (7, .long x7), (9, .int x9)]) rfl ?_
          refine X_goto C dX3_search_114 (tgt := 51) (by decide) ?_
          refine X_loc [1, 2, 3, 4, 5, 6, 7, 0] rfl ?_
          exact h
        · replace h := h.2 c
          exact X_vret C Z rfl dX3_search_110 h
set_option maxHeartbeats 4000000 in
set_option maxRecDepth 100000 in
theorem eX3_search {d : Nat} {Q : Option Value → xSt → Prop} (a1 : Int32) (a2 : Int32) (st : xSt) (h : ∀ κ : xK, Cx κ M_X3_search (d + 1) → xR κ Q → Ct d M_X3_alone [.ref 3, .int 0, .int a1] st (Ql fun v2 s1 => Ct d M_X3_alone [.ref 3, .int 1, .int a1] s1 (Ql fun v4 s3 => Ct d M_X3_alone [.ref 3, .int 2, .int a1] s3 (Ql fun v6 s5 => Ct d M_J7_fill_d0a16 [.ref 17, .long 0] (xup s5 3 6 0) (Qv fun s7 => X κ 39 [(0, .ref 3), (1, .int a1), (2, .int a2), (3, .long v2), (5, .long v4), (7, .long v6), (9, .int 1)] [] s7))))) : Ct (d + 1) M_X3_search [.ref 3, .int a1, .int a2] st Q := by
  refine Ct_of (by decide +kernel) (Nat.le_of_ble_eq_true rfl) (fun κ C Z => ?_)
  replace h := h κ C Z
  show X κ 0 [(0, .ref 3), (1, .int a1), (2, .int a2)] [] st
  refine X_aload_n C dX3_search_0 rfl (j := 0) rfl ?_
  refine X_iconst C (v := 0) (by decide) dX3_search_1 ?_
  refine X_iload_n C dX3_search_2 rfl (j := 1) rfl ?_
  refine X_callV C dX3_search_3 pw_RX3_95 (b := 3) (as := [.int 0, .int a1]) (S := []) sh_3 rfl rfl rfl (Nat.le_of_ble_eq_true rfl) (Ct_mono h ?_)
  rintro _ s1 ⟨v2, rfl, h⟩
  show X κ 6 [(0, .ref 3), (1, .int a1), (2, .int a2)] [.long v2] s1
  refine X_lstore_n C dX3_search_6 rfl (by decide) (L' := [(3, .long v2), (0, .ref 3), (1, .int a1), (2, .int a2)]) rfl ?_
  refine X_aload_n C dX3_search_7 rfl (j := 1) rfl ?_
  refine X_iconst C (v := 1) (by decide) dX3_search_8 ?_
  refine X_iload_n C dX3_search_9 rfl (j := 2) rfl ?_
  refine X_callV C dX3_search_10 pw_RX3_95 (b := 3) (as := [.int 1, .int a1]) (S := []) sh_3 rfl rfl rfl (Nat.le_of_ble_eq_true rfl) (Ct_mono h ?_)
  rintro _ s3 ⟨v4, rfl, h⟩
  show X κ 13 [(3, .long v2), (0, .ref 3), (1, .int a1), (2, .int a2)] [.long v4] s3
  refine X_lstore C dX3_search_13 (by decide) (L' := [(5, .long v4), (3, .long v2), (0, .ref 3), (1, .int a1), (2, .int a2)]) rfl ?_
  refine X_aload_n C dX3_search_15 rfl (j := 2) rfl ?_
  refine X_iconst C (v := 2) (by decide) dX3_search_16 ?_
  refine X_iload_n C dX3_search_17 rfl (j := 3) rfl ?_
  refine X_callV C dX3_search_18 pw_RX3_95 (b := 3) (as := [.int 2, .int a1]) (S := []) sh_3 rfl rfl rfl (Nat.le_of_ble_eq_true rfl) (Ct_mono h ?_)
  rintro _ s5 ⟨v6, rfl, h⟩
  show X κ 21 [(5, .long v4), (3, .long v2), (0, .ref 3), (1, .int a1), (2, .int a2)] [.long v6] s5
  refine X_lstore C dX3_search_21 (by decide) (L' := [(7, .long v6), (5, .long v4), (3, .long v2), (0, .ref 3), (1, .int a1), (2, .int a2)]) rfl ?_
  refine X_aload_n C dX3_search_23 rfl (j := 3) rfl ?_
  refine X_iconst C (v := 0) (by decide) dX3_search_24 ?_
  refine X_putI C sh_3 rfl fp_RX3_50 dX3_search_25 ?_
  refine X_aload_n C dX3_search_28 rfl (j := 3) rfl ?_
  refine X_getR C sh_3 rfl fw_RX3_20 dX3_search_29 ?_
  refine X_lconst C (v := 0) (by decide) dX3_search_32 ?_
  refine X_callS C dX3_search_33 pw_RX3_99 (as := [.ref 17, .long 0]) (S := []) rfl rfl (Nat.le_of_ble_eq_true rfl) (Ct_mono h ?_)
  rintro _ s7 ⟨rfl, h⟩
  show X κ 36 [(7, .long v6), (5, .long v4), (3, .long v2), (0, .ref 3), (1, .int a1), (2, .int a2)] [] s7
  refine X_iconst C (v := 1) (by decide) dX3_search_36 ?_
  refine X_istore C dX3_search_37 (by decide) (L' := [(9, .int 1), (7, .long v6), (5, .long v4), (3, .long v2), (0, .ref 3), (1, .int a1), (2, .int a2)]) rfl ?_
  refine X_loc [4, 5, 6, 3, 2, 1, 0] rfl ?_
  exact h
set_option maxHeartbeats 4000000 in
set_option maxRecDepth 100000 in
theorem eX3_meet {d : Nat} {Q : Option Value → xSt → Prop} (a1 : Int64) (a3 : Int32) (st : xSt) (h : ((¬ (lg_cmp a1 0) = 0 → Ct d M_J13_bitCount_95d88 [.long a1] st (Qi fun v2 s1 => ((a3 < 0 → Q (some (.int 0)) (xupL (xupL (xupL (xup s1 3 6 ((st.1 3 6) + v2)) 17 (0 : Int32).toNatClampNeg (((xup s1 3 6 ((st.1 3 6) + v2)).2 17 (0 : Int32).toNatClampNeg) ||| ((1 : Int64) <<< (((xup s1 3 6 ((st.1 3 6) + v2)).1 18 (0 : Int32).toNatClampNeg : Int32).toInt64 &&& 63)))) 17 (1 : Int32).toNatClampNeg (((xupL (xup s1 3 6 ((st.1 3 6) + v2)) 17 (0 : Int32).toNatClampNeg (((xup s1 3 6 ((st.1 3 6) + v2)).2 17 (0 : Int32).toNatClampNeg) ||| ((1 : Int64) <<< (((xup s1 3 6 ((st.1 3 6) + v2)).1 18 (0 : Int32).toNatClampNeg : Int32).toInt64 &&& 63)))).2 17 (1 : Int32).toNatClampNeg) ||| ((1 : Int64) <<< (((xupL (xup s1 3 6 ((st.1 3 6) + v2)) 17 (0 : Int32).toNatClampNeg (((xup s1 3 6 ((st.1 3 6) + v2)).2 17 (0 : Int32).toNatClampNeg) ||| ((1 : Int64) <<< (((xup s1 3 6 ((st.1 3 6) + v2)).1 18 (0 : Int32).toNatClampNeg : Int32).toInt64 &&& 63)))).1 18 (1 : Int32).toNatClampNeg : Int32).toInt64 &&& 63)))) 17 (2 : Int32).toNatClampNeg (((xupL (xupL (xup s1 3 6 ((st.1 3 6) + v2)) 17 (0 : Int32).toNatClampNeg (((xup s1 3 6 ((st.1 3 6) + v2)).2 17 (0 : Int32).toNatClampNeg) ||| ((1 : Int64) <<< (((xup s1 3 6 ((st.1 3 6) + v2)).1 18 (0 : Int32).toNatClampNeg : Int32).toInt64 &&& 63)))) 17 (1 : Int32).toNatClampNeg (((xupL (xup s1 3 6 ((st.1 3 6) + v2)) 17 (0 : Int32).toNatClampNeg (((xup s1 3 6 ((st.1 3 6) + v2)).2 17 (0 : Int32).toNatClampNeg) ||| ((1 : Int64) <<< (((xup s1 3 6 ((st.1 3 6) + v2)).1 18 (0 : Int32).toNatClampNeg : Int32).toInt64 &&& 63)))).2 17 (1 : Int32).toNatClampNeg) ||| ((1 : Int64) <<< (((xupL (xup s1 3 6 ((st.1 3 6) + v2)) 17 (0 : Int32).toNatClampNeg (((xup s1 3 6 ((st.1 3 6) + v2)).2 17 (0 : Int32).toNatClampNeg) ||| ((1 : Int64) <<< (((xup s1 3 6 ((st.1 3 6) + v2)).1 18 (0 : Int32).toNatClampNeg : Int32).toInt64 &&& 63)))).1 18 (1 : Int32).toNatClampNeg : Int32).toInt64 &&& 63)))).2 17 (2 : Int32).toNatClampNeg) ||| a1))) ∧ (¬ a3 < 0 → ((a3 < ((xupL (xupL (xupL (xup s1 3 6 ((st.1 3 6) + v2)) 17 (0 : Int32).toNatClampNeg (((xup s1 3 6 ((st.1 3 6) + v2)).2 17 (0 : Int32).toNatClampNeg) ||| ((1 : Int64) <<< (((xup s1 3 6 ((st.1 3 6) + v2)).1 18 (0 : Int32).toNatClampNeg : Int32).toInt64 &&& 63)))) 17 (1 : Int32).toNatClampNeg (((xupL (xup s1 3 6 ((st.1 3 6) + v2)) 17 (0 : Int32).toNatClampNeg (((xup s1 3 6 ((st.1 3 6) + v2)).2 17 (0 : Int32).toNatClampNeg) ||| ((1 : Int64) <<< (((xup s1 3 6 ((st.1 3 6) + v2)).1 18 (0 : Int32).toNatClampNeg : Int32).toInt64 &&& 63)))).2 17 (1 : Int32).toNatClampNeg) ||| ((1 : Int64) <<< (((xupL (xup s1 3 6 ((st.1 3 6) + v2)) 17 (0 : Int32).toNatClampNeg (((xup s1 3 6 ((st.1 3 6) + v2)).2 17 (0 : Int32).toNatClampNeg) ||| ((1 : Int64) <<< (((xup s1 3 6 ((st.1 3 6) + v2)).1 18 (0 : Int32).toNatClampNeg : Int32).toInt64 &&& 63)))).1 18 (1 : Int32).toNatClampNeg : Int32).toInt64 &&& 63)))) 17 (2 : Int32).toNatClampNeg (((xupL (xupL (xup s1 3 6 ((st.1 3 6) + v2)) 17 (0 : Int32).toNatClampNeg (((xup s1 3 6 ((st.1 3 6) + v2)).2 17 (0 : Int32).toNatClampNeg) ||| ((1 : Int64) <<< (((xup s1 3 6 ((st.1 3 6) + v2)).1 18 (0 : Int32).toNatClampNeg : Int32).toInt64 &&& 63)))) 17 (1 : Int32).toNatClampNeg (((xupL (xup s1 3 6 ((st.1 3 6) + v2)) 17 (0 : Int32).toNatClampNeg (((xup s1 3 6 ((st.1 3 6) + v2)).2 17 (0 : Int32).toNatClampNeg) ||| ((1 : Int64) <<< (((xup s1 3 6 ((st.1 3 6) + v2)).1 18 (0 : Int32).toNatClampNeg : Int32).toInt64 &&& 63)))).2 17 (1 : Int32).toNatClampNeg) ||| ((1 : Int64) <<< (((xupL (xup s1 3 6 ((st.1 3 6) + v2)) 17 (0 : Int32).toNatClampNeg (((xup s1 3 6 ((st.1 3 6) + v2)).2 17 (0 : Int32).toNatClampNeg) ||| ((1 : Int64) <<< (((xup s1 3 6 ((st.1 3 6) + v2)).1 18 (0 : Int32).toNatClampNeg : Int32).toInt64 &&& 63)))).1 18 (1 : Int32).toNatClampNeg : Int32).toInt64 &&& 63)))).2 17 (2 : Int32).toNatClampNeg) ||| a1)).1 3 6) → Ct d M_X3_nth [.long a1, .int (a3 - (st.1 3 6))] (xupL (xupL (xupL (xup s1 3 6 ((st.1 3 6) + v2)) 17 (0 : Int32).toNatClampNeg (((xup s1 3 6 ((st.1 3 6) + v2)).2 17 (0 : Int32).toNatClampNeg) ||| ((1 : Int64) <<< (((xup s1 3 6 ((st.1 3 6) + v2)).1 18 (0 : Int32).toNatClampNeg : Int32).toInt64 &&& 63)))) 17 (1 : Int32).toNatClampNeg (((xupL (xup s1 3 6 ((st.1 3 6) + v2)) 17 (0 : Int32).toNatClampNeg (((xup s1 3 6 ((st.1 3 6) + v2)).2 17 (0 : Int32).toNatClampNeg) ||| ((1 : Int64) <<< (((xup s1 3 6 ((st.1 3 6) + v2)).1 18 (0 : Int32).toNatClampNeg : Int32).toInt64 &&& 63)))).2 17 (1 : Int32).toNatClampNeg) ||| ((1 : Int64) <<< (((xupL (xup s1 3 6 ((st.1 3 6) + v2)) 17 (0 : Int32).toNatClampNeg (((xup s1 3 6 ((st.1 3 6) + v2)).2 17 (0 : Int32).toNatClampNeg) ||| ((1 : Int64) <<< (((xup s1 3 6 ((st.1 3 6) + v2)).1 18 (0 : Int32).toNatClampNeg : Int32).toInt64 &&& 63)))).1 18 (1 : Int32).toNatClampNeg : Int32).toInt64 &&& 63)))) 17 (2 : Int32).toNatClampNeg (((xupL (xupL (xup s1 3 6 ((st.1 3 6) + v2)) 17 (0 : Int32).toNatClampNeg (((xup s1 3 6 ((st.1 3 6) + v2)).2 17 (0 : Int32).toNatClampNeg) ||| ((1 : Int64) <<< (((xup s1 3 6 ((st.1 3 6) + v2)).1 18 (0 : Int32).toNatClampNeg : Int32).toInt64 &&& 63)))) 17 (1 : Int32).toNatClampNeg (((xupL (xup s1 3 6 ((st.1 3 6) + v2)) 17 (0 : Int32).toNatClampNeg (((xup s1 3 6 ((st.1 3 6) + v2)).2 17 (0 : Int32).toNatClampNeg) ||| ((1 : Int64) <<< (((xup s1 3 6 ((st.1 3 6) + v2)).1 18 (0 : Int32).toNatClampNeg : Int32).toInt64 &&& 63)))).2 17 (1 : Int32).toNatClampNeg) ||| ((1 : Int64) <<< (((xupL (xup s1 3 6 ((st.1 3 6) + v2)) 17 (0 : Int32).toNatClampNeg (((xup s1 3 6 ((st.1 3 6) + v2)).2 17 (0 : Int32).toNatClampNeg) ||| ((1 : Int64) <<< (((xup s1 3 6 ((st.1 3 6) + v2)).1 18 (0 : Int32).toNatClampNeg : Int32).toInt64 &&& 63)))).1 18 (1 : Int32).toNatClampNeg : Int32).toInt64 &&& 63)))).2 17 (2 : Int32).toNatClampNeg) ||| a1)) (Qi fun v4 s3 => Q (some (.int 1)) (xup s3 18 (2 : Int32).toNatClampNeg v4))) ∧ (¬ a3 < ((xupL (xupL (xupL (xup s1 3 6 ((st.1 3 6) + v2)) 17 (0 : Int32).toNatClampNeg (((xup s1 3 6 ((st.1 3 6) + v2)).2 17 (0 : Int32).toNatClampNeg) ||| ((1 : Int64) <<< (((xup s1 3 6 ((st.1 3 6) + v2)).1 18 (0 : Int32).toNatClampNeg : Int32).toInt64 &&& 63)))) 17 (1 : Int32).toNatClampNeg (((xupL (xup s1 3 6 ((st.1 3 6) + v2)) 17 (0 : Int32).toNatClampNeg (((xup s1 3 6 ((st.1 3 6) + v2)).2 17 (0 : Int32).toNatClampNeg) ||| ((1 : Int64) <<< (((xup s1 3 6 ((st.1 3 6) + v2)).1 18 (0 : Int32).toNatClampNeg : Int32).toInt64 &&& 63)))).2 17 (1 : Int32).toNatClampNeg) ||| ((1 : Int64) <<< (((xupL (xup s1 3 6 ((st.1 3 6) + v2)) 17 (0 : Int32).toNatClampNeg (((xup s1 3 6 ((st.1 3 6) + v2)).2 17 (0 : Int32).toNatClampNeg) ||| ((1 : Int64) <<< (((xup s1 3 6 ((st.1 3 6) + v2)).1 18 (0 : Int32).toNatClampNeg : Int32).toInt64 &&& 63)))).1 18 (1 : Int32).toNatClampNeg : Int32).toInt64 &&& 63)))) 17 (2 : Int32).toNatClampNeg (((xupL (xupL (xup s1 3 6 ((st.1 3 6) + v2)) 17 (0 : Int32).toNatClampNeg (((xup s1 3 6 ((st.1 3 6) + v2)).2 17 (0 : Int32).toNatClampNeg) ||| ((1 : Int64) <<< (((xup s1 3 6 ((st.1 3 6) + v2)).1 18 (0 : Int32).toNatClampNeg : Int32).toInt64 &&& 63)))) 17 (1 : Int32).toNatClampNeg (((xupL (xup s1 3 6 ((st.1 3 6) + v2)) 17 (0 : Int32).toNatClampNeg (((xup s1 3 6 ((st.1 3 6) + v2)).2 17 (0 : Int32).toNatClampNeg) ||| ((1 : Int64) <<< (((xup s1 3 6 ((st.1 3 6) + v2)).1 18 (0 : Int32).toNatClampNeg : Int32).toInt64 &&& 63)))).2 17 (1 : Int32).toNatClampNeg) ||| ((1 : Int64) <<< (((xupL (xup s1 3 6 ((st.1 3 6) + v2)) 17 (0 : Int32).toNatClampNeg (((xup s1 3 6 ((st.1 3 6) + v2)).2 17 (0 : Int32).toNatClampNeg) ||| ((1 : Int64) <<< (((xup s1 3 6 ((st.1 3 6) + v2)).1 18 (0 : Int32).toNatClampNeg : Int32).toInt64 &&& 63)))).1 18 (1 : Int32).toNatClampNeg : Int32).toInt64 &&& 63)))).2 17 (2 : Int32).toNatClampNeg) ||| a1)).1 3 6) → Q (some (.int 0)) (xupL (xupL (xupL (xup s1 3 6 ((st.1 3 6) + v2)) 17 (0 : Int32).toNatClampNeg (((xup s1 3 6 ((st.1 3 6) + v2)).2 17 (0 : Int32).toNatClampNeg) ||| ((1 : Int64) <<< (((xup s1 3 6 ((st.1 3 6) + v2)).1 18 (0 : Int32).toNatClampNeg : Int32).toInt64 &&& 63)))) 17 (1 : Int32).toNatClampNeg (((xupL (xup s1 3 6 ((st.1 3 6) + v2)) 17 (0 : Int32).toNatClampNeg (((xup s1 3 6 ((st.1 3 6) + v2)).2 17 (0 : Int32).toNatClampNeg) ||| ((1 : Int64) <<< (((xup s1 3 6 ((st.1 3 6) + v2)).1 18 (0 : Int32).toNatClampNeg : Int32).toInt64 &&& 63)))).2 17 (1 : Int32).toNatClampNeg) ||| ((1 : Int64) <<< (((xupL (xup s1 3 6 ((st.1 3 6) + v2)) 17 (0 : Int32).toNatClampNeg (((xup s1 3 6 ((st.1 3 6) + v2)).2 17 (0 : Int32).toNatClampNeg) ||| ((1 : Int64) <<< (((xup s1 3 6 ((st.1 3 6) + v2)).1 18 (0 : Int32).toNatClampNeg : Int32).toInt64 &&& 63)))).1 18 (1 : Int32).toNatClampNeg : Int32).toInt64 &&& 63)))) 17 (2 : Int32).toNatClampNeg (((xupL (xupL (xup s1 3 6 ((st.1 3 6) + v2)) 17 (0 : Int32).toNatClampNeg (((xup s1 3 6 ((st.1 3 6) + v2)).2 17 (0 : Int32).toNatClampNeg) ||| ((1 : Int64) <<< (((xup s1 3 6 ((st.1 3 6) + v2)).1 18 (0 : Int32).toNatClampNeg : Int32).toInt64 &&& 63)))) 17 (1 : Int32).toNatClampNeg (((xupL (xup s1 3 6 ((st.1 3 6) + v2)) 17 (0 : Int32).toNatClampNeg (((xup s1 3 6 ((st.1 3 6) + v2)).2 17 (0 : Int32).toNatClampNeg) ||| ((1 : Int64) <<< (((xup s1 3 6 ((st.1 3 6) + v2)).1 18 (0 : Int32).toNatClampNeg : Int32).toInt64 &&& 63)))).2 17 (1 : Int32).toNatClampNeg) ||| ((1 : Int64) <<< (((xupL (xup s1 3 6 ((st.1 3 6) + v2)) 17 (0 : Int32).toNatClampNeg (((xup s1 3 6 ((st.1 3 6) + v2)).2 17 (0 : Int32).toNatClampNeg) ||| ((1 : Int64) <<< (((xup s1 3 6 ((st.1 3 6) + v2)).1 18 (0 : Int32).toNatClampNeg : Int32).toInt64 &&& 63)))).1 18 (1 : Int32).toNatClampNeg : Int32).toInt64 &&& 63)))).2 17 (2 : Int32).toNatClampNeg) ||| a1)))))))) ∧ ((lg_cmp a1 0) = 0 → Q (some (.int 0)) st))) : Ct (d + 1) M_X3_meet [.ref 3, .long a1, .int a3] st Q := by
  refine Ct_of (by decide +kernel) (Nat.le_of_ble_eq_true rfl) (fun κ C Z => ?_)
  show X κ 0 [(0, .ref 3), (1, .long a1), (3, .int a3)] [] st
  refine X_lload_n C dX3_meet_0 rfl (j := 1) rfl ?_
  refine X_lconst C (v := 0) (by decide) dX3_meet_1 ?_
  refine X_lcmp C dX3_meet_2 ?_
  refine X_if_ne C dX3_meet_3 (tgt := 8) (by decide) (fun c => ?_) (fun c => ?_)
  · replace h := h.1 c
    refine X_aload_n C dX3_meet_8 rfl (j := 0) rfl ?_
    refine X_getI C sh_3 rfl fw_RX3_50 dX3_meet_9 ?_
    refine X_istore C dX3_meet_12 (by decide) (L' := [(4, .int (st.1 3 6)), (0, .ref 3), (1, .long a1), (3, .int a3)]) rfl ?_
    refine X_aload_n C dX3_meet_14 rfl (j := 1) rfl ?_
    refine X_dup C rfl dX3_meet_15 ?_
    refine X_getI C sh_3 rfl fw_RX3_50 dX3_meet_16 ?_
    refine X_lload_n C dX3_meet_19 rfl (j := 2) rfl ?_
    refine X_callS C dX3_meet_20 pw_RX3_57 (as := [.long a1]) (S := [.int (st.1 3 6), .ref 3]) rfl rfl (Nat.le_of_ble_eq_true rfl) (Ct_mono h ?_)
    rintro _ s1 ⟨v2, rfl, h⟩
    show X κ 23 [(4, .int (st.1 3 6)), (0, .ref 3), (1, .long a1), (3, .int a3)] [.int v2, .int (st.1 3 6), .ref 3] s1
    refine X_iadd C dX3_meet_23 ?_
    refine X_putI C sh_3 rfl fp_RX3_50 dX3_meet_24 ?_
    refine X_aload_n C dX3_meet_27 rfl (j := 1) rfl ?_
    refine X_getR C sh_3 rfl fw_RX3_20 dX3_meet_28 ?_
    refine X_iconst C (v := 0) (by decide) dX3_meet_31 ?_
    refine X_dup2 C rfl rfl dX3_meet_32 ?_
    refine X_lald C sh_17 (by unfold vp_in; decide) dX3_meet_33 ?_
    refine X_lconst C (v := 1) (by decide) dX3_meet_34 ?_
    refine X_aload_n C dX3_meet_35 rfl (j := 1) rfl ?_
    refine X_getR C sh_3 rfl fw_RX3_23 dX3_meet_36 ?_
    refine X_iconst C (v := 0) (by decide) dX3_meet_39 ?_
    refine X_iald C sh_18 (by unfold vp_in; decide) dX3_meet_40 ?_
    refine X_lshl C dX3_meet_41 ?_
    refine X_lor C dX3_meet_42 ?_
    refine X_last C sh_17 (by unfold vp_in; decide) dX3_meet_43 ?_
    refine X_aload_n C dX3_meet_44 rfl (j := 1) rfl ?_
    refine X_getR C sh_3 rfl fw_RX3_20 dX3_meet_45 ?_
    refine X_iconst C (v := 1) (by decide) dX3_meet_48 ?_
    refine X_dup2 C rfl rfl dX3_meet_49 ?_
    refine X_lald C sh_17 (by unfold vp_in; decide) dX3_meet_50 ?_
    refine X_lconst C (v := 1) (by decide) dX3_meet_51 ?_
    refine X_aload_n C dX3_meet_52 rfl (j := 1) rfl ?_
    refine X_getR C sh_3 rfl fw_RX3_23 dX3_meet_53 ?_
    refine X_iconst C (v := 1) (by decide) dX3_meet_56 ?_
    refine X_iald C sh_18 (by unfold vp_in; decide) dX3_meet_57 ?_
    refine X_lshl C dX3_meet_58 ?_
    refine X_lor C dX3_meet_59 ?_
    refine X_last C sh_17 (by unfold vp_in; decide) dX3_meet_60 ?_
    refine X_aload_n C dX3_meet_61 rfl (j := 1) rfl ?_
    refine X_getR C sh_3 rfl fw_RX3_20 dX3_meet_62 ?_
    refine X_iconst C (v := 2) (by decide) dX3_meet_65 ?_
    refine X_dup2 C rfl rfl dX3_meet_66 ?_
    refine X_lald C sh_17 (by unfold vp_in; decide) dX3_meet_67 ?_
    refine X_lload_n C dX3_meet_68 rfl (j := 2) rfl ?_
    refine X_lor C dX3_meet_69 ?_
    refine X_last C sh_17 (by unfold vp_in; decide) dX3_meet_70 ?_
    refine X_iload_n C dX3_meet_71 rfl (j := 3) rfl ?_
    refine X_if_lt C dX3_meet_72 (tgt := 83) (by decide) (fun c => ?_) (fun c => ?_)
    · replace h := h.1 c
      refine X_iconst C (v := 0) (by decide) dX3_meet_83 ?_
      exact X_zret C Z rfl (by decide) dX3_meet_84 h
    · replace h := h.2 c
      refine X_aload_n C dX3_meet_75 rfl (j := 1) rfl ?_
      refine X_getI C sh_3 rfl fw_RX3_50 dX3_meet_76 ?_
      refine X_iload_n C dX3_meet_79 rfl (j := 3) rfl ?_
      refine X_icmp_gt C dX3_meet_80 (tgt := 85) (by decide) (fun c => ?_) (fun c => ?_)
      · replace h := h.1 c
        refine X_aload_n C dX3_meet_85 rfl (j := 1) rfl ?_
        refine X_getR C sh_3 rfl fw_RX3_23 dX3_meet_86 ?_
        refine X_iconst C (v := 2) (by decide) dX3_meet_89 ?_
        refine X_lload_n C dX3_meet_90 rfl (j := 2) rfl ?_
        refine X_iload_n C dX3_meet_91 rfl (j := 3) rfl ?_
        refine X_iload C dX3_meet_92 (j := 0) rfl ?_
        refine X_isub C dX3_meet_94 ?_
        refine X_callS C dX3_meet_95 pw_RX3_63 (as := [.long a1, .int (a3 - (st.1 3 6))]) (S := [.int 2, .ref 18]) rfl rfl (Nat.le_of_ble_eq_true rfl) (Ct_mono h ?_)
        rintro _ s3 ⟨v4, rfl, h⟩
        show X κ 98 [(4, .int (st.1 3 6)), (0, .ref 3), (1, .long a1), (3, .int a3)] [.int v4, .int 2, .ref 18] s3
        refine X_iast C sh_18 (by unfold vp_in; decide) dX3_meet_98 ?_
        refine X_iconst C (v := 1) (by decide) dX3_meet_99 ?_
        exact X_zret C Z rfl (by decide) dX3_meet_100 h
      · replace h := h.2 c
        refine X_iconst C (v := 0) (by decide) dX3_meet_83 ?_
        exact X_zret C Z rfl (by decide) dX3_meet_84 h
  · replace h := h.2 c
    refine X_iconst C (v := 0) (by decide) dX3_meet_6 ?_
    exact X_zret C Z rfl (by decide) dX3_meet_7 h
set_option maxHeartbeats 4000000 in
set_option maxRecDepth 100000 in
theorem bX3_nth_5 {κ : xK} {d : Nat} {Q : Option Value → xSt → Prop} (C : Cx κ M_X3_nth (d + 1)) (Z : xR κ Q) (x0 : Int64) (x2 : Int32) (x3 : Int32) (x4 : Int32) (st : xSt) (h : ((40 < x4 → Q (some (.int ((-1)))) st) ∧ (¬ 40 < x4 → Ct d M_X3_isAmong [.long x0, .int x4] st (Qi fun v2 s1 => ((v2 = 0 → X κ 5 [(0, .long x0), (2, .int x2), (3, .int x3), (4, .int (x4 + 1))] [] s1) ∧ (¬ v2 = 0 → ((¬ x3 = x2 → X κ 5 [(0, .long x0), (2, .int x2), (3, .int (x3 + 1)), (4, .int (x4 + 1))] [] s1) ∧ (x3 = x2 → Q (some (.int x4)) s1)))))))) : X κ 5 [(0, .long x0), (2, .int x2), (3, .int x3), (4, .int x4)] [] st := by
  refine X_iload C dX3_nth_5 (j := 3) rfl ?_
  refine X_bipush C (v := 40) (by decide) dX3_nth_7 ?_
  refine X_icmp_gt C dX3_nth_9 (tgt := 38) (by decide) (fun c => ?_) (fun c => ?_)
  · replace h := h.1 c
    refine X_iconst C (v := (-1)) (by decide) dX3_nth_38 ?_
    exact X_iret C Z rfl dX3_nth_39 h
  · replace h := h.2 c
    refine X_lload_n C dX3_nth_12 rfl (j := 0) rfl ?_
    refine X_iload C dX3_nth_13 (j := 3) rfl ?_
    refine X_callS C dX3_nth_15 pw_RX3_105 (as := [.long x0, .int x4]) (S := []) rfl rfl (Nat.le_of_ble_eq_true rfl) (Ct_mono h ?_)
    rintro _ s1 ⟨v2, rfl, h⟩
    show X κ 18 [(0, .long x0), (2, .int x2), (3, .int x3), (4, .int x4)] [.int v2] s1
    refine X_if_eq C dX3_nth_18 (tgt := 32) (by decide) (fun c => ?_) (fun c => ?_)
    · replace h := h.1 c
      refine X_iinc C dX3_nth_32 (j := 3) rfl (v := x4 + 1) rfl (by decide) (L' := [(4, .int (x4 + 1)), (0, .long x0), (2, .int x2), (3, .int x3)]) rfl ?_
      refine X_goto C dX3_nth_35 (tgt := 5) (by decide) ?_
      refine X_loc [1, 2, 3, 0] rfl ?_
      exact h
    · replace h := h.2 c
      refine X_iload_n C dX3_nth_21 rfl (j := 2) rfl ?_
      refine X_iload_n C dX3_nth_22 rfl (j := 1) rfl ?_
      refine X_icmp_ne C dX3_nth_23 (tgt := 29) (by decide) (fun c => ?_) (fun c => ?_)
      · replace h := h.1 c
        refine X_iinc C dX3_nth_29 (j := 2) rfl (v := x3 + 1) rfl (by decide) (L' := [(3, .int (x3 + 1)), (0, .long x0), (2, .int x2), (4, .int x4)]) rfl ?_
        refine X_iinc C dX3_nth_32 (j := 3) rfl (v := x4 + 1) rfl (by decide) (L' := [(4, .int (x4 + 1)), (3, .int (x3 + 1)), (0, .long x0), (2, .int x2)]) rfl ?_
        refine X_goto C dX3_nth_35 (tgt := 5) (by decide) ?_
        refine X_loc [2, 3, 1, 0] rfl ?_
        exact h
      · replace h := h.2 c
        refine X_iload C dX3_nth_26 (j := 3) rfl ?_
        exact X_iret C Z rfl dX3_nth_28 h
set_option maxHeartbeats 4000000 in
set_option maxRecDepth 100000 in
theorem eX3_nth {d : Nat} {Q : Option Value → xSt → Prop} (a0 : Int64) (a2 : Int32) (st : xSt) (h : ∀ κ : xK, Cx κ M_X3_nth (d + 1) → xR κ Q → X κ 5 [(0, .long a0), (2, .int a2), (3, .int 0), (4, .int 1)] [] st) : Ct (d + 1) M_X3_nth [.long a0, .int a2] st Q := by
  refine Ct_of (by decide +kernel) (Nat.le_of_ble_eq_true rfl) (fun κ C Z => ?_)
  replace h := h κ C Z
  show X κ 0 [(0, .long a0), (2, .int a2)] [] st
  refine X_iconst C (v := 0) (by decide) dX3_nth_0 ?_
  refine X_istore_n C dX3_nth_1 rfl (by decide) (L' := [(3, .int 0), (0, .long a0), (2, .int a2)]) rfl ?_
  refine X_iconst C (v := 1) (by decide) dX3_nth_2 ?_
  refine X_istore C dX3_nth_3 (by decide) (L' := [(4, .int 1), (3, .int 0), (0, .long a0), (2, .int a2)]) rfl ?_
  refine X_loc [2, 3, 1, 0] rfl ?_
  exact h
set_option maxHeartbeats 4000000 in
set_option maxRecDepth 100000 in
theorem bX3_narrow_6 {κ : xK} {d : Nat} {Q : Option Value → xSt → Prop} (C : Cx κ M_X3_narrow (d + 1)) (Z : xR κ Q) (x3 : Int32) (x4 : Int64) (x6 : Int32) (st : xSt) (h : (((st.1 3 4) ≤ x6 → Q (some (.long x4)) st) ∧ (¬ (st.1 3 4) ≤ x6 → ((8 ≤ x6 → Q (some (.long x4)) st) ∧ (¬ 8 ≤ x6 → (((lg_cmp x4 0) = 0 → Q (some (.long x4)) st) ∧ (¬ (lg_cmp x4 0) = 0 → Ct d M_X3_inSet [.int x3, .int x6] st (Qi fun v2 s1 => ((v2 = 0 → X κ 6 [(0, .ref 3), (3, .int x3), (4, .long x4), (6, .int (x6 + 1))] [] s1) ∧ (¬ v2 = 0 → vp_in x6 8 ∧ ((¬ (s1.1 (58 + (x6 : Int32).toNatClampNeg) (0 : Int32).toNatClampNeg) = 1 → vp_in x6 8 ∧ ((¬ (s1.1 (58 + (x6 : Int32).toNatClampNeg) (0 : Int32).toNatClampNeg) = 2 → X κ 6 [(0, .ref 3), (3, .int x3), (4, .long x4), (6, .int (x6 + 1))] [] s1) ∧ ((s1.1 (58 + (x6 : Int32).toNatClampNeg) (0 : Int32).toNatClampNeg) = 2 → vp_in x6 8 ∧ vp_in x6 8 ∧ Ct d M_X3_byLess [.ref 3, .int (s1.1 (58 + (x6 : Int32).toNatClampNeg) (1 : Int32).toNatClampNeg), .int (s1.1 (58 + (x6 : Int32).toNatClampNeg) (2 : Int32).toNatClampNeg)] s1 (Ql fun v8 s7 => X κ 6 [(0, .ref 3), (3, .int x3), (4, .long (x4 &&& v8)), (6, .int (x6 + 1))] [] s7)))) ∧ ((s1.1 (58 + (x6 : Int32).toNatClampNeg) (0 : Int32).toNatClampNeg) = 1 → vp_in x6 8 ∧ vp_in x6 8 ∧ vp_in x6 8 ∧ Ct d M_X3_bySum [.ref 3, .int (s1.1 (58 + (x6 : Int32).toNatClampNeg) (1 : Int32).toNatClampNeg), .int (s1.1 (58 + (x6 : Int32).toNatClampNeg) (2 : Int32).toNatClampNeg), .int (s1.1 (58 + (x6 : Int32).toNatClampNeg) (3 : Int32).toNatClampNeg)] s1 (Ql fun v13 s12 => X κ 6 [(0, .ref 3), (3, .int x3), (4, .long (x4 &&& v13)), (6, .int (x6 + 1))] [] s12))))))))))))) : X κ 6 [(0, .ref 3), (3, .int x3), (4, .long x4), (6, .int x6)] [] st := by
  refine X_iload C dX3_narrow_6 (j := 3) rfl ?_
  refine X_aload_n C dX3_narrow_8 rfl (j := 0) rfl ?_
  refine X_getI C sh_3 rfl fw_RX3_31 dX3_narrow_9 ?_
  refine X_icmp_ge C dX3_narrow_12 (tgt := 136) (by decide) (fun c => ?_) (fun c => ?_)
  · replace h := h.1 c
    refine X_lload C dX3_narrow_136 (j := 2) rfl ?_
    exact X_lret C Z rfl dX3_narrow_138 h
  · replace h := h.2 c
    refine X_iload C dX3_narrow_15 (j := 3) rfl ?_
    refine X_bipush C (v := 8) (by decide) dX3_narrow_17 ?_
    refine X_icmp_ge C dX3_narrow_19 (tgt := 136) (by decide) (fun c => ?_) (fun c => ?_)
    · replace h := h.1 c
      refine X_lload C dX3_narrow_136 (j := 2) rfl ?_
      exact X_lret C Z rfl dX3_narrow_138 h
    · replace h := h.2 c
      refine X_lload C dX3_narrow_22 (j := 2) rfl ?_
      refine X_lconst C (v := 0) (by decide) dX3_narrow_24 ?_
      refine X_lcmp C dX3_narrow_25 ?_
      refine X_if_eq C dX3_narrow_26 (tgt := 136) (by decide) (fun c => ?_) (fun c => ?_)
      · replace h := h.1 c
        refine X_lload C dX3_narrow_136 (j := 2) rfl ?_
        exact X_lret C Z rfl dX3_narrow_138 h
      · replace h := h.2 c
        refine X_iload_n C dX3_narrow_29 rfl (j := 1) rfl ?_
        refine X_iload C dX3_narrow_30 (j := 3) rfl ?_
        refine X_callS C dX3_narrow_32 pw_RX3_91 (as := [.int x3, .int x6]) (S := []) rfl rfl (Nat.le_of_ble_eq_true rfl) (Ct_mono h ?_)
        rintro _ s1 ⟨v2, rfl, h⟩
        show X κ 35 [(0, .ref 3), (3, .int x3), (4, .long x4), (6, .int x6)] [.int v2] s1
        refine X_if_eq C dX3_narrow_35 (tgt := 130) (by decide) (fun c => ?_) (fun c => ?_)
        · replace h := h.1 c
          refine X_iinc C dX3_narrow_130 (j := 3) rfl (v := x6 + 1) rfl (by decide) (L' := [(6, .int (x6 + 1)), (0, .ref 3), (3, .int x3), (4, .long x4)]) rfl ?_
          refine X_goto C dX3_narrow_133 (tgt := 6) (by decide) ?_
          refine X_loc [1, 2, 3, 0] rfl ?_
          exact h
        · replace h := h.2 c
          refine X_aload_n C dX3_narrow_38 rfl (j := 0) rfl ?_
          refine X_getR C sh_3 rfl fw_RX3_13 dX3_narrow_39 ?_
          refine X_iload C dX3_narrow_42 (j := 3) rfl ?_
          obtain ⟨g3, h⟩ := h
          refine X_aald C sh_15 g3 dX3_narrow_44 ?_
          refine X_iconst C (v := 0) (by decide) dX3_narrow_45 ?_
          refine X_iald C (shr_58 (vp_lt g3)) (by unfold vp_in; decide) dX3_narrow_46 ?_
          refine X_iconst C (v := 1) (by decide) dX3_narrow_47 ?_
          refine X_icmp_ne C dX3_narrow_48 (tgt := 90) (by decide) (fun c => ?_) (fun c => ?_)
          · replace h := h.1 c
            refine X_aload_n C dX3_narrow_90 rfl (j := 0) rfl ?_
            refine X_getR C sh_3 rfl fw_RX3_13 dX3_narrow_91 ?_
            refine X_iload C dX3_narrow_94 (j := 3) rfl ?_
            obtain ⟨g4, h⟩ := h
            refine X_aald C sh_15 g4 dX3_narrow_96 ?_
            refine X_iconst C (v := 0) (by decide) dX3_narrow_97 ?_
            refine X_iald C (shr_58 (vp_lt g4)) (by unfold vp_in; decide) dX3_narrow_98 ?_
            refine X_iconst C (v := 2) (by decide) dX3_narrow_99 ?_
            refine X_icmp_ne C dX3_narrow_100 (tgt := 130) (by decide) (fun c => ?_) (fun c => ?_)
            · replace h := h.1 c
              refine X_iinc C dX3_narrow_130 (j := 3) rfl (v := x6 + 1) rfl (by decide) (L' := [(6, .int (x6 + 1)), (0, .ref 3), (3, .int x3), (4, .long x4)]) rfl ?_
              refine X_goto C dX3_narrow_133 (tgt := 6) (by decide) ?_
              refine X_loc [1, 2, 3, 0] rfl ?_
              exact h
            · replace h := h.2 c
              refine X_lload C dX3_narrow_103 (j := 2) rfl ?_
              refine X_aload_n C dX3_narrow_105 rfl (j := 0) rfl ?_
              refine X_aload_n C dX3_narrow_106 rfl (j := 0) rfl ?_
              refine X_getR C sh_3 rfl fw_RX3_13 dX3_narrow_107 ?_
              refine X_iload C dX3_narrow_110 (j := 3) rfl ?_
              obtain ⟨g5, h⟩ := h
              refine X_aald C sh_15 g5 dX3_narrow_112 ?_
              refine X_iconst C (v := 1) (by decide) dX3_narrow_113 ?_
              refine X_iald C (shr_58 (vp_lt g5)) (by unfold vp_in; decide) dX3_narrow_114 ?_
              refine X_aload_n C dX3_narrow_115 rfl (j := 0) rfl ?_
              refine X_getR C sh_3 rfl fw_RX3_13 dX3_narrow_116 ?_
              refine X_iload C dX3_narrow_119 (j := 3) rfl ?_
              obtain ⟨g6, h⟩ := h
              refine X_aald C sh_15 g6 dX3_narrow_121 ?_
              refine X_iconst C (v := 2) (by decide) dX3_narrow_122 ?_
              refine X_iald C (shr_58 (vp_lt g6)) (by unfold vp_in; decide) dX3_narrow_123 ?_
              refine X_callV C dX3_narrow_124 pw_RX3_120 (b := 3) (as := [.int (s1.1 (58 + (x6 : Int32).toNatClampNeg) (1 : Int32).toNatClampNeg), .int (s1.1 (58 + (x6 : Int32).toNatClampNeg) (2 : Int32).toNatClampNeg)]) (S := [.long x4]) sh_3 rfl rfl rfl (Nat.le_of_ble_eq_true rfl) (Ct_mono h ?_)
              rintro _ s7 ⟨v8, rfl, h⟩
              show X κ 127 [(0, .ref 3), (3, .int x3), (4, .long x4), (6, .int x6)] [.long v8, .long x4] s7
              refine X_land C dX3_narrow_127 ?_
              refine X_lstore C dX3_narrow_128 (by decide) (L' := [(4, .long (x4 &&& v8)), (0, .ref 3), (3, .int x3), (6, .int x6)]) rfl ?_
              refine X_iinc C dX3_narrow_130 (j := 3) rfl (v := x6 + 1) rfl (by decide) (L' := [(6, .int (x6 + 1)), (4, .long (x4 &&& v8)), (0, .ref 3), (3, .int x3)]) rfl ?_
              refine X_goto C dX3_narrow_133 (tgt := 6) (by decide) ?_
              refine X_loc [2, 3, 1, 0] rfl ?_
              exact h
          · replace h := h.2 c
            refine X_lload C dX3_narrow_51 (j := 2) rfl ?_
            refine X_aload_n C dX3_narrow_53 rfl (j := 0) rfl ?_
            refine X_aload_n C dX3_narrow_54 rfl (j := 0) rfl ?_
            refine X_getR C sh_3 rfl fw_RX3_13 dX3_narrow_55 ?_
            refine X_iload C dX3_narrow_58 (j := 3) rfl ?_
            obtain ⟨g9, h⟩ := h
            refine X_aald C sh_15 g9 dX3_narrow_60 ?_
            refine X_iconst C (v := 1) (by decide) dX3_narrow_61 ?_
            refine X_iald C (shr_58 (vp_lt g9)) (by unfold vp_in; decide) dX3_narrow_62 ?_
            refine X_aload_n C dX3_narrow_63 rfl (j := 0) rfl ?_
            refine X_getR C sh_3 rfl fw_RX3_13 dX3_narrow_64 ?_
            refine X_iload C dX3_narrow_67 (j := 3) rfl ?_
            obtain ⟨g10, h⟩ := h
            refine X_aald C sh_15 g10 dX3_narrow_69 ?_
            refine X_iconst C (v := 2) (by decide) dX3_narrow_70 ?_
            refine X_iald C (shr_58 (vp_lt g10)) (by unfold vp_in; decide) dX3_narrow_71 ?_
            refine X_aload_n C dX3_narrow_72 rfl (j := 0) rfl ?_
            refine X_getR C sh_3 rfl fw_RX3_13 dX3_narrow_73 ?_
            refine X_iload C dX3_narrow_76 (j := 3) rfl ?_
            obtain ⟨g11, h⟩ := h
            refine X_aald C sh_15 g11 dX3_narrow_78 ?_
            refine X_iconst C (v := 3) (by decide) dX3_narrow_79 ?_
            refine X_iald C (shr_58 (vp_lt g11)) (by unfold vp_in; decide) dX3_narrow_80 ?_
            refine X_callV C dX3_narrow_81 pw_RX3_116 (b := 3) (as := [.int (s1.1 (58 + (x6 : Int32).toNatClampNeg) (1 : Int32).toNatClampNeg), .int (s1.1 (58 + (x6 : Int32).toNatClampNeg) (2 : Int32).toNatClampNeg), .int (s1.1 (58 + (x6 : Int32).toNatClampNeg) (3 : Int32).toNatClampNeg)]) (S := [.long x4]) sh_3 rfl rfl rfl (Nat.le_of_ble_eq_true rfl) (Ct_mono h ?_)
            rintro _ s12 ⟨v13, rfl, h⟩
            show X κ 84 [(0, .ref 3), (3, .int x3), (4, .long x4), (6, .int x6)] [.long v13, .long x4] s12
            refine X_land C dX3_narrow_84 ?_
            refine X_lstore C dX3_narrow_85 (by decide) (L' := [(4, .long (x4 &&& v13)), (0, .ref 3), (3, .int x3), (6, .int x6)]) rfl ?_
            refine X_goto C dX3_narrow_87 (tgt := 130) (by decide) ?_
            refine X_iinc C dX3_narrow_130 (j := 3) rfl (v := x6 + 1) rfl (by decide) (L' := [(6, .int (x6 + 1)), (4, .long (x4 &&& v13)), (0, .ref 3), (3, .int x3)]) rfl ?_
            refine X_goto C dX3_narrow_133 (tgt := 6) (by decide) ?_
            refine X_loc [2, 3, 1, 0] rfl ?_
            exact h
set_option maxHeartbeats 4000000 in
set_option maxRecDepth 100000 in
theorem eX3_narrow {d : Nat} {Q : Option Value → xSt → Prop} (a1 : Int64) (a3 : Int32) (st : xSt) (h : ∀ κ : xK, Cx κ M_X3_narrow (d + 1) → xR κ Q → X κ 6 [(0, .ref 3), (3, .int a3), (4, .long a1), (6, .int 0)] [] st) : Ct (d + 1) M_X3_narrow [.ref 3, .long a1, .int a3] st Q := by
  refine Ct_of (by decide +kernel) (Nat.le_of_ble_eq_true rfl) (fun κ C Z => ?_)
  replace h := h κ C Z
  show X κ 0 [(0, .ref 3), (1, .long a1), (3, .int a3)] [] st
  refine X_lload_n C dX3_narrow_0 rfl (j := 1) rfl ?_
  refine X_lstore C dX3_narrow_1 (by decide) (L' := [(4, .long a1), (0, .ref 3), (1, .long a1), (3, .int a3)]) rfl ?_
  refine X_iconst C (v := 0) (by decide) dX3_narrow_3 ?_
  refine X_istore C dX3_narrow_4 (by decide) (L' := [(6, .int 0), (4, .long a1), (0, .ref 3), (1, .long a1), (3, .int a3)]) rfl ?_
  refine X_loc [2, 4, 1, 0] rfl ?_
  exact h
set_option maxHeartbeats 4000000 in
set_option maxRecDepth 100000 in
theorem eX3_known {d : Nat} {Q : Option Value → xSt → Prop} (a1 : Int32) (st : xSt) (h : ((a1 < 0 → Q (some (.int 0)) st) ∧ (¬ a1 < 0 → ((2 ≤ a1 → Q (some (.int 0)) st) ∧ (¬ 2 ≤ a1 → vp_in a1 3 ∧ Q (some (.int (st.1 18 (a1 : Int32).toNatClampNeg))) st))))) : Ct (d) M_X3_known [.ref 3, .int a1] st Q := by
  refine Ct_of (by decide +kernel) (Nat.le_of_ble_eq_true rfl) (fun κ C Z => ?_)
  show X κ 0 [(0, .ref 3), (1, .int a1)] [] st
  refine X_iload_n C dX3_known_0 rfl (j := 1) rfl ?_
  refine X_if_lt C dX3_known_1 (tgt := 18) (by decide) (fun c => ?_) (fun c => ?_)
  · replace h := h.1 c
    refine X_iconst C (v := 0) (by decide) dX3_known_18 ?_
    exact X_iret C Z rfl dX3_known_19 h
  · replace h := h.2 c
    refine X_iload_n C dX3_known_4 rfl (j := 1) rfl ?_
    refine X_iconst C (v := 2) (by decide) dX3_known_5 ?_
    refine X_icmp_ge C dX3_known_6 (tgt := 18) (by decide) (fun c => ?_) (fun c => ?_)
    · replace h := h.1 c
      refine X_iconst C (v := 0) (by decide) dX3_known_18 ?_
      exact X_iret C Z rfl dX3_known_19 h
    · replace h := h.2 c
      refine X_aload_n C dX3_known_9 rfl (j := 0) rfl ?_
      refine X_getR C sh_3 rfl fw_RX3_23 dX3_known_10 ?_
      refine X_iload_n C dX3_known_13 rfl (j := 1) rfl ?_
      obtain ⟨g1, h⟩ := h
      refine X_iald C sh_18 g1 dX3_known_14 ?_
      refine X_goto C dX3_known_15 (tgt := 19) (by decide) ?_
      exact X_iret C Z rfl dX3_known_19 h
set_option maxHeartbeats 4000000 in
set_option maxRecDepth 100000 in
theorem eX3_isLast {d : Nat} {Q : Option Value → xSt → Prop} (a0 : Int32) (st : xSt) (h : ((¬ a0 = 2 → Q (some (.int 0)) st) ∧ (a0 = 2 → Q (some (.int 1)) st))) : Ct (d) M_X3_isLast [.int a0] st Q := by
  refine Ct_of (by decide +kernel) (Nat.le_of_ble_eq_true rfl) (fun κ C Z => ?_)
  show X κ 0 [(0, .int a0)] [] st
  refine X_iload_n C dX3_isLast_0 rfl (j := 0) rfl ?_
  refine X_iconst C (v := 2) (by decide) dX3_isLast_1 ?_
  refine X_icmp_ne C dX3_isLast_2 (tgt := 9) (by decide) (fun c => ?_) (fun c => ?_)
  · replace h := h.1 c
    refine X_iconst C (v := 0) (by decide) dX3_isLast_9 ?_
    exact X_iret C Z rfl dX3_isLast_10 h
  · replace h := h.2 c
    refine X_iconst C (v := 1) (by decide) dX3_isLast_5 ?_
    refine X_goto C dX3_isLast_6 (tgt := 10) (by decide) ?_
    exact X_iret C Z rfl dX3_isLast_10 h
set_option maxHeartbeats 4000000 in
set_option maxRecDepth 100000 in
theorem eX3_bySum {d : Nat} {Q : Option Value → xSt → Prop} (a1 : Int32) (a2 : Int32) (a3 : Int32) (st : xSt) (h : Ct d M_X3_isLast [.int a1] st (Qi fun v2 s1 => Ct d M_X3_isLast [.int a2] s1 (Qi fun v4 s3 => Ct d M_X3_isLast [.int a3] s3 (Qi fun v6 s5 => Ct d M_X3_known [.ref 3, .int a3] s5 (Qi fun v8 s7 => Ct d M_X3_known [.ref 3, .int a1] s7 (Qi fun v10 s9 => Ct d M_X3_known [.ref 3, .int a2] s9 (Qi fun v12 s11 => ((¬ ((v2 + v4) - v6) = 0 → ¬ ((v2 + v4) - v6) = 0 ∧ (((((v8 - v10) - v12) - ((v8 - v10) - v12) / ((v2 + v4) - v6) * ((v2 + v4) - v6)) = 0 → ¬ ((v2 + v4) - v6) = 0 ∧ Ct d M_X6_within [.int (((v8 - v10) - v12) / ((v2 + v4) - v6)), .int 1, .int 40] s11 (Qi fun v14 s13 => ((v14 = 0 → Q (some (.long 0)) s13) ∧ (¬ v14 = 0 → Q (some (.long ((1 : Int64) <<< ((((v8 - v10) - v12) / ((v2 + v4) - v6) : Int32).toInt64 &&& 63)))) s13)))) ∧ (¬ (((v8 - v10) - v12) - ((v8 - v10) - v12) / ((v2 + v4) - v6) * ((v2 + v4) - v6)) = 0 → Q (some (.long 0)) s11))) ∧ (((v2 + v4) - v6) = 0 → ((¬ ((v8 - v10) - v12) = 0 → Q (some (.long 0)) s11) ∧ (((v8 - v10) - v12) = 0 → Q (some (.long ((-1)))) s11))))))))))) : Ct (d + 1) M_X3_bySum [.ref 3, .int a1, .int a2, .int a3] st Q := by
  refine Ct_of (by decide +kernel) (Nat.le_of_ble_eq_true rfl) (fun κ C Z => ?_)
  show X κ 0 [(0, .ref 3), (1, .int a1), (2, .int a2), (3, .int a3)] [] st
  refine X_iload_n C dX3_bySum_0 rfl (j := 1) rfl ?_
  refine X_callS C dX3_bySum_1 pw_RX3_123 (as := [.int a1]) (S := []) rfl rfl (Nat.le_of_ble_eq_true rfl) (Ct_mono h ?_)
  rintro _ s1 ⟨v2, rfl, h⟩
  show X κ 4 [(0, .ref 3), (1, .int a1), (2, .int a2), (3, .int a3)] [.int v2] s1
  refine X_iload_n C dX3_bySum_4 rfl (j := 2) rfl ?_
  refine X_callS C dX3_bySum_5 pw_RX3_123 (as := [.int a2]) (S := [.int v2]) rfl rfl (Nat.le_of_ble_eq_true rfl) (Ct_mono h ?_)
  rintro _ s3 ⟨v4, rfl, h⟩
  show X κ 8 [(0, .ref 3), (1, .int a1), (2, .int a2), (3, .int a3)] [.int v4, .int v2] s3
  refine X_iadd C dX3_bySum_8 ?_
  refine X_iload_n C dX3_bySum_9 rfl (j := 3) rfl ?_
  refine X_callS C dX3_bySum_10 pw_RX3_123 (as := [.int a3]) (S := [.int (v2 + v4)]) rfl rfl (Nat.le_of_ble_eq_true rfl) (Ct_mono h ?_)
  rintro _ s5 ⟨v6, rfl, h⟩
  show X κ 13 [(0, .ref 3), (1, .int a1), (2, .int a2), (3, .int a3)] [.int v6, .int (v2 + v4)] s5
  refine X_isub C dX3_bySum_13 ?_
  refine X_istore C dX3_bySum_14 (by decide) (L' := [(4, .int ((v2 + v4) - v6)), (0, .ref 3), (1, .int a1), (2, .int a2), (3, .int a3)]) rfl ?_
  refine X_aload_n C dX3_bySum_16 rfl (j := 1) rfl ?_
  refine X_iload_n C dX3_bySum_17 rfl (j := 4) rfl ?_
  refine X_callV C dX3_bySum_18 pw_RX3_126 (b := 3) (as := [.int a3]) (S := []) sh_3 rfl rfl rfl (Nat.le_of_ble_eq_true rfl) (Ct_mono h ?_)
  rintro _ s7 ⟨v8, rfl, h⟩
  show X κ 21 [(4, .int ((v2 + v4) - v6)), (0, .ref 3), (1, .int a1), (2, .int a2), (3, .int a3)] [.int v8] s7
  refine X_aload_n C dX3_bySum_21 rfl (j := 1) rfl ?_
  refine X_iload_n C dX3_bySum_22 rfl (j := 2) rfl ?_
  refine X_callV C dX3_bySum_23 pw_RX3_126 (b := 3) (as := [.int a1]) (S := [.int v8]) sh_3 rfl rfl rfl (Nat.le_of_ble_eq_true rfl) (Ct_mono h ?_)
  rintro _ s9 ⟨v10, rfl, h⟩
  show X κ 26 [(4, .int ((v2 + v4) - v6)), (0, .ref 3), (1, .int a1), (2, .int a2), (3, .int a3)] [.int v10, .int v8] s9
  refine X_isub C dX3_bySum_26 ?_
  refine X_aload_n C dX3_bySum_27 rfl (j := 1) rfl ?_
  refine X_iload_n C dX3_bySum_28 rfl (j := 3) rfl ?_
  refine X_callV C dX3_bySum_29 pw_RX3_126 (b := 3) (as := [.int a2]) (S := [.int (v8 - v10)]) sh_3 rfl rfl rfl (Nat.le_of_ble_eq_true rfl) (Ct_mono h ?_)
  rintro _ s11 ⟨v12, rfl, h⟩
  show X κ 32 [(4, .int ((v2 + v4) - v6)), (0, .ref 3), (1, .int a1), (2, .int a2), (3, .int a3)] [.int v12, .int (v8 - v10)] s11
  refine X_isub C dX3_bySum_32 ?_
  refine X_istore C dX3_bySum_33 (by decide) (L' := [(5, .int ((v8 - v10) - v12)), (4, .int ((v2 + v4) - v6)), (0, .ref 3), (1, .int a1), (2, .int a2), (3, .int a3)]) rfl ?_
  refine X_iload C dX3_bySum_35 (j := 1) rfl ?_
  refine X_if_ne C dX3_bySum_37 (tgt := 53) (by decide) (fun c => ?_) (fun c => ?_)
  · replace h := h.1 c
    refine X_iload C dX3_bySum_53 (j := 0) rfl ?_
    refine X_iload C dX3_bySum_55 (j := 1) rfl ?_
    obtain ⟨g, h⟩ := h
    refine X_irem C g dX3_bySum_57 ?_
    refine X_if_eq C dX3_bySum_58 (tgt := 63) (by decide) (fun c => ?_) (fun c => ?_)
    · replace h := h.1 c
      refine X_iload C dX3_bySum_63 (j := 0) rfl ?_
      refine X_iload C dX3_bySum_65 (j := 1) rfl ?_
      obtain ⟨g, h⟩ := h
      refine X_idiv C g dX3_bySum_67 ?_
      refine X_istore C dX3_bySum_68 (by decide) (L' := [(6, .int (((v8 - v10) - v12) / ((v2 + v4) - v6))), (5, .int ((v8 - v10) - v12)), (4, .int ((v2 + v4) - v6)), (0, .ref 3), (1, .int a1), (2, .int a2), (3, .int a3)]) rfl ?_
      refine X_iload C dX3_bySum_70 (j := 0) rfl ?_
      refine X_iconst C (v := 1) (by decide) dX3_bySum_72 ?_
      refine X_bipush C (v := 40) (by decide) dX3_bySum_73 ?_
      refine X_callN C dX3_bySum_75 pw_RX3_85 (as := [.int (((v8 - v10) - v12) / ((v2 + v4) - v6)), .int 1, .int 40]) (S := []) rfl rfl (Nat.le_of_ble_eq_true rfl) (Ct_mono h ?_)
      rintro _ s13 ⟨v14, rfl, h⟩
      show X κ 78 [(6, .int (((v8 - v10) - v12) / ((v2 + v4) - v6))), (5, .int ((v8 - v10) - v12)), (4, .int ((v2 + v4) - v6)), (0, .ref 3), (1, .int a1), (2, .int a2), (3, .int a3)] [.int v14] s13
      refine X_if_eq C dX3_bySum_78 (tgt := 88) (by decide) (fun c => ?_) (fun c => ?_)
      · replace h := h.1 c
        refine X_lconst C (v := 0) (by decide) dX3_bySum_88 ?_
        exact X_lret C Z rfl dX3_bySum_89 h
      · replace h := h.2 c
        refine X_lconst C (v := 1) (by decide) dX3_bySum_81 ?_
        refine X_iload C dX3_bySum_82 (j := 0) rfl ?_
        refine X_lshl C dX3_bySum_84 ?_
        refine X_goto C dX3_bySum_85 (tgt := 89) (by decide) ?_
        exact X_lret C Z rfl dX3_bySum_89 h
    · replace h := h.2 c
      refine X_lconst C (v := 0) (by decide) dX3_bySum_61 ?_
      exact X_lret C Z rfl dX3_bySum_62 h
  · replace h := h.2 c
    refine X_iload C dX3_bySum_40 (j := 0) rfl ?_
    refine X_if_ne C dX3_bySum_42 (tgt := 51) (by decide) (fun c => ?_) (fun c => ?_)
    · replace h := h.1 c
      refine X_lconst C (v := 0) (by decide) dX3_bySum_51 ?_
      exact X_lret C Z rfl dX3_bySum_52 h
    · replace h := h.2 c
      refine X_ldc2 C (v := (-1)) u_505 dX3_bySum_45 ?_
      refine X_goto C dX3_bySum_48 (tgt := 52) (by decide) ?_
      exact X_lret C Z rfl dX3_bySum_52 h
set_option maxHeartbeats 4000000 in
set_option maxRecDepth 100000 in
theorem eX3_byLess {d : Nat} {Q : Option Value → xSt → Prop} (a1 : Int32) (a2 : Int32) (st : xSt) (h : ((¬ a2 = 2 → ((¬ a1 = 2 → Ct d M_X3_known [.ref 3, .int a1] st (Qi fun v2 s1 => Ct d M_X3_known [.ref 3, .int a2] s1 (Qi fun v4 s3 => ((v4 ≤ v2 → Q (some (.long 0)) s3) ∧ (¬ v4 ≤ v2 → Q (some (.long ((-1)))) s3))))) ∧ (a1 = 2 → Ct d M_X3_known [.ref 3, .int a2] st (Qi fun v6 s5 => Q (some (.long (((1 : Int64) <<< ((v6 : Int32).toInt64 &&& 63)) - 1))) s5)))) ∧ (a2 = 2 → Ct d M_X3_known [.ref 3, .int a1] st (Qi fun v8 s7 => Q (some (.long (((-1) : Int64) <<< ((v8 + 1 : Int32).toInt64 &&& 63)))) s7)))) : Ct (d + 1) M_X3_byLess [.ref 3, .int a1, .int a2] st Q := by
  refine Ct_of (by decide +kernel) (Nat.le_of_ble_eq_true rfl) (fun κ C Z => ?_)
  show X κ 0 [(0, .ref 3), (1, .int a1), (2, .int a2)] [] st
  refine X_iload_n C dX3_byLess_0 rfl (j := 2) rfl ?_
  refine X_iconst C (v := 2) (by decide) dX3_byLess_1 ?_
  refine X_icmp_ne C dX3_byLess_2 (tgt := 17) (by decide) (fun c => ?_) (fun c => ?_)
  · replace h := h.1 c
    refine X_iload_n C dX3_byLess_17 rfl (j := 1) rfl ?_
    refine X_iconst C (v := 2) (by decide) dX3_byLess_18 ?_
    refine X_icmp_ne C dX3_byLess_19 (tgt := 32) (by decide) (fun c => ?_) (fun c => ?_)
    · replace h := h.1 c
      refine X_aload_n C dX3_byLess_32 rfl (j := 0) rfl ?_
      refine X_iload_n C dX3_byLess_33 rfl (j := 1) rfl ?_
      refine X_callV C dX3_byLess_34 pw_RX3_126 (b := 3) (as := [.int a1]) (S := []) sh_3 rfl rfl rfl (Nat.le_of_ble_eq_true rfl) (Ct_mono h ?_)
      rintro _ s1 ⟨v2, rfl, h⟩
      show X κ 37 [(0, .ref 3), (1, .int a1), (2, .int a2)] [.int v2] s1
      refine X_aload_n C dX3_byLess_37 rfl (j := 0) rfl ?_
      refine X_iload_n C dX3_byLess_38 rfl (j := 2) rfl ?_
      refine X_callV C dX3_byLess_39 pw_RX3_126 (b := 3) (as := [.int a2]) (S := [.int v2]) sh_3 rfl rfl rfl (Nat.le_of_ble_eq_true rfl) (Ct_mono h ?_)
      rintro _ s3 ⟨v4, rfl, h⟩
      show X κ 42 [(0, .ref 3), (1, .int a1), (2, .int a2)] [.int v4, .int v2] s3
      refine X_icmp_ge C dX3_byLess_42 (tgt := 51) (by decide) (fun c => ?_) (fun c => ?_)
      · replace h := h.1 c
        refine X_lconst C (v := 0) (by decide) dX3_byLess_51 ?_
        exact X_lret C Z rfl dX3_byLess_52 h
      · replace h := h.2 c
        refine X_ldc2 C (v := (-1)) u_505 dX3_byLess_45 ?_
        refine X_goto C dX3_byLess_48 (tgt := 52) (by decide) ?_
        exact X_lret C Z rfl dX3_byLess_52 h
    · replace h := h.2 c
      refine X_lconst C (v := 1) (by decide) dX3_byLess_22 ?_
      refine X_aload_n C dX3_byLess_23 rfl (j := 0) rfl ?_
      refine X_iload_n C dX3_byLess_24 rfl (j := 2) rfl ?_
      refine X_callV C dX3_byLess_25 pw_RX3_126 (b := 3) (as := [.int a2]) (S := [.long 1]) sh_3 rfl rfl rfl (Nat.le_of_ble_eq_true rfl) (Ct_mono h ?_)
      rintro _ s5 ⟨v6, rfl, h⟩
      show X κ 28 [(0, .ref 3), (1, .int a1), (2, .int a2)] [.int v6, .long 1] s5
      refine X_lshl C dX3_byLess_28 ?_
      refine X_lconst C (v := 1) (by decide) dX3_byLess_29 ?_
      refine X_lsub C dX3_byLess_30 ?_
      exact X_lret C Z rfl dX3_byLess_31 h
  · replace h := h.2 c
    refine X_ldc2 C (v := (-1)) u_505 dX3_byLess_5 ?_
    refine X_aload_n C dX3_byLess_8 rfl (j := 0) rfl ?_
    refine X_iload_n C dX3_byLess_9 rfl (j := 1) rfl ?_
    refine X_callV C dX3_byLess_10 pw_RX3_126 (b := 3) (as := [.int a1]) (S := [.long ((-1))]) sh_3 rfl rfl rfl (Nat.le_of_ble_eq_true rfl) (Ct_mono h ?_)
    rintro _ s7 ⟨v8, rfl, h⟩
    show X κ 13 [(0, .ref 3), (1, .int a1), (2, .int a2)] [.int v8, .long ((-1))] s7
    refine X_iconst C (v := 1) (by decide) dX3_byLess_13 ?_
    refine X_iadd C dX3_byLess_14 ?_
    refine X_lshl C dX3_byLess_15 ?_
    exact X_lret C Z rfl dX3_byLess_16 h
