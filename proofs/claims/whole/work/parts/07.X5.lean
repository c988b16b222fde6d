set_option maxHeartbeats 4000000 in
set_option maxRecDepth 100000 in
theorem eX5_size {d : Nat} {Q : Option Value → xSt → Prop} (st : xSt) (h : Q (some (.int (st.1 6 1))) st) : Ct (d) M_X5_size [.ref 6] st Q := by
  refine Ct_of (by decide +kernel) (Nat.le_of_ble_eq_true rfl) (fun κ C Z => ?_)
  show X κ 0 [(0, .ref 6)] [] st
  refine X_aload_n C dX5_size_0 rfl (j := 0) rfl ?_
  refine X_getI C sh_6 rfl fw_RX5_19 dX5_size_1 ?_
  exact X_iret C Z rfl dX5_size_4 h
set_option maxHeartbeats 4000000 in
set_option maxRecDepth 100000 in
theorem eX5_append {d : Nat} {Q : Option Value → xSt → Prop} (a1 : Int32) (st : xSt) (h : (((st.1 6 1) < 60 → vp_in (st.1 6 1) 60 ∧ Q (some (.int ((xup (xup st 27 (st.1 6 1 : Int32).toNatClampNeg a1) 6 1 (((xup st 27 (st.1 6 1 : Int32).toNatClampNeg a1).1 6 1) + 1)).1 6 1))) (xup (xup st 27 (st.1 6 1 : Int32).toNatClampNeg a1) 6 1 (((xup st 27 (st.1 6 1 : Int32).toNatClampNeg a1).1 6 1) + 1))) ∧ (¬ (st.1 6 1) < 60 → Q (some (.int ((-4)))) st))) : Ct (d) M_X5_append [.ref 6, .int a1] st Q := by
  refine Ct_of (by decide +kernel) (Nat.le_of_ble_eq_true rfl) (fun κ C Z => ?_)
  show X κ 0 [(0, .ref 6), (1, .int a1)] [] st
  refine X_aload_n C dX5_append_0 rfl (j := 0) rfl ?_
  refine X_getI C sh_6 rfl fw_RX5_19 dX5_append_1 ?_
  refine X_bipush C (v := 60) (by decide) dX5_append_4 ?_
  refine X_icmp_lt C dX5_append_6 (tgt := 12) (by decide) (fun c => ?_) (fun c => ?_)
  · replace h := h.1 c
    refine X_aload_n C dX5_append_12 rfl (j := 0) rfl ?_
    refine X_getR C sh_6 rfl fw_RX5_11 dX5_append_13 ?_
    refine X_aload_n C dX5_append_16 rfl (j := 0) rfl ?_
    refine X_getI C sh_6 rfl fw_RX5_19 dX5_append_17 ?_
    refine X_iload_n C dX5_append_20 rfl (j := 1) rfl ?_
    obtain ⟨g1, h⟩ := h
    refine X_iast C sh_27 g1 dX5_append_21 ?_
    refine X_aload_n C dX5_append_22 rfl (j := 0) rfl ?_
    refine X_dup C rfl dX5_append_23 ?_
    refine X_getI C sh_6 rfl fw_RX5_19 dX5_append_24 ?_
    refine X_iconst C (v := 1) (by decide) dX5_append_27 ?_
    refine X_iadd C dX5_append_28 ?_
    refine X_putI C sh_6 rfl fp_RX5_19 dX5_append_29 ?_
    refine X_aload_n C dX5_append_32 rfl (j := 0) rfl ?_
    refine X_getI C sh_6 rfl fw_RX5_19 dX5_append_33 ?_
    exact X_iret C Z rfl dX5_append_36 h
  · replace h := h.2 c
    refine X_bipush C (v := (-4)) (by decide) dX5_append_9 ?_
    exact X_iret C Z rfl dX5_append_11 h
set_option maxHeartbeats 4000000 in
set_option maxRecDepth 100000 in
theorem eX5_empty {d : Nat} {Q : Option Value → xSt → Prop} (st : xSt) (h : Q (some (.int (st.1 6 1))) (xup st 6 1 0)) : Ct (d) M_X5_empty [.ref 6] st Q := by
  refine Ct_of (by decide +kernel) (Nat.le_of_ble_eq_true rfl) (fun κ C Z => ?_)
  show X κ 0 [(0, .ref 6)] [] st
  refine X_aload_n C dX5_empty_0 rfl (j := 0) rfl ?_
  refine X_getI C sh_6 rfl fw_RX5_19 dX5_empty_1 ?_
  refine X_istore_n C dX5_empty_4 rfl (by decide) (L' := [(1, .int (st.1 6 1)), (0, .ref 6)]) rfl ?_
  refine X_aload_n C dX5_empty_5 rfl (j := 1) rfl ?_
  refine X_iconst C (v := 0) (by decide) dX5_empty_6 ?_
  refine X_putI C sh_6 rfl fp_RX5_19 dX5_empty_7 ?_
  refine X_iload_n C dX5_empty_10 rfl (j := 0) rfl ?_
  exact X_iret C Z rfl dX5_empty_11 h
set_option maxHeartbeats 4000000 in
set_option maxRecDepth 100000 in
theorem eX5_stop {d : Nat} {Q : Option Value → xSt → Prop} (st : xSt) (h : Q (some (.int (st.1 6 3))) st) : Ct (d) M_X5_stop [.ref 6] st Q := by
  refine Ct_of (by decide +kernel) (Nat.le_of_ble_eq_true rfl) (fun κ C Z => ?_)
  show X κ 0 [(0, .ref 6)] [] st
  refine X_aload_n C dX5_stop_0 rfl (j := 0) rfl ?_
  refine X_getI C sh_6 rfl fw_RX5_15 dX5_stop_1 ?_
  exact X_iret C Z rfl dX5_stop_4 h
set_option maxHeartbeats 4000000 in
set_option maxRecDepth 100000 in
theorem eX5_isBeyond {d : Nat} {Q : Option Value → xSt → Prop} (st : xSt) (h : (st.1 6 5 = 0 ∨ st.1 6 5 = 1) ∧ Q (some (.int (st.1 6 5))) st) : Ct (d) M_X5_isBeyond [.ref 6] st Q := by
  refine Ct_of (by decide +kernel) (Nat.le_of_ble_eq_true rfl) (fun κ C Z => ?_)
  show X κ 0 [(0, .ref 6)] [] st
  refine X_aload_n C dX5_isBeyond_0 rfl (j := 0) rfl ?_
  refine X_getI C sh_6 rfl fw_RX5_22 dX5_isBeyond_1 ?_
  exact X_zret C Z rfl h.1 dX5_isBeyond_4 h.2
set_option maxHeartbeats 4000000 in
set_option maxRecDepth 100000 in
theorem eX5_total {d : Nat} {Q : Option Value → xSt → Prop} (st : xSt) (h : Q (some (.int (st.1 6 4))) st) : Ct (d) M_X5_total [.ref 6] st Q := by
  refine Ct_of (by decide +kernel) (Nat.le_of_ble_eq_true rfl) (fun κ C Z => ?_)
  show X κ 0 [(0, .ref 6)] [] st
  refine X_aload_n C dX5_total_0 rfl (j := 0) rfl ?_
  refine X_getI C sh_6 rfl fw_RX5_26 dX5_total_1 ?_
  exact X_iret C Z rfl dX5_total_4 h
set_option maxHeartbeats 4000000 in
set_option maxRecDepth 100000 in
theorem bX5_read_24 {κ : xK} {d : Nat} {Q : Option Value → xSt → Prop} (C : Cx κ M_X5_read (d + 1)) (Z : xR κ Q) (x1 : Int32) (x2 : Int32) (x3 : Int32) (st : xSt) (h : ((60 ≤ x3 → Q none st) ∧ (¬ 60 ≤ x3 → Ct d M_X5_readNumber [.ref 6, .int x1, .int x2] st (Qi fun v2 s1 => ((v2 = 0 → Q none s1) ∧ (¬ v2 = 0 → (((s1.1 6 2) < (s1.1 6 1) → Ct d M_X5_isNext [.ref 6, .int 43] s1 (Qi fun v4 s3 => ((¬ v4 = 0 → Ct d M_X5_isNext [.ref 6, .int 43] s3 (Qi fun v6 s5 => ((v6 = 0 → X κ 24 [(0, .ref 6), (1, .int x1), (2, .int ((-1))), (3, .int (x3 + 1))] [] (xup s5 6 2 ((s5.1 6 2) + 1))) ∧ (¬ v6 = 0 → X κ 24 [(0, .ref 6), (1, .int x1), (2, .int 1), (3, .int (x3 + 1))] [] (xup s5 6 2 ((s5.1 6 2) + 1)))))) ∧ (v4 = 0 → Ct d M_X5_isNext [.ref 6, .int 45] s3 (Qi fun v8 s7 => ((¬ v8 = 0 → Ct d M_X5_isNext [.ref 6, .int 43] s7 (Qi fun v10 s9 => ((v10 = 0 → X κ 24 [(0, .ref 6), (1, .int x1), (2, .int ((-1))), (3, .int (x3 + 1))] [] (xup s9 6 2 ((s9.1 6 2) + 1))) ∧ (¬ v10 = 0 → X κ 24 [(0, .ref 6), (1, .int x1), (2, .int 1), (3, .int (x3 + 1))] [] (xup s9 6 2 ((s9.1 6 2) + 1)))))) ∧ (v8 = 0 → Q none (xup s7 6 3 (s7.1 6 2))))))))) ∧ (¬ (s1.1 6 2) < (s1.1 6 1) → Q none s1)))))))) : X κ 24 [(0, .ref 6), (1, .int x1), (2, .int x2), (3, .int x3)] [] st := by
  refine X_iload_n C dX5_read_24 rfl (j := 3) rfl ?_
  refine X_bipush C (v := 60) (by decide) dX5_read_25 ?_
  refine X_icmp_ge C dX5_read_27 (tgt := 109) (by decide) (fun c => ?_) (fun c => ?_)
  · replace h := h.1 c
    exact X_vret C Z rfl dX5_read_109 h
  · replace h := h.2 c
    refine X_aload_n C dX5_read_30 rfl (j := 0) rfl ?_
    refine X_iload_n C dX5_read_31 rfl (j := 1) rfl ?_
    refine X_iload_n C dX5_read_32 rfl (j := 2) rfl ?_
    refine X_callV C dX5_read_33 pw_RX5_32 (b := 6) (as := [.int x1, .int x2]) (S := []) sh_6 rfl rfl rfl (Nat.le_of_ble_eq_true rfl) (Ct_mono h ?_)
    rintro _ s1 ⟨v2, rfl, h⟩
    show X κ 36 [(0, .ref 6), (1, .int x1), (2, .int x2), (3, .int x3)] [.int v2] s1
    refine X_if_eq C dX5_read_36 (tgt := 50) (by decide) (fun c => ?_) (fun c => ?_)
    · replace h := h.1 c
      exact X_vret C Z rfl dX5_read_50 h
    · replace h := h.2 c
      refine X_aload_n C dX5_read_39 rfl (j := 0) rfl ?_
      refine X_getI C sh_6 rfl fw_RX5_29 dX5_read_40 ?_
      refine X_aload_n C dX5_read_43 rfl (j := 0) rfl ?_
      refine X_getI C sh_6 rfl fw_RX5_19 dX5_read_44 ?_
      refine X_icmp_lt C dX5_read_47 (tgt := 51) (by decide) (fun c => ?_) (fun c => ?_)
      · replace h := h.1 c
        refine X_aload_n C dX5_read_51 rfl (j := 0) rfl ?_
        refine X_bipush C (v := 43) (by decide) dX5_read_52 ?_
        refine X_callV C dX5_read_54 pw_RX5_36 (b := 6) (as := [.int 43]) (S := []) sh_6 rfl rfl rfl (Nat.le_of_ble_eq_true rfl) (Ct_mono h ?_)
        rintro _ s3 ⟨v4, rfl, h⟩
        show X κ 57 [(0, .ref 6), (1, .int x1), (2, .int x2), (3, .int x3)] [.int v4] s3
        refine X_if_ne C dX5_read_57 (tgt := 78) (by decide) (fun c => ?_) (fun c => ?_)
        · replace h := h.1 c
          refine X_aload_n C dX5_read_78 rfl (j := 0) rfl ?_
          refine X_bipush C (v := 43) (by decide) dX5_read_79 ?_
          refine X_callV C dX5_read_81 pw_RX5_36 (b := 6) (as := [.int 43]) (S := []) sh_6 rfl rfl rfl (Nat.le_of_ble_eq_true rfl) (Ct_mono h ?_)
          rintro _ s5 ⟨v6, rfl, h⟩
          show X κ 84 [(0, .ref 6), (1, .int x1), (2, .int x2), (3, .int x3)] [.int v6] s5
          refine X_if_eq C dX5_read_84 (tgt := 91) (by decide) (fun c => ?_) (fun c => ?_)
          · replace h := h.1 c
            refine X_iconst C (v := (-1)) (by decide) dX5_read_91 ?_
            refine X_istore_n C dX5_read_92 rfl (by decide) (L' := [(2, .int ((-1))), (0, .ref 6), (1, .int x1), (3, .int x3)]) rfl ?_
            refine X_aload_n C dX5_read_93 rfl (j := 1) rfl ?_
            refine X_dup C rfl dX5_read_94 ?_
            refine X_getI C sh_6 rfl fw_RX5_29 dX5_read_95 ?_
            refine X_iconst C (v := 1) (by decide) dX5_read_98 ?_
            refine X_iadd C dX5_read_99 ?_
            refine X_putI C sh_6 rfl fp_RX5_29 dX5_read_100 ?_
            refine X_iinc C dX5_read_103 (j := 3) rfl (v := x3 + 1) rfl (by decide) (L' := [(3, .int (x3 + 1)), (2, .int ((-1))), (0, .ref 6), (1, .int x1)]) rfl ?_
            refine X_goto C dX5_read_106 (tgt := 24) (by decide) ?_
            refine X_loc [2, 3, 1, 0] rfl ?_
            exact h
          · replace h := h.2 c
            refine X_iconst C (v := 1) (by decide) dX5_read_87 ?_
            refine X_goto C dX5_read_88 (tgt := 92) (by decide) ?_
            refine X_istore_n C dX5_read_92 rfl (by decide) (L' := [(2, .int 1), (0, .ref 6), (1, .int x1), (3, .int x3)]) rfl ?_
            refine X_aload_n C dX5_read_93 rfl (j := 1) rfl ?_
            refine X_dup C rfl dX5_read_94 ?_
            refine X_getI C sh_6 rfl fw_RX5_29 dX5_read_95 ?_
            refine X_iconst C (v := 1) (by decide) dX5_read_98 ?_
            refine X_iadd C dX5_read_99 ?_
            refine X_putI C sh_6 rfl fp_RX5_29 dX5_read_100 ?_
            refine X_iinc C dX5_read_103 (j := 3) rfl (v := x3 + 1) rfl (by decide) (L' := [(3, .int (x3 + 1)), (2, .int 1), (0, .ref 6), (1, .int x1)]) rfl ?_
            refine X_goto C dX5_read_106 (tgt := 24) (by decide) ?_
            refine X_loc [2, 3, 1, 0] rfl ?_
            exact h
        · replace h := h.2 c
          refine X_aload_n C dX5_read_60 rfl (j := 0) rfl ?_
          refine X_bipush C (v := 45) (by decide) dX5_read_61 ?_
          refine X_callV C dX5_read_63 pw_RX5_36 (b := 6) (as := [.int 45]) (S := []) sh_6 rfl rfl rfl (Nat.le_of_ble_eq_true rfl) (Ct_mono h ?_)
          rintro _ s7 ⟨v8, rfl, h⟩
          show X κ 66 [(0, .ref 6), (1, .int x1), (2, .int x2), (3, .int x3)] [.int v8] s7
          refine X_if_ne C dX5_read_66 (tgt := 78) (by decide) (fun c => ?_) (fun c => ?_)
          · replace h := h.1 c
            refine X_aload_n C dX5_read_78 rfl (j := 0) rfl ?_
            refine X_bipush C (v := 43) (by decide) dX5_read_79 ?_
            refine X_callV C dX5_read_81 pw_RX5_36 (b := 6) (as := [.int 43]) (S := []) sh_6 rfl rfl rfl (Nat.le_of_ble_eq_true rfl) (Ct_mono h ?_)
            rintro _ s9 ⟨v10, rfl, h⟩
            show X κ 84 [(0, .ref 6), (1, .int x1), (2, .int x2), (3, .int x3)] [.int v10] s9
            refine X_if_eq C dX5_read_84 (tgt := 91) (by decide) (fun c => ?_) (fun c => ?_)
            · replace h := h.1 c
              refine X_iconst C (v := (-1)) (by decide) dX5_read_91 ?_
              refine X_istore_n C dX5_read_92 rfl (by decide) (L' := [(2, .int ((-1))), (0, .ref 6), (1, .int x1), (3, .int x3)]) rfl ?_
              refine X_aload_n C dX5_read_93 rfl (j := 1) rfl ?_
              refine X_dup C rfl dX5_read_94 ?_
              refine X_getI C sh_6 rfl fw_RX5_29 dX5_read_95 ?_
              refine X_iconst C (v := 1) (by decide) dX5_read_98 ?_
              refine X_iadd C dX5_read_99 ?_
              refine X_putI C sh_6 rfl fp_RX5_29 dX5_read_100 ?_
              refine X_iinc C dX5_read_103 (j := 3) rfl (v := x3 + 1) rfl (by decide) (L' := [(3, .int (x3 + 1)), (2, .int ((-1))), (0, .ref 6), (1, .int x1)]) rfl ?_
              refine X_goto C dX5_read_106 (tgt := 24) (by decide) ?_
              refine X_loc [2, 3, 1, 0] rfl ?_
              exact h
            · replace h := h.2 c
              refine X_iconst C (v := 1) (by decide) dX5_read_87 ?_
              refine X_goto C dX5_read_88 (tgt := 92) (by decide) ?_
              refine X_istore_n C dX5_read_92 rfl (by decide) (L' := [(2, .int 1), (0, .ref 6), (1, .int x1), (3, .int x3)]) rfl ?_
              refine X_aload_n C dX5_read_93 rfl (j := 1) rfl ?_
              refine X_dup C rfl dX5_read_94 ?_
              refine X_getI C sh_6 rfl fw_RX5_29 dX5_read_95 ?_
              refine X_iconst C (v := 1) (by decide) dX5_read_98 ?_
              refine X_iadd C dX5_read_99 ?_
              refine X_putI C sh_6 rfl fp_RX5_29 dX5_read_100 ?_
              refine X_iinc C dX5_read_103 (j := 3) rfl (v := x3 + 1) rfl (by decide) (L' := [(3, .int (x3 + 1)), (2, .int 1), (0, .ref 6), (1, .int x1)]) rfl ?_
              refine X_goto C dX5_read_106 (tgt := 24) (by decide) ?_
              refine X_loc [2, 3, 1, 0] rfl ?_
              exact h
          · replace h := h.2 c
            refine X_aload_n C dX5_read_69 rfl (j := 0) rfl ?_
            refine X_aload_n C dX5_read_70 rfl (j := 0) rfl ?_
            refine X_getI C sh_6 rfl fw_RX5_29 dX5_read_71 ?_
            refine X_putI C sh_6 rfl fp_RX5_15 dX5_read_74 ?_
            exact X_vret C Z rfl dX5_read_77 h
      · replace h := h.2 c
        exact X_vret C Z rfl dX5_read_50 h
set_option maxHeartbeats 4000000 in
set_option maxRecDepth 100000 in
theorem eX5_read {d : Nat} {Q : Option Value → xSt → Prop} (a1 : Int32) (st : xSt) (h : ∀ κ : xK, Cx κ M_X5_read (d + 1) → xR κ Q → X κ 24 [(0, .ref 6), (1, .int a1), (2, .int 1), (3, .int 0)] [] (xup (xup (xup (xup st 6 2 0) 6 3 ((-1))) 6 4 0) 6 5 0)) : Ct (d + 1) M_X5_read [.ref 6, .int a1] st Q := by
  refine Ct_of (by decide +kernel) (Nat.le_of_ble_eq_true rfl) (fun κ C Z => ?_)
  replace h := h κ C Z
  show X κ 0 [(0, .ref 6), (1, .int a1)] [] st
  refine X_aload_n C dX5_read_0 rfl (j := 0) rfl ?_
  refine X_iconst C (v := 0) (by decide) dX5_read_1 ?_
  refine X_putI C sh_6 rfl fp_RX5_29 dX5_read_2 ?_
  refine X_aload_n C dX5_read_5 rfl (j := 0) rfl ?_
  refine X_iconst C (v := (-1)) (by decide) dX5_read_6 ?_
  refine X_putI C sh_6 rfl fp_RX5_15 dX5_read_7 ?_
  refine X_aload_n C dX5_read_10 rfl (j := 0) rfl ?_
  refine X_iconst C (v := 0) (by decide) dX5_read_11 ?_
  refine X_putI C sh_6 rfl fp_RX5_26 dX5_read_12 ?_
  refine X_aload_n C dX5_read_15 rfl (j := 0) rfl ?_
  refine X_iconst C (v := 0) (by decide) dX5_read_16 ?_
  refine X_putZ C sh_6 rfl fp_RX5_22 (by decide) dX5_read_17 ?_
  refine X_iconst C (v := 1) (by decide) dX5_read_20 ?_
  refine X_istore_n C dX5_read_21 rfl (by decide) (L' := [(2, .int 1), (0, .ref 6), (1, .int a1)]) rfl ?_
  refine X_iconst C (v := 0) (by decide) dX5_read_22 ?_
  refine X_istore_n C dX5_read_23 rfl (by decide) (L' := [(3, .int 0), (2, .int 1), (0, .ref 6), (1, .int a1)]) rfl ?_
  refine X_loc [2, 3, 1, 0] rfl ?_
  exact h
set_option maxHeartbeats 4000000 in
set_option maxRecDepth 100000 in
theorem eX5_readNumber {d : Nat} {Q : Option Value → xSt → Prop} (a1 : Int32) (a2 : Int32) (st : xSt) (h : Ct d M_X5_isNext [.ref 6, .int 109] st (Qi fun v2 s1 => ((v2 = 0 → Ct d M_X5_isNext [.ref 6, .int 112] s1 (Qi fun v4 s3 => ((¬ v4 = 0 → Ct d M_X5_readFigures [.ref 6] (xup s3 6 2 ((s3.1 6 2) + 1)) (Qi fun v6 s5 => ((v6 = ((-1)) → Q (some (.int 0)) (xup s5 6 3 ((xup s3 6 2 ((s3.1 6 2) + 1)).1 6 2))) ∧ (¬ v6 = ((-1)) → ((¬ v6 = 0 → ((¬ ((xup s5 6 4 ((s5.1 6 4) + (a2 * ((0 * a1) + v6)))).1 6 5) = 0 → Q (some (.int 1)) (xup (xup s5 6 4 ((s5.1 6 4) + (a2 * ((0 * a1) + v6)))) 6 5 1)) ∧ (((xup s5 6 4 ((s5.1 6 4) + (a2 * ((0 * a1) + v6)))).1 6 5) = 0 → ((v6 ≤ a1 → Q (some (.int 1)) (xup (xup s5 6 4 ((s5.1 6 4) + (a2 * ((0 * a1) + v6)))) 6 5 0)) ∧ (¬ v6 ≤ a1 → Q (some (.int 1)) (xup (xup s5 6 4 ((s5.1 6 4) + (a2 * ((0 * a1) + v6)))) 6 5 1)))))) ∧ (v6 = 0 → Q (some (.int 0)) (xup s5 6 3 ((xup s3 6 2 ((s3.1 6 2) + 1)).1 6 2)))))))) ∧ (v4 = 0 → Q (some (.int 0)) (xup s3 6 3 (s3.1 6 2)))))) ∧ (¬ v2 = 0 → Ct d M_X5_readFigures [.ref 6] (xup s1 6 2 ((s1.1 6 2) + 1)) (Qi fun v8 s7 => ((v8 = ((-1)) → Q (some (.int 0)) (xup s7 6 3 (s7.1 6 2))) ∧ (¬ v8 = ((-1)) → Ct d M_X5_isNext [.ref 6, .int 112] s7 (Qi fun v10 s9 => ((¬ v10 = 0 → Ct d M_X5_readFigures [.ref 6] (xup s9 6 2 ((s9.1 6 2) + 1)) (Qi fun v12 s11 => ((v12 = ((-1)) → Q (some (.int 0)) (xup s11 6 3 ((xup s9 6 2 ((s9.1 6 2) + 1)).1 6 2))) ∧ (¬ v12 = ((-1)) → ((¬ v12 = 0 → ((¬ ((xup s11 6 4 ((s11.1 6 4) + (a2 * ((v8 * a1) + v12)))).1 6 5) = 0 → Q (some (.int 1)) (xup (xup s11 6 4 ((s11.1 6 4) + (a2 * ((v8 * a1) + v12)))) 6 5 1)) ∧ (((xup s11 6 4 ((s11.1 6 4) + (a2 * ((v8 * a1) + v12)))).1 6 5) = 0 → ((v12 ≤ a1 → Q (some (.int 1)) (xup (xup s11 6 4 ((s11.1 6 4) + (a2 * ((v8 * a1) + v12)))) 6 5 0)) ∧ (¬ v12 ≤ a1 → Q (some (.int 1)) (xup (xup s11 6 4 ((s11.1 6 4) + (a2 * ((v8 * a1) + v12)))) 6 5 1)))))) ∧ (v12 = 0 → Q (some (.int 0)) (xup s11 6 3 ((xup s9 6 2 ((s9.1 6 2) + 1)).1 6 2)))))))) ∧ (v10 = 0 → Q (some (.int 0)) (xup s9 6 3 (s9.1 6 2)))))))))))) : Ct (d + 1) M_X5_readNumber [.ref 6, .int a1, .int a2] st Q := by
  refine Ct_of (by decide +kernel) (Nat.le_of_ble_eq_true rfl) (fun κ C Z => ?_)
  show X κ 0 [(0, .ref 6), (1, .int a1), (2, .int a2)] [] st
  refine X_iconst C (v := 0) (by decide) dX5_readNumber_0 ?_
  refine X_istore_n C dX5_readNumber_1 rfl (by decide) (L' := [(3, .int 0), (0, .ref 6), (1, .int a1), (2, .int a2)]) rfl ?_
  refine X_aload_n C dX5_readNumber_2 rfl (j := 1) rfl ?_
  refine X_bipush C (v := 109) (by decide) dX5_readNumber_3 ?_
  refine X_callV C dX5_readNumber_5 pw_RX5_36 (b := 6) (as := [.int 109]) (S := []) sh_6 rfl rfl rfl (Nat.le_of_ble_eq_true rfl) (Ct_mono h ?_)
  rintro _ s1 ⟨v2, rfl, h⟩
  show X κ 8 [(3, .int 0), (0, .ref 6), (1, .int a1), (2, .int a2)] [.int v2] s1
  refine X_if_eq C dX5_readNumber_8 (tgt := 26) (by decide) (fun c => ?_) (fun c => ?_)
  · replace h := h.1 c
    refine X_iload_n C dX5_readNumber_26 rfl (j := 0) rfl ?_
    refine X_iconst C (v := (-1)) (by decide) dX5_readNumber_27 ?_
    refine X_icmp_eq C dX5_readNumber_28 (tgt := 40) (by decide) (fun c => absurd c (by decide)) (fun _ => ?_)
    refine X_aload_n C dX5_readNumber_31 rfl (j := 1) rfl ?_
    refine X_bipush C (v := 112) (by decide) dX5_readNumber_32 ?_
    refine X_callV C dX5_readNumber_34 pw_RX5_36 (b := 6) (as := [.int 112]) (S := []) sh_6 rfl rfl rfl (Nat.le_of_ble_eq_true rfl) (Ct_mono h ?_)
    rintro _ s3 ⟨v4, rfl, h⟩
    show X κ 37 [(3, .int 0), (0, .ref 6), (1, .int a1), (2, .int a2)] [.int v4] s3
    refine X_if_ne C dX5_readNumber_37 (tgt := 50) (by decide) (fun c => ?_) (fun c => ?_)
    · replace h := h.1 c
      refine X_aload_n C dX5_readNumber_50 rfl (j := 1) rfl ?_
      refine X_dup C rfl dX5_readNumber_51 ?_
      refine X_getI C sh_6 rfl fw_RX5_29 dX5_readNumber_52 ?_
      refine X_iconst C (v := 1) (by decide) dX5_readNumber_55 ?_
      refine X_iadd C dX5_readNumber_56 ?_
      refine X_putI C sh_6 rfl fp_RX5_29 dX5_readNumber_57 ?_
      refine X_aload_n C dX5_readNumber_60 rfl (j := 1) rfl ?_
      refine X_getI C sh_6 rfl fw_RX5_29 dX5_readNumber_61 ?_
      refine X_istore C dX5_readNumber_64 (by decide) (L' := [(4, .int ((xup s3 6 2 ((s3.1 6 2) + 1)).1 6 2)), (3, .int 0), (0, .ref 6), (1, .int a1), (2, .int a2)]) rfl ?_
      refine X_aload_n C dX5_readNumber_66 rfl (j := 2) rfl ?_
      refine X_callV C dX5_readNumber_67 pw_RX5_40 (b := 6) (as := []) (S := []) sh_6 rfl rfl rfl (Nat.le_of_ble_eq_true rfl) (Ct_mono h ?_)
      rintro _ s5 ⟨v6, rfl, h⟩
      show X κ 70 [(4, .int ((xup s3 6 2 ((s3.1 6 2) + 1)).1 6 2)), (3, .int 0), (0, .ref 6), (1, .int a1), (2, .int a2)] [.int v6] s5
      refine X_istore C dX5_readNumber_70 (by decide) (L' := [(5, .int v6), (4, .int ((xup s3 6 2 ((s3.1 6 2) + 1)).1 6 2)), (3, .int 0), (0, .ref 6), (1, .int a1), (2, .int a2)]) rfl ?_
      refine X_iload C dX5_readNumber_72 (j := 0) rfl ?_
      refine X_iconst C (v := (-1)) (by decide) dX5_readNumber_74 ?_
      refine X_icmp_eq C dX5_readNumber_75 (tgt := 83) (by decide) (fun c => ?_) (fun c => ?_)
      · replace h := h.1 c
        refine X_aload_n C dX5_readNumber_83 rfl (j := 3) rfl ?_
        refine X_iload C dX5_readNumber_84 (j := 1) rfl ?_
        refine X_putI C sh_6 rfl fp_RX5_15 dX5_readNumber_86 ?_
        refine X_iconst C (v := 0) (by decide) dX5_readNumber_89 ?_
        exact X_zret C Z rfl (by decide) dX5_readNumber_90 h
      · replace h := h.2 c
        refine X_iload C dX5_readNumber_78 (j := 0) rfl ?_
        refine X_if_ne C dX5_readNumber_80 (tgt := 91) (by decide) (fun c => ?_) (fun c => ?_)
        · replace h := h.1 c
          refine X_aload_n C dX5_readNumber_91 rfl (j := 3) rfl ?_
          refine X_dup C rfl dX5_readNumber_92 ?_
          refine X_getI C sh_6 rfl fw_RX5_26 dX5_readNumber_93 ?_
          refine X_iload_n C dX5_readNumber_96 rfl (j := 5) rfl ?_
          refine X_iload_n C dX5_readNumber_97 rfl (j := 2) rfl ?_
          refine X_iload_n C dX5_readNumber_98 rfl (j := 4) rfl ?_
          refine X_imul C dX5_readNumber_99 ?_
          refine X_iload C dX5_readNumber_100 (j := 0) rfl ?_
          refine X_iadd C dX5_readNumber_102 ?_
          refine X_imul C dX5_readNumber_103 ?_
          refine X_iadd C dX5_readNumber_104 ?_
          refine X_putI C sh_6 rfl fp_RX5_26 dX5_readNumber_105 ?_
          refine X_aload_n C dX5_readNumber_108 rfl (j := 3) rfl ?_
          refine X_aload_n C dX5_readNumber_109 rfl (j := 3) rfl ?_
          refine X_getI C sh_6 rfl fw_RX5_22 dX5_readNumber_110 ?_
          refine X_if_ne C dX5_readNumber_113 (tgt := 122) (by decide) (fun c => ?_) (fun c => ?_)
          · replace h := h.1 c
            refine X_iconst C (v := 1) (by decide) dX5_readNumber_122 ?_
            refine X_goto C dX5_readNumber_123 (tgt := 127) (by decide) ?_
            refine X_putZ C sh_6 rfl fp_RX5_22 (by decide) dX5_readNumber_127 ?_
            refine X_iconst C (v := 1) (by decide) dX5_readNumber_130 ?_
            exact X_zret C Z rfl (by decide) dX5_readNumber_131 h
          · replace h := h.2 c
            refine X_iload C dX5_readNumber_116 (j := 0) rfl ?_
            refine X_iload_n C dX5_readNumber_118 rfl (j := 4) rfl ?_
            refine X_icmp_le C dX5_readNumber_119 (tgt := 126) (by decide) (fun c => ?_) (fun c => ?_)
            · replace h := h.1 c
              refine X_iconst C (v := 0) (by decide) dX5_readNumber_126 ?_
              refine X_putZ C sh_6 rfl fp_RX5_22 (by decide) dX5_readNumber_127 ?_
              refine X_iconst C (v := 1) (by decide) dX5_readNumber_130 ?_
              exact X_zret C Z rfl (by decide) dX5_readNumber_131 h
            · replace h := h.2 c
              refine X_iconst C (v := 1) (by decide) dX5_readNumber_122 ?_
              refine X_goto C dX5_readNumber_123 (tgt := 127) (by decide) ?_
              refine X_putZ C sh_6 rfl fp_RX5_22 (by decide) dX5_readNumber_127 ?_
              refine X_iconst C (v := 1) (by decide) dX5_readNumber_130 ?_
              exact X_zret C Z rfl (by decide) dX5_readNumber_131 h
        · replace h := h.2 c
          refine X_aload_n C dX5_readNumber_83 rfl (j := 3) rfl ?_
          refine X_iload C dX5_readNumber_84 (j := 1) rfl ?_
          refine X_putI C sh_6 rfl fp_RX5_15 dX5_readNumber_86 ?_
          refine X_iconst C (v := 0) (by decide) dX5_readNumber_89 ?_
          exact X_zret C Z rfl (by decide) dX5_readNumber_90 h
    · replace h := h.2 c
      refine X_aload_n C dX5_readNumber_40 rfl (j := 1) rfl ?_
      refine X_aload_n C dX5_readNumber_41 rfl (j := 1) rfl ?_
      refine X_getI C sh_6 rfl fw_RX5_29 dX5_readNumber_42 ?_
      refine X_putI C sh_6 rfl fp_RX5_15 dX5_readNumber_45 ?_
      refine X_iconst C (v := 0) (by decide) dX5_readNumber_48 ?_
      exact X_zret C Z rfl (by decide) dX5_readNumber_49 h
  · replace h := h.2 c
    refine X_aload_n C dX5_readNumber_11 rfl (j := 1) rfl ?_
    refine X_dup C rfl dX5_readNumber_12 ?_
    refine X_getI C sh_6 rfl fw_RX5_29 dX5_readNumber_13 ?_
    refine X_iconst C (v := 1) (by decide) dX5_readNumber_16 ?_
    refine X_iadd C dX5_readNumber_17 ?_
    refine X_putI C sh_6 rfl fp_RX5_29 dX5_readNumber_18 ?_
    refine X_aload_n C dX5_readNumber_21 rfl (j := 1) rfl ?_
    refine X_callV C dX5_readNumber_22 pw_RX5_40 (b := 6) (as := []) (S := []) sh_6 rfl rfl rfl (Nat.le_of_ble_eq_true rfl) (Ct_mono h ?_)
    rintro _ s7 ⟨v8, rfl, h⟩
    show X κ 25 [(3, .int 0), (0, .ref 6), (1, .int a1), (2, .int a2)] [.int v8] s7
    refine X_istore_n C dX5_readNumber_25 rfl (by decide) (L' := [(3, .int v8), (0, .ref 6), (1, .int a1), (2, .int a2)]) rfl ?_
    refine X_iload_n C dX5_readNumber_26 rfl (j := 0) rfl ?_
    refine X_iconst C (v := (-1)) (by decide) dX5_readNumber_27 ?_
    refine X_icmp_eq C dX5_readNumber_28 (tgt := 40) (by decide) (fun c => ?_) (fun c => ?_)
    · replace h := h.1 c
      refine X_aload_n C dX5_readNumber_40 rfl (j := 1) rfl ?_
      refine X_aload_n C dX5_readNumber_41 rfl (j := 1) rfl ?_
      refine X_getI C sh_6 rfl fw_RX5_29 dX5_readNumber_42 ?_
      refine X_putI C sh_6 rfl fp_RX5_15 dX5_readNumber_45 ?_
      refine X_iconst C (v := 0) (by decide) dX5_readNumber_48 ?_
      exact X_zret C Z rfl (by decide) dX5_readNumber_49 h
    · replace h := h.2 c
      refine X_aload_n C dX5_readNumber_31 rfl (j := 1) rfl ?_
      refine X_bipush C (v := 112) (by decide) dX5_readNumber_32 ?_
      refine X_callV C dX5_readNumber_34 pw_RX5_36 (b := 6) (as := [.int 112]) (S := []) sh_6 rfl rfl rfl (Nat.le_of_ble_eq_true rfl) (Ct_mono h ?_)
      rintro _ s9 ⟨v10, rfl, h⟩
      show X κ 37 [(3, .int v8), (0, .ref 6), (1, .int a1), (2, .int a2)] [.int v10] s9
      refine X_if_ne C dX5_readNumber_37 (tgt := 50) (by decide) (fun c => ?_) (fun c => ?_)
      · replace h := h.1 c
        refine X_aload_n C dX5_readNumber_50 rfl (j := 1) rfl ?_
        refine X_dup C rfl dX5_readNumber_51 ?_
        refine X_getI C sh_6 rfl fw_RX5_29 dX5_readNumber_52 ?_
        refine X_iconst C (v := 1) (by decide) dX5_readNumber_55 ?_
        refine X_iadd C dX5_readNumber_56 ?_
        refine X_putI C sh_6 rfl fp_RX5_29 dX5_readNumber_57 ?_
        refine X_aload_n C dX5_readNumber_60 rfl (j := 1) rfl ?_
        refine X_getI C sh_6 rfl fw_RX5_29 dX5_readNumber_61 ?_
        refine X_istore C dX5_readNumber_64 (by decide) (L' := [(4, .int ((xup s9 6 2 ((s9.1 6 2) + 1)).1 6 2)), (3, .int v8), (0, .ref 6), (1, .int a1), (2, .int a2)]) rfl ?_
        refine X_aload_n C dX5_readNumber_66 rfl (j := 2) rfl ?_
        refine X_callV C dX5_readNumber_67 pw_RX5_40 (b := 6) (as := []) (S := []) sh_6 rfl rfl rfl (Nat.le_of_ble_eq_true rfl) (Ct_mono h ?_)
        rintro _ s11 ⟨v12, rfl, h⟩
        show X κ 70 [(4, .int ((xup s9 6 2 ((s9.1 6 2) + 1)).1 6 2)), (3, .int v8), (0, .ref 6), (1, .int a1), (2, .int a2)] [.int v12] s11
        refine X_istore C dX5_readNumber_70 (by decide) (L' := [(5, .int v12), (4, .int ((xup s9 6 2 ((s9.1 6 2) + 1)).1 6 2)), (3, .int v8), (0, .ref 6), (1, .int a1), (2, .int a2)]) rfl ?_
        refine X_iload C dX5_readNumber_72 (j := 0) rfl ?_
        refine X_iconst C (v := (-1)) (by decide) dX5_readNumber_74 ?_
        refine X_icmp_eq C dX5_readNumber_75 (tgt := 83) (by decide) (fun c => ?_) (fun c => ?_)
        · replace h := h.1 c
          refine X_aload_n C dX5_readNumber_83 rfl (j := 3) rfl ?_
          refine X_iload C dX5_readNumber_84 (j := 1) rfl ?_
          refine X_putI C sh_6 rfl fp_RX5_15 dX5_readNumber_86 ?_
          refine X_iconst C (v := 0) (by decide) dX5_readNumber_89 ?_
          exact X_zret C Z rfl (by decide) dX5_readNumber_90 h
        · replace h := h.2 c
          refine X_iload C dX5_readNumber_78 (j := 0) rfl ?_
          refine X_if_ne C dX5_readNumber_80 (tgt := 91) (by decide) (fun c => ?_) (fun c => ?_)
          · replace h := h.1 c
            refine X_aload_n C dX5_readNumber_91 rfl (j := 3) rfl ?_
            refine X_dup C rfl dX5_readNumber_92 ?_
            refine X_getI C sh_6 rfl fw_RX5_26 dX5_readNumber_93 ?_
            refine X_iload_n C dX5_readNumber_96 rfl (j := 5) rfl ?_
            refine X_iload_n C dX5_readNumber_97 rfl (j := 2) rfl ?_
            refine X_iload_n C dX5_readNumber_98 rfl (j := 4) rfl ?_
            refine X_imul C dX5_readNumber_99 ?_
            refine X_iload C dX5_readNumber_100 (j := 0) rfl ?_
            refine X_iadd C dX5_readNumber_102 ?_
            refine X_imul C dX5_readNumber_103 ?_
            refine X_iadd C dX5_readNumber_104 ?_
            refine X_putI C sh_6 rfl fp_RX5_26 dX5_readNumber_105 ?_
            refine X_aload_n C dX5_readNumber_108 rfl (j := 3) rfl ?_
            refine X_aload_n C dX5_readNumber_109 rfl (j := 3) rfl ?_
            refine X_getI C sh_6 rfl fw_RX5_22 dX5_readNumber_110 ?_
            refine X_if_ne C dX5_readNumber_113 (tgt := 122) (by decide) (fun c => ?_) (fun c => ?_)
            · replace h := h.1 c
              refine X_iconst C (v := 1) (by decide) dX5_readNumber_122 ?_
              refine X_goto C dX5_readNumber_123 (tgt := 127) (by decide) ?_
              refine X_putZ C sh_6 rfl fp_RX5_22 (by decide) dX5_readNumber_127 ?_
              refine X_iconst C (v := 1) (by decide) dX5_readNumber_130 ?_
              exact X_zret C Z rfl (by decide) dX5_readNumber_131 h
            · replace h := h.2 c
              refine X_iload C dX5_readNumber_116 (j := 0) rfl ?_
              refine X_iload_n C dX5_readNumber_118 rfl (j := 4) rfl ?_
              refine X_icmp_le C dX5_readNumber_119 (tgt := 126) (by decide) (fun c => ?_) (fun c => ?_)
              · replace h := h.1 c
                refine X_iconst C (v := 0) (by decide) dX5_readNumber_126 ?_
                refine X_putZ C sh_6 rfl fp_RX5_22 (by decide) dX5_readNumber_127 ?_
                refine X_iconst C (v := 1) (by decide) dX5_readNumber_130 ?_
                exact X_zret C Z rfl (by decide) dX5_readNumber_131 h
              · replace h := h.2 c
                refine X_iconst C (v := 1) (by decide) dX5_readNumber_122 ?_
                refine X_goto C dX5_readNumber_123 (tgt := 127) (by decide) ?_
                refine X_putZ C sh_6 rfl fp_RX5_22 (by decide) dX5_readNumber_127 ?_
                refine X_iconst C (v := 1) (by decide) dX5_readNumber_130 ?_
                exact X_zret C Z rfl (by decide) dX5_readNumber_131 h
          · replace h := h.2 c
            refine X_aload_n C dX5_readNumber_83 rfl (j := 3) rfl ?_
            refine X_iload C dX5_readNumber_84 (j := 1) rfl ?_
            refine X_putI C sh_6 rfl fp_RX5_15 dX5_readNumber_86 ?_
            refine X_iconst C (v := 0) (by decide) dX5_readNumber_89 ?_
            exact X_zret C Z rfl (by decide) dX5_readNumber_90 h
      · replace h := h.2 c
        refine X_aload_n C dX5_readNumber_40 rfl (j := 1) rfl ?_
        refine X_aload_n C dX5_readNumber_41 rfl (j := 1) rfl ?_
        refine X_getI C sh_6 rfl fw_RX5_29 dX5_readNumber_42 ?_
        refine X_putI C sh_6 rfl fp_RX5_15 dX5_readNumber_45 ?_
        refine X_iconst C (v := 0) (by decide) dX5_readNumber_48 ?_
        exact X_zret C Z rfl (by decide) dX5_readNumber_49 h
set_option maxHeartbeats 4000000 in
set_option maxRecDepth 100000 in
theorem eX5_isNext {d : Nat} {Q : Option Value → xSt → Prop} (a1 : Int32) (st : xSt) (h : (((st.1 6 2) < 0 → Q (some (.int 0)) st) ∧ (¬ (st.1 6 2) < 0 → (((st.1 6 1) ≤ (st.1 6 2) → Q (some (.int 0)) st) ∧ (¬ (st.1 6 1) ≤ (st.1 6 2) → ((60 ≤ (st.1 6 2) → Q (some (.int 0)) st) ∧ (¬ 60 ≤ (st.1 6 2) → vp_in (st.1 6 2) 60 ∧ ((¬ (st.1 27 (st.1 6 2 : Int32).toNatClampNeg) = a1 → Q (some (.int 0)) st) ∧ ((st.1 27 (st.1 6 2 : Int32).toNatClampNeg) = a1 → Q (some (.int 1)) st))))))))) : Ct (d) M_X5_isNext [.ref 6, .int a1] st Q := by
  refine Ct_of (by decide +kernel) (Nat.le_of_ble_eq_true rfl) (fun κ C Z => ?_)
  show X κ 0 [(0, .ref 6), (1, .int a1)] [] st
  refine X_aload_n C dX5_isNext_0 rfl (j := 0) rfl ?_
  refine X_getI C sh_6 rfl fw_RX5_29 dX5_isNext_1 ?_
  refine X_if_lt C dX5_isNext_4 (tgt := 44) (by decide) (fun c => ?_) (fun c => ?_)
  · replace h := h.1 c
    refine X_iconst C (v := 0) (by decide) dX5_isNext_44 ?_
    exact X_zret C Z rfl (by decide) dX5_isNext_45 h
  · replace h := h.2 c
    refine X_aload_n C dX5_isNext_7 rfl (j := 0) rfl ?_
    refine X_getI C sh_6 rfl fw_RX5_29 dX5_isNext_8 ?_
    refine X_aload_n C dX5_isNext_11 rfl (j := 0) rfl ?_
    refine X_getI C sh_6 rfl fw_RX5_19 dX5_isNext_12 ?_
    refine X_icmp_ge C dX5_isNext_15 (tgt := 44) (by decide) (fun c => ?_) (fun c => ?_)
    · replace h := h.1 c
      refine X_iconst C (v := 0) (by decide) dX5_isNext_44 ?_
      exact X_zret C Z rfl (by decide) dX5_isNext_45 h
    · replace h := h.2 c
      refine X_aload_n C dX5_isNext_18 rfl (j := 0) rfl ?_
      refine X_getI C sh_6 rfl fw_RX5_29 dX5_isNext_19 ?_
      refine X_bipush C (v := 60) (by decide) dX5_isNext_22 ?_
      refine X_icmp_ge C dX5_isNext_24 (tgt := 44) (by decide) (fun c => ?_) (fun c => ?_)
      · replace h := h.1 c
        refine X_iconst C (v := 0) (by decide) dX5_isNext_44 ?_
        exact X_zret C Z rfl (by decide) dX5_isNext_45 h
      · replace h := h.2 c
        refine X_aload_n C dX5_isNext_27 rfl (j := 0) rfl ?_
        refine X_getR C sh_6 rfl fw_RX5_11 dX5_isNext_28 ?_
        refine X_aload_n C dX5_isNext_31 rfl (j := 0) rfl ?_
        refine X_getI C sh_6 rfl fw_RX5_29 dX5_isNext_32 ?_
        obtain ⟨g1, h⟩ := h
        refine X_iald C sh_27 g1 dX5_isNext_35 ?_
        refine X_iload_n C dX5_isNext_36 rfl (j := 1) rfl ?_
        refine X_icmp_ne C dX5_isNext_37 (tgt := 44) (by decide) (fun c => ?_) (fun c => ?_)
        · replace h := h.1 c
          refine X_iconst C (v := 0) (by decide) dX5_isNext_44 ?_
          exact X_zret C Z rfl (by decide) dX5_isNext_45 h
        · replace h := h.2 c
          refine X_iconst C (v := 1) (by decide) dX5_isNext_40 ?_
          refine X_goto C dX5_isNext_41 (tgt := 45) (by decide) ?_
          exact X_zret C Z rfl (by decide) dX5_isNext_45 h
set_option maxHeartbeats 4000000 in
set_option maxRecDepth 100000 in
theorem eX5_figureHere {d : Nat} {Q : Option Value → xSt → Prop} (st : xSt) (h : (((st.1 6 2) < 0 → Q (some (.int ((-1)))) st) ∧ (¬ (st.1 6 2) < 0 → (((st.1 6 1) ≤ (st.1 6 2) → Q (some (.int ((-1)))) st) ∧ (¬ (st.1 6 1) ≤ (st.1 6 2) → ((60 ≤ (st.1 6 2) → Q (some (.int ((-1)))) st) ∧ (¬ 60 ≤ (st.1 6 2) → vp_in (st.1 6 2) 60 ∧ Ct d M_X6_within [.int (st.1 27 (st.1 6 2 : Int32).toNatClampNeg), .int 48, .int 57] st (Qi fun v3 s2 => ((v3 = 0 → Q (some (.int ((-1)))) s2) ∧ (¬ v3 = 0 → vp_in (s2.1 6 2) 60 ∧ Q (some (.int ((s2.1 27 (s2.1 6 2 : Int32).toNatClampNeg) - 48))) s2)))))))))) : Ct (d + 1) M_X5_figureHere [.ref 6] st Q := by
  refine Ct_of (by decide +kernel) (Nat.le_of_ble_eq_true rfl) (fun κ C Z => ?_)
  show X κ 0 [(0, .ref 6)] [] st
  refine X_aload_n C dX5_figureHere_0 rfl (j := 0) rfl ?_
  refine X_getI C sh_6 rfl fw_RX5_29 dX5_figureHere_1 ?_
  refine X_if_lt C dX5_figureHere_4 (tgt := 61) (by decide) (fun c => ?_) (fun c => ?_)
  · replace h := h.1 c
    refine X_iconst C (v := (-1)) (by decide) dX5_figureHere_61 ?_
    exact X_iret C Z rfl dX5_figureHere_62 h
  · replace h := h.2 c
    refine X_aload_n C dX5_figureHere_7 rfl (j := 0) rfl ?_
    refine X_getI C sh_6 rfl fw_RX5_29 dX5_figureHere_8 ?_
    refine X_aload_n C dX5_figureHere_11 rfl (j := 0) rfl ?_
    refine X_getI C sh_6 rfl fw_RX5_19 dX5_figureHere_12 ?_
    refine X_icmp_ge C dX5_figureHere_15 (tgt := 61) (by decide) (fun c => ?_) (fun c => ?_)
    · replace h := h.1 c
      refine X_iconst C (v := (-1)) (by decide) dX5_figureHere_61 ?_
      exact X_iret C Z rfl dX5_figureHere_62 h
    · replace h := h.2 c
      refine X_aload_n C dX5_figureHere_18 rfl (j := 0) rfl ?_
      refine X_getI C sh_6 rfl fw_RX5_29 dX5_figureHere_19 ?_
      refine X_bipush C (v := 60) (by decide) dX5_figureHere_22 ?_
      refine X_icmp_ge C dX5_figureHere_24 (tgt := 61) (by decide) (fun c => ?_) (fun c => ?_)
      · replace h := h.1 c
        refine X_iconst C (v := (-1)) (by decide) dX5_figureHere_61 ?_
        exact X_iret C Z rfl dX5_figureHere_62 h
      · replace h := h.2 c
        refine X_aload_n C dX5_figureHere_27 rfl (j := 0) rfl ?_
        refine X_getR C sh_6 rfl fw_RX5_11 dX5_figureHere_28 ?_
        refine X_aload_n C dX5_figureHere_31 rfl (j := 0) rfl ?_
        refine X_getI C sh_6 rfl fw_RX5_29 dX5_figureHere_32 ?_
        obtain ⟨g1, h⟩ := h
        refine X_iald C sh_27 g1 dX5_figureHere_35 ?_
        refine X_bipush C (v := 48) (by decide) dX5_figureHere_36 ?_
        refine X_bipush C (v := 57) (by decide) dX5_figureHere_38 ?_
        refine X_callN C dX5_figureHere_40 pw_RX5_44 (as := [.int (st.1 27 (st.1 6 2 : Int32).toNatClampNeg), .int 48, .int 57]) (S := []) rfl rfl (Nat.le_of_ble_eq_true rfl) (Ct_mono h ?_)
        rintro _ s2 ⟨v3, rfl, h⟩
        show X κ 43 [(0, .ref 6)] [.int v3] s2
        refine X_if_eq C dX5_figureHere_43 (tgt := 61) (by decide) (fun c => ?_) (fun c => ?_)
        · replace h := h.1 c
          refine X_iconst C (v := (-1)) (by decide) dX5_figureHere_61 ?_
          exact X_iret C Z rfl dX5_figureHere_62 h
        · replace h := h.2 c
          refine X_aload_n C dX5_figureHere_46 rfl (j := 0) rfl ?_
          refine X_getR C sh_6 rfl fw_RX5_11 dX5_figureHere_47 ?_
          refine X_aload_n C dX5_figureHere_50 rfl (j := 0) rfl ?_
          refine X_getI C sh_6 rfl fw_RX5_29 dX5_figureHere_51 ?_
          obtain ⟨g4, h⟩ := h
          refine X_iald C sh_27 g4 dX5_figureHere_54 ?_
          refine X_bipush C (v := 48) (by decide) dX5_figureHere_55 ?_
          refine X_isub C dX5_figureHere_57 ?_
          refine X_goto C dX5_figureHere_58 (tgt := 62) (by decide) ?_
          exact X_iret C Z rfl dX5_figureHere_62 h
set_option maxHeartbeats 4000000 in
set_option maxRecDepth 100000 in
theorem eX5_readFigures {d : Nat} {Q : Option Value → xSt → Prop} (st : xSt) (h : Ct d M_X5_figureHere [.ref 6] st (Qi fun v2 s1 => ((¬ v2 = ((-1)) → Ct d M_X5_figureHere [.ref 6] (xup s1 6 2 ((s1.1 6 2) + 1)) (Qi fun v4 s3 => ((¬ v4 = ((-1)) → Q (some (.int ((10 * v2) + v4))) (xup s3 6 2 ((s3.1 6 2) + 1))) ∧ (v4 = ((-1)) → Q (some (.int v2)) s3)))) ∧ (v2 = ((-1)) → Q (some (.int ((-1)))) s1)))) : Ct (d + 1) M_X5_readFigures [.ref 6] st Q := by
  refine Ct_of (by decide +kernel) (Nat.le_of_ble_eq_true rfl) (fun κ C Z => ?_)
  show X κ 0 [(0, .ref 6)] [] st
  refine X_aload_n C dX5_readFigures_0 rfl (j := 0) rfl ?_
  refine X_callV C dX5_readFigures_1 pw_RX5_48 (b := 6) (as := []) (S := []) sh_6 rfl rfl rfl (Nat.le_of_ble_eq_true rfl) (Ct_mono h ?_)
  rintro _ s1 ⟨v2, rfl, h⟩
  show X κ 4 [(0, .ref 6)] [.int v2] s1
  refine X_istore_n C dX5_readFigures_4 rfl (by decide) (L' := [(1, .int v2), (0, .ref 6)]) rfl ?_
  refine X_iload_n C dX5_readFigures_5 rfl (j := 0) rfl ?_
  refine X_iconst C (v := (-1)) (by decide) dX5_readFigures_6 ?_
  refine X_icmp_ne C dX5_readFigures_7 (tgt := 12) (by decide) (fun c => ?_) (fun c => ?_)
  · replace h := h.1 c
    refine X_aload_n C dX5_readFigures_12 rfl (j := 1) rfl ?_
    refine X_dup C rfl dX5_readFigures_13 ?_
    refine X_getI C sh_6 rfl fw_RX5_29 dX5_readFigures_14 ?_
    refine X_iconst C (v := 1) (by decide) dX5_readFigures_17 ?_
    refine X_iadd C dX5_readFigures_18 ?_
    refine X_putI C sh_6 rfl fp_RX5_29 dX5_readFigures_19 ?_
    refine X_aload_n C dX5_readFigures_22 rfl (j := 1) rfl ?_
    refine X_callV C dX5_readFigures_23 pw_RX5_48 (b := 6) (as := []) (S := []) sh_6 rfl rfl rfl (Nat.le_of_ble_eq_true rfl) (Ct_mono h ?_)
    rintro _ s3 ⟨v4, rfl, h⟩
    show X κ 26 [(1, .int v2), (0, .ref 6)] [.int v4] s3
    refine X_istore_n C dX5_readFigures_26 rfl (by decide) (L' := [(2, .int v4), (1, .int v2), (0, .ref 6)]) rfl ?_
    refine X_iload_n C dX5_readFigures_27 rfl (j := 0) rfl ?_
    refine X_iconst C (v := (-1)) (by decide) dX5_readFigures_28 ?_
    refine X_icmp_ne C dX5_readFigures_29 (tgt := 34) (by decide) (fun c => ?_) (fun c => ?_)
    · replace h := h.1 c
      refine X_aload_n C dX5_readFigures_34 rfl (j := 2) rfl ?_
      refine X_dup C rfl dX5_readFigures_35 ?_
      refine X_getI C sh_6 rfl fw_RX5_29 dX5_readFigures_36 ?_
      refine X_iconst C (v := 1) (by decide) dX5_readFigures_39 ?_
      refine X_iadd C dX5_readFigures_40 ?_
      refine X_putI C sh_6 rfl fp_RX5_29 dX5_readFigures_41 ?_
      refine X_bipush C (v := 10) (by decide) dX5_readFigures_44 ?_
      refine X_iload_n C dX5_readFigures_46 rfl (j := 1) rfl ?_
      refine X_imul C dX5_readFigures_47 ?_
      refine X_iload_n C dX5_readFigures_48 rfl (j := 0) rfl ?_
      refine X_iadd C dX5_readFigures_49 ?_
      exact X_iret C Z rfl dX5_readFigures_50 h
    · replace h := h.2 c
      refine X_iload_n C dX5_readFigures_32 rfl (j := 1) rfl ?_
      exact X_iret C Z rfl dX5_readFigures_33 h
  · replace h := h.2 c
    refine X_iconst C (v := (-1)) (by decide) dX5_readFigures_10 ?_
    exact X_iret C Z rfl dX5_readFigures_11 h
