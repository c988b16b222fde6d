set_option maxHeartbeats 4000000 in
set_option maxRecDepth 100000 in
theorem eX6_within {d : Nat} {Q : Option Value → xSt → Prop} (a0 : Int32) (a1 : Int32) (a2 : Int32) (st : xSt) (h : ((a0 < a1 → Q (some (.int 0)) st) ∧ (¬ a0 < a1 → ((a2 < a0 → Q (some (.int 0)) st) ∧ (¬ a2 < a0 → Q (some (.int 1)) st))))) : Ct (d) M_X6_within [.int a0, .int a1, .int a2] st Q := by
  refine Ct_of (by decide +kernel) (Nat.le_of_ble_eq_true rfl) (fun κ C Z => ?_)
  show X κ 0 [(0, .int a0), (1, .int a1), (2, .int a2)] [] st
  refine X_iload_n C dX6_within_0 rfl (j := 0) rfl ?_
  refine X_iload_n C dX6_within_1 rfl (j := 1) rfl ?_
  refine X_icmp_lt C dX6_within_2 (tgt := 14) (by decide) (fun c => ?_) (fun c => ?_)
  · replace h := h.1 c
    refine X_iconst C (v := 0) (by decide) dX6_within_14 ?_
    exact X_zret C Z rfl (by decide) dX6_within_15 h
  · replace h := h.2 c
    refine X_iload_n C dX6_within_5 rfl (j := 0) rfl ?_
    refine X_iload_n C dX6_within_6 rfl (j := 2) rfl ?_
    refine X_icmp_gt C dX6_within_7 (tgt := 14) (by decide) (fun c => ?_) (fun c => ?_)
    · replace h := h.1 c
      refine X_iconst C (v := 0) (by decide) dX6_within_14 ?_
      exact X_zret C Z rfl (by decide) dX6_within_15 h
    · replace h := h.2 c
      refine X_iconst C (v := 1) (by decide) dX6_within_10 ?_
      refine X_goto C dX6_within_11 (tgt := 15) (by decide) ?_
      exact X_zret C Z rfl (by decide) dX6_within_15 h
set_option maxHeartbeats 4000000 in
set_option maxRecDepth 100000 in
theorem eX6_countBy {d : Nat} {Q : Option Value → xSt → Prop} (a1 : Int32) (a2 : Int32) (a3 : Int32) (st : xSt) (h : Ct d M_X4_named [.ref 1, .int a1] st (Qi fun v2 s1 => ((v2 = 0 → Q (some (.int ((-2)))) s1) ∧ (¬ v2 = 0 → Ct d M_X6_within [.int a2, .int 1, .int 20] s1 (Qi fun v4 s3 => ((¬ v4 = 0 → Ct d M_X4_lost [.ref 1, .int a1] s3 (Qi fun v6 s5 => ((v6 = 0 → ((a3 = 0 → Ct d M_X4_sizeOf [.ref 1, .int a1] s5 (Qi fun v8 s7 => ((a2 ≤ v8 → Ct d M_X4_unlikeWords [.ref 1, .int a1, .int a2] s7 (Qi fun v10 s9 => ((¬ v10 = 0 → Ct d M_X0_isFull [.ref 2] s9 (Qi fun v12 s11 => ((v12 = 0 → Ct d M_X0_learn [.ref 2, .ref 1, .int a1, .int a2, .int a3] s11 (Qi fun v14 s13 => Q (some (.int v14)) s13)) ∧ (¬ v12 = 0 → Q (some (.int ((-4)))) s11)))) ∧ (v10 = 0 → Q (some (.int ((-3)))) s9)))) ∧ (¬ a2 ≤ v8 → Ct d M_X4_find [.ref 1, .int 2] s7 (Qi fun v16 s15 => Q (some (.int v16)) s15))))) ∧ (¬ a3 = 0 → Ct d M_X4_sizeOf [.ref 1, .int a1] s5 (Qi fun v18 s17 => (((a2 + 1) ≤ v18 → Ct d M_X4_unlikeWords [.ref 1, .int a1, .int (a2 + 1)] s17 (Qi fun v20 s19 => ((¬ v20 = 0 → Ct d M_X0_isFull [.ref 2] s19 (Qi fun v22 s21 => ((v22 = 0 → Ct d M_X0_learn [.ref 2, .ref 1, .int a1, .int a2, .int a3] s21 (Qi fun v24 s23 => Q (some (.int v24)) s23)) ∧ (¬ v22 = 0 → Q (some (.int ((-4)))) s21)))) ∧ (v20 = 0 → Q (some (.int ((-3)))) s19)))) ∧ (¬ (a2 + 1) ≤ v18 → Ct d M_X4_find [.ref 1, .int 2] s17 (Qi fun v26 s25 => Q (some (.int v26)) s25))))))) ∧ (¬ v6 = 0 → Ct d M_X4_find [.ref 1, .int 1] s5 (Qi fun v28 s27 => Q (some (.int v28)) s27))))) ∧ (v4 = 0 → Q (some (.int ((-2)))) s3))))))) : Ct (d + 1) M_X6_countBy [.ref 0, .int a1, .int a2, .int a3] st Q := by
  refine Ct_of (by decide +kernel) (Nat.le_of_ble_eq_true rfl) (fun κ C Z => ?_)
  show X κ 0 [(0, .ref 0), (1, .int a1), (2, .int a2), (3, .int a3)] [] st
  refine X_aload_n C dX6_countBy_0 rfl (j := 0) rfl ?_
  refine X_getR C sh_0 rfl fw_RX6_10 dX6_countBy_1 ?_
  refine X_iload_n C dX6_countBy_4 rfl (j := 1) rfl ?_
  refine X_callV C dX6_countBy_5 pw_RX6_51 (b := 1) (as := [.int a1]) (S := []) sh_1 rfl rfl rfl (Nat.le_of_ble_eq_true rfl) (Ct_mono h ?_)
  rintro _ s1 ⟨v2, rfl, h⟩
  show X κ 8 [(0, .ref 0), (1, .int a1), (2, .int a2), (3, .int a3)] [.int v2] s1
  refine X_if_eq C dX6_countBy_8 (tgt := 21) (by decide) (fun c => ?_) (fun c => ?_)
  · replace h := h.1 c
    refine X_bipush C (v := (-2)) (by decide) dX6_countBy_21 ?_
    exact X_iret C Z rfl dX6_countBy_23 h
  · replace h := h.2 c
    refine X_iload_n C dX6_countBy_11 rfl (j := 2) rfl ?_
    refine X_iconst C (v := 1) (by decide) dX6_countBy_12 ?_
    refine X_bipush C (v := 20) (by decide) dX6_countBy_13 ?_
    refine X_callS C dX6_countBy_15 pw_RX6_55 (as := [.int a2, .int 1, .int 20]) (S := []) rfl rfl (Nat.le_of_ble_eq_true rfl) (Ct_mono h ?_)
    rintro _ s3 ⟨v4, rfl, h⟩
    show X κ 18 [(0, .ref 0), (1, .int a1), (2, .int a2), (3, .int a3)] [.int v4] s3
    refine X_if_ne C dX6_countBy_18 (tgt := 24) (by decide) (fun c => ?_) (fun c => ?_)
    · replace h := h.1 c
      refine X_aload_n C dX6_countBy_24 rfl (j := 0) rfl ?_
      refine X_getR C sh_0 rfl fw_RX6_10 dX6_countBy_25 ?_
      refine X_iload_n C dX6_countBy_28 rfl (j := 1) rfl ?_
      refine X_callV C dX6_countBy_29 pw_RX6_59 (b := 1) (as := [.int a1]) (S := []) sh_1 rfl rfl rfl (Nat.le_of_ble_eq_true rfl) (Ct_mono h ?_)
      rintro _ s5 ⟨v6, rfl, h⟩
      show X κ 32 [(0, .ref 0), (1, .int a1), (2, .int a2), (3, .int a3)] [.int v6] s5
      refine X_if_eq C dX6_countBy_32 (tgt := 44) (by decide) (fun c => ?_) (fun c => ?_)
      · replace h := h.1 c
        refine X_iload_n C dX6_countBy_44 rfl (j := 3) rfl ?_
        refine X_if_eq C dX6_countBy_45 (tgt := 54) (by decide) (fun c => ?_) (fun c => ?_)
        · replace h := h.1 c
          refine X_iload_n C dX6_countBy_54 rfl (j := 2) rfl ?_
          refine X_istore C dX6_countBy_55 (by decide) (L' := [(4, .int a2), (0, .ref 0), (1, .int a1), (2, .int a2), (3, .int a3)]) rfl ?_
          refine X_iload C dX6_countBy_57 (j := 0) rfl ?_
          refine X_aload_n C dX6_countBy_59 rfl (j := 1) rfl ?_
          refine X_getR C sh_0 rfl fw_RX6_10 dX6_countBy_60 ?_
          refine X_iload_n C dX6_countBy_63 rfl (j := 2) rfl ?_
          refine X_callV C dX6_countBy_64 pw_RX6_66 (b := 1) (as := [.int a1]) (S := [.int a2]) sh_1 rfl rfl rfl (Nat.le_of_ble_eq_true rfl) (Ct_mono h ?_)
          rintro _ s7 ⟨v8, rfl, h⟩
          show X κ 67 [(4, .int a2), (0, .ref 0), (1, .int a1), (2, .int a2), (3, .int a3)] [.int v8, .int a2] s7
          refine X_icmp_le C dX6_countBy_67 (tgt := 79) (by decide) (fun c => ?_) (fun c => ?_)
          · replace h := h.1 c
            refine X_aload_n C dX6_countBy_79 rfl (j := 1) rfl ?_
            refine X_getR C sh_0 rfl fw_RX6_10 dX6_countBy_80 ?_
            refine X_iload_n C dX6_countBy_83 rfl (j := 2) rfl ?_
            refine X_iload C dX6_countBy_84 (j := 0) rfl ?_
            refine X_callV C dX6_countBy_86 pw_RX6_69 (b := 1) (as := [.int a1, .int a2]) (S := []) sh_1 rfl rfl rfl (Nat.le_of_ble_eq_true rfl) (Ct_mono h ?_)
            rintro _ s9 ⟨v10, rfl, h⟩
            show X κ 89 [(4, .int a2), (0, .ref 0), (1, .int a1), (2, .int a2), (3, .int a3)] [.int v10] s9
            refine X_if_ne C dX6_countBy_89 (tgt := 95) (by decide) (fun c => ?_) (fun c => ?_)
            · replace h := h.1 c
              refine X_aload_n C dX6_countBy_95 rfl (j := 1) rfl ?_
              refine X_getR C sh_0 rfl fw_RX6_19 dX6_countBy_96 ?_
              refine X_callV C dX6_countBy_99 pw_RX6_73 (b := 2) (as := []) (S := []) sh_2 rfl rfl rfl (Nat.le_of_ble_eq_true rfl) (Ct_mono h ?_)
              rintro _ s11 ⟨v12, rfl, h⟩
              show X κ 102 [(4, .int a2), (0, .ref 0), (1, .int a1), (2, .int a2), (3, .int a3)] [.int v12] s11
              refine X_if_eq C dX6_countBy_102 (tgt := 110) (by decide) (fun c => ?_) (fun c => ?_)
              · replace h := h.1 c
                refine X_aload_n C dX6_countBy_110 rfl (j := 1) rfl ?_
                refine X_getR C sh_0 rfl fw_RX6_19 dX6_countBy_111 ?_
                refine X_aload_n C dX6_countBy_114 rfl (j := 1) rfl ?_
                refine X_getR C sh_0 rfl fw_RX6_10 dX6_countBy_115 ?_
                refine X_iload_n C dX6_countBy_118 rfl (j := 2) rfl ?_
                refine X_iload_n C dX6_countBy_119 rfl (j := 3) rfl ?_
                refine X_iload_n C dX6_countBy_120 rfl (j := 4) rfl ?_
                refine X_callV C dX6_countBy_121 pw_RX6_77 (b := 2) (as := [.ref 1, .int a1, .int a2, .int a3]) (S := []) sh_2 rfl rfl rfl (Nat.le_of_ble_eq_true rfl) (Ct_mono h ?_)
                rintro _ s13 ⟨v14, rfl, h⟩
                show X κ 124 [(4, .int a2), (0, .ref 0), (1, .int a1), (2, .int a2), (3, .int a3)] [.int v14] s13
                exact X_iret C Z rfl dX6_countBy_124 h
              · replace h := h.2 c
                refine X_bipush C (v := (-4)) (by decide) dX6_countBy_105 ?_
                refine X_goto C dX6_countBy_107 (tgt := 124) (by decide) ?_
                exact X_iret C Z rfl dX6_countBy_124 h
            · replace h := h.2 c
              refine X_bipush C (v := (-3)) (by decide) dX6_countBy_92 ?_
              exact X_iret C Z rfl dX6_countBy_94 h
          · replace h := h.2 c
            refine X_aload_n C dX6_countBy_70 rfl (j := 1) rfl ?_
            refine X_getR C sh_0 rfl fw_RX6_10 dX6_countBy_71 ?_
            refine X_iconst C (v := 2) (by decide) dX6_countBy_74 ?_
            refine X_callV C dX6_countBy_75 pw_RX6_62 (b := 1) (as := [.int 2]) (S := []) sh_1 rfl rfl rfl (Nat.le_of_ble_eq_true rfl) (Ct_mono h ?_)
            rintro _ s15 ⟨v16, rfl, h⟩
            show X κ 78 [(4, .int a2), (0, .ref 0), (1, .int a1), (2, .int a2), (3, .int a3)] [.int v16] s15
            exact X_iret C Z rfl dX6_countBy_78 h
        · replace h := h.2 c
          refine X_iload_n C dX6_countBy_48 rfl (j := 2) rfl ?_
          refine X_iconst C (v := 1) (by decide) dX6_countBy_49 ?_
          refine X_iadd C dX6_countBy_50 ?_
          refine X_goto C dX6_countBy_51 (tgt := 55) (by decide) ?_
          refine X_istore C dX6_countBy_55 (by decide) (L' := [(4, .int (a2 + 1)), (0, .ref 0), (1, .int a1), (2, .int a2), (3, .int a3)]) rfl ?_
          refine X_iload C dX6_countBy_57 (j := 0) rfl ?_
          refine X_aload_n C dX6_countBy_59 rfl (j := 1) rfl ?_
          refine X_getR C sh_0 rfl fw_RX6_10 dX6_countBy_60 ?_
          refine X_iload_n C dX6_countBy_63 rfl (j := 2) rfl ?_
          refine X_callV C dX6_countBy_64 pw_RX6_66 (b := 1) (as := [.int a1]) (S := [.int (a2 + 1)]) sh_1 rfl rfl rfl (Nat.le_of_ble_eq_true rfl) (Ct_mono h ?_)
          rintro _ s17 ⟨v18, rfl, h⟩
          show X κ 67 [(4, .int (a2 + 1)), (0, .ref 0), (1, .int a1), (2, .int a2), (3, .int a3)] [.int v18, .int (a2 + 1)] s17
          refine X_icmp_le C dX6_countBy_67 (tgt := 79) (by decide) (fun c => ?_) (fun c => ?_)
          · replace h := h.1 c
            refine X_aload_n C dX6_countBy_79 rfl (j := 1) rfl ?_
            refine X_getR C sh_0 rfl fw_RX6_10 dX6_countBy_80 ?_
            refine X_iload_n C dX6_countBy_83 rfl (j := 2) rfl ?_
            refine X_iload C dX6_countBy_84 (j := 0) rfl ?_
            refine X_callV C dX6_countBy_86 pw_RX6_69 (b := 1) (as := [.int a1, .int (a2 + 1)]) (S := []) sh_1 rfl rfl rfl (Nat.le_of_ble_eq_true rfl) (Ct_mono h ?_)
            rintro _ s19 ⟨v20, rfl, h⟩
            show X κ 89 [(4, .int (a2 + 1)), (0, .ref 0), (1, .int a1), (2, .int a2), (3, .int a3)] [.int v20] s19
            refine X_if_ne C dX6_countBy_89 (tgt := 95) (by decide) (fun c => ?_) (fun c => ?_)
            · replace h := h.1 c
              refine X_aload_n C dX6_countBy_95 rfl (j := 1) rfl ?_
              refine X_getR C sh_0 rfl fw_RX6_19 dX6_countBy_96 ?_
              refine X_callV C dX6_countBy_99 pw_RX6_73 (b := 2) (as := []) (S := []) sh_2 rfl rfl rfl (Nat.le_of_ble_eq_true rfl) (Ct_mono h ?_)
              rintro _ s21 ⟨v22, rfl, h⟩
              show X κ 102 [(4, .int (a2 + 1)), (0, .ref 0), (1, .int a1), (2, .int a2), (3, .int a3)] [.int v22] s21
              refine X_if_eq C dX6_countBy_102 (tgt := 110) (by decide) (fun c => ?_) (fun c => ?_)
              · replace h := h.1 c
                refine X_aload_n C dX6_countBy_110 rfl (j := 1) rfl ?_
                refine X_getR C sh_0 rfl fw_RX6_19 dX6_countBy_111 ?_
                refine X_aload_n C dX6_countBy_114 rfl (j := 1) rfl ?_
                refine X_getR C sh_0 rfl fw_RX6_10 dX6_countBy_115 ?_
                refine X_iload_n C dX6_countBy_118 rfl (j := 2) rfl ?_
                refine X_iload_n C dX6_countBy_119 rfl (j := 3) rfl ?_
                refine X_iload_n C dX6_countBy_120 rfl (j := 4) rfl ?_
                refine X_callV C dX6_countBy_121 pw_RX6_77 (b := 2) (as := [.ref 1, .int a1, .int a2, .int a3]) (S := []) sh_2 rfl rfl rfl (Nat.le_of_ble_eq_true rfl) (Ct_mono h ?_)
                rintro _ s23 ⟨v24, rfl, h⟩
                show X κ 124 [(4, .int (a2 + 1)), (0, .ref 0), (1, .int a1), (2, .int a2), (3, .int a3)] [.int v24] s23
                exact X_iret C Z rfl dX6_countBy_124 h
              · replace h := h.2 c
                refine X_bipush C (v := (-4)) (by decide) dX6_countBy_105 ?_
                refine X_goto C dX6_countBy_107 (tgt := 124) (by decide) ?_
                exact X_iret C Z rfl dX6_countBy_124 h
            · replace h := h.2 c
              refine X_bipush C (v := (-3)) (by decide) dX6_countBy_92 ?_
              exact X_iret C Z rfl dX6_countBy_94 h
          · replace h := h.2 c
            refine X_aload_n C dX6_countBy_70 rfl (j := 1) rfl ?_
            refine X_getR C sh_0 rfl fw_RX6_10 dX6_countBy_71 ?_
            refine X_iconst C (v := 2) (by decide) dX6_countBy_74 ?_
            refine X_callV C dX6_countBy_75 pw_RX6_62 (b := 1) (as := [.int 2]) (S := []) sh_1 rfl rfl rfl (Nat.le_of_ble_eq_true rfl) (Ct_mono h ?_)
            rintro _ s25 ⟨v26, rfl, h⟩
            show X κ 78 [(4, .int (a2 + 1)), (0, .ref 0), (1, .int a1), (2, .int a2), (3, .int a3)] [.int v26] s25
            exact X_iret C Z rfl dX6_countBy_78 h
      · replace h := h.2 c
        refine X_aload_n C dX6_countBy_35 rfl (j := 0) rfl ?_
        refine X_getR C sh_0 rfl fw_RX6_10 dX6_countBy_36 ?_
        refine X_iconst C (v := 1) (by decide) dX6_countBy_39 ?_
        refine X_callV C dX6_countBy_40 pw_RX6_62 (b := 1) (as := [.int 1]) (S := []) sh_1 rfl rfl rfl (Nat.le_of_ble_eq_true rfl) (Ct_mono h ?_)
        rintro _ s27 ⟨v28, rfl, h⟩
        show X κ 43 [(0, .ref 0), (1, .int a1), (2, .int a2), (3, .int a3)] [.int v28] s27
        exact X_iret C Z rfl dX6_countBy_43 h
    · replace h := h.2 c
      refine X_bipush C (v := (-2)) (by decide) dX6_countBy_21 ?_
      exact X_iret C Z rfl dX6_countBy_23 h
set_option maxHeartbeats 4000000 in
set_option maxRecDepth 100000 in
theorem eX6_begins {d : Nat} {Q : Option Value → xSt → Prop} (a1 : Int32) (a2 : Int32) (st : xSt) (h : Ct d M_X0_has [.ref 2, .int a1] st (Qi fun v2 s1 => ((v2 = 0 → Q (some (.int ((-2)))) s1) ∧ (¬ v2 = 0 → Ct d M_X6_within [.int a2, .int 0, .int 1] s1 (Qi fun v4 s3 => ((¬ v4 = 0 → Ct d M_X0_beginOn [.ref 2, .int a1, .int a2] s3 (Qi fun v6 s5 => Q (some (.int v6)) s5)) ∧ (v4 = 0 → Q (some (.int ((-2)))) s3))))))) : Ct (d + 1) M_X6_begins [.ref 0, .int a1, .int a2] st Q := by
  refine Ct_of (by decide +kernel) (Nat.le_of_ble_eq_true rfl) (fun κ C Z => ?_)
  show X κ 0 [(0, .ref 0), (1, .int a1), (2, .int a2)] [] st
  refine X_aload_n C dX6_begins_0 rfl (j := 0) rfl ?_
  refine X_getR C sh_0 rfl fw_RX6_19 dX6_begins_1 ?_
  refine X_iload_n C dX6_begins_4 rfl (j := 1) rfl ?_
  refine X_callV C dX6_begins_5 pw_RX6_81 (b := 2) (as := [.int a1]) (S := []) sh_2 rfl rfl rfl (Nat.le_of_ble_eq_true rfl) (Ct_mono h ?_)
  rintro _ s1 ⟨v2, rfl, h⟩
  show X κ 8 [(0, .ref 0), (1, .int a1), (2, .int a2)] [.int v2] s1
  refine X_if_eq C dX6_begins_8 (tgt := 20) (by decide) (fun c => ?_) (fun c => ?_)
  · replace h := h.1 c
    refine X_bipush C (v := (-2)) (by decide) dX6_begins_20 ?_
    exact X_iret C Z rfl dX6_begins_22 h
  · replace h := h.2 c
    refine X_iload_n C dX6_begins_11 rfl (j := 2) rfl ?_
    refine X_iconst C (v := 0) (by decide) dX6_begins_12 ?_
    refine X_iconst C (v := 1) (by decide) dX6_begins_13 ?_
    refine X_callS C dX6_begins_14 pw_RX6_55 (as := [.int a2, .int 0, .int 1]) (S := []) rfl rfl (Nat.le_of_ble_eq_true rfl) (Ct_mono h ?_)
    rintro _ s3 ⟨v4, rfl, h⟩
    show X κ 17 [(0, .ref 0), (1, .int a1), (2, .int a2)] [.int v4] s3
    refine X_if_ne C dX6_begins_17 (tgt := 23) (by decide) (fun c => ?_) (fun c => ?_)
    · replace h := h.1 c
      refine X_aload_n C dX6_begins_23 rfl (j := 0) rfl ?_
      refine X_getR C sh_0 rfl fw_RX6_19 dX6_begins_24 ?_
      refine X_iload_n C dX6_begins_27 rfl (j := 1) rfl ?_
      refine X_iload_n C dX6_begins_28 rfl (j := 2) rfl ?_
      refine X_callV C dX6_begins_29 pw_RX6_84 (b := 2) (as := [.int a1, .int a2]) (S := []) sh_2 rfl rfl rfl (Nat.le_of_ble_eq_true rfl) (Ct_mono h ?_)
      rintro _ s5 ⟨v6, rfl, h⟩
      show X κ 32 [(0, .ref 0), (1, .int a1), (2, .int a2)] [.int v6] s5
      exact X_iret C Z rfl dX6_begins_32 h
    · replace h := h.2 c
      refine X_bipush C (v := (-2)) (by decide) dX6_begins_20 ?_
      exact X_iret C Z rfl dX6_begins_22 h
set_option maxHeartbeats 4000000 in
set_option maxRecDepth 100000 in
theorem eX6_about {d : Nat} {Q : Option Value → xSt → Prop} (a1 : Int32) (a2 : Int32) (st : xSt) (h : Ct d M_X0_has [.ref 2, .int a1] st (Qi fun v2 s1 => ((¬ v2 = 0 → (((a2 : Int32).toInt < 0 ∨ 3 < (a2 : Int32).toInt → Q (some (.int ((-2)))) s1) ∧ ((a2 : Int32).toInt = 0 → Ct d M_X0_places [.ref 2, .int a1] s1 (Qi fun v4 s3 => Q (some (.int v4)) s3)) ∧ ((a2 : Int32).toInt = 1 → Ct d M_X0_halfOf [.ref 2, .int a1] s1 (Qi fun v6 s5 => Q (some (.int v6)) s5)) ∧ ((a2 : Int32).toInt = 2 → Ct d M_X0_noseOf [.ref 2, .int a1] s1 (Qi fun v8 s7 => Q (some (.int v8)) s7)) ∧ ((a2 : Int32).toInt = 3 → Ct d M_X0_firstHand [.ref 2, .int a1] s1 (Qi fun v10 s9 => Q (some (.int v10)) s9)))) ∧ (v2 = 0 → Q (some (.int ((-2)))) s1)))) : Ct (d + 1) M_X6_about [.ref 0, .int a1, .int a2] st Q := by
  refine Ct_of (by decide +kernel) (Nat.le_of_ble_eq_true rfl) (fun κ C Z => ?_)
  show X κ 0 [(0, .ref 0), (1, .int a1), (2, .int a2)] [] st
  refine X_aload_n C dX6_about_0 rfl (j := 0) rfl ?_
  refine X_getR C sh_0 rfl fw_RX6_19 dX6_about_1 ?_
  refine X_iload_n C dX6_about_4 rfl (j := 1) rfl ?_
  refine X_callV C dX6_about_5 pw_RX6_81 (b := 2) (as := [.int a1]) (S := []) sh_2 rfl rfl rfl (Nat.le_of_ble_eq_true rfl) (Ct_mono h ?_)
  rintro _ s1 ⟨v2, rfl, h⟩
  show X κ 8 [(0, .ref 0), (1, .int a1), (2, .int a2)] [.int v2] s1
  refine X_if_ne C dX6_about_8 (tgt := 14) (by decide) (fun c => ?_) (fun c => ?_)
  · replace h := h.1 c
    refine X_iload_n C dX6_about_14 rfl (j := 2) rfl ?_
    have hc : ((a2 : Int32).toInt < 0 ∨ 3 < (a2 : Int32).toInt) ∨ (a2 : Int32).toInt = 0 ∨ (a2 : Int32).toInt = 1 ∨ (a2 : Int32).toInt = 2 ∨ (a2 : Int32).toInt = 3 := by omega
    rcases hc with c | c | c | c | c
    · replace h := h.1 c
      refine X_tableOut C dX6_about_15 c (tgt := 80) (by decide) ?_
      refine X_bipush C (v := (-2)) (by decide) dX6_about_80 ?_
      exact X_iret C Z rfl dX6_about_82 h
    · replace h := h.2.1 c
      refine X_tableIn C dX6_about_15 (by omega) (by omega) (off := 29) (by rw [c]; rfl) (tgt := 44) (by decide) ?_
      refine X_aload_n C dX6_about_44 rfl (j := 0) rfl ?_
      refine X_getR C sh_0 rfl fw_RX6_19 dX6_about_45 ?_
      refine X_iload_n C dX6_about_48 rfl (j := 1) rfl ?_
      refine X_callV C dX6_about_49 pw_RX6_88 (b := 2) (as := [.int a1]) (S := []) sh_2 rfl rfl rfl (Nat.le_of_ble_eq_true rfl) (Ct_mono h ?_)
      rintro _ s3 ⟨v4, rfl, h⟩
      show X κ 52 [(0, .ref 0), (1, .int a1), (2, .int a2)] [.int v4] s3
      exact X_iret C Z rfl dX6_about_52 h
    · replace h := h.2.2.1 c
      refine X_tableIn C dX6_about_15 (by omega) (by omega) (off := 38) (by rw [c]; rfl) (tgt := 53) (by decide) ?_
      refine X_aload_n C dX6_about_53 rfl (j := 0) rfl ?_
      refine X_getR C sh_0 rfl fw_RX6_19 dX6_about_54 ?_
      refine X_iload_n C dX6_about_57 rfl (j := 1) rfl ?_
      refine X_callV C dX6_about_58 pw_RX6_91 (b := 2) (as := [.int a1]) (S := []) sh_2 rfl rfl rfl (Nat.le_of_ble_eq_true rfl) (Ct_mono h ?_)
      rintro _ s5 ⟨v6, rfl, h⟩
      show X κ 61 [(0, .ref 0), (1, .int a1), (2, .int a2)] [.int v6] s5
      exact X_iret C Z rfl dX6_about_61 h
    · replace h := h.2.2.2.1 c
      refine X_tableIn C dX6_about_15 (by omega) (by omega) (off := 47) (by rw [c]; rfl) (tgt := 62) (by decide) ?_
      refine X_aload_n C dX6_about_62 rfl (j := 0) rfl ?_
      refine X_getR C sh_0 rfl fw_RX6_19 dX6_about_63 ?_
      refine X_iload_n C dX6_about_66 rfl (j := 1) rfl ?_
      refine X_callV C dX6_about_67 pw_RX6_94 (b := 2) (as := [.int a1]) (S := []) sh_2 rfl rfl rfl (Nat.le_of_ble_eq_true rfl) (Ct_mono h ?_)
      rintro _ s7 ⟨v8, rfl, h⟩
      show X κ 70 [(0, .ref 0), (1, .int a1), (2, .int a2)] [.int v8] s7
      exact X_iret C Z rfl dX6_about_70 h
    · replace h := h.2.2.2.2 c
      refine X_tableIn C dX6_about_15 (by omega) (by omega) (off := 56) (by rw [c]; rfl) (tgt := 71) (by decide) ?_
      refine X_aload_n C dX6_about_71 rfl (j := 0) rfl ?_
      refine X_getR C sh_0 rfl fw_RX6_19 dX6_about_72 ?_
      refine X_iload_n C dX6_about_75 rfl (j := 1) rfl ?_
      refine X_callV C dX6_about_76 pw_RX6_97 (b := 2) (as := [.int a1]) (S := []) sh_2 rfl rfl rfl (Nat.le_of_ble_eq_true rfl) (Ct_mono h ?_)
      rintro _ s9 ⟨v10, rfl, h⟩
      show X κ 79 [(0, .ref 0), (1, .int a1), (2, .int a2)] [.int v10] s9
      exact X_iret C Z rfl dX6_about_79 h
  · replace h := h.2 c
    refine X_bipush C (v := (-2)) (by decide) dX6_about_11 ?_
    exact X_iret C Z rfl dX6_about_13 h
set_option maxHeartbeats 4000000 in
set_option maxRecDepth 100000 in
theorem eX6_place {d : Nat} {Q : Option Value → xSt → Prop} (a1 : Int32) (a2 : Int32) (a3 : Int32) (st : xSt) (h : Ct d M_X0_has [.ref 2, .int a1] st (Qi fun v2 s1 => ((v2 = 0 → Q (some (.int ((-2)))) s1) ∧ (¬ v2 = 0 → Ct d M_X0_places [.ref 2, .int a1] s1 (Qi fun v4 s3 => Ct d M_X6_within [.int a2, .int 1, .int v4] s3 (Qi fun v6 s5 => ((¬ v6 = 0 → (((a3 : Int32).toInt < 0 ∨ 2 < (a3 : Int32).toInt → Q (some (.int ((-2)))) s5) ∧ ((a3 : Int32).toInt = 0 → Ct d M_X0_wordAt [.ref 2, .int a1, .int a2] s5 (Qi fun v8 s7 => Q (some (.int v8)) s7)) ∧ ((a3 : Int32).toInt = 1 → Ct d M_X0_sideAt [.ref 2, .int a1, .int a2] s5 (Qi fun v10 s9 => Q (some (.int v10)) s9)) ∧ ((a3 : Int32).toInt = 2 → Ct d M_X0_handAt [.ref 2, .int a1, .int a2] s5 (Qi fun v12 s11 => Q (some (.int v12)) s11)))) ∧ (v6 = 0 → Q (some (.int ((-2)))) s5)))))))) : Ct (d + 1) M_X6_place [.ref 0, .int a1, .int a2, .int a3] st Q := by
  refine Ct_of (by decide +kernel) (Nat.le_of_ble_eq_true rfl) (fun κ C Z => ?_)
  show X κ 0 [(0, .ref 0), (1, .int a1), (2, .int a2), (3, .int a3)] [] st
  refine X_aload_n C dX6_place_0 rfl (j := 0) rfl ?_
  refine X_getR C sh_0 rfl fw_RX6_19 dX6_place_1 ?_
  refine X_iload_n C dX6_place_4 rfl (j := 1) rfl ?_
  refine X_callV C dX6_place_5 pw_RX6_81 (b := 2) (as := [.int a1]) (S := []) sh_2 rfl rfl rfl (Nat.le_of_ble_eq_true rfl) (Ct_mono h ?_)
  rintro _ s1 ⟨v2, rfl, h⟩
  show X κ 8 [(0, .ref 0), (1, .int a1), (2, .int a2), (3, .int a3)] [.int v2] s1
  refine X_if_eq C dX6_place_8 (tgt := 27) (by decide) (fun c => ?_) (fun c => ?_)
  · replace h := h.1 c
    refine X_bipush C (v := (-2)) (by decide) dX6_place_27 ?_
    exact X_iret C Z rfl dX6_place_29 h
  · replace h := h.2 c
    refine X_iload_n C dX6_place_11 rfl (j := 2) rfl ?_
    refine X_iconst C (v := 1) (by decide) dX6_place_12 ?_
    refine X_aload_n C dX6_place_13 rfl (j := 0) rfl ?_
    refine X_getR C sh_0 rfl fw_RX6_19 dX6_place_14 ?_
    refine X_iload_n C dX6_place_17 rfl (j := 1) rfl ?_
    refine X_callV C dX6_place_18 pw_RX6_88 (b := 2) (as := [.int a1]) (S := [.int 1, .int a2]) sh_2 rfl rfl rfl (Nat.le_of_ble_eq_true rfl) (Ct_mono h ?_)
    rintro _ s3 ⟨v4, rfl, h⟩
    show X κ 21 [(0, .ref 0), (1, .int a1), (2, .int a2), (3, .int a3)] [.int v4, .int 1, .int a2] s3
    refine X_callS C dX6_place_21 pw_RX6_55 (as := [.int a2, .int 1, .int v4]) (S := []) rfl rfl (Nat.le_of_ble_eq_true rfl) (Ct_mono h ?_)
    rintro _ s5 ⟨v6, rfl, h⟩
    show X κ 24 [(0, .ref 0), (1, .int a1), (2, .int a2), (3, .int a3)] [.int v6] s5
    refine X_if_ne C dX6_place_24 (tgt := 30) (by decide) (fun c => ?_) (fun c => ?_)
    · replace h := h.1 c
      refine X_iload_n C dX6_place_30 rfl (j := 3) rfl ?_
      have hc : ((a3 : Int32).toInt < 0 ∨ 2 < (a3 : Int32).toInt) ∨ (a3 : Int32).toInt = 0 ∨ (a3 : Int32).toInt = 1 ∨ (a3 : Int32).toInt = 2 := by omega
      rcases hc with c | c | c | c
      · replace h := h.1 c
        refine X_tableOut C dX6_place_31 c (tgt := 86) (by decide) ?_
        refine X_bipush C (v := (-2)) (by decide) dX6_place_86 ?_
        exact X_iret C Z rfl dX6_place_88 h
      · replace h := h.2.1 c
        refine X_tableIn C dX6_place_31 (by omega) (by omega) (off := 25) (by rw [c]; rfl) (tgt := 56) (by decide) ?_
        refine X_aload_n C dX6_place_56 rfl (j := 0) rfl ?_
        refine X_getR C sh_0 rfl fw_RX6_19 dX6_place_57 ?_
        refine X_iload_n C dX6_place_60 rfl (j := 1) rfl ?_
        refine X_iload_n C dX6_place_61 rfl (j := 2) rfl ?_
        refine X_callV C dX6_place_62 pw_RX6_100 (b := 2) (as := [.int a1, .int a2]) (S := []) sh_2 rfl rfl rfl (Nat.le_of_ble_eq_true rfl) (Ct_mono h ?_)
        rintro _ s7 ⟨v8, rfl, h⟩
        show X κ 65 [(0, .ref 0), (1, .int a1), (2, .int a2), (3, .int a3)] [.int v8] s7
        exact X_iret C Z rfl dX6_place_65 h
      · replace h := h.2.2.1 c
        refine X_tableIn C dX6_place_31 (by omega) (by omega) (off := 35) (by rw [c]; rfl) (tgt := 66) (by decide) ?_
        refine X_aload_n C dX6_place_66 rfl (j := 0) rfl ?_
        refine X_getR C sh_0 rfl fw_RX6_19 dX6_place_67 ?_
        refine X_iload_n C dX6_place_70 rfl (j := 1) rfl ?_
        refine X_iload_n C dX6_place_71 rfl (j := 2) rfl ?_
        refine X_callV C dX6_place_72 pw_RX6_103 (b := 2) (as := [.int a1, .int a2]) (S := []) sh_2 rfl rfl rfl (Nat.le_of_ble_eq_true rfl) (Ct_mono h ?_)
        rintro _ s9 ⟨v10, rfl, h⟩
        show X κ 75 [(0, .ref 0), (1, .int a1), (2, .int a2), (3, .int a3)] [.int v10] s9
        exact X_iret C Z rfl dX6_place_75 h
      · replace h := h.2.2.2 c
        refine X_tableIn C dX6_place_31 (by omega) (by omega) (off := 45) (by rw [c]; rfl) (tgt := 76) (by decide) ?_
        refine X_aload_n C dX6_place_76 rfl (j := 0) rfl ?_
        refine X_getR C sh_0 rfl fw_RX6_19 dX6_place_77 ?_
        refine X_iload_n C dX6_place_80 rfl (j := 1) rfl ?_
        refine X_iload_n C dX6_place_81 rfl (j := 2) rfl ?_
        refine X_callV C dX6_place_82 pw_RX6_106 (b := 2) (as := [.int a1, .int a2]) (S := []) sh_2 rfl rfl rfl (Nat.le_of_ble_eq_true rfl) (Ct_mono h ?_)
        rintro _ s11 ⟨v12, rfl, h⟩
        show X κ 85 [(0, .ref 0), (1, .int a1), (2, .int a2), (3, .int a3)] [.int v12] s11
        exact X_iret C Z rfl dX6_place_85 h
    · replace h := h.2 c
      refine X_bipush C (v := (-2)) (by decide) dX6_place_27 ?_
      exact X_iret C Z rfl dX6_place_29 h
set_option maxHeartbeats 4000000 in
set_option maxRecDepth 100000 in
theorem eX6_number {d : Nat} {Q : Option Value → xSt → Prop} (a1 : Int32) (a2 : Int32) (a3 : Int32) (st : xSt) (h : Ct d M_X0_has [.ref 2, .int a1] st (Qi fun v2 s1 => ((v2 = 0 → Q (some (.int ((-2)))) s1) ∧ (¬ v2 = 0 → Ct d M_X6_within [.int a2, .int 1, .int 400] s1 (Qi fun v4 s3 => ((¬ v4 = 0 → Ct d M_X0_placeOf [.ref 2, .int a1, .int a2] s3 (Qi fun v6 s5 => (((a3 : Int32).toInt < 0 ∨ 3 < (a3 : Int32).toInt → Q (some (.int ((-2)))) s5) ∧ ((a3 : Int32).toInt = 0 → Ct d M_X0_menOf [.ref 2, .int a1, .int a2] s5 (Qi fun v8 s7 => Q (some (.int v8)) s7)) ∧ ((a3 : Int32).toInt = 1 → Q (some (.int v6)) s5) ∧ ((a3 : Int32).toInt = 2 → Ct d M_X0_wordAt [.ref 2, .int a1, .int v6] s5 (Qi fun v10 s9 => Q (some (.int v10)) s9)) ∧ ((a3 : Int32).toInt = 3 → Ct d M_X0_handAt [.ref 2, .int a1, .int v6] s5 (Qi fun v12 s11 => Q (some (.int v12)) s11))))) ∧ (v4 = 0 → Q (some (.int ((-2)))) s3))))))) : Ct (d + 1) M_X6_number [.ref 0, .int a1, .int a2, .int a3] st Q := by
  refine Ct_of (by decide +kernel) (Nat.le_of_ble_eq_true rfl) (fun κ C Z => ?_)
  show X κ 0 [(0, .ref 0), (1, .int a1), (2, .int a2), (3, .int a3)] [] st
  refine X_aload_n C dX6_number_0 rfl (j := 0) rfl ?_
  refine X_getR C sh_0 rfl fw_RX6_19 dX6_number_1 ?_
  refine X_iload_n C dX6_number_4 rfl (j := 1) rfl ?_
  refine X_callV C dX6_number_5 pw_RX6_81 (b := 2) (as := [.int a1]) (S := []) sh_2 rfl rfl rfl (Nat.le_of_ble_eq_true rfl) (Ct_mono h ?_)
  rintro _ s1 ⟨v2, rfl, h⟩
  show X κ 8 [(0, .ref 0), (1, .int a1), (2, .int a2), (3, .int a3)] [.int v2] s1
  refine X_if_eq C dX6_number_8 (tgt := 22) (by decide) (fun c => ?_) (fun c => ?_)
  · replace h := h.1 c
    refine X_bipush C (v := (-2)) (by decide) dX6_number_22 ?_
    exact X_iret C Z rfl dX6_number_24 h
  · replace h := h.2 c
    refine X_iload_n C dX6_number_11 rfl (j := 2) rfl ?_
    refine X_iconst C (v := 1) (by decide) dX6_number_12 ?_
    refine X_sipush C (v := 400) (by decide) dX6_number_13 ?_
    refine X_callS C dX6_number_16 pw_RX6_55 (as := [.int a2, .int 1, .int 400]) (S := []) rfl rfl (Nat.le_of_ble_eq_true rfl) (Ct_mono h ?_)
    rintro _ s3 ⟨v4, rfl, h⟩
    show X κ 19 [(0, .ref 0), (1, .int a1), (2, .int a2), (3, .int a3)] [.int v4] s3
    refine X_if_ne C dX6_number_19 (tgt := 25) (by decide) (fun c => ?_) (fun c => ?_)
    · replace h := h.1 c
      refine X_aload_n C dX6_number_25 rfl (j := 0) rfl ?_
      refine X_getR C sh_0 rfl fw_RX6_19 dX6_number_26 ?_
      refine X_iload_n C dX6_number_29 rfl (j := 1) rfl ?_
      refine X_iload_n C dX6_number_30 rfl (j := 2) rfl ?_
      refine X_callV C dX6_number_31 pw_RX6_109 (b := 2) (as := [.int a1, .int a2]) (S := []) sh_2 rfl rfl rfl (Nat.le_of_ble_eq_true rfl) (Ct_mono h ?_)
      rintro _ s5 ⟨v6, rfl, h⟩
      show X κ 34 [(0, .ref 0), (1, .int a1), (2, .int a2), (3, .int a3)] [.int v6] s5
      refine X_istore C dX6_number_34 (by decide) (L' := [(4, .int v6), (0, .ref 0), (1, .int a1), (2, .int a2), (3, .int a3)]) rfl ?_
      refine X_iload_n C dX6_number_36 rfl (j := 4) rfl ?_
      have hc : ((a3 : Int32).toInt < 0 ∨ 3 < (a3 : Int32).toInt) ∨ (a3 : Int32).toInt = 0 ∨ (a3 : Int32).toInt = 1 ∨ (a3 : Int32).toInt = 2 ∨ (a3 : Int32).toInt = 3 := by omega
      rcases hc with c | c | c | c | c
      · replace h := h.1 c
        refine X_tableOut C dX6_number_37 c (tgt := 103) (by decide) ?_
        refine X_bipush C (v := (-2)) (by decide) dX6_number_103 ?_
        exact X_iret C Z rfl dX6_number_105 h
      · replace h := h.2.1 c
        refine X_tableIn C dX6_number_37 (by omega) (by omega) (off := 31) (by rw [c]; rfl) (tgt := 68) (by decide) ?_
        refine X_aload_n C dX6_number_68 rfl (j := 1) rfl ?_
        refine X_getR C sh_0 rfl fw_RX6_19 dX6_number_69 ?_
        refine X_iload_n C dX6_number_72 rfl (j := 2) rfl ?_
        refine X_iload_n C dX6_number_73 rfl (j := 3) rfl ?_
        refine X_callV C dX6_number_74 pw_RX6_112 (b := 2) (as := [.int a1, .int a2]) (S := []) sh_2 rfl rfl rfl (Nat.le_of_ble_eq_true rfl) (Ct_mono h ?_)
        rintro _ s7 ⟨v8, rfl, h⟩
        show X κ 77 [(4, .int v6), (0, .ref 0), (1, .int a1), (2, .int a2), (3, .int a3)] [.int v8] s7
        exact X_iret C Z rfl dX6_number_77 h
      · replace h := h.2.2.1 c
        refine X_tableIn C dX6_number_37 (by omega) (by omega) (off := 41) (by rw [c]; rfl) (tgt := 78) (by decide) ?_
        refine X_iload C dX6_number_78 (j := 0) rfl ?_
        exact X_iret C Z rfl dX6_number_80 h
      · replace h := h.2.2.2.1 c
        refine X_tableIn C dX6_number_37 (by omega) (by omega) (off := 44) (by rw [c]; rfl) (tgt := 81) (by decide) ?_
        refine X_aload_n C dX6_number_81 rfl (j := 1) rfl ?_
        refine X_getR C sh_0 rfl fw_RX6_19 dX6_number_82 ?_
        refine X_iload_n C dX6_number_85 rfl (j := 2) rfl ?_
        refine X_iload C dX6_number_86 (j := 0) rfl ?_
        refine X_callV C dX6_number_88 pw_RX6_100 (b := 2) (as := [.int a1, .int v6]) (S := []) sh_2 rfl rfl rfl (Nat.le_of_ble_eq_true rfl) (Ct_mono h ?_)
        rintro _ s9 ⟨v10, rfl, h⟩
        show X κ 91 [(4, .int v6), (0, .ref 0), (1, .int a1), (2, .int a2), (3, .int a3)] [.int v10] s9
        exact X_iret C Z rfl dX6_number_91 h
      · replace h := h.2.2.2.2 c
        refine X_tableIn C dX6_number_37 (by omega) (by omega) (off := 55) (by rw [c]; rfl) (tgt := 92) (by decide) ?_
        refine X_aload_n C dX6_number_92 rfl (j := 1) rfl ?_
        refine X_getR C sh_0 rfl fw_RX6_19 dX6_number_93 ?_
        refine X_iload_n C dX6_number_96 rfl (j := 2) rfl ?_
        refine X_iload C dX6_number_97 (j := 0) rfl ?_
        refine X_callV C dX6_number_99 pw_RX6_106 (b := 2) (as := [.int a1, .int v6]) (S := []) sh_2 rfl rfl rfl (Nat.le_of_ble_eq_true rfl) (Ct_mono h ?_)
        rintro _ s11 ⟨v12, rfl, h⟩
        show X κ 102 [(4, .int v6), (0, .ref 0), (1, .int a1), (2, .int a2), (3, .int a3)] [.int v12] s11
        exact X_iret C Z rfl dX6_number_102 h
    · replace h := h.2 c
      refine X_bipush C (v := (-2)) (by decide) dX6_number_22 ?_
      exact X_iret C Z rfl dX6_number_24 h
set_option maxHeartbeats 4000000 in
set_option maxRecDepth 100000 in
theorem eX6_value {d : Nat} {Q : Option Value → xSt → Prop} (a1 : Int32) (a2 : Int32) (a3 : Int32) (st : xSt) (h : Ct d M_X0_has [.ref 2, .int a1] st (Qi fun v2 s1 => ((v2 = 0 → Q (some (.int ((-2)))) s1) ∧ (¬ v2 = 0 → Ct d M_X6_within [.int a2, .int 0, .int 20] s1 (Qi fun v4 s3 => ((v4 = 0 → Q (some (.int ((-2)))) s3) ∧ (¬ v4 = 0 → Ct d M_X0_places [.ref 2, .int a1] s3 (Qi fun v6 s5 => Ct d M_X6_within [.int a3, .int 1, .int v6] s5 (Qi fun v8 s7 => ((¬ v8 = 0 → Ct d M_X0_places [.ref 2, .int a1] s7 (Qi fun v10 s9 => Q (some (.int ((a2 * v10) + a3))) s9)) ∧ (v8 = 0 → Q (some (.int ((-2)))) s7))))))))))) : Ct (d + 1) M_X6_value [.ref 0, .int a1, .int a2, .int a3] st Q := by
  refine Ct_of (by decide +kernel) (Nat.le_of_ble_eq_true rfl) (fun κ C Z => ?_)
  show X κ 0 [(0, .ref 0), (1, .int a1), (2, .int a2), (3, .int a3)] [] st
  refine X_aload_n C dX6_value_0 rfl (j := 0) rfl ?_
  refine X_getR C sh_0 rfl fw_RX6_19 dX6_value_1 ?_
  refine X_iload_n C dX6_value_4 rfl (j := 1) rfl ?_
  refine X_callV C dX6_value_5 pw_RX6_81 (b := 2) (as := [.int a1]) (S := []) sh_2 rfl rfl rfl (Nat.le_of_ble_eq_true rfl) (Ct_mono h ?_)
  rintro _ s1 ⟨v2, rfl, h⟩
  show X κ 8 [(0, .ref 0), (1, .int a1), (2, .int a2), (3, .int a3)] [.int v2] s1
  refine X_if_eq C dX6_value_8 (tgt := 37) (by decide) (fun c => ?_) (fun c => ?_)
  · replace h := h.1 c
    refine X_bipush C (v := (-2)) (by decide) dX6_value_37 ?_
    exact X_iret C Z rfl dX6_value_39 h
  · replace h := h.2 c
    refine X_iload_n C dX6_value_11 rfl (j := 2) rfl ?_
    refine X_iconst C (v := 0) (by decide) dX6_value_12 ?_
    refine X_bipush C (v := 20) (by decide) dX6_value_13 ?_
    refine X_callS C dX6_value_15 pw_RX6_55 (as := [.int a2, .int 0, .int 20]) (S := []) rfl rfl (Nat.le_of_ble_eq_true rfl) (Ct_mono h ?_)
    rintro _ s3 ⟨v4, rfl, h⟩
    show X κ 18 [(0, .ref 0), (1, .int a1), (2, .int a2), (3, .int a3)] [.int v4] s3
    refine X_if_eq C dX6_value_18 (tgt := 37) (by decide) (fun c => ?_) (fun c => ?_)
    · replace h := h.1 c
      refine X_bipush C (v := (-2)) (by decide) dX6_value_37 ?_
      exact X_iret C Z rfl dX6_value_39 h
    · replace h := h.2 c
      refine X_iload_n C dX6_value_21 rfl (j := 3) rfl ?_
      refine X_iconst C (v := 1) (by decide) dX6_value_22 ?_
      refine X_aload_n C dX6_value_23 rfl (j := 0) rfl ?_
      refine X_getR C sh_0 rfl fw_RX6_19 dX6_value_24 ?_
      refine X_iload_n C dX6_value_27 rfl (j := 1) rfl ?_
      refine X_callV C dX6_value_28 pw_RX6_88 (b := 2) (as := [.int a1]) (S := [.int 1, .int a3]) sh_2 rfl rfl rfl (Nat.le_of_ble_eq_true rfl) (Ct_mono h ?_)
      rintro _ s5 ⟨v6, rfl, h⟩
      show X κ 31 [(0, .ref 0), (1, .int a1), (2, .int a2), (3, .int a3)] [.int v6, .int 1, .int a3] s5
      refine X_callS C dX6_value_31 pw_RX6_55 (as := [.int a3, .int 1, .int v6]) (S := []) rfl rfl (Nat.le_of_ble_eq_true rfl) (Ct_mono h ?_)
      rintro _ s7 ⟨v8, rfl, h⟩
      show X κ 34 [(0, .ref 0), (1, .int a1), (2, .int a2), (3, .int a3)] [.int v8] s7
      refine X_if_ne C dX6_value_34 (tgt := 40) (by decide) (fun c => ?_) (fun c => ?_)
      · replace h := h.1 c
        refine X_iload_n C dX6_value_40 rfl (j := 2) rfl ?_
        refine X_aload_n C dX6_value_41 rfl (j := 0) rfl ?_
        refine X_getR C sh_0 rfl fw_RX6_19 dX6_value_42 ?_
        refine X_iload_n C dX6_value_45 rfl (j := 1) rfl ?_
        refine X_callV C dX6_value_46 pw_RX6_88 (b := 2) (as := [.int a1]) (S := [.int a2]) sh_2 rfl rfl rfl (Nat.le_of_ble_eq_true rfl) (Ct_mono h ?_)
        rintro _ s9 ⟨v10, rfl, h⟩
        show X κ 49 [(0, .ref 0), (1, .int a1), (2, .int a2), (3, .int a3)] [.int v10, .int a2] s9
        refine X_imul C dX6_value_49 ?_
        refine X_iload_n C dX6_value_50 rfl (j := 3) rfl ?_
        refine X_iadd C dX6_value_51 ?_
        exact X_iret C Z rfl dX6_value_52 h
      · replace h := h.2 c
        refine X_bipush C (v := (-2)) (by decide) dX6_value_37 ?_
        exact X_iret C Z rfl dX6_value_39 h
set_option maxHeartbeats 4000000 in
set_option maxRecDepth 100000 in
theorem eX6_isPoint {d : Nat} {Q : Option Value → xSt → Prop} (a1 : Int32) (a2 : Int32) (a3 : Int32) (a4 : Int32) (st : xSt) (h : Ct d M_X0_has [.ref 2, .int a1] st (Qi fun v2 s1 => ((v2 = 0 → Q (some (.int 0)) s1) ∧ (¬ v2 = 0 → Ct d M_X6_within [.int a2, .int 0, .int 99] s1 (Qi fun v4 s3 => ((v4 = 0 → Q (some (.int 0)) s3) ∧ (¬ v4 = 0 → Ct d M_X6_within [.int a3, .int ((-1)), .int 2] s3 (Qi fun v6 s5 => ((v6 = 0 → Q (some (.int 0)) s5) ∧ (¬ v6 = 0 → Ct d M_X6_within [.int a4, .int ((-1)), .int 20] s5 (Qi fun v8 s7 => ((v8 = 0 → Q (some (.int 0)) s7) ∧ (¬ v8 = 0 → Q (some (.int 1)) s7))))))))))))) : Ct (d + 1) M_X6_isPoint [.ref 0, .int a1, .int a2, .int a3, .int a4] st Q := by
  refine Ct_of (by decide +kernel) (Nat.le_of_ble_eq_true rfl) (fun κ C Z => ?_)
  show X κ 0 [(0, .ref 0), (1, .int a1), (2, .int a2), (3, .int a3), (4, .int a4)] [] st
  refine X_aload_n C dX6_isPoint_0 rfl (j := 0) rfl ?_
  refine X_getR C sh_0 rfl fw_RX6_19 dX6_isPoint_1 ?_
  refine X_iload_n C dX6_isPoint_4 rfl (j := 1) rfl ?_
  refine X_callV C dX6_isPoint_5 pw_RX6_81 (b := 2) (as := [.int a1]) (S := []) sh_2 rfl rfl rfl (Nat.le_of_ble_eq_true rfl) (Ct_mono h ?_)
  rintro _ s1 ⟨v2, rfl, h⟩
  show X κ 8 [(0, .ref 0), (1, .int a1), (2, .int a2), (3, .int a3), (4, .int a4)] [.int v2] s1
  refine X_if_eq C dX6_isPoint_8 (tgt := 45) (by decide) (fun c => ?_) (fun c => ?_)
  · replace h := h.1 c
    refine X_iconst C (v := 0) (by decide) dX6_isPoint_45 ?_
    exact X_zret C Z rfl (by decide) dX6_isPoint_46 h
  · replace h := h.2 c
    refine X_iload_n C dX6_isPoint_11 rfl (j := 2) rfl ?_
    refine X_iconst C (v := 0) (by decide) dX6_isPoint_12 ?_
    refine X_bipush C (v := 99) (by decide) dX6_isPoint_13 ?_
    refine X_callS C dX6_isPoint_15 pw_RX6_55 (as := [.int a2, .int 0, .int 99]) (S := []) rfl rfl (Nat.le_of_ble_eq_true rfl) (Ct_mono h ?_)
    rintro _ s3 ⟨v4, rfl, h⟩
    show X κ 18 [(0, .ref 0), (1, .int a1), (2, .int a2), (3, .int a3), (4, .int a4)] [.int v4] s3
    refine X_if_eq C dX6_isPoint_18 (tgt := 45) (by decide) (fun c => ?_) (fun c => ?_)
    · replace h := h.1 c
      refine X_iconst C (v := 0) (by decide) dX6_isPoint_45 ?_
      exact X_zret C Z rfl (by decide) dX6_isPoint_46 h
    · replace h := h.2 c
      refine X_iload_n C dX6_isPoint_21 rfl (j := 3) rfl ?_
      refine X_iconst C (v := (-1)) (by decide) dX6_isPoint_22 ?_
      refine X_iconst C (v := 2) (by decide) dX6_isPoint_23 ?_
      refine X_callS C dX6_isPoint_24 pw_RX6_55 (as := [.int a3, .int ((-1)), .int 2]) (S := []) rfl rfl (Nat.le_of_ble_eq_true rfl) (Ct_mono h ?_)
      rintro _ s5 ⟨v6, rfl, h⟩
      show X κ 27 [(0, .ref 0), (1, .int a1), (2, .int a2), (3, .int a3), (4, .int a4)] [.int v6] s5
      refine X_if_eq C dX6_isPoint_27 (tgt := 45) (by decide) (fun c => ?_) (fun c => ?_)
      · replace h := h.1 c
        refine X_iconst C (v := 0) (by decide) dX6_isPoint_45 ?_
        exact X_zret C Z rfl (by decide) dX6_isPoint_46 h
      · replace h := h.2 c
        refine X_iload C dX6_isPoint_30 (j := 4) rfl ?_
        refine X_iconst C (v := (-1)) (by decide) dX6_isPoint_32 ?_
        refine X_bipush C (v := 20) (by decide) dX6_isPoint_33 ?_
        refine X_callS C dX6_isPoint_35 pw_RX6_55 (as := [.int a4, .int ((-1)), .int 20]) (S := []) rfl rfl (Nat.le_of_ble_eq_true rfl) (Ct_mono h ?_)
        rintro _ s7 ⟨v8, rfl, h⟩
        show X κ 38 [(0, .ref 0), (1, .int a1), (2, .int a2), (3, .int a3), (4, .int a4)] [.int v8] s7
        refine X_if_eq C dX6_isPoint_38 (tgt := 45) (by decide) (fun c => ?_) (fun c => ?_)
        · replace h := h.1 c
          refine X_iconst C (v := 0) (by decide) dX6_isPoint_45 ?_
          exact X_zret C Z rfl (by decide) dX6_isPoint_46 h
        · replace h := h.2 c
          refine X_iconst C (v := 1) (by decide) dX6_isPoint_41 ?_
          refine X_goto C dX6_isPoint_42 (tgt := 46) (by decide) ?_
          exact X_zret C Z rfl (by decide) dX6_isPoint_46 h
set_option maxHeartbeats 4000000 in
set_option maxRecDepth 100000 in
theorem bX6_meanings_33 {κ : xK} {d : Nat} {Q : Option Value → xSt → Prop} (C : Cx κ M_X6_meanings (d + 1)) (Z : xR κ Q) (x1 : Int32) (x2 : Int32) (x3 : Int32) (x4 : Int32) (x5 : Int32) (x6 : Int32) (x7 : Int32) (st : xSt) (h : ((x5 < x7 → Q (some (.int x6)) st) ∧ (¬ x5 < x7 → Ct d M_X0_means [.ref 2, .int x1, .int x2, .int x3, .int x4, .int x7] st (Qi fun v2 s1 => ((v2 = 0 → X κ 33 [(0, .ref 0), (1, .int x1), (2, .int x2), (3, .int x3), (4, .int x4), (5, .int x5), (6, .int x6), (7, .int (x7 + 1))] [] s1) ∧ (¬ v2 = 0 → X κ 33 [(0, .ref 0), (1, .int x1), (2, .int x2), (3, .int x3), (4, .int x4), (5, .int x5), (6, .int (x6 + 1)), (7, .int (x7 + 1))] [] s1)))))) : X κ 33 [(0, .ref 0), (1, .int x1), (2, .int x2), (3, .int x3), (4, .int x4), (5, .int x5), (6, .int x6), (7, .int x7)] [] st := by
  refine X_iload C dX6_meanings_33 (j := 7) rfl ?_
  refine X_iload C dX6_meanings_35 (j := 5) rfl ?_
  refine X_icmp_gt C dX6_meanings_37 (tgt := 66) (by decide) (fun c => ?_) (fun c => ?_)
  · replace h := h.1 c
    refine X_iload C dX6_meanings_66 (j := 6) rfl ?_
    exact X_iret C Z rfl dX6_meanings_68 h
  · replace h := h.2 c
    refine X_aload_n C dX6_meanings_40 rfl (j := 0) rfl ?_
    refine X_getR C sh_0 rfl fw_RX6_19 dX6_meanings_41 ?_
    refine X_iload_n C dX6_meanings_44 rfl (j := 1) rfl ?_
    refine X_iload_n C dX6_meanings_45 rfl (j := 2) rfl ?_
    refine X_iload_n C dX6_meanings_46 rfl (j := 3) rfl ?_
    refine X_iload C dX6_meanings_47 (j := 4) rfl ?_
    refine X_iload C dX6_meanings_49 (j := 7) rfl ?_
    refine X_callV C dX6_meanings_51 pw_RX6_119 (b := 2) (as := [.int x1, .int x2, .int x3, .int x4, .int x7]) (S := []) sh_2 rfl rfl rfl (Nat.le_of_ble_eq_true rfl) (Ct_mono h ?_)
    rintro _ s1 ⟨v2, rfl, h⟩
    show X κ 54 [(0, .ref 0), (1, .int x1), (2, .int x2), (3, .int x3), (4, .int x4), (5, .int x5), (6, .int x6), (7, .int x7)] [.int v2] s1
    refine X_if_eq C dX6_meanings_54 (tgt := 60) (by decide) (fun c => ?_) (fun c => ?_)
    · replace h := h.1 c
      refine X_iinc C dX6_meanings_60 (j := 7) rfl (v := x7 + 1) rfl (by decide) (L' := [(7, .int (x7 + 1)), (0, .ref 0), (1, .int x1), (2, .int x2), (3, .int x3), (4, .int x4), (5, .int x5), (6, .int x6)]) rfl ?_
      refine X_goto C dX6_meanings_63 (tgt := 33) (by decide) ?_
      refine X_loc [1, 2, 3, 4, 5, 6, 7, 0] rfl ?_
      exact h
    · replace h := h.2 c
      refine X_iinc C dX6_meanings_57 (j := 6) rfl (v := x6 + 1) rfl (by decide) (L' := [(6, .int (x6 + 1)), (0, .ref 0), (1, .int x1), (2, .int x2), (3, .int x3), (4, .int x4), (5, .int x5), (7, .int x7)]) rfl ?_
      refine X_iinc C dX6_meanings_60 (j := 7) rfl (v := x7 + 1) rfl (by decide) (L' := [(7, .int (x7 + 1)), (6, .int (x6 + 1)), (0, .ref 0), (1, .int x1), (2, .int x2), (3, .int x3), (4, .int x4), (5, .int x5)]) rfl ?_
      refine X_goto C dX6_meanings_63 (tgt := 33) (by decide) ?_
      refine X_loc [2, 3, 4, 5, 6, 7, 1, 0] rfl ?_
      exact h
set_option maxHeartbeats 4000000 in
set_option maxRecDepth 100000 in
theorem eX6_meanings {d : Nat} {Q : Option Value → xSt → Prop} (a1 : Int32) (a2 : Int32) (a3 : Int32) (a4 : Int32) (a5 : Int32) (st : xSt) (h : ∀ κ : xK, Cx κ M_X6_meanings (d + 1) → xR κ Q → Ct d M_X6_isPoint [.ref 0, .int a1, .int a2, .int a3, .int a4] st (Qi fun v2 s1 => ((v2 = 0 → Q (some (.int ((-2)))) s1) ∧ (¬ v2 = 0 → Ct d M_X6_within [.int a5, .int 1, .int 400] s1 (Qi fun v4 s3 => ((¬ v4 = 0 → X κ 33 [(0, .ref 0), (1, .int a1), (2, .int a2), (3, .int a3), (4, .int a4), (5, .int a5), (6, .int 0), (7, .int 1)] [] s3) ∧ (v4 = 0 → Q (some (.int ((-2)))) s3))))))) : Ct (d + 1) M_X6_meanings [.ref 0, .int a1, .int a2, .int a3, .int a4, .int a5] st Q := by
  refine Ct_of (by decide +kernel) (Nat.le_of_ble_eq_true rfl) (fun κ C Z => ?_)
  replace h := h κ C Z
  show X κ 0 [(0, .ref 0), (1, .int a1), (2, .int a2), (3, .int a3), (4, .int a4), (5, .int a5)] [] st
  refine X_aload_n C dX6_meanings_0 rfl (j := 0) rfl ?_
  refine X_iload_n C dX6_meanings_1 rfl (j := 1) rfl ?_
  refine X_iload_n C dX6_meanings_2 rfl (j := 2) rfl ?_
  refine X_iload_n C dX6_meanings_3 rfl (j := 3) rfl ?_
  refine X_iload C dX6_meanings_4 (j := 4) rfl ?_
  refine X_callV C dX6_meanings_6 pw_RX6_115 (b := 0) (as := [.int a1, .int a2, .int a3, .int a4]) (S := []) sh_0 rfl rfl rfl (Nat.le_of_ble_eq_true rfl) (Ct_mono h ?_)
  rintro _ s1 ⟨v2, rfl, h⟩
  show X κ 9 [(0, .ref 0), (1, .int a1), (2, .int a2), (3, .int a3), (4, .int a4), (5, .int a5)] [.int v2] s1
  refine X_if_eq C dX6_meanings_9 (tgt := 24) (by decide) (fun c => ?_) (fun c => ?_)
  · replace h := h.1 c
    refine X_bipush C (v := (-2)) (by decide) dX6_meanings_24 ?_
    exact X_iret C Z rfl dX6_meanings_26 h
  · replace h := h.2 c
    refine X_iload C dX6_meanings_12 (j := 5) rfl ?_
    refine X_iconst C (v := 1) (by decide) dX6_meanings_14 ?_
    refine X_sipush C (v := 400) (by decide) dX6_meanings_15 ?_
    refine X_callS C dX6_meanings_18 pw_RX6_55 (as := [.int a5, .int 1, .int 400]) (S := []) rfl rfl (Nat.le_of_ble_eq_true rfl) (Ct_mono h ?_)
    rintro _ s3 ⟨v4, rfl, h⟩
    show X κ 21 [(0, .ref 0), (1, .int a1), (2, .int a2), (3, .int a3), (4, .int a4), (5, .int a5)] [.int v4] s3
    refine X_if_ne C dX6_meanings_21 (tgt := 27) (by decide) (fun c => ?_) (fun c => ?_)
    · replace h := h.1 c
      refine X_iconst C (v := 0) (by decide) dX6_meanings_27 ?_
      refine X_istore C dX6_meanings_28 (by decide) (L' := [(6, .int 0), (0, .ref 0), (1, .int a1), (2, .int a2), (3, .int a3), (4, .int a4), (5, .int a5)]) rfl ?_
      refine X_iconst C (v := 1) (by decide) dX6_meanings_30 ?_
      refine X_istore C dX6_meanings_31 (by decide) (L' := [(7, .int 1), (6, .int 0), (0, .ref 0), (1, .int a1), (2, .int a2), (3, .int a3), (4, .int a4), (5, .int a5)]) rfl ?_
      refine X_loc [2, 3, 4, 5, 6, 7, 1, 0] rfl ?_
      exact h
    · replace h := h.2 c
      refine X_bipush C (v := (-2)) (by decide) dX6_meanings_24 ?_
      exact X_iret C Z rfl dX6_meanings_26 h
set_option maxHeartbeats 4000000 in
set_option maxRecDepth 100000 in
theorem bX6_meaning_26 {κ : xK} {d : Nat} {Q : Option Value → xSt → Prop} (C : Cx κ M_X6_meaning (d + 1)) (Z : xR κ Q) (x1 : Int32) (x2 : Int32) (x3 : Int32) (x4 : Int32) (x5 : Int32) (x6 : Int32) (x7 : Int32) (st : xSt) (h : ((400 < x7 → Q (some (.int ((-1)))) st) ∧ (¬ 400 < x7 → Ct d M_X0_means [.ref 2, .int x1, .int x2, .int x3, .int x4, .int x7] st (Qi fun v2 s1 => ((v2 = 0 → X κ 26 [(0, .ref 0), (1, .int x1), (2, .int x2), (3, .int x3), (4, .int x4), (5, .int x5), (6, .int x6), (7, .int (x7 + 1))] [] s1) ∧ (¬ v2 = 0 → ((¬ x6 = x5 → X κ 26 [(0, .ref 0), (1, .int x1), (2, .int x2), (3, .int x3), (4, .int x4), (5, .int x5), (6, .int (x6 + 1)), (7, .int (x7 + 1))] [] s1) ∧ (x6 = x5 → Q (some (.int x7)) s1)))))))) : X κ 26 [(0, .ref 0), (1, .int x1), (2, .int x2), (3, .int x3), (4, .int x4), (5, .int x5), (6, .int x6), (7, .int x7)] [] st := by
  refine X_iload C dX6_meaning_26 (j := 7) rfl ?_
  refine X_sipush C (v := 400) (by decide) dX6_meaning_28 ?_
  refine X_icmp_gt C dX6_meaning_31 (tgt := 70) (by decide) (fun c => ?_) (fun c => ?_)
  · replace h := h.1 c
    refine X_iconst C (v := (-1)) (by decide) dX6_meaning_70 ?_
    exact X_iret C Z rfl dX6_meaning_71 h
  · replace h := h.2 c
    refine X_aload_n C dX6_meaning_34 rfl (j := 0) rfl ?_
    refine X_getR C sh_0 rfl fw_RX6_19 dX6_meaning_35 ?_
    refine X_iload_n C dX6_meaning_38 rfl (j := 1) rfl ?_
    refine X_iload_n C dX6_meaning_39 rfl (j := 2) rfl ?_
    refine X_iload_n C dX6_meaning_40 rfl (j := 3) rfl ?_
    refine X_iload C dX6_meaning_41 (j := 4) rfl ?_
    refine X_iload C dX6_meaning_43 (j := 7) rfl ?_
    refine X_callV C dX6_meaning_45 pw_RX6_119 (b := 2) (as := [.int x1, .int x2, .int x3, .int x4, .int x7]) (S := []) sh_2 rfl rfl rfl (Nat.le_of_ble_eq_true rfl) (Ct_mono h ?_)
    rintro _ s1 ⟨v2, rfl, h⟩
    show X κ 48 [(0, .ref 0), (1, .int x1), (2, .int x2), (3, .int x3), (4, .int x4), (5, .int x5), (6, .int x6), (7, .int x7)] [.int v2] s1
    refine X_if_eq C dX6_meaning_48 (tgt := 64) (by decide) (fun c => ?_) (fun c => ?_)
    · replace h := h.1 c
      refine X_iinc C dX6_meaning_64 (j := 7) rfl (v := x7 + 1) rfl (by decide) (L' := [(7, .int (x7 + 1)), (0, .ref 0), (1, .int x1), (2, .int x2), (3, .int x3), (4, .int x4), (5, .int x5), (6, .int x6)]) rfl ?_
      refine X_goto C dX6_meaning_67 (tgt := 26) (by decide) ?_
      refine X_loc [1, 2, 3, 4, 5, 6, 7, 0] rfl ?_
      exact h
    · replace h := h.2 c
      refine X_iload C dX6_meaning_51 (j := 6) rfl ?_
      refine X_iload C dX6_meaning_53 (j := 5) rfl ?_
      refine X_icmp_ne C dX6_meaning_55 (tgt := 61) (by decide) (fun c => ?_) (fun c => ?_)
      · replace h := h.1 c
        refine X_iinc C dX6_meaning_61 (j := 6) rfl (v := x6 + 1) rfl (by decide) (L' := [(6, .int (x6 + 1)), (0, .ref 0), (1, .int x1), (2, .int x2), (3, .int x3), (4, .int x4), (5, .int x5), (7, .int x7)]) rfl ?_
        refine X_iinc C dX6_meaning_64 (j := 7) rfl (v := x7 + 1) rfl (by decide) (L' := [(7, .int (x7 + 1)), (6, .int (x6 + 1)), (0, .ref 0), (1, .int x1), (2, .int x2), (3, .int x3), (4, .int x4), (5, .int x5)]) rfl ?_
        refine X_goto C dX6_meaning_67 (tgt := 26) (by decide) ?_
        refine X_loc [2, 3, 4, 5, 6, 7, 1, 0] rfl ?_
        exact h
      · replace h := h.2 c
        refine X_iload C dX6_meaning_58 (j := 7) rfl ?_
        exact X_iret C Z rfl dX6_meaning_60 h
set_option maxHeartbeats 4000000 in
set_option maxRecDepth 100000 in
theorem eX6_meaning {d : Nat} {Q : Option Value → xSt → Prop} (a1 : Int32) (a2 : Int32) (a3 : Int32) (a4 : Int32) (a5 : Int32) (st : xSt) (h : ∀ κ : xK, Cx κ M_X6_meaning (d + 1) → xR κ Q → Ct d M_X6_isPoint [.ref 0, .int a1, .int a2, .int a3, .int a4] st (Qi fun v2 s1 => ((v2 = 0 → Q (some (.int ((-2)))) s1) ∧ (¬ v2 = 0 → ((0 ≤ a5 → X κ 26 [(0, .ref 0), (1, .int a1), (2, .int a2), (3, .int a3), (4, .int a4), (5, .int a5), (6, .int 0), (7, .int 1)] [] s1) ∧ (¬ 0 ≤ a5 → Q (some (.int ((-2)))) s1)))))) : Ct (d + 1) M_X6_meaning [.ref 0, .int a1, .int a2, .int a3, .int a4, .int a5] st Q := by
  refine Ct_of (by decide +kernel) (Nat.le_of_ble_eq_true rfl) (fun κ C Z => ?_)
  replace h := h κ C Z
  show X κ 0 [(0, .ref 0), (1, .int a1), (2, .int a2), (3, .int a3), (4, .int a4), (5, .int a5)] [] st
  refine X_aload_n C dX6_meaning_0 rfl (j := 0) rfl ?_
  refine X_iload_n C dX6_meaning_1 rfl (j := 1) rfl ?_
  refine X_iload_n C dX6_meaning_2 rfl (j := 2) rfl ?_
  refine X_iload_n C dX6_meaning_3 rfl (j := 3) rfl ?_
  refine X_iload C dX6_meaning_4 (j := 4) rfl ?_
  refine X_callV C dX6_meaning_6 pw_RX6_115 (b := 0) (as := [.int a1, .int a2, .int a3, .int a4]) (S := []) sh_0 rfl rfl rfl (Nat.le_of_ble_eq_true rfl) (Ct_mono h ?_)
  rintro _ s1 ⟨v2, rfl, h⟩
  show X κ 9 [(0, .ref 0), (1, .int a1), (2, .int a2), (3, .int a3), (4, .int a4), (5, .int a5)] [.int v2] s1
  refine X_if_eq C dX6_meaning_9 (tgt := 17) (by decide) (fun c => ?_) (fun c => ?_)
  · replace h := h.1 c
    refine X_bipush C (v := (-2)) (by decide) dX6_meaning_17 ?_
    exact X_iret C Z rfl dX6_meaning_19 h
  · replace h := h.2 c
    refine X_iload C dX6_meaning_12 (j := 5) rfl ?_
    refine X_if_ge C dX6_meaning_14 (tgt := 20) (by decide) (fun c => ?_) (fun c => ?_)
    · replace h := h.1 c
      refine X_iconst C (v := 0) (by decide) dX6_meaning_20 ?_
      refine X_istore C dX6_meaning_21 (by decide) (L' := [(6, .int 0), (0, .ref 0), (1, .int a1), (2, .int a2), (3, .int a3), (4, .int a4), (5, .int a5)]) rfl ?_
      refine X_iconst C (v := 1) (by decide) dX6_meaning_23 ?_
      refine X_istore C dX6_meaning_24 (by decide) (L' := [(7, .int 1), (6, .int 0), (0, .ref 0), (1, .int a1), (2, .int a2), (3, .int a3), (4, .int a4), (5, .int a5)]) rfl ?_
      refine X_loc [2, 3, 4, 5, 6, 7, 1, 0] rfl ?_
      exact h
    · replace h := h.2 c
      refine X_bipush C (v := (-2)) (by decide) dX6_meaning_17 ?_
      exact X_iret C Z rfl dX6_meaning_19 h
set_option maxHeartbeats 4000000 in
set_option maxRecDepth 100000 in
theorem eX6_mat {d : Nat} {Q : Option Value → xSt → Prop} (a1 : Int32) (st : xSt) (h : Ct d M_X6_within [.int a1, .int 1, .int 40] st (Qi fun v2 s1 => ((v2 = 0 → Q (some (.int ((-2)))) s1) ∧ (¬ v2 = 0 → Ct d M_X3_spread [.ref 3, .int a1] s1 (Qi fun v4 s3 => Q (some (.int v4)) s3))))) : Ct (d + 1) M_X6_mat [.ref 0, .int a1] st Q := by
  refine Ct_of (by decide +kernel) (Nat.le_of_ble_eq_true rfl) (fun κ C Z => ?_)
  show X κ 0 [(0, .ref 0), (1, .int a1)] [] st
  refine X_iload_n C dX6_mat_0 rfl (j := 1) rfl ?_
  refine X_iconst C (v := 1) (by decide) dX6_mat_1 ?_
  refine X_bipush C (v := 40) (by decide) dX6_mat_2 ?_
  refine X_callS C dX6_mat_4 pw_RX6_55 (as := [.int a1, .int 1, .int 40]) (S := []) rfl rfl (Nat.le_of_ble_eq_true rfl) (Ct_mono h ?_)
  rintro _ s1 ⟨v2, rfl, h⟩
  show X κ 7 [(0, .ref 0), (1, .int a1)] [.int v2] s1
  refine X_if_eq C dX6_mat_7 (tgt := 21) (by decide) (fun c => ?_) (fun c => ?_)
  · replace h := h.1 c
    refine X_bipush C (v := (-2)) (by decide) dX6_mat_21 ?_
    exact X_iret C Z rfl dX6_mat_23 h
  · replace h := h.2 c
    refine X_aload_n C dX6_mat_10 rfl (j := 0) rfl ?_
    refine X_getR C sh_0 rfl fw_RX6_26 dX6_mat_11 ?_
    refine X_iload_n C dX6_mat_14 rfl (j := 1) rfl ?_
    refine X_callV C dX6_mat_15 pw_RX6_123 (b := 3) (as := [.int a1]) (S := []) sh_3 rfl rfl rfl (Nat.le_of_ble_eq_true rfl) (Ct_mono h ?_)
    rintro _ s3 ⟨v4, rfl, h⟩
    show X κ 18 [(0, .ref 0), (1, .int a1)] [.int v4] s3
    refine X_goto C dX6_mat_18 (tgt := 23) (by decide) ?_
    exact X_iret C Z rfl dX6_mat_23 h
set_option maxHeartbeats 4000000 in
set_option maxRecDepth 100000 in
theorem eX6_clue {d : Nat} {Q : Option Value → xSt → Prop} (a1 : Int32) (a2 : Int32) (a3 : Int32) (a4 : Int32) (a5 : Int32) (st : xSt) (h : Ct d M_X3_asks [.int a1] st (Qi fun v2 s1 => ((v2 = 0 → Q (some (.int ((-2)))) s1) ∧ (¬ v2 = 0 → Ct d M_X6_isPoint [.ref 0, .int a2, .int a3, .int a4, .int a5] s1 (Qi fun v4 s3 => ((¬ v4 = 0 → Ct d M_X3_addPoint [.ref 3, .int a1, .int a2, .int a3, .int a4, .int a5] s3 (Qi fun v6 s5 => Q (some (.int v6)) s5)) ∧ (v4 = 0 → Q (some (.int ((-2)))) s3))))))) : Ct (d + 1) M_X6_clue [.ref 0, .int a1, .int a2, .int a3, .int a4, .int a5] st Q := by
  refine Ct_of (by decide +kernel) (Nat.le_of_ble_eq_true rfl) (fun κ C Z => ?_)
  show X κ 0 [(0, .ref 0), (1, .int a1), (2, .int a2), (3, .int a3), (4, .int a4), (5, .int a5)] [] st
  refine X_iload_n C dX6_clue_0 rfl (j := 1) rfl ?_
  refine X_callS C dX6_clue_1 pw_RX6_126 (as := [.int a1]) (S := []) rfl rfl (Nat.le_of_ble_eq_true rfl) (Ct_mono h ?_)
  rintro _ s1 ⟨v2, rfl, h⟩
  show X κ 4 [(0, .ref 0), (1, .int a1), (2, .int a2), (3, .int a3), (4, .int a4), (5, .int a5)] [.int v2] s1
  refine X_if_eq C dX6_clue_4 (tgt := 20) (by decide) (fun c => ?_) (fun c => ?_)
  · replace h := h.1 c
    refine X_bipush C (v := (-2)) (by decide) dX6_clue_20 ?_
    exact X_iret C Z rfl dX6_clue_22 h
  · replace h := h.2 c
    refine X_aload_n C dX6_clue_7 rfl (j := 0) rfl ?_
    refine X_iload_n C dX6_clue_8 rfl (j := 2) rfl ?_
    refine X_iload_n C dX6_clue_9 rfl (j := 3) rfl ?_
    refine X_iload C dX6_clue_10 (j := 4) rfl ?_
    refine X_iload C dX6_clue_12 (j := 5) rfl ?_
    refine X_callV C dX6_clue_14 pw_RX6_115 (b := 0) (as := [.int a2, .int a3, .int a4, .int a5]) (S := []) sh_0 rfl rfl rfl (Nat.le_of_ble_eq_true rfl) (Ct_mono h ?_)
    rintro _ s3 ⟨v4, rfl, h⟩
    show X κ 17 [(0, .ref 0), (1, .int a1), (2, .int a2), (3, .int a3), (4, .int a4), (5, .int a5)] [.int v4] s3
    refine X_if_ne C dX6_clue_17 (tgt := 23) (by decide) (fun c => ?_) (fun c => ?_)
    · replace h := h.1 c
      refine X_aload_n C dX6_clue_23 rfl (j := 0) rfl ?_
      refine X_getR C sh_0 rfl fw_RX6_26 dX6_clue_24 ?_
      refine X_iload_n C dX6_clue_27 rfl (j := 1) rfl ?_
      refine X_iload_n C dX6_clue_28 rfl (j := 2) rfl ?_
      refine X_iload_n C dX6_clue_29 rfl (j := 3) rfl ?_
      refine X_iload C dX6_clue_30 (j := 4) rfl ?_
      refine X_iload C dX6_clue_32 (j := 5) rfl ?_
      refine X_callV C dX6_clue_34 pw_RX6_129 (b := 3) (as := [.int a1, .int a2, .int a3, .int a4, .int a5]) (S := []) sh_3 rfl rfl rfl (Nat.le_of_ble_eq_true rfl) (Ct_mono h ?_)
      rintro _ s5 ⟨v6, rfl, h⟩
      show X κ 37 [(0, .ref 0), (1, .int a1), (2, .int a2), (3, .int a3), (4, .int a4), (5, .int a5)] [.int v6] s5
      exact X_iret C Z rfl dX6_clue_37 h
    · replace h := h.2 c
      refine X_bipush C (v := (-2)) (by decide) dX6_clue_20 ?_
      exact X_iret C Z rfl dX6_clue_22 h
set_option maxHeartbeats 4000000 in
set_option maxRecDepth 100000 in
theorem eX6_sum {d : Nat} {Q : Option Value → xSt → Prop} (a1 : Int32) (a2 : Int32) (a3 : Int32) (st : xSt) (h : Ct d M_X3_asks [.int a1] st (Qi fun v2 s1 => ((v2 = 0 → Q (some (.int ((-2)))) s1) ∧ (¬ v2 = 0 → Ct d M_X3_asks [.int a2] s1 (Qi fun v4 s3 => ((v4 = 0 → Q (some (.int ((-2)))) s3) ∧ (¬ v4 = 0 → Ct d M_X3_asks [.int a3] s3 (Qi fun v6 s5 => ((¬ v6 = 0 → Ct d M_X3_add [.ref 3, .int 1, .int a1, .int a2, .int a3] s5 (Qi fun v8 s7 => Q (some (.int v8)) s7)) ∧ (v6 = 0 → Q (some (.int ((-2)))) s5)))))))))) : Ct (d + 1) M_X6_sum [.ref 0, .int a1, .int a2, .int a3] st Q := by
  refine Ct_of (by decide +kernel) (Nat.le_of_ble_eq_true rfl) (fun κ C Z => ?_)
  show X κ 0 [(0, .ref 0), (1, .int a1), (2, .int a2), (3, .int a3)] [] st
  refine X_iload_n C dX6_sum_0 rfl (j := 1) rfl ?_
  refine X_callS C dX6_sum_1 pw_RX6_126 (as := [.int a1]) (S := []) rfl rfl (Nat.le_of_ble_eq_true rfl) (Ct_mono h ?_)
  rintro _ s1 ⟨v2, rfl, h⟩
  show X κ 4 [(0, .ref 0), (1, .int a1), (2, .int a2), (3, .int a3)] [.int v2] s1
  refine X_if_eq C dX6_sum_4 (tgt := 21) (by decide) (fun c => ?_) (fun c => ?_)
  · replace h := h.1 c
    refine X_bipush C (v := (-2)) (by decide) dX6_sum_21 ?_
    exact X_iret C Z rfl dX6_sum_23 h
  · replace h := h.2 c
    refine X_iload_n C dX6_sum_7 rfl (j := 2) rfl ?_
    refine X_callS C dX6_sum_8 pw_RX6_126 (as := [.int a2]) (S := []) rfl rfl (Nat.le_of_ble_eq_true rfl) (Ct_mono h ?_)
    rintro _ s3 ⟨v4, rfl, h⟩
    show X κ 11 [(0, .ref 0), (1, .int a1), (2, .int a2), (3, .int a3)] [.int v4] s3
    refine X_if_eq C dX6_sum_11 (tgt := 21) (by decide) (fun c => ?_) (fun c => ?_)
    · replace h := h.1 c
      refine X_bipush C (v := (-2)) (by decide) dX6_sum_21 ?_
      exact X_iret C Z rfl dX6_sum_23 h
    · replace h := h.2 c
      refine X_iload_n C dX6_sum_14 rfl (j := 3) rfl ?_
      refine X_callS C dX6_sum_15 pw_RX6_126 (as := [.int a3]) (S := []) rfl rfl (Nat.le_of_ble_eq_true rfl) (Ct_mono h ?_)
      rintro _ s5 ⟨v6, rfl, h⟩
      show X κ 18 [(0, .ref 0), (1, .int a1), (2, .int a2), (3, .int a3)] [.int v6] s5
      refine X_if_ne C dX6_sum_18 (tgt := 24) (by decide) (fun c => ?_) (fun c => ?_)
      · replace h := h.1 c
        refine X_aload_n C dX6_sum_24 rfl (j := 0) rfl ?_
        refine X_getR C sh_0 rfl fw_RX6_26 dX6_sum_25 ?_
        refine X_iconst C (v := 1) (by decide) dX6_sum_28 ?_
        refine X_iload_n C dX6_sum_29 rfl (j := 1) rfl ?_
        refine X_iload_n C dX6_sum_30 rfl (j := 2) rfl ?_
        refine X_iload_n C dX6_sum_31 rfl (j := 3) rfl ?_
        refine X_callV C dX6_sum_32 pw_RX6_133 (b := 3) (as := [.int 1, .int a1, .int a2, .int a3]) (S := []) sh_3 rfl rfl rfl (Nat.le_of_ble_eq_true rfl) (Ct_mono h ?_)
        rintro _ s7 ⟨v8, rfl, h⟩
        show X κ 35 [(0, .ref 0), (1, .int a1), (2, .int a2), (3, .int a3)] [.int v8] s7
        exact X_iret C Z rfl dX6_sum_35 h
      · replace h := h.2 c
        refine X_bipush C (v := (-2)) (by decide) dX6_sum_21 ?_
        exact X_iret C Z rfl dX6_sum_23 h
set_option maxHeartbeats 4000000 in
set_option maxRecDepth 100000 in
theorem eX6_less {d : Nat} {Q : Option Value → xSt → Prop} (a1 : Int32) (a2 : Int32) (st : xSt) (h : Ct d M_X3_asks [.int a1] st (Qi fun v2 s1 => ((v2 = 0 → Q (some (.int ((-2)))) s1) ∧ (¬ v2 = 0 → Ct d M_X3_asks [.int a2] s1 (Qi fun v4 s3 => ((v4 = 0 → Q (some (.int ((-2)))) s3) ∧ (¬ v4 = 0 → ((¬ a1 = a2 → Ct d M_X3_add [.ref 3, .int 2, .int a1, .int a2, .int 0] s3 (Qi fun v6 s5 => Q (some (.int v6)) s5)) ∧ (a1 = a2 → Q (some (.int ((-2)))) s3))))))))) : Ct (d + 1) M_X6_less [.ref 0, .int a1, .int a2] st Q := by
  refine Ct_of (by decide +kernel) (Nat.le_of_ble_eq_true rfl) (fun κ C Z => ?_)
  show X κ 0 [(0, .ref 0), (1, .int a1), (2, .int a2)] [] st
  refine X_iload_n C dX6_less_0 rfl (j := 1) rfl ?_
  refine X_callS C dX6_less_1 pw_RX6_126 (as := [.int a1]) (S := []) rfl rfl (Nat.le_of_ble_eq_true rfl) (Ct_mono h ?_)
  rintro _ s1 ⟨v2, rfl, h⟩
  show X κ 4 [(0, .ref 0), (1, .int a1), (2, .int a2)] [.int v2] s1
  refine X_if_eq C dX6_less_4 (tgt := 19) (by decide) (fun c => ?_) (fun c => ?_)
  · replace h := h.1 c
    refine X_bipush C (v := (-2)) (by decide) dX6_less_19 ?_
    exact X_iret C Z rfl dX6_less_21 h
  · replace h := h.2 c
    refine X_iload_n C dX6_less_7 rfl (j := 2) rfl ?_
    refine X_callS C dX6_less_8 pw_RX6_126 (as := [.int a2]) (S := []) rfl rfl (Nat.le_of_ble_eq_true rfl) (Ct_mono h ?_)
    rintro _ s3 ⟨v4, rfl, h⟩
    show X κ 11 [(0, .ref 0), (1, .int a1), (2, .int a2)] [.int v4] s3
    refine X_if_eq C dX6_less_11 (tgt := 19) (by decide) (fun c => ?_) (fun c => ?_)
    · replace h := h.1 c
      refine X_bipush C (v := (-2)) (by decide) dX6_less_19 ?_
      exact X_iret C Z rfl dX6_less_21 h
    · replace h := h.2 c
      refine X_iload_n C dX6_less_14 rfl (j := 1) rfl ?_
      refine X_iload_n C dX6_less_15 rfl (j := 2) rfl ?_
      refine X_icmp_ne C dX6_less_16 (tgt := 22) (by decide) (fun c => ?_) (fun c => ?_)
      · replace h := h.1 c
        refine X_aload_n C dX6_less_22 rfl (j := 0) rfl ?_
        refine X_getR C sh_0 rfl fw_RX6_26 dX6_less_23 ?_
        refine X_iconst C (v := 2) (by decide) dX6_less_26 ?_
        refine X_iload_n C dX6_less_27 rfl (j := 1) rfl ?_
        refine X_iload_n C dX6_less_28 rfl (j := 2) rfl ?_
        refine X_iconst C (v := 0) (by decide) dX6_less_29 ?_
        refine X_callV C dX6_less_30 pw_RX6_133 (b := 3) (as := [.int 2, .int a1, .int a2, .int 0]) (S := []) sh_3 rfl rfl rfl (Nat.le_of_ble_eq_true rfl) (Ct_mono h ?_)
        rintro _ s5 ⟨v6, rfl, h⟩
        show X κ 33 [(0, .ref 0), (1, .int a1), (2, .int a2)] [.int v6] s5
        exact X_iret C Z rfl dX6_less_33 h
      · replace h := h.2 c
        refine X_bipush C (v := (-2)) (by decide) dX6_less_19 ?_
        exact X_iret C Z rfl dX6_less_21 h
set_option maxHeartbeats 4000000 in
set_option maxRecDepth 100000 in
theorem eX6_mats {d : Nat} {Q : Option Value → xSt → Prop} (a1 : Int32) (a2 : Int32) (a3 : Int32) (st : xSt) (h : Ct d M_X3_asks [.int a1] st (Qi fun v2 s1 => ((v2 = 0 → Q (some (.int ((-2)))) s1) ∧ (¬ v2 = 0 → Ct d M_X6_within [.int a3, .int 1, .int 40] s1 (Qi fun v4 s3 => ((v4 = 0 → Q (some (.int ((-2)))) s3) ∧ (¬ v4 = 0 → Ct d M_X6_within [.int a2, .int 1, .int a3] s3 (Qi fun v6 s5 => ((¬ v6 = 0 → Ct d M_X3_add [.ref 3, .int 3, .int a1, .int a2, .int a3] s5 (Qi fun v8 s7 => Q (some (.int v8)) s7)) ∧ (v6 = 0 → Q (some (.int ((-2)))) s5)))))))))) : Ct (d + 1) M_X6_mats [.ref 0, .int a1, .int a2, .int a3] st Q := by
  refine Ct_of (by decide +kernel) (Nat.le_of_ble_eq_true rfl) (fun κ C Z => ?_)
  show X κ 0 [(0, .ref 0), (1, .int a1), (2, .int a2), (3, .int a3)] [] st
  refine X_iload_n C dX6_mats_0 rfl (j := 1) rfl ?_
  refine X_callS C dX6_mats_1 pw_RX6_126 (as := [.int a1]) (S := []) rfl rfl (Nat.le_of_ble_eq_true rfl) (Ct_mono h ?_)
  rintro _ s1 ⟨v2, rfl, h⟩
  show X κ 4 [(0, .ref 0), (1, .int a1), (2, .int a2), (3, .int a3)] [.int v2] s1
  refine X_if_eq C dX6_mats_4 (tgt := 26) (by decide) (fun c => ?_) (fun c => ?_)
  · replace h := h.1 c
    refine X_bipush C (v := (-2)) (by decide) dX6_mats_26 ?_
    exact X_iret C Z rfl dX6_mats_28 h
  · replace h := h.2 c
    refine X_iload_n C dX6_mats_7 rfl (j := 3) rfl ?_
    refine X_iconst C (v := 1) (by decide) dX6_mats_8 ?_
    refine X_bipush C (v := 40) (by decide) dX6_mats_9 ?_
    refine X_callS C dX6_mats_11 pw_RX6_55 (as := [.int a3, .int 1, .int 40]) (S := []) rfl rfl (Nat.le_of_ble_eq_true rfl) (Ct_mono h ?_)
    rintro _ s3 ⟨v4, rfl, h⟩
    show X κ 14 [(0, .ref 0), (1, .int a1), (2, .int a2), (3, .int a3)] [.int v4] s3
    refine X_if_eq C dX6_mats_14 (tgt := 26) (by decide) (fun c => ?_) (fun c => ?_)
    · replace h := h.1 c
      refine X_bipush C (v := (-2)) (by decide) dX6_mats_26 ?_
      exact X_iret C Z rfl dX6_mats_28 h
    · replace h := h.2 c
      refine X_iload_n C dX6_mats_17 rfl (j := 2) rfl ?_
      refine X_iconst C (v := 1) (by decide) dX6_mats_18 ?_
      refine X_iload_n C dX6_mats_19 rfl (j := 3) rfl ?_
      refine X_callS C dX6_mats_20 pw_RX6_55 (as := [.int a2, .int 1, .int a3]) (S := []) rfl rfl (Nat.le_of_ble_eq_true rfl) (Ct_mono h ?_)
      rintro _ s5 ⟨v6, rfl, h⟩
      show X κ 23 [(0, .ref 0), (1, .int a1), (2, .int a2), (3, .int a3)] [.int v6] s5
      refine X_if_ne C dX6_mats_23 (tgt := 29) (by decide) (fun c => ?_) (fun c => ?_)
      · replace h := h.1 c
        refine X_aload_n C dX6_mats_29 rfl (j := 0) rfl ?_
        refine X_getR C sh_0 rfl fw_RX6_26 dX6_mats_30 ?_
        refine X_iconst C (v := 3) (by decide) dX6_mats_33 ?_
        refine X_iload_n C dX6_mats_34 rfl (j := 1) rfl ?_
        refine X_iload_n C dX6_mats_35 rfl (j := 2) rfl ?_
        refine X_iload_n C dX6_mats_36 rfl (j := 3) rfl ?_
        refine X_callV C dX6_mats_37 pw_RX6_133 (b := 3) (as := [.int 3, .int a1, .int a2, .int a3]) (S := []) sh_3 rfl rfl rfl (Nat.le_of_ble_eq_true rfl) (Ct_mono h ?_)
        rintro _ s7 ⟨v8, rfl, h⟩
        show X κ 40 [(0, .ref 0), (1, .int a1), (2, .int a2), (3, .int a3)] [.int v8] s7
        exact X_iret C Z rfl dX6_mats_40 h
      · replace h := h.2 c
        refine X_bipush C (v := (-2)) (by decide) dX6_mats_26 ?_
        exact X_iret C Z rfl dX6_mats_28 h
set_option maxHeartbeats 4000000 in
set_option maxRecDepth 100000 in
theorem eX6_forget {d : Nat} {Q : Option Value → xSt → Prop} (st : xSt) (h : Ct d M_X3_empty [.ref 3] st (Qi fun v2 s1 => Q (some (.int v2)) s1)) : Ct (d + 1) M_X6_forget [.ref 0] st Q := by
  refine Ct_of (by decide +kernel) (Nat.le_of_ble_eq_true rfl) (fun κ C Z => ?_)
  show X κ 0 [(0, .ref 0)] [] st
  refine X_aload_n C dX6_forget_0 rfl (j := 0) rfl ?_
  refine X_getR C sh_0 rfl fw_RX6_26 dX6_forget_1 ?_
  refine X_callV C dX6_forget_4 pw_RX6_137 (b := 3) (as := []) (S := []) sh_3 rfl rfl rfl (Nat.le_of_ble_eq_true rfl) (Ct_mono h ?_)
  rintro _ s1 ⟨v2, rfl, h⟩
  show X κ 7 [(0, .ref 0)] [.int v2] s1
  exact X_iret C Z rfl dX6_forget_7 h
set_option maxHeartbeats 4000000 in
set_option maxRecDepth 100000 in
theorem eX6_solutions {d : Nat} {Q : Option Value → xSt → Prop} (st : xSt) (h : Ct d M_X3_howMany [.ref 3, .ref 2] st (Qi fun v2 s1 => Q (some (.int v2)) s1)) : Ct (d + 1) M_X6_solutions [.ref 0] st Q := by
  refine Ct_of (by decide +kernel) (Nat.le_of_ble_eq_true rfl) (fun κ C Z => ?_)
  show X κ 0 [(0, .ref 0)] [] st
  refine X_aload_n C dX6_solutions_0 rfl (j := 0) rfl ?_
  refine X_getR C sh_0 rfl fw_RX6_26 dX6_solutions_1 ?_
  refine X_aload_n C dX6_solutions_4 rfl (j := 0) rfl ?_
  refine X_getR C sh_0 rfl fw_RX6_19 dX6_solutions_5 ?_
  refine X_callV C dX6_solutions_8 pw_RX6_141 (b := 3) (as := [.ref 2]) (S := []) sh_3 rfl rfl rfl (Nat.le_of_ble_eq_true rfl) (Ct_mono h ?_)
  rintro _ s1 ⟨v2, rfl, h⟩
  show X κ 11 [(0, .ref 0)] [.int v2] s1
  exact X_iret C Z rfl dX6_solutions_11 h
set_option maxHeartbeats 4000000 in
set_option maxRecDepth 100000 in
theorem eX6_solution {d : Nat} {Q : Option Value → xSt → Prop} (a1 : Int32) (a2 : Int32) (st : xSt) (h : ((a1 < 0 → Q (some (.int ((-2)))) st) ∧ (¬ a1 < 0 → Ct d M_X3_asks [.int a2] st (Qi fun v2 s1 => ((¬ v2 = 0 → Ct d M_X3_pick [.ref 3, .ref 2, .int a1, .int a2] s1 (Qi fun v4 s3 => Q (some (.int v4)) s3)) ∧ (v2 = 0 → Q (some (.int ((-2)))) s1)))))) : Ct (d + 1) M_X6_solution [.ref 0, .int a1, .int a2] st Q := by
  refine Ct_of (by decide +kernel) (Nat.le_of_ble_eq_true rfl) (fun κ C Z => ?_)
  show X κ 0 [(0, .ref 0), (1, .int a1), (2, .int a2)] [] st
  refine X_iload_n C dX6_solution_0 rfl (j := 1) rfl ?_
  refine X_if_lt C dX6_solution_1 (tgt := 11) (by decide) (fun c => ?_) (fun c => ?_)
  · replace h := h.1 c
    refine X_bipush C (v := (-2)) (by decide) dX6_solution_11 ?_
    refine X_goto C dX6_solution_13 (tgt := 29) (by decide) ?_
    exact X_iret C Z rfl dX6_solution_29 h
  · replace h := h.2 c
    refine X_iload_n C dX6_solution_4 rfl (j := 2) rfl ?_
    refine X_callS C dX6_solution_5 pw_RX6_126 (as := [.int a2]) (S := []) rfl rfl (Nat.le_of_ble_eq_true rfl) (Ct_mono h ?_)
    rintro _ s1 ⟨v2, rfl, h⟩
    show X κ 8 [(0, .ref 0), (1, .int a1), (2, .int a2)] [.int v2] s1
    refine X_if_ne C dX6_solution_8 (tgt := 16) (by decide) (fun c => ?_) (fun c => ?_)
    · replace h := h.1 c
      refine X_aload_n C dX6_solution_16 rfl (j := 0) rfl ?_
      refine X_getR C sh_0 rfl fw_RX6_26 dX6_solution_17 ?_
      refine X_aload_n C dX6_solution_20 rfl (j := 0) rfl ?_
      refine X_getR C sh_0 rfl fw_RX6_19 dX6_solution_21 ?_
      refine X_iload_n C dX6_solution_24 rfl (j := 1) rfl ?_
      refine X_iload_n C dX6_solution_25 rfl (j := 2) rfl ?_
      refine X_callV C dX6_solution_26 pw_RX6_145 (b := 3) (as := [.ref 2, .int a1, .int a2]) (S := []) sh_3 rfl rfl rfl (Nat.le_of_ble_eq_true rfl) (Ct_mono h ?_)
      rintro _ s3 ⟨v4, rfl, h⟩
      show X κ 29 [(0, .ref 0), (1, .int a1), (2, .int a2)] [.int v4] s3
      exact X_iret C Z rfl dX6_solution_29 h
    · replace h := h.2 c
      refine X_bipush C (v := (-2)) (by decide) dX6_solution_11 ?_
      refine X_goto C dX6_solution_13 (tgt := 29) (by decide) ?_
      exact X_iret C Z rfl dX6_solution_29 h
set_option maxHeartbeats 4000000 in
set_option maxRecDepth 100000 in
theorem eX6_sure {d : Nat} {Q : Option Value → xSt → Prop} (a1 : Int32) (st : xSt) (h : Ct d M_X3_asks [.int a1] st (Qi fun v2 s1 => ((v2 = 0 → Q (some (.int ((-2)))) s1) ∧ (¬ v2 = 0 → Ct d M_X3_certain [.ref 3, .ref 2, .int a1] s1 (Qi fun v4 s3 => Q (some (.int v4)) s3))))) : Ct (d + 1) M_X6_sure [.ref 0, .int a1] st Q := by
  refine Ct_of (by decide +kernel) (Nat.le_of_ble_eq_true rfl) (fun κ C Z => ?_)
  show X κ 0 [(0, .ref 0), (1, .int a1)] [] st
  refine X_iload_n C dX6_sure_0 rfl (j := 1) rfl ?_
  refine X_callS C dX6_sure_1 pw_RX6_126 (as := [.int a1]) (S := []) rfl rfl (Nat.le_of_ble_eq_true rfl) (Ct_mono h ?_)
  rintro _ s1 ⟨v2, rfl, h⟩
  show X κ 4 [(0, .ref 0), (1, .int a1)] [.int v2] s1
  refine X_if_eq C dX6_sure_4 (tgt := 22) (by decide) (fun c => ?_) (fun c => ?_)
  · replace h := h.1 c
    refine X_bipush C (v := (-2)) (by decide) dX6_sure_22 ?_
    exact X_iret C Z rfl dX6_sure_24 h
  · replace h := h.2 c
    refine X_aload_n C dX6_sure_7 rfl (j := 0) rfl ?_
    refine X_getR C sh_0 rfl fw_RX6_26 dX6_sure_8 ?_
    refine X_aload_n C dX6_sure_11 rfl (j := 0) rfl ?_
    refine X_getR C sh_0 rfl fw_RX6_19 dX6_sure_12 ?_
    refine X_iload_n C dX6_sure_15 rfl (j := 1) rfl ?_
    refine X_callV C dX6_sure_16 pw_RX6_149 (b := 3) (as := [.ref 2, .int a1]) (S := []) sh_3 rfl rfl rfl (Nat.le_of_ble_eq_true rfl) (Ct_mono h ?_)
    rintro _ s3 ⟨v4, rfl, h⟩
    show X κ 19 [(0, .ref 0), (1, .int a1)] [.int v4] s3
    refine X_goto C dX6_sure_19 (tgt := 24) (by decide) ?_
    exact X_iret C Z rfl dX6_sure_24 h
set_option maxHeartbeats 4000000 in
set_option maxRecDepth 100000 in
theorem eX6_quarrel {d : Nat} {Q : Option Value → xSt → Prop} (st : xSt) (h : Ct d M_X3_leastWithout [.ref 3, .ref 2] st (Qi fun v2 s1 => Q (some (.int v2)) s1)) : Ct (d + 1) M_X6_quarrel [.ref 0] st Q := by
  refine Ct_of (by decide +kernel) (Nat.le_of_ble_eq_true rfl) (fun κ C Z => ?_)
  show X κ 0 [(0, .ref 0)] [] st
  refine X_aload_n C dX6_quarrel_0 rfl (j := 0) rfl ?_
  refine X_getR C sh_0 rfl fw_RX6_26 dX6_quarrel_1 ?_
  refine X_aload_n C dX6_quarrel_4 rfl (j := 0) rfl ?_
  refine X_getR C sh_0 rfl fw_RX6_19 dX6_quarrel_5 ?_
  refine X_callV C dX6_quarrel_8 pw_RX6_153 (b := 3) (as := [.ref 2]) (S := []) sh_3 rfl rfl rfl (Nat.le_of_ble_eq_true rfl) (Ct_mono h ?_)
  rintro _ s1 ⟨v2, rfl, h⟩
  show X κ 11 [(0, .ref 0)] [.int v2] s1
  exact X_iret C Z rfl dX6_quarrel_11 h
set_option maxHeartbeats 4000000 in
set_option maxRecDepth 100000 in
theorem eX6_heard {d : Nat} {Q : Option Value → xSt → Prop} (a1 : Int32) (a2 : Int32) (a3 : Int32) (st : xSt) (h : Ct d M_X0_has [.ref 2, .int a1] st (Qi fun v2 s1 => ((v2 = 0 → Q (some (.int ((-2)))) s1) ∧ (¬ v2 = 0 → Ct d M_X0_has [.ref 2, .int a2] s1 (Qi fun v4 s3 => ((v4 = 0 → Q (some (.int ((-2)))) s3) ∧ (¬ v4 = 0 → Ct d M_X6_within [.int a3, .int 1, .int 400] s3 (Qi fun v6 s5 => ((¬ v6 = 0 → Ct d M_X0_heardAs [.ref 2, .int a1, .int a2, .int a3] s5 (Qi fun v8 s7 => Q (some (.int v8)) s7)) ∧ (v6 = 0 → Q (some (.int ((-2)))) s5)))))))))) : Ct (d + 1) M_X6_heard [.ref 0, .int a1, .int a2, .int a3] st Q := by
  refine Ct_of (by decide +kernel) (Nat.le_of_ble_eq_true rfl) (fun κ C Z => ?_)
  show X κ 0 [(0, .ref 0), (1, .int a1), (2, .int a2), (3, .int a3)] [] st
  refine X_aload_n C dX6_heard_0 rfl (j := 0) rfl ?_
  refine X_getR C sh_0 rfl fw_RX6_19 dX6_heard_1 ?_
  refine X_iload_n C dX6_heard_4 rfl (j := 1) rfl ?_
  refine X_callV C dX6_heard_5 pw_RX6_81 (b := 2) (as := [.int a1]) (S := []) sh_2 rfl rfl rfl (Nat.le_of_ble_eq_true rfl) (Ct_mono h ?_)
  rintro _ s1 ⟨v2, rfl, h⟩
  show X κ 8 [(0, .ref 0), (1, .int a1), (2, .int a2), (3, .int a3)] [.int v2] s1
  refine X_if_eq C dX6_heard_8 (tgt := 33) (by decide) (fun c => ?_) (fun c => ?_)
  · replace h := h.1 c
    refine X_bipush C (v := (-2)) (by decide) dX6_heard_33 ?_
    exact X_iret C Z rfl dX6_heard_35 h
  · replace h := h.2 c
    refine X_aload_n C dX6_heard_11 rfl (j := 0) rfl ?_
    refine X_getR C sh_0 rfl fw_RX6_19 dX6_heard_12 ?_
    refine X_iload_n C dX6_heard_15 rfl (j := 2) rfl ?_
    refine X_callV C dX6_heard_16 pw_RX6_81 (b := 2) (as := [.int a2]) (S := []) sh_2 rfl rfl rfl (Nat.le_of_ble_eq_true rfl) (Ct_mono h ?_)
    rintro _ s3 ⟨v4, rfl, h⟩
    show X κ 19 [(0, .ref 0), (1, .int a1), (2, .int a2), (3, .int a3)] [.int v4] s3
    refine X_if_eq C dX6_heard_19 (tgt := 33) (by decide) (fun c => ?_) (fun c => ?_)
    · replace h := h.1 c
      refine X_bipush C (v := (-2)) (by decide) dX6_heard_33 ?_
      exact X_iret C Z rfl dX6_heard_35 h
    · replace h := h.2 c
      refine X_iload_n C dX6_heard_22 rfl (j := 3) rfl ?_
      refine X_iconst C (v := 1) (by decide) dX6_heard_23 ?_
      refine X_sipush C (v := 400) (by decide) dX6_heard_24 ?_
      refine X_callS C dX6_heard_27 pw_RX6_55 (as := [.int a3, .int 1, .int 400]) (S := []) rfl rfl (Nat.le_of_ble_eq_true rfl) (Ct_mono h ?_)
      rintro _ s5 ⟨v6, rfl, h⟩
      show X κ 30 [(0, .ref 0), (1, .int a1), (2, .int a2), (3, .int a3)] [.int v6] s5
      refine X_if_ne C dX6_heard_30 (tgt := 36) (by decide) (fun c => ?_) (fun c => ?_)
      · replace h := h.1 c
        refine X_aload_n C dX6_heard_36 rfl (j := 0) rfl ?_
        refine X_getR C sh_0 rfl fw_RX6_19 dX6_heard_37 ?_
        refine X_iload_n C dX6_heard_40 rfl (j := 1) rfl ?_
        refine X_iload_n C dX6_heard_41 rfl (j := 2) rfl ?_
        refine X_iload_n C dX6_heard_42 rfl (j := 3) rfl ?_
        refine X_callV C dX6_heard_43 pw_RX6_156 (b := 2) (as := [.int a1, .int a2, .int a3]) (S := []) sh_2 rfl rfl rfl (Nat.le_of_ble_eq_true rfl) (Ct_mono h ?_)
        rintro _ s7 ⟨v8, rfl, h⟩
        show X κ 46 [(0, .ref 0), (1, .int a1), (2, .int a2), (3, .int a3)] [.int v8] s7
        exact X_iret C Z rfl dX6_heard_46 h
      · replace h := h.2 c
        refine X_bipush C (v := (-2)) (by decide) dX6_heard_33 ?_
        exact X_iret C Z rfl dX6_heard_35 h
set_option maxHeartbeats 4000000 in
set_option maxRecDepth 100000 in
theorem bX6_clear_42 {κ : xK} {d : Nat} {Q : Option Value → xSt → Prop} (C : Cx κ M_X6_clear (d + 1)) (Z : xR κ Q) (x1 : Int32) (x2 : Int32) (x3 : Int32) (x4 : Int32) (x5 : Int32) (st : xSt) (h : ((x3 < x5 → Q (some (.int x4)) st) ∧ (¬ x3 < x5 → Ct d M_X0_heardAs [.ref 2, .int x1, .int x2, .int x5] st (Qi fun v2 s1 => ((¬ v2 = x5 → X κ 42 [(0, .ref 0), (1, .int x1), (2, .int x2), (3, .int x3), (4, .int x4), (5, .int (x5 + 1))] [] s1) ∧ (v2 = x5 → X κ 42 [(0, .ref 0), (1, .int x1), (2, .int x2), (3, .int x3), (4, .int (x4 + 1)), (5, .int (x5 + 1))] [] s1)))))) : X κ 42 [(0, .ref 0), (1, .int x1), (2, .int x2), (3, .int x3), (4, .int x4), (5, .int x5)] [] st := by
  refine X_iload C dX6_clear_42 (j := 5) rfl ?_
  refine X_iload_n C dX6_clear_44 rfl (j := 3) rfl ?_
  refine X_icmp_gt C dX6_clear_45 (tgt := 73) (by decide) (fun c => ?_) (fun c => ?_)
  · replace h := h.1 c
    refine X_iload C dX6_clear_73 (j := 4) rfl ?_
    exact X_iret C Z rfl dX6_clear_75 h
  · replace h := h.2 c
    refine X_aload_n C dX6_clear_48 rfl (j := 0) rfl ?_
    refine X_getR C sh_0 rfl fw_RX6_19 dX6_clear_49 ?_
    refine X_iload_n C dX6_clear_52 rfl (j := 1) rfl ?_
    refine X_iload_n C dX6_clear_53 rfl (j := 2) rfl ?_
    refine X_iload C dX6_clear_54 (j := 5) rfl ?_
    refine X_callV C dX6_clear_56 pw_RX6_156 (b := 2) (as := [.int x1, .int x2, .int x5]) (S := []) sh_2 rfl rfl rfl (Nat.le_of_ble_eq_true rfl) (Ct_mono h ?_)
    rintro _ s1 ⟨v2, rfl, h⟩
    show X κ 59 [(0, .ref 0), (1, .int x1), (2, .int x2), (3, .int x3), (4, .int x4), (5, .int x5)] [.int v2] s1
    refine X_iload C dX6_clear_59 (j := 5) rfl ?_
    refine X_icmp_ne C dX6_clear_61 (tgt := 67) (by decide) (fun c => ?_) (fun c => ?_)
    · replace h := h.1 c
      refine X_iinc C dX6_clear_67 (j := 5) rfl (v := x5 + 1) rfl (by decide) (L' := [(5, .int (x5 + 1)), (0, .ref 0), (1, .int x1), (2, .int x2), (3, .int x3), (4, .int x4)]) rfl ?_
      refine X_goto C dX6_clear_70 (tgt := 42) (by decide) ?_
      refine X_loc [1, 2, 3, 4, 5, 0] rfl ?_
      exact h
    · replace h := h.2 c
      refine X_iinc C dX6_clear_64 (j := 4) rfl (v := x4 + 1) rfl (by decide) (L' := [(4, .int (x4 + 1)), (0, .ref 0), (1, .int x1), (2, .int x2), (3, .int x3), (5, .int x5)]) rfl ?_
      refine X_iinc C dX6_clear_67 (j := 5) rfl (v := x5 + 1) rfl (by decide) (L' := [(5, .int (x5 + 1)), (4, .int (x4 + 1)), (0, .ref 0), (1, .int x1), (2, .int x2), (3, .int x3)]) rfl ?_
      refine X_goto C dX6_clear_70 (tgt := 42) (by decide) ?_
      refine X_loc [2, 3, 4, 5, 1, 0] rfl ?_
      exact h
set_option maxHeartbeats 4000000 in
set_option maxRecDepth 100000 in
theorem eX6_clear {d : Nat} {Q : Option Value → xSt → Prop} (a1 : Int32) (a2 : Int32) (a3 : Int32) (st : xSt) (h : ∀ κ : xK, Cx κ M_X6_clear (d + 1) → xR κ Q → Ct d M_X0_has [.ref 2, .int a1] st (Qi fun v2 s1 => ((v2 = 0 → Q (some (.int ((-2)))) s1) ∧ (¬ v2 = 0 → Ct d M_X0_has [.ref 2, .int a2] s1 (Qi fun v4 s3 => ((v4 = 0 → Q (some (.int ((-2)))) s3) ∧ (¬ v4 = 0 → Ct d M_X6_within [.int a3, .int 1, .int 400] s3 (Qi fun v6 s5 => ((¬ v6 = 0 → X κ 42 [(0, .ref 0), (1, .int a1), (2, .int a2), (3, .int a3), (4, .int 0), (5, .int 1)] [] s5) ∧ (v6 = 0 → Q (some (.int ((-2)))) s5)))))))))) : Ct (d + 1) M_X6_clear [.ref 0, .int a1, .int a2, .int a3] st Q := by
  refine Ct_of (by decide +kernel) (Nat.le_of_ble_eq_true rfl) (fun κ C Z => ?_)
  replace h := h κ C Z
  show X κ 0 [(0, .ref 0), (1, .int a1), (2, .int a2), (3, .int a3)] [] st
  refine X_aload_n C dX6_clear_0 rfl (j := 0) rfl ?_
  refine X_getR C sh_0 rfl fw_RX6_19 dX6_clear_1 ?_
  refine X_iload_n C dX6_clear_4 rfl (j := 1) rfl ?_
  refine X_callV C dX6_clear_5 pw_RX6_81 (b := 2) (as := [.int a1]) (S := []) sh_2 rfl rfl rfl (Nat.le_of_ble_eq_true rfl) (Ct_mono h ?_)
  rintro _ s1 ⟨v2, rfl, h⟩
  show X κ 8 [(0, .ref 0), (1, .int a1), (2, .int a2), (3, .int a3)] [.int v2] s1
  refine X_if_eq C dX6_clear_8 (tgt := 33) (by decide) (fun c => ?_) (fun c => ?_)
  · replace h := h.1 c
    refine X_bipush C (v := (-2)) (by decide) dX6_clear_33 ?_
    exact X_iret C Z rfl dX6_clear_35 h
  · replace h := h.2 c
    refine X_aload_n C dX6_clear_11 rfl (j := 0) rfl ?_
    refine X_getR C sh_0 rfl fw_RX6_19 dX6_clear_12 ?_
    refine X_iload_n C dX6_clear_15 rfl (j := 2) rfl ?_
    refine X_callV C dX6_clear_16 pw_RX6_81 (b := 2) (as := [.int a2]) (S := []) sh_2 rfl rfl rfl (Nat.le_of_ble_eq_true rfl) (Ct_mono h ?_)
    rintro _ s3 ⟨v4, rfl, h⟩
    show X κ 19 [(0, .ref 0), (1, .int a1), (2, .int a2), (3, .int a3)] [.int v4] s3
    refine X_if_eq C dX6_clear_19 (tgt := 33) (by decide) (fun c => ?_) (fun c => ?_)
    · replace h := h.1 c
      refine X_bipush C (v := (-2)) (by decide) dX6_clear_33 ?_
      exact X_iret C Z rfl dX6_clear_35 h
    · replace h := h.2 c
      refine X_iload_n C dX6_clear_22 rfl (j := 3) rfl ?_
      refine X_iconst C (v := 1) (by decide) dX6_clear_23 ?_
      refine X_sipush C (v := 400) (by decide) dX6_clear_24 ?_
      refine X_callS C dX6_clear_27 pw_RX6_55 (as := [.int a3, .int 1, .int 400]) (S := []) rfl rfl (Nat.le_of_ble_eq_true rfl) (Ct_mono h ?_)
      rintro _ s5 ⟨v6, rfl, h⟩
      show X κ 30 [(0, .ref 0), (1, .int a1), (2, .int a2), (3, .int a3)] [.int v6] s5
      refine X_if_ne C dX6_clear_30 (tgt := 36) (by decide) (fun c => ?_) (fun c => ?_)
      · replace h := h.1 c
        refine X_iconst C (v := 0) (by decide) dX6_clear_36 ?_
        refine X_istore C dX6_clear_37 (by decide) (L' := [(4, .int 0), (0, .ref 0), (1, .int a1), (2, .int a2), (3, .int a3)]) rfl ?_
        refine X_iconst C (v := 1) (by decide) dX6_clear_39 ?_
        refine X_istore C dX6_clear_40 (by decide) (L' := [(5, .int 1), (4, .int 0), (0, .ref 0), (1, .int a1), (2, .int a2), (3, .int a3)]) rfl ?_
        refine X_loc [2, 3, 4, 5, 1, 0] rfl ?_
        exact h
      · replace h := h.2 c
        refine X_bipush C (v := (-2)) (by decide) dX6_clear_33 ?_
        exact X_iret C Z rfl dX6_clear_35 h
set_option maxHeartbeats 4000000 in
set_option maxRecDepth 100000 in
theorem bX6_trap_27 {κ : xK} {d : Nat} {Q : Option Value → xSt → Prop} (C : Cx κ M_X6_trap (d + 1)) (Z : xR κ Q) (x1 : Int32) (x2 : Int32) (x3 : Int32) (st : xSt) (h : ((400 < x3 → Q (some (.int ((-1)))) st) ∧ (¬ 400 < x3 → Ct d M_X0_heardAs [.ref 2, .int x1, .int x2, .int x3] st (Qi fun v2 s1 => ((v2 = ((-1)) → X κ 27 [(0, .ref 0), (1, .int x1), (2, .int x2), (3, .int (x3 + 1))] [] s1) ∧ (¬ v2 = ((-1)) → ((v2 = x3 → X κ 27 [(0, .ref 0), (1, .int x1), (2, .int x2), (3, .int (x3 + 1))] [] s1) ∧ (¬ v2 = x3 → Q (some (.int x3)) s1)))))))) : X κ 27 [(0, .ref 0), (1, .int x1), (2, .int x2), (3, .int x3)] [] st := by
  refine X_iload_n C dX6_trap_27 rfl (j := 3) rfl ?_
  refine X_sipush C (v := 400) (by decide) dX6_trap_28 ?_
  refine X_icmp_gt C dX6_trap_31 (tgt := 66) (by decide) (fun c => ?_) (fun c => ?_)
  · replace h := h.1 c
    refine X_iconst C (v := (-1)) (by decide) dX6_trap_66 ?_
    exact X_iret C Z rfl dX6_trap_67 h
  · replace h := h.2 c
    refine X_aload_n C dX6_trap_34 rfl (j := 0) rfl ?_
    refine X_getR C sh_0 rfl fw_RX6_19 dX6_trap_35 ?_
    refine X_iload_n C dX6_trap_38 rfl (j := 1) rfl ?_
    refine X_iload_n C dX6_trap_39 rfl (j := 2) rfl ?_
    refine X_iload_n C dX6_trap_40 rfl (j := 3) rfl ?_
    refine X_callV C dX6_trap_41 pw_RX6_156 (b := 2) (as := [.int x1, .int x2, .int x3]) (S := []) sh_2 rfl rfl rfl (Nat.le_of_ble_eq_true rfl) (Ct_mono h ?_)
    rintro _ s1 ⟨v2, rfl, h⟩
    show X κ 44 [(0, .ref 0), (1, .int x1), (2, .int x2), (3, .int x3)] [.int v2] s1
    refine X_istore C dX6_trap_44 (by decide) (L' := [(4, .int v2), (0, .ref 0), (1, .int x1), (2, .int x2), (3, .int x3)]) rfl ?_
    refine X_iload C dX6_trap_46 (j := 0) rfl ?_
    refine X_iconst C (v := (-1)) (by decide) dX6_trap_48 ?_
    refine X_icmp_eq C dX6_trap_49 (tgt := 60) (by decide) (fun c => ?_) (fun c => ?_)
    · replace h := h.1 c
      refine X_iinc C dX6_trap_60 (j := 4) rfl (v := x3 + 1) rfl (by decide) (L' := [(3, .int (x3 + 1)), (4, .int v2), (0, .ref 0), (1, .int x1), (2, .int x2)]) rfl ?_
      refine X_goto C dX6_trap_63 (tgt := 27) (by decide) ?_
      refine X_loc [2, 3, 4, 0] rfl ?_
      exact h
    · replace h := h.2 c
      refine X_iload C dX6_trap_52 (j := 0) rfl ?_
      refine X_iload_n C dX6_trap_54 rfl (j := 4) rfl ?_
      refine X_icmp_eq C dX6_trap_55 (tgt := 60) (by decide) (fun c => ?_) (fun c => ?_)
      · replace h := h.1 c
        refine X_iinc C dX6_trap_60 (j := 4) rfl (v := x3 + 1) rfl (by decide) (L' := [(3, .int (x3 + 1)), (4, .int v2), (0, .ref 0), (1, .int x1), (2, .int x2)]) rfl ?_
        refine X_goto C dX6_trap_63 (tgt := 27) (by decide) ?_
        refine X_loc [2, 3, 4, 0] rfl ?_
        exact h
      · replace h := h.2 c
        refine X_iload_n C dX6_trap_58 rfl (j := 4) rfl ?_
        exact X_iret C Z rfl dX6_trap_59 h
set_option maxHeartbeats 4000000 in
set_option maxRecDepth 100000 in
theorem eX6_trap {d : Nat} {Q : Option Value → xSt → Prop} (a1 : Int32) (a2 : Int32) (st : xSt) (h : ∀ κ : xK, Cx κ M_X6_trap (d + 1) → xR κ Q → Ct d M_X0_has [.ref 2, .int a1] st (Qi fun v2 s1 => ((v2 = 0 → Q (some (.int ((-2)))) s1) ∧ (¬ v2 = 0 → Ct d M_X0_has [.ref 2, .int a2] s1 (Qi fun v4 s3 => ((¬ v4 = 0 → X κ 27 [(0, .ref 0), (1, .int a1), (2, .int a2), (3, .int 1)] [] s3) ∧ (v4 = 0 → Q (some (.int ((-2)))) s3))))))) : Ct (d + 1) M_X6_trap [.ref 0, .int a1, .int a2] st Q := by
  refine Ct_of (by decide +kernel) (Nat.le_of_ble_eq_true rfl) (fun κ C Z => ?_)
  replace h := h κ C Z
  show X κ 0 [(0, .ref 0), (1, .int a1), (2, .int a2)] [] st
  refine X_aload_n C dX6_trap_0 rfl (j := 0) rfl ?_
  refine X_getR C sh_0 rfl fw_RX6_19 dX6_trap_1 ?_
  refine X_iload_n C dX6_trap_4 rfl (j := 1) rfl ?_
  refine X_callV C dX6_trap_5 pw_RX6_81 (b := 2) (as := [.int a1]) (S := []) sh_2 rfl rfl rfl (Nat.le_of_ble_eq_true rfl) (Ct_mono h ?_)
  rintro _ s1 ⟨v2, rfl, h⟩
  show X κ 8 [(0, .ref 0), (1, .int a1), (2, .int a2)] [.int v2] s1
  refine X_if_eq C dX6_trap_8 (tgt := 22) (by decide) (fun c => ?_) (fun c => ?_)
  · replace h := h.1 c
    refine X_bipush C (v := (-2)) (by decide) dX6_trap_22 ?_
    exact X_iret C Z rfl dX6_trap_24 h
  · replace h := h.2 c
    refine X_aload_n C dX6_trap_11 rfl (j := 0) rfl ?_
    refine X_getR C sh_0 rfl fw_RX6_19 dX6_trap_12 ?_
    refine X_iload_n C dX6_trap_15 rfl (j := 2) rfl ?_
    refine X_callV C dX6_trap_16 pw_RX6_81 (b := 2) (as := [.int a2]) (S := []) sh_2 rfl rfl rfl (Nat.le_of_ble_eq_true rfl) (Ct_mono h ?_)
    rintro _ s3 ⟨v4, rfl, h⟩
    show X κ 19 [(0, .ref 0), (1, .int a1), (2, .int a2)] [.int v4] s3
    refine X_if_ne C dX6_trap_19 (tgt := 25) (by decide) (fun c => ?_) (fun c => ?_)
    · replace h := h.1 c
      refine X_iconst C (v := 1) (by decide) dX6_trap_25 ?_
      refine X_istore_n C dX6_trap_26 rfl (by decide) (L' := [(3, .int 1), (0, .ref 0), (1, .int a1), (2, .int a2)]) rfl ?_
      refine X_loc [1, 2, 3, 0] rfl ?_
      exact h
    · replace h := h.2 c
      refine X_bipush C (v := (-2)) (by decide) dX6_trap_22 ?_
      exact X_iret C Z rfl dX6_trap_24 h
set_option maxHeartbeats 4000000 in
set_option maxRecDepth 100000 in
theorem eX6_person {d : Nat} {Q : Option Value → xSt → Prop} (a1 : Int32) (st : xSt) (h : Ct d M_X0_has [.ref 2, .int a1] st (Qi fun v2 s1 => ((v2 = 0 → Q (some (.int ((-2)))) s1) ∧ (¬ v2 = 0 → Ct d M_X1_welcome [.ref 4, .int a1] s1 (Qi fun v4 s3 => Q (some (.int v4)) s3))))) : Ct (d + 1) M_X6_person [.ref 0, .int a1] st Q := by
  refine Ct_of (by decide +kernel) (Nat.le_of_ble_eq_true rfl) (fun κ C Z => ?_)
  show X κ 0 [(0, .ref 0), (1, .int a1)] [] st
  refine X_aload_n C dX6_person_0 rfl (j := 0) rfl ?_
  refine X_getR C sh_0 rfl fw_RX6_19 dX6_person_1 ?_
  refine X_iload_n C dX6_person_4 rfl (j := 1) rfl ?_
  refine X_callV C dX6_person_5 pw_RX6_81 (b := 2) (as := [.int a1]) (S := []) sh_2 rfl rfl rfl (Nat.le_of_ble_eq_true rfl) (Ct_mono h ?_)
  rintro _ s1 ⟨v2, rfl, h⟩
  show X κ 8 [(0, .ref 0), (1, .int a1)] [.int v2] s1
  refine X_if_eq C dX6_person_8 (tgt := 22) (by decide) (fun c => ?_) (fun c => ?_)
  · replace h := h.1 c
    refine X_bipush C (v := (-2)) (by decide) dX6_person_22 ?_
    exact X_iret C Z rfl dX6_person_24 h
  · replace h := h.2 c
    refine X_aload_n C dX6_person_11 rfl (j := 0) rfl ?_
    refine X_getR C sh_0 rfl fw_RX6_33 dX6_person_12 ?_
    refine X_iload_n C dX6_person_15 rfl (j := 1) rfl ?_
    refine X_callV C dX6_person_16 pw_RX6_160 (b := 4) (as := [.int a1]) (S := []) sh_4 rfl rfl rfl (Nat.le_of_ble_eq_true rfl) (Ct_mono h ?_)
    rintro _ s3 ⟨v4, rfl, h⟩
    show X κ 19 [(0, .ref 0), (1, .int a1)] [.int v4] s3
    refine X_goto C dX6_person_19 (tgt := 24) (by decide) ?_
    exact X_iret C Z rfl dX6_person_24 h
set_option maxHeartbeats 4000000 in
set_option maxRecDepth 100000 in
theorem eX6_gift {d : Nat} {Q : Option Value → xSt → Prop} (a1 : Int32) (a2 : Int32) (a3 : Int32) (st : xSt) (h : Ct d M_X1_areTwo [.ref 4, .int a1, .int a2] st (Qi fun v2 s1 => ((v2 = 0 → Q (some (.int ((-2)))) s1) ∧ (¬ v2 = 0 → Ct d M_X6_within [.int a3, .int 1, .int 400] s1 (Qi fun v4 s3 => ((¬ v4 = 0 → Ct d M_X1_give [.ref 4, .int a1, .int a2, .int a3] s3 (Qi fun v6 s5 => Q (some (.int v6)) s5)) ∧ (v4 = 0 → Q (some (.int ((-2)))) s3))))))) : Ct (d + 1) M_X6_gift [.ref 0, .int a1, .int a2, .int a3] st Q := by
  refine Ct_of (by decide +kernel) (Nat.le_of_ble_eq_true rfl) (fun κ C Z => ?_)
  show X κ 0 [(0, .ref 0), (1, .int a1), (2, .int a2), (3, .int a3)] [] st
  refine X_aload_n C dX6_gift_0 rfl (j := 0) rfl ?_
  refine X_getR C sh_0 rfl fw_RX6_33 dX6_gift_1 ?_
  refine X_iload_n C dX6_gift_4 rfl (j := 1) rfl ?_
  refine X_iload_n C dX6_gift_5 rfl (j := 2) rfl ?_
  refine X_callV C dX6_gift_6 pw_RX6_163 (b := 4) (as := [.int a1, .int a2]) (S := []) sh_4 rfl rfl rfl (Nat.le_of_ble_eq_true rfl) (Ct_mono h ?_)
  rintro _ s1 ⟨v2, rfl, h⟩
  show X κ 9 [(0, .ref 0), (1, .int a1), (2, .int a2), (3, .int a3)] [.int v2] s1
  refine X_if_eq C dX6_gift_9 (tgt := 23) (by decide) (fun c => ?_) (fun c => ?_)
  · replace h := h.1 c
    refine X_bipush C (v := (-2)) (by decide) dX6_gift_23 ?_
    exact X_iret C Z rfl dX6_gift_25 h
  · replace h := h.2 c
    refine X_iload_n C dX6_gift_12 rfl (j := 3) rfl ?_
    refine X_iconst C (v := 1) (by decide) dX6_gift_13 ?_
    refine X_sipush C (v := 400) (by decide) dX6_gift_14 ?_
    refine X_callS C dX6_gift_17 pw_RX6_55 (as := [.int a3, .int 1, .int 400]) (S := []) rfl rfl (Nat.le_of_ble_eq_true rfl) (Ct_mono h ?_)
    rintro _ s3 ⟨v4, rfl, h⟩
    show X κ 20 [(0, .ref 0), (1, .int a1), (2, .int a2), (3, .int a3)] [.int v4] s3
    refine X_if_ne C dX6_gift_20 (tgt := 26) (by decide) (fun c => ?_) (fun c => ?_)
    · replace h := h.1 c
      refine X_aload_n C dX6_gift_26 rfl (j := 0) rfl ?_
      refine X_getR C sh_0 rfl fw_RX6_33 dX6_gift_27 ?_
      refine X_iload_n C dX6_gift_30 rfl (j := 1) rfl ?_
      refine X_iload_n C dX6_gift_31 rfl (j := 2) rfl ?_
      refine X_iload_n C dX6_gift_32 rfl (j := 3) rfl ?_
      refine X_callV C dX6_gift_33 pw_RX6_166 (b := 4) (as := [.int a1, .int a2, .int a3]) (S := []) sh_4 rfl rfl rfl (Nat.le_of_ble_eq_true rfl) (Ct_mono h ?_)
      rintro _ s5 ⟨v6, rfl, h⟩
      show X κ 36 [(0, .ref 0), (1, .int a1), (2, .int a2), (3, .int a3)] [.int v6] s5
      exact X_iret C Z rfl dX6_gift_36 h
    · replace h := h.2 c
      refine X_bipush C (v := (-2)) (by decide) dX6_gift_23 ?_
      exact X_iret C Z rfl dX6_gift_25 h
set_option maxHeartbeats 4000000 in
set_option maxRecDepth 100000 in
theorem eX6_owed {d : Nat} {Q : Option Value → xSt → Prop} (a1 : Int32) (a2 : Int32) (st : xSt) (h : Ct d M_X1_areTwo [.ref 4, .int a1, .int a2] st (Qi fun v2 s1 => ((v2 = 0 → Q (some (.int ((-2)))) s1) ∧ (¬ v2 = 0 → Ct d M_X1_left [.ref 4, .int a1, .int a2] s1 (Qi fun v4 s3 => Q (some (.int v4)) s3))))) : Ct (d + 1) M_X6_owed [.ref 0, .int a1, .int a2] st Q := by
  refine Ct_of (by decide +kernel) (Nat.le_of_ble_eq_true rfl) (fun κ C Z => ?_)
  show X κ 0 [(0, .ref 0), (1, .int a1), (2, .int a2)] [] st
  refine X_aload_n C dX6_owed_0 rfl (j := 0) rfl ?_
  refine X_getR C sh_0 rfl fw_RX6_33 dX6_owed_1 ?_
  refine X_iload_n C dX6_owed_4 rfl (j := 1) rfl ?_
  refine X_iload_n C dX6_owed_5 rfl (j := 2) rfl ?_
  refine X_callV C dX6_owed_6 pw_RX6_163 (b := 4) (as := [.int a1, .int a2]) (S := []) sh_4 rfl rfl rfl (Nat.le_of_ble_eq_true rfl) (Ct_mono h ?_)
  rintro _ s1 ⟨v2, rfl, h⟩
  show X κ 9 [(0, .ref 0), (1, .int a1), (2, .int a2)] [.int v2] s1
  refine X_if_eq C dX6_owed_9 (tgt := 24) (by decide) (fun c => ?_) (fun c => ?_)
  · replace h := h.1 c
    refine X_bipush C (v := (-2)) (by decide) dX6_owed_24 ?_
    exact X_iret C Z rfl dX6_owed_26 h
  · replace h := h.2 c
    refine X_aload_n C dX6_owed_12 rfl (j := 0) rfl ?_
    refine X_getR C sh_0 rfl fw_RX6_33 dX6_owed_13 ?_
    refine X_iload_n C dX6_owed_16 rfl (j := 1) rfl ?_
    refine X_iload_n C dX6_owed_17 rfl (j := 2) rfl ?_
    refine X_callV C dX6_owed_18 pw_RX6_169 (b := 4) (as := [.int a1, .int a2]) (S := []) sh_4 rfl rfl rfl (Nat.le_of_ble_eq_true rfl) (Ct_mono h ?_)
    rintro _ s3 ⟨v4, rfl, h⟩
    show X κ 21 [(0, .ref 0), (1, .int a1), (2, .int a2)] [.int v4] s3
    refine X_goto C dX6_owed_21 (tgt := 26) (by decide) ?_
    exact X_iret C Z rfl dX6_owed_26 h
set_option maxHeartbeats 4000000 in
set_option maxRecDepth 100000 in
theorem eX6_told {d : Nat} {Q : Option Value → xSt → Prop} (a1 : Int32) (a2 : Int32) (st : xSt) (h : Ct d M_X1_areTwo [.ref 4, .int a1, .int a2] st (Qi fun v2 s1 => ((¬ v2 = 0 → Ct d M_X1_left [.ref 4, .int a1, .int a2] s1 (Qi fun v4 s3 => Ct d M_X1_countOf [.ref 4, .int a2] s3 (Qi fun v6 s5 => ((¬ v4 = 0 → Ct d M_X0_menOf [.ref 2, .int v6, .int v4] s5 (Qi fun v8 s7 => Ct d M_X0_placeOf [.ref 2, .int v6, .int v4] s7 (Qi fun v10 s9 => Q (some (.int ((100 * v8) + v10))) s9))) ∧ (v4 = 0 → Q (some (.int 0)) s5))))) ∧ (v2 = 0 → Q (some (.int ((-2)))) s1)))) : Ct (d + 1) M_X6_told [.ref 0, .int a1, .int a2] st Q := by
  refine Ct_of (by decide +kernel) (Nat.le_of_ble_eq_true rfl) (fun κ C Z => ?_)
  show X κ 0 [(0, .ref 0), (1, .int a1), (2, .int a2)] [] st
  refine X_aload_n C dX6_told_0 rfl (j := 0) rfl ?_
  refine X_getR C sh_0 rfl fw_RX6_33 dX6_told_1 ?_
  refine X_iload_n C dX6_told_4 rfl (j := 1) rfl ?_
  refine X_iload_n C dX6_told_5 rfl (j := 2) rfl ?_
  refine X_callV C dX6_told_6 pw_RX6_163 (b := 4) (as := [.int a1, .int a2]) (S := []) sh_4 rfl rfl rfl (Nat.le_of_ble_eq_true rfl) (Ct_mono h ?_)
  rintro _ s1 ⟨v2, rfl, h⟩
  show X κ 9 [(0, .ref 0), (1, .int a1), (2, .int a2)] [.int v2] s1
  refine X_if_ne C dX6_told_9 (tgt := 15) (by decide) (fun c => ?_) (fun c => ?_)
  · replace h := h.1 c
    refine X_aload_n C dX6_told_15 rfl (j := 0) rfl ?_
    refine X_getR C sh_0 rfl fw_RX6_33 dX6_told_16 ?_
    refine X_iload_n C dX6_told_19 rfl (j := 1) rfl ?_
    refine X_iload_n C dX6_told_20 rfl (j := 2) rfl ?_
    refine X_callV C dX6_told_21 pw_RX6_169 (b := 4) (as := [.int a1, .int a2]) (S := []) sh_4 rfl rfl rfl (Nat.le_of_ble_eq_true rfl) (Ct_mono h ?_)
    rintro _ s3 ⟨v4, rfl, h⟩
    show X κ 24 [(0, .ref 0), (1, .int a1), (2, .int a2)] [.int v4] s3
    refine X_istore_n C dX6_told_24 rfl (by decide) (L' := [(3, .int v4), (0, .ref 0), (1, .int a1), (2, .int a2)]) rfl ?_
    refine X_aload_n C dX6_told_25 rfl (j := 1) rfl ?_
    refine X_getR C sh_0 rfl fw_RX6_33 dX6_told_26 ?_
    refine X_iload_n C dX6_told_29 rfl (j := 3) rfl ?_
    refine X_callV C dX6_told_30 pw_RX6_172 (b := 4) (as := [.int a2]) (S := []) sh_4 rfl rfl rfl (Nat.le_of_ble_eq_true rfl) (Ct_mono h ?_)
    rintro _ s5 ⟨v6, rfl, h⟩
    show X κ 33 [(3, .int v4), (0, .ref 0), (1, .int a1), (2, .int a2)] [.int v6] s5
    refine X_istore C dX6_told_33 (by decide) (L' := [(4, .int v6), (3, .int v4), (0, .ref 0), (1, .int a1), (2, .int a2)]) rfl ?_
    refine X_iload_n C dX6_told_35 rfl (j := 1) rfl ?_
    refine X_if_ne C dX6_told_36 (tgt := 43) (by decide) (fun c => ?_) (fun c => ?_)
    · replace h := h.1 c
      refine X_bipush C (v := 100) (by decide) dX6_told_43 ?_
      refine X_aload_n C dX6_told_45 rfl (j := 2) rfl ?_
      refine X_getR C sh_0 rfl fw_RX6_19 dX6_told_46 ?_
      refine X_iload C dX6_told_49 (j := 0) rfl ?_
      refine X_iload_n C dX6_told_51 rfl (j := 1) rfl ?_
      refine X_callV C dX6_told_52 pw_RX6_112 (b := 2) (as := [.int v6, .int v4]) (S := [.int 100]) sh_2 rfl rfl rfl (Nat.le_of_ble_eq_true rfl) (Ct_mono h ?_)
      rintro _ s7 ⟨v8, rfl, h⟩
      show X κ 55 [(4, .int v6), (3, .int v4), (0, .ref 0), (1, .int a1), (2, .int a2)] [.int v8, .int 100] s7
      refine X_imul C dX6_told_55 ?_
      refine X_aload_n C dX6_told_56 rfl (j := 2) rfl ?_
      refine X_getR C sh_0 rfl fw_RX6_19 dX6_told_57 ?_
      refine X_iload C dX6_told_60 (j := 0) rfl ?_
      refine X_iload_n C dX6_told_62 rfl (j := 1) rfl ?_
      refine X_callV C dX6_told_63 pw_RX6_109 (b := 2) (as := [.int v6, .int v4]) (S := [.int (100 * v8)]) sh_2 rfl rfl rfl (Nat.le_of_ble_eq_true rfl) (Ct_mono h ?_)
      rintro _ s9 ⟨v10, rfl, h⟩
      show X κ 66 [(4, .int v6), (3, .int v4), (0, .ref 0), (1, .int a1), (2, .int a2)] [.int v10, .int (100 * v8)] s9
      refine X_iadd C dX6_told_66 ?_
      exact X_iret C Z rfl dX6_told_67 h
    · replace h := h.2 c
      refine X_iconst C (v := 0) (by decide) dX6_told_39 ?_
      refine X_goto C dX6_told_40 (tgt := 67) (by decide) ?_
      exact X_iret C Z rfl dX6_told_67 h
  · replace h := h.2 c
    refine X_bipush C (v := (-2)) (by decide) dX6_told_12 ?_
    exact X_iret C Z rfl dX6_told_14 h
set_option maxHeartbeats 4000000 in
set_option maxRecDepth 100000 in
theorem eX6_close {d : Nat} {Q : Option Value → xSt → Prop} (st : xSt) (h : Ct d M_X1_closeAll [.ref 4] st (Qi fun v2 s1 => Q (some (.int v2)) s1)) : Ct (d + 1) M_X6_close [.ref 0] st Q := by
  refine Ct_of (by decide +kernel) (Nat.le_of_ble_eq_true rfl) (fun κ C Z => ?_)
  show X κ 0 [(0, .ref 0)] [] st
  refine X_aload_n C dX6_close_0 rfl (j := 0) rfl ?_
  refine X_getR C sh_0 rfl fw_RX6_33 dX6_close_1 ?_
  refine X_callV C dX6_close_4 pw_RX6_175 (b := 4) (as := []) (S := []) sh_4 rfl rfl rfl (Nat.le_of_ble_eq_true rfl) (Ct_mono h ?_)
  rintro _ s1 ⟨v2, rfl, h⟩
  show X κ 7 [(0, .ref 0)] [.int v2] s1
  exact X_iret C Z rfl dX6_close_7 h
set_option maxHeartbeats 4000000 in
set_option maxRecDepth 100000 in
theorem eX6_worth {d : Nat} {Q : Option Value → xSt → Prop} (a1 : Int32) (st : xSt) (h : Ct d M_X1_has [.ref 4, .int a1] st (Qi fun v2 s1 => ((v2 = 0 → Q (some (.int ((-100000)))) s1) ∧ (¬ v2 = 0 → Ct d M_X1_balance [.ref 4, .int a1] s1 (Qi fun v4 s3 => Q (some (.int v4)) s3))))) : Ct (d + 1) M_X6_worth [.ref 0, .int a1] st Q := by
  refine Ct_of (by decide +kernel) (Nat.le_of_ble_eq_true rfl) (fun κ C Z => ?_)
  show X κ 0 [(0, .ref 0), (1, .int a1)] [] st
  refine X_aload_n C dX6_worth_0 rfl (j := 0) rfl ?_
  refine X_getR C sh_0 rfl fw_RX6_33 dX6_worth_1 ?_
  refine X_iload_n C dX6_worth_4 rfl (j := 1) rfl ?_
  refine X_callV C dX6_worth_5 pw_RX6_178 (b := 4) (as := [.int a1]) (S := []) sh_4 rfl rfl rfl (Nat.le_of_ble_eq_true rfl) (Ct_mono h ?_)
  rintro _ s1 ⟨v2, rfl, h⟩
  show X κ 8 [(0, .ref 0), (1, .int a1)] [.int v2] s1
  refine X_if_eq C dX6_worth_8 (tgt := 22) (by decide) (fun c => ?_) (fun c => ?_)
  · replace h := h.1 c
    refine X_ldc C (v := (-100000)) u_667 dX6_worth_22 ?_
    exact X_iret C Z rfl dX6_worth_24 h
  · replace h := h.2 c
    refine X_aload_n C dX6_worth_11 rfl (j := 0) rfl ?_
    refine X_getR C sh_0 rfl fw_RX6_33 dX6_worth_12 ?_
    refine X_iload_n C dX6_worth_15 rfl (j := 1) rfl ?_
    refine X_callV C dX6_worth_16 pw_RX6_179 (b := 4) (as := [.int a1]) (S := []) sh_4 rfl rfl rfl (Nat.le_of_ble_eq_true rfl) (Ct_mono h ?_)
    rintro _ s3 ⟨v4, rfl, h⟩
    show X κ 19 [(0, .ref 0), (1, .int a1)] [.int v4] s3
    refine X_goto C dX6_worth_19 (tgt := 24) (by decide) ?_
    exact X_iret C Z rfl dX6_worth_24 h
set_option maxHeartbeats 4000000 in
set_option maxRecDepth 100000 in
theorem eX6_list {d : Nat} {Q : Option Value → xSt → Prop} (a1 : Int32) (a2 : Int32) (a3 : Int32) (st : xSt) (h : Ct d M_X4_named [.ref 1, .int a1] st (Qi fun v2 s1 => ((v2 = 0 → Q (some (.int ((-2)))) s1) ∧ (¬ v2 = 0 → Ct d M_X6_within [.int a2, .int 0, .int 30] s1 (Qi fun v4 s3 => ((v4 = 0 → Q (some (.int ((-2)))) s3) ∧ (¬ v4 = 0 → Ct d M_X6_within [.int a3, .int 0, .int 3000] s3 (Qi fun v6 s5 => ((¬ v6 = 0 → Ct d M_X4_lost [.ref 1, .int a1] s5 (Qi fun v8 s7 => ((v8 = 0 → Ct d M_X4_sizeOf [.ref 1, .int a1] s7 (Qi fun v10 s9 => ((a2 ≤ v10 → Ct d M_X2_isFull [.ref 5] s9 (Qi fun v12 s11 => ((v12 = 0 → Ct d M_X2_keep [.ref 5, .ref 1, .int a1, .int a2, .int a3] s11 (Qi fun v14 s13 => Q (some (.int v14)) s13)) ∧ (¬ v12 = 0 → Q (some (.int ((-4)))) s11)))) ∧ (¬ a2 ≤ v10 → Ct d M_X4_find [.ref 1, .int 2] s9 (Qi fun v16 s15 => Q (some (.int v16)) s15))))) ∧ (¬ v8 = 0 → Ct d M_X4_find [.ref 1, .int 1] s7 (Qi fun v18 s17 => Q (some (.int v18)) s17))))) ∧ (v6 = 0 → Q (some (.int ((-2)))) s5)))))))))) : Ct (d + 1) M_X6_list [.ref 0, .int a1, .int a2, .int a3] st Q := by
  refine Ct_of (by decide +kernel) (Nat.le_of_ble_eq_true rfl) (fun κ C Z => ?_)
  show X κ 0 [(0, .ref 0), (1, .int a1), (2, .int a2), (3, .int a3)] [] st
  refine X_aload_n C dX6_list_0 rfl (j := 0) rfl ?_
  refine X_getR C sh_0 rfl fw_RX6_10 dX6_list_1 ?_
  refine X_iload_n C dX6_list_4 rfl (j := 1) rfl ?_
  refine X_callV C dX6_list_5 pw_RX6_51 (b := 1) (as := [.int a1]) (S := []) sh_1 rfl rfl rfl (Nat.le_of_ble_eq_true rfl) (Ct_mono h ?_)
  rintro _ s1 ⟨v2, rfl, h⟩
  show X κ 8 [(0, .ref 0), (1, .int a1), (2, .int a2), (3, .int a3)] [.int v2] s1
  refine X_if_eq C dX6_list_8 (tgt := 32) (by decide) (fun c => ?_) (fun c => ?_)
  · replace h := h.1 c
    refine X_bipush C (v := (-2)) (by decide) dX6_list_32 ?_
    exact X_iret C Z rfl dX6_list_34 h
  · replace h := h.2 c
    refine X_iload_n C dX6_list_11 rfl (j := 2) rfl ?_
    refine X_iconst C (v := 0) (by decide) dX6_list_12 ?_
    refine X_bipush C (v := 30) (by decide) dX6_list_13 ?_
    refine X_callS C dX6_list_15 pw_RX6_55 (as := [.int a2, .int 0, .int 30]) (S := []) rfl rfl (Nat.le_of_ble_eq_true rfl) (Ct_mono h ?_)
    rintro _ s3 ⟨v4, rfl, h⟩
    show X κ 18 [(0, .ref 0), (1, .int a1), (2, .int a2), (3, .int a3)] [.int v4] s3
    refine X_if_eq C dX6_list_18 (tgt := 32) (by decide) (fun c => ?_) (fun c => ?_)
    · replace h := h.1 c
      refine X_bipush C (v := (-2)) (by decide) dX6_list_32 ?_
      exact X_iret C Z rfl dX6_list_34 h
    · replace h := h.2 c
      refine X_iload_n C dX6_list_21 rfl (j := 3) rfl ?_
      refine X_iconst C (v := 0) (by decide) dX6_list_22 ?_
      refine X_sipush C (v := 3000) (by decide) dX6_list_23 ?_
      refine X_callS C dX6_list_26 pw_RX6_55 (as := [.int a3, .int 0, .int 3000]) (S := []) rfl rfl (Nat.le_of_ble_eq_true rfl) (Ct_mono h ?_)
      rintro _ s5 ⟨v6, rfl, h⟩
      show X κ 29 [(0, .ref 0), (1, .int a1), (2, .int a2), (3, .int a3)] [.int v6] s5
      refine X_if_ne C dX6_list_29 (tgt := 35) (by decide) (fun c => ?_) (fun c => ?_)
      · replace h := h.1 c
        refine X_aload_n C dX6_list_35 rfl (j := 0) rfl ?_
        refine X_getR C sh_0 rfl fw_RX6_10 dX6_list_36 ?_
        refine X_iload_n C dX6_list_39 rfl (j := 1) rfl ?_
        refine X_callV C dX6_list_40 pw_RX6_59 (b := 1) (as := [.int a1]) (S := []) sh_1 rfl rfl rfl (Nat.le_of_ble_eq_true rfl) (Ct_mono h ?_)
        rintro _ s7 ⟨v8, rfl, h⟩
        show X κ 43 [(0, .ref 0), (1, .int a1), (2, .int a2), (3, .int a3)] [.int v8] s7
        refine X_if_eq C dX6_list_43 (tgt := 55) (by decide) (fun c => ?_) (fun c => ?_)
        · replace h := h.1 c
          refine X_iload_n C dX6_list_55 rfl (j := 2) rfl ?_
          refine X_aload_n C dX6_list_56 rfl (j := 0) rfl ?_
          refine X_getR C sh_0 rfl fw_RX6_10 dX6_list_57 ?_
          refine X_iload_n C dX6_list_60 rfl (j := 1) rfl ?_
          refine X_callV C dX6_list_61 pw_RX6_66 (b := 1) (as := [.int a1]) (S := [.int a2]) sh_1 rfl rfl rfl (Nat.le_of_ble_eq_true rfl) (Ct_mono h ?_)
          rintro _ s9 ⟨v10, rfl, h⟩
          show X κ 64 [(0, .ref 0), (1, .int a1), (2, .int a2), (3, .int a3)] [.int v10, .int a2] s9
          refine X_icmp_le C dX6_list_64 (tgt := 76) (by decide) (fun c => ?_) (fun c => ?_)
          · replace h := h.1 c
            refine X_aload_n C dX6_list_76 rfl (j := 0) rfl ?_
            refine X_getR C sh_0 rfl fw_RX6_40 dX6_list_77 ?_
            refine X_callV C dX6_list_80 pw_RX6_183 (b := 5) (as := []) (S := []) sh_5 rfl rfl rfl (Nat.le_of_ble_eq_true rfl) (Ct_mono h ?_)
            rintro _ s11 ⟨v12, rfl, h⟩
            show X κ 83 [(0, .ref 0), (1, .int a1), (2, .int a2), (3, .int a3)] [.int v12] s11
            refine X_if_eq C dX6_list_83 (tgt := 91) (by decide) (fun c => ?_) (fun c => ?_)
            · replace h := h.1 c
              refine X_aload_n C dX6_list_91 rfl (j := 0) rfl ?_
              refine X_getR C sh_0 rfl fw_RX6_40 dX6_list_92 ?_
              refine X_aload_n C dX6_list_95 rfl (j := 0) rfl ?_
              refine X_getR C sh_0 rfl fw_RX6_10 dX6_list_96 ?_
              refine X_iload_n C dX6_list_99 rfl (j := 1) rfl ?_
              refine X_iload_n C dX6_list_100 rfl (j := 2) rfl ?_
              refine X_iload_n C dX6_list_101 rfl (j := 3) rfl ?_
              refine X_callV C dX6_list_102 pw_RX6_184 (b := 5) (as := [.ref 1, .int a1, .int a2, .int a3]) (S := []) sh_5 rfl rfl rfl (Nat.le_of_ble_eq_true rfl) (Ct_mono h ?_)
              rintro _ s13 ⟨v14, rfl, h⟩
              show X κ 105 [(0, .ref 0), (1, .int a1), (2, .int a2), (3, .int a3)] [.int v14] s13
              exact X_iret C Z rfl dX6_list_105 h
            · replace h := h.2 c
              refine X_bipush C (v := (-4)) (by decide) dX6_list_86 ?_
              refine X_goto C dX6_list_88 (tgt := 105) (by decide) ?_
              exact X_iret C Z rfl dX6_list_105 h
          · replace h := h.2 c
            refine X_aload_n C dX6_list_67 rfl (j := 0) rfl ?_
            refine X_getR C sh_0 rfl fw_RX6_10 dX6_list_68 ?_
            refine X_iconst C (v := 2) (by decide) dX6_list_71 ?_
            refine X_callV C dX6_list_72 pw_RX6_62 (b := 1) (as := [.int 2]) (S := []) sh_1 rfl rfl rfl (Nat.le_of_ble_eq_true rfl) (Ct_mono h ?_)
            rintro _ s15 ⟨v16, rfl, h⟩
            show X κ 75 [(0, .ref 0), (1, .int a1), (2, .int a2), (3, .int a3)] [.int v16] s15
            exact X_iret C Z rfl dX6_list_75 h
        · replace h := h.2 c
          refine X_aload_n C dX6_list_46 rfl (j := 0) rfl ?_
          refine X_getR C sh_0 rfl fw_RX6_10 dX6_list_47 ?_
          refine X_iconst C (v := 1) (by decide) dX6_list_50 ?_
          refine X_callV C dX6_list_51 pw_RX6_62 (b := 1) (as := [.int 1]) (S := []) sh_1 rfl rfl rfl (Nat.le_of_ble_eq_true rfl) (Ct_mono h ?_)
          rintro _ s17 ⟨v18, rfl, h⟩
          show X κ 54 [(0, .ref 0), (1, .int a1), (2, .int a2), (3, .int a3)] [.int v18] s17
          exact X_iret C Z rfl dX6_list_54 h
      · replace h := h.2 c
        refine X_bipush C (v := (-2)) (by decide) dX6_list_32 ?_
        exact X_iret C Z rfl dX6_list_34 h
set_option maxHeartbeats 4000000 in
set_option maxRecDepth 100000 in
theorem eX6_word {d : Nat} {Q : Option Value → xSt → Prop} (a1 : Int32) (a2 : Int32) (st : xSt) (h : Ct d M_X2_has [.ref 5, .int a1] st (Qi fun v2 s1 => ((v2 = 0 → Q (some (.int ((-2)))) s1) ∧ (¬ v2 = 0 → Ct d M_X2_lengthOf [.ref 5, .int a1] s1 (Qi fun v4 s3 => Ct d M_X6_within [.int a2, .int 0, .int (v4 - 1)] s3 (Qi fun v6 s5 => ((¬ v6 = 0 → Ct d M_X2_item [.ref 5, .int a1, .int a2] s5 (Qi fun v8 s7 => Q (some (.int v8)) s7)) ∧ (v6 = 0 → Q (some (.int ((-2)))) s5)))))))) : Ct (d + 1) M_X6_word [.ref 0, .int a1, .int a2] st Q := by
  refine Ct_of (by decide +kernel) (Nat.le_of_ble_eq_true rfl) (fun κ C Z => ?_)
  show X κ 0 [(0, .ref 0), (1, .int a1), (2, .int a2)] [] st
  refine X_aload_n C dX6_word_0 rfl (j := 0) rfl ?_
  refine X_getR C sh_0 rfl fw_RX6_40 dX6_word_1 ?_
  refine X_iload_n C dX6_word_4 rfl (j := 1) rfl ?_
  refine X_callV C dX6_word_5 pw_RX6_188 (b := 5) (as := [.int a1]) (S := []) sh_5 rfl rfl rfl (Nat.le_of_ble_eq_true rfl) (Ct_mono h ?_)
  rintro _ s1 ⟨v2, rfl, h⟩
  show X κ 8 [(0, .ref 0), (1, .int a1), (2, .int a2)] [.int v2] s1
  refine X_if_eq C dX6_word_8 (tgt := 29) (by decide) (fun c => ?_) (fun c => ?_)
  · replace h := h.1 c
    refine X_bipush C (v := (-2)) (by decide) dX6_word_29 ?_
    exact X_iret C Z rfl dX6_word_31 h
  · replace h := h.2 c
    refine X_iload_n C dX6_word_11 rfl (j := 2) rfl ?_
    refine X_iconst C (v := 0) (by decide) dX6_word_12 ?_
    refine X_aload_n C dX6_word_13 rfl (j := 0) rfl ?_
    refine X_getR C sh_0 rfl fw_RX6_40 dX6_word_14 ?_
    refine X_iload_n C dX6_word_17 rfl (j := 1) rfl ?_
    refine X_callV C dX6_word_18 pw_RX6_189 (b := 5) (as := [.int a1]) (S := [.int 0, .int a2]) sh_5 rfl rfl rfl (Nat.le_of_ble_eq_true rfl) (Ct_mono h ?_)
    rintro _ s3 ⟨v4, rfl, h⟩
    show X κ 21 [(0, .ref 0), (1, .int a1), (2, .int a2)] [.int v4, .int 0, .int a2] s3
    refine X_iconst C (v := 1) (by decide) dX6_word_21 ?_
    refine X_isub C dX6_word_22 ?_
    refine X_callS C dX6_word_23 pw_RX6_55 (as := [.int a2, .int 0, .int (v4 - 1)]) (S := []) rfl rfl (Nat.le_of_ble_eq_true rfl) (Ct_mono h ?_)
    rintro _ s5 ⟨v6, rfl, h⟩
    show X κ 26 [(0, .ref 0), (1, .int a1), (2, .int a2)] [.int v6] s5
    refine X_if_ne C dX6_word_26 (tgt := 32) (by decide) (fun c => ?_) (fun c => ?_)
    · replace h := h.1 c
      refine X_aload_n C dX6_word_32 rfl (j := 0) rfl ?_
      refine X_getR C sh_0 rfl fw_RX6_40 dX6_word_33 ?_
      refine X_iload_n C dX6_word_36 rfl (j := 1) rfl ?_
      refine X_iload_n C dX6_word_37 rfl (j := 2) rfl ?_
      refine X_callV C dX6_word_38 pw_RX6_192 (b := 5) (as := [.int a1, .int a2]) (S := []) sh_5 rfl rfl rfl (Nat.le_of_ble_eq_true rfl) (Ct_mono h ?_)
      rintro _ s7 ⟨v8, rfl, h⟩
      show X κ 41 [(0, .ref 0), (1, .int a1), (2, .int a2)] [.int v8] s7
      exact X_iret C Z rfl dX6_word_41 h
    · replace h := h.2 c
      refine X_bipush C (v := (-2)) (by decide) dX6_word_29 ?_
      exact X_iret C Z rfl dX6_word_31 h
set_option maxHeartbeats 4000000 in
set_option maxRecDepth 100000 in
theorem eX6_listIs {d : Nat} {Q : Option Value → xSt → Prop} (a1 : Int32) (a2 : Int32) (st : xSt) (h : Ct d M_X2_has [.ref 5, .int a1] st (Qi fun v2 s1 => ((¬ v2 = 0 → (((a2 : Int32).toInt < 0 ∨ 4 < (a2 : Int32).toInt → Q (some (.int ((-2)))) s1) ∧ ((a2 : Int32).toInt = 0 → Ct d M_X2_lengthOf [.ref 5, .int a1] s1 (Qi fun v4 s3 => Q (some (.int v4)) s3)) ∧ ((a2 : Int32).toInt = 1 → Ct d M_X2_yearOf [.ref 5, .int a1] s1 (Qi fun v6 s5 => Q (some (.int v6)) s5)) ∧ ((a2 : Int32).toInt = 2 → Ct d M_X2_gaps [.ref 5, .int a1] s1 (Qi fun v8 s7 => Q (some (.int v8)) s7)) ∧ ((a2 : Int32).toInt = 3 → Ct d M_X2_ofTens [.ref 5, .int a1] s1 (Qi fun v10 s9 => Q (some (.int v10)) s9)) ∧ ((a2 : Int32).toInt = 4 → Ct d M_X2_isShopped [.ref 5, .int a1] s1 (Qi fun v12 s11 => ((v12 = 0 → Q (some (.int 0)) s11) ∧ (¬ v12 = 0 → Q (some (.int 1)) s11)))))) ∧ (v2 = 0 → Q (some (.int ((-2)))) s1)))) : Ct (d + 1) M_X6_listIs [.ref 0, .int a1, .int a2] st Q := by
  refine Ct_of (by decide +kernel) (Nat.le_of_ble_eq_true rfl) (fun κ C Z => ?_)
  show X κ 0 [(0, .ref 0), (1, .int a1), (2, .int a2)] [] st
  refine X_aload_n C dX6_listIs_0 rfl (j := 0) rfl ?_
  refine X_getR C sh_0 rfl fw_RX6_40 dX6_listIs_1 ?_
  refine X_iload_n C dX6_listIs_4 rfl (j := 1) rfl ?_
  refine X_callV C dX6_listIs_5 pw_RX6_188 (b := 5) (as := [.int a1]) (S := []) sh_5 rfl rfl rfl (Nat.le_of_ble_eq_true rfl) (Ct_mono h ?_)
  rintro _ s1 ⟨v2, rfl, h⟩
  show X κ 8 [(0, .ref 0), (1, .int a1), (2, .int a2)] [.int v2] s1
  refine X_if_ne C dX6_listIs_8 (tgt := 14) (by decide) (fun c => ?_) (fun c => ?_)
  · replace h := h.1 c
    refine X_iload_n C dX6_listIs_14 rfl (j := 2) rfl ?_
    have hc : ((a2 : Int32).toInt < 0 ∨ 4 < (a2 : Int32).toInt) ∨ (a2 : Int32).toInt = 0 ∨ (a2 : Int32).toInt = 1 ∨ (a2 : Int32).toInt = 2 ∨ (a2 : Int32).toInt = 3 ∨ (a2 : Int32).toInt = 4 := by omega
    rcases hc with c | c | c | c | c | c
    · replace h := h.1 c
      refine X_tableOut C dX6_listIs_15 c (tgt := 101) (by decide) ?_
      refine X_bipush C (v := (-2)) (by decide) dX6_listIs_101 ?_
      exact X_iret C Z rfl dX6_listIs_103 h
    · replace h := h.2.1 c
      refine X_tableIn C dX6_listIs_15 (by omega) (by omega) (off := 33) (by rw [c]; rfl) (tgt := 48) (by decide) ?_
      refine X_aload_n C dX6_listIs_48 rfl (j := 0) rfl ?_
      refine X_getR C sh_0 rfl fw_RX6_40 dX6_listIs_49 ?_
      refine X_iload_n C dX6_listIs_52 rfl (j := 1) rfl ?_
      refine X_callV C dX6_listIs_53 pw_RX6_189 (b := 5) (as := [.int a1]) (S := []) sh_5 rfl rfl rfl (Nat.le_of_ble_eq_true rfl) (Ct_mono h ?_)
      rintro _ s3 ⟨v4, rfl, h⟩
      show X κ 56 [(0, .ref 0), (1, .int a1), (2, .int a2)] [.int v4] s3
      exact X_iret C Z rfl dX6_listIs_56 h
    · replace h := h.2.2.1 c
      refine X_tableIn C dX6_listIs_15 (by omega) (by omega) (off := 42) (by rw [c]; rfl) (tgt := 57) (by decide) ?_
      refine X_aload_n C dX6_listIs_57 rfl (j := 0) rfl ?_
      refine X_getR C sh_0 rfl fw_RX6_40 dX6_listIs_58 ?_
      refine X_iload_n C dX6_listIs_61 rfl (j := 1) rfl ?_
      refine X_callV C dX6_listIs_62 pw_RX6_195 (b := 5) (as := [.int a1]) (S := []) sh_5 rfl rfl rfl (Nat.le_of_ble_eq_true rfl) (Ct_mono h ?_)
      rintro _ s5 ⟨v6, rfl, h⟩
      show X κ 65 [(0, .ref 0), (1, .int a1), (2, .int a2)] [.int v6] s5
      exact X_iret C Z rfl dX6_listIs_65 h
    · replace h := h.2.2.2.1 c
      refine X_tableIn C dX6_listIs_15 (by omega) (by omega) (off := 51) (by rw [c]; rfl) (tgt := 66) (by decide) ?_
      refine X_aload_n C dX6_listIs_66 rfl (j := 0) rfl ?_
      refine X_getR C sh_0 rfl fw_RX6_40 dX6_listIs_67 ?_
      refine X_iload_n C dX6_listIs_70 rfl (j := 1) rfl ?_
      refine X_callV C dX6_listIs_71 pw_RX6_198 (b := 5) (as := [.int a1]) (S := []) sh_5 rfl rfl rfl (Nat.le_of_ble_eq_true rfl) (Ct_mono h ?_)
      rintro _ s7 ⟨v8, rfl, h⟩
      show X κ 74 [(0, .ref 0), (1, .int a1), (2, .int a2)] [.int v8] s7
      exact X_iret C Z rfl dX6_listIs_74 h
    · replace h := h.2.2.2.2.1 c
      refine X_tableIn C dX6_listIs_15 (by omega) (by omega) (off := 60) (by rw [c]; rfl) (tgt := 75) (by decide) ?_
      refine X_aload_n C dX6_listIs_75 rfl (j := 0) rfl ?_
      refine X_getR C sh_0 rfl fw_RX6_40 dX6_listIs_76 ?_
      refine X_iload_n C dX6_listIs_79 rfl (j := 1) rfl ?_
      refine X_callV C dX6_listIs_80 pw_RX6_201 (b := 5) (as := [.int a1]) (S := []) sh_5 rfl rfl rfl (Nat.le_of_ble_eq_true rfl) (Ct_mono h ?_)
      rintro _ s9 ⟨v10, rfl, h⟩
      show X κ 83 [(0, .ref 0), (1, .int a1), (2, .int a2)] [.int v10] s9
      exact X_iret C Z rfl dX6_listIs_83 h
    · replace h := h.2.2.2.2.2 c
      refine X_tableIn C dX6_listIs_15 (by omega) (by omega) (off := 69) (by rw [c]; rfl) (tgt := 84) (by decide) ?_
      refine X_aload_n C dX6_listIs_84 rfl (j := 0) rfl ?_
      refine X_getR C sh_0 rfl fw_RX6_40 dX6_listIs_85 ?_
      refine X_iload_n C dX6_listIs_88 rfl (j := 1) rfl ?_
      refine X_callV C dX6_listIs_89 pw_RX6_204 (b := 5) (as := [.int a1]) (S := []) sh_5 rfl rfl rfl (Nat.le_of_ble_eq_true rfl) (Ct_mono h ?_)
      rintro _ s11 ⟨v12, rfl, h⟩
      show X κ 92 [(0, .ref 0), (1, .int a1), (2, .int a2)] [.int v12] s11
      refine X_if_eq C dX6_listIs_92 (tgt := 99) (by decide) (fun c => ?_) (fun c => ?_)
      · replace h := h.1 c
        refine X_iconst C (v := 0) (by decide) dX6_listIs_99 ?_
        exact X_iret C Z rfl dX6_listIs_100 h
      · replace h := h.2 c
        refine X_iconst C (v := 1) (by decide) dX6_listIs_95 ?_
        refine X_goto C dX6_listIs_96 (tgt := 100) (by decide) ?_
        exact X_iret C Z rfl dX6_listIs_100 h
  · replace h := h.2 c
    refine X_bipush C (v := (-2)) (by decide) dX6_listIs_11 ?_
    exact X_iret C Z rfl dX6_listIs_13 h
set_option maxHeartbeats 4000000 in
set_option maxRecDepth 100000 in
theorem eX6_changes {d : Nat} {Q : Option Value → xSt → Prop} (a1 : Int32) (a2 : Int32) (st : xSt) (h : Ct d M_X2_has [.ref 5, .int a1] st (Qi fun v2 s1 => ((v2 = 0 → Q (some (.int ((-2)))) s1) ∧ (¬ v2 = 0 → Ct d M_X2_has [.ref 5, .int a2] s1 (Qi fun v4 s3 => ((v4 = 0 → Q (some (.int ((-2)))) s3) ∧ (¬ v4 = 0 → Ct d M_X2_distance [.ref 5, .int a1, .int a2] s3 (Qi fun v6 s5 => Q (some (.int v6)) s5)))))))) : Ct (d + 1) M_X6_changes [.ref 0, .int a1, .int a2] st Q := by
  refine Ct_of (by decide +kernel) (Nat.le_of_ble_eq_true rfl) (fun κ C Z => ?_)
  show X κ 0 [(0, .ref 0), (1, .int a1), (2, .int a2)] [] st
  refine X_aload_n C dX6_changes_0 rfl (j := 0) rfl ?_
  refine X_getR C sh_0 rfl fw_RX6_40 dX6_changes_1 ?_
  refine X_iload_n C dX6_changes_4 rfl (j := 1) rfl ?_
  refine X_callV C dX6_changes_5 pw_RX6_188 (b := 5) (as := [.int a1]) (S := []) sh_5 rfl rfl rfl (Nat.le_of_ble_eq_true rfl) (Ct_mono h ?_)
  rintro _ s1 ⟨v2, rfl, h⟩
  show X κ 8 [(0, .ref 0), (1, .int a1), (2, .int a2)] [.int v2] s1
  refine X_if_eq C dX6_changes_8 (tgt := 34) (by decide) (fun c => ?_) (fun c => ?_)
  · replace h := h.1 c
    refine X_bipush C (v := (-2)) (by decide) dX6_changes_34 ?_
    exact X_iret C Z rfl dX6_changes_36 h
  · replace h := h.2 c
    refine X_aload_n C dX6_changes_11 rfl (j := 0) rfl ?_
    refine X_getR C sh_0 rfl fw_RX6_40 dX6_changes_12 ?_
    refine X_iload_n C dX6_changes_15 rfl (j := 2) rfl ?_
    refine X_callV C dX6_changes_16 pw_RX6_188 (b := 5) (as := [.int a2]) (S := []) sh_5 rfl rfl rfl (Nat.le_of_ble_eq_true rfl) (Ct_mono h ?_)
    rintro _ s3 ⟨v4, rfl, h⟩
    show X κ 19 [(0, .ref 0), (1, .int a1), (2, .int a2)] [.int v4] s3
    refine X_if_eq C dX6_changes_19 (tgt := 34) (by decide) (fun c => ?_) (fun c => ?_)
    · replace h := h.1 c
      refine X_bipush C (v := (-2)) (by decide) dX6_changes_34 ?_
      exact X_iret C Z rfl dX6_changes_36 h
    · replace h := h.2 c
      refine X_aload_n C dX6_changes_22 rfl (j := 0) rfl ?_
      refine X_getR C sh_0 rfl fw_RX6_40 dX6_changes_23 ?_
      refine X_iload_n C dX6_changes_26 rfl (j := 1) rfl ?_
      refine X_iload_n C dX6_changes_27 rfl (j := 2) rfl ?_
      refine X_callV C dX6_changes_28 pw_RX6_207 (b := 5) (as := [.int a1, .int a2]) (S := []) sh_5 rfl rfl rfl (Nat.le_of_ble_eq_true rfl) (Ct_mono h ?_)
      rintro _ s5 ⟨v6, rfl, h⟩
      show X κ 31 [(0, .ref 0), (1, .int a1), (2, .int a2)] [.int v6] s5
      refine X_goto C dX6_changes_31 (tgt := 36) (by decide) ?_
      exact X_iret C Z rfl dX6_changes_36 h
set_option maxHeartbeats 4000000 in
set_option maxRecDepth 100000 in
theorem eX6_mother {d : Nat} {Q : Option Value → xSt → Prop} (a1 : Int32) (st : xSt) (h : Ct d M_X2_has [.ref 5, .int a1] st (Qi fun v2 s1 => ((v2 = 0 → Q (some (.int ((-2)))) s1) ∧ (¬ v2 = 0 → Ct d M_X2_motherOf [.ref 5, .int a1] s1 (Qi fun v4 s3 => Q (some (.int v4)) s3))))) : Ct (d + 1) M_X6_mother [.ref 0, .int a1] st Q := by
  refine Ct_of (by decide +kernel) (Nat.le_of_ble_eq_true rfl) (fun κ C Z => ?_)
  show X κ 0 [(0, .ref 0), (1, .int a1)] [] st
  refine X_aload_n C dX6_mother_0 rfl (j := 0) rfl ?_
  refine X_getR C sh_0 rfl fw_RX6_40 dX6_mother_1 ?_
  refine X_iload_n C dX6_mother_4 rfl (j := 1) rfl ?_
  refine X_callV C dX6_mother_5 pw_RX6_188 (b := 5) (as := [.int a1]) (S := []) sh_5 rfl rfl rfl (Nat.le_of_ble_eq_true rfl) (Ct_mono h ?_)
  rintro _ s1 ⟨v2, rfl, h⟩
  show X κ 8 [(0, .ref 0), (1, .int a1)] [.int v2] s1
  refine X_if_eq C dX6_mother_8 (tgt := 22) (by decide) (fun c => ?_) (fun c => ?_)
  · replace h := h.1 c
    refine X_bipush C (v := (-2)) (by decide) dX6_mother_22 ?_
    exact X_iret C Z rfl dX6_mother_24 h
  · replace h := h.2 c
    refine X_aload_n C dX6_mother_11 rfl (j := 0) rfl ?_
    refine X_getR C sh_0 rfl fw_RX6_40 dX6_mother_12 ?_
    refine X_iload_n C dX6_mother_15 rfl (j := 1) rfl ?_
    refine X_callV C dX6_mother_16 pw_RX6_210 (b := 5) (as := [.int a1]) (S := []) sh_5 rfl rfl rfl (Nat.le_of_ble_eq_true rfl) (Ct_mono h ?_)
    rintro _ s3 ⟨v4, rfl, h⟩
    show X κ 19 [(0, .ref 0), (1, .int a1)] [.int v4] s3
    refine X_goto C dX6_mother_19 (tgt := 24) (by decide) ?_
    exact X_iret C Z rfl dX6_mother_24 h
set_option maxHeartbeats 4000000 in
set_option maxRecDepth 100000 in
theorem eX6_mothers {d : Nat} {Q : Option Value → xSt → Prop} (a1 : Int32) (st : xSt) (h : Ct d M_X2_has [.ref 5, .int a1] st (Qi fun v2 s1 => ((v2 = 0 → Q (some (.int ((-2)))) s1) ∧ (¬ v2 = 0 → Ct d M_X2_twoMothers [.ref 5, .int a1] s1 (Qi fun v4 s3 => Q (some (.int v4)) s3))))) : Ct (d + 1) M_X6_mothers [.ref 0, .int a1] st Q := by
  refine Ct_of (by decide +kernel) (Nat.le_of_ble_eq_true rfl) (fun κ C Z => ?_)
  show X κ 0 [(0, .ref 0), (1, .int a1)] [] st
  refine X_aload_n C dX6_mothers_0 rfl (j := 0) rfl ?_
  refine X_getR C sh_0 rfl fw_RX6_40 dX6_mothers_1 ?_
  refine X_iload_n C dX6_mothers_4 rfl (j := 1) rfl ?_
  refine X_callV C dX6_mothers_5 pw_RX6_188 (b := 5) (as := [.int a1]) (S := []) sh_5 rfl rfl rfl (Nat.le_of_ble_eq_true rfl) (Ct_mono h ?_)
  rintro _ s1 ⟨v2, rfl, h⟩
  show X κ 8 [(0, .ref 0), (1, .int a1)] [.int v2] s1
  refine X_if_eq C dX6_mothers_8 (tgt := 22) (by decide) (fun c => ?_) (fun c => ?_)
  · replace h := h.1 c
    refine X_bipush C (v := (-2)) (by decide) dX6_mothers_22 ?_
    exact X_iret C Z rfl dX6_mothers_24 h
  · replace h := h.2 c
    refine X_aload_n C dX6_mothers_11 rfl (j := 0) rfl ?_
    refine X_getR C sh_0 rfl fw_RX6_40 dX6_mothers_12 ?_
    refine X_iload_n C dX6_mothers_15 rfl (j := 1) rfl ?_
    refine X_callV C dX6_mothers_16 pw_RX6_213 (b := 5) (as := [.int a1]) (S := []) sh_5 rfl rfl rfl (Nat.le_of_ble_eq_true rfl) (Ct_mono h ?_)
    rintro _ s3 ⟨v4, rfl, h⟩
    show X κ 19 [(0, .ref 0), (1, .int a1)] [.int v4] s3
    refine X_goto C dX6_mothers_19 (tgt := 24) (by decide) ?_
    exact X_iret C Z rfl dX6_mothers_24 h
set_option maxHeartbeats 4000000 in
set_option maxRecDepth 100000 in
theorem eX6_strange {d : Nat} {Q : Option Value → xSt → Prop} (a1 : Int32) (st : xSt) (h : Ct d M_X2_has [.ref 5, .int a1] st (Qi fun v2 s1 => ((¬ v2 = 0 → Ct d M_X2_twoMothers [.ref 5, .int a1] s1 (Qi fun v4 s3 => ((¬ v4 = ((-1)) → Ct d M_X2_unlikeBoth [.ref 5, .int a1, .int (v4 / 10), .int (v4 - v4 / 10 * 10)] s3 (Qi fun v6 s5 => Q (some (.int v6)) s5)) ∧ (v4 = ((-1)) → Q (some (.int ((-1)))) s3)))) ∧ (v2 = 0 → Q (some (.int ((-2)))) s1)))) : Ct (d + 1) M_X6_strange [.ref 0, .int a1] st Q := by
  refine Ct_of (by decide +kernel) (Nat.le_of_ble_eq_true rfl) (fun κ C Z => ?_)
  show X κ 0 [(0, .ref 0), (1, .int a1)] [] st
  refine X_aload_n C dX6_strange_0 rfl (j := 0) rfl ?_
  refine X_getR C sh_0 rfl fw_RX6_40 dX6_strange_1 ?_
  refine X_iload_n C dX6_strange_4 rfl (j := 1) rfl ?_
  refine X_callV C dX6_strange_5 pw_RX6_188 (b := 5) (as := [.int a1]) (S := []) sh_5 rfl rfl rfl (Nat.le_of_ble_eq_true rfl) (Ct_mono h ?_)
  rintro _ s1 ⟨v2, rfl, h⟩
  show X κ 8 [(0, .ref 0), (1, .int a1)] [.int v2] s1
  refine X_if_ne C dX6_strange_8 (tgt := 14) (by decide) (fun c => ?_) (fun c => ?_)
  · replace h := h.1 c
    refine X_aload_n C dX6_strange_14 rfl (j := 0) rfl ?_
    refine X_getR C sh_0 rfl fw_RX6_40 dX6_strange_15 ?_
    refine X_iload_n C dX6_strange_18 rfl (j := 1) rfl ?_
    refine X_callV C dX6_strange_19 pw_RX6_213 (b := 5) (as := [.int a1]) (S := []) sh_5 rfl rfl rfl (Nat.le_of_ble_eq_true rfl) (Ct_mono h ?_)
    rintro _ s3 ⟨v4, rfl, h⟩
    show X κ 22 [(0, .ref 0), (1, .int a1)] [.int v4] s3
    refine X_istore_n C dX6_strange_22 rfl (by decide) (L' := [(2, .int v4), (0, .ref 0), (1, .int a1)]) rfl ?_
    refine X_iload_n C dX6_strange_23 rfl (j := 0) rfl ?_
    refine X_iconst C (v := (-1)) (by decide) dX6_strange_24 ?_
    refine X_icmp_ne C dX6_strange_25 (tgt := 32) (by decide) (fun c => ?_) (fun c => ?_)
    · replace h := h.1 c
      refine X_aload_n C dX6_strange_32 rfl (j := 1) rfl ?_
      refine X_getR C sh_0 rfl fw_RX6_40 dX6_strange_33 ?_
      refine X_iload_n C dX6_strange_36 rfl (j := 2) rfl ?_
      refine X_iload_n C dX6_strange_37 rfl (j := 0) rfl ?_
      refine X_bipush C (v := 10) (by decide) dX6_strange_38 ?_
      refine X_idiv C (by decide) dX6_strange_40 ?_
      refine X_iload_n C dX6_strange_41 rfl (j := 0) rfl ?_
      refine X_bipush C (v := 10) (by decide) dX6_strange_42 ?_
      refine X_irem C (by decide) dX6_strange_44 ?_
      refine X_callV C dX6_strange_45 pw_RX6_216 (b := 5) (as := [.int a1, .int (v4 / 10), .int (v4 - v4 / 10 * 10)]) (S := []) sh_5 rfl rfl rfl (Nat.le_of_ble_eq_true rfl) (Ct_mono h ?_)
      rintro _ s5 ⟨v6, rfl, h⟩
      show X κ 48 [(2, .int v4), (0, .ref 0), (1, .int a1)] [.int v6] s5
      exact X_iret C Z rfl dX6_strange_48 h
    · replace h := h.2 c
      refine X_iconst C (v := (-1)) (by decide) dX6_strange_28 ?_
      refine X_goto C dX6_strange_29 (tgt := 48) (by decide) ?_
      exact X_iret C Z rfl dX6_strange_48 h
  · replace h := h.2 c
    refine X_bipush C (v := (-2)) (by decide) dX6_strange_11 ?_
    exact X_iret C Z rfl dX6_strange_13 h
set_option maxHeartbeats 4000000 in
set_option maxRecDepth 100000 in
theorem eX6_age {d : Nat} {Q : Option Value → xSt → Prop} (a1 : Int32) (st : xSt) (h : Ct d M_X2_has [.ref 5, .int a1] st (Qi fun v2 s1 => ((v2 = 0 → Q (some (.int ((-2)))) s1) ∧ (¬ v2 = 0 → Ct d M_X2_generations [.ref 5, .int a1] s1 (Qi fun v4 s3 => Q (some (.int v4)) s3))))) : Ct (d + 1) M_X6_age [.ref 0, .int a1] st Q := by
  refine Ct_of (by decide +kernel) (Nat.le_of_ble_eq_true rfl) (fun κ C Z => ?_)
  show X κ 0 [(0, .ref 0), (1, .int a1)] [] st
  refine X_aload_n C dX6_age_0 rfl (j := 0) rfl ?_
  refine X_getR C sh_0 rfl fw_RX6_40 dX6_age_1 ?_
  refine X_iload_n C dX6_age_4 rfl (j := 1) rfl ?_
  refine X_callV C dX6_age_5 pw_RX6_188 (b := 5) (as := [.int a1]) (S := []) sh_5 rfl rfl rfl (Nat.le_of_ble_eq_true rfl) (Ct_mono h ?_)
  rintro _ s1 ⟨v2, rfl, h⟩
  show X κ 8 [(0, .ref 0), (1, .int a1)] [.int v2] s1
  refine X_if_eq C dX6_age_8 (tgt := 22) (by decide) (fun c => ?_) (fun c => ?_)
  · replace h := h.1 c
    refine X_bipush C (v := (-2)) (by decide) dX6_age_22 ?_
    exact X_iret C Z rfl dX6_age_24 h
  · replace h := h.2 c
    refine X_aload_n C dX6_age_11 rfl (j := 0) rfl ?_
    refine X_getR C sh_0 rfl fw_RX6_40 dX6_age_12 ?_
    refine X_iload_n C dX6_age_15 rfl (j := 1) rfl ?_
    refine X_callV C dX6_age_16 pw_RX6_219 (b := 5) (as := [.int a1]) (S := []) sh_5 rfl rfl rfl (Nat.le_of_ble_eq_true rfl) (Ct_mono h ?_)
    rintro _ s3 ⟨v4, rfl, h⟩
    show X κ 19 [(0, .ref 0), (1, .int a1)] [.int v4] s3
    refine X_goto C dX6_age_19 (tgt := 24) (by decide) ?_
    exact X_iret C Z rfl dX6_age_24 h
set_option maxHeartbeats 4000000 in
set_option maxRecDepth 100000 in
theorem eX6_slips {d : Nat} {Q : Option Value → xSt → Prop} (a1 : Int32) (a2 : Int32) (st : xSt) (h : Ct d M_X2_has [.ref 5, .int a1] st (Qi fun v2 s1 => ((v2 = 0 → Q (some (.int ((-2)))) s1) ∧ (¬ v2 = 0 → Ct d M_X2_has [.ref 5, .int a2] s1 (Qi fun v4 s3 => ((v4 = 0 → Q (some (.int ((-2)))) s3) ∧ (¬ v4 = 0 → ((¬ a1 = a2 → Ct d M_X2_sharedSlips [.ref 5, .int a1, .int a2] s3 (Qi fun v6 s5 => Q (some (.int v6)) s5)) ∧ (a1 = a2 → Q (some (.int ((-2)))) s3))))))))) : Ct (d + 1) M_X6_slips [.ref 0, .int a1, .int a2] st Q := by
  refine Ct_of (by decide +kernel) (Nat.le_of_ble_eq_true rfl) (fun κ C Z => ?_)
  show X κ 0 [(0, .ref 0), (1, .int a1), (2, .int a2)] [] st
  refine X_aload_n C dX6_slips_0 rfl (j := 0) rfl ?_
  refine X_getR C sh_0 rfl fw_RX6_40 dX6_slips_1 ?_
  refine X_iload_n C dX6_slips_4 rfl (j := 1) rfl ?_
  refine X_callV C dX6_slips_5 pw_RX6_188 (b := 5) (as := [.int a1]) (S := []) sh_5 rfl rfl rfl (Nat.le_of_ble_eq_true rfl) (Ct_mono h ?_)
  rintro _ s1 ⟨v2, rfl, h⟩
  show X κ 8 [(0, .ref 0), (1, .int a1), (2, .int a2)] [.int v2] s1
  refine X_if_eq C dX6_slips_8 (tgt := 27) (by decide) (fun c => ?_) (fun c => ?_)
  · replace h := h.1 c
    refine X_bipush C (v := (-2)) (by decide) dX6_slips_27 ?_
    exact X_iret C Z rfl dX6_slips_29 h
  · replace h := h.2 c
    refine X_aload_n C dX6_slips_11 rfl (j := 0) rfl ?_
    refine X_getR C sh_0 rfl fw_RX6_40 dX6_slips_12 ?_
    refine X_iload_n C dX6_slips_15 rfl (j := 2) rfl ?_
    refine X_callV C dX6_slips_16 pw_RX6_188 (b := 5) (as := [.int a2]) (S := []) sh_5 rfl rfl rfl (Nat.le_of_ble_eq_true rfl) (Ct_mono h ?_)
    rintro _ s3 ⟨v4, rfl, h⟩
    show X κ 19 [(0, .ref 0), (1, .int a1), (2, .int a2)] [.int v4] s3
    refine X_if_eq C dX6_slips_19 (tgt := 27) (by decide) (fun c => ?_) (fun c => ?_)
    · replace h := h.1 c
      refine X_bipush C (v := (-2)) (by decide) dX6_slips_27 ?_
      exact X_iret C Z rfl dX6_slips_29 h
    · replace h := h.2 c
      refine X_iload_n C dX6_slips_22 rfl (j := 1) rfl ?_
      refine X_iload_n C dX6_slips_23 rfl (j := 2) rfl ?_
      refine X_icmp_ne C dX6_slips_24 (tgt := 30) (by decide) (fun c => ?_) (fun c => ?_)
      · replace h := h.1 c
        refine X_aload_n C dX6_slips_30 rfl (j := 0) rfl ?_
        refine X_getR C sh_0 rfl fw_RX6_40 dX6_slips_31 ?_
        refine X_iload_n C dX6_slips_34 rfl (j := 1) rfl ?_
        refine X_iload_n C dX6_slips_35 rfl (j := 2) rfl ?_
        refine X_callV C dX6_slips_36 pw_RX6_222 (b := 5) (as := [.int a1, .int a2]) (S := []) sh_5 rfl rfl rfl (Nat.le_of_ble_eq_true rfl) (Ct_mono h ?_)
        rintro _ s5 ⟨v6, rfl, h⟩
        show X κ 39 [(0, .ref 0), (1, .int a1), (2, .int a2)] [.int v6] s5
        exact X_iret C Z rfl dX6_slips_39 h
      · replace h := h.2 c
        refine X_bipush C (v := (-2)) (by decide) dX6_slips_27 ?_
        exact X_iret C Z rfl dX6_slips_29 h
set_option maxHeartbeats 4000000 in
set_option maxRecDepth 100000 in
theorem eX6_isTale {d : Nat} {Q : Option Value → xSt → Prop} (a1 : Int32) (a2 : Int32) (st : xSt) (h : Ct d M_X4_named [.ref 1, .int a1] st (Qi fun v2 s1 => ((v2 = 0 → Q (some (.int 0)) s1) ∧ (¬ v2 = 0 → Ct d M_X6_within [.int a2, .int 1, .int 30] s1 (Qi fun v4 s3 => ((v4 = 0 → Q (some (.int 0)) s3) ∧ (¬ v4 = 0 → Q (some (.int 1)) s3))))))) : Ct (d + 1) M_X6_isTale [.ref 0, .int a1, .int a2] st Q := by
  refine Ct_of (by decide +kernel) (Nat.le_of_ble_eq_true rfl) (fun κ C Z => ?_)
  show X κ 0 [(0, .ref 0), (1, .int a1), (2, .int a2)] [] st
  refine X_aload_n C dX6_isTale_0 rfl (j := 0) rfl ?_
  refine X_getR C sh_0 rfl fw_RX6_10 dX6_isTale_1 ?_
  refine X_iload_n C dX6_isTale_4 rfl (j := 1) rfl ?_
  refine X_callV C dX6_isTale_5 pw_RX6_51 (b := 1) (as := [.int a1]) (S := []) sh_1 rfl rfl rfl (Nat.le_of_ble_eq_true rfl) (Ct_mono h ?_)
  rintro _ s1 ⟨v2, rfl, h⟩
  show X κ 8 [(0, .ref 0), (1, .int a1), (2, .int a2)] [.int v2] s1
  refine X_if_eq C dX6_isTale_8 (tgt := 25) (by decide) (fun c => ?_) (fun c => ?_)
  · replace h := h.1 c
    refine X_iconst C (v := 0) (by decide) dX6_isTale_25 ?_
    exact X_zret C Z rfl (by decide) dX6_isTale_26 h
  · replace h := h.2 c
    refine X_iload_n C dX6_isTale_11 rfl (j := 2) rfl ?_
    refine X_iconst C (v := 1) (by decide) dX6_isTale_12 ?_
    refine X_bipush C (v := 30) (by decide) dX6_isTale_13 ?_
    refine X_callS C dX6_isTale_15 pw_RX6_55 (as := [.int a2, .int 1, .int 30]) (S := []) rfl rfl (Nat.le_of_ble_eq_true rfl) (Ct_mono h ?_)
    rintro _ s3 ⟨v4, rfl, h⟩
    show X κ 18 [(0, .ref 0), (1, .int a1), (2, .int a2)] [.int v4] s3
    refine X_if_eq C dX6_isTale_18 (tgt := 25) (by decide) (fun c => ?_) (fun c => ?_)
    · replace h := h.1 c
      refine X_iconst C (v := 0) (by decide) dX6_isTale_25 ?_
      exact X_zret C Z rfl (by decide) dX6_isTale_26 h
    · replace h := h.2 c
      refine X_iconst C (v := 1) (by decide) dX6_isTale_21 ?_
      refine X_goto C dX6_isTale_22 (tgt := 26) (by decide) ?_
      exact X_zret C Z rfl (by decide) dX6_isTale_26 h
set_option maxHeartbeats 4000000 in
set_option maxRecDepth 100000 in
theorem eX6_missing {d : Nat} {Q : Option Value → xSt → Prop} (a1 : Int32) (a2 : Int32) (st : xSt) (h : Ct d M_X4_lost [.ref 1, .int a1] st (Qi fun v2 s1 => ((v2 = 0 → Ct d M_X4_sizeOf [.ref 1, .int a1] s1 (Qi fun v4 s3 => ((a2 ≤ v4 → Q (some (.int 0)) s3) ∧ (¬ a2 ≤ v4 → Ct d M_X4_find [.ref 1, .int 2] s3 (Qi fun v6 s5 => Q (some (.int v6)) s5))))) ∧ (¬ v2 = 0 → Ct d M_X4_find [.ref 1, .int 1] s1 (Qi fun v8 s7 => Q (some (.int v8)) s7))))) : Ct (d + 1) M_X6_missing [.ref 0, .int a1, .int a2] st Q := by
  refine Ct_of (by decide +kernel) (Nat.le_of_ble_eq_true rfl) (fun κ C Z => ?_)
  show X κ 0 [(0, .ref 0), (1, .int a1), (2, .int a2)] [] st
  refine X_aload_n C dX6_missing_0 rfl (j := 0) rfl ?_
  refine X_getR C sh_0 rfl fw_RX6_10 dX6_missing_1 ?_
  refine X_iload_n C dX6_missing_4 rfl (j := 1) rfl ?_
  refine X_callV C dX6_missing_5 pw_RX6_59 (b := 1) (as := [.int a1]) (S := []) sh_1 rfl rfl rfl (Nat.le_of_ble_eq_true rfl) (Ct_mono h ?_)
  rintro _ s1 ⟨v2, rfl, h⟩
  show X κ 8 [(0, .ref 0), (1, .int a1), (2, .int a2)] [.int v2] s1
  refine X_if_eq C dX6_missing_8 (tgt := 20) (by decide) (fun c => ?_) (fun c => ?_)
  · replace h := h.1 c
    refine X_iload_n C dX6_missing_20 rfl (j := 2) rfl ?_
    refine X_aload_n C dX6_missing_21 rfl (j := 0) rfl ?_
    refine X_getR C sh_0 rfl fw_RX6_10 dX6_missing_22 ?_
    refine X_iload_n C dX6_missing_25 rfl (j := 1) rfl ?_
    refine X_callV C dX6_missing_26 pw_RX6_66 (b := 1) (as := [.int a1]) (S := [.int a2]) sh_1 rfl rfl rfl (Nat.le_of_ble_eq_true rfl) (Ct_mono h ?_)
    rintro _ s3 ⟨v4, rfl, h⟩
    show X κ 29 [(0, .ref 0), (1, .int a1), (2, .int a2)] [.int v4, .int a2] s3
    refine X_icmp_le C dX6_missing_29 (tgt := 43) (by decide) (fun c => ?_) (fun c => ?_)
    · replace h := h.1 c
      refine X_iconst C (v := 0) (by decide) dX6_missing_43 ?_
      exact X_iret C Z rfl dX6_missing_44 h
    · replace h := h.2 c
      refine X_aload_n C dX6_missing_32 rfl (j := 0) rfl ?_
      refine X_getR C sh_0 rfl fw_RX6_10 dX6_missing_33 ?_
      refine X_iconst C (v := 2) (by decide) dX6_missing_36 ?_
      refine X_callV C dX6_missing_37 pw_RX6_62 (b := 1) (as := [.int 2]) (S := []) sh_1 rfl rfl rfl (Nat.le_of_ble_eq_true rfl) (Ct_mono h ?_)
      rintro _ s5 ⟨v6, rfl, h⟩
      show X κ 40 [(0, .ref 0), (1, .int a1), (2, .int a2)] [.int v6] s5
      refine X_goto C dX6_missing_40 (tgt := 44) (by decide) ?_
      exact X_iret C Z rfl dX6_missing_44 h
  · replace h := h.2 c
    refine X_aload_n C dX6_missing_11 rfl (j := 0) rfl ?_
    refine X_getR C sh_0 rfl fw_RX6_10 dX6_missing_12 ?_
    refine X_iconst C (v := 1) (by decide) dX6_missing_15 ?_
    refine X_callV C dX6_missing_16 pw_RX6_62 (b := 1) (as := [.int 1]) (S := []) sh_1 rfl rfl rfl (Nat.le_of_ble_eq_true rfl) (Ct_mono h ?_)
    rintro _ s7 ⟨v8, rfl, h⟩
    show X κ 19 [(0, .ref 0), (1, .int a1), (2, .int a2)] [.int v8] s7
    exact X_iret C Z rfl dX6_missing_19 h
set_option maxHeartbeats 4000000 in
set_option maxRecDepth 100000 in
theorem bX6_tells_20 {κ : xK} {d : Nat} {Q : Option Value → xSt → Prop} (C : Cx κ M_X6_tells (d + 1)) (Z : xR κ Q) (x1 : Int32) (x2 : Int32) (x3 : Int32) (x4 : Int32) (x5 : Int32) (x6 : Int32) (st : xSt) (h : ((x2 ≤ x6 → Q (some (.int 1)) st) ∧ (¬ x2 ≤ x6 → Ct d M_X4_wordAt [.ref 1, .int x1, .int x6] st (Qi fun v2 s1 => ((v2 = ((-1)) → X κ 20 [(0, .ref 0), (1, .int x1), (2, .int x2), (3, .int x3), (4, .int x4), (5, .int x5), (6, .int (x6 + 1))] [] s1) ∧ (¬ v2 = ((-1)) → Ct d M_X0_wordOf [.ref 2, .int x3, .int (x4 + (x6 * x5))] s1 (Qi fun v4 s3 => ((v2 = v4 → X κ 20 [(0, .ref 0), (1, .int x1), (2, .int x2), (3, .int x3), (4, .int x4), (5, .int x5), (6, .int (x6 + 1))] [] s3) ∧ (¬ v2 = v4 → Q (some (.int 0)) s3))))))))) : X κ 20 [(0, .ref 0), (1, .int x1), (2, .int x2), (3, .int x3), (4, .int x4), (5, .int x5), (6, .int x6)] [] st := by
  refine X_iload C dX6_tells_20 (j := 6) rfl ?_
  refine X_iload_n C dX6_tells_22 rfl (j := 2) rfl ?_
  refine X_icmp_ge C dX6_tells_23 (tgt := 73) (by decide) (fun c => ?_) (fun c => ?_)
  · replace h := h.1 c
    refine X_iconst C (v := 1) (by decide) dX6_tells_73 ?_
    exact X_zret C Z rfl (by decide) dX6_tells_74 h
  · replace h := h.2 c
    refine X_aload_n C dX6_tells_26 rfl (j := 0) rfl ?_
    refine X_getR C sh_0 rfl fw_RX6_10 dX6_tells_27 ?_
    refine X_iload_n C dX6_tells_30 rfl (j := 1) rfl ?_
    refine X_iload C dX6_tells_31 (j := 6) rfl ?_
    refine X_callV C dX6_tells_33 pw_RX6_225 (b := 1) (as := [.int x1, .int x6]) (S := []) sh_1 rfl rfl rfl (Nat.le_of_ble_eq_true rfl) (Ct_mono h ?_)
    rintro _ s1 ⟨v2, rfl, h⟩
    show X κ 36 [(0, .ref 0), (1, .int x1), (2, .int x2), (3, .int x3), (4, .int x4), (5, .int x5), (6, .int x6)] [.int v2] s1
    refine X_istore C dX6_tells_36 (by decide) (L' := [(7, .int v2), (0, .ref 0), (1, .int x1), (2, .int x2), (3, .int x3), (4, .int x4), (5, .int x5), (6, .int x6)]) rfl ?_
    refine X_iload C dX6_tells_38 (j := 0) rfl ?_
    refine X_iconst C (v := (-1)) (by decide) dX6_tells_40 ?_
    refine X_icmp_eq C dX6_tells_41 (tgt := 67) (by decide) (fun c => ?_) (fun c => ?_)
    · replace h := h.1 c
      refine X_iinc C dX6_tells_67 (j := 7) rfl (v := x6 + 1) rfl (by decide) (L' := [(6, .int (x6 + 1)), (7, .int v2), (0, .ref 0), (1, .int x1), (2, .int x2), (3, .int x3), (4, .int x4), (5, .int x5)]) rfl ?_
      refine X_goto C dX6_tells_70 (tgt := 20) (by decide) ?_
      refine X_loc [2, 3, 4, 5, 6, 7, 0] rfl ?_
      exact h
    · replace h := h.2 c
      refine X_iload C dX6_tells_44 (j := 0) rfl ?_
      refine X_aload_n C dX6_tells_46 rfl (j := 1) rfl ?_
      refine X_getR C sh_0 rfl fw_RX6_19 dX6_tells_47 ?_
      refine X_iload_n C dX6_tells_50 rfl (j := 4) rfl ?_
      refine X_iload C dX6_tells_51 (j := 5) rfl ?_
      refine X_iload C dX6_tells_53 (j := 7) rfl ?_
      refine X_iload C dX6_tells_55 (j := 6) rfl ?_
      refine X_imul C dX6_tells_57 ?_
      refine X_iadd C dX6_tells_58 ?_
      refine X_callV C dX6_tells_59 pw_RX6_226 (b := 2) (as := [.int x3, .int (x4 + (x6 * x5))]) (S := [.int v2]) sh_2 rfl rfl rfl (Nat.le_of_ble_eq_true rfl) (Ct_mono h ?_)
      rintro _ s3 ⟨v4, rfl, h⟩
      show X κ 62 [(7, .int v2), (0, .ref 0), (1, .int x1), (2, .int x2), (3, .int x3), (4, .int x4), (5, .int x5), (6, .int x6)] [.int v4, .int v2] s3
      refine X_icmp_eq C dX6_tells_62 (tgt := 67) (by decide) (fun c => ?_) (fun c => ?_)
      · replace h := h.1 c
        refine X_iinc C dX6_tells_67 (j := 7) rfl (v := x6 + 1) rfl (by decide) (L' := [(6, .int (x6 + 1)), (7, .int v2), (0, .ref 0), (1, .int x1), (2, .int x2), (3, .int x3), (4, .int x4), (5, .int x5)]) rfl ?_
        refine X_goto C dX6_tells_70 (tgt := 20) (by decide) ?_
        refine X_loc [2, 3, 4, 5, 6, 7, 0] rfl ?_
        exact h
      · replace h := h.2 c
        refine X_iconst C (v := 0) (by decide) dX6_tells_65 ?_
        exact X_zret C Z rfl (by decide) dX6_tells_66 h
set_option maxHeartbeats 4000000 in
set_option maxRecDepth 100000 in
theorem eX6_tells {d : Nat} {Q : Option Value → xSt → Prop} (a1 : Int32) (a2 : Int32) (a3 : Int32) (a4 : Int32) (a5 : Int32) (st : xSt) (h : ∀ κ : xK, Cx κ M_X6_tells (d + 1) → xR κ Q → (((a4 + ((a2 - 1) * a5)) ≤ 400 → X κ 20 [(0, .ref 0), (1, .int a1), (2, .int a2), (3, .int a3), (4, .int a4), (5, .int a5), (6, .int 0)] [] st) ∧ (¬ (a4 + ((a2 - 1) * a5)) ≤ 400 → Q (some (.int 0)) st))) : Ct (d + 1) M_X6_tells [.ref 0, .int a1, .int a2, .int a3, .int a4, .int a5] st Q := by
  refine Ct_of (by decide +kernel) (Nat.le_of_ble_eq_true rfl) (fun κ C Z => ?_)
  replace h := h κ C Z
  show X κ 0 [(0, .ref 0), (1, .int a1), (2, .int a2), (3, .int a3), (4, .int a4), (5, .int a5)] [] st
  refine X_iload C dX6_tells_0 (j := 4) rfl ?_
  refine X_iload_n C dX6_tells_2 rfl (j := 2) rfl ?_
  refine X_iconst C (v := 1) (by decide) dX6_tells_3 ?_
  refine X_isub C dX6_tells_4 ?_
  refine X_iload C dX6_tells_5 (j := 5) rfl ?_
  refine X_imul C dX6_tells_7 ?_
  refine X_iadd C dX6_tells_8 ?_
  refine X_sipush C (v := 400) (by decide) dX6_tells_9 ?_
  refine X_icmp_le C dX6_tells_12 (tgt := 17) (by decide) (fun c => ?_) (fun c => ?_)
  · replace h := h.1 c
    refine X_iconst C (v := 0) (by decide) dX6_tells_17 ?_
    refine X_istore C dX6_tells_18 (by decide) (L' := [(6, .int 0), (0, .ref 0), (1, .int a1), (2, .int a2), (3, .int a3), (4, .int a4), (5, .int a5)]) rfl ?_
    refine X_loc [1, 2, 3, 4, 5, 6, 0] rfl ?_
    exact h
  · replace h := h.2 c
    refine X_iconst C (v := 0) (by decide) dX6_tells_15 ?_
    exact X_zret C Z rfl (by decide) dX6_tells_16 h
set_option maxHeartbeats 4000000 in
set_option maxRecDepth 100000 in
theorem eX6_countOfWalk {d : Nat} {Q : Option Value → xSt → Prop} (a0 : Int32) (st : xSt) (h : Q (some (.int (a0 / 1980))) st) : Ct (d) M_X6_countOfWalk [.int a0] st Q := by
  refine Ct_of (by decide +kernel) (Nat.le_of_ble_eq_true rfl) (fun κ C Z => ?_)
  show X κ 0 [(0, .int a0)] [] st
  refine X_iload_n C dX6_countOfWalk_0 rfl (j := 0) rfl ?_
  refine X_sipush C (v := 1980) (by decide) dX6_countOfWalk_1 ?_
  refine X_idiv C (by decide) dX6_countOfWalk_4 ?_
  exact X_iret C Z rfl dX6_countOfWalk_5 h
set_option maxHeartbeats 4000000 in
set_option maxRecDepth 100000 in
theorem eX6_startOfWalk {d : Nat} {Q : Option Value → xSt → Prop} (a0 : Int32) (st : xSt) (h : Q (some (.int (((a0 / 20) - (a0 / 20) / 99 * 99) + 1))) st) : Ct (d) M_X6_startOfWalk [.int a0] st Q := by
  refine Ct_of (by decide +kernel) (Nat.le_of_ble_eq_true rfl) (fun κ C Z => ?_)
  show X κ 0 [(0, .int a0)] [] st
  refine X_iload_n C dX6_startOfWalk_0 rfl (j := 0) rfl ?_
  refine X_bipush C (v := 20) (by decide) dX6_startOfWalk_1 ?_
  refine X_idiv C (by decide) dX6_startOfWalk_3 ?_
  refine X_bipush C (v := 99) (by decide) dX6_startOfWalk_4 ?_
  refine X_irem C (by decide) dX6_startOfWalk_6 ?_
  refine X_iconst C (v := 1) (by decide) dX6_startOfWalk_7 ?_
  refine X_iadd C dX6_startOfWalk_8 ?_
  exact X_iret C Z rfl dX6_startOfWalk_9 h
set_option maxHeartbeats 4000000 in
set_option maxRecDepth 100000 in
theorem eX6_stepOfWalk {d : Nat} {Q : Option Value → xSt → Prop} (a0 : Int32) (st : xSt) (h : Q (some (.int ((a0 - a0 / 20 * 20) + 1))) st) : Ct (d) M_X6_stepOfWalk [.int a0] st Q := by
  refine Ct_of (by decide +kernel) (Nat.le_of_ble_eq_true rfl) (fun κ C Z => ?_)
  show X κ 0 [(0, .int a0)] [] st
  refine X_iload_n C dX6_stepOfWalk_0 rfl (j := 0) rfl ?_
  refine X_bipush C (v := 20) (by decide) dX6_stepOfWalk_1 ?_
  refine X_irem C (by decide) dX6_stepOfWalk_3 ?_
  refine X_iconst C (v := 1) (by decide) dX6_stepOfWalk_4 ?_
  refine X_iadd C dX6_stepOfWalk_5 ?_
  exact X_iret C Z rfl dX6_stepOfWalk_6 h
set_option maxHeartbeats 4000000 in
set_option maxRecDepth 100000 in
theorem eX6_allWalks {d : Nat} {Q : Option Value → xSt → Prop} (st : xSt) (h : Ct d M_X0_size [.ref 2] st (Qi fun v2 s1 => Q (some (.int ((v2 * 99) * 20))) s1)) : Ct (d + 1) M_X6_allWalks [.ref 0] st Q := by
  refine Ct_of (by decide +kernel) (Nat.le_of_ble_eq_true rfl) (fun κ C Z => ?_)
  show X κ 0 [(0, .ref 0)] [] st
  refine X_aload_n C dX6_allWalks_0 rfl (j := 0) rfl ?_
  refine X_getR C sh_0 rfl fw_RX6_19 dX6_allWalks_1 ?_
  refine X_callV C dX6_allWalks_4 pw_RX6_229 (b := 2) (as := []) (S := []) sh_2 rfl rfl rfl (Nat.le_of_ble_eq_true rfl) (Ct_mono h ?_)
  rintro _ s1 ⟨v2, rfl, h⟩
  show X κ 7 [(0, .ref 0)] [.int v2] s1
  refine X_bipush C (v := 99) (by decide) dX6_allWalks_7 ?_
  refine X_imul C dX6_allWalks_9 ?_
  refine X_bipush C (v := 20) (by decide) dX6_allWalks_10 ?_
  refine X_imul C dX6_allWalks_12 ?_
  exact X_iret C Z rfl dX6_allWalks_13 h
set_option maxHeartbeats 4000000 in
set_option maxRecDepth 100000 in
theorem eX6_isReading {d : Nat} {Q : Option Value → xSt → Prop} (a1 : Int32) (a2 : Int32) (a3 : Int32) (st : xSt) (h : Ct d M_X6_countOfWalk [.int a3] st (Qi fun v2 s1 => Ct d M_X6_startOfWalk [.int a3] s1 (Qi fun v4 s3 => Ct d M_X6_stepOfWalk [.int a3] s3 (Qi fun v6 s5 => Ct d M_X6_tells [.ref 0, .int a1, .int a2, .int v2, .int v4, .int v6] s5 (Qi fun v8 s7 => (v8 = 0 ∨ v8 = 1) ∧ Q (some (.int v8)) s7))))) : Ct (d + 1) M_X6_isReading [.ref 0, .int a1, .int a2, .int a3] st Q := by
  refine Ct_of (by decide +kernel) (Nat.le_of_ble_eq_true rfl) (fun κ C Z => ?_)
  show X κ 0 [(0, .ref 0), (1, .int a1), (2, .int a2), (3, .int a3)] [] st
  refine X_aload_n C dX6_isReading_0 rfl (j := 0) rfl ?_
  refine X_iload_n C dX6_isReading_1 rfl (j := 1) rfl ?_
  refine X_iload_n C dX6_isReading_2 rfl (j := 2) rfl ?_
  refine X_iload_n C dX6_isReading_3 rfl (j := 3) rfl ?_
  refine X_callS C dX6_isReading_4 pw_RX6_232 (as := [.int a3]) (S := [.int a2, .int a1, .ref 0]) rfl rfl (Nat.le_of_ble_eq_true rfl) (Ct_mono h ?_)
  rintro _ s1 ⟨v2, rfl, h⟩
  show X κ 7 [(0, .ref 0), (1, .int a1), (2, .int a2), (3, .int a3)] [.int v2, .int a2, .int a1, .ref 0] s1
  refine X_iload_n C dX6_isReading_7 rfl (j := 3) rfl ?_
  refine X_callS C dX6_isReading_8 pw_RX6_235 (as := [.int a3]) (S := [.int v2, .int a2, .int a1, .ref 0]) rfl rfl (Nat.le_of_ble_eq_true rfl) (Ct_mono h ?_)
  rintro _ s3 ⟨v4, rfl, h⟩
  show X κ 11 [(0, .ref 0), (1, .int a1), (2, .int a2), (3, .int a3)] [.int v4, .int v2, .int a2, .int a1, .ref 0] s3
  refine X_iload_n C dX6_isReading_11 rfl (j := 3) rfl ?_
  refine X_callS C dX6_isReading_12 pw_RX6_238 (as := [.int a3]) (S := [.int v4, .int v2, .int a2, .int a1, .ref 0]) rfl rfl (Nat.le_of_ble_eq_true rfl) (Ct_mono h ?_)
  rintro _ s5 ⟨v6, rfl, h⟩
  show X κ 15 [(0, .ref 0), (1, .int a1), (2, .int a2), (3, .int a3)] [.int v6, .int v4, .int v2, .int a2, .int a1, .ref 0] s5
  refine X_callV C dX6_isReading_15 pw_RX6_241 (b := 0) (as := [.int a1, .int a2, .int v2, .int v4, .int v6]) (S := []) sh_0 rfl rfl rfl (Nat.le_of_ble_eq_true rfl) (Ct_mono h ?_)
  rintro _ s7 ⟨v8, rfl, h⟩
  show X κ 18 [(0, .ref 0), (1, .int a1), (2, .int a2), (3, .int a3)] [.int v8] s7
  exact X_zret C Z rfl h.1 dX6_isReading_18 h.2
set_option maxHeartbeats 4000000 in
set_option maxRecDepth 100000 in
theorem bX6_readings_37 {κ : xK} {d : Nat} {Q : Option Value → xSt → Prop} (C : Cx κ M_X6_readings (d + 1)) (Z : xR κ Q) (x1 : Int32) (x2 : Int32) (x4 : Int32) (x5 : Int32) (x6 : Int32) (st : xSt) (h : ((x5 ≤ x6 → Q (some (.int x4)) st) ∧ (¬ x5 ≤ x6 → Ct d M_X6_isReading [.ref 0, .int x1, .int x2, .int x6] st (Qi fun v2 s1 => ((v2 = 0 → X κ 37 [(0, .ref 0), (1, .int x1), (2, .int x2), (4, .int x4), (5, .int x5), (6, .int (x6 + 1))] [] s1) ∧ (¬ v2 = 0 → X κ 37 [(0, .ref 0), (1, .int x1), (2, .int x2), (4, .int (x4 + 1)), (5, .int x5), (6, .int (x6 + 1))] [] s1)))))) : X κ 37 [(0, .ref 0), (1, .int x1), (2, .int x2), (4, .int x4), (5, .int x5), (6, .int x6)] [] st := by
  refine X_iload C dX6_readings_37 (j := 5) rfl ?_
  refine X_iload C dX6_readings_39 (j := 4) rfl ?_
  refine X_icmp_ge C dX6_readings_41 (tgt := 64) (by decide) (fun c => ?_) (fun c => ?_)
  · replace h := h.1 c
    refine X_iload C dX6_readings_64 (j := 3) rfl ?_
    exact X_iret C Z rfl dX6_readings_66 h
  · replace h := h.2 c
    refine X_aload_n C dX6_readings_44 rfl (j := 0) rfl ?_
    refine X_iload_n C dX6_readings_45 rfl (j := 1) rfl ?_
    refine X_iload_n C dX6_readings_46 rfl (j := 2) rfl ?_
    refine X_iload C dX6_readings_47 (j := 5) rfl ?_
    refine X_callV C dX6_readings_49 pw_RX6_253 (b := 0) (as := [.int x1, .int x2, .int x6]) (S := []) sh_0 rfl rfl rfl (Nat.le_of_ble_eq_true rfl) (Ct_mono h ?_)
    rintro _ s1 ⟨v2, rfl, h⟩
    show X κ 52 [(0, .ref 0), (1, .int x1), (2, .int x2), (4, .int x4), (5, .int x5), (6, .int x6)] [.int v2] s1
    refine X_if_eq C dX6_readings_52 (tgt := 58) (by decide) (fun c => ?_) (fun c => ?_)
    · replace h := h.1 c
      refine X_iinc C dX6_readings_58 (j := 5) rfl (v := x6 + 1) rfl (by decide) (L' := [(6, .int (x6 + 1)), (0, .ref 0), (1, .int x1), (2, .int x2), (4, .int x4), (5, .int x5)]) rfl ?_
      refine X_goto C dX6_readings_61 (tgt := 37) (by decide) ?_
      refine X_loc [1, 2, 3, 4, 5, 0] rfl ?_
      exact h
    · replace h := h.2 c
      refine X_iinc C dX6_readings_55 (j := 3) rfl (v := x4 + 1) rfl (by decide) (L' := [(4, .int (x4 + 1)), (0, .ref 0), (1, .int x1), (2, .int x2), (5, .int x5), (6, .int x6)]) rfl ?_
      refine X_iinc C dX6_readings_58 (j := 5) rfl (v := x6 + 1) rfl (by decide) (L' := [(6, .int (x6 + 1)), (4, .int (x4 + 1)), (0, .ref 0), (1, .int x1), (2, .int x2), (5, .int x5)]) rfl ?_
      refine X_goto C dX6_readings_61 (tgt := 37) (by decide) ?_
      refine X_loc [2, 3, 4, 1, 5, 0] rfl ?_
      exact h
set_option maxHeartbeats 4000000 in
set_option maxRecDepth 100000 in
theorem eX6_readings {d : Nat} {Q : Option Value → xSt → Prop} (a1 : Int32) (a2 : Int32) (st : xSt) (h : ∀ κ : xK, Cx κ M_X6_readings (d + 1) → xR κ Q → Ct d M_X6_isTale [.ref 0, .int a1, .int a2] st (Qi fun v2 s1 => ((¬ v2 = 0 → Ct d M_X6_missing [.ref 0, .int a1, .int a2] s1 (Qi fun v4 s3 => ((v4 = 0 → Ct d M_X6_allWalks [.ref 0] s3 (Qi fun v6 s5 => X κ 37 [(0, .ref 0), (1, .int a1), (2, .int a2), (4, .int 0), (5, .int v6), (6, .int 0)] [] s5)) ∧ (¬ v4 = 0 → Q (some (.int v4)) s3)))) ∧ (v2 = 0 → Q (some (.int ((-2)))) s1)))) : Ct (d + 1) M_X6_readings [.ref 0, .int a1, .int a2] st Q := by
  refine Ct_of (by decide +kernel) (Nat.le_of_ble_eq_true rfl) (fun κ C Z => ?_)
  replace h := h κ C Z
  show X κ 0 [(0, .ref 0), (1, .int a1), (2, .int a2)] [] st
  refine X_aload_n C dX6_readings_0 rfl (j := 0) rfl ?_
  refine X_iload_n C dX6_readings_1 rfl (j := 1) rfl ?_
  refine X_iload_n C dX6_readings_2 rfl (j := 2) rfl ?_
  refine X_callV C dX6_readings_3 pw_RX6_244 (b := 0) (as := [.int a1, .int a2]) (S := []) sh_0 rfl rfl rfl (Nat.le_of_ble_eq_true rfl) (Ct_mono h ?_)
  rintro _ s1 ⟨v2, rfl, h⟩
  show X κ 6 [(0, .ref 0), (1, .int a1), (2, .int a2)] [.int v2] s1
  refine X_if_ne C dX6_readings_6 (tgt := 12) (by decide) (fun c => ?_) (fun c => ?_)
  · replace h := h.1 c
    refine X_aload_n C dX6_readings_12 rfl (j := 0) rfl ?_
    refine X_iload_n C dX6_readings_13 rfl (j := 1) rfl ?_
    refine X_iload_n C dX6_readings_14 rfl (j := 2) rfl ?_
    refine X_callV C dX6_readings_15 pw_RX6_247 (b := 0) (as := [.int a1, .int a2]) (S := []) sh_0 rfl rfl rfl (Nat.le_of_ble_eq_true rfl) (Ct_mono h ?_)
    rintro _ s3 ⟨v4, rfl, h⟩
    show X κ 18 [(0, .ref 0), (1, .int a1), (2, .int a2)] [.int v4] s3
    refine X_istore_n C dX6_readings_18 rfl (by decide) (L' := [(3, .int v4), (0, .ref 0), (1, .int a1), (2, .int a2)]) rfl ?_
    refine X_iload_n C dX6_readings_19 rfl (j := 0) rfl ?_
    refine X_if_eq C dX6_readings_20 (tgt := 25) (by decide) (fun c => ?_) (fun c => ?_)
    · replace h := h.1 c
      refine X_iconst C (v := 0) (by decide) dX6_readings_25 ?_
      refine X_istore C dX6_readings_26 (by decide) (L' := [(4, .int 0), (3, .int v4), (0, .ref 0), (1, .int a1), (2, .int a2)]) rfl ?_
      refine X_aload_n C dX6_readings_28 rfl (j := 2) rfl ?_
      refine X_callV C dX6_readings_29 pw_RX6_250 (b := 0) (as := []) (S := []) sh_0 rfl rfl rfl (Nat.le_of_ble_eq_true rfl) (Ct_mono h ?_)
      rintro _ s5 ⟨v6, rfl, h⟩
      show X κ 32 [(4, .int 0), (3, .int v4), (0, .ref 0), (1, .int a1), (2, .int a2)] [.int v6] s5
      refine X_istore C dX6_readings_32 (by decide) (L' := [(5, .int v6), (4, .int 0), (3, .int v4), (0, .ref 0), (1, .int a1), (2, .int a2)]) rfl ?_
      refine X_iconst C (v := 0) (by decide) dX6_readings_34 ?_
      refine X_istore C dX6_readings_35 (by decide) (L' := [(6, .int 0), (5, .int v6), (4, .int 0), (3, .int v4), (0, .ref 0), (1, .int a1), (2, .int a2)]) rfl ?_
      refine X_loc [4, 5, 6, 2, 1, 0] rfl ?_
      exact h
    · replace h := h.2 c
      refine X_iload_n C dX6_readings_23 rfl (j := 0) rfl ?_
      exact X_iret C Z rfl dX6_readings_24 h
  · replace h := h.2 c
    refine X_bipush C (v := (-2)) (by decide) dX6_readings_9 ?_
    exact X_iret C Z rfl dX6_readings_11 h
set_option maxHeartbeats 4000000 in
set_option maxRecDepth 100000 in
theorem bX6_reading_44 {κ : xK} {d : Nat} {Q : Option Value → xSt → Prop} (C : Cx κ M_X6_reading (d + 1)) (Z : xR κ Q) (x1 : Int32) (x2 : Int32) (x3 : Int32) (x5 : Int32) (x6 : Int32) (x7 : Int32) (st : xSt) (h : ((x6 ≤ x7 → Q (some (.int ((-1)))) st) ∧ (¬ x6 ≤ x7 → Ct d M_X6_isReading [.ref 0, .int x1, .int x2, .int x7] st (Qi fun v2 s1 => ((v2 = 0 → X κ 44 [(0, .ref 0), (1, .int x1), (2, .int x2), (3, .int x3), (5, .int x5), (6, .int x6), (7, .int (x7 + 1))] [] s1) ∧ (¬ v2 = 0 → ((¬ x5 = x3 → X κ 44 [(0, .ref 0), (1, .int x1), (2, .int x2), (3, .int x3), (5, .int (x5 + 1)), (6, .int x6), (7, .int (x7 + 1))] [] s1) ∧ (x5 = x3 → Ct d M_X6_countOfWalk [.int x7] s1 (Qi fun v4 s3 => Ct d M_X6_stepOfWalk [.int x7] s3 (Qi fun v6 s5 => Ct d M_X6_startOfWalk [.int x7] s5 (Qi fun v8 s7 => Q (some (.int (((100000 * v4) + (1000 * v6)) + v8))) s7))))))))))) : X κ 44 [(0, .ref 0), (1, .int x1), (2, .int x2), (3, .int x3), (5, .int x5), (6, .int x6), (7, .int x7)] [] st := by
  refine X_iload C dX6_reading_44 (j := 6) rfl ?_
  refine X_iload C dX6_reading_46 (j := 5) rfl ?_
  refine X_icmp_ge C dX6_reading_48 (tgt := 103) (by decide) (fun c => ?_) (fun c => ?_)
  · replace h := h.1 c
    refine X_iconst C (v := (-1)) (by decide) dX6_reading_103 ?_
    exact X_iret C Z rfl dX6_reading_104 h
  · replace h := h.2 c
    refine X_aload_n C dX6_reading_51 rfl (j := 0) rfl ?_
    refine X_iload_n C dX6_reading_52 rfl (j := 1) rfl ?_
    refine X_iload_n C dX6_reading_53 rfl (j := 2) rfl ?_
    refine X_iload C dX6_reading_54 (j := 6) rfl ?_
    refine X_callV C dX6_reading_56 pw_RX6_253 (b := 0) (as := [.int x1, .int x2, .int x7]) (S := []) sh_0 rfl rfl rfl (Nat.le_of_ble_eq_true rfl) (Ct_mono h ?_)
    rintro _ s1 ⟨v2, rfl, h⟩
    show X κ 59 [(0, .ref 0), (1, .int x1), (2, .int x2), (3, .int x3), (5, .int x5), (6, .int x6), (7, .int x7)] [.int v2] s1
    refine X_if_eq C dX6_reading_59 (tgt := 97) (by decide) (fun c => ?_) (fun c => ?_)
    · replace h := h.1 c
      refine X_iinc C dX6_reading_97 (j := 6) rfl (v := x7 + 1) rfl (by decide) (L' := [(7, .int (x7 + 1)), (0, .ref 0), (1, .int x1), (2, .int x2), (3, .int x3), (5, .int x5), (6, .int x6)]) rfl ?_
      refine X_goto C dX6_reading_100 (tgt := 44) (by decide) ?_
      refine X_loc [1, 2, 3, 4, 5, 6, 0] rfl ?_
      exact h
    · replace h := h.2 c
      refine X_iload C dX6_reading_62 (j := 4) rfl ?_
      refine X_iload_n C dX6_reading_64 rfl (j := 3) rfl ?_
      refine X_icmp_ne C dX6_reading_65 (tgt := 94) (by decide) (fun c => ?_) (fun c => ?_)
      · replace h := h.1 c
        refine X_iinc C dX6_reading_94 (j := 4) rfl (v := x5 + 1) rfl (by decide) (L' := [(5, .int (x5 + 1)), (0, .ref 0), (1, .int x1), (2, .int x2), (3, .int x3), (6, .int x6), (7, .int x7)]) rfl ?_
        refine X_iinc C dX6_reading_97 (j := 6) rfl (v := x7 + 1) rfl (by decide) (L' := [(7, .int (x7 + 1)), (5, .int (x5 + 1)), (0, .ref 0), (1, .int x1), (2, .int x2), (3, .int x3), (6, .int x6)]) rfl ?_
        refine X_goto C dX6_reading_100 (tgt := 44) (by decide) ?_
        refine X_loc [2, 3, 4, 5, 1, 6, 0] rfl ?_
        exact h
      · replace h := h.2 c
        refine X_ldcw C (v := 100000) u_840 dX6_reading_68 ?_
        refine X_iload C dX6_reading_71 (j := 6) rfl ?_
        refine X_callS C dX6_reading_73 pw_RX6_232 (as := [.int x7]) (S := [.int 100000]) rfl rfl (Nat.le_of_ble_eq_true rfl) (Ct_mono h ?_)
        rintro _ s3 ⟨v4, rfl, h⟩
        show X κ 76 [(0, .ref 0), (1, .int x1), (2, .int x2), (3, .int x3), (5, .int x5), (6, .int x6), (7, .int x7)] [.int v4, .int 100000] s3
        refine X_imul C dX6_reading_76 ?_
        refine X_sipush C (v := 1000) (by decide) dX6_reading_77 ?_
        refine X_iload C dX6_reading_80 (j := 6) rfl ?_
        refine X_callS C dX6_reading_82 pw_RX6_238 (as := [.int x7]) (S := [.int 1000, .int (100000 * v4)]) rfl rfl (Nat.le_of_ble_eq_true rfl) (Ct_mono h ?_)
        rintro _ s5 ⟨v6, rfl, h⟩
        show X κ 85 [(0, .ref 0), (1, .int x1), (2, .int x2), (3, .int x3), (5, .int x5), (6, .int x6), (7, .int x7)] [.int v6, .int 1000, .int (100000 * v4)] s5
        refine X_imul C dX6_reading_85 ?_
        refine X_iadd C dX6_reading_86 ?_
        refine X_iload C dX6_reading_87 (j := 6) rfl ?_
        refine X_callS C dX6_reading_89 pw_RX6_235 (as := [.int x7]) (S := [.int ((100000 * v4) + (1000 * v6))]) rfl rfl (Nat.le_of_ble_eq_true rfl) (Ct_mono h ?_)
        rintro _ s7 ⟨v8, rfl, h⟩
        show X κ 92 [(0, .ref 0), (1, .int x1), (2, .int x2), (3, .int x3), (5, .int x5), (6, .int x6), (7, .int x7)] [.int v8, .int ((100000 * v4) + (1000 * v6))] s7
        refine X_iadd C dX6_reading_92 ?_
        exact X_iret C Z rfl dX6_reading_93 h
set_option maxHeartbeats 4000000 in
set_option maxRecDepth 100000 in
theorem eX6_reading {d : Nat} {Q : Option Value → xSt → Prop} (a1 : Int32) (a2 : Int32) (a3 : Int32) (st : xSt) (h : ∀ κ : xK, Cx κ M_X6_reading (d + 1) → xR κ Q → Ct d M_X6_isTale [.ref 0, .int a1, .int a2] st (Qi fun v2 s1 => ((v2 = 0 → Q (some (.int ((-2)))) s1) ∧ (¬ v2 = 0 → ((0 ≤ a3 → Ct d M_X6_missing [.ref 0, .int a1, .int a2] s1 (Qi fun v4 s3 => ((v4 = 0 → Ct d M_X6_allWalks [.ref 0] s3 (Qi fun v6 s5 => X κ 44 [(0, .ref 0), (1, .int a1), (2, .int a2), (3, .int a3), (5, .int 0), (6, .int v6), (7, .int 0)] [] s5)) ∧ (¬ v4 = 0 → Q (some (.int v4)) s3)))) ∧ (¬ 0 ≤ a3 → Q (some (.int ((-2)))) s1)))))) : Ct (d + 1) M_X6_reading [.ref 0, .int a1, .int a2, .int a3] st Q := by
  refine Ct_of (by decide +kernel) (Nat.le_of_ble_eq_true rfl) (fun κ C Z => ?_)
  replace h := h κ C Z
  show X κ 0 [(0, .ref 0), (1, .int a1), (2, .int a2), (3, .int a3)] [] st
  refine X_aload_n C dX6_reading_0 rfl (j := 0) rfl ?_
  refine X_iload_n C dX6_reading_1 rfl (j := 1) rfl ?_
  refine X_iload_n C dX6_reading_2 rfl (j := 2) rfl ?_
  refine X_callV C dX6_reading_3 pw_RX6_244 (b := 0) (as := [.int a1, .int a2]) (S := []) sh_0 rfl rfl rfl (Nat.le_of_ble_eq_true rfl) (Ct_mono h ?_)
  rintro _ s1 ⟨v2, rfl, h⟩
  show X κ 6 [(0, .ref 0), (1, .int a1), (2, .int a2), (3, .int a3)] [.int v2] s1
  refine X_if_eq C dX6_reading_6 (tgt := 13) (by decide) (fun c => ?_) (fun c => ?_)
  · replace h := h.1 c
    refine X_bipush C (v := (-2)) (by decide) dX6_reading_13 ?_
    exact X_iret C Z rfl dX6_reading_15 h
  · replace h := h.2 c
    refine X_iload_n C dX6_reading_9 rfl (j := 3) rfl ?_
    refine X_if_ge C dX6_reading_10 (tgt := 16) (by decide) (fun c => ?_) (fun c => ?_)
    · replace h := h.1 c
      refine X_aload_n C dX6_reading_16 rfl (j := 0) rfl ?_
      refine X_iload_n C dX6_reading_17 rfl (j := 1) rfl ?_
      refine X_iload_n C dX6_reading_18 rfl (j := 2) rfl ?_
      refine X_callV C dX6_reading_19 pw_RX6_247 (b := 0) (as := [.int a1, .int a2]) (S := []) sh_0 rfl rfl rfl (Nat.le_of_ble_eq_true rfl) (Ct_mono h ?_)
      rintro _ s3 ⟨v4, rfl, h⟩
      show X κ 22 [(0, .ref 0), (1, .int a1), (2, .int a2), (3, .int a3)] [.int v4] s3
      refine X_istore C dX6_reading_22 (by decide) (L' := [(4, .int v4), (0, .ref 0), (1, .int a1), (2, .int a2), (3, .int a3)]) rfl ?_
      refine X_iload C dX6_reading_24 (j := 0) rfl ?_
      refine X_if_eq C dX6_reading_26 (tgt := 32) (by decide) (fun c => ?_) (fun c => ?_)
      · replace h := h.1 c
        refine X_iconst C (v := 0) (by decide) dX6_reading_32 ?_
        refine X_istore C dX6_reading_33 (by decide) (L' := [(5, .int 0), (4, .int v4), (0, .ref 0), (1, .int a1), (2, .int a2), (3, .int a3)]) rfl ?_
        refine X_aload_n C dX6_reading_35 rfl (j := 2) rfl ?_
        refine X_callV C dX6_reading_36 pw_RX6_250 (b := 0) (as := []) (S := []) sh_0 rfl rfl rfl (Nat.le_of_ble_eq_true rfl) (Ct_mono h ?_)
        rintro _ s5 ⟨v6, rfl, h⟩
        show X κ 39 [(5, .int 0), (4, .int v4), (0, .ref 0), (1, .int a1), (2, .int a2), (3, .int a3)] [.int v6] s5
        refine X_istore C dX6_reading_39 (by decide) (L' := [(6, .int v6), (5, .int 0), (4, .int v4), (0, .ref 0), (1, .int a1), (2, .int a2), (3, .int a3)]) rfl ?_
        refine X_iconst C (v := 0) (by decide) dX6_reading_41 ?_
        refine X_istore C dX6_reading_42 (by decide) (L' := [(7, .int 0), (6, .int v6), (5, .int 0), (4, .int v4), (0, .ref 0), (1, .int a1), (2, .int a2), (3, .int a3)]) rfl ?_
        refine X_loc [4, 5, 6, 7, 2, 1, 0] rfl ?_
        exact h
      · replace h := h.2 c
        refine X_iload C dX6_reading_29 (j := 0) rfl ?_
        exact X_iret C Z rfl dX6_reading_31 h
    · replace h := h.2 c
      refine X_bipush C (v := (-2)) (by decide) dX6_reading_13 ?_
      exact X_iret C Z rfl dX6_reading_15 h
set_option maxHeartbeats 4000000 in
set_option maxRecDepth 100000 in
theorem eX6_fits {d : Nat} {Q : Option Value → xSt → Prop} (a1 : Int32) (a2 : Int32) (a3 : Int32) (a4 : Int32) (a5 : Int32) (st : xSt) (h : Ct d M_X6_isTale [.ref 0, .int a1, .int a2] st (Qi fun v2 s1 => ((v2 = 0 → Q (some (.int ((-2)))) s1) ∧ (¬ v2 = 0 → Ct d M_X6_isWalk [.ref 0, .int a3, .int a4, .int a5] s1 (Qi fun v4 s3 => ((¬ v4 = 0 → Ct d M_X6_missing [.ref 0, .int a1, .int a2] s3 (Qi fun v6 s5 => ((v6 = 0 → Ct d M_X6_tells [.ref 0, .int a1, .int a2, .int a3, .int a4, .int a5] s5 (Qi fun v8 s7 => ((v8 = 0 → Q (some (.int 0)) s7) ∧ (¬ v8 = 0 → Q (some (.int 1)) s7)))) ∧ (¬ v6 = 0 → Q (some (.int v6)) s5)))) ∧ (v4 = 0 → Q (some (.int ((-2)))) s3))))))) : Ct (d + 1) M_X6_fits [.ref 0, .int a1, .int a2, .int a3, .int a4, .int a5] st Q := by
  refine Ct_of (by decide +kernel) (Nat.le_of_ble_eq_true rfl) (fun κ C Z => ?_)
  show X κ 0 [(0, .ref 0), (1, .int a1), (2, .int a2), (3, .int a3), (4, .int a4), (5, .int a5)] [] st
  refine X_aload_n C dX6_fits_0 rfl (j := 0) rfl ?_
  refine X_iload_n C dX6_fits_1 rfl (j := 1) rfl ?_
  refine X_iload_n C dX6_fits_2 rfl (j := 2) rfl ?_
  refine X_callV C dX6_fits_3 pw_RX6_244 (b := 0) (as := [.int a1, .int a2]) (S := []) sh_0 rfl rfl rfl (Nat.le_of_ble_eq_true rfl) (Ct_mono h ?_)
  rintro _ s1 ⟨v2, rfl, h⟩
  show X κ 6 [(0, .ref 0), (1, .int a1), (2, .int a2), (3, .int a3), (4, .int a4), (5, .int a5)] [.int v2] s1
  refine X_if_eq C dX6_fits_6 (tgt := 21) (by decide) (fun c => ?_) (fun c => ?_)
  · replace h := h.1 c
    refine X_bipush C (v := (-2)) (by decide) dX6_fits_21 ?_
    exact X_iret C Z rfl dX6_fits_23 h
  · replace h := h.2 c
    refine X_aload_n C dX6_fits_9 rfl (j := 0) rfl ?_
    refine X_iload_n C dX6_fits_10 rfl (j := 3) rfl ?_
    refine X_iload C dX6_fits_11 (j := 4) rfl ?_
    refine X_iload C dX6_fits_13 (j := 5) rfl ?_
    refine X_callV C dX6_fits_15 pw_RX6_257 (b := 0) (as := [.int a3, .int a4, .int a5]) (S := []) sh_0 rfl rfl rfl (Nat.le_of_ble_eq_true rfl) (Ct_mono h ?_)
    rintro _ s3 ⟨v4, rfl, h⟩
    show X κ 18 [(0, .ref 0), (1, .int a1), (2, .int a2), (3, .int a3), (4, .int a4), (5, .int a5)] [.int v4] s3
    refine X_if_ne C dX6_fits_18 (tgt := 24) (by decide) (fun c => ?_) (fun c => ?_)
    · replace h := h.1 c
      refine X_aload_n C dX6_fits_24 rfl (j := 0) rfl ?_
      refine X_iload_n C dX6_fits_25 rfl (j := 1) rfl ?_
      refine X_iload_n C dX6_fits_26 rfl (j := 2) rfl ?_
      refine X_callV C dX6_fits_27 pw_RX6_247 (b := 0) (as := [.int a1, .int a2]) (S := []) sh_0 rfl rfl rfl (Nat.le_of_ble_eq_true rfl) (Ct_mono h ?_)
      rintro _ s5 ⟨v6, rfl, h⟩
      show X κ 30 [(0, .ref 0), (1, .int a1), (2, .int a2), (3, .int a3), (4, .int a4), (5, .int a5)] [.int v6] s5
      refine X_istore C dX6_fits_30 (by decide) (L' := [(6, .int v6), (0, .ref 0), (1, .int a1), (2, .int a2), (3, .int a3), (4, .int a4), (5, .int a5)]) rfl ?_
      refine X_iload C dX6_fits_32 (j := 0) rfl ?_
      refine X_if_eq C dX6_fits_34 (tgt := 40) (by decide) (fun c => ?_) (fun c => ?_)
      · replace h := h.1 c
        refine X_aload_n C dX6_fits_40 rfl (j := 1) rfl ?_
        refine X_iload_n C dX6_fits_41 rfl (j := 2) rfl ?_
        refine X_iload_n C dX6_fits_42 rfl (j := 3) rfl ?_
        refine X_iload_n C dX6_fits_43 rfl (j := 4) rfl ?_
        refine X_iload C dX6_fits_44 (j := 5) rfl ?_
        refine X_iload C dX6_fits_46 (j := 6) rfl ?_
        refine X_callV C dX6_fits_48 pw_RX6_241 (b := 0) (as := [.int a1, .int a2, .int a3, .int a4, .int a5]) (S := []) sh_0 rfl rfl rfl (Nat.le_of_ble_eq_true rfl) (Ct_mono h ?_)
        rintro _ s7 ⟨v8, rfl, h⟩
        show X κ 51 [(6, .int v6), (0, .ref 0), (1, .int a1), (2, .int a2), (3, .int a3), (4, .int a4), (5, .int a5)] [.int v8] s7
        refine X_if_eq C dX6_fits_51 (tgt := 58) (by decide) (fun c => ?_) (fun c => ?_)
        · replace h := h.1 c
          refine X_iconst C (v := 0) (by decide) dX6_fits_58 ?_
          exact X_iret C Z rfl dX6_fits_59 h
        · replace h := h.2 c
          refine X_iconst C (v := 1) (by decide) dX6_fits_54 ?_
          refine X_goto C dX6_fits_55 (tgt := 59) (by decide) ?_
          exact X_iret C Z rfl dX6_fits_59 h
      · replace h := h.2 c
        refine X_iload C dX6_fits_37 (j := 0) rfl ?_
        exact X_iret C Z rfl dX6_fits_39 h
    · replace h := h.2 c
      refine X_bipush C (v := (-2)) (by decide) dX6_fits_21 ?_
      exact X_iret C Z rfl dX6_fits_23 h
set_option maxHeartbeats 4000000 in
set_option maxRecDepth 100000 in
theorem eX6_isWalk {d : Nat} {Q : Option Value → xSt → Prop} (a1 : Int32) (a2 : Int32) (a3 : Int32) (st : xSt) (h : Ct d M_X0_has [.ref 2, .int a1] st (Qi fun v2 s1 => ((v2 = 0 → Q (some (.int 0)) s1) ∧ (¬ v2 = 0 → Ct d M_X6_within [.int a2, .int 1, .int 99] s1 (Qi fun v4 s3 => ((v4 = 0 → Q (some (.int 0)) s3) ∧ (¬ v4 = 0 → Ct d M_X6_within [.int a3, .int 1, .int 20] s3 (Qi fun v6 s5 => ((v6 = 0 → Q (some (.int 0)) s5) ∧ (¬ v6 = 0 → Q (some (.int 1)) s5)))))))))) : Ct (d + 1) M_X6_isWalk [.ref 0, .int a1, .int a2, .int a3] st Q := by
  refine Ct_of (by decide +kernel) (Nat.le_of_ble_eq_true rfl) (fun κ C Z => ?_)
  show X κ 0 [(0, .ref 0), (1, .int a1), (2, .int a2), (3, .int a3)] [] st
  refine X_aload_n C dX6_isWalk_0 rfl (j := 0) rfl ?_
  refine X_getR C sh_0 rfl fw_RX6_19 dX6_isWalk_1 ?_
  refine X_iload_n C dX6_isWalk_4 rfl (j := 1) rfl ?_
  refine X_callV C dX6_isWalk_5 pw_RX6_81 (b := 2) (as := [.int a1]) (S := []) sh_2 rfl rfl rfl (Nat.le_of_ble_eq_true rfl) (Ct_mono h ?_)
  rintro _ s1 ⟨v2, rfl, h⟩
  show X κ 8 [(0, .ref 0), (1, .int a1), (2, .int a2), (3, .int a3)] [.int v2] s1
  refine X_if_eq C dX6_isWalk_8 (tgt := 35) (by decide) (fun c => ?_) (fun c => ?_)
  · replace h := h.1 c
    refine X_iconst C (v := 0) (by decide) dX6_isWalk_35 ?_
    exact X_zret C Z rfl (by decide) dX6_isWalk_36 h
  · replace h := h.2 c
    refine X_iload_n C dX6_isWalk_11 rfl (j := 2) rfl ?_
    refine X_iconst C (v := 1) (by decide) dX6_isWalk_12 ?_
    refine X_bipush C (v := 99) (by decide) dX6_isWalk_13 ?_
    refine X_callS C dX6_isWalk_15 pw_RX6_55 (as := [.int a2, .int 1, .int 99]) (S := []) rfl rfl (Nat.le_of_ble_eq_true rfl) (Ct_mono h ?_)
    rintro _ s3 ⟨v4, rfl, h⟩
    show X κ 18 [(0, .ref 0), (1, .int a1), (2, .int a2), (3, .int a3)] [.int v4] s3
    refine X_if_eq C dX6_isWalk_18 (tgt := 35) (by decide) (fun c => ?_) (fun c => ?_)
    · replace h := h.1 c
      refine X_iconst C (v := 0) (by decide) dX6_isWalk_35 ?_
      exact X_zret C Z rfl (by decide) dX6_isWalk_36 h
    · replace h := h.2 c
      refine X_iload_n C dX6_isWalk_21 rfl (j := 3) rfl ?_
      refine X_iconst C (v := 1) (by decide) dX6_isWalk_22 ?_
      refine X_bipush C (v := 20) (by decide) dX6_isWalk_23 ?_
      refine X_callS C dX6_isWalk_25 pw_RX6_55 (as := [.int a3, .int 1, .int 20]) (S := []) rfl rfl (Nat.le_of_ble_eq_true rfl) (Ct_mono h ?_)
      rintro _ s5 ⟨v6, rfl, h⟩
      show X κ 28 [(0, .ref 0), (1, .int a1), (2, .int a2), (3, .int a3)] [.int v6] s5
      refine X_if_eq C dX6_isWalk_28 (tgt := 35) (by decide) (fun c => ?_) (fun c => ?_)
      · replace h := h.1 c
        refine X_iconst C (v := 0) (by decide) dX6_isWalk_35 ?_
        exact X_zret C Z rfl (by decide) dX6_isWalk_36 h
      · replace h := h.2 c
        refine X_iconst C (v := 1) (by decide) dX6_isWalk_31 ?_
        refine X_goto C dX6_isWalk_32 (tgt := 36) (by decide) ?_
        exact X_zret C Z rfl (by decide) dX6_isWalk_36 h
set_option maxHeartbeats 4000000 in
set_option maxRecDepth 100000 in
theorem eX6_type {d : Nat} {Q : Option Value → xSt → Prop} (a1 : Int32) (st : xSt) (h : Ct d M_X6_within [.int a1, .int 0, .int 255] st (Qi fun v2 s1 => ((v2 = 0 → Q (some (.int ((-2)))) s1) ∧ (¬ v2 = 0 → Ct d M_X5_append [.ref 6, .int a1] s1 (Qi fun v4 s3 => Q (some (.int v4)) s3))))) : Ct (d + 1) M_X6_type [.ref 0, .int a1] st Q := by
  refine Ct_of (by decide +kernel) (Nat.le_of_ble_eq_true rfl) (fun κ C Z => ?_)
  show X κ 0 [(0, .ref 0), (1, .int a1)] [] st
  refine X_iload_n C dX6_type_0 rfl (j := 1) rfl ?_
  refine X_iconst C (v := 0) (by decide) dX6_type_1 ?_
  refine X_sipush C (v := 255) (by decide) dX6_type_2 ?_
  refine X_callS C dX6_type_5 pw_RX6_55 (as := [.int a1, .int 0, .int 255]) (S := []) rfl rfl (Nat.le_of_ble_eq_true rfl) (Ct_mono h ?_)
  rintro _ s1 ⟨v2, rfl, h⟩
  show X κ 8 [(0, .ref 0), (1, .int a1)] [.int v2] s1
  refine X_if_eq C dX6_type_8 (tgt := 22) (by decide) (fun c => ?_) (fun c => ?_)
  · replace h := h.1 c
    refine X_bipush C (v := (-2)) (by decide) dX6_type_22 ?_
    exact X_iret C Z rfl dX6_type_24 h
  · replace h := h.2 c
    refine X_aload_n C dX6_type_11 rfl (j := 0) rfl ?_
    refine X_getR C sh_0 rfl fw_RX6_47 dX6_type_12 ?_
    refine X_iload_n C dX6_type_15 rfl (j := 1) rfl ?_
    refine X_callV C dX6_type_16 pw_RX6_260 (b := 6) (as := [.int a1]) (S := []) sh_6 rfl rfl rfl (Nat.le_of_ble_eq_true rfl) (Ct_mono h ?_)
    rintro _ s3 ⟨v4, rfl, h⟩
    show X κ 19 [(0, .ref 0), (1, .int a1)] [.int v4] s3
    refine X_goto C dX6_type_19 (tgt := 24) (by decide) ?_
    exact X_iret C Z rfl dX6_type_24 h
set_option maxHeartbeats 4000000 in
set_option maxRecDepth 100000 in
theorem eX6_hush {d : Nat} {Q : Option Value → xSt → Prop} (st : xSt) (h : Ct d M_X5_empty [.ref 6] st (Qi fun v2 s1 => Q (some (.int v2)) s1)) : Ct (d + 1) M_X6_hush [.ref 0] st Q := by
  refine Ct_of (by decide +kernel) (Nat.le_of_ble_eq_true rfl) (fun κ C Z => ?_)
  show X κ 0 [(0, .ref 0)] [] st
  refine X_aload_n C dX6_hush_0 rfl (j := 0) rfl ?_
  refine X_getR C sh_0 rfl fw_RX6_47 dX6_hush_1 ?_
  refine X_callV C dX6_hush_4 pw_RX6_263 (b := 6) (as := []) (S := []) sh_6 rfl rfl rfl (Nat.le_of_ble_eq_true rfl) (Ct_mono h ?_)
  rintro _ s1 ⟨v2, rfl, h⟩
  show X κ 7 [(0, .ref 0)] [.int v2] s1
  exact X_iret C Z rfl dX6_hush_7 h
set_option maxHeartbeats 4000000 in
set_option maxRecDepth 100000 in
theorem eX6_fault {d : Nat} {Q : Option Value → xSt → Prop} (st : xSt) (h : Ct d M_X5_read [.ref 6, .int 1] st (Qv fun s1 => Ct d M_X5_stop [.ref 6] s1 (Qi fun v3 s2 => Q (some (.int v3)) s2))) : Ct (d + 1) M_X6_fault [.ref 0] st Q := by
  refine Ct_of (by decide +kernel) (Nat.le_of_ble_eq_true rfl) (fun κ C Z => ?_)
  show X κ 0 [(0, .ref 0)] [] st
  refine X_aload_n C dX6_fault_0 rfl (j := 0) rfl ?_
  refine X_getR C sh_0 rfl fw_RX6_47 dX6_fault_1 ?_
  refine X_iconst C (v := 1) (by decide) dX6_fault_4 ?_
  refine X_callV C dX6_fault_5 pw_RX6_264 (b := 6) (as := [.int 1]) (S := []) sh_6 rfl rfl rfl (Nat.le_of_ble_eq_true rfl) (Ct_mono h ?_)
  rintro _ s1 ⟨rfl, h⟩
  show X κ 8 [(0, .ref 0)] [] s1
  refine X_aload_n C dX6_fault_8 rfl (j := 0) rfl ?_
  refine X_getR C sh_0 rfl fw_RX6_47 dX6_fault_9 ?_
  refine X_callV C dX6_fault_12 pw_RX6_268 (b := 6) (as := []) (S := []) sh_6 rfl rfl rfl (Nat.le_of_ble_eq_true rfl) (Ct_mono h ?_)
  rintro _ s2 ⟨v3, rfl, h⟩
  show X κ 15 [(0, .ref 0)] [.int v3] s2
  exact X_iret C Z rfl dX6_fault_15 h
set_option maxHeartbeats 4000000 in
set_option maxRecDepth 100000 in
theorem eX6_speech {d : Nat} {Q : Option Value → xSt → Prop} (a1 : Int32) (st : xSt) (h : Ct d M_X0_has [.ref 2, .int a1] st (Qi fun v2 s1 => ((¬ v2 = 0 → Ct d M_X0_places [.ref 2, .int a1] s1 (Qi fun v4 s3 => Ct d M_X5_read [.ref 6, .int v4] s3 (Qv fun s5 => Ct d M_X5_stop [.ref 6] s5 (Qi fun v7 s6 => ((¬ v7 = ((-1)) → Q (some (.int ((-100001)))) s6) ∧ (v7 = ((-1)) → Ct d M_X5_isBeyond [.ref 6] s6 (Qi fun v9 s8 => ((v9 = 0 → Ct d M_X5_total [.ref 6] s8 (Qi fun v11 s10 => Q (some (.int v11)) s10)) ∧ (¬ v9 = 0 → Q (some (.int ((-100001)))) s8))))))))) ∧ (v2 = 0 → Q (some (.int ((-100000)))) s1)))) : Ct (d + 1) M_X6_speech [.ref 0, .int a1] st Q := by
  refine Ct_of (by decide +kernel) (Nat.le_of_ble_eq_true rfl) (fun κ C Z => ?_)
  show X κ 0 [(0, .ref 0), (1, .int a1)] [] st
  refine X_aload_n C dX6_speech_0 rfl (j := 0) rfl ?_
  refine X_getR C sh_0 rfl fw_RX6_19 dX6_speech_1 ?_
  refine X_iload_n C dX6_speech_4 rfl (j := 1) rfl ?_
  refine X_callV C dX6_speech_5 pw_RX6_81 (b := 2) (as := [.int a1]) (S := []) sh_2 rfl rfl rfl (Nat.le_of_ble_eq_true rfl) (Ct_mono h ?_)
  rintro _ s1 ⟨v2, rfl, h⟩
  show X κ 8 [(0, .ref 0), (1, .int a1)] [.int v2] s1
  refine X_if_ne C dX6_speech_8 (tgt := 14) (by decide) (fun c => ?_) (fun c => ?_)
  · replace h := h.1 c
    refine X_aload_n C dX6_speech_14 rfl (j := 0) rfl ?_
    refine X_getR C sh_0 rfl fw_RX6_47 dX6_speech_15 ?_
    refine X_aload_n C dX6_speech_18 rfl (j := 0) rfl ?_
    refine X_getR C sh_0 rfl fw_RX6_19 dX6_speech_19 ?_
    refine X_iload_n C dX6_speech_22 rfl (j := 1) rfl ?_
    refine X_callV C dX6_speech_23 pw_RX6_88 (b := 2) (as := [.int a1]) (S := [.ref 6]) sh_2 rfl rfl rfl (Nat.le_of_ble_eq_true rfl) (Ct_mono h ?_)
    rintro _ s3 ⟨v4, rfl, h⟩
    show X κ 26 [(0, .ref 0), (1, .int a1)] [.int v4, .ref 6] s3
    refine X_callV C dX6_speech_26 pw_RX6_264 (b := 6) (as := [.int v4]) (S := []) sh_6 rfl rfl rfl (Nat.le_of_ble_eq_true rfl) (Ct_mono h ?_)
    rintro _ s5 ⟨rfl, h⟩
    show X κ 29 [(0, .ref 0), (1, .int a1)] [] s5
    refine X_aload_n C dX6_speech_29 rfl (j := 0) rfl ?_
    refine X_getR C sh_0 rfl fw_RX6_47 dX6_speech_30 ?_
    refine X_callV C dX6_speech_33 pw_RX6_268 (b := 6) (as := []) (S := []) sh_6 rfl rfl rfl (Nat.le_of_ble_eq_true rfl) (Ct_mono h ?_)
    rintro _ s6 ⟨v7, rfl, h⟩
    show X κ 36 [(0, .ref 0), (1, .int a1)] [.int v7] s6
    refine X_iconst C (v := (-1)) (by decide) dX6_speech_36 ?_
    refine X_icmp_ne C dX6_speech_37 (tgt := 50) (by decide) (fun c => ?_) (fun c => ?_)
    · replace h := h.1 c
      refine X_ldcw C (v := (-100001)) u_902 dX6_speech_50 ?_
      refine X_goto C dX6_speech_53 (tgt := 63) (by decide) ?_
      exact X_iret C Z rfl dX6_speech_63 h
    · replace h := h.2 c
      refine X_aload_n C dX6_speech_40 rfl (j := 0) rfl ?_
      refine X_getR C sh_0 rfl fw_RX6_47 dX6_speech_41 ?_
      refine X_callV C dX6_speech_44 pw_RX6_271 (b := 6) (as := []) (S := []) sh_6 rfl rfl rfl (Nat.le_of_ble_eq_true rfl) (Ct_mono h ?_)
      rintro _ s8 ⟨v9, rfl, h⟩
      show X κ 47 [(0, .ref 0), (1, .int a1)] [.int v9] s8
      refine X_if_eq C dX6_speech_47 (tgt := 56) (by decide) (fun c => ?_) (fun c => ?_)
      · replace h := h.1 c
        refine X_aload_n C dX6_speech_56 rfl (j := 0) rfl ?_
        refine X_getR C sh_0 rfl fw_RX6_47 dX6_speech_57 ?_
        refine X_callV C dX6_speech_60 pw_RX6_275 (b := 6) (as := []) (S := []) sh_6 rfl rfl rfl (Nat.le_of_ble_eq_true rfl) (Ct_mono h ?_)
        rintro _ s10 ⟨v11, rfl, h⟩
        show X κ 63 [(0, .ref 0), (1, .int a1)] [.int v11] s10
        exact X_iret C Z rfl dX6_speech_63 h
      · replace h := h.2 c
        refine X_ldcw C (v := (-100001)) u_902 dX6_speech_50 ?_
        refine X_goto C dX6_speech_53 (tgt := 63) (by decide) ?_
        exact X_iret C Z rfl dX6_speech_63 h
  · replace h := h.2 c
    refine X_ldc C (v := (-100000)) u_667 dX6_speech_11 ?_
    exact X_iret C Z rfl dX6_speech_13 h
set_option maxHeartbeats 4000000 in
set_option maxRecDepth 100000 in
theorem eX6_sheet {d : Nat} {Q : Option Value → xSt → Prop} (a1 : Int32) (a2 : Int32) (a3 : Int32) (st : xSt) (h : Ct d M_X4_named [.ref 1, .int a1] st (Qi fun v2 s1 => ((v2 = 0 → Q (some (.int ((-2)))) s1) ∧ (¬ v2 = 0 → Ct d M_X4_isForm [.int a2] s1 (Qi fun v4 s3 => ((v4 = 0 → Q (some (.int ((-2)))) s3) ∧ (¬ v4 = 0 → ((a3 ≤ 60 → ((0 ≤ a3 → Ct d M_X4_renew [.ref 1, .int a1, .int a2, .int a3] s3 (Qi fun v6 s5 => Q (some (.int v6)) s5)) ∧ (¬ 0 ≤ a3 → Ct d M_X4_find [.ref 1, .int 5] s3 (Qi fun v8 s7 => Q (some (.int v8)) s7)))) ∧ (¬ a3 ≤ 60 → Q (some (.int ((-2)))) s3))))))))) : Ct (d + 1) M_X6_sheet [.ref 0, .int a1, .int a2, .int a3] st Q := by
  refine Ct_of (by decide +kernel) (Nat.le_of_ble_eq_true rfl) (fun κ C Z => ?_)
  show X κ 0 [(0, .ref 0), (1, .int a1), (2, .int a2), (3, .int a3)] [] st
  refine X_aload_n C dX6_sheet_0 rfl (j := 0) rfl ?_
  refine X_getR C sh_0 rfl fw_RX6_10 dX6_sheet_1 ?_
  refine X_iload_n C dX6_sheet_4 rfl (j := 1) rfl ?_
  refine X_callV C dX6_sheet_5 pw_RX6_51 (b := 1) (as := [.int a1]) (S := []) sh_1 rfl rfl rfl (Nat.le_of_ble_eq_true rfl) (Ct_mono h ?_)
  rintro _ s1 ⟨v2, rfl, h⟩
  show X κ 8 [(0, .ref 0), (1, .int a1), (2, .int a2), (3, .int a3)] [.int v2] s1
  refine X_if_eq C dX6_sheet_8 (tgt := 24) (by decide) (fun c => ?_) (fun c => ?_)
  · replace h := h.1 c
    refine X_bipush C (v := (-2)) (by decide) dX6_sheet_24 ?_
    exact X_iret C Z rfl dX6_sheet_26 h
  · replace h := h.2 c
    refine X_iload_n C dX6_sheet_11 rfl (j := 2) rfl ?_
    refine X_callS C dX6_sheet_12 pw_RX6_278 (as := [.int a2]) (S := []) rfl rfl (Nat.le_of_ble_eq_true rfl) (Ct_mono h ?_)
    rintro _ s3 ⟨v4, rfl, h⟩
    show X κ 15 [(0, .ref 0), (1, .int a1), (2, .int a2), (3, .int a3)] [.int v4] s3
    refine X_if_eq C dX6_sheet_15 (tgt := 24) (by decide) (fun c => ?_) (fun c => ?_)
    · replace h := h.1 c
      refine X_bipush C (v := (-2)) (by decide) dX6_sheet_24 ?_
      exact X_iret C Z rfl dX6_sheet_26 h
    · replace h := h.2 c
      refine X_iload_n C dX6_sheet_18 rfl (j := 3) rfl ?_
      refine X_bipush C (v := 60) (by decide) dX6_sheet_19 ?_
      refine X_icmp_le C dX6_sheet_21 (tgt := 27) (by decide) (fun c => ?_) (fun c => ?_)
      · replace h := h.1 c
        refine X_iload_n C dX6_sheet_27 rfl (j := 3) rfl ?_
        refine X_if_ge C dX6_sheet_28 (tgt := 42) (by decide) (fun c => ?_) (fun c => ?_)
        · replace h := h.1 c
          refine X_aload_n C dX6_sheet_42 rfl (j := 0) rfl ?_
          refine X_getR C sh_0 rfl fw_RX6_10 dX6_sheet_43 ?_
          refine X_iload_n C dX6_sheet_46 rfl (j := 1) rfl ?_
          refine X_iload_n C dX6_sheet_47 rfl (j := 2) rfl ?_
          refine X_iload_n C dX6_sheet_48 rfl (j := 3) rfl ?_
          refine X_callV C dX6_sheet_49 pw_RX6_281 (b := 1) (as := [.int a1, .int a2, .int a3]) (S := []) sh_1 rfl rfl rfl (Nat.le_of_ble_eq_true rfl) (Ct_mono h ?_)
          rintro _ s5 ⟨v6, rfl, h⟩
          show X κ 52 [(0, .ref 0), (1, .int a1), (2, .int a2), (3, .int a3)] [.int v6] s5
          exact X_iret C Z rfl dX6_sheet_52 h
        · replace h := h.2 c
          refine X_aload_n C dX6_sheet_31 rfl (j := 0) rfl ?_
          refine X_getR C sh_0 rfl fw_RX6_10 dX6_sheet_32 ?_
          refine X_iconst C (v := 5) (by decide) dX6_sheet_35 ?_
          refine X_callV C dX6_sheet_36 pw_RX6_62 (b := 1) (as := [.int 5]) (S := []) sh_1 rfl rfl rfl (Nat.le_of_ble_eq_true rfl) (Ct_mono h ?_)
          rintro _ s7 ⟨v8, rfl, h⟩
          show X κ 39 [(0, .ref 0), (1, .int a1), (2, .int a2), (3, .int a3)] [.int v8] s7
          refine X_goto C dX6_sheet_39 (tgt := 52) (by decide) ?_
          exact X_iret C Z rfl dX6_sheet_52 h
      · replace h := h.2 c
        refine X_bipush C (v := (-2)) (by decide) dX6_sheet_24 ?_
        exact X_iret C Z rfl dX6_sheet_26 h
set_option maxHeartbeats 4000000 in
set_option maxRecDepth 100000 in
theorem eX6_lose {d : Nat} {Q : Option Value → xSt → Prop} (a1 : Int32) (st : xSt) (h : Ct d M_X4_named [.ref 1, .int a1] st (Qi fun v2 s1 => ((¬ v2 = 0 → Ct d M_X4_lost [.ref 1, .int a1] s1 (Qi fun v4 s3 => ((v4 = 0 → Ct d M_X4_drop [.ref 1, .int a1] s3 (Qi fun v6 s5 => Q (some (.int v6)) s5)) ∧ (¬ v4 = 0 → Ct d M_X4_find [.ref 1, .int 1] s3 (Qi fun v8 s7 => Q (some (.int v8)) s7))))) ∧ (v2 = 0 → Q (some (.int ((-2)))) s1)))) : Ct (d + 1) M_X6_lose [.ref 0, .int a1] st Q := by
  refine Ct_of (by decide +kernel) (Nat.le_of_ble_eq_true rfl) (fun κ C Z => ?_)
  show X κ 0 [(0, .ref 0), (1, .int a1)] [] st
  refine X_aload_n C dX6_lose_0 rfl (j := 0) rfl ?_
  refine X_getR C sh_0 rfl fw_RX6_10 dX6_lose_1 ?_
  refine X_iload_n C dX6_lose_4 rfl (j := 1) rfl ?_
  refine X_callV C dX6_lose_5 pw_RX6_51 (b := 1) (as := [.int a1]) (S := []) sh_1 rfl rfl rfl (Nat.le_of_ble_eq_true rfl) (Ct_mono h ?_)
  rintro _ s1 ⟨v2, rfl, h⟩
  show X κ 8 [(0, .ref 0), (1, .int a1)] [.int v2] s1
  refine X_if_ne C dX6_lose_8 (tgt := 14) (by decide) (fun c => ?_) (fun c => ?_)
  · replace h := h.1 c
    refine X_aload_n C dX6_lose_14 rfl (j := 0) rfl ?_
    refine X_getR C sh_0 rfl fw_RX6_10 dX6_lose_15 ?_
    refine X_iload_n C dX6_lose_18 rfl (j := 1) rfl ?_
    refine X_callV C dX6_lose_19 pw_RX6_59 (b := 1) (as := [.int a1]) (S := []) sh_1 rfl rfl rfl (Nat.le_of_ble_eq_true rfl) (Ct_mono h ?_)
    rintro _ s3 ⟨v4, rfl, h⟩
    show X κ 22 [(0, .ref 0), (1, .int a1)] [.int v4] s3
    refine X_if_eq C dX6_lose_22 (tgt := 36) (by decide) (fun c => ?_) (fun c => ?_)
    · replace h := h.1 c
      refine X_aload_n C dX6_lose_36 rfl (j := 0) rfl ?_
      refine X_getR C sh_0 rfl fw_RX6_10 dX6_lose_37 ?_
      refine X_iload_n C dX6_lose_40 rfl (j := 1) rfl ?_
      refine X_callV C dX6_lose_41 pw_RX6_284 (b := 1) (as := [.int a1]) (S := []) sh_1 rfl rfl rfl (Nat.le_of_ble_eq_true rfl) (Ct_mono h ?_)
      rintro _ s5 ⟨v6, rfl, h⟩
      show X κ 44 [(0, .ref 0), (1, .int a1)] [.int v6] s5
      exact X_iret C Z rfl dX6_lose_44 h
    · replace h := h.2 c
      refine X_aload_n C dX6_lose_25 rfl (j := 0) rfl ?_
      refine X_getR C sh_0 rfl fw_RX6_10 dX6_lose_26 ?_
      refine X_iconst C (v := 1) (by decide) dX6_lose_29 ?_
      refine X_callV C dX6_lose_30 pw_RX6_62 (b := 1) (as := [.int 1]) (S := []) sh_1 rfl rfl rfl (Nat.le_of_ble_eq_true rfl) (Ct_mono h ?_)
      rintro _ s7 ⟨v8, rfl, h⟩
      show X κ 33 [(0, .ref 0), (1, .int a1)] [.int v8] s7
      refine X_goto C dX6_lose_33 (tgt := 44) (by decide) ?_
      exact X_iret C Z rfl dX6_lose_44 h
  · replace h := h.2 c
    refine X_bipush C (v := (-2)) (by decide) dX6_lose_11 ?_
    exact X_iret C Z rfl dX6_lose_13 h
set_option maxHeartbeats 4000000 in
set_option maxRecDepth 100000 in
theorem eX6_touch {d : Nat} {Q : Option Value → xSt → Prop} (a1 : Int32) (a2 : Int32) (a3 : Int32) (st : xSt) (h : Ct d M_X4_lost [.ref 1, .int a1] st (Qi fun v2 s1 => ((v2 = 0 → Ct d M_X4_formOf [.ref 1, .int a1] s1 (Qi fun v4 s3 => ((v4 = a2 → Ct d M_X4_sizeOf [.ref 1, .int a1] s3 (Qi fun v6 s5 => Ct d M_X6_within [.int a3, .int 0, .int (v6 - 1)] s5 (Qi fun v8 s7 => ((v8 = 0 → Ct d M_X4_find [.ref 1, .int 2] s7 (Qi fun v10 s9 => Q (some (.int v10)) s9)) ∧ (¬ v8 = 0 → Q (some (.int 0)) s7))))) ∧ (¬ v4 = a2 → Ct d M_X4_find [.ref 1, .int 3] s3 (Qi fun v12 s11 => Q (some (.int v12)) s11))))) ∧ (¬ v2 = 0 → Ct d M_X4_find [.ref 1, .int 1] s1 (Qi fun v14 s13 => Q (some (.int v14)) s13))))) : Ct (d + 1) M_X6_touch [.ref 0, .int a1, .int a2, .int a3] st Q := by
  refine Ct_of (by decide +kernel) (Nat.le_of_ble_eq_true rfl) (fun κ C Z => ?_)
  show X κ 0 [(0, .ref 0), (1, .int a1), (2, .int a2), (3, .int a3)] [] st
  refine X_aload_n C dX6_touch_0 rfl (j := 0) rfl ?_
  refine X_getR C sh_0 rfl fw_RX6_10 dX6_touch_1 ?_
  refine X_iload_n C dX6_touch_4 rfl (j := 1) rfl ?_
  refine X_callV C dX6_touch_5 pw_RX6_59 (b := 1) (as := [.int a1]) (S := []) sh_1 rfl rfl rfl (Nat.le_of_ble_eq_true rfl) (Ct_mono h ?_)
  rintro _ s1 ⟨v2, rfl, h⟩
  show X κ 8 [(0, .ref 0), (1, .int a1), (2, .int a2), (3, .int a3)] [.int v2] s1
  refine X_if_eq C dX6_touch_8 (tgt := 20) (by decide) (fun c => ?_) (fun c => ?_)
  · replace h := h.1 c
    refine X_aload_n C dX6_touch_20 rfl (j := 0) rfl ?_
    refine X_getR C sh_0 rfl fw_RX6_10 dX6_touch_21 ?_
    refine X_iload_n C dX6_touch_24 rfl (j := 1) rfl ?_
    refine X_callV C dX6_touch_25 pw_RX6_287 (b := 1) (as := [.int a1]) (S := []) sh_1 rfl rfl rfl (Nat.le_of_ble_eq_true rfl) (Ct_mono h ?_)
    rintro _ s3 ⟨v4, rfl, h⟩
    show X κ 28 [(0, .ref 0), (1, .int a1), (2, .int a2), (3, .int a3)] [.int v4] s3
    refine X_iload_n C dX6_touch_28 rfl (j := 2) rfl ?_
    refine X_icmp_eq C dX6_touch_29 (tgt := 41) (by decide) (fun c => ?_) (fun c => ?_)
    · replace h := h.1 c
      refine X_iload_n C dX6_touch_41 rfl (j := 3) rfl ?_
      refine X_iconst C (v := 0) (by decide) dX6_touch_42 ?_
      refine X_aload_n C dX6_touch_43 rfl (j := 0) rfl ?_
      refine X_getR C sh_0 rfl fw_RX6_10 dX6_touch_44 ?_
      refine X_iload_n C dX6_touch_47 rfl (j := 1) rfl ?_
      refine X_callV C dX6_touch_48 pw_RX6_66 (b := 1) (as := [.int a1]) (S := [.int 0, .int a3]) sh_1 rfl rfl rfl (Nat.le_of_ble_eq_true rfl) (Ct_mono h ?_)
      rintro _ s5 ⟨v6, rfl, h⟩
      show X κ 51 [(0, .ref 0), (1, .int a1), (2, .int a2), (3, .int a3)] [.int v6, .int 0, .int a3] s5
      refine X_iconst C (v := 1) (by decide) dX6_touch_51 ?_
      refine X_isub C dX6_touch_52 ?_
      refine X_callS C dX6_touch_53 pw_RX6_55 (as := [.int a3, .int 0, .int (v6 - 1)]) (S := []) rfl rfl (Nat.le_of_ble_eq_true rfl) (Ct_mono h ?_)
      rintro _ s7 ⟨v8, rfl, h⟩
      show X κ 56 [(0, .ref 0), (1, .int a1), (2, .int a2), (3, .int a3)] [.int v8] s7
      refine X_if_eq C dX6_touch_56 (tgt := 63) (by decide) (fun c => ?_) (fun c => ?_)
      · replace h := h.1 c
        refine X_aload_n C dX6_touch_63 rfl (j := 0) rfl ?_
        refine X_getR C sh_0 rfl fw_RX6_10 dX6_touch_64 ?_
        refine X_iconst C (v := 2) (by decide) dX6_touch_67 ?_
        refine X_callV C dX6_touch_68 pw_RX6_62 (b := 1) (as := [.int 2]) (S := []) sh_1 rfl rfl rfl (Nat.le_of_ble_eq_true rfl) (Ct_mono h ?_)
        rintro _ s9 ⟨v10, rfl, h⟩
        show X κ 71 [(0, .ref 0), (1, .int a1), (2, .int a2), (3, .int a3)] [.int v10] s9
        exact X_iret C Z rfl dX6_touch_71 h
      · replace h := h.2 c
        refine X_iconst C (v := 0) (by decide) dX6_touch_59 ?_
        refine X_goto C dX6_touch_60 (tgt := 71) (by decide) ?_
        exact X_iret C Z rfl dX6_touch_71 h
    · replace h := h.2 c
      refine X_aload_n C dX6_touch_32 rfl (j := 0) rfl ?_
      refine X_getR C sh_0 rfl fw_RX6_10 dX6_touch_33 ?_
      refine X_iconst C (v := 3) (by decide) dX6_touch_36 ?_
      refine X_callV C dX6_touch_37 pw_RX6_62 (b := 1) (as := [.int 3]) (S := []) sh_1 rfl rfl rfl (Nat.le_of_ble_eq_true rfl) (Ct_mono h ?_)
      rintro _ s11 ⟨v12, rfl, h⟩
      show X κ 40 [(0, .ref 0), (1, .int a1), (2, .int a2), (3, .int a3)] [.int v12] s11
      exact X_iret C Z rfl dX6_touch_40 h
  · replace h := h.2 c
    refine X_aload_n C dX6_touch_11 rfl (j := 0) rfl ?_
    refine X_getR C sh_0 rfl fw_RX6_10 dX6_touch_12 ?_
    refine X_iconst C (v := 1) (by decide) dX6_touch_15 ?_
    refine X_callV C dX6_touch_16 pw_RX6_62 (b := 1) (as := [.int 1]) (S := []) sh_1 rfl rfl rfl (Nat.le_of_ble_eq_true rfl) (Ct_mono h ?_)
    rintro _ s13 ⟨v14, rfl, h⟩
    show X κ 19 [(0, .ref 0), (1, .int a1), (2, .int a2), (3, .int a3)] [.int v14] s13
    exact X_iret C Z rfl dX6_touch_19 h
set_option maxHeartbeats 4000000 in
set_option maxRecDepth 100000 in
theorem eX6_put {d : Nat} {Q : Option Value → xSt → Prop} (a1 : Int32) (a2 : Int32) (a3 : Int32) (a4 : Int32) (st : xSt) (h : Ct d M_X4_named [.ref 1, .int a1] st (Qi fun v2 s1 => ((v2 = 0 → Q (some (.int ((-2)))) s1) ∧ (¬ v2 = 0 → Ct d M_X4_isForm [.int a2] s1 (Qi fun v4 s3 => ((¬ v4 = 0 → Ct d M_X6_touch [.ref 0, .int a1, .int a2, .int a3] s3 (Qi fun v6 s5 => ((¬ v6 = 0 → ((¬ v6 = 0 → Q (some (.int v6)) s5) ∧ (v6 = 0 → Q (some (.int 1)) s5))) ∧ (v6 = 0 → Ct d M_X4_store [.ref 1, .int a1, .int a3, .int a4] s5 (Qv fun s7 => ((¬ v6 = 0 → Q (some (.int v6)) s7) ∧ (v6 = 0 → Q (some (.int 1)) s7))))))) ∧ (v4 = 0 → Q (some (.int ((-2)))) s3))))))) : Ct (d + 1) M_X6_put [.ref 0, .int a1, .int a2, .int a3, .int a4] st Q := by
  refine Ct_of (by decide +kernel) (Nat.le_of_ble_eq_true rfl) (fun κ C Z => ?_)
  show X κ 0 [(0, .ref 0), (1, .int a1), (2, .int a2), (3, .int a3), (4, .int a4)] [] st
  refine X_aload_n C dX6_put_0 rfl (j := 0) rfl ?_
  refine X_getR C sh_0 rfl fw_RX6_10 dX6_put_1 ?_
  refine X_iload_n C dX6_put_4 rfl (j := 1) rfl ?_
  refine X_callV C dX6_put_5 pw_RX6_51 (b := 1) (as := [.int a1]) (S := []) sh_1 rfl rfl rfl (Nat.le_of_ble_eq_true rfl) (Ct_mono h ?_)
  rintro _ s1 ⟨v2, rfl, h⟩
  show X κ 8 [(0, .ref 0), (1, .int a1), (2, .int a2), (3, .int a3), (4, .int a4)] [.int v2] s1
  refine X_if_eq C dX6_put_8 (tgt := 18) (by decide) (fun c => ?_) (fun c => ?_)
  · replace h := h.1 c
    refine X_bipush C (v := (-2)) (by decide) dX6_put_18 ?_
    exact X_iret C Z rfl dX6_put_20 h
  · replace h := h.2 c
    refine X_iload_n C dX6_put_11 rfl (j := 2) rfl ?_
    refine X_callS C dX6_put_12 pw_RX6_278 (as := [.int a2]) (S := []) rfl rfl (Nat.le_of_ble_eq_true rfl) (Ct_mono h ?_)
    rintro _ s3 ⟨v4, rfl, h⟩
    show X κ 15 [(0, .ref 0), (1, .int a1), (2, .int a2), (3, .int a3), (4, .int a4)] [.int v4] s3
    refine X_if_ne C dX6_put_15 (tgt := 21) (by decide) (fun c => ?_) (fun c => ?_)
    · replace h := h.1 c
      refine X_aload_n C dX6_put_21 rfl (j := 0) rfl ?_
      refine X_iload_n C dX6_put_22 rfl (j := 1) rfl ?_
      refine X_iload_n C dX6_put_23 rfl (j := 2) rfl ?_
      refine X_iload_n C dX6_put_24 rfl (j := 3) rfl ?_
      refine X_callV C dX6_put_25 pw_RX6_290 (b := 0) (as := [.int a1, .int a2, .int a3]) (S := []) sh_0 rfl rfl rfl (Nat.le_of_ble_eq_true rfl) (Ct_mono h ?_)
      rintro _ s5 ⟨v6, rfl, h⟩
      show X κ 28 [(0, .ref 0), (1, .int a1), (2, .int a2), (3, .int a3), (4, .int a4)] [.int v6] s5
      refine X_istore C dX6_put_28 (by decide) (L' := [(5, .int v6), (0, .ref 0), (1, .int a1), (2, .int a2), (3, .int a3), (4, .int a4)]) rfl ?_
      refine X_iload C dX6_put_30 (j := 0) rfl ?_
      refine X_if_ne C dX6_put_32 (tgt := 46) (by decide) (fun c => ?_) (fun c => ?_)
      · replace h := h.1 c
        refine X_iload C dX6_put_46 (j := 0) rfl ?_
        refine X_if_ne C dX6_put_48 (tgt := 55) (by decide) (fun c => ?_) (fun c => ?_)
        · replace h := h.1 c
          refine X_iload C dX6_put_55 (j := 0) rfl ?_
          exact X_iret C Z rfl dX6_put_57 h
        · replace h := h.2 c
          refine X_iconst C (v := 1) (by decide) dX6_put_51 ?_
          refine X_goto C dX6_put_52 (tgt := 57) (by decide) ?_
          exact X_iret C Z rfl dX6_put_57 h
      · replace h := h.2 c
        refine X_aload_n C dX6_put_35 rfl (j := 1) rfl ?_
        refine X_getR C sh_0 rfl fw_RX6_10 dX6_put_36 ?_
        refine X_iload_n C dX6_put_39 rfl (j := 2) rfl ?_
        refine X_iload_n C dX6_put_40 rfl (j := 4) rfl ?_
        refine X_iload C dX6_put_41 (j := 5) rfl ?_
        refine X_callV C dX6_put_43 pw_RX6_293 (b := 1) (as := [.int a1, .int a3, .int a4]) (S := []) sh_1 rfl rfl rfl (Nat.le_of_ble_eq_true rfl) (Ct_mono h ?_)
        rintro _ s7 ⟨rfl, h⟩
        show X κ 46 [(5, .int v6), (0, .ref 0), (1, .int a1), (2, .int a2), (3, .int a3), (4, .int a4)] [] s7
        refine X_iload C dX6_put_46 (j := 0) rfl ?_
        refine X_if_ne C dX6_put_48 (tgt := 55) (by decide) (fun c => ?_) (fun c => ?_)
        · replace h := h.1 c
          refine X_iload C dX6_put_55 (j := 0) rfl ?_
          exact X_iret C Z rfl dX6_put_57 h
        · replace h := h.2 c
          refine X_iconst C (v := 1) (by decide) dX6_put_51 ?_
          refine X_goto C dX6_put_52 (tgt := 57) (by decide) ?_
          exact X_iret C Z rfl dX6_put_57 h
    · replace h := h.2 c
      refine X_bipush C (v := (-2)) (by decide) dX6_put_18 ?_
      exact X_iret C Z rfl dX6_put_20 h
set_option maxHeartbeats 4000000 in
set_option maxRecDepth 100000 in
theorem eX6_get {d : Nat} {Q : Option Value → xSt → Prop} (a1 : Int32) (a2 : Int32) (a3 : Int32) (st : xSt) (h : Ct d M_X4_named [.ref 1, .int a1] st (Qi fun v2 s1 => ((v2 = 0 → Q (some (.int ((-2147483648)))) s1) ∧ (¬ v2 = 0 → Ct d M_X4_isForm [.int a2] s1 (Qi fun v4 s3 => ((v4 = 0 → Q (some (.int ((-2147483648)))) s3) ∧ (¬ v4 = 0 → Ct d M_X6_touch [.ref 0, .int a1, .int a2, .int a3] s3 (Qi fun v6 s5 => ((v6 = 0 → Ct d M_X4_item [.ref 1, .int a1, .int a3] s5 (Qi fun v8 s7 => Q (some (.int v8)) s7)) ∧ (¬ v6 = 0 → Q (some (.int ((-2147483648)))) s5)))))))))) : Ct (d + 1) M_X6_get [.ref 0, .int a1, .int a2, .int a3] st Q := by
  refine Ct_of (by decide +kernel) (Nat.le_of_ble_eq_true rfl) (fun κ C Z => ?_)
  show X κ 0 [(0, .ref 0), (1, .int a1), (2, .int a2), (3, .int a3)] [] st
  refine X_aload_n C dX6_get_0 rfl (j := 0) rfl ?_
  refine X_getR C sh_0 rfl fw_RX6_10 dX6_get_1 ?_
  refine X_iload_n C dX6_get_4 rfl (j := 1) rfl ?_
  refine X_callV C dX6_get_5 pw_RX6_51 (b := 1) (as := [.int a1]) (S := []) sh_1 rfl rfl rfl (Nat.le_of_ble_eq_true rfl) (Ct_mono h ?_)
  rintro _ s1 ⟨v2, rfl, h⟩
  show X κ 8 [(0, .ref 0), (1, .int a1), (2, .int a2), (3, .int a3)] [.int v2] s1
  refine X_if_eq C dX6_get_8 (tgt := 28) (by decide) (fun c => ?_) (fun c => ?_)
  · replace h := h.1 c
    refine X_ldcw C (v := (-2147483648)) u_949 dX6_get_28 ?_
    exact X_iret C Z rfl dX6_get_31 h
  · replace h := h.2 c
    refine X_iload_n C dX6_get_11 rfl (j := 2) rfl ?_
    refine X_callS C dX6_get_12 pw_RX6_278 (as := [.int a2]) (S := []) rfl rfl (Nat.le_of_ble_eq_true rfl) (Ct_mono h ?_)
    rintro _ s3 ⟨v4, rfl, h⟩
    show X κ 15 [(0, .ref 0), (1, .int a1), (2, .int a2), (3, .int a3)] [.int v4] s3
    refine X_if_eq C dX6_get_15 (tgt := 28) (by decide) (fun c => ?_) (fun c => ?_)
    · replace h := h.1 c
      refine X_ldcw C (v := (-2147483648)) u_949 dX6_get_28 ?_
      exact X_iret C Z rfl dX6_get_31 h
    · replace h := h.2 c
      refine X_aload_n C dX6_get_18 rfl (j := 0) rfl ?_
      refine X_iload_n C dX6_get_19 rfl (j := 1) rfl ?_
      refine X_iload_n C dX6_get_20 rfl (j := 2) rfl ?_
      refine X_iload_n C dX6_get_21 rfl (j := 3) rfl ?_
      refine X_callV C dX6_get_22 pw_RX6_290 (b := 0) (as := [.int a1, .int a2, .int a3]) (S := []) sh_0 rfl rfl rfl (Nat.le_of_ble_eq_true rfl) (Ct_mono h ?_)
      rintro _ s5 ⟨v6, rfl, h⟩
      show X κ 25 [(0, .ref 0), (1, .int a1), (2, .int a2), (3, .int a3)] [.int v6] s5
      refine X_if_eq C dX6_get_25 (tgt := 32) (by decide) (fun c => ?_) (fun c => ?_)
      · replace h := h.1 c
        refine X_aload_n C dX6_get_32 rfl (j := 0) rfl ?_
        refine X_getR C sh_0 rfl fw_RX6_10 dX6_get_33 ?_
        refine X_iload_n C dX6_get_36 rfl (j := 1) rfl ?_
        refine X_iload_n C dX6_get_37 rfl (j := 3) rfl ?_
        refine X_callV C dX6_get_38 pw_RX6_298 (b := 1) (as := [.int a1, .int a3]) (S := []) sh_1 rfl rfl rfl (Nat.le_of_ble_eq_true rfl) (Ct_mono h ?_)
        rintro _ s7 ⟨v8, rfl, h⟩
        show X κ 41 [(0, .ref 0), (1, .int a1), (2, .int a2), (3, .int a3)] [.int v8] s7
        exact X_iret C Z rfl dX6_get_41 h
      · replace h := h.2 c
        refine X_ldcw C (v := (-2147483648)) u_949 dX6_get_28 ?_
        exact X_iret C Z rfl dX6_get_31 h
set_option maxHeartbeats 4000000 in
set_option maxRecDepth 100000 in
theorem eX6_copy {d : Nat} {Q : Option Value → xSt → Prop} (a1 : Int32) (a2 : Int32) (a3 : Int32) (a4 : Int32) (a5 : Int32) (st : xSt) (h : Ct d M_X4_named [.ref 1, .int a1] st (Qi fun v2 s1 => ((v2 = 0 → Q (some (.int ((-2)))) s1) ∧ (¬ v2 = 0 → Ct d M_X4_named [.ref 1, .int a3] s1 (Qi fun v4 s3 => ((¬ v4 = 0 → Ct d M_X4_lost [.ref 1, .int a1] s3 (Qi fun v6 s5 => ((¬ v6 = 0 → Ct d M_X4_find [.ref 1, .int 1] s5 (Qi fun v8 s7 => Q (some (.int v8)) s7)) ∧ (v6 = 0 → Ct d M_X4_lost [.ref 1, .int a3] s5 (Qi fun v10 s9 => ((v10 = 0 → Ct d M_X4_formOf [.ref 1, .int a1] s9 (Qi fun v12 s11 => Ct d M_X4_formOf [.ref 1, .int a3] s11 (Qi fun v14 s13 => ((v12 = v14 → Ct d M_X4_move [.ref 1, .int a1, .int a2, .int a3, .int a4, .int a5] s13 (Qi fun v16 s15 => ((v16 = 0 → Ct d M_X4_find [.ref 1, .int 2] s15 (Qi fun v18 s17 => Q (some (.int v18)) s17)) ∧ (¬ v16 = 0 → Q (some (.int 1)) s15)))) ∧ (¬ v12 = v14 → Ct d M_X4_find [.ref 1, .int 4] s13 (Qi fun v20 s19 => Q (some (.int v20)) s19)))))) ∧ (¬ v10 = 0 → Ct d M_X4_find [.ref 1, .int 1] s9 (Qi fun v22 s21 => Q (some (.int v22)) s21)))))))) ∧ (v4 = 0 → Q (some (.int ((-2)))) s3))))))) : Ct (d + 1) M_X6_copy [.ref 0, .int a1, .int a2, .int a3, .int a4, .int a5] st Q := by
  refine Ct_of (by decide +kernel) (Nat.le_of_ble_eq_true rfl) (fun κ C Z => ?_)
  show X κ 0 [(0, .ref 0), (1, .int a1), (2, .int a2), (3, .int a3), (4, .int a4), (5, .int a5)] [] st
  refine X_aload_n C dX6_copy_0 rfl (j := 0) rfl ?_
  refine X_getR C sh_0 rfl fw_RX6_10 dX6_copy_1 ?_
  refine X_iload_n C dX6_copy_4 rfl (j := 1) rfl ?_
  refine X_callV C dX6_copy_5 pw_RX6_51 (b := 1) (as := [.int a1]) (S := []) sh_1 rfl rfl rfl (Nat.le_of_ble_eq_true rfl) (Ct_mono h ?_)
  rintro _ s1 ⟨v2, rfl, h⟩
  show X κ 8 [(0, .ref 0), (1, .int a1), (2, .int a2), (3, .int a3), (4, .int a4), (5, .int a5)] [.int v2] s1
  refine X_if_eq C dX6_copy_8 (tgt := 22) (by decide) (fun c => ?_) (fun c => ?_)
  · replace h := h.1 c
    refine X_bipush C (v := (-2)) (by decide) dX6_copy_22 ?_
    exact X_iret C Z rfl dX6_copy_24 h
  · replace h := h.2 c
    refine X_aload_n C dX6_copy_11 rfl (j := 0) rfl ?_
    refine X_getR C sh_0 rfl fw_RX6_10 dX6_copy_12 ?_
    refine X_iload_n C dX6_copy_15 rfl (j := 3) rfl ?_
    refine X_callV C dX6_copy_16 pw_RX6_51 (b := 1) (as := [.int a3]) (S := []) sh_1 rfl rfl rfl (Nat.le_of_ble_eq_true rfl) (Ct_mono h ?_)
    rintro _ s3 ⟨v4, rfl, h⟩
    show X κ 19 [(0, .ref 0), (1, .int a1), (2, .int a2), (3, .int a3), (4, .int a4), (5, .int a5)] [.int v4] s3
    refine X_if_ne C dX6_copy_19 (tgt := 25) (by decide) (fun c => ?_) (fun c => ?_)
    · replace h := h.1 c
      refine X_aload_n C dX6_copy_25 rfl (j := 0) rfl ?_
      refine X_getR C sh_0 rfl fw_RX6_10 dX6_copy_26 ?_
      refine X_iload_n C dX6_copy_29 rfl (j := 1) rfl ?_
      refine X_callV C dX6_copy_30 pw_RX6_59 (b := 1) (as := [.int a1]) (S := []) sh_1 rfl rfl rfl (Nat.le_of_ble_eq_true rfl) (Ct_mono h ?_)
      rintro _ s5 ⟨v6, rfl, h⟩
      show X κ 33 [(0, .ref 0), (1, .int a1), (2, .int a2), (3, .int a3), (4, .int a4), (5, .int a5)] [.int v6] s5
      refine X_if_ne C dX6_copy_33 (tgt := 47) (by decide) (fun c => ?_) (fun c => ?_)
      · replace h := h.1 c
        refine X_aload_n C dX6_copy_47 rfl (j := 0) rfl ?_
        refine X_getR C sh_0 rfl fw_RX6_10 dX6_copy_48 ?_
        refine X_iconst C (v := 1) (by decide) dX6_copy_51 ?_
        refine X_callV C dX6_copy_52 pw_RX6_62 (b := 1) (as := [.int 1]) (S := []) sh_1 rfl rfl rfl (Nat.le_of_ble_eq_true rfl) (Ct_mono h ?_)
        rintro _ s7 ⟨v8, rfl, h⟩
        show X κ 55 [(0, .ref 0), (1, .int a1), (2, .int a2), (3, .int a3), (4, .int a4), (5, .int a5)] [.int v8] s7
        exact X_iret C Z rfl dX6_copy_55 h
      · replace h := h.2 c
        refine X_aload_n C dX6_copy_36 rfl (j := 0) rfl ?_
        refine X_getR C sh_0 rfl fw_RX6_10 dX6_copy_37 ?_
        refine X_iload_n C dX6_copy_40 rfl (j := 3) rfl ?_
        refine X_callV C dX6_copy_41 pw_RX6_59 (b := 1) (as := [.int a3]) (S := []) sh_1 rfl rfl rfl (Nat.le_of_ble_eq_true rfl) (Ct_mono h ?_)
        rintro _ s9 ⟨v10, rfl, h⟩
        show X κ 44 [(0, .ref 0), (1, .int a1), (2, .int a2), (3, .int a3), (4, .int a4), (5, .int a5)] [.int v10] s9
        refine X_if_eq C dX6_copy_44 (tgt := 56) (by decide) (fun c => ?_) (fun c => ?_)
        · replace h := h.1 c
          refine X_aload_n C dX6_copy_56 rfl (j := 0) rfl ?_
          refine X_getR C sh_0 rfl fw_RX6_10 dX6_copy_57 ?_
          refine X_iload_n C dX6_copy_60 rfl (j := 1) rfl ?_
          refine X_callV C dX6_copy_61 pw_RX6_287 (b := 1) (as := [.int a1]) (S := []) sh_1 rfl rfl rfl (Nat.le_of_ble_eq_true rfl) (Ct_mono h ?_)
          rintro _ s11 ⟨v12, rfl, h⟩
          show X κ 64 [(0, .ref 0), (1, .int a1), (2, .int a2), (3, .int a3), (4, .int a4), (5, .int a5)] [.int v12] s11
          refine X_aload_n C dX6_copy_64 rfl (j := 0) rfl ?_
          refine X_getR C sh_0 rfl fw_RX6_10 dX6_copy_65 ?_
          refine X_iload_n C dX6_copy_68 rfl (j := 3) rfl ?_
          refine X_callV C dX6_copy_69 pw_RX6_287 (b := 1) (as := [.int a3]) (S := [.int v12]) sh_1 rfl rfl rfl (Nat.le_of_ble_eq_true rfl) (Ct_mono h ?_)
          rintro _ s13 ⟨v14, rfl, h⟩
          show X κ 72 [(0, .ref 0), (1, .int a1), (2, .int a2), (3, .int a3), (4, .int a4), (5, .int a5)] [.int v14, .int v12] s13
          refine X_icmp_eq C dX6_copy_72 (tgt := 84) (by decide) (fun c => ?_) (fun c => ?_)
          · replace h := h.1 c
            refine X_aload_n C dX6_copy_84 rfl (j := 0) rfl ?_
            refine X_getR C sh_0 rfl fw_RX6_10 dX6_copy_85 ?_
            refine X_iload_n C dX6_copy_88 rfl (j := 1) rfl ?_
            refine X_iload_n C dX6_copy_89 rfl (j := 2) rfl ?_
            refine X_iload_n C dX6_copy_90 rfl (j := 3) rfl ?_
            refine X_iload C dX6_copy_91 (j := 4) rfl ?_
            refine X_iload C dX6_copy_93 (j := 5) rfl ?_
            refine X_callV C dX6_copy_95 pw_RX6_299 (b := 1) (as := [.int a1, .int a2, .int a3, .int a4, .int a5]) (S := []) sh_1 rfl rfl rfl (Nat.le_of_ble_eq_true rfl) (Ct_mono h ?_)
            rintro _ s15 ⟨v16, rfl, h⟩
            show X κ 98 [(0, .ref 0), (1, .int a1), (2, .int a2), (3, .int a3), (4, .int a4), (5, .int a5)] [.int v16] s15
            refine X_if_eq C dX6_copy_98 (tgt := 105) (by decide) (fun c => ?_) (fun c => ?_)
            · replace h := h.1 c
              refine X_aload_n C dX6_copy_105 rfl (j := 0) rfl ?_
              refine X_getR C sh_0 rfl fw_RX6_10 dX6_copy_106 ?_
              refine X_iconst C (v := 2) (by decide) dX6_copy_109 ?_
              refine X_callV C dX6_copy_110 pw_RX6_62 (b := 1) (as := [.int 2]) (S := []) sh_1 rfl rfl rfl (Nat.le_of_ble_eq_true rfl) (Ct_mono h ?_)
              rintro _ s17 ⟨v18, rfl, h⟩
              show X κ 113 [(0, .ref 0), (1, .int a1), (2, .int a2), (3, .int a3), (4, .int a4), (5, .int a5)] [.int v18] s17
              exact X_iret C Z rfl dX6_copy_113 h
            · replace h := h.2 c
              refine X_iconst C (v := 1) (by decide) dX6_copy_101 ?_
              refine X_goto C dX6_copy_102 (tgt := 113) (by decide) ?_
              exact X_iret C Z rfl dX6_copy_113 h
          · replace h := h.2 c
            refine X_aload_n C dX6_copy_75 rfl (j := 0) rfl ?_
            refine X_getR C sh_0 rfl fw_RX6_10 dX6_copy_76 ?_
            refine X_iconst C (v := 4) (by decide) dX6_copy_79 ?_
            refine X_callV C dX6_copy_80 pw_RX6_62 (b := 1) (as := [.int 4]) (S := []) sh_1 rfl rfl rfl (Nat.le_of_ble_eq_true rfl) (Ct_mono h ?_)
            rintro _ s19 ⟨v20, rfl, h⟩
            show X κ 83 [(0, .ref 0), (1, .int a1), (2, .int a2), (3, .int a3), (4, .int a4), (5, .int a5)] [.int v20] s19
            exact X_iret C Z rfl dX6_copy_83 h
        · replace h := h.2 c
          refine X_aload_n C dX6_copy_47 rfl (j := 0) rfl ?_
          refine X_getR C sh_0 rfl fw_RX6_10 dX6_copy_48 ?_
          refine X_iconst C (v := 1) (by decide) dX6_copy_51 ?_
          refine X_callV C dX6_copy_52 pw_RX6_62 (b := 1) (as := [.int 1]) (S := []) sh_1 rfl rfl rfl (Nat.le_of_ble_eq_true rfl) (Ct_mono h ?_)
          rintro _ s21 ⟨v22, rfl, h⟩
          show X κ 55 [(0, .ref 0), (1, .int a1), (2, .int a2), (3, .int a3), (4, .int a4), (5, .int a5)] [.int v22] s21
          exact X_iret C Z rfl dX6_copy_55 h
    · replace h := h.2 c
      refine X_bipush C (v := (-2)) (by decide) dX6_copy_22 ?_
      exact X_iret C Z rfl dX6_copy_24 h
set_option maxHeartbeats 4000000 in
set_option maxRecDepth 100000 in
theorem bX6_write_71 {κ : xK} {d : Nat} {Q : Option Value → xSt → Prop} (C : Cx κ M_X6_write (d + 1)) (Z : xR κ Q) (x1 : Int32) (x2 : Int32) (x3 : Int32) (x4 : Int32) (x5 : Int32) (x6 : Int32) (st : xSt) (h : ((x5 ≤ x6 → Q (some (.int x5)) st) ∧ (¬ x5 ≤ x6 → Ct d M_X0_wordOf [.ref 2, .int x2, .int (x3 + (x6 * x4))] st (Qi fun v2 s1 => Ct d M_X4_store [.ref 1, .int x1, .int x6, .int v2] s1 (Qv fun s3 => X κ 71 [(0, .ref 0), (1, .int x1), (2, .int x2), (3, .int x3), (4, .int x4), (5, .int x5), (6, .int (x6 + 1))] [] s3))))) : X κ 71 [(0, .ref 0), (1, .int x1), (2, .int x2), (3, .int x3), (4, .int x4), (5, .int x5), (6, .int x6)] [] st := by
  refine X_iload C dX6_write_71 (j := 6) rfl ?_
  refine X_iload C dX6_write_73 (j := 5) rfl ?_
  refine X_icmp_ge C dX6_write_75 (tgt := 109) (by decide) (fun c => ?_) (fun c => ?_)
  · replace h := h.1 c
    refine X_iload C dX6_write_109 (j := 5) rfl ?_
    exact X_iret C Z rfl dX6_write_111 h
  · replace h := h.2 c
    refine X_aload_n C dX6_write_78 rfl (j := 0) rfl ?_
    refine X_getR C sh_0 rfl fw_RX6_10 dX6_write_79 ?_
    refine X_iload_n C dX6_write_82 rfl (j := 1) rfl ?_
    refine X_iload C dX6_write_83 (j := 6) rfl ?_
    refine X_aload_n C dX6_write_85 rfl (j := 0) rfl ?_
    refine X_getR C sh_0 rfl fw_RX6_19 dX6_write_86 ?_
    refine X_iload_n C dX6_write_89 rfl (j := 2) rfl ?_
    refine X_iload_n C dX6_write_90 rfl (j := 3) rfl ?_
    refine X_iload C dX6_write_91 (j := 6) rfl ?_
    refine X_iload C dX6_write_93 (j := 4) rfl ?_
    refine X_imul C dX6_write_95 ?_
    refine X_iadd C dX6_write_96 ?_
    refine X_callV C dX6_write_97 pw_RX6_226 (b := 2) (as := [.int x2, .int (x3 + (x6 * x4))]) (S := [.int x6, .int x1, .ref 1]) sh_2 rfl rfl rfl (Nat.le_of_ble_eq_true rfl) (Ct_mono h ?_)
    rintro _ s1 ⟨v2, rfl, h⟩
    show X κ 100 [(0, .ref 0), (1, .int x1), (2, .int x2), (3, .int x3), (4, .int x4), (5, .int x5), (6, .int x6)] [.int v2, .int x6, .int x1, .ref 1] s1
    refine X_callV C dX6_write_100 pw_RX6_293 (b := 1) (as := [.int x1, .int x6, .int v2]) (S := []) sh_1 rfl rfl rfl (Nat.le_of_ble_eq_true rfl) (Ct_mono h ?_)
    rintro _ s3 ⟨rfl, h⟩
    show X κ 103 [(0, .ref 0), (1, .int x1), (2, .int x2), (3, .int x3), (4, .int x4), (5, .int x5), (6, .int x6)] [] s3
    refine X_iinc C dX6_write_103 (j := 6) rfl (v := x6 + 1) rfl (by decide) (L' := [(6, .int (x6 + 1)), (0, .ref 0), (1, .int x1), (2, .int x2), (3, .int x3), (4, .int x4), (5, .int x5)]) rfl ?_
    refine X_goto C dX6_write_106 (tgt := 71) (by decide) ?_
    refine X_loc [1, 2, 3, 4, 5, 6, 0] rfl ?_
    exact h
set_option maxHeartbeats 4000000 in
set_option maxRecDepth 100000 in
theorem eX6_write {d : Nat} {Q : Option Value → xSt → Prop} (a1 : Int32) (a2 : Int32) (a3 : Int32) (a4 : Int32) (st : xSt) (h : ∀ κ : xK, Cx κ M_X6_write (d + 1) → xR κ Q → Ct d M_X4_named [.ref 1, .int a1] st (Qi fun v2 s1 => ((v2 = 0 → Q (some (.int ((-2)))) s1) ∧ (¬ v2 = 0 → Ct d M_X6_isWalk [.ref 0, .int a2, .int a3, .int a4] s1 (Qi fun v4 s3 => ((¬ v4 = 0 → Ct d M_X4_lost [.ref 1, .int a1] s3 (Qi fun v6 s5 => ((v6 = 0 → Ct d M_X4_sizeOf [.ref 1, .int a1] s5 (Qi fun v8 s7 => ¬ a4 = 0 ∧ X κ 71 [(0, .ref 0), (1, .int a1), (2, .int a2), (3, .int a3), (4, .int a4), (5, .int (imin v8 (((400 - a3) / a4) + 1))), (6, .int 0)] [] s7)) ∧ (¬ v6 = 0 → Ct d M_X4_find [.ref 1, .int 1] s5 (Qi fun v12 s11 => Q (some (.int v12)) s11))))) ∧ (v4 = 0 → Q (some (.int ((-2)))) s3))))))) : Ct (d + 1) M_X6_write [.ref 0, .int a1, .int a2, .int a3, .int a4] st Q := by
  refine Ct_of (by decide +kernel) (Nat.le_of_ble_eq_true rfl) (fun κ C Z => ?_)
  replace h := h κ C Z
  show X κ 0 [(0, .ref 0), (1, .int a1), (2, .int a2), (3, .int a3), (4, .int a4)] [] st
  refine X_aload_n C dX6_write_0 rfl (j := 0) rfl ?_
  refine X_getR C sh_0 rfl fw_RX6_10 dX6_write_1 ?_
  refine X_iload_n C dX6_write_4 rfl (j := 1) rfl ?_
  refine X_callV C dX6_write_5 pw_RX6_51 (b := 1) (as := [.int a1]) (S := []) sh_1 rfl rfl rfl (Nat.le_of_ble_eq_true rfl) (Ct_mono h ?_)
  rintro _ s1 ⟨v2, rfl, h⟩
  show X κ 8 [(0, .ref 0), (1, .int a1), (2, .int a2), (3, .int a3), (4, .int a4)] [.int v2] s1
  refine X_if_eq C dX6_write_8 (tgt := 22) (by decide) (fun c => ?_) (fun c => ?_)
  · replace h := h.1 c
    refine X_bipush C (v := (-2)) (by decide) dX6_write_22 ?_
    exact X_iret C Z rfl dX6_write_24 h
  · replace h := h.2 c
    refine X_aload_n C dX6_write_11 rfl (j := 0) rfl ?_
    refine X_iload_n C dX6_write_12 rfl (j := 2) rfl ?_
    refine X_iload_n C dX6_write_13 rfl (j := 3) rfl ?_
    refine X_iload C dX6_write_14 (j := 4) rfl ?_
    refine X_callV C dX6_write_16 pw_RX6_257 (b := 0) (as := [.int a2, .int a3, .int a4]) (S := []) sh_0 rfl rfl rfl (Nat.le_of_ble_eq_true rfl) (Ct_mono h ?_)
    rintro _ s3 ⟨v4, rfl, h⟩
    show X κ 19 [(0, .ref 0), (1, .int a1), (2, .int a2), (3, .int a3), (4, .int a4)] [.int v4] s3
    refine X_if_ne C dX6_write_19 (tgt := 25) (by decide) (fun c => ?_) (fun c => ?_)
    · replace h := h.1 c
      refine X_aload_n C dX6_write_25 rfl (j := 0) rfl ?_
      refine X_getR C sh_0 rfl fw_RX6_10 dX6_write_26 ?_
      refine X_iload_n C dX6_write_29 rfl (j := 1) rfl ?_
      refine X_callV C dX6_write_30 pw_RX6_59 (b := 1) (as := [.int a1]) (S := []) sh_1 rfl rfl rfl (Nat.le_of_ble_eq_true rfl) (Ct_mono h ?_)
      rintro _ s5 ⟨v6, rfl, h⟩
      show X κ 33 [(0, .ref 0), (1, .int a1), (2, .int a2), (3, .int a3), (4, .int a4)] [.int v6] s5
      refine X_if_eq C dX6_write_33 (tgt := 45) (by decide) (fun c => ?_) (fun c => ?_)
      · replace h := h.1 c
        refine X_aload_n C dX6_write_45 rfl (j := 0) rfl ?_
        refine X_getR C sh_0 rfl fw_RX6_10 dX6_write_46 ?_
        refine X_iload_n C dX6_write_49 rfl (j := 1) rfl ?_
        refine X_callV C dX6_write_50 pw_RX6_66 (b := 1) (as := [.int a1]) (S := []) sh_1 rfl rfl rfl (Nat.le_of_ble_eq_true rfl) (Ct_mono h ?_)
        rintro _ s7 ⟨v8, rfl, h⟩
        show X κ 53 [(0, .ref 0), (1, .int a1), (2, .int a2), (3, .int a3), (4, .int a4)] [.int v8] s7
        refine X_sipush C (v := 400) (by decide) dX6_write_53 ?_
        refine X_iload_n C dX6_write_56 rfl (j := 3) rfl ?_
        refine X_isub C dX6_write_57 ?_
        refine X_iload C dX6_write_58 (j := 4) rfl ?_
        obtain ⟨g, h⟩ := h
        refine X_idiv C g dX6_write_60 ?_
        refine X_iconst C (v := 1) (by decide) dX6_write_61 ?_
        refine X_iadd C dX6_write_62 ?_
        refine X_mmin C dX6_write_63 mm_RX6_302 (Nat.le_of_ble_eq_true rfl) ?_
        refine X_istore C dX6_write_66 (by decide) (L' := [(5, .int (imin v8 (((400 - a3) / a4) + 1))), (0, .ref 0), (1, .int a1), (2, .int a2), (3, .int a3), (4, .int a4)]) rfl ?_
        refine X_iconst C (v := 0) (by decide) dX6_write_68 ?_
        refine X_istore C dX6_write_69 (by decide) (L' := [(6, .int 0), (5, .int (imin v8 (((400 - a3) / a4) + 1))), (0, .ref 0), (1, .int a1), (2, .int a2), (3, .int a3), (4, .int a4)]) rfl ?_
        refine X_loc [2, 3, 4, 5, 6, 1, 0] rfl ?_
        exact h
      · replace h := h.2 c
        refine X_aload_n C dX6_write_36 rfl (j := 0) rfl ?_
        refine X_getR C sh_0 rfl fw_RX6_10 dX6_write_37 ?_
        refine X_iconst C (v := 1) (by decide) dX6_write_40 ?_
        refine X_callV C dX6_write_41 pw_RX6_62 (b := 1) (as := [.int 1]) (S := []) sh_1 rfl rfl rfl (Nat.le_of_ble_eq_true rfl) (Ct_mono h ?_)
        rintro _ s11 ⟨v12, rfl, h⟩
        show X κ 44 [(0, .ref 0), (1, .int a1), (2, .int a2), (3, .int a3), (4, .int a4)] [.int v12] s11
        exact X_iret C Z rfl dX6_write_44 h
    · replace h := h.2 c
      refine X_bipush C (v := (-2)) (by decide) dX6_write_22 ?_
      exact X_iret C Z rfl dX6_write_24 h
set_option maxHeartbeats 4000000 in
set_option maxRecDepth 100000 in
theorem eX6_count {d : Nat} {Q : Option Value → xSt → Prop} (a1 : Int32) (st : xSt) (h : (((a1 : Int32).toInt < 0 ∨ 8 < (a1 : Int32).toInt → Q (some (.int ((-2)))) st) ∧ ((a1 : Int32).toInt = 0 → Ct d M_X0_size [.ref 2] st (Qi fun v2 s1 => Q (some (.int v2)) s1)) ∧ ((a1 : Int32).toInt = 1 → Ct d M_X3_size [.ref 3] st (Qi fun v4 s3 => Q (some (.int v4)) s3)) ∧ ((a1 : Int32).toInt = 2 → Ct d M_X3_matSize [.ref 3] st (Qi fun v6 s5 => Q (some (.int v6)) s5)) ∧ ((a1 : Int32).toInt = 3 → Ct d M_X1_size [.ref 4] st (Qi fun v8 s7 => Q (some (.int v8)) s7)) ∧ ((a1 : Int32).toInt = 4 → Ct d M_X2_size [.ref 5] st (Qi fun v10 s9 => Q (some (.int v10)) s9)) ∧ ((a1 : Int32).toInt = 5 → Ct d M_X5_size [.ref 6] st (Qi fun v12 s11 => Q (some (.int v12)) s11)) ∧ ((a1 : Int32).toInt = 6 → Ct d M_X1_whole [.ref 4] st (Qi fun v14 s13 => Q (some (.int v14)) s13)) ∧ ((a1 : Int32).toInt = 7 → Ct d M_X4_inUse [.ref 1] st (Qi fun v16 s15 => Q (some (.int v16)) s15)) ∧ ((a1 : Int32).toInt = 8 → Ct d M_X4_latest [.ref 1] st (Qi fun v18 s17 => Q (some (.int v18)) s17)))) : Ct (d + 1) M_X6_count [.ref 0, .int a1] st Q := by
  refine Ct_of (by decide +kernel) (Nat.le_of_ble_eq_true rfl) (fun κ C Z => ?_)
  show X κ 0 [(0, .ref 0), (1, .int a1)] [] st
  refine X_iload_n C dX6_count_0 rfl (j := 1) rfl ?_
  have hc : ((a1 : Int32).toInt < 0 ∨ 8 < (a1 : Int32).toInt) ∨ (a1 : Int32).toInt = 0 ∨ (a1 : Int32).toInt = 1 ∨ (a1 : Int32).toInt = 2 ∨ (a1 : Int32).toInt = 3 ∨ (a1 : Int32).toInt = 4 ∨ (a1 : Int32).toInt = 5 ∨ (a1 : Int32).toInt = 6 ∨ (a1 : Int32).toInt = 7 ∨ (a1 : Int32).toInt = 8 := by omega
  rcases hc with c | c | c | c | c | c | c | c | c | c
  · replace h := h.1 c
    refine X_tableOut C dX6_count_1 c (tgt := 124) (by decide) ?_
    refine X_bipush C (v := (-2)) (by decide) dX6_count_124 ?_
    exact X_iret C Z rfl dX6_count_126 h
  · replace h := h.2.1 c
    refine X_tableIn C dX6_count_1 (by omega) (by omega) (off := 51) (by rw [c]; rfl) (tgt := 52) (by decide) ?_
    refine X_aload_n C dX6_count_52 rfl (j := 0) rfl ?_
    refine X_getR C sh_0 rfl fw_RX6_19 dX6_count_53 ?_
    refine X_callV C dX6_count_56 pw_RX6_229 (b := 2) (as := []) (S := []) sh_2 rfl rfl rfl (Nat.le_of_ble_eq_true rfl) (Ct_mono h ?_)
    rintro _ s1 ⟨v2, rfl, h⟩
    show X κ 59 [(0, .ref 0), (1, .int a1)] [.int v2] s1
    exact X_iret C Z rfl dX6_count_59 h
  · replace h := h.2.2.1 c
    refine X_tableIn C dX6_count_1 (by omega) (by omega) (off := 59) (by rw [c]; rfl) (tgt := 60) (by decide) ?_
    refine X_aload_n C dX6_count_60 rfl (j := 0) rfl ?_
    refine X_getR C sh_0 rfl fw_RX6_26 dX6_count_61 ?_
    refine X_callV C dX6_count_64 pw_RX6_307 (b := 3) (as := []) (S := []) sh_3 rfl rfl rfl (Nat.le_of_ble_eq_true rfl) (Ct_mono h ?_)
    rintro _ s3 ⟨v4, rfl, h⟩
    show X κ 67 [(0, .ref 0), (1, .int a1)] [.int v4] s3
    exact X_iret C Z rfl dX6_count_67 h
  · replace h := h.2.2.2.1 c
    refine X_tableIn C dX6_count_1 (by omega) (by omega) (off := 67) (by rw [c]; rfl) (tgt := 68) (by decide) ?_
    refine X_aload_n C dX6_count_68 rfl (j := 0) rfl ?_
    refine X_getR C sh_0 rfl fw_RX6_26 dX6_count_69 ?_
    refine X_callV C dX6_count_72 pw_RX6_308 (b := 3) (as := []) (S := []) sh_3 rfl rfl rfl (Nat.le_of_ble_eq_true rfl) (Ct_mono h ?_)
    rintro _ s5 ⟨v6, rfl, h⟩
    show X κ 75 [(0, .ref 0), (1, .int a1)] [.int v6] s5
    exact X_iret C Z rfl dX6_count_75 h
  · replace h := h.2.2.2.2.1 c
    refine X_tableIn C dX6_count_1 (by omega) (by omega) (off := 75) (by rw [c]; rfl) (tgt := 76) (by decide) ?_
    refine X_aload_n C dX6_count_76 rfl (j := 0) rfl ?_
    refine X_getR C sh_0 rfl fw_RX6_33 dX6_count_77 ?_
    refine X_callV C dX6_count_80 pw_RX6_311 (b := 4) (as := []) (S := []) sh_4 rfl rfl rfl (Nat.le_of_ble_eq_true rfl) (Ct_mono h ?_)
    rintro _ s7 ⟨v8, rfl, h⟩
    show X κ 83 [(0, .ref 0), (1, .int a1)] [.int v8] s7
    exact X_iret C Z rfl dX6_count_83 h
  · replace h := h.2.2.2.2.2.1 c
    refine X_tableIn C dX6_count_1 (by omega) (by omega) (off := 83) (by rw [c]; rfl) (tgt := 84) (by decide) ?_
    refine X_aload_n C dX6_count_84 rfl (j := 0) rfl ?_
    refine X_getR C sh_0 rfl fw_RX6_40 dX6_count_85 ?_
    refine X_callV C dX6_count_88 pw_RX6_312 (b := 5) (as := []) (S := []) sh_5 rfl rfl rfl (Nat.le_of_ble_eq_true rfl) (Ct_mono h ?_)
    rintro _ s9 ⟨v10, rfl, h⟩
    show X κ 91 [(0, .ref 0), (1, .int a1)] [.int v10] s9
    exact X_iret C Z rfl dX6_count_91 h
  · replace h := h.2.2.2.2.2.2.1 c
    refine X_tableIn C dX6_count_1 (by omega) (by omega) (off := 91) (by rw [c]; rfl) (tgt := 92) (by decide) ?_
    refine X_aload_n C dX6_count_92 rfl (j := 0) rfl ?_
    refine X_getR C sh_0 rfl fw_RX6_47 dX6_count_93 ?_
    refine X_callV C dX6_count_96 pw_RX6_313 (b := 6) (as := []) (S := []) sh_6 rfl rfl rfl (Nat.le_of_ble_eq_true rfl) (Ct_mono h ?_)
    rintro _ s11 ⟨v12, rfl, h⟩
    show X κ 99 [(0, .ref 0), (1, .int a1)] [.int v12] s11
    exact X_iret C Z rfl dX6_count_99 h
  · replace h := h.2.2.2.2.2.2.2.1 c
    refine X_tableIn C dX6_count_1 (by omega) (by omega) (off := 99) (by rw [c]; rfl) (tgt := 100) (by decide) ?_
    refine X_aload_n C dX6_count_100 rfl (j := 0) rfl ?_
    refine X_getR C sh_0 rfl fw_RX6_33 dX6_count_101 ?_
    refine X_callV C dX6_count_104 pw_RX6_314 (b := 4) (as := []) (S := []) sh_4 rfl rfl rfl (Nat.le_of_ble_eq_true rfl) (Ct_mono h ?_)
    rintro _ s13 ⟨v14, rfl, h⟩
    show X κ 107 [(0, .ref 0), (1, .int a1)] [.int v14] s13
    exact X_iret C Z rfl dX6_count_107 h
  · replace h := h.2.2.2.2.2.2.2.2.1 c
    refine X_tableIn C dX6_count_1 (by omega) (by omega) (off := 107) (by rw [c]; rfl) (tgt := 108) (by decide) ?_
    refine X_aload_n C dX6_count_108 rfl (j := 0) rfl ?_
    refine X_getR C sh_0 rfl fw_RX6_10 dX6_count_109 ?_
    refine X_callV C dX6_count_112 pw_RX6_317 (b := 1) (as := []) (S := []) sh_1 rfl rfl rfl (Nat.le_of_ble_eq_true rfl) (Ct_mono h ?_)
    rintro _ s15 ⟨v16, rfl, h⟩
    show X κ 115 [(0, .ref 0), (1, .int a1)] [.int v16] s15
    exact X_iret C Z rfl dX6_count_115 h
  · replace h := h.2.2.2.2.2.2.2.2.2 c
    refine X_tableIn C dX6_count_1 (by omega) (by omega) (off := 115) (by rw [c]; rfl) (tgt := 116) (by decide) ?_
    refine X_aload_n C dX6_count_116 rfl (j := 0) rfl ?_
    refine X_getR C sh_0 rfl fw_RX6_10 dX6_count_117 ?_
    refine X_callV C dX6_count_120 pw_RX6_320 (b := 1) (as := []) (S := []) sh_1 rfl rfl rfl (Nat.le_of_ble_eq_true rfl) (Ct_mono h ?_)
    rintro _ s17 ⟨v18, rfl, h⟩
    show X κ 123 [(0, .ref 0), (1, .int a1)] [.int v18] s17
    exact X_iret C Z rfl dX6_count_123 h
set_option maxHeartbeats 4000000 in
set_option maxRecDepth 100000 in
theorem bX6_digest_6 {κ : xK} {d : Nat} {Q : Option Value → xSt → Prop} (C : Cx κ M_X6_digest (d + 1)) (Z : xR κ Q) (x1 : Int64) (x3 : Int32) (st : xSt) (h : ((7 < x3 → Ct d M_X6_digestCounts [.ref 0, .long x1] st (Ql fun v2 s1 => Ct d M_X3_howMany [.ref 3, .ref 2] s1 (Qi fun v4 s3 => Ct d M_X6_digestDebts [.ref 0, .long ((31 * v2) + ((v4 : Int32).toInt64))] s3 (Ql fun v6 s5 => Ct d M_X6_digestLists [.ref 0, .long v6] s5 (Ql fun v8 s7 => Q (some (.long v8)) s7))))) ∧ (¬ 7 < x3 → Ct d M_X6_count [.ref 0, .int x3] st (Qi fun v10 s9 => X κ 6 [(0, .ref 0), (1, .long ((31 * x1) + ((v10 : Int32).toInt64))), (3, .int (x3 + 1))] [] s9)))) : X κ 6 [(0, .ref 0), (1, .long x1), (3, .int x3)] [] st := by
  refine X_iload_n C dX6_digest_6 rfl (j := 2) rfl ?_
  refine X_bipush C (v := 7) (by decide) dX6_digest_7 ?_
  refine X_icmp_gt C dX6_digest_9 (tgt := 31) (by decide) (fun c => ?_) (fun c => ?_)
  · replace h := h.1 c
    refine X_ldc2 C (v := 31) u_1007 dX6_digest_31 ?_
    refine X_aload_n C dX6_digest_34 rfl (j := 0) rfl ?_
    refine X_lload_n C dX6_digest_35 rfl (j := 1) rfl ?_
    refine X_callV C dX6_digest_36 pw_RX6_330 (b := 0) (as := [.long x1]) (S := [.long 31]) sh_0 rfl rfl rfl (Nat.le_of_ble_eq_true rfl) (Ct_mono h ?_)
    rintro _ s1 ⟨v2, rfl, h⟩
    show X κ 39 [(0, .ref 0), (1, .long x1), (3, .int x3)] [.long v2, .long 31] s1
    refine X_lmul C dX6_digest_39 ?_
    refine X_aload_n C dX6_digest_40 rfl (j := 0) rfl ?_
    refine X_getR C sh_0 rfl fw_RX6_26 dX6_digest_41 ?_
    refine X_aload_n C dX6_digest_44 rfl (j := 0) rfl ?_
    refine X_getR C sh_0 rfl fw_RX6_19 dX6_digest_45 ?_
    refine X_callV C dX6_digest_48 pw_RX6_141 (b := 3) (as := [.ref 2]) (S := [.long (31 * v2)]) sh_3 rfl rfl rfl (Nat.le_of_ble_eq_true rfl) (Ct_mono h ?_)
    rintro _ s3 ⟨v4, rfl, h⟩
    show X κ 51 [(0, .ref 0), (1, .long x1), (3, .int x3)] [.int v4, .long (31 * v2)] s3
    refine X_i2l C dX6_digest_51 ?_
    refine X_ladd C dX6_digest_52 ?_
    refine X_lstore_n C dX6_digest_53 rfl (by decide) (L' := [(1, .long ((31 * v2) + ((v4 : Int32).toInt64))), (0, .ref 0), (3, .int x3)]) rfl ?_
    refine X_aload_n C dX6_digest_54 rfl (j := 1) rfl ?_
    refine X_aload_n C dX6_digest_55 rfl (j := 1) rfl ?_
    refine X_lload_n C dX6_digest_56 rfl (j := 0) rfl ?_
    refine X_callV C dX6_digest_57 pw_RX6_334 (b := 0) (as := [.long ((31 * v2) + ((v4 : Int32).toInt64))]) (S := [.ref 0]) sh_0 rfl rfl rfl (Nat.le_of_ble_eq_true rfl) (Ct_mono h ?_)
    rintro _ s5 ⟨v6, rfl, h⟩
    show X κ 60 [(1, .long ((31 * v2) + ((v4 : Int32).toInt64))), (0, .ref 0), (3, .int x3)] [.long v6, .ref 0] s5
    refine X_callV C dX6_digest_60 pw_RX6_337 (b := 0) (as := [.long v6]) (S := []) sh_0 rfl rfl rfl (Nat.le_of_ble_eq_true rfl) (Ct_mono h ?_)
    rintro _ s7 ⟨v8, rfl, h⟩
    show X κ 63 [(1, .long ((31 * v2) + ((v4 : Int32).toInt64))), (0, .ref 0), (3, .int x3)] [.long v8] s7
    exact X_lret C Z rfl dX6_digest_63 h
  · replace h := h.2 c
    refine X_ldc2 C (v := 31) u_1007 dX6_digest_12 ?_
    refine X_lload_n C dX6_digest_15 rfl (j := 1) rfl ?_
    refine X_lmul C dX6_digest_16 ?_
    refine X_aload_n C dX6_digest_17 rfl (j := 0) rfl ?_
    refine X_iload_n C dX6_digest_18 rfl (j := 2) rfl ?_
    refine X_callV C dX6_digest_19 pw_RX6_327 (b := 0) (as := [.int x3]) (S := [.long (31 * x1)]) sh_0 rfl rfl rfl (Nat.le_of_ble_eq_true rfl) (Ct_mono h ?_)
    rintro _ s9 ⟨v10, rfl, h⟩
    show X κ 22 [(0, .ref 0), (1, .long x1), (3, .int x3)] [.int v10, .long (31 * x1)] s9
    refine X_i2l C dX6_digest_22 ?_
    refine X_ladd C dX6_digest_23 ?_
    refine X_lstore_n C dX6_digest_24 rfl (by decide) (L' := [(1, .long ((31 * x1) + ((v10 : Int32).toInt64))), (0, .ref 0), (3, .int x3)]) rfl ?_
    refine X_iinc C dX6_digest_25 (j := 2) rfl (v := x3 + 1) rfl (by decide) (L' := [(3, .int (x3 + 1)), (1, .long ((31 * x1) + ((v10 : Int32).toInt64))), (0, .ref 0)]) rfl ?_
    refine X_goto C dX6_digest_28 (tgt := 6) (by decide) ?_
    refine X_loc [2, 1, 0] rfl ?_
    exact h
set_option maxHeartbeats 4000000 in
set_option maxRecDepth 100000 in
theorem eX6_digest {d : Nat} {Q : Option Value → xSt → Prop} (st : xSt) (h : ∀ κ : xK, Cx κ M_X6_digest (d + 1) → xR κ Q → X κ 6 [(0, .ref 0), (1, .long 17), (3, .int 0)] [] st) : Ct (d + 1) M_X6_digest [.ref 0] st Q := by
  refine Ct_of (by decide +kernel) (Nat.le_of_ble_eq_true rfl) (fun κ C Z => ?_)
  replace h := h κ C Z
  show X κ 0 [(0, .ref 0)] [] st
  refine X_ldc2 C (v := 17) u_1006 dX6_digest_0 ?_
  refine X_lstore_n C dX6_digest_3 rfl (by decide) (L' := [(1, .long 17), (0, .ref 0)]) rfl ?_
  refine X_iconst C (v := 0) (by decide) dX6_digest_4 ?_
  refine X_istore_n C dX6_digest_5 rfl (by decide) (L' := [(3, .int 0), (1, .long 17), (0, .ref 0)]) rfl ?_
  refine X_loc [2, 1, 0] rfl ?_
  exact h
set_option maxHeartbeats 4000000 in
set_option maxRecDepth 100000 in
theorem bX6_digestCounts_5 {κ : xK} {d : Nat} {Q : Option Value → xSt → Prop} (C : Cx κ M_X6_digestCounts (d + 1)) (Z : xR κ Q) (x3 : Int64) (x5 : Int32) (st : xSt) (h : Ct d M_X0_size [.ref 2] st (Qi fun v2 s1 => ((v2 ≤ x5 → Q (some (.long x3)) s1) ∧ (¬ v2 ≤ x5 → X κ 20 [(0, .ref 0), (3, .long x3), (5, .int x5), (6, .int 0)] [] s1)))) : X κ 5 [(0, .ref 0), (3, .long x3), (5, .int x5)] [] st := by
  refine X_iload C dX6_digestCounts_5 (j := 2) rfl ?_
  refine X_aload_n C dX6_digestCounts_7 rfl (j := 0) rfl ?_
  refine X_getR C sh_0 rfl fw_RX6_19 dX6_digestCounts_8 ?_
  refine X_callV C dX6_digestCounts_11 pw_RX6_229 (b := 2) (as := []) (S := [.int x5]) sh_2 rfl rfl rfl (Nat.le_of_ble_eq_true rfl) (Ct_mono h ?_)
  rintro _ s1 ⟨v2, rfl, h⟩
  show X κ 14 [(0, .ref 0), (3, .long x3), (5, .int x5)] [.int v2, .int x5] s1
  refine X_icmp_ge C dX6_digestCounts_14 (tgt := 96) (by decide) (fun c => ?_) (fun c => ?_)
  · replace h := h.1 c
    refine X_lload_n C dX6_digestCounts_96 rfl (j := 1) rfl ?_
    exact X_lret C Z rfl dX6_digestCounts_97 h
  · replace h := h.2 c
    refine X_iconst C (v := 0) (by decide) dX6_digestCounts_17 ?_
    refine X_istore C dX6_digestCounts_18 (by decide) (L' := [(6, .int 0), (0, .ref 0), (3, .long x3), (5, .int x5)]) rfl ?_
    refine X_loc [1, 2, 3, 0] rfl ?_
    exact h
set_option maxHeartbeats 4000000 in
set_option maxRecDepth 100000 in
theorem bX6_digestCounts_20 {κ : xK} {d : Nat} {Q : Option Value → xSt → Prop} (C : Cx κ M_X6_digestCounts (d + 1)) (Z : xR κ Q) (x3 : Int64) (x5 : Int32) (x6 : Int32) (st : xSt) (h : ((3 < x6 → X κ 51 [(0, .ref 0), (3, .long x3), (5, .int x5), (6, .int 1)] [] st) ∧ (¬ 3 < x6 → Ct d M_X6_about [.ref 0, .int x5, .int x6] st (Qi fun v2 s1 => X κ 20 [(0, .ref 0), (3, .long ((31 * x3) + ((v2 : Int32).toInt64))), (5, .int x5), (6, .int (x6 + 1))] [] s1)))) : X κ 20 [(0, .ref 0), (3, .long x3), (5, .int x5), (6, .int x6)] [] st := by
  refine X_iload C dX6_digestCounts_20 (j := 3) rfl ?_
  refine X_iconst C (v := 3) (by decide) dX6_digestCounts_22 ?_
  refine X_icmp_gt C dX6_digestCounts_23 (tgt := 48) (by decide) (fun c => ?_) (fun c => ?_)
  · replace h := h.1 c
    refine X_iconst C (v := 1) (by decide) dX6_digestCounts_48 ?_
    refine X_istore C dX6_digestCounts_49 (by decide) (L' := [(6, .int 1), (0, .ref 0), (3, .long x3), (5, .int x5)]) rfl ?_
    refine X_loc [1, 2, 3, 0] rfl ?_
    exact h
  · replace h := h.2 c
    refine X_ldc2 C (v := 31) u_1007 dX6_digestCounts_26 ?_
    refine X_lload_n C dX6_digestCounts_29 rfl (j := 1) rfl ?_
    refine X_lmul C dX6_digestCounts_30 ?_
    refine X_aload_n C dX6_digestCounts_31 rfl (j := 0) rfl ?_
    refine X_iload C dX6_digestCounts_32 (j := 2) rfl ?_
    refine X_iload C dX6_digestCounts_34 (j := 3) rfl ?_
    refine X_callV C dX6_digestCounts_36 pw_RX6_340 (b := 0) (as := [.int x5, .int x6]) (S := [.long (31 * x3)]) sh_0 rfl rfl rfl (Nat.le_of_ble_eq_true rfl) (Ct_mono h ?_)
    rintro _ s1 ⟨v2, rfl, h⟩
    show X κ 39 [(0, .ref 0), (3, .long x3), (5, .int x5), (6, .int x6)] [.int v2, .long (31 * x3)] s1
    refine X_i2l C dX6_digestCounts_39 ?_
    refine X_ladd C dX6_digestCounts_40 ?_
    refine X_lstore_n C dX6_digestCounts_41 rfl (by decide) (L' := [(3, .long ((31 * x3) + ((v2 : Int32).toInt64))), (0, .ref 0), (5, .int x5), (6, .int x6)]) rfl ?_
    refine X_iinc C dX6_digestCounts_42 (j := 3) rfl (v := x6 + 1) rfl (by decide) (L' := [(6, .int (x6 + 1)), (3, .long ((31 * x3) + ((v2 : Int32).toInt64))), (0, .ref 0), (5, .int x5)]) rfl ?_
    refine X_goto C dX6_digestCounts_45 (tgt := 20) (by decide) ?_
    refine X_loc [2, 1, 3, 0] rfl ?_
    exact h
set_option maxHeartbeats 4000000 in
set_option maxRecDepth 100000 in
theorem bX6_digestCounts_51 {κ : xK} {d : Nat} {Q : Option Value → xSt → Prop} (C : Cx κ M_X6_digestCounts (d + 1)) (Z : xR κ Q) (x3 : Int64) (x5 : Int32) (x6 : Int32) (st : xSt) (h : Ct d M_X0_places [.ref 2, .int x5] st (Qi fun v2 s1 => ((v2 < x6 → X κ 5 [(0, .ref 0), (3, .long x3), (5, .int (x5 + 1))] [] s1) ∧ (¬ v2 < x6 → Ct d M_X0_wordAt [.ref 2, .int x5, .int x6] s1 (Qi fun v4 s3 => X κ 51 [(0, .ref 0), (3, .long ((31 * x3) + ((v4 : Int32).toInt64))), (5, .int x5), (6, .int (x6 + 1))] [] s3))))) : X κ 51 [(0, .ref 0), (3, .long x3), (5, .int x5), (6, .int x6)] [] st := by
  refine X_iload C dX6_digestCounts_51 (j := 3) rfl ?_
  refine X_aload_n C dX6_digestCounts_53 rfl (j := 0) rfl ?_
  refine X_getR C sh_0 rfl fw_RX6_19 dX6_digestCounts_54 ?_
  refine X_iload C dX6_digestCounts_57 (j := 2) rfl ?_
  refine X_callV C dX6_digestCounts_59 pw_RX6_88 (b := 2) (as := [.int x5]) (S := [.int x6]) sh_2 rfl rfl rfl (Nat.le_of_ble_eq_true rfl) (Ct_mono h ?_)
  rintro _ s1 ⟨v2, rfl, h⟩
  show X κ 62 [(0, .ref 0), (3, .long x3), (5, .int x5), (6, .int x6)] [.int v2, .int x6] s1
  refine X_icmp_gt C dX6_digestCounts_62 (tgt := 90) (by decide) (fun c => ?_) (fun c => ?_)
  · replace h := h.1 c
    refine X_iinc C dX6_digestCounts_90 (j := 2) rfl (v := x5 + 1) rfl (by decide) (L' := [(5, .int (x5 + 1)), (0, .ref 0), (3, .long x3), (6, .int x6)]) rfl ?_
    refine X_goto C dX6_digestCounts_93 (tgt := 5) (by decide) ?_
    refine X_loc [1, 2, 0] rfl ?_
    exact h
  · replace h := h.2 c
    refine X_ldc2 C (v := 31) u_1007 dX6_digestCounts_65 ?_
    refine X_lload_n C dX6_digestCounts_68 rfl (j := 1) rfl ?_
    refine X_lmul C dX6_digestCounts_69 ?_
    refine X_aload_n C dX6_digestCounts_70 rfl (j := 0) rfl ?_
    refine X_getR C sh_0 rfl fw_RX6_19 dX6_digestCounts_71 ?_
    refine X_iload C dX6_digestCounts_74 (j := 2) rfl ?_
    refine X_iload C dX6_digestCounts_76 (j := 3) rfl ?_
    refine X_callV C dX6_digestCounts_78 pw_RX6_100 (b := 2) (as := [.int x5, .int x6]) (S := [.long (31 * x3)]) sh_2 rfl rfl rfl (Nat.le_of_ble_eq_true rfl) (Ct_mono h ?_)
    rintro _ s3 ⟨v4, rfl, h⟩
    show X κ 81 [(0, .ref 0), (3, .long x3), (5, .int x5), (6, .int x6)] [.int v4, .long (31 * x3)] s3
    refine X_i2l C dX6_digestCounts_81 ?_
    refine X_ladd C dX6_digestCounts_82 ?_
    refine X_lstore_n C dX6_digestCounts_83 rfl (by decide) (L' := [(3, .long ((31 * x3) + ((v4 : Int32).toInt64))), (0, .ref 0), (5, .int x5), (6, .int x6)]) rfl ?_
    refine X_iinc C dX6_digestCounts_84 (j := 3) rfl (v := x6 + 1) rfl (by decide) (L' := [(6, .int (x6 + 1)), (3, .long ((31 * x3) + ((v4 : Int32).toInt64))), (0, .ref 0), (5, .int x5)]) rfl ?_
    refine X_goto C dX6_digestCounts_87 (tgt := 51) (by decide) ?_
    refine X_loc [2, 1, 3, 0] rfl ?_
    exact h
set_option maxHeartbeats 4000000 in
set_option maxRecDepth 100000 in
theorem eX6_digestCounts {d : Nat} {Q : Option Value → xSt → Prop} (a1 : Int64) (st : xSt) (h : ∀ κ : xK, Cx κ M_X6_digestCounts (d + 1) → xR κ Q → X κ 5 [(0, .ref 0), (3, .long a1), (5, .int 0)] [] st) : Ct (d + 1) M_X6_digestCounts [.ref 0, .long a1] st Q := by
  refine Ct_of (by decide +kernel) (Nat.le_of_ble_eq_true rfl) (fun κ C Z => ?_)
  replace h := h κ C Z
  show X κ 0 [(0, .ref 0), (1, .long a1)] [] st
  refine X_lload_n C dX6_digestCounts_0 rfl (j := 1) rfl ?_
  refine X_lstore_n C dX6_digestCounts_1 rfl (by decide) (L' := [(3, .long a1), (0, .ref 0), (1, .long a1)]) rfl ?_
  refine X_iconst C (v := 0) (by decide) dX6_digestCounts_2 ?_
  refine X_istore C dX6_digestCounts_3 (by decide) (L' := [(5, .int 0), (3, .long a1), (0, .ref 0), (1, .long a1)]) rfl ?_
  refine X_loc [2, 1, 0] rfl ?_
  exact h
set_option maxHeartbeats 4000000 in
set_option maxRecDepth 100000 in
theorem bX6_digestDebts_5 {κ : xK} {d : Nat} {Q : Option Value → xSt → Prop} (C : Cx κ M_X6_digestDebts (d + 1)) (Z : xR κ Q) (x3 : Int64) (x5 : Int32) (st : xSt) (h : Ct d M_X1_size [.ref 4] st (Qi fun v2 s1 => ((v2 ≤ x5 → Q (some (.long x3)) s1) ∧ (¬ v2 ≤ x5 → X κ 20 [(0, .ref 0), (3, .long x3), (5, .int x5), (6, .int 0)] [] s1)))) : X κ 5 [(0, .ref 0), (3, .long x3), (5, .int x5)] [] st := by
  refine X_iload C dX6_digestDebts_5 (j := 2) rfl ?_
  refine X_aload_n C dX6_digestDebts_7 rfl (j := 0) rfl ?_
  refine X_getR C sh_0 rfl fw_RX6_33 dX6_digestDebts_8 ?_
  refine X_callV C dX6_digestDebts_11 pw_RX6_311 (b := 4) (as := []) (S := [.int x5]) sh_4 rfl rfl rfl (Nat.le_of_ble_eq_true rfl) (Ct_mono h ?_)
  rintro _ s1 ⟨v2, rfl, h⟩
  show X κ 14 [(0, .ref 0), (3, .long x3), (5, .int x5)] [.int v2, .int x5] s1
  refine X_icmp_ge C dX6_digestDebts_14 (tgt := 63) (by decide) (fun c => ?_) (fun c => ?_)
  · replace h := h.1 c
    refine X_lload_n C dX6_digestDebts_63 rfl (j := 1) rfl ?_
    exact X_lret C Z rfl dX6_digestDebts_64 h
  · replace h := h.2 c
    refine X_iconst C (v := 0) (by decide) dX6_digestDebts_17 ?_
    refine X_istore C dX6_digestDebts_18 (by decide) (L' := [(6, .int 0), (0, .ref 0), (3, .long x3), (5, .int x5)]) rfl ?_
    refine X_loc [1, 2, 3, 0] rfl ?_
    exact h
set_option maxHeartbeats 4000000 in
set_option maxRecDepth 100000 in
theorem bX6_digestDebts_20 {κ : xK} {d : Nat} {Q : Option Value → xSt → Prop} (C : Cx κ M_X6_digestDebts (d + 1)) (Z : xR κ Q) (x3 : Int64) (x5 : Int32) (x6 : Int32) (st : xSt) (h : Ct d M_X1_size [.ref 4] st (Qi fun v2 s1 => ((v2 ≤ x6 → X κ 5 [(0, .ref 0), (3, .long x3), (5, .int (x5 + 1))] [] s1) ∧ (¬ v2 ≤ x6 → Ct d M_X1_left [.ref 4, .int x5, .int x6] s1 (Qi fun v4 s3 => X κ 20 [(0, .ref 0), (3, .long ((31 * x3) + ((v4 : Int32).toInt64))), (5, .int x5), (6, .int (x6 + 1))] [] s3))))) : X κ 20 [(0, .ref 0), (3, .long x3), (5, .int x5), (6, .int x6)] [] st := by
  refine X_iload C dX6_digestDebts_20 (j := 3) rfl ?_
  refine X_aload_n C dX6_digestDebts_22 rfl (j := 0) rfl ?_
  refine X_getR C sh_0 rfl fw_RX6_33 dX6_digestDebts_23 ?_
  refine X_callV C dX6_digestDebts_26 pw_RX6_311 (b := 4) (as := []) (S := [.int x6]) sh_4 rfl rfl rfl (Nat.le_of_ble_eq_true rfl) (Ct_mono h ?_)
  rintro _ s1 ⟨v2, rfl, h⟩
  show X κ 29 [(0, .ref 0), (3, .long x3), (5, .int x5), (6, .int x6)] [.int v2, .int x6] s1
  refine X_icmp_ge C dX6_digestDebts_29 (tgt := 57) (by decide) (fun c => ?_) (fun c => ?_)
  · replace h := h.1 c
    refine X_iinc C dX6_digestDebts_57 (j := 2) rfl (v := x5 + 1) rfl (by decide) (L' := [(5, .int (x5 + 1)), (0, .ref 0), (3, .long x3), (6, .int x6)]) rfl ?_
    refine X_goto C dX6_digestDebts_60 (tgt := 5) (by decide) ?_
    refine X_loc [1, 2, 0] rfl ?_
    exact h
  · replace h := h.2 c
    refine X_ldc2 C (v := 31) u_1007 dX6_digestDebts_32 ?_
    refine X_lload_n C dX6_digestDebts_35 rfl (j := 1) rfl ?_
    refine X_lmul C dX6_digestDebts_36 ?_
    refine X_aload_n C dX6_digestDebts_37 rfl (j := 0) rfl ?_
    refine X_getR C sh_0 rfl fw_RX6_33 dX6_digestDebts_38 ?_
    refine X_iload C dX6_digestDebts_41 (j := 2) rfl ?_
    refine X_iload C dX6_digestDebts_43 (j := 3) rfl ?_
    refine X_callV C dX6_digestDebts_45 pw_RX6_169 (b := 4) (as := [.int x5, .int x6]) (S := [.long (31 * x3)]) sh_4 rfl rfl rfl (Nat.le_of_ble_eq_true rfl) (Ct_mono h ?_)
    rintro _ s3 ⟨v4, rfl, h⟩
    show X κ 48 [(0, .ref 0), (3, .long x3), (5, .int x5), (6, .int x6)] [.int v4, .long (31 * x3)] s3
    refine X_i2l C dX6_digestDebts_48 ?_
    refine X_ladd C dX6_digestDebts_49 ?_
    refine X_lstore_n C dX6_digestDebts_50 rfl (by decide) (L' := [(3, .long ((31 * x3) + ((v4 : Int32).toInt64))), (0, .ref 0), (5, .int x5), (6, .int x6)]) rfl ?_
    refine X_iinc C dX6_digestDebts_51 (j := 3) rfl (v := x6 + 1) rfl (by decide) (L' := [(6, .int (x6 + 1)), (3, .long ((31 * x3) + ((v4 : Int32).toInt64))), (0, .ref 0), (5, .int x5)]) rfl ?_
    refine X_goto C dX6_digestDebts_54 (tgt := 20) (by decide) ?_
    refine X_loc [2, 1, 3, 0] rfl ?_
    exact h
set_option maxHeartbeats 4000000 in
set_option maxRecDepth 100000 in
theorem eX6_digestDebts {d : Nat} {Q : Option Value → xSt → Prop} (a1 : Int64) (st : xSt) (h : ∀ κ : xK, Cx κ M_X6_digestDebts (d + 1) → xR κ Q → X κ 5 [(0, .ref 0), (3, .long a1), (5, .int 0)] [] st) : Ct (d + 1) M_X6_digestDebts [.ref 0, .long a1] st Q := by
  refine Ct_of (by decide +kernel) (Nat.le_of_ble_eq_true rfl) (fun κ C Z => ?_)
  replace h := h κ C Z
  show X κ 0 [(0, .ref 0), (1, .long a1)] [] st
  refine X_lload_n C dX6_digestDebts_0 rfl (j := 1) rfl ?_
  refine X_lstore_n C dX6_digestDebts_1 rfl (by decide) (L' := [(3, .long a1), (0, .ref 0), (1, .long a1)]) rfl ?_
  refine X_iconst C (v := 0) (by decide) dX6_digestDebts_2 ?_
  refine X_istore C dX6_digestDebts_3 (by decide) (L' := [(5, .int 0), (3, .long a1), (0, .ref 0), (1, .long a1)]) rfl ?_
  refine X_loc [2, 1, 0] rfl ?_
  exact h
set_option maxHeartbeats 4000000 in
set_option maxRecDepth 100000 in
theorem bX6_digestLists_5 {κ : xK} {d : Nat} {Q : Option Value → xSt → Prop} (C : Cx κ M_X6_digestLists (d + 1)) (Z : xR κ Q) (x3 : Int64) (x5 : Int32) (st : xSt) (h : Ct d M_X2_size [.ref 5] st (Qi fun v2 s1 => ((v2 ≤ x5 → Q (some (.long x3)) s1) ∧ (¬ v2 ≤ x5 → X κ 20 [(0, .ref 0), (3, .long x3), (5, .int x5), (6, .int 0)] [] s1)))) : X κ 5 [(0, .ref 0), (3, .long x3), (5, .int x5)] [] st := by
  refine X_iload C dX6_digestLists_5 (j := 2) rfl ?_
  refine X_aload_n C dX6_digestLists_7 rfl (j := 0) rfl ?_
  refine X_getR C sh_0 rfl fw_RX6_40 dX6_digestLists_8 ?_
  refine X_callV C dX6_digestLists_11 pw_RX6_312 (b := 5) (as := []) (S := [.int x5]) sh_5 rfl rfl rfl (Nat.le_of_ble_eq_true rfl) (Ct_mono h ?_)
  rintro _ s1 ⟨v2, rfl, h⟩
  show X κ 14 [(0, .ref 0), (3, .long x3), (5, .int x5)] [.int v2, .int x5] s1
  refine X_icmp_ge C dX6_digestLists_14 (tgt := 71) (by decide) (fun c => ?_) (fun c => ?_)
  · replace h := h.1 c
    refine X_lload_n C dX6_digestLists_71 rfl (j := 1) rfl ?_
    exact X_lret C Z rfl dX6_digestLists_72 h
  · replace h := h.2 c
    refine X_iconst C (v := 0) (by decide) dX6_digestLists_17 ?_
    refine X_istore C dX6_digestLists_18 (by decide) (L' := [(6, .int 0), (0, .ref 0), (3, .long x3), (5, .int x5)]) rfl ?_
    refine X_loc [1, 2, 3, 0] rfl ?_
    exact h
set_option maxHeartbeats 4000000 in
set_option maxRecDepth 100000 in
theorem bX6_digestLists_20 {κ : xK} {d : Nat} {Q : Option Value → xSt → Prop} (C : Cx κ M_X6_digestLists (d + 1)) (Z : xR κ Q) (x3 : Int64) (x5 : Int32) (x6 : Int32) (st : xSt) (h : ((4 < x6 → Ct d M_X2_motherOf [.ref 5, .int x5] st (Qi fun v2 s1 => X κ 5 [(0, .ref 0), (3, .long ((31 * x3) + ((v2 : Int32).toInt64))), (5, .int (x5 + 1))] [] s1)) ∧ (¬ 4 < x6 → Ct d M_X6_listIs [.ref 0, .int x5, .int x6] st (Qi fun v4 s3 => X κ 20 [(0, .ref 0), (3, .long ((31 * x3) + ((v4 : Int32).toInt64))), (5, .int x5), (6, .int (x6 + 1))] [] s3)))) : X κ 20 [(0, .ref 0), (3, .long x3), (5, .int x5), (6, .int x6)] [] st := by
  refine X_iload C dX6_digestLists_20 (j := 3) rfl ?_
  refine X_iconst C (v := 4) (by decide) dX6_digestLists_22 ?_
  refine X_icmp_gt C dX6_digestLists_23 (tgt := 48) (by decide) (fun c => ?_) (fun c => ?_)
  · replace h := h.1 c
    refine X_ldc2 C (v := 31) u_1007 dX6_digestLists_48 ?_
    refine X_lload_n C dX6_digestLists_51 rfl (j := 1) rfl ?_
    refine X_lmul C dX6_digestLists_52 ?_
    refine X_aload_n C dX6_digestLists_53 rfl (j := 0) rfl ?_
    refine X_getR C sh_0 rfl fw_RX6_40 dX6_digestLists_54 ?_
    refine X_iload C dX6_digestLists_57 (j := 2) rfl ?_
    refine X_callV C dX6_digestLists_59 pw_RX6_210 (b := 5) (as := [.int x5]) (S := [.long (31 * x3)]) sh_5 rfl rfl rfl (Nat.le_of_ble_eq_true rfl) (Ct_mono h ?_)
    rintro _ s1 ⟨v2, rfl, h⟩
    show X κ 62 [(0, .ref 0), (3, .long x3), (5, .int x5), (6, .int x6)] [.int v2, .long (31 * x3)] s1
    refine X_i2l C dX6_digestLists_62 ?_
    refine X_ladd C dX6_digestLists_63 ?_
    refine X_lstore_n C dX6_digestLists_64 rfl (by decide) (L' := [(3, .long ((31 * x3) + ((v2 : Int32).toInt64))), (0, .ref 0), (5, .int x5), (6, .int x6)]) rfl ?_
    refine X_iinc C dX6_digestLists_65 (j := 2) rfl (v := x5 + 1) rfl (by decide) (L' := [(5, .int (x5 + 1)), (3, .long ((31 * x3) + ((v2 : Int32).toInt64))), (0, .ref 0), (6, .int x6)]) rfl ?_
    refine X_goto C dX6_digestLists_68 (tgt := 5) (by decide) ?_
    refine X_loc [2, 1, 0] rfl ?_
    exact h
  · replace h := h.2 c
    refine X_ldc2 C (v := 31) u_1007 dX6_digestLists_26 ?_
    refine X_lload_n C dX6_digestLists_29 rfl (j := 1) rfl ?_
    refine X_lmul C dX6_digestLists_30 ?_
    refine X_aload_n C dX6_digestLists_31 rfl (j := 0) rfl ?_
    refine X_iload C dX6_digestLists_32 (j := 2) rfl ?_
    refine X_iload C dX6_digestLists_34 (j := 3) rfl ?_
    refine X_callV C dX6_digestLists_36 pw_RX6_343 (b := 0) (as := [.int x5, .int x6]) (S := [.long (31 * x3)]) sh_0 rfl rfl rfl (Nat.le_of_ble_eq_true rfl) (Ct_mono h ?_)
    rintro _ s3 ⟨v4, rfl, h⟩
    show X κ 39 [(0, .ref 0), (3, .long x3), (5, .int x5), (6, .int x6)] [.int v4, .long (31 * x3)] s3
    refine X_i2l C dX6_digestLists_39 ?_
    refine X_ladd C dX6_digestLists_40 ?_
    refine X_lstore_n C dX6_digestLists_41 rfl (by decide) (L' := [(3, .long ((31 * x3) + ((v4 : Int32).toInt64))), (0, .ref 0), (5, .int x5), (6, .int x6)]) rfl ?_
    refine X_iinc C dX6_digestLists_42 (j := 3) rfl (v := x6 + 1) rfl (by decide) (L' := [(6, .int (x6 + 1)), (3, .long ((31 * x3) + ((v4 : Int32).toInt64))), (0, .ref 0), (5, .int x5)]) rfl ?_
    refine X_goto C dX6_digestLists_45 (tgt := 20) (by decide) ?_
    refine X_loc [2, 1, 3, 0] rfl ?_
    exact h
set_option maxHeartbeats 4000000 in
set_option maxRecDepth 100000 in
theorem eX6_digestLists {d : Nat} {Q : Option Value → xSt → Prop} (a1 : Int64) (st : xSt) (h : ∀ κ : xK, Cx κ M_X6_digestLists (d + 1) → xR κ Q → X κ 5 [(0, .ref 0), (3, .long a1), (5, .int 0)] [] st) : Ct (d + 1) M_X6_digestLists [.ref 0, .long a1] st Q := by
  refine Ct_of (by decide +kernel) (Nat.le_of_ble_eq_true rfl) (fun κ C Z => ?_)
  replace h := h κ C Z
  show X κ 0 [(0, .ref 0), (1, .long a1)] [] st
  refine X_lload_n C dX6_digestLists_0 rfl (j := 1) rfl ?_
  refine X_lstore_n C dX6_digestLists_1 rfl (by decide) (L' := [(3, .long a1), (0, .ref 0), (1, .long a1)]) rfl ?_
  refine X_iconst C (v := 0) (by decide) dX6_digestLists_2 ?_
  refine X_istore C dX6_digestLists_3 (by decide) (L' := [(5, .int 0), (3, .long a1), (0, .ref 0), (1, .long a1)]) rfl ?_
  refine X_loc [2, 1, 0] rfl ?_
  exact h
