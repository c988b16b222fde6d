set_option maxHeartbeats 4000000 in
set_option maxRecDepth 100000 in
theorem eX0_size {d : Nat} {Q : Option Value → xSt → Prop} (st : xSt) (h : Q (some (.int (st.1 2 4))) st) : Ct (d) M_X0_size [.ref 2] st Q := by
  refine Ct_of (by decide +kernel) (Nat.le_of_ble_eq_true rfl) (fun κ C Z => ?_)
  show X κ 0 [(0, .ref 2)] [] st
  refine X_aload_n C dX0_size_0 rfl (j := 0) rfl ?_
  refine X_getI C sh_2 rfl fw_RX0_26 dX0_size_1 ?_
  exact X_iret C Z rfl dX0_size_4 h
set_option maxHeartbeats 4000000 in
set_option maxRecDepth 100000 in
theorem eX0_isFull {d : Nat} {Q : Option Value → xSt → Prop} (st : xSt) (h : (((st.1 2 4) < 6 → Q (some (.int 0)) st) ∧ (¬ (st.1 2 4) < 6 → Q (some (.int 1)) st))) : Ct (d) M_X0_isFull [.ref 2] st Q := by
  refine Ct_of (by decide +kernel) (Nat.le_of_ble_eq_true rfl) (fun κ C Z => ?_)
  show X κ 0 [(0, .ref 2)] [] st
  refine X_aload_n C dX0_isFull_0 rfl (j := 0) rfl ?_
  refine X_getI C sh_2 rfl fw_RX0_26 dX0_isFull_1 ?_
  refine X_bipush C (v := 6) (by decide) dX0_isFull_4 ?_
  refine X_icmp_lt C dX0_isFull_6 (tgt := 13) (by decide) (fun c => ?_) (fun c => ?_)
  · replace h := h.1 c
    refine X_iconst C (v := 0) (by decide) dX0_isFull_13 ?_
    exact X_zret C Z rfl (by decide) dX0_isFull_14 h
  · replace h := h.2 c
    refine X_iconst C (v := 1) (by decide) dX0_isFull_9 ?_
    refine X_goto C dX0_isFull_10 (tgt := 14) (by decide) ?_
    exact X_zret C Z rfl (by decide) dX0_isFull_14 h
set_option maxHeartbeats 4000000 in
set_option maxRecDepth 100000 in
theorem eX0_has {d : Nat} {Q : Option Value → xSt → Prop} (a1 : Int32) (st : xSt) (h : ((a1 < 0 → Q (some (.int 0)) st) ∧ (¬ a1 < 0 → (((st.1 2 4) ≤ a1 → Q (some (.int 0)) st) ∧ (¬ (st.1 2 4) ≤ a1 → ((6 ≤ a1 → Q (some (.int 0)) st) ∧ (¬ 6 ≤ a1 → Q (some (.int 1)) st))))))) : Ct (d) M_X0_has [.ref 2, .int a1] st Q := by
  refine Ct_of (by decide +kernel) (Nat.le_of_ble_eq_true rfl) (fun κ C Z => ?_)
  show X κ 0 [(0, .ref 2), (1, .int a1)] [] st
  refine X_iload_n C dX0_has_0 rfl (j := 1) rfl ?_
  refine X_if_lt C dX0_has_1 (tgt := 22) (by decide) (fun c => ?_) (fun c => ?_)
  · replace h := h.1 c
    refine X_iconst C (v := 0) (by decide) dX0_has_22 ?_
    exact X_zret C Z rfl (by decide) dX0_has_23 h
  · replace h := h.2 c
    refine X_iload_n C dX0_has_4 rfl (j := 1) rfl ?_
    refine X_aload_n C dX0_has_5 rfl (j := 0) rfl ?_
    refine X_getI C sh_2 rfl fw_RX0_26 dX0_has_6 ?_
    refine X_icmp_ge C dX0_has_9 (tgt := 22) (by decide) (fun c => ?_) (fun c => ?_)
    · replace h := h.1 c
      refine X_iconst C (v := 0) (by decide) dX0_has_22 ?_
      exact X_zret C Z rfl (by decide) dX0_has_23 h
    · replace h := h.2 c
      refine X_iload_n C dX0_has_12 rfl (j := 1) rfl ?_
      refine X_bipush C (v := 6) (by decide) dX0_has_13 ?_
      refine X_icmp_ge C dX0_has_15 (tgt := 22) (by decide) (fun c => ?_) (fun c => ?_)
      · replace h := h.1 c
        refine X_iconst C (v := 0) (by decide) dX0_has_22 ?_
        exact X_zret C Z rfl (by decide) dX0_has_23 h
      · replace h := h.2 c
        refine X_iconst C (v := 1) (by decide) dX0_has_18 ?_
        refine X_goto C dX0_has_19 (tgt := 23) (by decide) ?_
        exact X_zret C Z rfl (by decide) dX0_has_23 h
set_option maxHeartbeats 4000000 in
set_option maxRecDepth 100000 in
theorem bX0_learn_47 {κ : xK} {d : Nat} {Q : Option Value → xSt → Prop} (C : Cx κ M_X0_learn (d + 1)) (Z : xR κ Q) (x2 : Int32) (x3 : Int32) (x4 : Int32) (x5 : Int32) (x6 : Int32) (x7 : Int32) (st : xSt) (h : ((x3 ≤ x7 → ((x4 = 0 → vp_in x5 6 ∧ ((x4 = 0 → vp_in x5 6 ∧ Q (some (.int x5)) (xup (xup (xup st 12 (x5 : Int32).toNatClampNeg x3) 13 (x5 : Int32).toNatClampNeg 0) 2 4 (((xup (xup st 12 (x5 : Int32).toNatClampNeg x3) 13 (x5 : Int32).toNatClampNeg 0).1 2 4) + 1))) ∧ (¬ x4 = 0 → vp_in x5 6 ∧ Q (some (.int x5)) (xup (xup (xup st 12 (x5 : Int32).toNatClampNeg x3) 13 (x5 : Int32).toNatClampNeg 1) 2 4 (((xup (xup st 12 (x5 : Int32).toNatClampNeg x3) 13 (x5 : Int32).toNatClampNeg 1).1 2 4) + 1))))) ∧ (¬ x4 = 0 → vp_in x5 6 ∧ Ct d M_X4_wordAt [.ref 1, .int x2, .int x3] st (Qi fun v6 s5 => vp_in x3 41 ∧ vp_in x5 6 ∧ ((x4 = 0 → vp_in x5 6 ∧ Q (some (.int x5)) (xup (xup (xup (xup s5 (52 + (x5 : Int32).toNatClampNeg) (x3 : Int32).toNatClampNeg v6) 12 (x5 : Int32).toNatClampNeg x3) 13 (x5 : Int32).toNatClampNeg 0) 2 4 (((xup (xup (xup s5 (52 + (x5 : Int32).toNatClampNeg) (x3 : Int32).toNatClampNeg v6) 12 (x5 : Int32).toNatClampNeg x3) 13 (x5 : Int32).toNatClampNeg 0).1 2 4) + 1))) ∧ (¬ x4 = 0 → vp_in x5 6 ∧ Q (some (.int x5)) (xup (xup (xup (xup s5 (52 + (x5 : Int32).toNatClampNeg) (x3 : Int32).toNatClampNeg v6) 12 (x5 : Int32).toNatClampNeg x3) 13 (x5 : Int32).toNatClampNeg 1) 2 4 (((xup (xup (xup s5 (52 + (x5 : Int32).toNatClampNeg) (x3 : Int32).toNatClampNeg v6) 12 (x5 : Int32).toNatClampNeg x3) 13 (x5 : Int32).toNatClampNeg 1).1 2 4) + 1)))))))) ∧ (¬ x3 ≤ x7 → Ct d M_X4_wordAt [.ref 1, .int x2, .int x7] st (Qi fun v12 s11 => vp_in x5 6 ∧ vp_in x7 41 ∧ vp_in x5 6 ∧ vp_in (x6 - x7) 41 ∧ X κ 47 [(0, .ref 2), (1, .ref 1), (2, .int x2), (3, .int x3), (4, .int x4), (5, .int x5), (6, .int x6), (7, .int (x7 + 1))] [] (xup (xup s11 (52 + (x5 : Int32).toNatClampNeg) (x7 : Int32).toNatClampNeg v12) (52 + (x5 : Int32).toNatClampNeg) (x6 - x7 : Int32).toNatClampNeg v12))))) : X κ 47 [(0, .ref 2), (1, .ref 1), (2, .int x2), (3, .int x3), (4, .int x4), (5, .int x5), (6, .int x6), (7, .int x7)] [] st := by
  refine X_iload C dX0_learn_47 (j := 7) rfl ?_
  refine X_iload_n C dX0_learn_49 rfl (j := 3) rfl ?_
  refine X_icmp_ge C dX0_learn_50 (tgt := 95) (by decide) (fun c => ?_) (fun c => ?_)
  · replace h := h.1 c
    refine X_iload C dX0_learn_95 (j := 4) rfl ?_
    refine X_if_eq C dX0_learn_97 (tgt := 115) (by decide) (fun c => ?_) (fun c => ?_)
    · replace h := h.1 c
      refine X_aload_n C dX0_learn_115 rfl (j := 0) rfl ?_
      refine X_getR C sh_2 rfl fw_RX0_16 dX0_learn_116 ?_
      refine X_iload C dX0_learn_119 (j := 5) rfl ?_
      refine X_iload_n C dX0_learn_121 rfl (j := 3) rfl ?_
      obtain ⟨g1, h⟩ := h
      refine X_iast C sh_12 g1 dX0_learn_122 ?_
      refine X_aload_n C dX0_learn_123 rfl (j := 0) rfl ?_
      refine X_getR C sh_2 rfl fw_RX0_20 dX0_learn_124 ?_
      refine X_iload C dX0_learn_127 (j := 5) rfl ?_
      refine X_iload C dX0_learn_129 (j := 4) rfl ?_
      refine X_if_eq C dX0_learn_131 (tgt := 138) (by decide) (fun c => ?_) (fun c => ?_)
      · replace h := h.1 c
        refine X_iconst C (v := 0) (by decide) dX0_learn_138 ?_
        obtain ⟨g2, h⟩ := h
        refine X_iast C sh_13 g2 dX0_learn_139 ?_
        refine X_aload_n C dX0_learn_140 rfl (j := 0) rfl ?_
        refine X_dup C rfl dX0_learn_141 ?_
        refine X_getI C sh_2 rfl fw_RX0_26 dX0_learn_142 ?_
        refine X_iconst C (v := 1) (by decide) dX0_learn_145 ?_
        refine X_iadd C dX0_learn_146 ?_
        refine X_putI C sh_2 rfl fp_RX0_26 dX0_learn_147 ?_
        refine X_iload C dX0_learn_150 (j := 5) rfl ?_
        exact X_iret C Z rfl dX0_learn_152 h
      · replace h := h.2 c
        refine X_iconst C (v := 1) (by decide) dX0_learn_134 ?_
        refine X_goto C dX0_learn_135 (tgt := 139) (by decide) ?_
        obtain ⟨g3, h⟩ := h
        refine X_iast C sh_13 g3 dX0_learn_139 ?_
        refine X_aload_n C dX0_learn_140 rfl (j := 0) rfl ?_
        refine X_dup C rfl dX0_learn_141 ?_
        refine X_getI C sh_2 rfl fw_RX0_26 dX0_learn_142 ?_
        refine X_iconst C (v := 1) (by decide) dX0_learn_145 ?_
        refine X_iadd C dX0_learn_146 ?_
        refine X_putI C sh_2 rfl fp_RX0_26 dX0_learn_147 ?_
        refine X_iload C dX0_learn_150 (j := 5) rfl ?_
        exact X_iret C Z rfl dX0_learn_152 h
    · replace h := h.2 c
      refine X_aload_n C dX0_learn_100 rfl (j := 0) rfl ?_
      refine X_getR C sh_2 rfl fw_RX0_13 dX0_learn_101 ?_
      refine X_iload C dX0_learn_104 (j := 5) rfl ?_
      obtain ⟨g4, h⟩ := h
      refine X_aald C sh_11 g4 dX0_learn_106 ?_
      refine X_iload_n C dX0_learn_107 rfl (j := 3) rfl ?_
      refine X_aload_n C dX0_learn_108 rfl (j := 1) rfl ?_
      refine X_iload_n C dX0_learn_109 rfl (j := 2) rfl ?_
      refine X_iload_n C dX0_learn_110 rfl (j := 3) rfl ?_
      refine X_callV C dX0_learn_111 pw_RX0_38 (b := 1) (as := [.int x2, .int x3]) (S := [.int x3, .ref (52 + (x5 : Int32).toNatClampNeg)]) sh_1 rfl rfl rfl (Nat.le_of_ble_eq_true rfl) (Ct_mono h ?_)
      rintro _ s5 ⟨v6, rfl, h⟩
      show X κ 114 [(0, .ref 2), (1, .ref 1), (2, .int x2), (3, .int x3), (4, .int x4), (5, .int x5), (6, .int x6), (7, .int x7)] [.int v6, .int x3, .ref (52 + (x5 : Int32).toNatClampNeg)] s5
      obtain ⟨g7, h⟩ := h
      refine X_iast C (shr_52 (vp_lt g4)) g7 dX0_learn_114 ?_
      refine X_aload_n C dX0_learn_115 rfl (j := 0) rfl ?_
      refine X_getR C sh_2 rfl fw_RX0_16 dX0_learn_116 ?_
      refine X_iload C dX0_learn_119 (j := 5) rfl ?_
      refine X_iload_n C dX0_learn_121 rfl (j := 3) rfl ?_
      obtain ⟨g8, h⟩ := h
      refine X_iast C sh_12 g8 dX0_learn_122 ?_
      refine X_aload_n C dX0_learn_123 rfl (j := 0) rfl ?_
      refine X_getR C sh_2 rfl fw_RX0_20 dX0_learn_124 ?_
      refine X_iload C dX0_learn_127 (j := 5) rfl ?_
      refine X_iload C dX0_learn_129 (j := 4) rfl ?_
      refine X_if_eq C dX0_learn_131 (tgt := 138) (by decide) (fun c => ?_) (fun c => ?_)
      · replace h := h.1 c
        refine X_iconst C (v := 0) (by decide) dX0_learn_138 ?_
        obtain ⟨g9, h⟩ := h
        refine X_iast C sh_13 g9 dX0_learn_139 ?_
        refine X_aload_n C dX0_learn_140 rfl (j := 0) rfl ?_
        refine X_dup C rfl dX0_learn_141 ?_
        refine X_getI C sh_2 rfl fw_RX0_26 dX0_learn_142 ?_
        refine X_iconst C (v := 1) (by decide) dX0_learn_145 ?_
        refine X_iadd C dX0_learn_146 ?_
        refine X_putI C sh_2 rfl fp_RX0_26 dX0_learn_147 ?_
        refine X_iload C dX0_learn_150 (j := 5) rfl ?_
        exact X_iret C Z rfl dX0_learn_152 h
      · replace h := h.2 c
        refine X_iconst C (v := 1) (by decide) dX0_learn_134 ?_
        refine X_goto C dX0_learn_135 (tgt := 139) (by decide) ?_
        obtain ⟨g10, h⟩ := h
        refine X_iast C sh_13 g10 dX0_learn_139 ?_
        refine X_aload_n C dX0_learn_140 rfl (j := 0) rfl ?_
        refine X_dup C rfl dX0_learn_141 ?_
        refine X_getI C sh_2 rfl fw_RX0_26 dX0_learn_142 ?_
        refine X_iconst C (v := 1) (by decide) dX0_learn_145 ?_
        refine X_iadd C dX0_learn_146 ?_
        refine X_putI C sh_2 rfl fp_RX0_26 dX0_learn_147 ?_
        refine X_iload C dX0_learn_150 (j := 5) rfl ?_
        exact X_iret C Z rfl dX0_learn_152 h
  · replace h := h.2 c
    refine X_aload_n C dX0_learn_53 rfl (j := 1) rfl ?_
    refine X_iload_n C dX0_learn_54 rfl (j := 2) rfl ?_
    refine X_iload C dX0_learn_55 (j := 7) rfl ?_
    refine X_callV C dX0_learn_57 pw_RX0_38 (b := 1) (as := [.int x2, .int x7]) (S := []) sh_1 rfl rfl rfl (Nat.le_of_ble_eq_true rfl) (Ct_mono h ?_)
    rintro _ s11 ⟨v12, rfl, h⟩
    show X κ 60 [(0, .ref 2), (1, .ref 1), (2, .int x2), (3, .int x3), (4, .int x4), (5, .int x5), (6, .int x6), (7, .int x7)] [.int v12] s11
    refine X_istore C dX0_learn_60 (by decide) (L' := [(8, .int v12), (0, .ref 2), (1, .ref 1), (2, .int x2), (3, .int x3), (4, .int x4), (5, .int x5), (6, .int x6), (7, .int x7)]) rfl ?_
    refine X_aload_n C dX0_learn_62 rfl (j := 1) rfl ?_
    refine X_getR C sh_2 rfl fw_RX0_13 dX0_learn_63 ?_
    refine X_iload C dX0_learn_66 (j := 6) rfl ?_
    obtain ⟨g13, h⟩ := h
    refine X_aald C sh_11 g13 dX0_learn_68 ?_
    refine X_iload C dX0_learn_69 (j := 8) rfl ?_
    refine X_iload C dX0_learn_71 (j := 0) rfl ?_
    obtain ⟨g14, h⟩ := h
    refine X_iast C (shr_52 (vp_lt g13)) g14 dX0_learn_73 ?_
    refine X_aload_n C dX0_learn_74 rfl (j := 1) rfl ?_
    refine X_getR C sh_2 rfl fw_RX0_13 dX0_learn_75 ?_
    refine X_iload C dX0_learn_78 (j := 6) rfl ?_
    obtain ⟨g15, h⟩ := h
    refine X_aald C sh_11 g15 dX0_learn_80 ?_
    refine X_iload C dX0_learn_81 (j := 7) rfl ?_
    refine X_iload C dX0_learn_83 (j := 8) rfl ?_
    refine X_isub C dX0_learn_85 ?_
    refine X_iload C dX0_learn_86 (j := 0) rfl ?_
    obtain ⟨g16, h⟩ := h
    refine X_iast C (shr_52 (vp_lt g15)) g16 dX0_learn_88 ?_
    refine X_iinc C dX0_learn_89 (j := 8) rfl (v := x7 + 1) rfl (by decide) (L' := [(7, .int (x7 + 1)), (8, .int v12), (0, .ref 2), (1, .ref 1), (2, .int x2), (3, .int x3), (4, .int x4), (5, .int x5), (6, .int x6)]) rfl ?_
    refine X_goto C dX0_learn_92 (tgt := 47) (by decide) ?_
    refine X_loc [2, 3, 4, 5, 6, 7, 8, 0] rfl ?_
    exact h
set_option maxHeartbeats 4000000 in
set_option maxRecDepth 100000 in
theorem eX0_learn {d : Nat} {Q : Option Value → xSt → Prop} (a2 : Int32) (a3 : Int32) (a4 : Int32) (st : xSt) (h : ∀ κ : xK, Cx κ M_X0_learn (d + 1) → xR κ Q → Ct d M_X0_isFull [.ref 2] st (Qi fun v2 s1 => ((¬ v2 = 0 → Q (some (.int ((-4)))) s1) ∧ (v2 = 0 → Ct d M_X6_within [.int a3, .int 1, .int 20] s1 (Qi fun v4 s3 => ((¬ v4 = 0 → ((a4 = 0 → X κ 47 [(0, .ref 2), (1, .ref 1), (2, .int a2), (3, .int a3), (4, .int a4), (5, .int (s3.1 2 4)), (6, .int ((2 * a3) - 1)), (7, .int 0)] [] s3) ∧ (¬ a4 = 0 → X κ 47 [(0, .ref 2), (1, .ref 1), (2, .int a2), (3, .int a3), (4, .int a4), (5, .int (s3.1 2 4)), (6, .int (2 * a3)), (7, .int 0)] [] s3))) ∧ (v4 = 0 → Q (some (.int ((-4)))) s3))))))) : Ct (d + 1) M_X0_learn [.ref 2, .ref 1, .int a2, .int a3, .int a4] st Q := by
  refine Ct_of (by decide +kernel) (Nat.le_of_ble_eq_true rfl) (fun κ C Z => ?_)
  replace h := h κ C Z
  show X κ 0 [(0, .ref 2), (1, .ref 1), (2, .int a2), (3, .int a3), (4, .int a4)] [] st
  refine X_aload_n C dX0_learn_0 rfl (j := 0) rfl ?_
  refine X_callV C dX0_learn_1 pw_RX0_30 (b := 2) (as := []) (S := []) sh_2 rfl rfl rfl (Nat.le_of_ble_eq_true rfl) (Ct_mono h ?_)
  rintro _ s1 ⟨v2, rfl, h⟩
  show X κ 4 [(0, .ref 2), (1, .ref 1), (2, .int a2), (3, .int a3), (4, .int a4)] [.int v2] s1
  refine X_if_ne C dX0_learn_4 (tgt := 17) (by decide) (fun c => ?_) (fun c => ?_)
  · replace h := h.1 c
    refine X_bipush C (v := (-4)) (by decide) dX0_learn_17 ?_
    exact X_iret C Z rfl dX0_learn_19 h
  · replace h := h.2 c
    refine X_iload_n C dX0_learn_7 rfl (j := 3) rfl ?_
    refine X_iconst C (v := 1) (by decide) dX0_learn_8 ?_
    refine X_bipush C (v := 20) (by decide) dX0_learn_9 ?_
    refine X_callN C dX0_learn_11 pw_RX0_34 (as := [.int a3, .int 1, .int 20]) (S := []) rfl rfl (Nat.le_of_ble_eq_true rfl) (Ct_mono h ?_)
    rintro _ s3 ⟨v4, rfl, h⟩
    show X κ 14 [(0, .ref 2), (1, .ref 1), (2, .int a2), (3, .int a3), (4, .int a4)] [.int v4] s3
    refine X_if_ne C dX0_learn_14 (tgt := 20) (by decide) (fun c => ?_) (fun c => ?_)
    · replace h := h.1 c
      refine X_aload_n C dX0_learn_20 rfl (j := 0) rfl ?_
      refine X_getI C sh_2 rfl fw_RX0_26 dX0_learn_21 ?_
      refine X_istore C dX0_learn_24 (by decide) (L' := [(5, .int (s3.1 2 4)), (0, .ref 2), (1, .ref 1), (2, .int a2), (3, .int a3), (4, .int a4)]) rfl ?_
      refine X_iload C dX0_learn_26 (j := 5) rfl ?_
      refine X_if_eq C dX0_learn_28 (tgt := 37) (by decide) (fun c => ?_) (fun c => ?_)
      · replace h := h.1 c
        refine X_iconst C (v := 2) (by decide) dX0_learn_37 ?_
        refine X_iload_n C dX0_learn_38 rfl (j := 4) rfl ?_
        refine X_imul C dX0_learn_39 ?_
        refine X_iconst C (v := 1) (by decide) dX0_learn_40 ?_
        refine X_isub C dX0_learn_41 ?_
        refine X_istore C dX0_learn_42 (by decide) (L' := [(6, .int ((2 * a3) - 1)), (5, .int (s3.1 2 4)), (0, .ref 2), (1, .ref 1), (2, .int a2), (3, .int a3), (4, .int a4)]) rfl ?_
        refine X_iconst C (v := 0) (by decide) dX0_learn_44 ?_
        refine X_istore C dX0_learn_45 (by decide) (L' := [(7, .int 0), (6, .int ((2 * a3) - 1)), (5, .int (s3.1 2 4)), (0, .ref 2), (1, .ref 1), (2, .int a2), (3, .int a3), (4, .int a4)]) rfl ?_
        refine X_loc [3, 4, 5, 6, 7, 2, 1, 0] rfl ?_
        exact h
      · replace h := h.2 c
        refine X_iconst C (v := 2) (by decide) dX0_learn_31 ?_
        refine X_iload_n C dX0_learn_32 rfl (j := 4) rfl ?_
        refine X_imul C dX0_learn_33 ?_
        refine X_goto C dX0_learn_34 (tgt := 42) (by decide) ?_
        refine X_istore C dX0_learn_42 (by decide) (L' := [(6, .int (2 * a3)), (5, .int (s3.1 2 4)), (0, .ref 2), (1, .ref 1), (2, .int a2), (3, .int a3), (4, .int a4)]) rfl ?_
        refine X_iconst C (v := 0) (by decide) dX0_learn_44 ?_
        refine X_istore C dX0_learn_45 (by decide) (L' := [(7, .int 0), (6, .int (2 * a3)), (5, .int (s3.1 2 4)), (0, .ref 2), (1, .ref 1), (2, .int a2), (3, .int a3), (4, .int a4)]) rfl ?_
        refine X_loc [3, 4, 5, 6, 7, 2, 1, 0] rfl ?_
        exact h
    · replace h := h.2 c
      refine X_bipush C (v := (-4)) (by decide) dX0_learn_17 ?_
      exact X_iret C Z rfl dX0_learn_19 h
set_option maxHeartbeats 4000000 in
set_option maxRecDepth 100000 in
theorem eX0_beginOn {d : Nat} {Q : Option Value → xSt → Prop} (a1 : Int32) (a2 : Int32) (st : xSt) (h : Ct d M_X0_has [.ref 2, .int a1] st (Qi fun v2 s1 => ((¬ v2 = 0 → vp_in a1 6 ∧ vp_in a1 6 ∧ Q (some (.int (s1.1 14 (a1 : Int32).toNatClampNeg))) (xup s1 14 (a1 : Int32).toNatClampNeg a2)) ∧ (v2 = 0 → Q (some (.int ((-2)))) s1)))) : Ct (d + 1) M_X0_beginOn [.ref 2, .int a1, .int a2] st Q := by
  refine Ct_of (by decide +kernel) (Nat.le_of_ble_eq_true rfl) (fun κ C Z => ?_)
  show X κ 0 [(0, .ref 2), (1, .int a1), (2, .int a2)] [] st
  refine X_aload_n C dX0_beginOn_0 rfl (j := 0) rfl ?_
  refine X_iload_n C dX0_beginOn_1 rfl (j := 1) rfl ?_
  refine X_callV C dX0_beginOn_2 pw_RX0_44 (b := 2) (as := [.int a1]) (S := []) sh_2 rfl rfl rfl (Nat.le_of_ble_eq_true rfl) (Ct_mono h ?_)
  rintro _ s1 ⟨v2, rfl, h⟩
  show X κ 5 [(0, .ref 2), (1, .int a1), (2, .int a2)] [.int v2] s1
  refine X_if_ne C dX0_beginOn_5 (tgt := 11) (by decide) (fun c => ?_) (fun c => ?_)
  · replace h := h.1 c
    refine X_aload_n C dX0_beginOn_11 rfl (j := 0) rfl ?_
    refine X_getR C sh_2 rfl fw_RX0_23 dX0_beginOn_12 ?_
    refine X_iload_n C dX0_beginOn_15 rfl (j := 1) rfl ?_
    obtain ⟨g3, h⟩ := h
    refine X_iald C sh_14 g3 dX0_beginOn_16 ?_
    refine X_istore_n C dX0_beginOn_17 rfl (by decide) (L' := [(3, .int (s1.1 14 (a1 : Int32).toNatClampNeg)), (0, .ref 2), (1, .int a1), (2, .int a2)]) rfl ?_
    refine X_aload_n C dX0_beginOn_18 rfl (j := 1) rfl ?_
    refine X_getR C sh_2 rfl fw_RX0_23 dX0_beginOn_19 ?_
    refine X_iload_n C dX0_beginOn_22 rfl (j := 2) rfl ?_
    refine X_iload_n C dX0_beginOn_23 rfl (j := 3) rfl ?_
    obtain ⟨g4, h⟩ := h
    refine X_iast C sh_14 g4 dX0_beginOn_24 ?_
    refine X_iload_n C dX0_beginOn_25 rfl (j := 0) rfl ?_
    exact X_iret C Z rfl dX0_beginOn_26 h
  · replace h := h.2 c
    refine X_bipush C (v := (-2)) (by decide) dX0_beginOn_8 ?_
    exact X_iret C Z rfl dX0_beginOn_10 h
set_option maxHeartbeats 4000000 in
set_option maxRecDepth 100000 in
theorem eX0_halfOf {d : Nat} {Q : Option Value → xSt → Prop} (a1 : Int32) (st : xSt) (h : Ct d M_X0_has [.ref 2, .int a1] st (Qi fun v2 s1 => ((v2 = 0 → Q (some (.int 0)) s1) ∧ (¬ v2 = 0 → vp_in a1 6 ∧ Q (some (.int (s1.1 12 (a1 : Int32).toNatClampNeg))) s1)))) : Ct (d + 1) M_X0_halfOf [.ref 2, .int a1] st Q := by
  refine Ct_of (by decide +kernel) (Nat.le_of_ble_eq_true rfl) (fun κ C Z => ?_)
  show X κ 0 [(0, .ref 2), (1, .int a1)] [] st
  refine X_aload_n C dX0_halfOf_0 rfl (j := 0) rfl ?_
  refine X_iload_n C dX0_halfOf_1 rfl (j := 1) rfl ?_
  refine X_callV C dX0_halfOf_2 pw_RX0_44 (b := 2) (as := [.int a1]) (S := []) sh_2 rfl rfl rfl (Nat.le_of_ble_eq_true rfl) (Ct_mono h ?_)
  rintro _ s1 ⟨v2, rfl, h⟩
  show X κ 5 [(0, .ref 2), (1, .int a1)] [.int v2] s1
  refine X_if_eq C dX0_halfOf_5 (tgt := 17) (by decide) (fun c => ?_) (fun c => ?_)
  · replace h := h.1 c
    refine X_iconst C (v := 0) (by decide) dX0_halfOf_17 ?_
    exact X_iret C Z rfl dX0_halfOf_18 h
  · replace h := h.2 c
    refine X_aload_n C dX0_halfOf_8 rfl (j := 0) rfl ?_
    refine X_getR C sh_2 rfl fw_RX0_16 dX0_halfOf_9 ?_
    refine X_iload_n C dX0_halfOf_12 rfl (j := 1) rfl ?_
    obtain ⟨g3, h⟩ := h
    refine X_iald C sh_12 g3 dX0_halfOf_13 ?_
    refine X_goto C dX0_halfOf_14 (tgt := 18) (by decide) ?_
    exact X_iret C Z rfl dX0_halfOf_18 h
set_option maxHeartbeats 4000000 in
set_option maxRecDepth 100000 in
theorem eX0_noseOf {d : Nat} {Q : Option Value → xSt → Prop} (a1 : Int32) (st : xSt) (h : Ct d M_X0_has [.ref 2, .int a1] st (Qi fun v2 s1 => ((v2 = 0 → Q (some (.int 0)) s1) ∧ (¬ v2 = 0 → vp_in a1 6 ∧ Q (some (.int (s1.1 13 (a1 : Int32).toNatClampNeg))) s1)))) : Ct (d + 1) M_X0_noseOf [.ref 2, .int a1] st Q := by
  refine Ct_of (by decide +kernel) (Nat.le_of_ble_eq_true rfl) (fun κ C Z => ?_)
  show X κ 0 [(0, .ref 2), (1, .int a1)] [] st
  refine X_aload_n C dX0_noseOf_0 rfl (j := 0) rfl ?_
  refine X_iload_n C dX0_noseOf_1 rfl (j := 1) rfl ?_
  refine X_callV C dX0_noseOf_2 pw_RX0_44 (b := 2) (as := [.int a1]) (S := []) sh_2 rfl rfl rfl (Nat.le_of_ble_eq_true rfl) (Ct_mono h ?_)
  rintro _ s1 ⟨v2, rfl, h⟩
  show X κ 5 [(0, .ref 2), (1, .int a1)] [.int v2] s1
  refine X_if_eq C dX0_noseOf_5 (tgt := 17) (by decide) (fun c => ?_) (fun c => ?_)
  · replace h := h.1 c
    refine X_iconst C (v := 0) (by decide) dX0_noseOf_17 ?_
    exact X_iret C Z rfl dX0_noseOf_18 h
  · replace h := h.2 c
    refine X_aload_n C dX0_noseOf_8 rfl (j := 0) rfl ?_
    refine X_getR C sh_2 rfl fw_RX0_20 dX0_noseOf_9 ?_
    refine X_iload_n C dX0_noseOf_12 rfl (j := 1) rfl ?_
    obtain ⟨g3, h⟩ := h
    refine X_iald C sh_13 g3 dX0_noseOf_13 ?_
    refine X_goto C dX0_noseOf_14 (tgt := 18) (by decide) ?_
    exact X_iret C Z rfl dX0_noseOf_18 h
set_option maxHeartbeats 4000000 in
set_option maxRecDepth 100000 in
theorem eX0_firstHand {d : Nat} {Q : Option Value → xSt → Prop} (a1 : Int32) (st : xSt) (h : Ct d M_X0_has [.ref 2, .int a1] st (Qi fun v2 s1 => ((v2 = 0 → Q (some (.int ((-1)))) s1) ∧ (¬ v2 = 0 → vp_in a1 6 ∧ Q (some (.int (s1.1 14 (a1 : Int32).toNatClampNeg))) s1)))) : Ct (d + 1) M_X0_firstHand [.ref 2, .int a1] st Q := by
  refine Ct_of (by decide +kernel) (Nat.le_of_ble_eq_true rfl) (fun κ C Z => ?_)
  show X κ 0 [(0, .ref 2), (1, .int a1)] [] st
  refine X_aload_n C dX0_firstHand_0 rfl (j := 0) rfl ?_
  refine X_iload_n C dX0_firstHand_1 rfl (j := 1) rfl ?_
  refine X_callV C dX0_firstHand_2 pw_RX0_44 (b := 2) (as := [.int a1]) (S := []) sh_2 rfl rfl rfl (Nat.le_of_ble_eq_true rfl) (Ct_mono h ?_)
  rintro _ s1 ⟨v2, rfl, h⟩
  show X κ 5 [(0, .ref 2), (1, .int a1)] [.int v2] s1
  refine X_if_eq C dX0_firstHand_5 (tgt := 17) (by decide) (fun c => ?_) (fun c => ?_)
  · replace h := h.1 c
    refine X_iconst C (v := (-1)) (by decide) dX0_firstHand_17 ?_
    exact X_iret C Z rfl dX0_firstHand_18 h
  · replace h := h.2 c
    refine X_aload_n C dX0_firstHand_8 rfl (j := 0) rfl ?_
    refine X_getR C sh_2 rfl fw_RX0_23 dX0_firstHand_9 ?_
    refine X_iload_n C dX0_firstHand_12 rfl (j := 1) rfl ?_
    obtain ⟨g3, h⟩ := h
    refine X_iald C sh_14 g3 dX0_firstHand_13 ?_
    refine X_goto C dX0_firstHand_14 (tgt := 18) (by decide) ?_
    exact X_iret C Z rfl dX0_firstHand_18 h
set_option maxHeartbeats 4000000 in
set_option maxRecDepth 100000 in
theorem eX0_places {d : Nat} {Q : Option Value → xSt → Prop} (a1 : Int32) (st : xSt) (h : Ct d M_X0_has [.ref 2, .int a1] st (Qi fun v2 s1 => ((v2 = 0 → Q (some (.int 0)) s1) ∧ (¬ v2 = 0 → vp_in a1 6 ∧ vp_in a1 6 ∧ Q (some (.int ((2 * (s1.1 12 (a1 : Int32).toNatClampNeg)) + (s1.1 13 (a1 : Int32).toNatClampNeg)))) s1)))) : Ct (d + 1) M_X0_places [.ref 2, .int a1] st Q := by
  refine Ct_of (by decide +kernel) (Nat.le_of_ble_eq_true rfl) (fun κ C Z => ?_)
  show X κ 0 [(0, .ref 2), (1, .int a1)] [] st
  refine X_aload_n C dX0_places_0 rfl (j := 0) rfl ?_
  refine X_iload_n C dX0_places_1 rfl (j := 1) rfl ?_
  refine X_callV C dX0_places_2 pw_RX0_44 (b := 2) (as := [.int a1]) (S := []) sh_2 rfl rfl rfl (Nat.le_of_ble_eq_true rfl) (Ct_mono h ?_)
  rintro _ s1 ⟨v2, rfl, h⟩
  show X κ 5 [(0, .ref 2), (1, .int a1)] [.int v2] s1
  refine X_if_eq C dX0_places_5 (tgt := 26) (by decide) (fun c => ?_) (fun c => ?_)
  · replace h := h.1 c
    refine X_iconst C (v := 0) (by decide) dX0_places_26 ?_
    exact X_iret C Z rfl dX0_places_27 h
  · replace h := h.2 c
    refine X_iconst C (v := 2) (by decide) dX0_places_8 ?_
    refine X_aload_n C dX0_places_9 rfl (j := 0) rfl ?_
    refine X_getR C sh_2 rfl fw_RX0_16 dX0_places_10 ?_
    refine X_iload_n C dX0_places_13 rfl (j := 1) rfl ?_
    obtain ⟨g3, h⟩ := h
    refine X_iald C sh_12 g3 dX0_places_14 ?_
    refine X_imul C dX0_places_15 ?_
    refine X_aload_n C dX0_places_16 rfl (j := 0) rfl ?_
    refine X_getR C sh_2 rfl fw_RX0_20 dX0_places_17 ?_
    refine X_iload_n C dX0_places_20 rfl (j := 1) rfl ?_
    obtain ⟨g4, h⟩ := h
    refine X_iald C sh_13 g4 dX0_places_21 ?_
    refine X_iadd C dX0_places_22 ?_
    refine X_goto C dX0_places_23 (tgt := 27) (by decide) ?_
    exact X_iret C Z rfl dX0_places_27 h
set_option maxHeartbeats 4000000 in
set_option maxRecDepth 100000 in
theorem eX0_sideAt {d : Nat} {Q : Option Value → xSt → Prop} (a1 : Int32) (a2 : Int32) (st : xSt) (h : Ct d M_X0_has [.ref 2, .int a1] st (Qi fun v2 s1 => ((¬ v2 = 0 → vp_in a1 6 ∧ (((s1.1 12 (a1 : Int32).toNatClampNeg) < a2 → vp_in a1 6 ∧ ((¬ (s1.1 13 (a1 : Int32).toNatClampNeg) = 1 → Q (some (.int 1)) s1) ∧ ((s1.1 13 (a1 : Int32).toNatClampNeg) = 1 → vp_in a1 6 ∧ ((¬ a2 = ((s1.1 12 (a1 : Int32).toNatClampNeg) + 1) → Q (some (.int 1)) s1) ∧ (a2 = ((s1.1 12 (a1 : Int32).toNatClampNeg) + 1) → Q (some (.int 2)) s1))))) ∧ (¬ (s1.1 12 (a1 : Int32).toNatClampNeg) < a2 → Q (some (.int 0)) s1))) ∧ (v2 = 0 → Q (some (.int ((-1)))) s1)))) : Ct (d + 1) M_X0_sideAt [.ref 2, .int a1, .int a2] st Q := by
  refine Ct_of (by decide +kernel) (Nat.le_of_ble_eq_true rfl) (fun κ C Z => ?_)
  show X κ 0 [(0, .ref 2), (1, .int a1), (2, .int a2)] [] st
  refine X_aload_n C dX0_sideAt_0 rfl (j := 0) rfl ?_
  refine X_iload_n C dX0_sideAt_1 rfl (j := 1) rfl ?_
  refine X_callV C dX0_sideAt_2 pw_RX0_44 (b := 2) (as := [.int a1]) (S := []) sh_2 rfl rfl rfl (Nat.le_of_ble_eq_true rfl) (Ct_mono h ?_)
  rintro _ s1 ⟨v2, rfl, h⟩
  show X κ 5 [(0, .ref 2), (1, .int a1), (2, .int a2)] [.int v2] s1
  refine X_if_ne C dX0_sideAt_5 (tgt := 10) (by decide) (fun c => ?_) (fun c => ?_)
  · replace h := h.1 c
    refine X_iload_n C dX0_sideAt_10 rfl (j := 2) rfl ?_
    refine X_aload_n C dX0_sideAt_11 rfl (j := 0) rfl ?_
    refine X_getR C sh_2 rfl fw_RX0_16 dX0_sideAt_12 ?_
    refine X_iload_n C dX0_sideAt_15 rfl (j := 1) rfl ?_
    obtain ⟨g3, h⟩ := h
    refine X_iald C sh_12 g3 dX0_sideAt_16 ?_
    refine X_icmp_gt C dX0_sideAt_17 (tgt := 22) (by decide) (fun c => ?_) (fun c => ?_)
    · replace h := h.1 c
      refine X_aload_n C dX0_sideAt_22 rfl (j := 0) rfl ?_
      refine X_getR C sh_2 rfl fw_RX0_20 dX0_sideAt_23 ?_
      refine X_iload_n C dX0_sideAt_26 rfl (j := 1) rfl ?_
      obtain ⟨g4, h⟩ := h
      refine X_iald C sh_13 g4 dX0_sideAt_27 ?_
      refine X_iconst C (v := 1) (by decide) dX0_sideAt_28 ?_
      refine X_icmp_ne C dX0_sideAt_29 (tgt := 48) (by decide) (fun c => ?_) (fun c => ?_)
      · replace h := h.1 c
        refine X_iconst C (v := 1) (by decide) dX0_sideAt_48 ?_
        exact X_iret C Z rfl dX0_sideAt_49 h
      · replace h := h.2 c
        refine X_iload_n C dX0_sideAt_32 rfl (j := 2) rfl ?_
        refine X_aload_n C dX0_sideAt_33 rfl (j := 0) rfl ?_
        refine X_getR C sh_2 rfl fw_RX0_16 dX0_sideAt_34 ?_
        refine X_iload_n C dX0_sideAt_37 rfl (j := 1) rfl ?_
        obtain ⟨g5, h⟩ := h
        refine X_iald C sh_12 g5 dX0_sideAt_38 ?_
        refine X_iconst C (v := 1) (by decide) dX0_sideAt_39 ?_
        refine X_iadd C dX0_sideAt_40 ?_
        refine X_icmp_ne C dX0_sideAt_41 (tgt := 48) (by decide) (fun c => ?_) (fun c => ?_)
        · replace h := h.1 c
          refine X_iconst C (v := 1) (by decide) dX0_sideAt_48 ?_
          exact X_iret C Z rfl dX0_sideAt_49 h
        · replace h := h.2 c
          refine X_iconst C (v := 2) (by decide) dX0_sideAt_44 ?_
          refine X_goto C dX0_sideAt_45 (tgt := 49) (by decide) ?_
          exact X_iret C Z rfl dX0_sideAt_49 h
    · replace h := h.2 c
      refine X_iconst C (v := 0) (by decide) dX0_sideAt_20 ?_
      exact X_iret C Z rfl dX0_sideAt_21 h
  · replace h := h.2 c
    refine X_iconst C (v := (-1)) (by decide) dX0_sideAt_8 ?_
    exact X_iret C Z rfl dX0_sideAt_9 h
set_option maxHeartbeats 4000000 in
set_option maxRecDepth 100000 in
theorem eX0_handAt {d : Nat} {Q : Option Value → xSt → Prop} (a1 : Int32) (a2 : Int32) (st : xSt) (h : Ct d M_X0_sideAt [.ref 2, .int a1, .int a2] st (Qi fun v2 s1 => ((¬ (v2 : Int32).toInt = 0 ∧ ¬ (v2 : Int32).toInt = 1 → Q (some (.int 2)) s1) ∧ ((v2 : Int32).toInt = 0 → Ct d M_X0_firstHand [.ref 2, .int a1] s1 (Qi fun v4 s3 => Q (some (.int v4)) s3)) ∧ ((v2 : Int32).toInt = 1 → Ct d M_X0_firstHand [.ref 2, .int a1] s1 (Qi fun v6 s5 => Q (some (.int (1 - v6))) s5))))) : Ct (d + 1) M_X0_handAt [.ref 2, .int a1, .int a2] st Q := by
  refine Ct_of (by decide +kernel) (Nat.le_of_ble_eq_true rfl) (fun κ C Z => ?_)
  show X κ 0 [(0, .ref 2), (1, .int a1), (2, .int a2)] [] st
  refine X_aload_n C dX0_handAt_0 rfl (j := 0) rfl ?_
  refine X_iload_n C dX0_handAt_1 rfl (j := 1) rfl ?_
  refine X_iload_n C dX0_handAt_2 rfl (j := 2) rfl ?_
  refine X_callV C dX0_handAt_3 pw_RX0_48 (b := 2) (as := [.int a1, .int a2]) (S := []) sh_2 rfl rfl rfl (Nat.le_of_ble_eq_true rfl) (Ct_mono h ?_)
  rintro _ s1 ⟨v2, rfl, h⟩
  show X κ 6 [(0, .ref 2), (1, .int a1), (2, .int a2)] [.int v2] s1
  have hc : (¬ (v2 : Int32).toInt = 0 ∧ ¬ (v2 : Int32).toInt = 1) ∨ (v2 : Int32).toInt = 0 ∨ (v2 : Int32).toInt = 1 := by omega
  rcases hc with c | c | c
  · replace h := h.1 c
    refine X_lookup C dX0_handAt_6 (by decide) (off := 40) (xlook2 c.1 c.2) (tgt := 46) (by decide) ?_
    refine X_iconst C (v := 2) (by decide) dX0_handAt_46 ?_
    exact X_iret C Z rfl dX0_handAt_47 h
  · replace h := h.2.1 c
    refine X_lookup C dX0_handAt_6 (by decide) (off := 26) (by rw [c]; rfl) (tgt := 32) (by decide) ?_
    refine X_aload_n C dX0_handAt_32 rfl (j := 0) rfl ?_
    refine X_iload_n C dX0_handAt_33 rfl (j := 1) rfl ?_
    refine X_callV C dX0_handAt_34 pw_RX0_51 (b := 2) (as := [.int a1]) (S := []) sh_2 rfl rfl rfl (Nat.le_of_ble_eq_true rfl) (Ct_mono h ?_)
    rintro _ s3 ⟨v4, rfl, h⟩
    show X κ 37 [(0, .ref 2), (1, .int a1), (2, .int a2)] [.int v4] s3
    exact X_iret C Z rfl dX0_handAt_37 h
  · replace h := h.2.2 c
    refine X_lookup C dX0_handAt_6 (by decide) (off := 32) (by rw [c]; rfl) (tgt := 38) (by decide) ?_
    refine X_iconst C (v := 1) (by decide) dX0_handAt_38 ?_
    refine X_aload_n C dX0_handAt_39 rfl (j := 0) rfl ?_
    refine X_iload_n C dX0_handAt_40 rfl (j := 1) rfl ?_
    refine X_callV C dX0_handAt_41 pw_RX0_51 (b := 2) (as := [.int a1]) (S := [.int 1]) sh_2 rfl rfl rfl (Nat.le_of_ble_eq_true rfl) (Ct_mono h ?_)
    rintro _ s5 ⟨v6, rfl, h⟩
    show X κ 44 [(0, .ref 2), (1, .int a1), (2, .int a2)] [.int v6, .int 1] s5
    refine X_isub C dX0_handAt_44 ?_
    exact X_iret C Z rfl dX0_handAt_45 h
set_option maxHeartbeats 4000000 in
set_option maxRecDepth 100000 in
theorem eX0_wordAt {d : Nat} {Q : Option Value → xSt → Prop} (a1 : Int32) (a2 : Int32) (st : xSt) (h : Ct d M_X0_has [.ref 2, .int a1] st (Qi fun v2 s1 => ((v2 = 0 → Q (some (.int ((-1)))) s1) ∧ (¬ v2 = 0 → ((a2 < 1 → Q (some (.int ((-1)))) s1) ∧ (¬ a2 < 1 → Ct d M_X0_places [.ref 2, .int a1] s1 (Qi fun v4 s3 => ((v4 < a2 → Q (some (.int ((-1)))) s3) ∧ (¬ v4 < a2 → ((41 < a2 → Q (some (.int ((-1)))) s3) ∧ (¬ 41 < a2 → vp_in a1 6 ∧ vp_in (a2 - 1) 41 ∧ Q (some (.int (s3.1 (52 + (a1 : Int32).toNatClampNeg) (a2 - 1 : Int32).toNatClampNeg))) s3))))))))))) : Ct (d + 1) M_X0_wordAt [.ref 2, .int a1, .int a2] st Q := by
  refine Ct_of (by decide +kernel) (Nat.le_of_ble_eq_true rfl) (fun κ C Z => ?_)
  show X κ 0 [(0, .ref 2), (1, .int a1), (2, .int a2)] [] st
  refine X_aload_n C dX0_wordAt_0 rfl (j := 0) rfl ?_
  refine X_iload_n C dX0_wordAt_1 rfl (j := 1) rfl ?_
  refine X_callV C dX0_wordAt_2 pw_RX0_44 (b := 2) (as := [.int a1]) (S := []) sh_2 rfl rfl rfl (Nat.le_of_ble_eq_true rfl) (Ct_mono h ?_)
  rintro _ s1 ⟨v2, rfl, h⟩
  show X κ 5 [(0, .ref 2), (1, .int a1), (2, .int a2)] [.int v2] s1
  refine X_if_eq C dX0_wordAt_5 (tgt := 41) (by decide) (fun c => ?_) (fun c => ?_)
  · replace h := h.1 c
    refine X_iconst C (v := (-1)) (by decide) dX0_wordAt_41 ?_
    exact X_iret C Z rfl dX0_wordAt_42 h
  · replace h := h.2 c
    refine X_iload_n C dX0_wordAt_8 rfl (j := 2) rfl ?_
    refine X_iconst C (v := 1) (by decide) dX0_wordAt_9 ?_
    refine X_icmp_lt C dX0_wordAt_10 (tgt := 41) (by decide) (fun c => ?_) (fun c => ?_)
    · replace h := h.1 c
      refine X_iconst C (v := (-1)) (by decide) dX0_wordAt_41 ?_
      exact X_iret C Z rfl dX0_wordAt_42 h
    · replace h := h.2 c
      refine X_iload_n C dX0_wordAt_13 rfl (j := 2) rfl ?_
      refine X_aload_n C dX0_wordAt_14 rfl (j := 0) rfl ?_
      refine X_iload_n C dX0_wordAt_15 rfl (j := 1) rfl ?_
      refine X_callV C dX0_wordAt_16 pw_RX0_55 (b := 2) (as := [.int a1]) (S := [.int a2]) sh_2 rfl rfl rfl (Nat.le_of_ble_eq_true rfl) (Ct_mono h ?_)
      rintro _ s3 ⟨v4, rfl, h⟩
      show X κ 19 [(0, .ref 2), (1, .int a1), (2, .int a2)] [.int v4, .int a2] s3
      refine X_icmp_gt C dX0_wordAt_19 (tgt := 41) (by decide) (fun c => ?_) (fun c => ?_)
      · replace h := h.1 c
        refine X_iconst C (v := (-1)) (by decide) dX0_wordAt_41 ?_
        exact X_iret C Z rfl dX0_wordAt_42 h
      · replace h := h.2 c
        refine X_iload_n C dX0_wordAt_22 rfl (j := 2) rfl ?_
        refine X_bipush C (v := 41) (by decide) dX0_wordAt_23 ?_
        refine X_icmp_gt C dX0_wordAt_25 (tgt := 41) (by decide) (fun c => ?_) (fun c => ?_)
        · replace h := h.1 c
          refine X_iconst C (v := (-1)) (by decide) dX0_wordAt_41 ?_
          exact X_iret C Z rfl dX0_wordAt_42 h
        · replace h := h.2 c
          refine X_aload_n C dX0_wordAt_28 rfl (j := 0) rfl ?_
          refine X_getR C sh_2 rfl fw_RX0_13 dX0_wordAt_29 ?_
          refine X_iload_n C dX0_wordAt_32 rfl (j := 1) rfl ?_
          obtain ⟨g5, h⟩ := h
          refine X_aald C sh_11 g5 dX0_wordAt_33 ?_
          refine X_iload_n C dX0_wordAt_34 rfl (j := 2) rfl ?_
          refine X_iconst C (v := 1) (by decide) dX0_wordAt_35 ?_
          refine X_isub C dX0_wordAt_36 ?_
          obtain ⟨g6, h⟩ := h
          refine X_iald C (shr_52 (vp_lt g5)) g6 dX0_wordAt_37 ?_
          refine X_goto C dX0_wordAt_38 (tgt := 42) (by decide) ?_
          exact X_iret C Z rfl dX0_wordAt_42 h
set_option maxHeartbeats 4000000 in
set_option maxRecDepth 100000 in
theorem eX0_menOf {d : Nat} {Q : Option Value → xSt → Prop} (a1 : Int32) (a2 : Int32) (st : xSt) (h : Ct d M_X0_places [.ref 2, .int a1] st (Qi fun v2 s1 => ((v2 ≤ 0 → Q (some (.int 0)) s1) ∧ (¬ v2 ≤ 0 → ¬ v2 = 0 ∧ Q (some (.int ((a2 - 1) / v2))) s1)))) : Ct (d + 1) M_X0_menOf [.ref 2, .int a1, .int a2] st Q := by
  refine Ct_of (by decide +kernel) (Nat.le_of_ble_eq_true rfl) (fun κ C Z => ?_)
  show X κ 0 [(0, .ref 2), (1, .int a1), (2, .int a2)] [] st
  refine X_aload_n C dX0_menOf_0 rfl (j := 0) rfl ?_
  refine X_iload_n C dX0_menOf_1 rfl (j := 1) rfl ?_
  refine X_callV C dX0_menOf_2 pw_RX0_55 (b := 2) (as := [.int a1]) (S := []) sh_2 rfl rfl rfl (Nat.le_of_ble_eq_true rfl) (Ct_mono h ?_)
  rintro _ s1 ⟨v2, rfl, h⟩
  show X κ 5 [(0, .ref 2), (1, .int a1), (2, .int a2)] [.int v2] s1
  refine X_istore_n C dX0_menOf_5 rfl (by decide) (L' := [(3, .int v2), (0, .ref 2), (1, .int a1), (2, .int a2)]) rfl ?_
  refine X_iload_n C dX0_menOf_6 rfl (j := 0) rfl ?_
  refine X_if_le C dX0_menOf_7 (tgt := 18) (by decide) (fun c => ?_) (fun c => ?_)
  · replace h := h.1 c
    refine X_iconst C (v := 0) (by decide) dX0_menOf_18 ?_
    exact X_iret C Z rfl dX0_menOf_19 h
  · replace h := h.2 c
    refine X_iload_n C dX0_menOf_10 rfl (j := 3) rfl ?_
    refine X_iconst C (v := 1) (by decide) dX0_menOf_11 ?_
    refine X_isub C dX0_menOf_12 ?_
    refine X_iload_n C dX0_menOf_13 rfl (j := 0) rfl ?_
    obtain ⟨g, h⟩ := h
    refine X_idiv C g dX0_menOf_14 ?_
    refine X_goto C dX0_menOf_15 (tgt := 19) (by decide) ?_
    exact X_iret C Z rfl dX0_menOf_19 h
set_option maxHeartbeats 4000000 in
set_option maxRecDepth 100000 in
theorem eX0_placeOf {d : Nat} {Q : Option Value → xSt → Prop} (a1 : Int32) (a2 : Int32) (st : xSt) (h : Ct d M_X0_places [.ref 2, .int a1] st (Qi fun v2 s1 => ((v2 ≤ 0 → Q (some (.int 0)) s1) ∧ (¬ v2 ≤ 0 → ¬ v2 = 0 ∧ Q (some (.int (((a2 - 1) - (a2 - 1) / v2 * v2) + 1))) s1)))) : Ct (d + 1) M_X0_placeOf [.ref 2, .int a1, .int a2] st Q := by
  refine Ct_of (by decide +kernel) (Nat.le_of_ble_eq_true rfl) (fun κ C Z => ?_)
  show X κ 0 [(0, .ref 2), (1, .int a1), (2, .int a2)] [] st
  refine X_aload_n C dX0_placeOf_0 rfl (j := 0) rfl ?_
  refine X_iload_n C dX0_placeOf_1 rfl (j := 1) rfl ?_
  refine X_callV C dX0_placeOf_2 pw_RX0_55 (b := 2) (as := [.int a1]) (S := []) sh_2 rfl rfl rfl (Nat.le_of_ble_eq_true rfl) (Ct_mono h ?_)
  rintro _ s1 ⟨v2, rfl, h⟩
  show X κ 5 [(0, .ref 2), (1, .int a1), (2, .int a2)] [.int v2] s1
  refine X_istore_n C dX0_placeOf_5 rfl (by decide) (L' := [(3, .int v2), (0, .ref 2), (1, .int a1), (2, .int a2)]) rfl ?_
  refine X_iload_n C dX0_placeOf_6 rfl (j := 0) rfl ?_
  refine X_if_le C dX0_placeOf_7 (tgt := 20) (by decide) (fun c => ?_) (fun c => ?_)
  · replace h := h.1 c
    refine X_iconst C (v := 0) (by decide) dX0_placeOf_20 ?_
    exact X_iret C Z rfl dX0_placeOf_21 h
  · replace h := h.2 c
    refine X_iload_n C dX0_placeOf_10 rfl (j := 3) rfl ?_
    refine X_iconst C (v := 1) (by decide) dX0_placeOf_11 ?_
    refine X_isub C dX0_placeOf_12 ?_
    refine X_iload_n C dX0_placeOf_13 rfl (j := 0) rfl ?_
    obtain ⟨g, h⟩ := h
    refine X_irem C g dX0_placeOf_14 ?_
    refine X_iconst C (v := 1) (by decide) dX0_placeOf_15 ?_
    refine X_iadd C dX0_placeOf_16 ?_
    refine X_goto C dX0_placeOf_17 (tgt := 21) (by decide) ?_
    exact X_iret C Z rfl dX0_placeOf_21 h
set_option maxHeartbeats 4000000 in
set_option maxRecDepth 100000 in
theorem eX0_wordOf {d : Nat} {Q : Option Value → xSt → Prop} (a1 : Int32) (a2 : Int32) (st : xSt) (h : Ct d M_X0_placeOf [.ref 2, .int a1, .int a2] st (Qi fun v2 s1 => Ct d M_X0_wordAt [.ref 2, .int a1, .int v2] s1 (Qi fun v4 s3 => Q (some (.int v4)) s3))) : Ct (d + 1) M_X0_wordOf [.ref 2, .int a1, .int a2] st Q := by
  refine Ct_of (by decide +kernel) (Nat.le_of_ble_eq_true rfl) (fun κ C Z => ?_)
  show X κ 0 [(0, .ref 2), (1, .int a1), (2, .int a2)] [] st
  refine X_aload_n C dX0_wordOf_0 rfl (j := 0) rfl ?_
  refine X_iload_n C dX0_wordOf_1 rfl (j := 1) rfl ?_
  refine X_aload_n C dX0_wordOf_2 rfl (j := 0) rfl ?_
  refine X_iload_n C dX0_wordOf_3 rfl (j := 1) rfl ?_
  refine X_iload_n C dX0_wordOf_4 rfl (j := 2) rfl ?_
  refine X_callV C dX0_wordOf_5 pw_RX0_58 (b := 2) (as := [.int a1, .int a2]) (S := [.int a1, .ref 2]) sh_2 rfl rfl rfl (Nat.le_of_ble_eq_true rfl) (Ct_mono h ?_)
  rintro _ s1 ⟨v2, rfl, h⟩
  show X κ 8 [(0, .ref 2), (1, .int a1), (2, .int a2)] [.int v2, .int a1, .ref 2] s1
  refine X_callV C dX0_wordOf_8 pw_RX0_61 (b := 2) (as := [.int a1, .int v2]) (S := []) sh_2 rfl rfl rfl (Nat.le_of_ble_eq_true rfl) (Ct_mono h ?_)
  rintro _ s3 ⟨v4, rfl, h⟩
  show X κ 11 [(0, .ref 2), (1, .int a1), (2, .int a2)] [.int v4] s3
  exact X_iret C Z rfl dX0_wordOf_11 h
set_option maxHeartbeats 4000000 in
set_option maxRecDepth 100000 in
theorem eX0_means {d : Nat} {Q : Option Value → xSt → Prop} (a1 : Int32) (a2 : Int32) (a3 : Int32) (a4 : Int32) (a5 : Int32) (st : xSt) (h : Ct d M_X0_placeOf [.ref 2, .int a1, .int a5] st (Qi fun v2 s1 => Ct d M_X0_wordAt [.ref 2, .int a1, .int v2] s1 (Qi fun v4 s3 => ((¬ v4 = a2 → Q (some (.int 0)) s3) ∧ (v4 = a2 → ((a3 = ((-1)) → ((a4 = ((-1)) → Q (some (.int 1)) s3) ∧ (¬ a4 = ((-1)) → Ct d M_X0_menOf [.ref 2, .int a1, .int a5] s3 (Qi fun v6 s5 => ((¬ v6 = a4 → Q (some (.int 0)) s5) ∧ (v6 = a4 → Q (some (.int 1)) s5)))))) ∧ (¬ a3 = ((-1)) → Ct d M_X0_handAt [.ref 2, .int a1, .int v2] s3 (Qi fun v8 s7 => ((¬ v8 = a3 → Q (some (.int 0)) s7) ∧ (v8 = a3 → ((a4 = ((-1)) → Q (some (.int 1)) s7) ∧ (¬ a4 = ((-1)) → Ct d M_X0_menOf [.ref 2, .int a1, .int a5] s7 (Qi fun v10 s9 => ((¬ v10 = a4 → Q (some (.int 0)) s9) ∧ (v10 = a4 → Q (some (.int 1)) s9))))))))))))))) : Ct (d + 1) M_X0_means [.ref 2, .int a1, .int a2, .int a3, .int a4, .int a5] st Q := by
  refine Ct_of (by decide +kernel) (Nat.le_of_ble_eq_true rfl) (fun κ C Z => ?_)
  show X κ 0 [(0, .ref 2), (1, .int a1), (2, .int a2), (3, .int a3), (4, .int a4), (5, .int a5)] [] st
  refine X_aload_n C dX0_means_0 rfl (j := 0) rfl ?_
  refine X_iload_n C dX0_means_1 rfl (j := 1) rfl ?_
  refine X_iload C dX0_means_2 (j := 5) rfl ?_
  refine X_callV C dX0_means_4 pw_RX0_58 (b := 2) (as := [.int a1, .int a5]) (S := []) sh_2 rfl rfl rfl (Nat.le_of_ble_eq_true rfl) (Ct_mono h ?_)
  rintro _ s1 ⟨v2, rfl, h⟩
  show X κ 7 [(0, .ref 2), (1, .int a1), (2, .int a2), (3, .int a3), (4, .int a4), (5, .int a5)] [.int v2] s1
  refine X_istore C dX0_means_7 (by decide) (L' := [(6, .int v2), (0, .ref 2), (1, .int a1), (2, .int a2), (3, .int a3), (4, .int a4), (5, .int a5)]) rfl ?_
  refine X_aload_n C dX0_means_9 rfl (j := 1) rfl ?_
  refine X_iload_n C dX0_means_10 rfl (j := 2) rfl ?_
  refine X_iload C dX0_means_11 (j := 0) rfl ?_
  refine X_callV C dX0_means_13 pw_RX0_61 (b := 2) (as := [.int a1, .int v2]) (S := []) sh_2 rfl rfl rfl (Nat.le_of_ble_eq_true rfl) (Ct_mono h ?_)
  rintro _ s3 ⟨v4, rfl, h⟩
  show X κ 16 [(6, .int v2), (0, .ref 2), (1, .int a1), (2, .int a2), (3, .int a3), (4, .int a4), (5, .int a5)] [.int v4] s3
  refine X_iload_n C dX0_means_16 rfl (j := 3) rfl ?_
  refine X_icmp_ne C dX0_means_17 (tgt := 58) (by decide) (fun c => ?_) (fun c => ?_)
  · replace h := h.1 c
    refine X_iconst C (v := 0) (by decide) dX0_means_58 ?_
    exact X_zret C Z rfl (by decide) dX0_means_59 h
  · replace h := h.2 c
    refine X_iload_n C dX0_means_20 rfl (j := 4) rfl ?_
    refine X_iconst C (v := (-1)) (by decide) dX0_means_21 ?_
    refine X_icmp_eq C dX0_means_22 (tgt := 36) (by decide) (fun c => ?_) (fun c => ?_)
    · replace h := h.1 c
      refine X_iload C dX0_means_36 (j := 5) rfl ?_
      refine X_iconst C (v := (-1)) (by decide) dX0_means_38 ?_
      refine X_icmp_eq C dX0_means_39 (tgt := 54) (by decide) (fun c => ?_) (fun c => ?_)
      · replace h := h.1 c
        refine X_iconst C (v := 1) (by decide) dX0_means_54 ?_
        refine X_goto C dX0_means_55 (tgt := 59) (by decide) ?_
        exact X_zret C Z rfl (by decide) dX0_means_59 h
      · replace h := h.2 c
        refine X_aload_n C dX0_means_42 rfl (j := 1) rfl ?_
        refine X_iload_n C dX0_means_43 rfl (j := 2) rfl ?_
        refine X_iload C dX0_means_44 (j := 6) rfl ?_
        refine X_callV C dX0_means_46 pw_RX0_65 (b := 2) (as := [.int a1, .int a5]) (S := []) sh_2 rfl rfl rfl (Nat.le_of_ble_eq_true rfl) (Ct_mono h ?_)
        rintro _ s5 ⟨v6, rfl, h⟩
        show X κ 49 [(6, .int v2), (0, .ref 2), (1, .int a1), (2, .int a2), (3, .int a3), (4, .int a4), (5, .int a5)] [.int v6] s5
        refine X_iload C dX0_means_49 (j := 5) rfl ?_
        refine X_icmp_ne C dX0_means_51 (tgt := 58) (by decide) (fun c => ?_) (fun c => ?_)
        · replace h := h.1 c
          refine X_iconst C (v := 0) (by decide) dX0_means_58 ?_
          exact X_zret C Z rfl (by decide) dX0_means_59 h
        · replace h := h.2 c
          refine X_iconst C (v := 1) (by decide) dX0_means_54 ?_
          refine X_goto C dX0_means_55 (tgt := 59) (by decide) ?_
          exact X_zret C Z rfl (by decide) dX0_means_59 h
    · replace h := h.2 c
      refine X_aload_n C dX0_means_25 rfl (j := 1) rfl ?_
      refine X_iload_n C dX0_means_26 rfl (j := 2) rfl ?_
      refine X_iload C dX0_means_27 (j := 0) rfl ?_
      refine X_callV C dX0_means_29 pw_RX0_62 (b := 2) (as := [.int a1, .int v2]) (S := []) sh_2 rfl rfl rfl (Nat.le_of_ble_eq_true rfl) (Ct_mono h ?_)
      rintro _ s7 ⟨v8, rfl, h⟩
      show X κ 32 [(6, .int v2), (0, .ref 2), (1, .int a1), (2, .int a2), (3, .int a3), (4, .int a4), (5, .int a5)] [.int v8] s7
      refine X_iload_n C dX0_means_32 rfl (j := 4) rfl ?_
      refine X_icmp_ne C dX0_means_33 (tgt := 58) (by decide) (fun c => ?_) (fun c => ?_)
      · replace h := h.1 c
        refine X_iconst C (v := 0) (by decide) dX0_means_58 ?_
        exact X_zret C Z rfl (by decide) dX0_means_59 h
      · replace h := h.2 c
        refine X_iload C dX0_means_36 (j := 5) rfl ?_
        refine X_iconst C (v := (-1)) (by decide) dX0_means_38 ?_
        refine X_icmp_eq C dX0_means_39 (tgt := 54) (by decide) (fun c => ?_) (fun c => ?_)
        · replace h := h.1 c
          refine X_iconst C (v := 1) (by decide) dX0_means_54 ?_
          refine X_goto C dX0_means_55 (tgt := 59) (by decide) ?_
          exact X_zret C Z rfl (by decide) dX0_means_59 h
        · replace h := h.2 c
          refine X_aload_n C dX0_means_42 rfl (j := 1) rfl ?_
          refine X_iload_n C dX0_means_43 rfl (j := 2) rfl ?_
          refine X_iload C dX0_means_44 (j := 6) rfl ?_
          refine X_callV C dX0_means_46 pw_RX0_65 (b := 2) (as := [.int a1, .int a5]) (S := []) sh_2 rfl rfl rfl (Nat.le_of_ble_eq_true rfl) (Ct_mono h ?_)
          rintro _ s9 ⟨v10, rfl, h⟩
          show X κ 49 [(6, .int v2), (0, .ref 2), (1, .int a1), (2, .int a2), (3, .int a3), (4, .int a4), (5, .int a5)] [.int v10] s9
          refine X_iload C dX0_means_49 (j := 5) rfl ?_
          refine X_icmp_ne C dX0_means_51 (tgt := 58) (by decide) (fun c => ?_) (fun c => ?_)
          · replace h := h.1 c
            refine X_iconst C (v := 0) (by decide) dX0_means_58 ?_
            exact X_zret C Z rfl (by decide) dX0_means_59 h
          · replace h := h.2 c
            refine X_iconst C (v := 1) (by decide) dX0_means_54 ?_
            refine X_goto C dX0_means_55 (tgt := 59) (by decide) ?_
            exact X_zret C Z rfl (by decide) dX0_means_59 h
set_option maxHeartbeats 4000000 in
set_option maxRecDepth 100000 in
theorem bX0_heardAs_36 {κ : xK} {d : Nat} {Q : Option Value → xSt → Prop} (C : Cx κ M_X0_heardAs (d + 1)) (Z : xR κ Q) (x1 : Int32) (x2 : Int32) (x3 : Int32) (x5 : Int32) (x6 : Int32) (x7 : Int32) (x8 : Int32) (st : xSt) (h : ((x7 < x8 → Q (some (.int ((-1)))) st) ∧ (¬ x7 < x8 → Ct d M_X0_wordAt [.ref 2, .int x2, .int x8] st (Qi fun v2 s1 => ((¬ v2 = x5 → X κ 36 [(0, .ref 2), (1, .int x1), (2, .int x2), (3, .int x3), (5, .int x5), (6, .int x6), (7, .int x7), (8, .int (x8 + 1))] [] s1) ∧ (v2 = x5 → Ct d M_X0_handAt [.ref 2, .int x2, .int x8] s1 (Qi fun v4 s3 => ((¬ v4 = x6 → X κ 36 [(0, .ref 2), (1, .int x1), (2, .int x2), (3, .int x3), (5, .int x5), (6, .int x6), (7, .int x7), (8, .int (x8 + 1))] [] s3) ∧ (v4 = x6 → Ct d M_X0_menOf [.ref 2, .int x1, .int x3] s3 (Qi fun v6 s5 => ((400 < ((v6 * x7) + x8) → Q (some (.int ((-1)))) s5) ∧ (¬ 400 < ((v6 * x7) + x8) → Q (some (.int ((v6 * x7) + x8))) s5)))))))))))) : X κ 36 [(0, .ref 2), (1, .int x1), (2, .int x2), (3, .int x3), (5, .int x5), (6, .int x6), (7, .int x7), (8, .int x8)] [] st := by
  refine X_iload C dX0_heardAs_36 (j := 7) rfl ?_
  refine X_iload C dX0_heardAs_38 (j := 6) rfl ?_
  refine X_icmp_gt C dX0_heardAs_40 (tgt := 102) (by decide) (fun c => ?_) (fun c => ?_)
  · replace h := h.1 c
    refine X_iconst C (v := (-1)) (by decide) dX0_heardAs_102 ?_
    exact X_iret C Z rfl dX0_heardAs_103 h
  · replace h := h.2 c
    refine X_aload_n C dX0_heardAs_43 rfl (j := 0) rfl ?_
    refine X_iload_n C dX0_heardAs_44 rfl (j := 2) rfl ?_
    refine X_iload C dX0_heardAs_45 (j := 7) rfl ?_
    refine X_callV C dX0_heardAs_47 pw_RX0_61 (b := 2) (as := [.int x2, .int x8]) (S := []) sh_2 rfl rfl rfl (Nat.le_of_ble_eq_true rfl) (Ct_mono h ?_)
    rintro _ s1 ⟨v2, rfl, h⟩
    show X κ 50 [(0, .ref 2), (1, .int x1), (2, .int x2), (3, .int x3), (5, .int x5), (6, .int x6), (7, .int x7), (8, .int x8)] [.int v2] s1
    refine X_iload C dX0_heardAs_50 (j := 4) rfl ?_
    refine X_icmp_ne C dX0_heardAs_52 (tgt := 96) (by decide) (fun c => ?_) (fun c => ?_)
    · replace h := h.1 c
      refine X_iinc C dX0_heardAs_96 (j := 7) rfl (v := x8 + 1) rfl (by decide) (L' := [(8, .int (x8 + 1)), (0, .ref 2), (1, .int x1), (2, .int x2), (3, .int x3), (5, .int x5), (6, .int x6), (7, .int x7)]) rfl ?_
      refine X_goto C dX0_heardAs_99 (tgt := 36) (by decide) ?_
      refine X_loc [1, 2, 3, 4, 5, 6, 7, 0] rfl ?_
      exact h
    · replace h := h.2 c
      refine X_aload_n C dX0_heardAs_55 rfl (j := 0) rfl ?_
      refine X_iload_n C dX0_heardAs_56 rfl (j := 2) rfl ?_
      refine X_iload C dX0_heardAs_57 (j := 7) rfl ?_
      refine X_callV C dX0_heardAs_59 pw_RX0_62 (b := 2) (as := [.int x2, .int x8]) (S := []) sh_2 rfl rfl rfl (Nat.le_of_ble_eq_true rfl) (Ct_mono h ?_)
      rintro _ s3 ⟨v4, rfl, h⟩
      show X κ 62 [(0, .ref 2), (1, .int x1), (2, .int x2), (3, .int x3), (5, .int x5), (6, .int x6), (7, .int x7), (8, .int x8)] [.int v4] s3
      refine X_iload C dX0_heardAs_62 (j := 5) rfl ?_
      refine X_icmp_ne C dX0_heardAs_64 (tgt := 96) (by decide) (fun c => ?_) (fun c => ?_)
      · replace h := h.1 c
        refine X_iinc C dX0_heardAs_96 (j := 7) rfl (v := x8 + 1) rfl (by decide) (L' := [(8, .int (x8 + 1)), (0, .ref 2), (1, .int x1), (2, .int x2), (3, .int x3), (5, .int x5), (6, .int x6), (7, .int x7)]) rfl ?_
        refine X_goto C dX0_heardAs_99 (tgt := 36) (by decide) ?_
        refine X_loc [1, 2, 3, 4, 5, 6, 7, 0] rfl ?_
        exact h
      · replace h := h.2 c
        refine X_aload_n C dX0_heardAs_67 rfl (j := 0) rfl ?_
        refine X_iload_n C dX0_heardAs_68 rfl (j := 1) rfl ?_
        refine X_iload_n C dX0_heardAs_69 rfl (j := 3) rfl ?_
        refine X_callV C dX0_heardAs_70 pw_RX0_65 (b := 2) (as := [.int x1, .int x3]) (S := []) sh_2 rfl rfl rfl (Nat.le_of_ble_eq_true rfl) (Ct_mono h ?_)
        rintro _ s5 ⟨v6, rfl, h⟩
        show X κ 73 [(0, .ref 2), (1, .int x1), (2, .int x2), (3, .int x3), (5, .int x5), (6, .int x6), (7, .int x7), (8, .int x8)] [.int v6] s5
        refine X_iload C dX0_heardAs_73 (j := 6) rfl ?_
        refine X_imul C dX0_heardAs_75 ?_
        refine X_iload C dX0_heardAs_76 (j := 7) rfl ?_
        refine X_iadd C dX0_heardAs_78 ?_
        refine X_istore C dX0_heardAs_79 (by decide) (L' := [(9, .int ((v6 * x7) + x8)), (0, .ref 2), (1, .int x1), (2, .int x2), (3, .int x3), (5, .int x5), (6, .int x6), (7, .int x7), (8, .int x8)]) rfl ?_
        refine X_iload C dX0_heardAs_81 (j := 0) rfl ?_
        refine X_sipush C (v := 400) (by decide) dX0_heardAs_83 ?_
        refine X_icmp_gt C dX0_heardAs_86 (tgt := 94) (by decide) (fun c => ?_) (fun c => ?_)
        · replace h := h.1 c
          refine X_iconst C (v := (-1)) (by decide) dX0_heardAs_94 ?_
          exact X_iret C Z rfl dX0_heardAs_95 h
        · replace h := h.2 c
          refine X_iload C dX0_heardAs_89 (j := 0) rfl ?_
          refine X_goto C dX0_heardAs_91 (tgt := 95) (by decide) ?_
          exact X_iret C Z rfl dX0_heardAs_95 h
set_option maxHeartbeats 4000000 in
set_option maxRecDepth 100000 in
theorem eX0_heardAs {d : Nat} {Q : Option Value → xSt → Prop} (a1 : Int32) (a2 : Int32) (a3 : Int32) (st : xSt) (h : ∀ κ : xK, Cx κ M_X0_heardAs (d + 1) → xR κ Q → Ct d M_X0_placeOf [.ref 2, .int a1, .int a3] st (Qi fun v2 s1 => Ct d M_X0_wordAt [.ref 2, .int a1, .int v2] s1 (Qi fun v4 s3 => Ct d M_X0_handAt [.ref 2, .int a1, .int v2] s3 (Qi fun v6 s5 => Ct d M_X0_places [.ref 2, .int a2] s5 (Qi fun v8 s7 => X κ 36 [(0, .ref 2), (1, .int a1), (2, .int a2), (3, .int a3), (5, .int v4), (6, .int v6), (7, .int v8), (8, .int 1)] [] s7))))) : Ct (d + 1) M_X0_heardAs [.ref 2, .int a1, .int a2, .int a3] st Q := by
  refine Ct_of (by decide +kernel) (Nat.le_of_ble_eq_true rfl) (fun κ C Z => ?_)
  replace h := h κ C Z
  show X κ 0 [(0, .ref 2), (1, .int a1), (2, .int a2), (3, .int a3)] [] st
  refine X_aload_n C dX0_heardAs_0 rfl (j := 0) rfl ?_
  refine X_iload_n C dX0_heardAs_1 rfl (j := 1) rfl ?_
  refine X_iload_n C dX0_heardAs_2 rfl (j := 3) rfl ?_
  refine X_callV C dX0_heardAs_3 pw_RX0_58 (b := 2) (as := [.int a1, .int a3]) (S := []) sh_2 rfl rfl rfl (Nat.le_of_ble_eq_true rfl) (Ct_mono h ?_)
  rintro _ s1 ⟨v2, rfl, h⟩
  show X κ 6 [(0, .ref 2), (1, .int a1), (2, .int a2), (3, .int a3)] [.int v2] s1
  refine X_istore C dX0_heardAs_6 (by decide) (L' := [(4, .int v2), (0, .ref 2), (1, .int a1), (2, .int a2), (3, .int a3)]) rfl ?_
  refine X_aload_n C dX0_heardAs_8 rfl (j := 1) rfl ?_
  refine X_iload_n C dX0_heardAs_9 rfl (j := 2) rfl ?_
  refine X_iload C dX0_heardAs_10 (j := 0) rfl ?_
  refine X_callV C dX0_heardAs_12 pw_RX0_61 (b := 2) (as := [.int a1, .int v2]) (S := []) sh_2 rfl rfl rfl (Nat.le_of_ble_eq_true rfl) (Ct_mono h ?_)
  rintro _ s3 ⟨v4, rfl, h⟩
  show X κ 15 [(4, .int v2), (0, .ref 2), (1, .int a1), (2, .int a2), (3, .int a3)] [.int v4] s3
  refine X_istore C dX0_heardAs_15 (by decide) (L' := [(5, .int v4), (4, .int v2), (0, .ref 2), (1, .int a1), (2, .int a2), (3, .int a3)]) rfl ?_
  refine X_aload_n C dX0_heardAs_17 rfl (j := 2) rfl ?_
  refine X_iload_n C dX0_heardAs_18 rfl (j := 3) rfl ?_
  refine X_iload C dX0_heardAs_19 (j := 1) rfl ?_
  refine X_callV C dX0_heardAs_21 pw_RX0_62 (b := 2) (as := [.int a1, .int v2]) (S := []) sh_2 rfl rfl rfl (Nat.le_of_ble_eq_true rfl) (Ct_mono h ?_)
  rintro _ s5 ⟨v6, rfl, h⟩
  show X κ 24 [(5, .int v4), (4, .int v2), (0, .ref 2), (1, .int a1), (2, .int a2), (3, .int a3)] [.int v6] s5
  refine X_istore C dX0_heardAs_24 (by decide) (L' := [(6, .int v6), (5, .int v4), (4, .int v2), (0, .ref 2), (1, .int a1), (2, .int a2), (3, .int a3)]) rfl ?_
  refine X_aload_n C dX0_heardAs_26 rfl (j := 3) rfl ?_
  refine X_iload_n C dX0_heardAs_27 rfl (j := 5) rfl ?_
  refine X_callV C dX0_heardAs_28 pw_RX0_55 (b := 2) (as := [.int a2]) (S := []) sh_2 rfl rfl rfl (Nat.le_of_ble_eq_true rfl) (Ct_mono h ?_)
  rintro _ s7 ⟨v8, rfl, h⟩
  show X κ 31 [(6, .int v6), (5, .int v4), (4, .int v2), (0, .ref 2), (1, .int a1), (2, .int a2), (3, .int a3)] [.int v8] s7
  refine X_istore C dX0_heardAs_31 (by decide) (L' := [(7, .int v8), (6, .int v6), (5, .int v4), (4, .int v2), (0, .ref 2), (1, .int a1), (2, .int a2), (3, .int a3)]) rfl ?_
  refine X_iconst C (v := 1) (by decide) dX0_heardAs_33 ?_
  refine X_istore C dX0_heardAs_34 (by decide) (L' := [(8, .int 1), (7, .int v8), (6, .int v6), (5, .int v4), (4, .int v2), (0, .ref 2), (1, .int a1), (2, .int a2), (3, .int a3)]) rfl ?_
  refine X_loc [5, 6, 7, 8, 3, 2, 1, 0] rfl ?_
  exact h
